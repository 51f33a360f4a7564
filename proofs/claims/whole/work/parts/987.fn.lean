/-! A function. -/
section FN
variable {n : Nat} {K : Nat → Int32} {p : Nat → Nat} {V : Nat → Int64}
theorem fun_L1 (N : Nat) (σ : St) (x1 x2 : Int32) : tGrammar_function_L (N + 1) 1 σ x1 x2 = tGrammar_function_b1 (tGrammar_function_L N) σ x1 x2 := rfl
theorem kb_gadd {g c : St} {r q t fn s z : Int32} (hb : CBad g n r q c) (hf : fn = 0 ∨ fn = 1) : KB g n r q (tGlobals_add c t fn s z) := by
  obtain ⟨y, hy⟩ := cb_value (x := t) hb
  obtain ⟨k, k1, k2⟩ := hb.2.2.2.2.2.2.2.2
  unfold tGlobals_add
  rw [k2]
  by_cases h12 : (12 : Int32) ≤ nI k
  · rw [if_pos h12]; exact kbs hb
  have hk : k < 12 := by
    rcases Nat.lt_or_ge k 12 with e | e
    · exact e
    · exact absurd ((nI_leI (a := 12) (by omega) (by omega)).mpr e) h12
  rw [if_neg h12, b1S hy, gdT (inI hk (by omega)), gdT (inI hk (by omega)), gdT (inI hk (by omega)), gdT (inI hk (by omega)), nI_suc]
  exact kbs (cb_s10 (cb_sA (cb_sA (cb_sA (cb_sL hb (by omega)) (by omega)) (by omega)) (by omega)) (by omega))
theorem tot_new {g c : St} {r q t : Int32} (hb : CBad g n r q c) : tGlobals_isNew c t = some 0 ∨ tGlobals_isNew c t = some 1 := by
  obtain ⟨y, hy⟩ := cb_value (x := t) hb
  obtain ⟨k, k1, k2⟩ := hb.2.2.2.2.2.2.2.2
  obtain ⟨x, e1, -⟩ := gfind_c (x := y) k2 k1
  unfold tGlobals_isNew
  rw [b1S hy, b1S e1]
  by_cases h0 : (0 : Int32) ≤ x
  · rw [if_pos h0]; exact Or.inl rfl
  · rw [if_neg h0]; exact Or.inr rfl
theorem kb_makeFun {g c : St} {r q t s z : Int32} (hb : CBad g n r q c) : KB g n r q (tGlobals_makeFunction c t s z) := by
  have e1 : KB g n r q (tGlobals_makeFunction_L 2000 1 c t) := by
    obtain ⟨y, hy⟩ := cb_place (x := t) hb
    rw [mkF_L1 1999, b1S hy, b1_id]
    exact kb_blame hb
  unfold tGlobals_makeFunction
  split
  · exact e1
  rcases tot_new (t := t) hb with e | e
  · rw [b1S e, if_pos rfl]; exact e1
  · rw [b1S e, if_neg (by decide)]
    exact kb1 (kb_gadd hb (Or.inr rfl)) fun u hu => kbs (cb_sI hu (by omega))
theorem kb_funL {g c : St} {r q t z : Int32} {N : Nat} (hb : CBad g n r q c) (hN : 0 < N) : KB g n r q (tGrammar_function_L N 1 c t z) := by
  obtain ⟨N, rfl⟩ : ∃ j, N = j + 1 := ⟨N - 1, by omega⟩
  rw [fun_L1]
  unfold tGrammar_function_b1
  exact kb1 (kb_pass hb (by decide)) fun u hu => kb1 (kb_makeFun hu) fun u hu => kb1 (kb_open hu (by decide)) fun u hu => kb21 (kb_statements (d := 79) hu) fun _ u hu => kb1 (kb_closing hu (by decide)) fun u hu => kb1 (kb_add hu) fun u hu => kb1 (kb_add hu) fun u hu => kbs hu
theorem km_fp1 {h : St} {σ : St} {k N : Nat} {r q x1 x2 : Int32} (b : MBad h n k r q σ) (hN : 0 < N) : KM h n k r q (tModel_functionPart_L N 1 σ x1 x2) := by
  obtain ⟨N, rfl⟩ : ∃ j, N = j + 1 := ⟨N - 1, by omega⟩
  rw [fp_L1]
  unfold tModel_functionPart_b1
  rw [b.2.1, if_neg b.2.2.2.1]
  exact kms b
/-- the table with one name more keeps its shape -/
theorem gr_keep {g g' h : St} {tg : Nat → Nat} {q na nf : Nat} (R : GR n K V g h tg q na nf) (k : KeepG g g') : GR n K V g' h tg q na nf := by
  obtain ⟨⟨r1, r2, r3⟩, r4, r7, r8, r9, r10⟩ := R
  refine ⟨⟨k.2.1.trans r1, k.2.2.1.trans r2, k.2.2.2.1.trans r3⟩, r4, r7, r8, fun i hi => ?_, r10⟩
  rw [k.2.2.2.2.1, k.2.2.2.2.2.1]
  exact r9 i hi
end FN
theorem ce_congr {G G' : Nat → Nat → Int32} {l l' x t k : Nat} (h : ∀ i, l ≤ i → i < l' → G' 6 i = G 6 i ∧ G' 7 i = G 7 i ∧ G' 8 i = G 8 i) : CE G' l l' x t k ↔ CE G l l' x t k := by
  constructor
  · rintro ⟨i, a, b, c, d⟩
    obtain ⟨h1, h2, h3⟩ := h i a b
    rw [h1, h3] at c; rw [h2] at d
    exact ⟨i, a, b, c, d⟩
  · rintro ⟨i, a, b, c, d⟩
    obtain ⟨h1, h2, h3⟩ := h i a b
    rw [← h1, ← h3] at c; rw [← h2] at d
    exact ⟨i, a, b, c, d⟩
theorem ne_congr1 {K : Nat → Int32} {H H' : Nat → Nat → Int32} {l l' x t k : Nat} (h : ∀ i, l ≤ i → i < l' → H' 20 i = H 20 i ∧ H' 21 i = H 21 i ∧ H' 26 i = H 26 i) : NE K H' l l' x t k → NE K H l l' x t k := by
  rintro (⟨i, a, b, c, d⟩ | ⟨x2, i, a, b, c, d⟩)
  · obtain ⟨h1, h2, h3⟩ := h i a b
    rw [h1, h2] at c; rw [h3] at d
    exact Or.inl ⟨i, a, b, c, d⟩
  · obtain ⟨h1, h2, h3⟩ := h i a b
    rw [h1] at c; rw [h3] at d
    exact Or.inr ⟨x2, i, a, b, c, d⟩
theorem ne_congr {K : Nat → Int32} {H H' : Nat → Nat → Int32} {l l' x t k : Nat} (h : ∀ i, l ≤ i → i < l' → H' 20 i = H 20 i ∧ H' 21 i = H 21 i ∧ H' 26 i = H 26 i) : NE K H' l l' x t k ↔ NE K H l l' x t k :=
  ⟨ne_congr1 h, ne_congr1 fun i a b => ⟨(h i a b).1.symm, (h i a b).2.1.symm, (h i a b).2.2.symm⟩⟩
/-- what was known of a function stays known -/
theorem fni_keep {n : Nat} {K : Nat → Int32} {g h g' h' : St} {C M C' M' : Nat → Nat → Int32} {f f' l l' nd nd' k : Nat} (I : FnI n K g h C M f l nd k) (hf : f' ≤ f) (hl : l ≤ l') (hd : nd ≤ nd') (hC : ∀ i, i < l → C' 6 i = C 6 i ∧ C' 7 i = C 7 i ∧ C' 8 i = C 8 i) (hM : ∀ i, i < nd → NodeEq M M' i) (e4 : g'.2.2.1 4 k = g.2.2.1 4 k) (e5 : g'.2.2.1 5 k = g.2.2.1 5 k) (e29 : h'.2.2.1 29 k = h.2.2.1 29 k) (e30 : h'.2.2.1 30 k = h.2.2.1 30 k) : FnI n K g' h' C' M' f' l' nd' k := by
  obtain ⟨cnt, s, i1, i2, i3, i4, i4', i5⟩ := I
  refine ⟨cnt, s, e5.trans i1, e29.trans i2, i3, e4.trans i4, i4', fun hn => ?_⟩
  obtain ⟨j1, B, e, a, a', n1, n2, j2, j3, j4, j5, j6, j7, j8, j9, j10, j11, j12, j13⟩ := i5 (by omega)
  refine ⟨j1, B, e, a, a', n1, n2, e30.trans j2, sq_keep j3 (fun i _ h2 => hC i (by omega)) (fun i _ h2 => ?_) hf, j4, j5, j6, by omega, j8, j9, by omega, ?_, ?_, ?_⟩
  · obtain ⟨q1, q2, q3, q4, q5, q6, q7⟩ := hM i (by omega)
    exact ⟨q1, q2, q3, q4, q5, q7, fun _ => q6⟩
  · rw [(hC e (by omega)).1]; exact j11
  · rw [(hC e (by omega)).2.1]; exact j12
  · rw [(hC (e + 1) (by omega)).1]; exact j13
theorem ari_keep {n : Nat} {g h g' h' : St} {f f' k : Nat} (I : ArI n g h f k) (hf : f' ≤ f) (e4 : g'.2.2.1 4 k = g.2.2.1 4 k) (e5 : g'.2.2.1 5 k = g.2.2.1 5 k) (e29 : h'.2.2.1 29 k = h.2.2.1 29 k) (e30 : h'.2.2.1 30 k = h.2.2.1 30 k) : ArI n g' h' f' k := by
  obtain ⟨i, z, i1, i2, i3, i4⟩ := I
  exact ⟨i, z, i1, e4.trans i2, e30.trans i3, fun hn => by rw [e5, e29]; exact i4 (by omega)⟩
