/-! The class reads tokens: its small steps. -/
/-- the tokens as the class has them -/
def TkC (g : St) (n : Nat) (K : Nat → Int32) (p : Nat → Nat) (V : Nat → Int64) : Prop :=
  g.1 4 = nI n ∧ n ≤ 220 ∧ g.1 0 = nI (p n) ∧ (∀ i, i < n → g.2.2.1 1 i = K i ∧ g.2.2.1 2 i = nI (p i) ∧ g.2.2.2 0 i = V i) ∧ (∀ i, n ≤ i → K i = 0) ∧ (∀ i j, i < j → j ≤ n → p i < p j) ∧ p n ≤ 480
/-- a wrong name's place, and its token: f is past n where there is none -/
def wn (n : Nat) (p : Nat → Nat) (f : Nat) : Int32 := if f ≤ n then nI (p f) else -1
def sth (k : Int32) : Nat := if k = 37 then 6 else if k = 42 then 6 else if k = 43 then 5 else if k = 45 then 5 else if k = 47 then 6 else if k = 60 then 4 else if k = 62 then 4 else if k = 289 then 3 else if k = 294 then 2 else if k = 316 then 4 else if k = 317 then 3 else if k = 318 then 4 else if k = 380 then 1 else 0
theorem sth_c (σ : St) (k : Int32) : tGrammar_strengthOf σ k = some (nI (sth k)) := by
  unfold tGrammar_strengthOf sth
  by_cases h37 : k = 37
  · rw [if_pos h37, if_pos h37]; rfl
  rw [if_neg h37, if_neg h37]
  by_cases h42 : k = 42
  · rw [if_pos h42, if_pos h42]; rfl
  rw [if_neg h42, if_neg h42]
  by_cases h43 : k = 43
  · rw [if_pos h43, if_pos h43]; rfl
  rw [if_neg h43, if_neg h43]
  by_cases h45 : k = 45
  · rw [if_pos h45, if_pos h45]; rfl
  rw [if_neg h45, if_neg h45]
  by_cases h47 : k = 47
  · rw [if_pos h47, if_pos h47]; rfl
  rw [if_neg h47, if_neg h47]
  by_cases h60 : k = 60
  · rw [if_pos h60, if_pos h60]; rfl
  rw [if_neg h60, if_neg h60]
  by_cases h62 : k = 62
  · rw [if_pos h62, if_pos h62]; rfl
  rw [if_neg h62, if_neg h62]
  by_cases h289 : k = 289
  · rw [if_pos h289, if_pos h289]; rfl
  rw [if_neg h289, if_neg h289]
  by_cases h294 : k = 294
  · rw [if_pos h294, if_pos h294]; rfl
  rw [if_neg h294, if_neg h294]
  by_cases h316 : k = 316
  · rw [if_pos h316, if_pos h316]; rfl
  rw [if_neg h316, if_neg h316]
  by_cases h317 : k = 317
  · rw [if_pos h317, if_pos h317]; rfl
  rw [if_neg h317, if_neg h317]
  by_cases h318 : k = 318
  · rw [if_pos h318, if_pos h318]; rfl
  rw [if_neg h318, if_neg h318]
  by_cases h380 : k = 380
  · rw [if_pos h380, if_pos h380]; rfl
  rw [if_neg h380, if_neg h380]
  rfl
theorem sth_le (k : Int32) : sth k ≤ 6 := by
  unfold sth
  by_cases h37 : k = 37
  · rw [if_pos h37]; omega
  rw [if_neg h37]
  by_cases h42 : k = 42
  · rw [if_pos h42]; omega
  rw [if_neg h42]
  by_cases h43 : k = 43
  · rw [if_pos h43]; omega
  rw [if_neg h43]
  by_cases h45 : k = 45
  · rw [if_pos h45]; omega
  rw [if_neg h45]
  by_cases h47 : k = 47
  · rw [if_pos h47]; omega
  rw [if_neg h47]
  by_cases h60 : k = 60
  · rw [if_pos h60]; omega
  rw [if_neg h60]
  by_cases h62 : k = 62
  · rw [if_pos h62]; omega
  rw [if_neg h62]
  by_cases h289 : k = 289
  · rw [if_pos h289]; omega
  rw [if_neg h289]
  by_cases h294 : k = 294
  · rw [if_pos h294]; omega
  rw [if_neg h294]
  by_cases h316 : k = 316
  · rw [if_pos h316]; omega
  rw [if_neg h316]
  by_cases h317 : k = 317
  · rw [if_pos h317]; omega
  rw [if_neg h317]
  by_cases h318 : k = 318
  · rw [if_pos h318]; omega
  rw [if_neg h318]
  by_cases h380 : k = 380
  · rw [if_pos h380]; omega
  rw [if_neg h380]
  omega
/-- where a name stands last among the first k -/
def fnd (N : Nat → Int64) : Nat → Int64 → Int32
  | 0, _ => -1
  | k + 1, x => if N k = x then nI k else fnd N k x
theorem fnd_or (N : Nat → Int64) (x : Int64) : ∀ k, fnd N k x = -1 ∨ ∃ i, i < k ∧ fnd N k x = nI i
  | 0 => Or.inl rfl
  | k + 1 => by
    unfold fnd
    by_cases h : N k = x
    · rw [if_pos h]; exact Or.inr ⟨k, by omega, rfl⟩
    · rw [if_neg h]
      rcases fnd_or N x k with h1 | ⟨i, h1, h2⟩
      · exact Or.inl h1
      · exact Or.inr ⟨i, by omega, h2⟩
theorem fnd_congr {N M : Nat → Int64} {x : Int64} : ∀ {k : Nat}, (∀ i, i < k → N i = M i) → fnd N k x = fnd M k x
  | 0, _ => rfl
  | k + 1, h => by
    unfold fnd
    rw [h k (by omega), fnd_congr (k := k) (fun i hi => h i (by omega))]
theorem neg1_lt : (-1 : Int32) < 0 := by decide
theorem nI_nneg {k : Nat} (h : k < 2147483648) : ¬ nI k < 0 := by
  rw [ti_lt, ti_nI h]; show ¬ ((k : Int) < 0); omega
theorem nI_le0 {k : Nat} (h : k < 2147483648) : (0 : Int32) ≤ nI k := by
  rw [ti_le, ti_nI h]; show (0 : Int) ≤ (k : Int); omega
theorem nI_inj {a b : Nat} (ha : a < 2147483648) (hb : b < 2147483648) (h : nI a = nI b) : a = b := by
  have := congrArg Int32.toInt h
  rw [ti_nI ha, ti_nI hb] at this; omega
theorem nI_suc (k : Nat) : nI k + 1 = nI (k + 1) := nI_1 k
theorem find_L {σ : St} {x : Int64} : ∀ (k n : Nat), k ≤ 12 → k < n → tVariables_find_L n 1 σ (nI k - 1) x = some (fnd (σ.2.2.2 1) k x) := by
  intro k
  induction k with
  | zero =>
    intro n _ hn
    obtain ⟨n, rfl⟩ : ∃ j, n = j + 1 := ⟨n - 1, by omega⟩
    show tVariables_find_b1 _ σ (nI 0 - 1) x = _
    unfold tVariables_find_b1 fnd
    rw [if_pos (by decide)]
  | succ k ih =>
    intro n hk hn
    obtain ⟨n, rfl⟩ : ∃ j, n = j + 1 := ⟨n - 1, by omega⟩
    show tVariables_find_b1 _ σ (nI (k + 1) - 1) x = _
    rw [nI_pred]
    unfold tVariables_find_b1 fnd
    rw [if_neg (nI_nneg (by omega)), gdT (inI (by omega) (by omega)), tc_nI (by omega)]
    by_cases h : σ.2.2.2 1 k = x
    · rw [if_pos (lg_eq.mpr h), if_pos h]
    · rw [if_neg (fun e => h (lg_eq.mp e)), if_neg h]
      rw [show nI k + -1 = nI k - 1 from (Int32.sub_eq_add_neg (nI k) 1).symm]
      exact ih n (by omega) (by omega)
theorem find_c {σ : St} {x : Int64} {v : Nat} (h : σ.1 8 = nI v) (hv : v ≤ 12) : tVariables_find σ x = some (fnd (σ.2.2.2 1) v x) := by
  unfold tVariables_find
  rw [h]
  exact find_L v 2000 hv (by omega)
section CW
variable {g : St} {n : Nat} {K : Nat → Int32} {p : Nat → Nat} {V : Nat → Int64} {r q w : Int32} {a o l f t : Nat} {co op sz : Nat → Int32}
theorem kindOf_c {σ : St} {a : Nat} (h4 : σ.1 4 = nI n) (h : TkC g n K p V) (hr : σ.2.2.1 1 = g.2.2.1 1) (ha : a < 1000) : tTokens_kindOf σ (nI a) = some (K a) := by
  obtain ⟨k1, k2, k3, k4, k5, k6, k7⟩ := h
  unfold tTokens_kindOf
  rw [if_neg (nI_nneg (by omega)), h4]
  by_cases hn : n ≤ a
  · rw [if_pos ((nI_leI (by omega) (by omega)).mpr hn), k5 a hn]
  · rw [if_neg (fun e => hn ((nI_leI (by omega) (by omega)).mp e)), gdT (inI (by omega) (by omega)), tc_nI (by omega), hr, (k4 a (by omega)).1]
theorem placeOf_c {σ : St} {a : Nat} (h4 : σ.1 4 = nI n) (h0 : σ.1 0 = g.1 0) (h : TkC g n K p V) (hr : σ.2.2.1 2 = g.2.2.1 2) (ha : a < 1000) : tTokens_placeOf σ (nI a) = some (nI (p (min a n))) := by
  obtain ⟨k1, k2, k3, k4, k5, k6, k7⟩ := h
  unfold tTokens_placeOf
  rw [if_neg (nI_nneg (by omega)), h4]
  by_cases hn : n ≤ a
  · rw [if_pos ((nI_leI (by omega) (by omega)).mpr hn), h0, k3, show min a n = n by omega]
  · rw [if_neg (fun e => hn ((nI_leI (by omega) (by omega)).mp e)), gdT (inI (by omega) (by omega)), tc_nI (by omega), hr, (k4 a (by omega)).2.1, show min a n = a by omega]
theorem valueOf_c {σ : St} {a : Nat} (h4 : σ.1 4 = nI n) (h : TkC g n K p V) (hr : σ.2.2.2 0 = g.2.2.2 0) (ha : a < n) : tTokens_valueOf σ (nI a) = some (V a) := by
  obtain ⟨k1, k2, k3, k4, k5, k6, k7⟩ := h
  unfold tTokens_valueOf
  rw [if_neg (nI_nneg (by omega)), h4]
  rw [if_neg (fun e => absurd ((nI_leI (by omega) (by omega)).mp e) (by omega)), gdT (inI (by omega) (by omega)), tc_nI (by omega), hr, (k4 a (by omega)).2.2]
theorem w_kind (T : TkC g n K p V) (ha : a ≤ n) : tCursor_kind (mkW g 0 q w (nI a) (nI o) (nI l) co op sz) = some (K a) := by
  unfold tCursor_kind tRefusal_isNone
  rw [mkW_i1, if_pos rfl, b1S rfl, if_neg (by decide), b1_id, mkW_i6]
  exact kindOf_c (σ := mkW g 0 q w (nI a) (nI o) (nI l) co op sz) (g := g) T.1 T rfl (by have := T.2.1; omega)
theorem w_next (T : TkC g n K p V) (ha : a ≤ n) : tCursor_nextKind (mkW g 0 q w (nI a) (nI o) (nI l) co op sz) = some (K (a + 1)) := by
  unfold tCursor_nextKind tRefusal_isNone
  rw [mkW_i1, if_pos rfl, b1S rfl, if_neg (by decide), b1_id, mkW_i6, nI_suc]
  exact kindOf_c (σ := mkW g 0 q w (nI a) (nI o) (nI l) co op sz) (g := g) T.1 T rfl (by have := T.2.1; omega)
theorem w_place (T : TkC g n K p V) (ha : a ≤ n) : tTokens_placeOf (mkW g r q w (nI t) (nI o) (nI l) co op sz) (nI a) = some (nI (p a)) := by
  rw [placeOf_c (σ := mkW g r q w (nI t) (nI o) (nI l) co op sz) (g := g) T.1 rfl T rfl (by have := T.2.1; omega), show min a n = a by omega]
theorem w_value (T : TkC g n K p V) (ha : a < n) : tTokens_valueOf (mkW g r q w (nI t) (nI o) (nI l) co op sz) (nI a) = some (V a) := valueOf_c (σ := mkW g r q w (nI t) (nI o) (nI l) co op sz) (g := g) T.1 T rfl ha
theorem kz_lt (T : TkC g n K p V) {k : Int32} (hk : K a = k) (h0 : ¬ k = 0) : a < n := by
  rcases Nat.lt_or_ge a n with h | h
  · exact h
  · exact absurd (hk.symm.trans (T.2.2.2.2.1 a h)) h0
theorem w_pass {k : Int32} (T : TkC g n K p V) (ha : a ≤ n) (hk : K a = k) : tCursor_pass (mkW g 0 q w (nI a) (nI o) (nI l) co op sz) k = some (mkW g 0 q w (nI (a + 1)) (nI o) (nI l) co op sz) := by
  unfold tCursor_pass
  rw [b1S (w_kind T ha), if_pos hk, mkW_i6, nI_suc, mkW_s6]
theorem w_passN {k : Int32} (T : TkC g n K p V) (ha : a ≤ n) (hk : ¬ K a = k) : tCursor_pass (mkW g 0 q w (nI a) (nI o) (nI l) co op sz) k = some (mkW g 3 (nI (p a)) w (nI a) (nI o) (nI l) co op sz) := by
  unfold tCursor_pass tRefusal_refuse
  rw [b1S (w_kind T ha), if_neg hk, mkW_i6, b1S (w_place T ha), mkW_i1, if_pos rfl, b1_id, mkW_s1, mkW_s2]
theorem w_open {k : Int32} (T : TkC g n K p V) (ha : a ≤ n) (hk : K a = k) (ho : o < 12) : tCursor_passOpening (mkW g 0 q w (nI a) (nI o) (nI l) co op sz) k = some (mkW g 0 q w (nI (a + 1)) (nI (o + 1)) (nI l) co op sz) := by
  unfold tCursor_passOpening
  rw [b1S (w_kind T ha), if_pos hk, mkW_i7, if_pos (show nI o < 12 from (nI_ltI (b := 12) (by omega) (by omega)).mpr ho), mkW_i6, nI_suc, nI_suc, mkW_s6, mkW_s7]
theorem w_open12 {k : Int32} (T : TkC g n K p V) (ha : a ≤ n) (hk : K a = k) : tCursor_passOpening (mkW g 0 q w (nI a) (nI 12) (nI l) co op sz) k = some (mkW g 2 (nI (p a)) w (nI a) (nI 12) (nI l) co op sz) := by
  unfold tCursor_passOpening tRefusal_refuse
  rw [b1S (w_kind T ha), if_pos hk, mkW_i7, if_neg (show ¬ nI 12 < 12 by decide), mkW_i6, b1S (w_place T ha), mkW_i1, if_pos rfl, b1_id, mkW_s1, mkW_s2]
theorem w_openN {k : Int32} (T : TkC g n K p V) (ha : a ≤ n) (hk : ¬ K a = k) : tCursor_passOpening (mkW g 0 q w (nI a) (nI o) (nI l) co op sz) k = some (mkW g 3 (nI (p a)) w (nI a) (nI o) (nI l) co op sz) := by
  unfold tCursor_passOpening tRefusal_refuse
  rw [b1S (w_kind T ha), if_neg hk, mkW_i6, b1S (w_place T ha), mkW_i1, if_pos rfl, b1_id, mkW_s1, mkW_s2]
theorem w_close {a l : Int32} : tCursor_close (mkW g r q w a (nI (o + 1)) l co op sz) = some (mkW g r q w a (nI o) l co op sz) := by
  unfold tCursor_close
  rw [mkW_i7, mkW_s7, nI_pred]
theorem w_closing {k : Int32} (T : TkC g n K p V) (ha : a ≤ n) (hk : K a = k) : tCursor_passClosing (mkW g 0 q w (nI a) (nI (o + 1)) (nI l) co op sz) k = some (mkW g 0 q w (nI (a + 1)) (nI o) (nI l) co op sz) := by
  unfold tCursor_passClosing
  rw [b1S (w_pass T ha hk), mkW_i7, nI_pred, mkW_s7]
theorem w_closingN {k : Int32} (T : TkC g n K p V) (ha : a ≤ n) (hk : ¬ K a = k) : tCursor_passClosing (mkW g 0 q w (nI a) (nI (o + 1)) (nI l) co op sz) k = some (mkW g 3 (nI (p a)) w (nI a) (nI o) (nI l) co op sz) := by
  unfold tCursor_passClosing
  rw [b1S (w_passN T ha hk), mkW_i7, nI_pred, mkW_s7]
theorem w_add {a o x y z : Int32} (h : l < 440) : tProgram_add (mkW g r q w a o (nI l) co op sz) x y z = some (mkW g r q w a o (nI (l + 1)) (upd co l x) (upd op l y) (upd sz l z)) := by
  unfold tProgram_add
  simp only [mkW_i13, mkW_r6, mkW_r7, mkW_r8, nI_suc, mkW_t6, mkW_t7, mkW_t8, mkW_s13]
  rw [if_neg (show ¬ (440 : Int32) ≤ nI l from fun e => absurd ((nI_leI (a := 440) (by omega) (by omega)).mp e) (by omega)), gdT (inI h (by omega)), gdT (inI h (by omega)), gdT (inI h (by omega)), tc_nI (by omega)]
theorem w_addJump {a o x : Int32} (h : l < 440) : tProgram_addJump (mkW g r q w a o (nI l) co op sz) x = some (nI l, mkW g r q w a o (nI (l + 1)) (upd co l x) (upd op l 0) (upd sz l 0)) := by
  unfold tProgram_addJump
  rw [b1S (w_add h), mkW_i13, nI_pred]
theorem w_land {a o : Int32} {j : Nat} (h : j < l) (hl : l ≤ 440) : tProgram_land (mkW g r q w a o (nI l) co op sz) (nI j) = some (mkW g r q w a o (nI l) co (upd op j (nI l)) sz) := by
  unfold tProgram_land
  rw [if_neg (nI_nneg (by omega)), mkW_i13, if_neg (fun e => absurd ((nI_leI (by omega) (by omega)).mp e) (by omega)), gdT (inI (by omega) (by omega)), tc_nI (by omega), mkW_r7, mkW_t7]
theorem w_blame {a o l : Int32} (T : TkC g n K p V) (ht : t ≤ n) : tRefusal_blameName (mkW g r q (wn n p f) a o l co op sz) (nI (p t)) = some (mkW g r q (wn n p (min f t)) a o l co op sz) := by
  obtain ⟨k1, k2, k3, k4, k5, k6, k7⟩ := T
  have pb : ∀ i, i ≤ n → p i ≤ 480 := fun i hi => by
    rcases Nat.lt_or_ge i n with h | h
    · have := k6 i n h (Nat.le_refl _); omega
    · have : i = n := by omega
      subst this; exact k7
  have h1 := pb t ht
  unfold tRefusal_blameName
  rw [mkW_i3, mkW_s3]
  by_cases hf : f ≤ n
  · have h2 := pb f hf
    rw [wn, if_pos hf, if_neg (nI_nneg (by omega))]
    by_cases hft : f ≤ t
    · have h3 : p f ≤ p t := by
        rcases Nat.lt_or_ge f t with h | h
        · exact Nat.le_of_lt (k6 f t h ht)
        · have : f = t := by omega
          subst this; exact Nat.le_refl _
      rw [if_pos ((nI_leI (by omega) (by omega)).mpr h3), show min f t = f by omega, wn, if_pos hf]
    · have h3 := k6 t f (by omega) hf
      rw [if_neg (fun e => absurd ((nI_leI (by omega) (by omega)).mp e) (by omega)), show min f t = t by omega, wn, if_pos ht]
  · rw [show wn n p f = -1 from if_neg hf, if_pos neg1_lt, show min f t = t by omega, wn, if_pos ht]
theorem w_find {v : Nat} {x : Int64} {a o l : Int32} (h : g.1 8 = nI v) (hv : v ≤ 12) : tVariables_find (mkW g r q w a o l co op sz) x = some (fnd (g.2.2.2 1) v x) := find_c (σ := mkW g r q w a o l co op sz) h hv
theorem fnd_neg {N : Nat → Int64} {x : Int64} {k : Nat} (hk : k ≤ 1000) : fnd N k x < 0 ↔ fnd N k x = -1 := by
  rcases fnd_or N x k with h | ⟨i, h1, h2⟩
  · rw [h]; exact ⟨fun _ => rfl, fun _ => neg1_lt⟩
  · rw [h2]
    exact ⟨fun e => absurd e (nI_nneg (by omega)), fun e => by rw [e]; exact neg1_lt⟩
theorem w_use {v : Nat} (T : TkC g n K p V) (h : g.1 8 = nI v) (hv : v ≤ 12) (ht : t < n) : tVariables_use (mkW g r q (wn n p f) (nI a) (nI o) (nI l) co op sz) (nI t) = some (if fnd (g.2.2.2 1) v (V t) = -1 then 0 else fnd (g.2.2.2 1) v (V t), mkW g r q (wn n p (if fnd (g.2.2.2 1) v (V t) = -1 then min f t else f)) (nI a) (nI o) (nI l) co op sz) := by
  unfold tVariables_use
  rw [b1S (w_value T ht), b1S (w_find h hv)]
  by_cases hx : fnd (g.2.2.2 1) v (V t) = -1
  · rw [if_neg (show ¬ (0 : Int32) ≤ fnd (g.2.2.2 1) v (V t) by rw [hx]; decide), b1S (w_place T (by omega)), b1S (w_blame T (by omega)), if_pos hx, if_pos hx]
  · rw [if_pos (show (0 : Int32) ≤ fnd (g.2.2.2 1) v (V t) from ?_), if_neg hx, if_neg hx]
    rcases fnd_or (g.2.2.2 1) (V t) v with h1 | ⟨i, h1, h2⟩
    · exact absurd h1 hx
    · rw [h2]; exact nI_le0 (by omega)
theorem w_hide {v : Nat} (T : TkC g n K p V) (h : g.1 8 = nI v) (hv : v ≤ 12) (ht : t < n) : tVariables_mustNotHide (mkW g r q (wn n p f) (nI a) (nI o) (nI l) co op sz) (nI t) = some (mkW g r q (wn n p (if fnd (g.2.2.2 1) v (V t) = -1 then f else min f t)) (nI a) (nI o) (nI l) co op sz) := by
  unfold tVariables_mustNotHide
  rw [b1S (w_value T ht), b1S (w_find h hv)]
  by_cases hx : fnd (g.2.2.2 1) v (V t) = -1
  · rw [if_pos (show fnd (g.2.2.2 1) v (V t) < 0 by rw [hx]; exact neg1_lt), if_pos hx]
  · rw [if_neg (fun e => hx ((fnd_neg (by omega)).mp e)), b1S (w_place T (by omega)), b1_id, w_blame T (by omega), if_neg hx]
end CW
