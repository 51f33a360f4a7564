/-! What is known of the tokens: values of names, words, signs. -/
def nv (tx : Nat → Nat) (i : Nat) : Nat → Nat
  | 0 => 0
  | k + 1 => nv tx i k * 256 + tx (i + k)
theorem nv_succ {tx : Nat → Nat} {i k : Nat} : nv tx i (k + 1) = nv tx i k * 256 + tx (i + k) := rfl
theorem ch_bv : ∀ c : Nat, c < 128 → (nI c).toInt64.toBitVec.toNat = c := by decide +kernel
theorem sh8 (x : Int64) : (x <<< ((8 : Int32).toInt64 &&& 63)).toBitVec = x.toBitVec <<< 8 := rfl
theorem pv_nat {tx : Nat → Nat} {i : Nat} : ∀ k, k ≤ 8 → (∀ m, m < k → tx (i + m) < 128) → (pv tx i k).toBitVec.toNat = nv tx i k ∧ nv tx i k * 2 < 256 ^ k := by
  intro k
  induction k with
  | zero => intro _ _; exact ⟨rfl, by show 0 * 2 < 256 ^ 0; decide⟩
  | succ k ih =>
    intro hk hc
    obtain ⟨a1, a2⟩ := ih (by omega) (fun m hm => hc m (by omega))
    have c1 := hc k (by omega)
    have hp : 256 ^ k ≤ 256 ^ 7 := Nat.pow_le_pow_right (by decide) (by omega)
    have hp7 : 256 ^ 7 = 72057594037927936 := by decide
    constructor
    · rw [pv_succ, nv_succ, Int64.toBitVec_or, BitVec.toNat_or, sh8, BitVec.toNat_shiftLeft, a1, ch_bv _ c1, Nat.shiftLeft_eq, Nat.mod_eq_of_lt (by omega)]
      have := Nat.shiftLeft_add_eq_or_of_lt (i := 8) (b := tx (i + k)) (by omega) (nv tx i k)
      rw [Nat.shiftLeft_eq] at this
      rw [← this]
    · rw [nv_succ, Nat.pow_succ]
      omega
theorem nv_inj {tx ty : Nat → Nat} {i j : Nat} : ∀ a b, (∀ m, m < a → 1 ≤ tx (i + m) ∧ tx (i + m) < 128) → (∀ m, m < b → 1 ≤ ty (j + m) ∧ ty (j + m) < 128) → nv tx i a = nv ty j b → a = b ∧ ∀ m, m < a → tx (i + m) = ty (j + m) := by
  intro a
  induction a with
  | zero =>
    intro b _ hb e
    cases b with
    | zero => exact ⟨rfl, fun m hm => absurd hm (by omega)⟩
    | succ b =>
      rw [nv_succ] at e
      have := hb b (by omega)
      have e0 : nv tx i 0 = 0 := rfl
      omega
  | succ a ih =>
    intro b ha hb e
    cases b with
    | zero =>
      rw [nv_succ] at e
      have := ha a (by omega)
      have e0 : nv ty j 0 = 0 := rfl
      omega
    | succ b =>
      rw [nv_succ, nv_succ] at e
      have h1 := ha a (by omega)
      have h2 := hb b (by omega)
      obtain ⟨r1, r2⟩ := ih b (fun m hm => ha m (by omega)) (fun m hm => hb m (by omega)) (by omega)
      refine ⟨by omega, fun m hm => ?_⟩
      by_cases e2 : m = a
      · rw [e2]
        have : b = a := r1.symm
        rw [this] at e
        have e3 : nv tx i a = nv ty j a := by rw [this] at h2; omega
        omega
      · exact r2 m (by omega)
theorem nv_same {tx ty : Nat → Nat} {i j : Nat} : ∀ a, (∀ m, m < a → tx (i + m) = ty (j + m)) → nv tx i a = nv ty j a := by
  intro a
  induction a with
  | zero => intro _; rfl
  | succ a ih => intro h; rw [nv_succ, nv_succ, ih (fun m hm => h m (by omega)), h a (by omega)]
theorem i64_eq {x y : Int64} (h : x.toBitVec.toNat = y.toBitVec.toNat) : x = y := Int64.toBitVec.inj (BitVec.eq_of_toNat_eq h)
theorem pv_iff {tx ty : Nat → Nat} {i j a b : Nat} (ha : a ≤ 8) (hb : b ≤ 8) (h1 : ∀ m, m < a → 1 ≤ tx (i + m) ∧ tx (i + m) < 128) (h2 : ∀ m, m < b → 1 ≤ ty (j + m) ∧ ty (j + m) < 128) : pv tx i a = pv ty j b ↔ (a = b ∧ ∀ m, m < a → tx (i + m) = ty (j + m)) := by
  have e1 := (pv_nat a ha (fun m hm => (h1 m hm).2)).1
  have e2 := (pv_nat b hb (fun m hm => (h2 m hm).2)).1
  constructor
  · intro e
    rw [e, e2] at e1
    exact nv_inj a b h1 h2 e1.symm
  · rintro ⟨rfl, e⟩
    exact i64_eq (by rw [e1, e2]; exact nv_same a e)
section TM
variable {σ : St} {tx : Nat → Nat} {L : Nat}
theorem al_L1 (N : Nat) (x1 x2 x3 x4 : Int32) : tModel_areAlike_L (N + 1) 1 σ x1 x2 x3 x4 = tModel_areAlike_b1 (tModel_areAlike_L N) σ x1 x2 x3 x4 := rfl
theorem al_L2 (N : Nat) (x1 x2 x3 x4 : Int32) : tModel_areAlike_L (N + 1) 2 σ x1 x2 x3 x4 = tModel_areAlike_b2 (tModel_areAlike_L N) σ x1 x2 x3 x4 := rfl
theorem al_L3 (N : Nat) (x1 x2 x3 x4 : Int32) : tModel_areAlike_L (N + 1) 3 σ x1 x2 x3 x4 = tModel_areAlike_b3 (tModel_areAlike_L N) σ x1 x2 x3 x4 := rfl
theorem al_go {N k : Nat} {x1 x2 x4 : Int32} : tModel_areAlike_L (N + 1) 3 σ x1 x2 (nI k) x4 = tModel_areAlike_L N 2 σ x1 x2 x4 (nI (k + 1)) := by
  rw [al_L3]
  unfold tModel_areAlike_b3
  rw [nI_suc]
theorem al_loop {t u i j s : Nat} (TM : TxM σ tx L) (ht : t < 500) (hu : u < 500) (a17 : σ.2.2.1 17 t = nI i) (b17 : σ.2.2.1 17 u = nI j) (a18 : σ.2.2.1 18 t = nI s) (hi : i + s ≤ L) (hj : j + s ≤ L) :
    ∀ (r k N : Nat), k + r = s → 2 * r + 1 < N → ((∀ m, k ≤ m → m < s → tx (i + m) = tx (j + m)) ∧ tModel_areAlike_L N 2 σ (nI t) (nI u) 1 (nI k) = some 1) ∨ (¬ (∀ m, k ≤ m → m < s → tx (i + m) = tx (j + m)) ∧ tModel_areAlike_L N 2 σ (nI t) (nI u) 1 (nI k) = some 0) := by
  have hL := TM.2.1
  intro r
  induction r with
  | zero =>
    intro k N hk hN
    obtain ⟨N, rfl⟩ : ∃ z, N = z + 1 := ⟨N - 1, by omega⟩
    left
    refine ⟨fun m h1 h2 => by omega, ?_⟩
    rw [al_L2]
    unfold tModel_areAlike_b2
    rw [gdT (inI ht (by omega)), tc_nI (by omega), a18, if_pos ((nI_leI (by omega) (by omega)).mpr (by omega)), gdT (by decide)]
  | succ r ih =>
    intro k N hk hN
    obtain ⟨N, rfl⟩ : ∃ z, N = z + 2 := ⟨N - 2, by omega⟩
    have h1 : tx (i + k) < 128 := by have := (TM.2.2 (i + k) (by omega)).2; unfold okc at this; omega
    have h2 : tx (j + k) < 128 := by have := (TM.2.2 (j + k) (by omega)).2; unfold okc at this; omega
    rw [al_L2]
    unfold tModel_areAlike_b2
    rw [gdT (inI ht (by omega)), tc_nI (by omega), tc_nI (by omega), a18, if_neg (show ¬ nI s ≤ nI k from fun e => absurd ((nI_leI (by omega) (by omega)).mp e) (by omega)), if_neg (by decide), gdT (inI ht (by omega)), a17, b17, nI_add, nI_add, gdT (inI (show i + k < 480 by omega) (by omega)), gdT (inI hu (by omega)), gdT (inI (show j + k < 480 by omega) (by omega)), tc_nI (by omega), tc_nI (by omega), (TM.2.2 (i + k) (by omega)).1, (TM.2.2 (j + k) (by omega)).1, al_go, al_go]
    by_cases he : tx (i + k) = tx (j + k)
    · rw [if_pos (by rw [he])]
      rcases ih (k + 1) N (by omega) (by omega) with ⟨c1, c2⟩ | ⟨c1, c2⟩
      · left
        refine ⟨fun m m1 m2 => ?_, c2⟩
        by_cases e : m = k
        · rw [e]; exact he
        · exact c1 m (by omega) m2
      · exact Or.inr ⟨fun e => c1 fun m m1 m2 => e m (by omega) m2, c2⟩
    · rw [if_neg (fun e => he (nI_inj (by omega) (by omega) e))]
      right
      refine ⟨fun e => he (e k (Nat.le_refl _) (by omega)), ?_⟩
      obtain ⟨N, rfl⟩ : ∃ z, N = z + 1 := ⟨N - 1, by omega⟩
      rw [al_L2]
      unfold tModel_areAlike_b2
      rw [gdT (inI ht (by omega)), if_pos (show (0 : Int32) = 0 from rfl), gdT (by decide)]
      split <;> rfl
theorem alike_c {t u i j s s' : Nat} (TM : TxM σ tx L) (ht : t < 500) (hu : u < 500) (a17 : σ.2.2.1 17 t = nI i) (b17 : σ.2.2.1 17 u = nI j) (a18 : σ.2.2.1 18 t = nI s) (b18 : σ.2.2.1 18 u = nI s') (hi : i + s ≤ L) (hj : j + s' ≤ L) :
    ((s = s' ∧ ∀ m, m < s → tx (i + m) = tx (j + m)) ∧ tModel_areAlike σ (nI t) (nI u) = some 1) ∨ (¬ (s = s' ∧ ∀ m, m < s → tx (i + m) = tx (j + m)) ∧ tModel_areAlike σ (nI t) (nI u) = some 0) := by
  have hL := TM.2.1
  unfold tModel_areAlike
  rw [gdT (inI ht (by omega)), gdT (inI hu (by omega)), tc_nI (by omega), tc_nI (by omega), a18, b18]
  by_cases hs : s = s'
  · rw [if_pos (by rw [hs]), al_L1 1999]
    unfold tModel_areAlike_b1
    rcases al_loop (j := j) TM ht hu a17 b17 a18 hi (by omega) s 0 1999 (by omega) (by omega) with ⟨c1, c2⟩ | ⟨c1, c2⟩
    · exact Or.inl ⟨⟨hs, fun m hm => c1 m (by omega) hm⟩, c2⟩
    · exact Or.inr ⟨fun e => c1 fun m _ hm => e.2 m hm, c2⟩
  · rw [if_neg (fun e => hs (nI_inj (by omega) (by omega) e)), al_L1 1999]
    unfold tModel_areAlike_b1
    rw [al_L2 1998]
    unfold tModel_areAlike_b2
    refine Or.inr ⟨fun e => hs e.1, ?_⟩
    rw [gdT (inI ht (by omega)), if_pos (show (0 : Int32) = 0 from rfl), gdT (by decide)]
    split <;> rfl
theorem spn_len {i s : Nat} {w w' : List Nat} (h1 : SpN tx i s w) (h2 : SpN tx i s w') : w = w' := by
  apply List.ext_getElem (h1.1.symm.trans h2.1)
  intro k k1 k2
  have e1 := h1.2 k (by have := h1.1; omega)
  have e2 := h2.2 k (by have := h1.1; omega)
  rw [e1] at e2
  simpa [List.getD, k1, k2] using e2
theorem spn_first {i s : Nat} {w : List Nat} (h : SpN tx i s w) (hs : 1 ≤ s) : tx i = w.getD 0 0 := h.2 0 (by omega)
end TM
/-- the words the model looks for -/
def wl (c : Nat) : List Nat := if c = 3 then w_int else if c = 4 then w_if else if c = 5 then w_else else if c = 6 then w_while else if c = 7 then w_return else if c = 8 then w_read else if c = 9 then w_print else [c]
theorem wd_all {w : Int64} {c : Int32} (h : wd w c) : ∃ d : Nat, c = nI d ∧ d < 128 ∧ ((3 ≤ d ∧ d ≤ 9) ∨ (33 ≤ d ∧ isA d = false ∧ isD d = false)) ∧ (∀ k, k < 8 → byt w k = nI ((wl d).getD k 0) ∧ (wl d).getD k 0 < 1000) ∧ (wl d).length ≤ 8 ∧ (∀ k, k < (wl d).length → (wl d).getD k 0 ≠ 0) ∧ (wl d).length ≠ 0 := by
  unfold wd wdL at h
  simp only [List.mem_cons, Prod.mk.injEq, List.not_mem_nil, or_false] at h
  rcases h with ⟨rfl, rfl⟩ | ⟨rfl, rfl⟩ | ⟨rfl, rfl⟩ | ⟨rfl, rfl⟩ | ⟨rfl, rfl⟩ | ⟨rfl, rfl⟩ | ⟨rfl, rfl⟩ | ⟨rfl, rfl⟩ | ⟨rfl, rfl⟩ | ⟨rfl, rfl⟩ | ⟨rfl, rfl⟩ | ⟨rfl, rfl⟩ | ⟨rfl, rfl⟩ | ⟨rfl, rfl⟩ | ⟨rfl, rfl⟩ | ⟨rfl, rfl⟩ | ⟨rfl, rfl⟩ | ⟨rfl, rfl⟩ | ⟨rfl, rfl⟩
  · exact ⟨3, rfl, by decide, Or.inl (by decide), by decide +kernel, by decide, by decide, by decide⟩
  · exact ⟨4, rfl, by decide, Or.inl (by decide), by decide +kernel, by decide, by decide, by decide⟩
  · exact ⟨5, rfl, by decide, Or.inl (by decide), by decide +kernel, by decide, by decide, by decide⟩
  · exact ⟨6, rfl, by decide, Or.inl (by decide), by decide +kernel, by decide, by decide, by decide⟩
  · exact ⟨7, rfl, by decide, Or.inl (by decide), by decide +kernel, by decide, by decide, by decide⟩
  · exact ⟨8, rfl, by decide, Or.inl (by decide), by decide +kernel, by decide, by decide, by decide⟩
  · exact ⟨9, rfl, by decide, Or.inl (by decide), by decide +kernel, by decide, by decide, by decide⟩
  · exact ⟨40, rfl, by decide, Or.inr (by decide), by decide +kernel, by decide, by decide, by decide⟩
  · exact ⟨41, rfl, by decide, Or.inr (by decide), by decide +kernel, by decide, by decide, by decide⟩
  · exact ⟨91, rfl, by decide, Or.inr (by decide), by decide +kernel, by decide, by decide, by decide⟩
  · exact ⟨93, rfl, by decide, Or.inr (by decide), by decide +kernel, by decide, by decide, by decide⟩
  · exact ⟨123, rfl, by decide, Or.inr (by decide), by decide +kernel, by decide, by decide, by decide⟩
  · exact ⟨125, rfl, by decide, Or.inr (by decide), by decide +kernel, by decide, by decide, by decide⟩
  · exact ⟨44, rfl, by decide, Or.inr (by decide), by decide +kernel, by decide, by decide, by decide⟩
  · exact ⟨59, rfl, by decide, Or.inr (by decide), by decide +kernel, by decide, by decide, by decide⟩
  · exact ⟨61, rfl, by decide, Or.inr (by decide), by decide +kernel, by decide, by decide, by decide⟩
  · exact ⟨45, rfl, by decide, Or.inr (by decide), by decide +kernel, by decide, by decide, by decide⟩
  · exact ⟨33, rfl, by decide, Or.inr (by decide), by decide +kernel, by decide, by decide, by decide⟩
  · exact ⟨126, rfl, by decide, Or.inr (by decide), by decide +kernel, by decide, by decide, by decide⟩
