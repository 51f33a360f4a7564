/-! type: both sides ask the same of the characters, and put them behind the same place. -/
def okB (c : Int32) : Bool := decide (c = 10) || (decide (32 ≤ c) && decide (c ≤ 126))
def okAll (y : Int64) : Nat → Nat → Bool
  | 0, _ => true
  | m + 1, k => okB (byt y k) && okAll y m (k + 1)
theorem okAll_at {y : Int64} : ∀ (m k : Nat), okAll y m k = true → ∀ j, j < m → okB (byt y (k + j)) = true := by
  intro m
  induction m with
  | zero => intro k _ j hj; omega
  | succ m ih =>
    intro k h j hj
    simp only [okAll, Bool.and_eq_true] at h
    cases j with
    | zero => exact h.1
    | succ j =>
      have := ih (k + 1) h.2 j (by omega)
      rw [show k + (j + 1) = k + 1 + j by omega]; exact this
theorem areC {σ : St} {y : Int64} : ∀ (m k n : Nat), k + m ≤ 8 → 2 * m < n → tText_areCharacters_L n 1 σ (nI (k + m)) (nI k) y = some (if okAll y m k then 1 else 0) := by
  intro m
  induction m with
  | zero =>
    intro k n hk hn
    obtain ⟨n, rfl⟩ : ∃ n', n = n' + 1 := ⟨n - 1, by omega⟩
    show tText_areCharacters_b1 _ σ (nI k) (nI k) y = _
    unfold tText_areCharacters_b1
    rw [if_pos (nI_le (Nat.le_refl _) (by omega))]; rfl
  | succ m ih =>
    intro k n hk hn
    obtain ⟨n, rfl⟩ : ∃ n', n = n' + 2 := ⟨n - 2, by omega⟩
    show tText_areCharacters_b1 (tText_areCharacters_L (n + 1)) σ (nI (k + (m + 1))) (nI k) y = _
    have h2 : tText_areCharacters_L (n + 1) 2 σ (nI (k + (m + 1))) (nI k) y = some (if okAll y m (k + 1) then 1 else 0) := by
      show tText_areCharacters_L n 1 σ (nI (k + (m + 1))) (nI k + 1) y = _
      rw [nI_1, show k + (m + 1) = k + 1 + m by omega]
      exact ih (k + 1) n (by omega) (by omega)
    unfold tText_areCharacters_b1
    rw [if_neg (nI_ge (by omega) (by omega)), b1S (byt_c σ y (by omega)), h2]
    simp only [okAll, okB]
    by_cases c1 : byt y k = 10
    · rw [if_pos c1]; simp [c1]
    · rw [if_neg c1]
      by_cases c2 : byt y k < 32
      · rw [if_pos c2]
        have : ¬ 32 ≤ byt y k := by rw [ti_le]; rw [ti_lt] at c2; omega
        simp [c1, this]
      · rw [if_neg c2]
        have h3 : 32 ≤ byt y k := by rw [ti_le]; rw [ti_lt] at c2; omega
        by_cases c3 : byt y k ≤ 126
        · rw [if_pos c3]; simp [h3, c3]
        · rw [if_neg c3]; simp [c1, c3]
theorem typ1 {σ : St} {y : Int64} : ∀ (m k n : Nat), k + m ≤ 8 → tModel_type_L (n + 2 * m + 1) 1 σ (nI (k + m)) (nI k) y = if okAll y m k then (if (σ.1 27 + nI (k + m)) ≤ 480 then tModel_type_L n 3 σ (nI (k + m)) 0 y else some (0, sI σ 26 2)) else some (0, sI σ 26 1) := by
  intro m
  induction m with
  | zero =>
    intro k n hk
    show tModel_type_b1 (tModel_type_L n) σ (nI k) (nI k) y = _
    unfold tModel_type_b1
    rw [if_pos (nI_le (Nat.le_refl _) (by omega))]; rfl
  | succ m ih =>
    intro k n hk
    show tModel_type_b1 (tModel_type_L (n + 2 * m + 1 + 1)) σ (nI (k + (m + 1))) (nI k) y = _
    have h2 : tModel_type_L (n + 2 * m + 1 + 1) 2 σ (nI (k + (m + 1))) (nI k) y = tModel_type_L (n + 2 * m + 1) 1 σ (nI (k + 1 + m)) (nI (k + 1)) y := by
      show tModel_type_L (n + 2 * m + 1) 1 σ (nI (k + (m + 1))) (nI k + 1) y = _
      rw [nI_1, show k + (m + 1) = k + 1 + m by omega]
    unfold tModel_type_b1
    rw [if_neg (nI_ge (by omega) (by omega)), byt_m y (by omega), h2, ih (k + 1) n (by omega), show k + 1 + m = k + (m + 1) by omega]
    simp only [okAll, okB]
    have e10 : (lg_cmp (byt y k).toInt64 10 = 0) ↔ byt y k = 10 := by
      rw [lg_eq, ← Int64.toInt_inj, Int32.toInt_toInt64, ti_eq]; rfl
    have e32 : (lg_cmp (byt y k).toInt64 32 < 0) ↔ ¬ 32 ≤ byt y k := by
      rw [lg_lt, Int32.toInt_toInt64, ti_le]; exact (Int.not_le).symm
    have e126 : (lg_cmp (byt y k).toInt64 126 ≤ 0) ↔ byt y k ≤ 126 := by
      rw [lg_le, Int32.toInt_toInt64, ti_le]; rfl
    by_cases c1 : byt y k = 10
    · rw [if_pos (e10.mpr c1)]; simp [c1]
    · rw [if_neg (fun h => c1 (e10.mp h))]
      by_cases c2 : 32 ≤ byt y k
      · rw [if_neg (fun h => e32.mp h c2)]
        by_cases c3 : byt y k ≤ 126
        · rw [if_pos (e126.mpr c3)]; simp [c2, c3]
        · rw [if_neg (fun h => c3 (e126.mp h))]; simp [c1, c3]; rfl
      · rw [if_pos (e32.mpr c2)]; simp [c1, c2]; rfl
/-- m characters more in row r, whose length is int i -/
def Wrote (i r : Nat) (y : Int64) (k m : Nat) (σ u : St) : Prop :=
  (u.1 i).toInt = (σ.1 i).toInt + m ∧ (∀ j, j ≠ i → u.1 j = σ.1 j) ∧ u.2.1 = σ.2.1 ∧ (∀ j, u.2.2.1 r j = if (σ.1 i).toInt.toNat ≤ j ∧ j < (σ.1 i).toInt.toNat + m then byt y (k + (j - (σ.1 i).toInt.toNat)) else σ.2.2.1 r j) ∧ (∀ j, j ≠ r → u.2.2.1 j = σ.2.2.1 j) ∧ u.2.2.2 = σ.2.2.2
theorem Wrote.refl {i r : Nat} {y : Int64} {k : Nat} {σ : St} : Wrote i r y k 0 σ σ :=
  ⟨by simp, fun _ _ => rfl, rfl, fun j => by rw [if_neg (by omega)], fun _ _ => rfl, rfl⟩
theorem Wrote.step {i r : Nat} {y : Int64} {k m : Nat} {σ u : St} (h0 : 0 ≤ (σ.1 i).toInt) (h1 : (σ.1 i).toInt < 480) (h : Wrote i r y (k + 1) m (sI (sA σ r (upd (σ.2.2.1 r) (σ.1 i).toNatClampNeg (byt y k))) i (σ.1 i + 1)) u) : Wrote i r y k (m + 1) σ u := by
  obtain ⟨a, b, c, d, e, f⟩ := h
  have e0 : ((sI (sA σ r (upd (σ.2.2.1 r) (σ.1 i).toNatClampNeg (byt y k))) i (σ.1 i + 1)).1 i).toInt = (σ.1 i).toInt + 1 := by
    rw [sI1, if_pos rfl, ti_add] <;> simp <;> omega
  rw [e0] at a d
  refine ⟨by rw [a]; omega, fun j hj => ?_, c, fun j => ?_, fun j hj => ?_, f⟩
  · rw [b j hj, sI1, if_neg hj]; rfl
  · rw [d j, tc_ti]
    have e1 : (sI (sA σ r (upd (σ.2.2.1 r) (σ.1 i).toInt.toNat (byt y k))) i (σ.1 i + 1)).2.2.1 r = upd (σ.2.2.1 r) (σ.1 i).toInt.toNat (byt y k) := by
      rw [sI2, sA3, if_pos rfl]
    rw [e1]
    by_cases c1 : j = (σ.1 i).toInt.toNat
    · subst c1
      rw [if_neg (by omega), if_pos (by omega), upd_e]; simp
    · rw [upd_n c1]
      by_cases c2 : ((σ.1 i).toInt + 1).toNat ≤ j ∧ j < ((σ.1 i).toInt + 1).toNat + m
      · rw [if_pos c2, if_pos (by omega)]; congr 1; omega
      · rw [if_neg c2, if_neg (by omega)]
  · rw [e j hj]
    show (if j = r then _ else _) = _
    rw [if_neg hj]
theorem addC {y : Int64} : ∀ (m k n : Nat) (σ : St), k + m ≤ 8 → m < n → 0 ≤ (σ.1 0).toInt → (σ.1 0).toInt + m ≤ 480 → ∃ u, tText_add_L n 1 σ (nI (k + m)) (nI k) y = some u ∧ Wrote 0 0 y k m σ u := by
  intro m
  induction m with
  | zero =>
    intro k n σ hk hn h0 h1
    obtain ⟨n, rfl⟩ : ∃ n', n = n' + 1 := ⟨n - 1, by omega⟩
    refine ⟨σ, ?_, Wrote.refl⟩
    show tText_add_b1 _ σ (nI k) (nI k) y = _
    unfold tText_add_b1
    rw [if_pos (nI_le (Nat.le_refl _) (by omega))]
  | succ m ih =>
    intro k n σ hk hn h0 h1
    obtain ⟨n, rfl⟩ : ∃ n', n = n' + 1 := ⟨n - 1, by omega⟩
    have hlt : (σ.1 0).toInt < 480 := by omega
    have e0 : (σ.1 0 + 1).toInt = (σ.1 0).toInt + 1 := by rw [ti_add] <;> simp <;> omega
    obtain ⟨u, hu, hw⟩ := ih (k + 1) n (sI (sA σ 0 (upd (σ.2.2.1 0) (σ.1 0).toNatClampNeg (byt y k))) 0 (σ.1 0 + 1)) (by omega) (by omega) (by rw [sI1, if_pos rfl]; omega) (by rw [sI1, if_pos rfl]; omega)
    refine ⟨u, ?_, hw.step h0 hlt⟩
    show tText_add_b1 (tText_add_L n) σ (nI (k + (m + 1))) (nI k) y = _
    unfold tText_add_b1
    rw [if_neg (nI_ge (by omega) (by omega)), if_neg (by rw [ti_le]; simp; omega), b1S (byt_c σ y (by omega)), gdT (inT h0 hlt), nar_byt y (by omega), nI_1, show k + (m + 1) = k + 1 + m by omega]
    exact hu
theorem addM {y : Int64} : ∀ (m k n : Nat) (σ : St), k + m ≤ 8 → m < n → 0 ≤ (σ.1 27).toInt → (σ.1 27).toInt + m ≤ 480 → ∃ u, tModel_type_L n 3 σ (nI (k + m)) (nI k) y = some (u.1 27, u) ∧ Wrote 27 15 y k m σ u := by
  intro m
  induction m with
  | zero =>
    intro k n σ hk hn h0 h1
    obtain ⟨n, rfl⟩ : ∃ n', n = n' + 1 := ⟨n - 1, by omega⟩
    refine ⟨σ, ?_, Wrote.refl⟩
    show tModel_type_b3 _ σ (nI k) (nI k) y = _
    unfold tModel_type_b3
    rw [if_pos (nI_le (Nat.le_refl _) (by omega))]
  | succ m ih =>
    intro k n σ hk hn h0 h1
    obtain ⟨n, rfl⟩ : ∃ n', n = n' + 1 := ⟨n - 1, by omega⟩
    have hlt : (σ.1 27).toInt < 480 := by omega
    have e0 : (σ.1 27 + 1).toInt = (σ.1 27).toInt + 1 := by rw [ti_add] <;> simp <;> omega
    obtain ⟨u, hu, hw⟩ := ih (k + 1) n (sI (sA σ 15 (upd (σ.2.2.1 15) (σ.1 27).toNatClampNeg (byt y k))) 27 (σ.1 27 + 1)) (by omega) (by omega) (by rw [sI1, if_pos rfl]; omega) (by rw [sI1, if_pos rfl]; omega)
    refine ⟨u, ?_, hw.step h0 hlt⟩
    show tModel_type_b3 (tModel_type_L n) σ (nI (k + (m + 1))) (nI k) y = _
    unfold tModel_type_b3
    rw [if_neg (nI_ge (by omega) (by omega)), gdT (inT h0 hlt), byt_m32 y (by omega), nar_byt y (by omega), nI_1, show k + (m + 1) = k + 1 + m by omega]
    exact hu
