/-! The two takers of tokens: their states in one form. -/
def mkT (g : St) (r q cn fv : Int32) (k1 k2 : Nat → Int32) (v0 : Nat → Int64) : St := (fun j => if j = 1 then r else if j = 2 then q else if j = 4 then cn else if j = 5 then fv else g.1 j, g.2.1, fun j => if j = 1 then k1 else if j = 2 then k2 else g.2.2.1 j, fun j => if j = 0 then v0 else g.2.2.2 j)
section MKT
variable {g : St} {r q cn fv x : Int32} {k1 k2 F : Nat → Int32} {v0 FL : Nat → Int64}
theorem mkT_i1 : (mkT g r q cn fv k1 k2 v0).1 1 = r := rfl
theorem mkT_i2 : (mkT g r q cn fv k1 k2 v0).1 2 = q := rfl
theorem mkT_i4 : (mkT g r q cn fv k1 k2 v0).1 4 = cn := rfl
theorem mkT_i5 : (mkT g r q cn fv k1 k2 v0).1 5 = fv := rfl
theorem mkT_r1 : (mkT g r q cn fv k1 k2 v0).2.2.1 1 = k1 := rfl
theorem mkT_r2 : (mkT g r q cn fv k1 k2 v0).2.2.1 2 = k2 := rfl
theorem mkT_l0 : (mkT g r q cn fv k1 k2 v0).2.2.2 0 = v0 := rfl
theorem mkT_i0 : (mkT g r q cn fv k1 k2 v0).1 0 = g.1 0 := rfl
theorem mkT_r0 : (mkT g r q cn fv k1 k2 v0).2.2.1 0 = g.2.2.1 0 := rfl
theorem mkT_s1 : sI (mkT g r q cn fv k1 k2 v0) 1 x = mkT g x q cn fv k1 k2 v0 := by
  refine Prod.ext (funext fun j => ?_) rfl
  simp only [sI, mkT]
  by_cases h : j = 1
  · subst h; rfl
  · simp only [if_neg h]
theorem mkT_s2 : sI (mkT g r q cn fv k1 k2 v0) 2 x = mkT g r x cn fv k1 k2 v0 := by
  refine Prod.ext (funext fun j => ?_) rfl
  simp only [sI, mkT]
  by_cases h : j = 2
  · subst h; rfl
  · simp only [if_neg h]
theorem mkT_s4 : sI (mkT g r q cn fv k1 k2 v0) 4 x = mkT g r q x fv k1 k2 v0 := by
  refine Prod.ext (funext fun j => ?_) rfl
  simp only [sI, mkT]
  by_cases h : j = 4
  · subst h; rfl
  · simp only [if_neg h]
theorem mkT_s5 : sI (mkT g r q cn fv k1 k2 v0) 5 x = mkT g r q cn x k1 k2 v0 := by
  refine Prod.ext (funext fun j => ?_) rfl
  simp only [sI, mkT]
  by_cases h : j = 5
  · subst h; rfl
  · simp only [if_neg h]
theorem mkT_t1 : sA (mkT g r q cn fv k1 k2 v0) 1 F = mkT g r q cn fv F k2 v0 := by
  refine Prod.ext rfl (Prod.ext rfl (Prod.ext (funext fun j => ?_) rfl))
  simp only [sA, mkT]
  by_cases h : j = 1
  · subst h; rfl
  · simp only [if_neg h]
theorem mkT_t2 : sA (mkT g r q cn fv k1 k2 v0) 2 F = mkT g r q cn fv k1 F v0 := by
  refine Prod.ext rfl (Prod.ext rfl (Prod.ext (funext fun j => ?_) rfl))
  simp only [sA, mkT]
  by_cases h : j = 2
  · subst h; rfl
  · simp only [if_neg h]
theorem mkT_u0 : sL (mkT g r q cn fv k1 k2 v0) 0 FL = mkT g r q cn fv k1 k2 FL := by
  refine Prod.ext rfl (Prod.ext rfl (Prod.ext rfl (funext fun j => ?_)))
  simp only [sL, mkT]
  by_cases h : j = 0
  · subst h; rfl
  · simp only [if_neg h]
end MKT
def mkU (g : St) (cn y q : Int32) (ra rb rc rd : Nat → Int32) : St := (fun j => if j = 28 then cn else if j = 29 then y else if j = 30 then q else g.1 j, g.2.1, fun j => if j = 16 then ra else if j = 17 then rb else if j = 18 then rc else if j = 19 then rd else g.2.2.1 j, g.2.2.2)
section MKU
variable {g : St} {cn y q x : Int32} {ra rb rc rd F : Nat → Int32}
theorem mkU_i28 : (mkU g cn y q ra rb rc rd).1 28 = cn := rfl
theorem mkU_i29 : (mkU g cn y q ra rb rc rd).1 29 = y := rfl
theorem mkU_i30 : (mkU g cn y q ra rb rc rd).1 30 = q := rfl
theorem mkU_r16 : (mkU g cn y q ra rb rc rd).2.2.1 16 = ra := rfl
theorem mkU_r17 : (mkU g cn y q ra rb rc rd).2.2.1 17 = rb := rfl
theorem mkU_r18 : (mkU g cn y q ra rb rc rd).2.2.1 18 = rc := rfl
theorem mkU_r19 : (mkU g cn y q ra rb rc rd).2.2.1 19 = rd := rfl
theorem mkU_i27 : (mkU g cn y q ra rb rc rd).1 27 = g.1 27 := rfl
theorem mkU_r15 : (mkU g cn y q ra rb rc rd).2.2.1 15 = g.2.2.1 15 := rfl
theorem mkU_s28 : sI (mkU g cn y q ra rb rc rd) 28 x = mkU g x y q ra rb rc rd := by
  refine Prod.ext (funext fun j => ?_) rfl
  simp only [sI, mkU]
  by_cases h : j = 28
  · subst h; rfl
  · simp only [if_neg h]
theorem mkU_s29 : sI (mkU g cn y q ra rb rc rd) 29 x = mkU g cn x q ra rb rc rd := by
  refine Prod.ext (funext fun j => ?_) rfl
  simp only [sI, mkU]
  by_cases h : j = 29
  · subst h; rfl
  · simp only [if_neg h]
theorem mkU_s30 : sI (mkU g cn y q ra rb rc rd) 30 x = mkU g cn y x ra rb rc rd := by
  refine Prod.ext (funext fun j => ?_) rfl
  simp only [sI, mkU]
  by_cases h : j = 30
  · subst h; rfl
  · simp only [if_neg h]
theorem mkU_t16 : sA (mkU g cn y q ra rb rc rd) 16 F = mkU g cn y q F rb rc rd := by
  refine Prod.ext rfl (Prod.ext rfl (Prod.ext (funext fun j => ?_) rfl))
  simp only [sA, mkU]
  by_cases h : j = 16
  · subst h; rfl
  · simp only [if_neg h]
theorem mkU_t17 : sA (mkU g cn y q ra rb rc rd) 17 F = mkU g cn y q ra F rc rd := by
  refine Prod.ext rfl (Prod.ext rfl (Prod.ext (funext fun j => ?_) rfl))
  simp only [sA, mkU]
  by_cases h : j = 17
  · subst h; rfl
  · simp only [if_neg h]
theorem mkU_t18 : sA (mkU g cn y q ra rb rc rd) 18 F = mkU g cn y q ra rb F rd := by
  refine Prod.ext rfl (Prod.ext rfl (Prod.ext (funext fun j => ?_) rfl))
  simp only [sA, mkU]
  by_cases h : j = 18
  · subst h; rfl
  · simp only [if_neg h]
theorem mkU_t19 : sA (mkU g cn y q ra rb rc rd) 19 F = mkU g cn y q ra rb rc F := by
  refine Prod.ext rfl (Prod.ext rfl (Prod.ext (funext fun j => ?_) rfl))
  simp only [sA, mkU]
  by_cases h : j = 19
  · subst h; rfl
  · simp only [if_neg h]
end MKU
section TA
variable {g h : St} {r q fv x v : Int32} {k1 k2 ra rb rc rd : Nat → Int32} {v0 : Nat → Int64} {t : Nat}
theorem t_add {K : Int32} {w : Int64} (ht : t < 220) : tTokens_add (mkT g r q (nI t) fv k1 k2 v0) K x w = some (mkT g r q (nI (t + 1)) fv (upd k1 t K) (upd k2 t x) (vp_updL v0 t w)) := by
  unfold tTokens_add
  rw [mkT_i4, if_neg (show ¬ (220 : Int32) ≤ nI t from fun e => absurd ((nI_leI (a := 220) (by omega) (by omega)).mp e) (by omega)), gdT (inI ht (by omega)), gdT (inI ht (by omega)), gdT (inI ht (by omega)), tc_nI (by omega), mkT_r1, mkT_t1, mkT_r2, mkT_t2, mkT_l0, mkT_u0, nI_suc, mkT_s4]
theorem t_full {K : Int32} {w : Int64} : tTokens_add (mkT g r q (nI 220) fv k1 k2 v0) K x w = some (mkT g r q (nI 220) (if (0 : Int32) ≤ fv then fv else x) k1 k2 v0) := by
  unfold tTokens_add
  rw [mkT_i4, if_pos (show (220 : Int32) ≤ nI 220 by decide), mkT_i5, mkT_s5]
  by_cases h : (0 : Int32) ≤ fv
  · rw [if_pos h, if_pos h]
  · rw [if_neg h, if_neg h]
theorem t_refuse0 {cn : Int32} : tRefusal_refuse (mkT g 0 q cn fv k1 k2 v0) v x = some (mkT g v x cn fv k1 k2 v0) := by
  unfold tRefusal_refuse
  rw [mkT_i1, if_pos rfl, mkT_s1, mkT_s2]
theorem t_refuse1 {cn : Int32} (hr : ¬ r = 0) : tRefusal_refuse (mkT g r q cn fv k1 k2 v0) v x = some (mkT g r q cn fv k1 k2 v0) := by
  unfold tRefusal_refuse
  rw [mkT_i1, if_neg hr]
theorem u_add {y K s w : Int32} (ht : t < 500) : tModel_addToken (mkU h (nI t) y q ra rb rc rd) K x s w = some (mkU h (nI (t + 1)) y q (upd ra t K) (upd rb t x) (upd rc t s) (upd rd t w)) := by
  unfold tModel_addToken
  rw [mkU_i28, gdT (inI ht (by omega)), gdT (inI ht (by omega)), gdT (inI ht (by omega)), gdT (inI ht (by omega)), tc_nI (by omega), mkU_r16, mkU_t16, mkU_r17, mkU_t17, mkU_r18, mkU_t18, mkU_r19, mkU_t19, nI_suc, mkU_s28]
theorem u_blame {cn : Int32} : tModel_blame (mkU h cn 0 q ra rb rc rd) v x = some (mkU h cn v x ra rb rc rd) := by
  unfold tModel_blame
  rw [mkU_i29, if_pos rfl, mkU_s29, mkU_s30]
end TA
theorem bm64 {z : Int} (h1 : -9223372036854775808 ≤ z) (h2 : z < 9223372036854775808) : z.bmod (2 ^ 64) = z := by
  rw [Int.bmod_eq_of_le] <;> omega
theorem ti64 {k : Nat} (h : k < 2147483648) : (nI k).toInt64.toInt = (k : Int) := by
  rw [Int32.toInt_toInt64, ti_nI h]
theorem num_c {y : Int64} {c : Nat} (h0 : 0 ≤ y.toInt) (h1 : y.toInt ≤ 2147483647) (hc : 48 ≤ c ∧ c ≤ 57) : (y * 10 + (nI c - 48).toInt64).toInt = y.toInt * 10 + (c : Int) - 48 ∧ (y * 10 + (nI c).toInt64 - 48).toInt = y.toInt * 10 + (c : Int) - 48 := by
  have e10 : (10 : Int64).toInt = 10 := rfl
  have e48 : (48 : Int64).toInt = 48 := rfl
  have em : (y * 10).toInt = y.toInt * 10 := by
    rw [Int64.toInt_mul, e10, bm64 (by omega) (by omega)]
  have ec : (nI c - 48).toInt64.toInt = (c : Int) - 48 := by
    rw [show nI c - 48 = nI (c - 48) from nI_sub (b := 48) hc.1, ti64 (by omega)]
    omega
  constructor
  · rw [Int64.toInt_add, em, ec, bm64 (by omega) (by omega)]
    omega
  · rw [Int64.toInt_sub, Int64.toInt_add, em, ti64 (by omega), e48, bm64 (z := y.toInt * 10 + (c : Int)) (by omega) (by omega), bm64 (by omega) (by omega)]
/-- a number that is being read, on both sides -/
def NumR (yc ym : Int64) : Prop := (yc = ym ∧ 0 ≤ ym.toInt ∧ ym.toInt ≤ 2147483647) ∨ (2147483647 < yc.toInt ∧ ym = 2147483648)
theorem lg_pos {y : Int64} : (0 : Int32) < lg_cmp y 2147483647 ↔ 2147483647 < y.toInt := by
  have e : (2147483647 : Int64).toInt = 2147483647 := rfl
  have h := lg_le (x := y) (y := 2147483647)
  rw [e] at h
  constructor
  · intro z
    by_cases k : 2147483647 < y.toInt
    · exact k
    · exact absurd z (Int32.not_lt.mpr (h.mpr (by omega)))
  · intro z
    rcases Classical.em ((0 : Int32) < lg_cmp y 2147483647) with k | k
    · exact k
    · have := h.mp (Int32.not_lt.mp k); omega
section TB
variable {σ m : St} {tx : Nat → Nat} {L : Nat}
theorem nu_L1 (N : Nat) (x1 x2 : Int32) (y1 : Int64) : tTokens_takeNumber_L (N + 1) 1 σ x1 x2 y1 = tTokens_takeNumber_b1 (tTokens_takeNumber_L N) σ x1 x2 y1 := rfl
theorem nu_L2 (N : Nat) (x1 x2 : Int32) (y1 : Int64) : tTokens_takeNumber_L (N + 1) 2 σ x1 x2 y1 = tTokens_takeNumber_b2 (tTokens_takeNumber_L N) σ x1 x2 y1 := rfl
theorem nu_L3 (N : Nat) (x1 x2 : Int32) (y1 : Int64) : tTokens_takeNumber_L (N + 1) 3 σ x1 x2 y1 = tTokens_takeNumber_b3 (tTokens_takeNumber_L N) σ x1 x2 y1 := rfl
theorem nu_L4 (N : Nat) (x1 x2 : Int32) (y1 : Int64) : tTokens_takeNumber_L (N + 1) 4 σ x1 x2 y1 = tTokens_takeNumber_b4 (tTokens_takeNumber_L N) σ x1 x2 y1 := rfl
theorem mn_L1 (N : Nat) (x1 x2 : Int32) (y1 : Int64) : tModel_numberAt_L (N + 1) 1 m x1 x2 y1 = tModel_numberAt_b1 (tModel_numberAt_L N) m x1 x2 y1 := rfl
theorem mn_L2 (N : Nat) (x1 x2 : Int32) (y1 : Int64) : tModel_numberAt_L (N + 1) 2 m x1 x2 y1 = tModel_numberAt_b2 (tModel_numberAt_L N) m x1 x2 y1 := rfl
theorem mn_L3 (N : Nat) (x1 x2 : Int32) (y1 : Int64) : tModel_numberAt_L (N + 1) 3 m x1 x2 y1 = tModel_numberAt_b3 (tModel_numberAt_L N) m x1 x2 y1 := rfl
theorem mn_L4 (N : Nat) (x1 x2 : Int32) (y1 : Int64) : tModel_numberAt_L (N + 1) 4 m x1 x2 y1 = tModel_numberAt_b4 (tModel_numberAt_L N) m x1 x2 y1 := rfl
theorem num_loop (T : TxC σ tx L) (TM : TxM m tx L) {i : Nat} : ∀ (r j N M : Nat) (yc ym : Int64), j + r = L → 2 * r < N → 2 * r < M → NumR yc ym → ∃ (j' N' M' : Nat) (yc' ym' : Int64), N ≤ N' + 2 * r + 1 ∧ M ≤ M' + 1 + 2 * r ∧ WE tx L isD j j' ∧ NumR yc' ym' ∧ tTokens_takeNumber_L N 1 σ (nI i) (nI j) yc = tTokens_takeNumber_L N' 3 σ (nI i) (nI j') yc' ∧ tModel_numberAt_L M 1 m (nI i) (nI j) ym = tModel_numberAt_L (M' + 1) 1 m (nI i) (nI j') ym' := by
  have hL := T.2.1
  intro r
  induction r with
  | zero =>
    intro j N M yc ym hj hN hM hR
    obtain ⟨N, rfl⟩ : ∃ k, N = k + 1 := ⟨N - 1, by omega⟩
    obtain ⟨M, rfl⟩ : ∃ k, M = k + 1 := ⟨M - 1, by omega⟩
    refine ⟨j, N, M, yc, ym, by omega, by omega, ⟨Nat.le_refl _, by omega, fun k h1 h2 => by omega, Or.inl (by omega)⟩, hR, ?_, rfl⟩
    rw [nu_L1]
    unfold tTokens_takeNumber_b1
    rw [T.1, if_pos ((nI_leI (by omega) (by omega)).mpr (by omega))]
  | succ r ih =>
    intro j N M yc ym hj hN hM hR
    obtain ⟨N, rfl⟩ : ∃ k, N = k + 2 := ⟨N - 2, by omega⟩
    obtain ⟨M, rfl⟩ : ∃ k, M = k + 2 := ⟨M - 2, by omega⟩
    have hjL : j < L := by omega
    have hat := atC T (show j < 1000 by omega)
    rw [show cC tx L j = tx j from if_pos hjL] at hat
    have hsg := signM TM (show j < 1000 by omega)
    rw [show cM tx L j = tx j from if_pos hjL] at hsg
    have hlt : tx j < 128 := by have := (T.2.2 j hjL).2; unfold okc at this; omega
    by_cases hd : isD (tx j) = true
    · have hdd : 48 ≤ tx j ∧ tx j ≤ 57 := by unfold isD at hd; exact of_decide_eq_true hd
      have em : tModel_numberAt_L (M + 2) 1 m (nI i) (nI j) ym = tModel_numberAt_L M 1 m (nI i) (nI (j + 1)) (if lg_cmp (ym * 10 + (nI (tx j)).toInt64 - 48) 2147483647 ≤ 0 then ym * 10 + (nI (tx j)).toInt64 - 48 else 2147483648) := by
        have e2 : ∀ y, tModel_numberAt_L (M + 1) 2 m (nI i) (nI j) y = tModel_numberAt_L M 1 m (nI i) (nI (j + 1)) y := fun y => by
          rw [mn_L2]
          unfold tModel_numberAt_b2
          rw [nI_suc]
        rw [mn_L1]
        unfold tModel_numberAt_b1
        rw [b1S hsg, b1S digM, dgt_c _ hlt, if_pos hd, if_neg (by decide), b1S hsg, e2, e2]
        by_cases hx : lg_cmp (ym * 10 + (nI (tx j)).toInt64 - 48) 2147483647 ≤ 0
        · rw [if_pos hx, if_pos hx]
        · rw [if_neg hx, if_neg hx]
      have ec : tTokens_takeNumber_L (N + 2) 1 σ (nI i) (nI j) yc = tTokens_takeNumber_L N 1 σ (nI i) (nI (j + 1)) (if 2147483647 < yc.toInt then yc else yc * 10 + (nI (tx j) - 48).toInt64) := by
        have e2 : ∀ y, tTokens_takeNumber_L (N + 1) 2 σ (nI i) (nI j) y = tTokens_takeNumber_L N 1 σ (nI i) (nI (j + 1)) y := fun y => by
          rw [nu_L2]
          unfold tTokens_takeNumber_b2
          rw [nI_suc]
        rw [nu_L1]
        unfold tTokens_takeNumber_b1
        rw [T.1, if_neg (fun e => absurd ((nI_leI (by omega) (by omega)).mp e) (by omega)), b1S (digC hat), dgt_c _ hlt, if_pos hd, if_neg (by decide), b1S hat, e2, e2]
        by_cases hx : 2147483647 < yc.toInt
        · rw [if_pos (lg_pos.mpr hx), if_pos hx]
        · rw [if_neg (fun e => hx (lg_pos.mp e)), if_neg hx]
      have hR2 : NumR (if 2147483647 < yc.toInt then yc else yc * 10 + (nI (tx j) - 48).toInt64) (if lg_cmp (ym * 10 + (nI (tx j)).toInt64 - 48) 2147483647 ≤ 0 then ym * 10 + (nI (tx j)).toInt64 - 48 else 2147483648) := by
        have eM : (2147483647 : Int64).toInt = 2147483647 := rfl
        have hle : lg_cmp (ym * 10 + (nI (tx j)).toInt64 - 48) 2147483647 ≤ 0 ↔ (ym * 10 + (nI (tx j)).toInt64 - 48).toInt ≤ 2147483647 := lg_le
        rcases hR with ⟨a1, a2, a3⟩ | ⟨a1, a2⟩
        · obtain ⟨n1, n2⟩ := num_c a2 a3 hdd
          rw [a1, if_neg (show ¬ 2147483647 < ym.toInt by omega)]
          by_cases hx : lg_cmp (ym * 10 + (nI (tx j)).toInt64 - 48) 2147483647 ≤ 0
          · rw [if_pos hx]
            have := hle.mp hx
            exact Or.inl ⟨Int64.toInt_inj.mp (n1.trans n2.symm), by omega, this⟩
          · rw [if_neg hx]
            have : ¬ (ym * 10 + (nI (tx j)).toInt64 - 48).toInt ≤ 2147483647 := fun e => hx (hle.mpr e)
            exact Or.inr ⟨by omega, rfl⟩
        · rw [if_pos a1, if_neg ?_]
          · exact Or.inr ⟨a1, rfl⟩
          · intro hx
            have h1 := hle.mp hx
            have hd2 : ∀ c : Nat, c < 58 → 48 ≤ c → ¬ ((2147483648 : Int64) * 10 + (nI c).toInt64 - 48).toInt ≤ 2147483647 := by decide +kernel
            rw [a2] at h1
            exact hd2 (tx j) (by omega) (by omega) h1
      rw [em, ec]
      obtain ⟨j', N', M', y1, y2, b1, b2, b3, b4, b5, b6⟩ := ih (j + 1) N M _ _ (by omega) (by omega) (by omega) hR2
      exact ⟨j', N', M', y1, y2, by omega, by omega, we_next hjL hd b3, b4, b5, b6⟩
    · refine ⟨j, N + 1, M + 1, yc, ym, by omega, by omega, ⟨Nat.le_refl _, by omega, fun k h1 h2 => by omega, Or.inr (by cases h : isD (tx j); rfl; exact absurd h hd)⟩, hR, ?_, rfl⟩
      rw [nu_L1]
      unfold tTokens_takeNumber_b1
      rw [T.1, if_neg (fun e => absurd ((nI_leI (by omega) (by omega)).mp e) (by omega)), b1S (digC hat), dgt_c _ hlt, if_neg hd, if_pos rfl]
/-- a number is taken, on both sides: good, or wrong -/
theorem num_both (T : TxC σ tx L) (TM : TxM m tx L) {i : Nat} (hi : i < L) (hd : isD (tx i) = true) : ∃ (j : Nat) (v : Int64), i < j ∧ j ≤ L ∧
    ((0 ≤ v.toInt ∧ v.toInt ≤ 2147483647 ∧ tTokens_takeNumber σ (nI i) = b1 (tTokens_add σ 2 (nI i) v) (fun u9 => some (nI j, u9)) ∧ tModel_numberAt m (nI i) = b1 (tModel_addToken m 2 (nI i) (nI (j - i)) v.toInt32) (fun u12 => some (nI j, u12))) ∨
     (tTokens_takeNumber σ (nI i) = b1 (tRefusal_refuse σ 1 (nI i)) (fun u10 => b1 (tTokens_add u10 2 (nI i) v) (fun u11 => some (nI j, u11))) ∧ ∃ w, tModel_numberAt m (nI i) = b1 (tModel_blame m 1 (nI i)) (fun u10 => b1 (tModel_addToken u10 2 (nI i) (nI (j - i)) w) (fun u12 => some (nI j, u12))))) := by
  have hL := T.2.1
  obtain ⟨j, N', M', yc, ym, d1, d2, d3, d4, d5, d6⟩ := num_loop (i := i) T TM (L - i) i 2000 2000 0 0 (by omega) (by omega) (by omega) (Or.inl ⟨rfl, by decide, by decide⟩)
  have hij : i < j := by
    rcases Nat.lt_or_ge i j with e | e
    · exact e
    · obtain ⟨c1, c2, c3, c4⟩ := d3
      rcases c4 with c4 | c4
      · omega
      · rw [show j = i by omega, hd] at c4; exact absurd c4 (by decide)
  obtain ⟨c1, c2, c3, c4⟩ := d3
  obtain ⟨N', rfl⟩ : ∃ k, N' = k + 2 := ⟨N' - 2, by omega⟩
  obtain ⟨M', rfl⟩ : ∃ k, M' = k + 2 := ⟨M' - 2, by omega⟩
  refine ⟨j, yc, hij, c2, ?_⟩
  unfold tTokens_takeNumber tModel_numberAt
  rw [d5, d6, nu_L3, mn_L1]
  unfold tTokens_takeNumber_b3 tModel_numberAt_b1
  have hjd : isD (cM tx L j) = false := by
    unfold cM
    rcases c4 with c4 | c4
    · rw [if_neg (by omega)]; decide
    · by_cases hj : j < L
      · rw [if_pos hj]; exact c4
      · rw [if_neg hj]; decide
  have hCl := cC_lt (tx := tx) (L := L) (i := j) (fun i hi => (T.2.2 i hi).2)
  have hMl := cM_lt (tx := tx) (L := L) (i := j) (fun i hi => (T.2.2 i hi).2)
  have hdz : dgt (nI (cM tx L j)) = 0 := by
    rw [dgt_c _ hMl, hjd]; rfl
  have hAe : isA (cC tx L j) = isA (cM tx L j) := by
    unfold cC cM
    by_cases hj : j < L
    · rw [if_pos hj, if_pos hj]
    · rw [if_neg hj, if_neg hj]; decide
  have hgt : (2147483647 < yc.toInt ↔ 2147483647 < ym.toInt) := by
    rcases d4 with ⟨a1, a2, a3⟩ | ⟨a1, a2⟩
    · rw [a1]
    · rw [a2]; exact ⟨fun _ => by decide, fun _ => a1⟩
  have k4 : ∀ (M : Nat) (m' : St), tModel_numberAt_L (M + 1) 4 m' (nI i) (nI j) ym = b1 (tModel_addToken m' 2 (nI i) (nI (j - i)) (if 2147483647 < ym.toInt then 0 else ym.toInt32)) (fun u12 => some (nI j, u12)) := fun M m' => by
    have e : tModel_numberAt_L (M + 1) 4 m' (nI i) (nI j) ym = tModel_numberAt_b4 (tModel_numberAt_L M) m' (nI i) (nI j) ym := rfl
    rw [e]
    unfold tModel_numberAt_b4
    rw [nI_sub (by omega)]
    have hle : lg_cmp ym 2147483647 ≤ 0 ↔ ym.toInt ≤ 2147483647 := lg_le
    by_cases hx : 2147483647 < ym.toInt
    · rw [if_pos hx, if_neg (fun e => by have := hle.mp e; omega)]
    · rw [if_neg hx, if_pos (hle.mpr (by omega))]
  have k3 : ∀ M : Nat, tModel_numberAt_L (M + 2) 3 m (nI i) (nI j) ym = b1 (tModel_blame m 1 (nI i)) (fun u10 => b1 (tModel_addToken u10 2 (nI i) (nI (j - i)) (if 2147483647 < ym.toInt then 0 else ym.toInt32)) (fun u12 => some (nI j, u12))) := fun M => by
    rw [mn_L3]
    unfold tModel_numberAt_b3
    cases tModel_blame m 1 (nI i) with
    | none => rfl
    | some u => exact k4 M u
  have c4' : ∀ N : Nat, tTokens_takeNumber_L (N + 1) 4 σ (nI i) (nI j) yc = b1 (tRefusal_refuse σ 1 (nI i)) (fun u10 => b1 (tTokens_add u10 2 (nI i) yc) (fun u11 => some (nI j, u11))) := fun N => by
    rw [nu_L4]
    unfold tTokens_takeNumber_b4
    rfl
  rw [b1S (signM TM (show j < 1000 by omega)), b1S digM, hdz, if_pos rfl, b1S (signM TM (show j < 1000 by omega)), b1S letM, ltr_c _ hMl, b1S (letC (atC T (show j < 1000 by omega))), ltr_c _ hCl, hAe, k3 M', k4 (M' + 1), c4' N']
  by_cases hx : 2147483647 < yc.toInt
  · right
    rw [if_pos (lg_pos.mpr hx), if_pos (lg_pos.mpr (hgt.mp hx))]
    exact ⟨rfl, _, rfl⟩
  · have hy : ¬ 2147483647 < ym.toInt := fun e => hx (hgt.mpr e)
    rw [if_neg (fun e => hx (lg_pos.mp e)), if_neg (fun e => hy (lg_pos.mp e)), if_neg hy]
    by_cases hA : isA (cM tx L j) = true
    · right
      rw [if_pos hA, if_neg (by decide)]
      exact ⟨rfl, _, rfl⟩
    · left
      rw [if_neg hA, if_pos rfl]
      rcases d4 with ⟨a1, a2, a3⟩ | ⟨a1, a2⟩
      · rw [a1]; exact ⟨a2, a3, rfl, rfl⟩
      · omega
end TB
