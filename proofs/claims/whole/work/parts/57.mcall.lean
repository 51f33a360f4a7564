/-! Statements and calls of the walker. -/
section MC
variable {g : St} {tk o D V f t s : Int32} {ou ce bk bg sg vl : Nat → Int32} {d v n N : Nat} {a2 : Int32}
theorem m_startOr {a : Int32} {x : Nat} (ha : a = nI x) (hx : x < 2147483648) (hd : d < 1600) : tModel_startOr (mkM g tk o (nI d) V f t s ou ce bk bg sg vl) a = some (mkM g tk o (nI (d + 1)) V f t s ou ce bk (upd bg d a) (upd sg d 0) vl) := by
  unfold tModel_startOr
  rw [ha, if_neg (nI_pos hx), b1_id, m_start _ hd]
theorem m_startNo : tModel_startOr (mkM g tk o (nI (d + 1)) V f t s ou ce bk bg sg vl) (-1) = some (mkM g tk o (nI d) V f t s ou ce bk bg sg vl) := by
  unfold tModel_startOr
  rw [if_pos (by decide)]
  simp only [mkM_i46, mkM_i47, mkM_i48, mkM_i49, mkM_i50, mkM_i51, mkM_i52, mkM_i34, mkM_i44, mkM_i45, mkM_r38, mkM_r39, mkM_r40, mkM_r41, mkM_r42, mkM_r43, mkM_r20, mkM_r21, mkM_r22, mkM_r23, mkM_r24, mkM_r25, mkM_r29, mkM_r30, mkM_r37, mkM_s46, mkM_s47, mkM_s48, mkM_s49, mkM_s50, mkM_s51, mkM_s52, mkM_t38, mkM_t39, mkM_t40, mkM_t41, mkM_t42, mkM_t43, nI_pred]
theorem h_if1 (hN : N < 500) (hk : g.2.2.1 20 N = 13) (hv : v < 400) : tModel_behindFirst (mkM g tk o (nI (d + 1)) (nI (v + 1)) f t s ou ce bk bg sg vl) (nI N) 1 = tModel_startOr (mkM g tk o (nI (d + 1)) (nI v) f t s ou ce bk bg sg vl) (if vl v = 0 then g.2.2.1 24 N else g.2.2.1 23 N) := by
  unfold tModel_behindFirst
  simp only [mkM_i46, mkM_i47, mkM_i48, mkM_i49, mkM_i50, mkM_i51, mkM_i52, mkM_i34, mkM_i44, mkM_i45, mkM_r38, mkM_r39, mkM_r40, mkM_r41, mkM_r42, mkM_r43, mkM_r20, mkM_r21, mkM_r22, mkM_r23, mkM_r24, mkM_r25, mkM_r29, mkM_r30, mkM_r37, mkM_s46, mkM_s47, mkM_s48, mkM_s49, mkM_s50, mkM_s51, mkM_s52, mkM_t38, mkM_t39, mkM_t40, mkM_t41, mkM_t42, mkM_t43, tc_nI (show N < 2147483648 by omega), hk]
  rw [gdT (inI hN (by omega)), if_neg (by decide), if_neg (by decide), if_neg (by decide), if_neg (by decide), if_neg (by decide), if_neg (by decide), if_neg (by decide), if_neg (by decide), if_neg (by decide), if_pos trivial]
  rw [if_pos (by decide), b2S (m_pop hv)]
  simp only [mkM_i46, mkM_i47, mkM_i48, mkM_i49, mkM_i50, mkM_i51, mkM_i52, mkM_i34, mkM_i44, mkM_i45, mkM_r38, mkM_r39, mkM_r40, mkM_r41, mkM_r42, mkM_r43, mkM_r20, mkM_r21, mkM_r22, mkM_r23, mkM_r24, mkM_r25, mkM_r29, mkM_r30, mkM_r37, mkM_s46, mkM_s47, mkM_s48, mkM_s49, mkM_s50, mkM_s51, mkM_s52, mkM_t38, mkM_t39, mkM_t40, mkM_t41, mkM_t42, mkM_t43, tc_nI (show N < 2147483648 by omega), b1_id, gdT (inI hN (show 500 < 2147483648 by omega))]
  by_cases h : vl v = 0
  · rw [if_pos h, if_pos h]
  · rw [if_neg h, if_neg h]
theorem h_if2 (hN : N < 500) (hk : g.2.2.1 20 N = 13) (h2 : ¬ a2 ≤ 1) : tModel_behindFirst (mkM g tk o (nI (d + 1)) V f t s ou ce bk bg sg vl) (nI N) a2 = some (mkM g tk o (nI d) V f t s ou ce bk bg sg vl) := by
  unfold tModel_behindFirst
  simp only [mkM_i46, mkM_i47, mkM_i48, mkM_i49, mkM_i50, mkM_i51, mkM_i52, mkM_i34, mkM_i44, mkM_i45, mkM_r38, mkM_r39, mkM_r40, mkM_r41, mkM_r42, mkM_r43, mkM_r20, mkM_r21, mkM_r22, mkM_r23, mkM_r24, mkM_r25, mkM_r29, mkM_r30, mkM_r37, mkM_s46, mkM_s47, mkM_s48, mkM_s49, mkM_s50, mkM_s51, mkM_s52, mkM_t38, mkM_t39, mkM_t40, mkM_t41, mkM_t42, mkM_t43, tc_nI (show N < 2147483648 by omega), hk]
  rw [gdT (inI hN (by omega)), if_neg (by decide), if_neg (by decide), if_neg (by decide), if_neg (by decide), if_neg (by decide), if_neg (by decide), if_neg (by decide), if_neg (by decide), if_neg (by decide), if_pos trivial]
  rw [if_neg h2, b1_id, m_startNo]
theorem h_set {c j : Nat} (hN : N < 500) (hk : g.2.2.1 20 N = 11) (hj : g.2.2.1 21 N = nI j) (hc : 12 * c + j < 156) (hv : v < 400) : tModel_behindFirst (mkM g tk o (nI (d + 1)) (nI (v + 1)) (nI (c + 1)) t s ou ce bk bg sg vl) (nI N) a2 = some (mkM g tk o (nI d) (nI v) (nI (c + 1)) t s ou ce (upd bk (12 * c + j) (vl v)) bg sg vl) := by
  unfold tModel_behindFirst
  simp only [mkM_i46, mkM_i47, mkM_i48, mkM_i49, mkM_i50, mkM_i51, mkM_i52, mkM_i34, mkM_i44, mkM_i45, mkM_r38, mkM_r39, mkM_r40, mkM_r41, mkM_r42, mkM_r43, mkM_r20, mkM_r21, mkM_r22, mkM_r23, mkM_r24, mkM_r25, mkM_r29, mkM_r30, mkM_r37, mkM_s46, mkM_s47, mkM_s48, mkM_s49, mkM_s50, mkM_s51, mkM_s52, mkM_t38, mkM_t39, mkM_t40, mkM_t41, mkM_t42, mkM_t43, tc_nI (show N < 2147483648 by omega), hk]
  rw [gdT (inI hN (by omega)), if_neg (by decide), if_neg (by decide), if_neg (by decide), if_neg (by decide), if_neg (by decide), if_neg (by decide), if_neg (by decide), if_pos trivial]
  rw [gdT (inI hN (by omega)), b2S (m_pop hv)]
  simp only [mkM_i46, mkM_i47, mkM_i48, mkM_i49, mkM_i50, mkM_i51, mkM_i52, mkM_i34, mkM_i44, mkM_i45, mkM_r38, mkM_r39, mkM_r40, mkM_r41, mkM_r42, mkM_r43, mkM_r20, mkM_r21, mkM_r22, mkM_r23, mkM_r24, mkM_r25, mkM_r29, mkM_r30, mkM_r37, mkM_s46, mkM_s47, mkM_s48, mkM_s49, mkM_s50, mkM_s51, mkM_s52, mkM_t38, mkM_t39, mkM_t40, mkM_t41, mkM_t42, mkM_t43, nI_pred, hj, nI_mul12, nI_add]
  rw [gdT (inI hc (by omega)), tc_nI (by omega)]
theorem h_put1 (hN : N < 500) (hk : g.2.2.1 20 N = 12) (hd : d < 1600) : tModel_behindFirst (mkM g tk o (nI d) V f t s ou ce bk bg sg vl) (nI N) 1 = some (mkM g tk o (nI (d + 1)) V f t s ou ce bk (upd bg d (g.2.2.1 23 N)) (upd sg d 0) vl) := by
  unfold tModel_behindFirst
  simp only [mkM_i46, mkM_i47, mkM_i48, mkM_i49, mkM_i50, mkM_i51, mkM_i52, mkM_i34, mkM_i44, mkM_i45, mkM_r38, mkM_r39, mkM_r40, mkM_r41, mkM_r42, mkM_r43, mkM_r20, mkM_r21, mkM_r22, mkM_r23, mkM_r24, mkM_r25, mkM_r29, mkM_r30, mkM_r37, mkM_s46, mkM_s47, mkM_s48, mkM_s49, mkM_s50, mkM_s51, mkM_s52, mkM_t38, mkM_t39, mkM_t40, mkM_t41, mkM_t42, mkM_t43, tc_nI (show N < 2147483648 by omega), hk]
  rw [gdT (inI hN (by omega)), if_neg (by decide), if_neg (by decide), if_neg (by decide), if_neg (by decide), if_neg (by decide), if_neg (by decide), if_neg (by decide), if_neg (by decide), if_pos trivial]
  unfold tModel_put
  rw [if_pos rfl, gdT (inI hN (by omega)), tc_nI (by omega), b1_id, b1_id, m_start _ hd]; rfl
theorem h_put2 {q a z : Nat} (hN : N < 500) (hk : g.2.2.1 20 N = 12) (h2 : ¬ a2 = 1) (h1 : g.2.2.1 24 N = nI q) (hq : q < 60) (h3 : g.2.2.1 29 q = nI z) (h4 : g.2.2.1 30 q = nI a) (haz : a + z ≤ 64) (hv : v + 1 < 400) : tModel_behindFirst (mkM g tk o (nI (d + 1)) (nI (v + 2)) f t s ou ce bk bg sg vl) (nI N) a2 = some (if 0 ≤ (vl v).toInt ∧ (vl v).toInt < z then mkM g tk o (nI d) (nI v) f t s ou (upd ce (a + (vl v).toInt.toNat) (vl (v + 1))) bk bg sg vl else mkM g tk o (nI d) (nI v) f t 1 ou ce bk bg sg vl) := by
  unfold tModel_behindFirst
  simp only [mkM_i46, mkM_i47, mkM_i48, mkM_i49, mkM_i50, mkM_i51, mkM_i52, mkM_i34, mkM_i44, mkM_i45, mkM_r38, mkM_r39, mkM_r40, mkM_r41, mkM_r42, mkM_r43, mkM_r20, mkM_r21, mkM_r22, mkM_r23, mkM_r24, mkM_r25, mkM_r29, mkM_r30, mkM_r37, mkM_s46, mkM_s47, mkM_s48, mkM_s49, mkM_s50, mkM_s51, mkM_s52, mkM_t38, mkM_t39, mkM_t40, mkM_t41, mkM_t42, mkM_t43, tc_nI (show N < 2147483648 by omega), hk]
  rw [gdT (inI hN (by omega)), if_neg (by decide), if_neg (by decide), if_neg (by decide), if_neg (by decide), if_neg (by decide), if_neg (by decide), if_neg (by decide), if_neg (by decide), if_pos trivial]
  unfold tModel_put
  rw [if_neg h2, b2S (m_pop (v := v + 1) hv), b2S (m_pop (v := v) (by omega)), b1S (m_isIn (σ := mkM g tk o (nI (d + 1)) (nI v) f t s ou ce bk bg sg vl) hN h1 hq h3 (by omega))]
  simp only [mkM_i46, mkM_i47, mkM_i48, mkM_i49, mkM_i50, mkM_i51, mkM_i52, mkM_i34, mkM_i44, mkM_i45, mkM_r38, mkM_r39, mkM_r40, mkM_r41, mkM_r42, mkM_r43, mkM_r20, mkM_r21, mkM_r22, mkM_r23, mkM_r24, mkM_r25, mkM_r29, mkM_r30, mkM_r37, mkM_s46, mkM_s47, mkM_s48, mkM_s49, mkM_s50, mkM_s51, mkM_s52, mkM_t38, mkM_t39, mkM_t40, mkM_t41, mkM_t42, mkM_t43, tc_nI (show N < 2147483648 by omega), h1, tc_nI (show q < 2147483648 by omega), h4, nI_pred, b1_id]
  by_cases h : 0 ≤ (vl v).toInt ∧ (vl v).toInt < z
  · rw [if_pos h, if_neg (by decide), gdT (inI hN (by omega)), gdT (inI hq (by omega)), nI_addi h.1, gdT (inI (by omega) (by omega)), tc_nI (by omega), if_pos h]
  · rw [if_neg h, if_pos rfl, if_neg h]
theorem h_print {m : Nat} (hN : N < 500) (hk : g.2.2.1 20 N = 16) (hm : m < 30) (hv : v < 400) : tModel_behindFirst (mkM g tk (nI m) (nI (d + 1)) (nI (v + 1)) f t s ou ce bk bg sg vl) (nI N) a2 = some (mkM g tk (nI (m + 1)) (nI d) (nI v) f t s (upd ou m (vl v)) ce bk bg sg vl) := by
  unfold tModel_behindFirst
  simp only [mkM_i46, mkM_i47, mkM_i48, mkM_i49, mkM_i50, mkM_i51, mkM_i52, mkM_i34, mkM_i44, mkM_i45, mkM_r38, mkM_r39, mkM_r40, mkM_r41, mkM_r42, mkM_r43, mkM_r20, mkM_r21, mkM_r22, mkM_r23, mkM_r24, mkM_r25, mkM_r29, mkM_r30, mkM_r37, mkM_s46, mkM_s47, mkM_s48, mkM_s49, mkM_s50, mkM_s51, mkM_s52, mkM_t38, mkM_t39, mkM_t40, mkM_t41, mkM_t42, mkM_t43, tc_nI (show N < 2147483648 by omega), hk]
  rw [gdT (inI hN (by omega)), if_neg (by decide), if_neg (by decide), if_neg (by decide), if_neg (by decide), if_neg (by decide), if_neg (by decide), if_neg (by decide), if_neg (by decide), if_neg (by decide), if_neg (by decide), if_neg (by decide), if_neg (by decide), if_pos trivial]
  unfold tModel_print
  rw [b2S (m_pop hv)]
  simp only [mkM_i46, mkM_i47, mkM_i48, mkM_i49, mkM_i50, mkM_i51, mkM_i52, mkM_i34, mkM_i44, mkM_i45, mkM_r38, mkM_r39, mkM_r40, mkM_r41, mkM_r42, mkM_r43, mkM_r20, mkM_r21, mkM_r22, mkM_r23, mkM_r24, mkM_r25, mkM_r29, mkM_r30, mkM_r37, mkM_s46, mkM_s47, mkM_s48, mkM_s49, mkM_s50, mkM_s51, mkM_s52, mkM_t38, mkM_t39, mkM_t40, mkM_t41, mkM_t42, mkM_t43, nI_1, nI_pred, b1_id]
  rw [if_neg (show ¬ nI m = 30 from fun h => absurd ((nI_eq (a := m) (b := 30) (by omega) (by omega)).mp h) (by omega)), gdT (inI hm (by omega)), tc_nI (by omega)]
theorem h_print0 (hN : N < 500) (hk : g.2.2.1 20 N = 16) (hv : v < 400) : tModel_behindFirst (mkM g tk (nI 30) (nI (d + 1)) (nI (v + 1)) f t s ou ce bk bg sg vl) (nI N) a2 = some (mkM g tk (nI 30) (nI (d + 1)) (nI v) f t 1 ou ce bk bg sg vl) := by
  unfold tModel_behindFirst
  simp only [mkM_i46, mkM_i47, mkM_i48, mkM_i49, mkM_i50, mkM_i51, mkM_i52, mkM_i34, mkM_i44, mkM_i45, mkM_r38, mkM_r39, mkM_r40, mkM_r41, mkM_r42, mkM_r43, mkM_r20, mkM_r21, mkM_r22, mkM_r23, mkM_r24, mkM_r25, mkM_r29, mkM_r30, mkM_r37, mkM_s46, mkM_s47, mkM_s48, mkM_s49, mkM_s50, mkM_s51, mkM_s52, mkM_t38, mkM_t39, mkM_t40, mkM_t41, mkM_t42, mkM_t43, tc_nI (show N < 2147483648 by omega), hk]
  rw [gdT (inI hN (by omega)), if_neg (by decide), if_neg (by decide), if_neg (by decide), if_neg (by decide), if_neg (by decide), if_neg (by decide), if_neg (by decide), if_neg (by decide), if_neg (by decide), if_neg (by decide), if_neg (by decide), if_neg (by decide), if_pos trivial]
  unfold tModel_print
  rw [b2S (m_pop hv)]
  simp only [mkM_i46, mkM_i47, mkM_i48, mkM_i49, mkM_i50, mkM_i51, mkM_i52, mkM_i34, mkM_i44, mkM_i45, mkM_r38, mkM_r39, mkM_r40, mkM_r41, mkM_r42, mkM_r43, mkM_r20, mkM_r21, mkM_r22, mkM_r23, mkM_r24, mkM_r25, mkM_r29, mkM_r30, mkM_r37, mkM_s46, mkM_s47, mkM_s48, mkM_s49, mkM_s50, mkM_s51, mkM_s52, mkM_t38, mkM_t39, mkM_t40, mkM_t41, mkM_t42, mkM_t43, b1_id]
  rw [if_pos (show nI 30 = 30 from rfl)]
theorem h_val (hN : N < 500) (hk : g.2.2.1 20 N = 17) (hv : v < 400) : tModel_behindFirst (mkM g tk o (nI (d + 1)) (nI (v + 1)) f t s ou ce bk bg sg vl) (nI N) a2 = some (mkM g tk o (nI d) (nI v) f t s ou ce bk bg sg vl) := by
  unfold tModel_behindFirst
  simp only [mkM_i46, mkM_i47, mkM_i48, mkM_i49, mkM_i50, mkM_i51, mkM_i52, mkM_i34, mkM_i44, mkM_i45, mkM_r38, mkM_r39, mkM_r40, mkM_r41, mkM_r42, mkM_r43, mkM_r20, mkM_r21, mkM_r22, mkM_r23, mkM_r24, mkM_r25, mkM_r29, mkM_r30, mkM_r37, mkM_s46, mkM_s47, mkM_s48, mkM_s49, mkM_s50, mkM_s51, mkM_s52, mkM_t38, mkM_t39, mkM_t40, mkM_t41, mkM_t42, mkM_t43, tc_nI (show N < 2147483648 by omega), hk]
  rw [gdT (inI hN (by omega)), if_neg (by decide), if_neg (by decide), if_neg (by decide), if_neg (by decide), if_neg (by decide), if_neg (by decide), if_neg (by decide), if_neg (by decide), if_neg (by decide), if_neg (by decide), if_neg (by decide), if_neg (by decide), if_neg (by decide)]
  rw [b2S (m_pop hv)]
  simp only [mkM_i46, mkM_i47, mkM_i48, mkM_i49, mkM_i50, mkM_i51, mkM_i52, mkM_i34, mkM_i44, mkM_i45, mkM_r38, mkM_r39, mkM_r40, mkM_r41, mkM_r42, mkM_r43, mkM_r20, mkM_r21, mkM_r22, mkM_r23, mkM_r24, mkM_r25, mkM_r29, mkM_r30, mkM_r37, mkM_s46, mkM_s47, mkM_s48, mkM_s49, mkM_s50, mkM_s51, mkM_s52, mkM_t38, mkM_t39, mkM_t40, mkM_t41, mkM_t42, mkM_t43, nI_pred]
/-! leaving a call -/
theorem m_leave {c : Nat} (a : Int32) (hv : v < 400) : tModel_leave (mkM g tk o (nI (d + 1)) (nI v) (nI (c + 1)) t s ou ce bk bg sg vl) a = some (mkM g tk o (nI d) (nI (v + 1)) (nI c) t s ou ce bk bg sg (upd vl v a)) := by
  unfold tModel_leave
  simp only [mkM_i46, mkM_i47, mkM_i48, mkM_i49, mkM_i50, mkM_i51, mkM_i52, mkM_i34, mkM_i44, mkM_i45, mkM_r38, mkM_r39, mkM_r40, mkM_r41, mkM_r42, mkM_r43, mkM_r20, mkM_r21, mkM_r22, mkM_r23, mkM_r24, mkM_r25, mkM_r29, mkM_r30, mkM_r37, mkM_s46, mkM_s47, mkM_s48, mkM_s49, mkM_s50, mkM_s51, mkM_s52, mkM_t38, mkM_t39, mkM_t40, mkM_t41, mkM_t42, mkM_t43, nI_pred, b1_id]
  rw [m_hand _ hv]
theorem retL {c e : Nat} {r : Int32} (he : e < 1600) (hb : ∃ q, q < 500 ∧ bg e = nI q ∧ g.2.2.1 20 q = 5) (hv : v < 400) : ∀ (k n : Nat), e + k < 1600 → k < n → (∀ i, e < i → i ≤ e + k → ∃ q, q < 500 ∧ bg i = nI q ∧ ¬ g.2.2.1 20 q = 5) → tModel_returnValue_L n 1 (mkM g tk o (nI (e + k + 1)) (nI v) (nI (c + 1)) t s ou ce bk bg sg vl) r = some (mkM g tk o (nI e) (nI (v + 1)) (nI c) t s ou ce bk bg sg (upd vl v r)) := by
  intro k
  induction k with
  | zero =>
    intro n h1 h2 h3
    obtain ⟨n, rfl⟩ : ∃ n', n = n' + 1 := ⟨n - 1, by omega⟩
    obtain ⟨q, hq, hb1, hb2⟩ := hb
    show tModel_returnValue_b1 (tModel_returnValue_L n) _ r = _
    unfold tModel_returnValue_b1
    simp only [mkM_i46, mkM_i47, mkM_i48, mkM_i49, mkM_i50, mkM_i51, mkM_i52, mkM_i34, mkM_i44, mkM_i45, mkM_r38, mkM_r39, mkM_r40, mkM_r41, mkM_r42, mkM_r43, mkM_r20, mkM_r21, mkM_r22, mkM_r23, mkM_r24, mkM_r25, mkM_r29, mkM_r30, mkM_r37, mkM_s46, mkM_s47, mkM_s48, mkM_s49, mkM_s50, mkM_s51, mkM_s52, mkM_t38, mkM_t39, mkM_t40, mkM_t41, mkM_t42, mkM_t43, nI_pred, Nat.add_zero, tc_nI (show e < 2147483648 by omega), hb1, tc_nI (show q < 2147483648 by omega), hb2]
    rw [gdT (inI he (by omega)), gdT (inI hq (by omega)), if_pos trivial, b1_id, m_leave _ hv]
  | succ k ih =>
    intro n h1 h2 h3
    obtain ⟨n, rfl⟩ : ∃ n', n = n' + 1 := ⟨n - 1, by omega⟩
    obtain ⟨q, hq, hb1, hb2⟩ := h3 (e + (k + 1)) (by omega) (by omega)
    show tModel_returnValue_b1 (tModel_returnValue_L n) _ r = _
    unfold tModel_returnValue_b1
    simp only [mkM_i46, mkM_i47, mkM_i48, mkM_i49, mkM_i50, mkM_i51, mkM_i52, mkM_i34, mkM_i44, mkM_i45, mkM_r38, mkM_r39, mkM_r40, mkM_r41, mkM_r42, mkM_r43, mkM_r20, mkM_r21, mkM_r22, mkM_r23, mkM_r24, mkM_r25, mkM_r29, mkM_r30, mkM_r37, mkM_s46, mkM_s47, mkM_s48, mkM_s49, mkM_s50, mkM_s51, mkM_s52, mkM_t38, mkM_t39, mkM_t40, mkM_t41, mkM_t42, mkM_t43, nI_pred, tc_nI (show e + (k + 1) < 2147483648 by omega), hb1, tc_nI (show q < 2147483648 by omega)]
    rw [gdT (inI (by omega) (by omega)), gdT (inI hq (by omega)), if_neg hb2]
    exact ih n (by omega) (by omega) (fun i hi hi2 => h3 i hi (by omega))
theorem h_ret {c e k : Nat} (hN : N < 500) (hk : g.2.2.1 20 N = 15) (he : e + k < 1600) (hb : ∃ q, q < 500 ∧ bg e = nI q ∧ g.2.2.1 20 q = 5) (hv : v < 400) (h3 : ∀ i, e < i → i ≤ e + k → ∃ q, q < 500 ∧ bg i = nI q ∧ ¬ g.2.2.1 20 q = 5) : tModel_behindFirst (mkM g tk o (nI (e + k + 1)) (nI (v + 1)) (nI (c + 1)) t s ou ce bk bg sg vl) (nI N) a2 = some (mkM g tk o (nI e) (nI (v + 1)) (nI c) t s ou ce bk bg sg vl) := by
  unfold tModel_behindFirst
  simp only [mkM_i46, mkM_i47, mkM_i48, mkM_i49, mkM_i50, mkM_i51, mkM_i52, mkM_i34, mkM_i44, mkM_i45, mkM_r38, mkM_r39, mkM_r40, mkM_r41, mkM_r42, mkM_r43, mkM_r20, mkM_r21, mkM_r22, mkM_r23, mkM_r24, mkM_r25, mkM_r29, mkM_r30, mkM_r37, mkM_s46, mkM_s47, mkM_s48, mkM_s49, mkM_s50, mkM_s51, mkM_s52, mkM_t38, mkM_t39, mkM_t40, mkM_t41, mkM_t42, mkM_t43, tc_nI (show N < 2147483648 by omega), hk]
  rw [gdT (inI hN (by omega)), if_neg (by decide), if_neg (by decide), if_neg (by decide), if_neg (by decide), if_neg (by decide), if_neg (by decide), if_neg (by decide), if_neg (by decide), if_neg (by decide), if_neg (by decide), if_neg (by decide), if_pos trivial]
  rw [b1_id]
  unfold tModel_returnValue
  rw [b2S (m_pop hv), retL (by omega) hb hv k 2000 he (by omega) h3]
  congr 1
  show mkM g tk o (nI e) (nI (v + 1)) (nI c) t s ou ce bk bg sg (upd vl v (vl v)) = _
  congr 1
  funext j
  by_cases hj : j = v
  · subst hj; rw [upd_e]
  · rw [upd_n hj]
/-! entering a call: its values become the callee's first variables -/
theorem entL {c q x : Nat} {B : Int32} (hc : c < 12) (hq : q < 60) (hB : g.2.2.1 30 q = B) (hd : d < 1600) : ∀ (j n : Nat) (bk : Nat → Int32), j ≤ 4 → j < n → v + j ≤ 400 → tModel_enter_L n 2 (mkM g tk o (nI d) (nI (v + j)) (nI c) t s ou ce bk bg sg vl) (nI q) (nI j - 1) = some (mkM g tk o (nI (d + 1)) (nI v) (nI (c + 1)) t s ou ce (fun i => if 12 * c ≤ i ∧ i < 12 * c + j then vl (v + (i - 12 * c)) else bk i) (upd bg d B) (upd sg d 0) vl) := by
  intro j
  induction j with
  | zero =>
    intro n bk h1 h2 h3
    obtain ⟨n, rfl⟩ : ∃ n', n = n' + 1 := ⟨n - 1, by omega⟩
    show tModel_enter_b2 (tModel_enter_L n) _ (nI q) (nI 0 - 1) = _
    unfold tModel_enter_b2
    rw [if_pos (by decide), gdT (inI hq (by omega))]
    simp only [mkM_i46, mkM_i47, mkM_i48, mkM_i49, mkM_i50, mkM_i51, mkM_i52, mkM_i34, mkM_i44, mkM_i45, mkM_r38, mkM_r39, mkM_r40, mkM_r41, mkM_r42, mkM_r43, mkM_r20, mkM_r21, mkM_r22, mkM_r23, mkM_r24, mkM_r25, mkM_r29, mkM_r30, mkM_r37, mkM_s46, mkM_s47, mkM_s48, mkM_s49, mkM_s50, mkM_s51, mkM_s52, mkM_t38, mkM_t39, mkM_t40, mkM_t41, mkM_t42, mkM_t43, nI_1, tc_nI (show q < 2147483648 by omega), hB, b1_id]
    rw [m_start _ hd]
    have e : (fun i => if 12 * c ≤ i ∧ i < 12 * c + 0 then vl (v + (i - 12 * c)) else bk i) = bk := by
      funext i
      rw [if_neg (by omega)]
    rw [e]
    rfl
  | succ j ih =>
    intro n bk h1 h2 h3
    obtain ⟨n, rfl⟩ : ∃ n', n = n' + 1 := ⟨n - 1, by omega⟩
    show tModel_enter_b2 (tModel_enter_L n) _ (nI q) (nI (j + 1) - 1) = _
    unfold tModel_enter_b2
    rw [nI_pred, if_neg (nI_pos (by omega)), show v + (j + 1) = v + j + 1 by omega, b2S (m_pop (by omega))]
    simp only [mkM_i46, mkM_i47, mkM_i48, mkM_i49, mkM_i50, mkM_i51, mkM_i52, mkM_i34, mkM_i44, mkM_i45, mkM_r38, mkM_r39, mkM_r40, mkM_r41, mkM_r42, mkM_r43, mkM_r20, mkM_r21, mkM_r22, mkM_r23, mkM_r24, mkM_r25, mkM_r29, mkM_r30, mkM_r37, mkM_s46, mkM_s47, mkM_s48, mkM_s49, mkM_s50, mkM_s51, mkM_s52, mkM_t38, mkM_t39, mkM_t40, mkM_t41, mkM_t42, mkM_t43, nI_mul12, nI_add]
    rw [gdT (inI (by omega) (by omega)), tc_nI (by omega), show nI j + (-1) = nI j - 1 from (Int32.sub_eq_add_neg _ _).symm, ih n _ (by omega) (by omega) (by omega)]
    congr 1
    congr 1
    funext i
    by_cases hi : i = 12 * c + j
    · subst hi
      rw [if_neg (by omega), if_pos (by omega), upd_e]; congr 1; omega
    · rw [upd_n hi]
      by_cases h4 : 12 * c ≤ i ∧ i < 12 * c + j
      · rw [if_pos h4, if_pos (by omega)]
      · rw [if_neg h4, if_neg (by omega)]
theorem m_enter {c q z t0 : Nat} {B : Int32} (hc : c < 12) (hq : q < 60) (hz : g.2.2.1 29 q = nI z) (hz4 : z ≤ 4) (hB : g.2.2.1 30 q = B) (hd : d < 1600) (ht : t0 < 400) (hv : v + z ≤ 400) : tModel_enter (mkM g tk o (nI d) (nI (v + z)) (nI c) (nI t0) 0 ou ce bk bg sg vl) (nI q) = some (mkM g tk o (nI (d + 1)) (nI v) (nI (c + 1)) (nI (t0 + 1)) 0 ou ce (fun i => if 12 * c ≤ i ∧ i < 12 * c + z then vl (v + (i - 12 * c)) else bk i) (upd bg d B) (upd sg d 0) vl) := by
  unfold tModel_enter
  have e : tModel_tick (mkM g tk o (nI d) (nI (v + z)) (nI c) (nI t0) 0 ou ce bk bg sg vl) = some (mkM g tk o (nI d) (nI (v + z)) (nI c) (nI (t0 + 1)) 0 ou ce bk bg sg vl) := by
    unfold tModel_tick
    simp only [mkM_i46, mkM_i47, mkM_i48, mkM_i49, mkM_i50, mkM_i51, mkM_i52, mkM_i34, mkM_i44, mkM_i45, mkM_r38, mkM_r39, mkM_r40, mkM_r41, mkM_r42, mkM_r43, mkM_r20, mkM_r21, mkM_r22, mkM_r23, mkM_r24, mkM_r25, mkM_r29, mkM_r30, mkM_r37, mkM_s46, mkM_s47, mkM_s48, mkM_s49, mkM_s50, mkM_s51, mkM_s52, mkM_t38, mkM_t39, mkM_t40, mkM_t41, mkM_t42, mkM_t43, nI_1]
    rw [if_neg (show ¬ nI t0 = 400 from fun h => absurd ((nI_eq (a := t0) (b := 400) (by omega) (by omega)).mp h) (by omega))]
  rw [b1S e]
  simp only [mkM_i46, mkM_i47, mkM_i48, mkM_i49, mkM_i50, mkM_i51, mkM_i52, mkM_i34, mkM_i44, mkM_i45, mkM_r38, mkM_r39, mkM_r40, mkM_r41, mkM_r42, mkM_r43, mkM_r20, mkM_r21, mkM_r22, mkM_r23, mkM_r24, mkM_r25, mkM_r29, mkM_r30, mkM_r37, mkM_s46, mkM_s47, mkM_s48, mkM_s49, mkM_s50, mkM_s51, mkM_s52, mkM_t38, mkM_t39, mkM_t40, mkM_t41, mkM_t42, mkM_t43]
  rw [if_neg (show ¬ nI c = 12 from fun h => absurd ((nI_eq (a := c) (b := 12) (by omega) (by omega)).mp h) (by omega))]
  show tModel_enter_b1 (tModel_enter_L 1999) _ (nI q) 0 = _
  unfold tModel_enter_b1
  simp only [mkM_i46, mkM_i47, mkM_i48, mkM_i49, mkM_i50, mkM_i51, mkM_i52, mkM_i34, mkM_i44, mkM_i45, mkM_r38, mkM_r39, mkM_r40, mkM_r41, mkM_r42, mkM_r43, mkM_r20, mkM_r21, mkM_r22, mkM_r23, mkM_r24, mkM_r25, mkM_r29, mkM_r30, mkM_r37, mkM_s46, mkM_s47, mkM_s48, mkM_s49, mkM_s50, mkM_s51, mkM_s52, mkM_t38, mkM_t39, mkM_t40, mkM_t41, mkM_t42, mkM_t43, tc_nI (show q < 2147483648 by omega), hz]
  rw [if_pos trivial, gdT (inI hq (by omega)), entL (x := 0) hc hq hB hd z 1999 bk hz4 (by omega) hv]
theorem m_enter12 {x : Int32} : tModel_enter (mkM g tk o D V (nI 12) t 0 ou ce bk bg sg vl) x = some (mkM g tk o D V (nI 12) t 2 ou ce bk bg sg vl) := by
  unfold tModel_enter
  simp only [mkM_i46, mkM_i47, mkM_i48, mkM_i49, mkM_i50, mkM_i51, mkM_i52, mkM_i34, mkM_i44, mkM_i45, mkM_r38, mkM_r39, mkM_r40, mkM_r41, mkM_r42, mkM_r43, mkM_r20, mkM_r21, mkM_r22, mkM_r23, mkM_r24, mkM_r25, mkM_r29, mkM_r30, mkM_r37, mkM_s46, mkM_s47, mkM_s48, mkM_s49, mkM_s50, mkM_s51, mkM_s52, mkM_t38, mkM_t39, mkM_t40, mkM_t41, mkM_t42, mkM_t43]
  rw [if_pos (show nI 12 = 12 from rfl)]
  show tModel_enter_b1 (tModel_enter_L 1999) _ x 0 = _
  unfold tModel_enter_b1
  exact if_neg (show ¬ (2 : Int32) = 0 by decide)
theorem m_enter400 {c : Nat} {x : Int32} (hc : c < 12) : tModel_enter (mkM g tk o D V (nI c) (nI 400) 0 ou ce bk bg sg vl) x = some (mkM g tk o D V (nI c) (nI 400) 2 ou ce bk bg sg vl) := by
  unfold tModel_enter
  have e : tModel_tick (mkM g tk o D V (nI c) (nI 400) 0 ou ce bk bg sg vl) = some (mkM g tk o D V (nI c) (nI 400) 2 ou ce bk bg sg vl) := by
    unfold tModel_tick
    simp only [mkM_i46, mkM_i47, mkM_i48, mkM_i49, mkM_i50, mkM_i51, mkM_i52, mkM_i34, mkM_i44, mkM_i45, mkM_r38, mkM_r39, mkM_r40, mkM_r41, mkM_r42, mkM_r43, mkM_r20, mkM_r21, mkM_r22, mkM_r23, mkM_r24, mkM_r25, mkM_r29, mkM_r30, mkM_r37, mkM_s46, mkM_s47, mkM_s48, mkM_s49, mkM_s50, mkM_s51, mkM_s52, mkM_t38, mkM_t39, mkM_t40, mkM_t41, mkM_t42, mkM_t43]
    rw [if_pos (show nI 400 = 400 from rfl)]
  rw [b1S e]
  simp only [mkM_i46, mkM_i47, mkM_i48, mkM_i49, mkM_i50, mkM_i51, mkM_i52, mkM_i34, mkM_i44, mkM_i45, mkM_r38, mkM_r39, mkM_r40, mkM_r41, mkM_r42, mkM_r43, mkM_r20, mkM_r21, mkM_r22, mkM_r23, mkM_r24, mkM_r25, mkM_r29, mkM_r30, mkM_r37, mkM_s46, mkM_s47, mkM_s48, mkM_s49, mkM_s50, mkM_s51, mkM_s52, mkM_t38, mkM_t39, mkM_t40, mkM_t41, mkM_t42, mkM_t43]
  rw [if_neg (show ¬ nI c = 12 from fun h => absurd ((nI_eq (a := c) (b := 12) (by omega) (by omega)).mp h) (by omega))]
  show tModel_enter_b1 (tModel_enter_L 1999) _ x 0 = _
  unfold tModel_enter_b1
  exact if_neg (show ¬ (2 : Int32) = 0 by decide)
end MC
