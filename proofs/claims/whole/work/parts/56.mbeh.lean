/-! What the walker does behind a node's first part; calls, lists, loops. -/
section MB
variable {g : St} {tk o D V f t s : Int32} {ou ce bk bg sg vl : Nat → Int32} {d v n N : Nat} {a2 : Int32}
theorem m_isIn {σ : St} {q z : Nat} {i : Int32} (hN : N < 500) (h1 : σ.2.2.1 24 N = nI q) (hq : q < 60) (h2 : σ.2.2.1 29 q = nI z) (hz : z < 2147483648) : tModel_isIn σ (nI N) i = some (if 0 ≤ i.toInt ∧ i.toInt < z then 1 else 0) := by
  unfold tModel_isIn
  rw [tc_nI (show N < 2147483648 by omega), h1, gdT (inI hN (by omega)), gdT (inI hq (by omega)), tc_nI (by omega), h2]
  by_cases h0 : i < 0
  · rw [if_pos h0, if_neg (by rw [ti_lt] at h0; simp at h0; omega)]
  · have h0' : 0 ≤ i.toInt := by rw [ti_lt] at h0; simp at h0; omega
    rw [if_neg h0]
    by_cases h3 : nI z ≤ i
    · rw [if_pos h3, if_neg (by rw [ti_le, ti_nI hz] at h3; omega)]
    · rw [if_neg h3, if_pos (by rw [ti_le, ti_nI hz] at h3; omega)]
theorem nI_addi {a : Nat} {i : Int32} (h0 : 0 ≤ i.toInt) : nI a + i = nI (a + i.toInt.toNat) := by
  have h := ti_hi i
  rw [← nI_add]; congr 1; exact eq_nI (by omega)
theorem h_elem {q a z : Nat} (hN : N < 500) (hk : g.2.2.1 20 N = 4) (h1 : g.2.2.1 24 N = nI q) (hq : q < 60) (h2 : g.2.2.1 29 q = nI z) (h3 : g.2.2.1 30 q = nI a) (haz : a + z ≤ 64) (hv : v < 400) : tModel_behindFirst (mkM g tk o (nI (d + 1)) (nI (v + 1)) f t s ou ce bk bg sg vl) (nI N) a2 = some (if 0 ≤ (vl v).toInt ∧ (vl v).toInt < z then mkM g tk o (nI d) (nI (v + 1)) f t s ou ce bk bg sg (upd vl v (ce (a + (vl v).toInt.toNat))) else mkM g tk o (nI (d + 1)) (nI v) f t 1 ou ce bk bg sg vl) := by
  unfold tModel_behindFirst
  simp only [mkM_i46, mkM_i47, mkM_i48, mkM_i49, mkM_i50, mkM_i51, mkM_i52, mkM_i34, mkM_i44, mkM_i45, mkM_r38, mkM_r39, mkM_r40, mkM_r41, mkM_r42, mkM_r43, mkM_r20, mkM_r21, mkM_r22, mkM_r23, mkM_r24, mkM_r25, mkM_r29, mkM_r30, mkM_r37, mkM_s46, mkM_s47, mkM_s48, mkM_s49, mkM_s50, mkM_s51, mkM_s52, mkM_t38, mkM_t39, mkM_t40, mkM_t41, mkM_t42, mkM_t43, tc_nI (show N < 2147483648 by omega), hk]
  rw [gdT (inI hN (by omega)), if_pos trivial, b1_id]
  unfold tModel_elementValue
  rw [b2S (m_pop hv), b1S (m_isIn (σ := mkM g tk o (nI (d + 1)) (nI v) f t s ou ce bk bg sg vl) hN h1 hq h2 (by omega))]
  simp only [mkM_i46, mkM_i47, mkM_i48, mkM_i49, mkM_i50, mkM_i51, mkM_i52, mkM_i34, mkM_i44, mkM_i45, mkM_r38, mkM_r39, mkM_r40, mkM_r41, mkM_r42, mkM_r43, mkM_r20, mkM_r21, mkM_r22, mkM_r23, mkM_r24, mkM_r25, mkM_r29, mkM_r30, mkM_r37, mkM_s46, mkM_s47, mkM_s48, mkM_s49, mkM_s50, mkM_s51, mkM_s52, mkM_t38, mkM_t39, mkM_t40, mkM_t41, mkM_t42, mkM_t43, tc_nI (show N < 2147483648 by omega), h1, tc_nI (show q < 2147483648 by omega), h3]
  by_cases h : 0 ≤ (vl v).toInt ∧ (vl v).toInt < z
  · rw [if_pos h, if_neg (by decide), gdT (inI hN (by omega)), gdT (inI hq (by omega)), nI_addi h.1, gdT (inI (by omega) (by omega)), tc_nI (by omega), b1_id, m_hand _ hv, if_pos h]
  · rw [if_neg h, if_pos rfl, if_neg h]
theorem h_sign {w : Int32} (hN : N < 500) (hk : g.2.2.1 20 N = 6) (hw : g.2.2.1 21 N = w) (hv : v < 400) : tModel_behindFirst (mkM g tk o (nI (d + 1)) (nI (v + 1)) f t s ou ce bk bg sg vl) (nI N) a2 = some (mkM g tk o (nI d) (nI (v + 1)) f t s ou ce bk bg sg (upd vl v (if w = 45 then -(vl v) else if w = 126 then vl v ^^^ (-1) else if vl v = 0 then 1 else 0))) := by
  unfold tModel_behindFirst
  simp only [mkM_i46, mkM_i47, mkM_i48, mkM_i49, mkM_i50, mkM_i51, mkM_i52, mkM_i34, mkM_i44, mkM_i45, mkM_r38, mkM_r39, mkM_r40, mkM_r41, mkM_r42, mkM_r43, mkM_r20, mkM_r21, mkM_r22, mkM_r23, mkM_r24, mkM_r25, mkM_r29, mkM_r30, mkM_r37, mkM_s46, mkM_s47, mkM_s48, mkM_s49, mkM_s50, mkM_s51, mkM_s52, mkM_t38, mkM_t39, mkM_t40, mkM_t41, mkM_t42, mkM_t43, tc_nI (show N < 2147483648 by omega), hk]
  rw [gdT (inI hN (by omega)), if_neg (by decide), if_neg (by decide), if_pos trivial, b1_id]
  unfold tModel_signed
  rw [b2S (m_pop hv)]
  simp only [mkM_i46, mkM_i47, mkM_i48, mkM_i49, mkM_i50, mkM_i51, mkM_i52, mkM_i34, mkM_i44, mkM_i45, mkM_r38, mkM_r39, mkM_r40, mkM_r41, mkM_r42, mkM_r43, mkM_r20, mkM_r21, mkM_r22, mkM_r23, mkM_r24, mkM_r25, mkM_r29, mkM_r30, mkM_r37, mkM_s46, mkM_s47, mkM_s48, mkM_s49, mkM_s50, mkM_s51, mkM_s52, mkM_t38, mkM_t39, mkM_t40, mkM_t41, mkM_t42, mkM_t43, tc_nI (show N < 2147483648 by omega), hw]
  rw [gdT (inI hN (by omega)), gdT (inI hN (by omega))]
  by_cases h1 : w = 45
  · rw [if_pos h1, if_pos h1, b1_id, m_hand _ hv]
  · rw [if_neg h1, if_neg h1]
    by_cases h2 : w = 126
    · rw [if_pos h2, if_pos h2, b1_id, m_hand _ hv]
    · rw [if_neg h2, if_neg h2]
      by_cases h3 : vl v = 0
      · rw [if_pos h3, if_pos h3]
        show b1 (tModel_hand _ 1) (fun u => some u) = _
        rw [b1_id, m_hand _ hv]
      · rw [if_neg h3, if_neg h3]
        show b1 (tModel_hand _ 0) (fun u => some u) = _
        rw [b1_id, m_hand _ hv]
theorem h_pairE (hN : N < 500) (hk : g.2.2.1 20 N = 7) : tModel_behindFirst (mkM g tk o (nI (d + 1)) (nI (v + 1)) f t s ou ce bk bg sg vl) (nI N) a2 = tModel_pair (mkM g tk o (nI (d + 1)) (nI (v + 1)) f t s ou ce bk bg sg vl) (nI N) a2 := by
  unfold tModel_behindFirst
  simp only [mkM_i46, mkM_i47, mkM_i48, mkM_i49, mkM_i50, mkM_i51, mkM_i52, mkM_i34, mkM_i44, mkM_i45, mkM_r38, mkM_r39, mkM_r40, mkM_r41, mkM_r42, mkM_r43, mkM_r20, mkM_r21, mkM_r22, mkM_r23, mkM_r24, mkM_r25, mkM_r29, mkM_r30, mkM_r37, mkM_s46, mkM_s47, mkM_s48, mkM_s49, mkM_s50, mkM_s51, mkM_s52, mkM_t38, mkM_t39, mkM_t40, mkM_t41, mkM_t42, mkM_t43, tc_nI (show N < 2147483648 by omega), hk]
  rw [gdT (inI hN (by omega)), if_neg (by decide), if_neg (by decide), if_neg (by decide), if_pos trivial, b1_id]
theorem pairL1 {x2 x3 x4 : Int32} (hN : N < 500) (h3 : ¬ x3 = 124 ∨ x4 = 0) (hd : d < 1600) : tModel_pair_L 2000 1 (mkM g tk o (nI d) V f t s ou ce bk bg sg vl) (nI N) x2 x3 x4 = some (mkM g tk o (nI (d + 1)) V f t s ou ce bk (upd bg d (g.2.2.1 23 N)) (upd sg d 0) vl) := by
  show tModel_pair_b1 (tModel_pair_L 1999) _ (nI N) x2 x3 x4 = _
  unfold tModel_pair_b1
  simp only [mkM_i46, mkM_i47, mkM_i48, mkM_i49, mkM_i50, mkM_i51, mkM_i52, mkM_i34, mkM_i44, mkM_i45, mkM_r38, mkM_r39, mkM_r40, mkM_r41, mkM_r42, mkM_r43, mkM_r20, mkM_r21, mkM_r22, mkM_r23, mkM_r24, mkM_r25, mkM_r29, mkM_r30, mkM_r37, mkM_s46, mkM_s47, mkM_s48, mkM_s49, mkM_s50, mkM_s51, mkM_s52, mkM_t38, mkM_t39, mkM_t40, mkM_t41, mkM_t42, mkM_t43, tc_nI (show N < 2147483648 by omega), b1_id, gdT (inI hN (show 500 < 2147483648 by omega)), m_start _ hd]
  rcases h3 with h | h
  · rw [if_neg h]
  · rw [if_pos h]; split <;> rfl
theorem pairL2a {x3 x4 : Int32} (n : Nat) (hv : v < 400) : tModel_pair_L (n + 1) 2 (mkM g tk o (nI (d + 1)) (nI (v + 1)) f t s ou ce bk bg sg vl) (nI N) 1 x3 x4 = some (mkM g tk o (nI d) (nI (v + 1)) f t s ou ce bk bg sg (upd vl v (tr (vl v)))) := by
  show tModel_pair_b2 (tModel_pair_L n) _ (nI N) 1 x3 x4 = _
  unfold tModel_pair_b2
  rw [b2S (m_pop hv), if_pos rfl]
  unfold tr
  by_cases h3 : vl v = 0
  · rw [if_pos h3, if_pos h3]
    show b1 (tModel_hand _ 0) (fun u => some u) = _
    rw [b1_id, m_hand _ hv]
  · rw [if_neg h3, if_neg h3]
    show b1 (tModel_hand _ 1) (fun u => some u) = _
    rw [b1_id, m_hand _ hv]
/-- a pair's first value is there: the second part begins, or the first says it all -/
def says (w x : Int32) : Prop := (w = 294 ∧ x = 0) ∨ (w = 380 ∧ ¬ x = 0)
theorem h_pair1 {w : Int32} (hN : N < 500) (hk : g.2.2.1 20 N = 7) (hw : g.2.2.1 21 N = w) (hc : strict w ∨ w = 294 ∨ w = 380) (hv : v < 400) (hd : d + 1 < 1600) (hs : ¬ says w (vl v)) : tModel_behindFirst (mkM g tk o (nI (d + 1)) (nI (v + 1)) f t s ou ce bk bg sg vl) (nI N) 1 = some (mkM g tk o (nI (d + 2)) (nI (v + 1)) f t s ou ce bk (upd bg (d + 1) (g.2.2.1 23 N)) (upd sg (d + 1) 0) vl) := by
  rw [h_pairE hN hk]
  unfold tModel_pair
  simp only [mkM_i46, mkM_i47, mkM_i48, mkM_i49, mkM_i50, mkM_i51, mkM_i52, mkM_i34, mkM_i44, mkM_i45, mkM_r38, mkM_r39, mkM_r40, mkM_r41, mkM_r42, mkM_r43, mkM_r20, mkM_r21, mkM_r22, mkM_r23, mkM_r24, mkM_r25, mkM_r29, mkM_r30, mkM_r37, mkM_s46, mkM_s47, mkM_s48, mkM_s49, mkM_s50, mkM_s51, mkM_s52, mkM_t38, mkM_t39, mkM_t40, mkM_t41, mkM_t42, mkM_t43, tc_nI (show N < 2147483648 by omega), hw, nI_pred, tc_nI (show v < 2147483648 by omega)]
  rw [gdT (inI hN (by omega)), gdT (inI hv (by omega)), if_pos trivial]
  by_cases h38 : w - 256 = 38
  · rw [if_pos h38]
    have hw' : w = 294 := by
      rcases hc with hc | hc | hc
      · rcases hc with rfl | rfl | rfl | rfl | rfl | rfl | rfl | rfl | rfl | rfl | rfl <;> exact absurd h38 (by decide)
      · exact hc
      · subst hc; exact absurd h38 (by decide)
    rw [if_neg (fun h => hs (Or.inl ⟨hw', h⟩)), pairL1 hN (Or.inl (by rw [h38]; decide)) hd]
  · rw [if_neg h38]
    refine pairL1 hN ?_ hd
    by_cases h124 : w - 256 = 124
    · have hw' : w = 380 := by
        rcases hc with hc | hc | hc
        · rcases hc with rfl | rfl | rfl | rfl | rfl | rfl | rfl | rfl | rfl | rfl | rfl <;> exact absurd h124 (by decide)
        · subst hc; exact absurd h124 (by decide)
        · exact hc
      by_cases hx : vl v = 0
      · exact Or.inr hx
      · exact absurd (Or.inr ⟨hw', hx⟩) hs
    · exact Or.inl h124
theorem h_pair1s {w : Int32} (hN : N < 500) (hk : g.2.2.1 20 N = 7) (hw : g.2.2.1 21 N = w) (hv : v < 400) (hs : says w (vl v)) : tModel_behindFirst (mkM g tk o (nI (d + 1)) (nI (v + 1)) f t s ou ce bk bg sg vl) (nI N) 1 = some (mkM g tk o (nI d) (nI (v + 1)) f t s ou ce bk bg sg (upd vl v (tr (vl v)))) := by
  rw [h_pairE hN hk]
  unfold tModel_pair
  simp only [mkM_i46, mkM_i47, mkM_i48, mkM_i49, mkM_i50, mkM_i51, mkM_i52, mkM_i34, mkM_i44, mkM_i45, mkM_r38, mkM_r39, mkM_r40, mkM_r41, mkM_r42, mkM_r43, mkM_r20, mkM_r21, mkM_r22, mkM_r23, mkM_r24, mkM_r25, mkM_r29, mkM_r30, mkM_r37, mkM_s46, mkM_s47, mkM_s48, mkM_s49, mkM_s50, mkM_s51, mkM_s52, mkM_t38, mkM_t39, mkM_t40, mkM_t41, mkM_t42, mkM_t43, tc_nI (show N < 2147483648 by omega), hw, nI_pred, tc_nI (show v < 2147483648 by omega)]
  rw [gdT (inI hN (by omega)), gdT (inI hv (by omega)), if_pos trivial]
  rcases hs with ⟨rfl, h0⟩ | ⟨rfl, h0⟩
  · rw [if_pos (by decide), if_pos h0, pairL2a 1999 hv]
  · rw [if_neg (by decide)]
    show tModel_pair_b1 (tModel_pair_L 1999) _ (nI N) 1 (380 - 256) (vl v) = _
    unfold tModel_pair_b1
    rw [if_pos (by decide), if_neg h0, pairL2a 1998 hv]
theorem h_pair2 {w r : Int32} (hN : N < 500) (hk : g.2.2.1 20 N = 7) (hw : g.2.2.1 21 N = w) (hv : v + 1 < 400) (h2 : ¬ a2 = 1) (hr : ∀ σ : St, tModel_combined σ w (vl v) (vl (v + 1)) = some r) : tModel_behindFirst (mkM g tk o (nI (d + 1)) (nI (v + 2)) f t s ou ce bk bg sg vl) (nI N) a2 = some (mkM g tk o (nI d) (nI (v + 1)) f t s ou ce bk bg sg (upd vl v r)) := by
  rw [h_pairE (v := v + 1) hN hk]
  unfold tModel_pair
  simp only [mkM_i46, mkM_i47, mkM_i48, mkM_i49, mkM_i50, mkM_i51, mkM_i52, mkM_i34, mkM_i44, mkM_i45, mkM_r38, mkM_r39, mkM_r40, mkM_r41, mkM_r42, mkM_r43, mkM_r20, mkM_r21, mkM_r22, mkM_r23, mkM_r24, mkM_r25, mkM_r29, mkM_r30, mkM_r37, mkM_s46, mkM_s47, mkM_s48, mkM_s49, mkM_s50, mkM_s51, mkM_s52, mkM_t38, mkM_t39, mkM_t40, mkM_t41, mkM_t42, mkM_t43, tc_nI (show N < 2147483648 by omega), hw, show nI (v + 1 + 1) - 1 = nI (v + 1) from nI_pred _, tc_nI (show v + 1 < 2147483648 by omega)]
  rw [gdT (inI hN (by omega)), gdT (inI hv (by omega)), if_neg h2]
  show tModel_pair_b2 (tModel_pair_L 1999) _ (nI N) a2 0 0 = _
  unfold tModel_pair_b2
  rw [b2S (m_pop (v := v + 1) hv), if_neg h2, gdT (inI hN (by omega)), b2S (m_pop (v := v) (by omega))]
  simp only [mkM_i46, mkM_i47, mkM_i48, mkM_i49, mkM_i50, mkM_i51, mkM_i52, mkM_i34, mkM_i44, mkM_i45, mkM_r38, mkM_r39, mkM_r40, mkM_r41, mkM_r42, mkM_r43, mkM_r20, mkM_r21, mkM_r22, mkM_r23, mkM_r24, mkM_r25, mkM_r29, mkM_r30, mkM_r37, mkM_s46, mkM_s47, mkM_s48, mkM_s49, mkM_s50, mkM_s51, mkM_s52, mkM_t38, mkM_t39, mkM_t40, mkM_t41, mkM_t42, mkM_t43, tc_nI (show N < 2147483648 by omega), hw]
  rw [b1S (hr _), b1_id, m_hand _ (by omega)]
theorem comb_and {σ : St} {w a b : Int32} (hw : w = 294 ∨ w = 380) : tModel_combined σ w a b = some (tr b) := by
  unfold tr
  rcases hw with rfl | rfl
  · show b1 (if b = 0 then b1 (tModel_bit σ 0) (fun r => some r) else b1 (tModel_bit σ 1) (fun r => some r)) (fun r => some r) = some (if b = 0 then 0 else 1)
    split <;> rfl
  · show b1 (if b = 0 then b1 (tModel_bit σ 0) (fun r => some r) else b1 (tModel_bit σ 1) (fun r => some r)) (fun r => some r) = some (if b = 0 then 0 else 1)
    split <;> rfl
/-! lists -/
theorem partL {σ : St} {Q : Nat → Int32} {i : Nat} (hi : i < 1000) (hQ : ∀ j, j < i → ∃ c, c < 500 ∧ Q j = nI c ∧ σ.2.2.1 25 c = Q (j + 1)) : ∀ (m j n : Nat), j + m = i → m < n → tModel_partAt_L n 1 σ (nI i) (Q j) (nI j) = some (Q i) := by
  intro m
  induction m with
  | zero =>
    intro j n hj hn
    obtain ⟨n, rfl⟩ : ∃ n', n = n' + 1 := ⟨n - 1, by omega⟩
    show tModel_partAt_b1 (tModel_partAt_L n) σ (nI i) (Q j) (nI j) = _
    unfold tModel_partAt_b1
    rw [if_pos (nI_le (by omega) (by omega)), show j = i by omega]
  | succ m ih =>
    intro j n hj hn
    obtain ⟨n, rfl⟩ : ∃ n', n = n' + 1 := ⟨n - 1, by omega⟩
    obtain ⟨c, hc, h1, h2⟩ := hQ j (by omega)
    show tModel_partAt_b1 (tModel_partAt_L n) σ (nI i) (Q j) (nI j) = _
    unfold tModel_partAt_b1
    rw [if_neg (nI_ge (by omega) (by omega)), h1, if_neg (nI_pos (by omega)), gdT (inI hc (by omega)), tc_nI (by omega), h2, nI_1]
    exact ih (j + 1) n (by omega) (by omega)
theorem m_part {σ : St} {Q : Nat → Int32} {i : Nat} (hN : N < 500) (hi : i < 1000) (h0 : σ.2.2.1 22 N = Q 0) (hQ : ∀ j, j < i → ∃ c, c < 500 ∧ Q j = nI c ∧ σ.2.2.1 25 c = Q (j + 1)) : tModel_partAt σ (nI N) (nI i) = some (Q i) := by
  unfold tModel_partAt
  rw [gdT (inI hN (by omega)), tc_nI (by omega), h0]
  exact partL hi hQ i 0 2000 (by omega) (by omega)
end MB
