/-! The walker at calls, blocks and loops. -/
section MD
variable {g : St} {tk o D V f t s : Int32} {ou ce bk bg sg vl : Nat → Int32} {d v n N i : Nat}
theorem g_call (hd : d < 1600) (hN : bg d = nI N) (hN2 : N < 500) (hk : g.2.2.1 20 N = 5) : tModel_goOn (mkM g tk o (nI (d + 1)) V f t s ou ce bk bg sg vl) = tModel_call (mkM g tk o (nI (d + 1)) V f t s ou ce bk bg (upd sg d (sg d + 1)) vl) (nI N) (sg d) := by
  rw [go_open hd hN hN2, hk]; rfl
theorem g_arg {Q : Nat → Int32} (hd : d + 1 < 1600) (hN : bg d = nI N) (hN2 : N < 500) (hk : g.2.2.1 20 N = 5) (hs : sg d = nI i) (hw : g.2.2.1 21 N = nI n) (hi : i < n) (hn : n < 1000) (h0 : g.2.2.1 22 N = Q 0) (hQ : ∀ j, j < i → ∃ c, c < 500 ∧ Q j = nI c ∧ g.2.2.1 25 c = Q (j + 1)) : tModel_goOn (mkM g tk o (nI (d + 1)) V f t s ou ce bk bg sg vl) = some (mkM g tk o (nI (d + 2)) V f t s ou ce bk (upd bg (d + 1) (Q i)) (upd (upd sg d (nI (i + 1))) (d + 1) 0) vl) := by
  rw [g_call (by omega) hN hN2 hk, hs, nI_1]
  unfold tModel_call
  rw [gdT (inI hN2 (by omega)), b1S (m_part (σ := mkM g tk o (nI (d + 1)) V f t s ou ce bk bg (upd sg d (nI (i + 1))) vl) hN2 (by omega) h0 hQ), b1_id, m_start _ hd]
  simp only [mkM_i46, mkM_i47, mkM_i48, mkM_i49, mkM_i50, mkM_i51, mkM_i52, mkM_i34, mkM_i44, mkM_i45, mkM_r38, mkM_r39, mkM_r40, mkM_r41, mkM_r42, mkM_r43, mkM_r20, mkM_r21, mkM_r22, mkM_r23, mkM_r24, mkM_r25, mkM_r29, mkM_r30, mkM_r37, mkM_s46, mkM_s47, mkM_s48, mkM_s49, mkM_s50, mkM_s51, mkM_s52, mkM_t38, mkM_t39, mkM_t40, mkM_t41, mkM_t42, mkM_t43, tc_nI (show N < 2147483648 by omega), hw]
  rw [if_neg (nI_ge hi (by omega))]
  rfl
theorem g_enter (hd : d < 1600) (hN : bg d = nI N) (hN2 : N < 500) (hk : g.2.2.1 20 N = 5) (hs : sg d = nI n) (hw : g.2.2.1 21 N = nI n) (hn : n < 1000) : tModel_goOn (mkM g tk o (nI (d + 1)) V f t s ou ce bk bg sg vl) = tModel_enter (mkM g tk o (nI (d + 1)) V f t s ou ce bk bg (upd sg d (nI (n + 1))) vl) (g.2.2.1 24 N) := by
  rw [g_call hd hN hN2 hk, hs, nI_1]
  unfold tModel_call
  rw [gdT (inI hN2 (by omega))]
  simp only [mkM_i46, mkM_i47, mkM_i48, mkM_i49, mkM_i50, mkM_i51, mkM_i52, mkM_i34, mkM_i44, mkM_i45, mkM_r38, mkM_r39, mkM_r40, mkM_r41, mkM_r42, mkM_r43, mkM_r20, mkM_r21, mkM_r22, mkM_r23, mkM_r24, mkM_r25, mkM_r29, mkM_r30, mkM_r37, mkM_s46, mkM_s47, mkM_s48, mkM_s49, mkM_s50, mkM_s51, mkM_s52, mkM_t38, mkM_t39, mkM_t40, mkM_t41, mkM_t42, mkM_t43, tc_nI (show N < 2147483648 by omega), hw]
  rw [if_pos (nI_le (Nat.le_refl _) (by omega)), gdT (inI hN2 (by omega)), if_pos trivial, gdT (inI hN2 (by omega)), b1_id]
theorem g_leave (hd : d < 1600) (hN : bg d = nI N) (hN2 : N < 500) (hk : g.2.2.1 20 N = 5) (hs : sg d = nI (n + 1)) (hw : g.2.2.1 21 N = nI n) (hn : n < 1000) : tModel_goOn (mkM g tk o (nI (d + 1)) V f t s ou ce bk bg sg vl) = tModel_leave (mkM g tk o (nI (d + 1)) V f t s ou ce bk bg (upd sg d (nI (n + 2))) vl) 0 := by
  rw [g_call hd hN hN2 hk, hs, nI_1]
  unfold tModel_call
  rw [gdT (inI hN2 (by omega))]
  simp only [mkM_i46, mkM_i47, mkM_i48, mkM_i49, mkM_i50, mkM_i51, mkM_i52, mkM_i34, mkM_i44, mkM_i45, mkM_r38, mkM_r39, mkM_r40, mkM_r41, mkM_r42, mkM_r43, mkM_r20, mkM_r21, mkM_r22, mkM_r23, mkM_r24, mkM_r25, mkM_r29, mkM_r30, mkM_r37, mkM_s46, mkM_s47, mkM_s48, mkM_s49, mkM_s50, mkM_s51, mkM_s52, mkM_t38, mkM_t39, mkM_t40, mkM_t41, mkM_t42, mkM_t43, tc_nI (show N < 2147483648 by omega), hw]
  rw [if_pos (nI_le (by omega) (by omega)), gdT (inI hN2 (by omega)), if_neg (show ¬ nI (n + 1) = nI n from fun h => absurd ((nI_eq (by omega) (by omega)).mp h) (by omega)), b1_id]
theorem g_block {Q : Nat → Int32} (hd : d < 1600) (hN : bg d = nI N) (hN2 : N < 500) (hk : g.2.2.1 20 N = 10) (hs : sg d = nI i) (hi : i < 1000) (h0 : g.2.2.1 22 N = Q 0) (hQ : ∀ j, j < i → ∃ c, c < 500 ∧ Q j = nI c ∧ g.2.2.1 25 c = Q (j + 1)) : tModel_goOn (mkM g tk o (nI (d + 1)) V f t s ou ce bk bg sg vl) = tModel_startOr (mkM g tk o (nI (d + 1)) V f t s ou ce bk bg (upd sg d (nI (i + 1))) vl) (Q i) := by
  rw [go_open hd hN hN2, hk, hs, nI_1]
  show b1 (tModel_partAt _ (nI N) (nI i)) (fun r => tModel_startOr _ r) = _
  rw [b1S (m_part (σ := mkM g tk o (nI (d + 1)) V f t s ou ce bk bg (upd sg d (nI (i + 1))) vl) hN2 hi h0 hQ)]
theorem g_loop (hd : d < 1600) (hN : bg d = nI N) (hN2 : N < 500) (hk : g.2.2.1 20 N = 14) : tModel_goOn (mkM g tk o (nI (d + 1)) V f t s ou ce bk bg sg vl) = tModel_loop (mkM g tk o (nI (d + 1)) V f t s ou ce bk bg (upd sg d (sg d + 1)) vl) (nI N) (sg d) := by
  rw [go_open hd hN hN2, hk]; rfl
theorem g_while0 {t0 : Nat} (hd : d + 1 < 1600) (hN : bg d = nI N) (hN2 : N < 500) (hk : g.2.2.1 20 N = 14) (hs : sg d = 0) (ht : t0 < 400) : tModel_goOn (mkM g tk o (nI (d + 1)) V f (nI t0) 0 ou ce bk bg sg vl) = some (mkM g tk o (nI (d + 2)) V f (nI (t0 + 1)) 0 ou ce bk (upd bg (d + 1) (g.2.2.1 22 N)) (upd (upd sg d 1) (d + 1) 0) vl) := by
  rw [g_loop (by omega) hN hN2 hk, hs]
  unfold tModel_loop
  have e : tModel_tick (mkM g tk o (nI (d + 1)) V f (nI t0) 0 ou ce bk bg (upd sg d (0 + 1)) vl) = some (mkM g tk o (nI (d + 1)) V f (nI (t0 + 1)) 0 ou ce bk bg (upd sg d (0 + 1)) vl) := by
    unfold tModel_tick
    simp only [mkM_i46, mkM_i47, mkM_i48, mkM_i49, mkM_i50, mkM_i51, mkM_i52, mkM_i34, mkM_i44, mkM_i45, mkM_r38, mkM_r39, mkM_r40, mkM_r41, mkM_r42, mkM_r43, mkM_r20, mkM_r21, mkM_r22, mkM_r23, mkM_r24, mkM_r25, mkM_r29, mkM_r30, mkM_r37, mkM_s46, mkM_s47, mkM_s48, mkM_s49, mkM_s50, mkM_s51, mkM_s52, mkM_t38, mkM_t39, mkM_t40, mkM_t41, mkM_t42, mkM_t43, nI_1]
    rw [if_neg (show ¬ nI t0 = 400 from fun h => absurd ((nI_eq (a := t0) (b := 400) (by omega) (by omega)).mp h) (by omega))]
  rw [if_pos rfl, b1S e]
  show tModel_loop_b1 (tModel_loop_L 1999) _ (nI N) 0 = _
  unfold tModel_loop_b1
  simp only [mkM_i46, mkM_i47, mkM_i48, mkM_i49, mkM_i50, mkM_i51, mkM_i52, mkM_i34, mkM_i44, mkM_i45, mkM_r38, mkM_r39, mkM_r40, mkM_r41, mkM_r42, mkM_r43, mkM_r20, mkM_r21, mkM_r22, mkM_r23, mkM_r24, mkM_r25, mkM_r29, mkM_r30, mkM_r37, mkM_s46, mkM_s47, mkM_s48, mkM_s49, mkM_s50, mkM_s51, mkM_s52, mkM_t38, mkM_t39, mkM_t40, mkM_t41, mkM_t42, mkM_t43, tc_nI (show N < 2147483648 by omega), b1_id]
  rw [if_pos trivial, if_pos trivial, gdT (inI hN2 (by omega)), m_start _ hd]; rfl
theorem g_while400 (hd : d < 1600) (hN : bg d = nI N) (hN2 : N < 500) (hk : g.2.2.1 20 N = 14) (hs : sg d = 0) : ∃ sg', tModel_goOn (mkM g tk o (nI (d + 1)) V f (nI 400) 0 ou ce bk bg sg vl) = some (mkM g tk o (nI (d + 1)) V f (nI 400) 2 ou ce bk bg sg' vl) := by
  rw [g_loop hd hN hN2 hk, hs]
  unfold tModel_loop
  have e : tModel_tick (mkM g tk o (nI (d + 1)) V f (nI 400) 0 ou ce bk bg (upd sg d (0 + 1)) vl) = some (mkM g tk o (nI (d + 1)) V f (nI 400) 2 ou ce bk bg (upd sg d (0 + 1)) vl) := by
    unfold tModel_tick
    simp only [mkM_i46, mkM_i47, mkM_i48, mkM_i49, mkM_i50, mkM_i51, mkM_i52, mkM_i34, mkM_i44, mkM_i45, mkM_r38, mkM_r39, mkM_r40, mkM_r41, mkM_r42, mkM_r43, mkM_r20, mkM_r21, mkM_r22, mkM_r23, mkM_r24, mkM_r25, mkM_r29, mkM_r30, mkM_r37, mkM_s46, mkM_s47, mkM_s48, mkM_s49, mkM_s50, mkM_s51, mkM_s52, mkM_t38, mkM_t39, mkM_t40, mkM_t41, mkM_t42, mkM_t43]
    rw [if_pos (show nI 400 = 400 from rfl)]
  rw [if_pos rfl, b1S e]
  refine ⟨upd sg d (0 + 1), ?_⟩
  show tModel_loop_b1 (tModel_loop_L 1999) _ (nI N) 0 = _
  unfold tModel_loop_b1
  exact if_neg (show ¬ (2 : Int32) = 0 by decide)
theorem g_while1 (hd : d < 1600) (hN : bg d = nI N) (hN2 : N < 500) (hk : g.2.2.1 20 N = 14) (hs : sg d = 1) (hv : v < 400) : tModel_goOn (mkM g tk o (nI (d + 1)) (nI (v + 1)) f t 0 ou ce bk bg sg vl) = tModel_startOr (mkM g tk o (nI (d + 1)) (nI v) f t 0 ou ce bk bg (upd sg d 2) vl) (if vl v = 0 then -1 else g.2.2.1 23 N) := by
  rw [g_loop hd hN hN2 hk, hs]
  unfold tModel_loop
  rw [if_neg (by decide)]
  show tModel_loop_b1 (tModel_loop_L 1999) _ (nI N) 1 = _
  unfold tModel_loop_b1
  rw [if_pos (show (mkM g tk o (nI (d + 1)) (nI (v + 1)) f t 0 ou ce bk bg (upd sg d (1 + 1)) vl).1 52 = 0 from rfl), if_neg (by decide), if_pos rfl, b2S (m_pop hv)]
  simp only [mkM_i46, mkM_i47, mkM_i48, mkM_i49, mkM_i50, mkM_i51, mkM_i52, mkM_i34, mkM_i44, mkM_i45, mkM_r38, mkM_r39, mkM_r40, mkM_r41, mkM_r42, mkM_r43, mkM_r20, mkM_r21, mkM_r22, mkM_r23, mkM_r24, mkM_r25, mkM_r29, mkM_r30, mkM_r37, mkM_s46, mkM_s47, mkM_s48, mkM_s49, mkM_s50, mkM_s51, mkM_s52, mkM_t38, mkM_t39, mkM_t40, mkM_t41, mkM_t42, mkM_t43, tc_nI (show N < 2147483648 by omega), b1_id, gdT (inI hN2 (show 500 < 2147483648 by omega))]
  by_cases h : vl v = 0
  · rw [if_pos h, if_pos h]; rfl
  · rw [if_neg h, if_neg h]; rfl
theorem g_while2 (hd : d < 1600) (hN : bg d = nI N) (hN2 : N < 500) (hk : g.2.2.1 20 N = 14) (hs : sg d = 2) : ∃ sg', tModel_goOn (mkM g tk o (nI (d + 1)) V f t 0 ou ce bk bg sg vl) = some (mkM g tk o (nI (d + 1)) V f t 0 ou ce bk bg sg' vl) ∧ sg' d = 0 ∧ ∀ j, j ≠ d → sg' j = sg j := by
  rw [g_loop hd hN hN2 hk, hs]
  unfold tModel_loop
  rw [if_neg (by decide)]
  refine ⟨upd (upd sg d (2 + 1)) d 0, ?_, upd_e, fun j hj => by rw [upd_n hj, upd_n hj]⟩
  show tModel_loop_b1 (tModel_loop_L 1999) _ (nI N) 2 = _
  unfold tModel_loop_b1
  rw [if_pos (show (mkM g tk o (nI (d + 1)) V f t 0 ou ce bk bg (upd sg d (2 + 1)) vl).1 52 = 0 from rfl), if_neg (by decide), if_neg (by decide)]
  simp only [mkM_i46, mkM_i47, mkM_i48, mkM_i49, mkM_i50, mkM_i51, mkM_i52, mkM_i34, mkM_i44, mkM_i45, mkM_r38, mkM_r39, mkM_r40, mkM_r41, mkM_r42, mkM_r43, mkM_r20, mkM_r21, mkM_r22, mkM_r23, mkM_r24, mkM_r25, mkM_r29, mkM_r30, mkM_r37, mkM_s46, mkM_s47, mkM_s48, mkM_s49, mkM_s50, mkM_s51, mkM_s52, mkM_t38, mkM_t39, mkM_t40, mkM_t41, mkM_t42, mkM_t43, nI_pred]
  rw [gdT (inI hd (by omega)), tc_nI (by omega)]
end MD
