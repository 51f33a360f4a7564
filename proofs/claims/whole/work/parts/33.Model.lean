theorem d_Model_signed_0 : decode b_Model_signed 0 = .ok (.aload_n 0, 1) := by decide +kernel
theorem d_Model_signed_1 : decode b_Model_signed 1 = .ok (.invokevirtual 421, 3) := by decide +kernel
theorem d_Model_signed_4 : decode b_Model_signed 4 = .ok (.istore_n 2, 1) := by decide +kernel
theorem d_Model_signed_5 : decode b_Model_signed 5 = .ok (.aload_n 0, 1) := by decide +kernel
theorem d_Model_signed_6 : decode b_Model_signed 6 = .ok (.aload_n 0, 1) := by decide +kernel
theorem d_Model_signed_7 : decode b_Model_signed 7 = .ok (.getfield 33, 3) := by decide +kernel
theorem d_Model_signed_10 : decode b_Model_signed 10 = .ok (.iload_n 1, 1) := by decide +kernel
theorem d_Model_signed_11 : decode b_Model_signed 11 = .ok (.iaload, 1) := by decide +kernel
theorem d_Model_signed_12 : decode b_Model_signed 12 = .ok (.bipush 45, 2) := by decide +kernel
theorem d_Model_signed_14 : decode b_Model_signed 14 = .ok (.if_icmp .ne 8, 3) := by decide +kernel
theorem d_Model_signed_17 : decode b_Model_signed 17 = .ok (.iload_n 2, 1) := by decide +kernel
theorem d_Model_signed_18 : decode b_Model_signed 18 = .ok (.ineg, 1) := by decide +kernel
theorem d_Model_signed_19 : decode b_Model_signed 19 = .ok (.goto 32, 3) := by decide +kernel
theorem d_Model_signed_22 : decode b_Model_signed 22 = .ok (.aload_n 0, 1) := by decide +kernel
theorem d_Model_signed_23 : decode b_Model_signed 23 = .ok (.getfield 33, 3) := by decide +kernel
theorem d_Model_signed_26 : decode b_Model_signed 26 = .ok (.iload_n 1, 1) := by decide +kernel
theorem d_Model_signed_27 : decode b_Model_signed 27 = .ok (.iaload, 1) := by decide +kernel
theorem d_Model_signed_28 : decode b_Model_signed 28 = .ok (.bipush 126, 2) := by decide +kernel
theorem d_Model_signed_30 : decode b_Model_signed 30 = .ok (.if_icmp .ne 9, 3) := by decide +kernel
theorem d_Model_signed_33 : decode b_Model_signed 33 = .ok (.iload_n 2, 1) := by decide +kernel
theorem d_Model_signed_34 : decode b_Model_signed 34 = .ok (.iconst (-1), 1) := by decide +kernel
theorem d_Model_signed_35 : decode b_Model_signed 35 = .ok (.ixor, 1) := by decide +kernel
theorem d_Model_signed_36 : decode b_Model_signed 36 = .ok (.goto 15, 3) := by decide +kernel
theorem d_Model_signed_39 : decode b_Model_signed 39 = .ok (.iload_n 2, 1) := by decide +kernel
theorem d_Model_signed_40 : decode b_Model_signed 40 = .ok (.ifCond .ne 7, 3) := by decide +kernel
theorem d_Model_signed_43 : decode b_Model_signed 43 = .ok (.iconst 1, 1) := by decide +kernel
theorem d_Model_signed_44 : decode b_Model_signed 44 = .ok (.goto 4, 3) := by decide +kernel
theorem d_Model_signed_47 : decode b_Model_signed 47 = .ok (.iconst 0, 1) := by decide +kernel
theorem d_Model_signed_48 : decode b_Model_signed 48 = .ok (.invokestatic 410, 3) := by decide +kernel
theorem d_Model_signed_51 : decode b_Model_signed 51 = .ok (.invokevirtual 427, 3) := by decide +kernel
theorem d_Model_signed_54 : decode b_Model_signed 54 = .ok (.return_, 1) := by decide +kernel
def tModel_signed (σ : St) (a1 : Int32) : Option (St) := b2 (tModel_popValue σ) (fun r1 u1 => gd (inB a1 500) (if ((u1.2.2.1 21) a1.toNatClampNeg) = 45 then b1 (tModel_hand u1 (-r1)) (fun u12 => some u12) else gd (inB a1 500) (if ((u1.2.2.1 21) a1.toNatClampNeg) = 126 then b1 (tModel_hand u1 (r1 ^^^ (-1))) (fun u11 => some u11) else if r1 = 0 then b1 (tModel_bit u1 1) (fun r9 => b1 (tModel_hand u1 r9) (fun u10 => some u10)) else b1 (tModel_bit u1 0) (fun r7 => b1 (tModel_hand u1 r7) (fun u8 => some u8)))))
set_option maxHeartbeats 4000000 in
set_option maxRecDepth 100000 in
theorem ct_Model_signed (l : Launch) (dC : Nat → ClassId) (dI : Nat → Nat → Nat) (ad : Nat → Nat) (cA : Nat → ClassId) (sz : Nat) {σ : St} {a1 : Int32} {σ' : St} (hF : tModel_signed σ a1 = some σ') : MV l y_Model_signed b_Model_signed 3 none { frames := 1, cells := 0, slots := 0, locals := 21 } (dC, dI) (ttys cA) ad (tcw ad cA) [.ref (ad 11), .int a1] σ sz σ' := by
  refine startM (own := "TinyForgeModel") (Qc := fun A => QV (dC, dI) (ttys cA) (tcw ad cA) A σ') rfl rfl (Nat.le_of_ble_eq_true rfl) ?_
  intro p e s m below meth c A H locs ls X hP hD hS hl
  have hl : lv_has ls 3 [(0, .ref (ad 11)), (1, .int a1)] := hl
  obtain ⟨hx, hb, hr, hml, hown, hlocks, hts, hA, hK, hZ⟩ := id X
  unfold tModel_signed at hF
  refine lv_aload_n hx hb d_Model_signed_0 rfl (lv_at hl 0 rfl) ?_
  obtain ⟨r1, u1, h1, hF⟩ := b2E hF
  refine callVI (As := []) X (ct_Model_popValue l dC dI ad cA H.size h1) lk_Model_421 ⟨rfl, rfl, by decide, by decide⟩ 11 rfl rfl hP hD hS hl.1 rfl rfl (Nat.le_of_ble_eq_true rfl) d_Model_signed_1 (fun H locs hP hD hS => ?_)
  refine lv_istore_n (lv' := [(2, .int r1), (0, .ref (ad 11)), (1, .int a1)]) hx hb d_Model_signed_4 rfl hl (by decide) rfl (fun ls hl => ?_)
  refine lv_aload_n hx hb d_Model_signed_5 rfl (lv_at hl 1 rfl) ?_
  refine lv_aload_n hx hb d_Model_signed_6 rfl (lv_at hl 1 rfl) ?_
  refine va_get (D := (dC, dI)) (ci := 11) (v := .ref (ad 36)) hx hb hts i_Model hown hK hP 11 rfl rfl 15 (by decide) (hts _ w_70f5434828) (fun _ h9 => h9) rfl d_Model_signed_7 ?_
  refine lv_iload_n hx hb d_Model_signed_10 rfl (lv_at hl 2 rfl) ?_
  obtain ⟨g_2, hF⟩ := gdE hF
  refine va_iald (f := (u1.2.2.1 21)) hx hb hK hP 36 0 rfl rfl (inE g_2) d_Model_signed_11 ?_
  refine lv_bipush (v := 45) hx hb d_Model_signed_12 (by decide) ?_
  refine lv_icmp_ne (tgt := 22) hx hb d_Model_signed_14 (by decide) (fun c_3 => ?_) (fun c_3 => ?_)
  · have hF := ifn hF c_3
    refine lv_aload_n hx hb d_Model_signed_22 rfl (lv_at hl 1 rfl) ?_
    refine va_get (D := (dC, dI)) (ci := 11) (v := .ref (ad 36)) hx hb hts i_Model hown hK hP 11 rfl rfl 15 (by decide) (hts _ w_70f5434828) (fun _ h9 => h9) rfl d_Model_signed_23 ?_
    refine lv_iload_n hx hb d_Model_signed_26 rfl (lv_at hl 2 rfl) ?_
    obtain ⟨g_4, hF⟩ := gdE hF
    refine va_iald (f := (u1.2.2.1 21)) hx hb hK hP 36 0 rfl rfl (inE g_4) d_Model_signed_27 ?_
    refine lv_bipush (v := 126) hx hb d_Model_signed_28 (by decide) ?_
    refine lv_icmp_ne (tgt := 39) hx hb d_Model_signed_30 (by decide) (fun c_5 => ?_) (fun c_5 => ?_)
    · have hF := ifn hF c_5
      refine lv_iload_n hx hb d_Model_signed_39 rfl (lv_at hl 0 rfl) ?_
      refine lv_if_ne (tgt := 47) hx hb d_Model_signed_40 (by decide) (fun c_6 => ?_) (fun c_6 => ?_)
      · have hF := ifn hF c_6
        refine lv_iconst (v := 0) hx hb d_Model_signed_47 (by decide) ?_
        obtain ⟨r7, h7, hF⟩ := b1E hF
        refine callSI (As := [.int 0]) X (ct_Model_bit l dC dI ad cA H.size h7) lk_Model_410 ⟨rfl, rfl, by decide, by decide⟩ hP hD hS hl.1 rfl rfl (Nat.le_of_ble_eq_true rfl) d_Model_signed_48 (fun H locs hP hD hS => ?_)
        obtain ⟨u8, h8, hF⟩ := b1E hF
        refine callVV (As := [.int r7]) X (ct_Model_hand l dC dI ad cA H.size h8) lk_Model_427 ⟨rfl, rfl, by decide, by decide⟩ 11 rfl rfl hP hD hS hl.1 rfl rfl (Nat.le_of_ble_eq_true rfl) d_Model_signed_51 (fun H locs hP hD hS => ?_)
        cases hF
        exact leafV X hP hD hS d_Model_signed_54
      · have hF := ifp hF c_6
        refine lv_iconst (v := 1) hx hb d_Model_signed_43 (by decide) ?_
        refine lv_goto (tgt := 48) hx hb d_Model_signed_44 (by decide) ?_
        obtain ⟨r9, h9, hF⟩ := b1E hF
        refine callSI (As := [.int 1]) X (ct_Model_bit l dC dI ad cA H.size h9) lk_Model_410 ⟨rfl, rfl, by decide, by decide⟩ hP hD hS hl.1 rfl rfl (Nat.le_of_ble_eq_true rfl) d_Model_signed_48 (fun H locs hP hD hS => ?_)
        obtain ⟨u10, h10, hF⟩ := b1E hF
        refine callVV (As := [.int r9]) X (ct_Model_hand l dC dI ad cA H.size h10) lk_Model_427 ⟨rfl, rfl, by decide, by decide⟩ 11 rfl rfl hP hD hS hl.1 rfl rfl (Nat.le_of_ble_eq_true rfl) d_Model_signed_51 (fun H locs hP hD hS => ?_)
        cases hF
        exact leafV X hP hD hS d_Model_signed_54
    · have hF := ifp hF c_5
      refine lv_iload_n hx hb d_Model_signed_33 rfl (lv_at hl 0 rfl) ?_
      refine lv_iconst (v := (-1)) hx hb d_Model_signed_34 (by decide) ?_
      refine lv_ixor hx hb d_Model_signed_35 ?_
      refine lv_goto (tgt := 51) hx hb d_Model_signed_36 (by decide) ?_
      obtain ⟨u11, h11, hF⟩ := b1E hF
      refine callVV (As := [.int (r1 ^^^ (-1))]) X (ct_Model_hand l dC dI ad cA H.size h11) lk_Model_427 ⟨rfl, rfl, by decide, by decide⟩ 11 rfl rfl hP hD hS hl.1 rfl rfl (Nat.le_of_ble_eq_true rfl) d_Model_signed_51 (fun H locs hP hD hS => ?_)
      cases hF
      exact leafV X hP hD hS d_Model_signed_54
  · have hF := ifp hF c_3
    refine lv_iload_n hx hb d_Model_signed_17 rfl (lv_at hl 0 rfl) ?_
    refine lv_ineg hx hb d_Model_signed_18 ?_
    refine lv_goto (tgt := 51) hx hb d_Model_signed_19 (by decide) ?_
    obtain ⟨u12, h12, hF⟩ := b1E hF
    refine callVV (As := [.int (-r1)]) X (ct_Model_hand l dC dI ad cA H.size h12) lk_Model_427 ⟨rfl, rfl, by decide, by decide⟩ 11 rfl rfl hP hD hS hl.1 rfl rfl (Nat.le_of_ble_eq_true rfl) d_Model_signed_51 (fun H locs hP hD hS => ?_)
    cases hF
    exact leafV X hP hD hS d_Model_signed_54
theorem d_Model_startOr_0 : decode b_Model_startOr 0 = .ok (.iload_n 1, 1) := by decide +kernel
theorem d_Model_startOr_1 : decode b_Model_startOr 1 = .ok (.ifCond .lt 11, 3) := by decide +kernel
theorem d_Model_startOr_4 : decode b_Model_startOr 4 = .ok (.aload_n 0, 1) := by decide +kernel
theorem d_Model_startOr_5 : decode b_Model_startOr 5 = .ok (.iload_n 1, 1) := by decide +kernel
theorem d_Model_startOr_6 : decode b_Model_startOr 6 = .ok (.invokevirtual 418, 3) := by decide +kernel
theorem d_Model_startOr_9 : decode b_Model_startOr 9 = .ok (.goto 13, 3) := by decide +kernel
theorem d_Model_startOr_12 : decode b_Model_startOr 12 = .ok (.aload_n 0, 1) := by decide +kernel
theorem d_Model_startOr_13 : decode b_Model_startOr 13 = .ok (.dup, 1) := by decide +kernel
theorem d_Model_startOr_14 : decode b_Model_startOr 14 = .ok (.getfield 401, 3) := by decide +kernel
theorem d_Model_startOr_17 : decode b_Model_startOr 17 = .ok (.iconst 1, 1) := by decide +kernel
theorem d_Model_startOr_18 : decode b_Model_startOr 18 = .ok (.isub, 1) := by decide +kernel
theorem d_Model_startOr_19 : decode b_Model_startOr 19 = .ok (.putfield 401, 3) := by decide +kernel
theorem d_Model_startOr_22 : decode b_Model_startOr 22 = .ok (.return_, 1) := by decide +kernel
def tModel_startOr (σ : St) (a1 : Int32) : Option (St) := if a1 < 0 then some (sI σ 48 ((σ.1 48) - 1)) else b1 (tModel_start σ a1) (fun u2 => some u2)
set_option maxHeartbeats 4000000 in
set_option maxRecDepth 100000 in
theorem ct_Model_startOr (l : Launch) (dC : Nat → ClassId) (dI : Nat → Nat → Nat) (ad : Nat → Nat) (cA : Nat → ClassId) (sz : Nat) {σ : St} {a1 : Int32} {σ' : St} (hF : tModel_startOr σ a1 = some σ') : MV l y_Model_startOr b_Model_startOr 2 none { frames := 1, cells := 0, slots := 0, locals := 21 } (dC, dI) (ttys cA) ad (tcw ad cA) [.ref (ad 11), .int a1] σ sz σ' := by
  refine startM (own := "TinyForgeModel") (Qc := fun A => QV (dC, dI) (ttys cA) (tcw ad cA) A σ') rfl rfl (Nat.le_of_ble_eq_true rfl) ?_
  intro p e s m below meth c A H locs ls X hP hD hS hl
  have hl : lv_has ls 2 [(0, .ref (ad 11)), (1, .int a1)] := hl
  obtain ⟨hx, hb, hr, hml, hown, hlocks, hts, hA, hK, hZ⟩ := id X
  unfold tModel_startOr at hF
  refine lv_iload_n hx hb d_Model_startOr_0 rfl (lv_at hl 1 rfl) ?_
  refine lv_if_lt (tgt := 12) hx hb d_Model_startOr_1 (by decide) (fun c_1 => ?_) (fun c_1 => ?_)
  · have hF := ifp hF c_1
    refine lv_aload_n hx hb d_Model_startOr_12 rfl (lv_at hl 0 rfl) ?_
    refine lv_dup hx hb d_Model_startOr_13 rfl ?_
    refine va_get (D := (dC, dI)) (ci := 11) (v := .int (σ.1 48)) hx hb hts i_Model hown hK hP 11 rfl rfl 44 (by decide) (hts _ w_0f4138ce03) (fun _ h9 => h9) rfl d_Model_startOr_14 ?_
    refine lv_iconst (v := 1) hx hb d_Model_startOr_17 (by decide) ?_
    refine lv_isub hx hb d_Model_startOr_18 ?_
    refine va_put (D := (dC, dI)) (ci := 11) (v := .int ((σ.1 48) - 1)) (ty := .int) hx hb hts i_Model t_Model t_Model_ok n_Model hown hK hP hD hS 11 rfl rfl 44 (by decide) (hts _ w_0f4138ce03) (fun _ h9 => h9) rfl (by decide +kernel) rfl rfl (Nat.le_of_ble_eq_true rfl) d_Model_startOr_19 (fun H locs hP hD hS => ?_)
    have hP : va_P (dC, dI) vwCl (tcw ad cA (sI σ 48 ((σ.1 48) - 1))) H := hP
    have hD : va_D A (tcw ad cA (sI σ 48 ((σ.1 48) - 1))) := hD
    cases hF
    exact leafV X hP hD hS d_Model_startOr_22
  · have hF := ifn hF c_1
    refine lv_aload_n hx hb d_Model_startOr_4 rfl (lv_at hl 0 rfl) ?_
    refine lv_iload_n hx hb d_Model_startOr_5 rfl (lv_at hl 1 rfl) ?_
    obtain ⟨u2, h2, hF⟩ := b1E hF
    refine callVV (As := [.int a1]) X (ct_Model_start l dC dI ad cA H.size h2) lk_Model_418 ⟨rfl, rfl, by decide, by decide⟩ 11 rfl rfl hP hD hS hl.1 rfl rfl (Nat.le_of_ble_eq_true rfl) d_Model_startOr_6 (fun H locs hP hD hS => ?_)
    refine lv_goto (tgt := 22) hx hb d_Model_startOr_9 (by decide) ?_
    cases hF
    exact leafV X hP hD hS d_Model_startOr_22
theorem d_Model_behindFirst_0 : decode b_Model_behindFirst 0 = .ok (.aload_n 0, 1) := by decide +kernel
theorem d_Model_behindFirst_1 : decode b_Model_behindFirst 1 = .ok (.getfield 30, 3) := by decide +kernel
theorem d_Model_behindFirst_4 : decode b_Model_behindFirst 4 = .ok (.iload_n 1, 1) := by decide +kernel
theorem d_Model_behindFirst_5 : decode b_Model_behindFirst 5 = .ok (.iaload, 1) := by decide +kernel
theorem d_Model_behindFirst_6 : decode b_Model_behindFirst 6 = .ok (.tableswitch 190 4 16 #[66, 190, 74, 82, 190, 190, 190, 152, 91, 100, 190, 138, 145], 66) := by decide +kernel
theorem d_Model_behindFirst_72 : decode b_Model_behindFirst 72 = .ok (.aload_n 0, 1) := by decide +kernel
theorem d_Model_behindFirst_73 : decode b_Model_behindFirst 73 = .ok (.iload_n 1, 1) := by decide +kernel
theorem d_Model_behindFirst_74 : decode b_Model_behindFirst 74 = .ok (.invokevirtual 454, 3) := by decide +kernel
theorem d_Model_behindFirst_77 : decode b_Model_behindFirst 77 = .ok (.goto 134, 3) := by decide +kernel
theorem d_Model_behindFirst_80 : decode b_Model_behindFirst 80 = .ok (.aload_n 0, 1) := by decide +kernel
theorem d_Model_behindFirst_81 : decode b_Model_behindFirst 81 = .ok (.iload_n 1, 1) := by decide +kernel
theorem d_Model_behindFirst_82 : decode b_Model_behindFirst 82 = .ok (.invokevirtual 457, 3) := by decide +kernel
theorem d_Model_behindFirst_85 : decode b_Model_behindFirst 85 = .ok (.goto 126, 3) := by decide +kernel
theorem d_Model_behindFirst_88 : decode b_Model_behindFirst 88 = .ok (.aload_n 0, 1) := by decide +kernel
theorem d_Model_behindFirst_89 : decode b_Model_behindFirst 89 = .ok (.iload_n 1, 1) := by decide +kernel
theorem d_Model_behindFirst_90 : decode b_Model_behindFirst 90 = .ok (.iload_n 2, 1) := by decide +kernel
theorem d_Model_behindFirst_91 : decode b_Model_behindFirst 91 = .ok (.invokevirtual 460, 3) := by decide +kernel
theorem d_Model_behindFirst_94 : decode b_Model_behindFirst 94 = .ok (.goto 117, 3) := by decide +kernel
theorem d_Model_behindFirst_97 : decode b_Model_behindFirst 97 = .ok (.aload_n 0, 1) := by decide +kernel
theorem d_Model_behindFirst_98 : decode b_Model_behindFirst 98 = .ok (.iload_n 1, 1) := by decide +kernel
theorem d_Model_behindFirst_99 : decode b_Model_behindFirst 99 = .ok (.iload_n 2, 1) := by decide +kernel
theorem d_Model_behindFirst_100 : decode b_Model_behindFirst 100 = .ok (.invokevirtual 463, 3) := by decide +kernel
theorem d_Model_behindFirst_103 : decode b_Model_behindFirst 103 = .ok (.goto 108, 3) := by decide +kernel
theorem d_Model_behindFirst_106 : decode b_Model_behindFirst 106 = .ok (.aload_n 0, 1) := by decide +kernel
theorem d_Model_behindFirst_107 : decode b_Model_behindFirst 107 = .ok (.iload_n 2, 1) := by decide +kernel
theorem d_Model_behindFirst_108 : decode b_Model_behindFirst 108 = .ok (.iconst 1, 1) := by decide +kernel
theorem d_Model_behindFirst_109 : decode b_Model_behindFirst 109 = .ok (.if_icmp .le 7, 3) := by decide +kernel
theorem d_Model_behindFirst_112 : decode b_Model_behindFirst 112 = .ok (.iconst (-1), 1) := by decide +kernel
theorem d_Model_behindFirst_113 : decode b_Model_behindFirst 113 = .ok (.goto 25, 3) := by decide +kernel
theorem d_Model_behindFirst_116 : decode b_Model_behindFirst 116 = .ok (.aload_n 0, 1) := by decide +kernel
theorem d_Model_behindFirst_117 : decode b_Model_behindFirst 117 = .ok (.invokevirtual 421, 3) := by decide +kernel
theorem d_Model_behindFirst_120 : decode b_Model_behindFirst 120 = .ok (.ifCond .eq 12, 3) := by decide +kernel
theorem d_Model_behindFirst_123 : decode b_Model_behindFirst 123 = .ok (.aload_n 0, 1) := by decide +kernel
theorem d_Model_behindFirst_124 : decode b_Model_behindFirst 124 = .ok (.getfield 39, 3) := by decide +kernel
theorem d_Model_behindFirst_127 : decode b_Model_behindFirst 127 = .ok (.iload_n 1, 1) := by decide +kernel
theorem d_Model_behindFirst_128 : decode b_Model_behindFirst 128 = .ok (.iaload, 1) := by decide +kernel
theorem d_Model_behindFirst_129 : decode b_Model_behindFirst 129 = .ok (.goto 9, 3) := by decide +kernel
theorem d_Model_behindFirst_132 : decode b_Model_behindFirst 132 = .ok (.aload_n 0, 1) := by decide +kernel
theorem d_Model_behindFirst_133 : decode b_Model_behindFirst 133 = .ok (.getfield 42, 3) := by decide +kernel
theorem d_Model_behindFirst_136 : decode b_Model_behindFirst 136 = .ok (.iload_n 1, 1) := by decide +kernel
theorem d_Model_behindFirst_137 : decode b_Model_behindFirst 137 = .ok (.iaload, 1) := by decide +kernel
theorem d_Model_behindFirst_138 : decode b_Model_behindFirst 138 = .ok (.invokevirtual 448, 3) := by decide +kernel
theorem d_Model_behindFirst_141 : decode b_Model_behindFirst 141 = .ok (.goto 70, 3) := by decide +kernel
theorem d_Model_behindFirst_144 : decode b_Model_behindFirst 144 = .ok (.aload_n 0, 1) := by decide +kernel
theorem d_Model_behindFirst_145 : decode b_Model_behindFirst 145 = .ok (.invokevirtual 466, 3) := by decide +kernel
theorem d_Model_behindFirst_148 : decode b_Model_behindFirst 148 = .ok (.goto 63, 3) := by decide +kernel
theorem d_Model_behindFirst_151 : decode b_Model_behindFirst 151 = .ok (.aload_n 0, 1) := by decide +kernel
theorem d_Model_behindFirst_152 : decode b_Model_behindFirst 152 = .ok (.invokevirtual 469, 3) := by decide +kernel
theorem d_Model_behindFirst_155 : decode b_Model_behindFirst 155 = .ok (.goto 56, 3) := by decide +kernel
theorem d_Model_behindFirst_158 : decode b_Model_behindFirst 158 = .ok (.aload_n 0, 1) := by decide +kernel
theorem d_Model_behindFirst_159 : decode b_Model_behindFirst 159 = .ok (.getfield 91, 3) := by decide +kernel
theorem d_Model_behindFirst_162 : decode b_Model_behindFirst 162 = .ok (.bipush 12, 2) := by decide +kernel
theorem d_Model_behindFirst_164 : decode b_Model_behindFirst 164 = .ok (.aload_n 0, 1) := by decide +kernel
theorem d_Model_behindFirst_165 : decode b_Model_behindFirst 165 = .ok (.getfield 442, 3) := by decide +kernel
theorem d_Model_behindFirst_168 : decode b_Model_behindFirst 168 = .ok (.iconst 1, 1) := by decide +kernel
theorem d_Model_behindFirst_169 : decode b_Model_behindFirst 169 = .ok (.isub, 1) := by decide +kernel
theorem d_Model_behindFirst_170 : decode b_Model_behindFirst 170 = .ok (.imul, 1) := by decide +kernel
theorem d_Model_behindFirst_171 : decode b_Model_behindFirst 171 = .ok (.aload_n 0, 1) := by decide +kernel
theorem d_Model_behindFirst_172 : decode b_Model_behindFirst 172 = .ok (.getfield 33, 3) := by decide +kernel
theorem d_Model_behindFirst_175 : decode b_Model_behindFirst 175 = .ok (.iload_n 1, 1) := by decide +kernel
theorem d_Model_behindFirst_176 : decode b_Model_behindFirst 176 = .ok (.iaload, 1) := by decide +kernel
theorem d_Model_behindFirst_177 : decode b_Model_behindFirst 177 = .ok (.iadd, 1) := by decide +kernel
theorem d_Model_behindFirst_178 : decode b_Model_behindFirst 178 = .ok (.aload_n 0, 1) := by decide +kernel
theorem d_Model_behindFirst_179 : decode b_Model_behindFirst 179 = .ok (.invokevirtual 421, 3) := by decide +kernel
theorem d_Model_behindFirst_182 : decode b_Model_behindFirst 182 = .ok (.iastore, 1) := by decide +kernel
theorem d_Model_behindFirst_183 : decode b_Model_behindFirst 183 = .ok (.aload_n 0, 1) := by decide +kernel
theorem d_Model_behindFirst_184 : decode b_Model_behindFirst 184 = .ok (.dup, 1) := by decide +kernel
theorem d_Model_behindFirst_185 : decode b_Model_behindFirst 185 = .ok (.getfield 401, 3) := by decide +kernel
theorem d_Model_behindFirst_188 : decode b_Model_behindFirst 188 = .ok (.iconst 1, 1) := by decide +kernel
theorem d_Model_behindFirst_189 : decode b_Model_behindFirst 189 = .ok (.isub, 1) := by decide +kernel
theorem d_Model_behindFirst_190 : decode b_Model_behindFirst 190 = .ok (.putfield 401, 3) := by decide +kernel
theorem d_Model_behindFirst_193 : decode b_Model_behindFirst 193 = .ok (.goto 18, 3) := by decide +kernel
theorem d_Model_behindFirst_196 : decode b_Model_behindFirst 196 = .ok (.aload_n 0, 1) := by decide +kernel
theorem d_Model_behindFirst_197 : decode b_Model_behindFirst 197 = .ok (.invokevirtual 421, 3) := by decide +kernel
theorem d_Model_behindFirst_200 : decode b_Model_behindFirst 200 = .ok (.pop, 1) := by decide +kernel
theorem d_Model_behindFirst_201 : decode b_Model_behindFirst 201 = .ok (.aload_n 0, 1) := by decide +kernel
theorem d_Model_behindFirst_202 : decode b_Model_behindFirst 202 = .ok (.dup, 1) := by decide +kernel
theorem d_Model_behindFirst_203 : decode b_Model_behindFirst 203 = .ok (.getfield 401, 3) := by decide +kernel
theorem d_Model_behindFirst_206 : decode b_Model_behindFirst 206 = .ok (.iconst 1, 1) := by decide +kernel
theorem d_Model_behindFirst_207 : decode b_Model_behindFirst 207 = .ok (.isub, 1) := by decide +kernel
theorem d_Model_behindFirst_208 : decode b_Model_behindFirst 208 = .ok (.putfield 401, 3) := by decide +kernel
theorem d_Model_behindFirst_211 : decode b_Model_behindFirst 211 = .ok (.return_, 1) := by decide +kernel
def tModel_behindFirst (σ : St) (a1 : Int32) (a2 : Int32) : Option (St) := gd (inB a1 500) (if ((σ.2.2.1 20) a1.toNatClampNeg) = 4 then b1 (tModel_elementValue σ a1) (fun u3 => some u3) else if ((σ.2.2.1 20) a1.toNatClampNeg) = 5 then b2 (tModel_popValue σ) (fun r5 u5 => some (sI u5 48 ((u5.1 48) - 1))) else if ((σ.2.2.1 20) a1.toNatClampNeg) = 6 then b1 (tModel_signed σ a1) (fun u7 => some u7) else if ((σ.2.2.1 20) a1.toNatClampNeg) = 7 then b1 (tModel_pair σ a1 a2) (fun u9 => some u9) else if ((σ.2.2.1 20) a1.toNatClampNeg) = 8 then b2 (tModel_popValue σ) (fun r11 u11 => some (sI u11 48 ((u11.1 48) - 1))) else if ((σ.2.2.1 20) a1.toNatClampNeg) = 9 then b2 (tModel_popValue σ) (fun r13 u13 => some (sI u13 48 ((u13.1 48) - 1))) else if ((σ.2.2.1 20) a1.toNatClampNeg) = 10 then b2 (tModel_popValue σ) (fun r15 u15 => some (sI u15 48 ((u15.1 48) - 1))) else if ((σ.2.2.1 20) a1.toNatClampNeg) = 11 then gd (inB a1 500) (b2 (tModel_popValue σ) (fun r18 u18 => gd (inB ((12 * ((σ.1 50) - 1)) + ((σ.2.2.1 21) a1.toNatClampNeg)) 156) (some (sI (sA u18 40 (upd (u18.2.2.1 40) ((12 * ((σ.1 50) - 1)) + ((σ.2.2.1 21) a1.toNatClampNeg)).toNatClampNeg r18)) 48 ((u18.1 48) - 1))))) else if ((σ.2.2.1 20) a1.toNatClampNeg) = 12 then b1 (tModel_put σ a1 a2) (fun u21 => some u21) else if ((σ.2.2.1 20) a1.toNatClampNeg) = 13 then if a2 ≤ 1 then b2 (tModel_popValue σ) (fun r24 u24 => if r24 = 0 then gd (inB a1 500) (b1 (tModel_startOr u24 ((u24.2.2.1 24) a1.toNatClampNeg)) (fun u27 => some u27)) else gd (inB a1 500) (b1 (tModel_startOr u24 ((u24.2.2.1 23) a1.toNatClampNeg)) (fun u29 => some u29))) else b1 (tModel_startOr σ (-1)) (fun u30 => some u30) else if ((σ.2.2.1 20) a1.toNatClampNeg) = 14 then b2 (tModel_popValue σ) (fun r32 u32 => some (sI u32 48 ((u32.1 48) - 1))) else if ((σ.2.2.1 20) a1.toNatClampNeg) = 15 then b1 (tModel_returnValue σ) (fun u34 => some u34) else if ((σ.2.2.1 20) a1.toNatClampNeg) = 16 then b1 (tModel_print σ) (fun u36 => some u36) else b2 (tModel_popValue σ) (fun r37 u37 => some (sI u37 48 ((u37.1 48) - 1))))
set_option maxHeartbeats 4000000 in
set_option maxRecDepth 100000 in
theorem ct_Model_behindFirst (l : Launch) (dC : Nat → ClassId) (dI : Nat → Nat → Nat) (ad : Nat → Nat) (cA : Nat → ClassId) (sz : Nat) {σ : St} {a1 : Int32} {a2 : Int32} {σ' : St} (hF : tModel_behindFirst σ a1 a2 = some σ') : MV l y_Model_behindFirst b_Model_behindFirst 3 none { frames := 4, cells := 0, slots := 0, locals := 89 } (dC, dI) (ttys cA) ad (tcw ad cA) [.ref (ad 11), .int a1, .int a2] σ sz σ' := by
  refine startM (own := "TinyForgeModel") (Qc := fun A => QV (dC, dI) (ttys cA) (tcw ad cA) A σ') rfl rfl (Nat.le_of_ble_eq_true rfl) ?_
  intro p e s m below meth c A H locs ls X hP hD hS hl
  have hl : lv_has ls 3 [(0, .ref (ad 11)), (1, .int a1), (2, .int a2)] := hl
  obtain ⟨hx, hb, hr, hml, hown, hlocks, hts, hA, hK, hZ⟩ := id X
  unfold tModel_behindFirst at hF
  refine lv_aload_n hx hb d_Model_behindFirst_0 rfl (lv_at hl 0 rfl) ?_
  refine va_get (D := (dC, dI)) (ci := 11) (v := .ref (ad 35)) hx hb hts i_Model hown hK hP 11 rfl rfl 14 (by decide) (hts _ w_0e6df3fb4c) (fun _ h9 => h9) rfl d_Model_behindFirst_1 ?_
  refine lv_iload_n hx hb d_Model_behindFirst_4 rfl (lv_at hl 1 rfl) ?_
  obtain ⟨g_1, hF⟩ := gdE hF
  refine va_iald (f := (σ.2.2.1 20)) hx hb hK hP 35 0 rfl rfl (inE g_1) d_Model_behindFirst_5 ?_
  by_cases c_2 : ((σ.2.2.1 20) a1.toNatClampNeg) = 4
  · have hF := ifp hF c_2
    refine lv_tableIn (tgt := 72) (off := 66) hx hb d_Model_behindFirst_6 (by rw [c_2]; decide) (by rw [c_2]; decide) (by rw [c_2]; rfl) (by decide) ?_
    refine lv_aload_n hx hb d_Model_behindFirst_72 rfl (lv_at hl 0 rfl) ?_
    refine lv_iload_n hx hb d_Model_behindFirst_73 rfl (lv_at hl 1 rfl) ?_
    obtain ⟨u3, h3, hF⟩ := b1E hF
    refine callVV (As := [.int a1]) X (ct_Model_elementValue l dC dI ad cA H.size h3) lk_Model_454 ⟨rfl, rfl, by decide, by decide⟩ 11 rfl rfl hP hD hS hl.1 rfl rfl (Nat.le_of_ble_eq_true rfl) d_Model_behindFirst_74 (fun H locs hP hD hS => ?_)
    refine lv_goto (tgt := 211) hx hb d_Model_behindFirst_77 (by decide) ?_
    cases hF
    exact leafV X hP hD hS d_Model_behindFirst_211
  · have hF := ifn hF c_2
    by_cases c_4 : ((σ.2.2.1 20) a1.toNatClampNeg) = 5
    · have hF := ifp hF c_4
      refine lv_tableIn (tgt := 196) (off := 190) hx hb d_Model_behindFirst_6 (by rw [c_4]; decide) (by rw [c_4]; decide) (by rw [c_4]; rfl) (by decide) ?_
      refine lv_aload_n hx hb d_Model_behindFirst_196 rfl (lv_at hl 0 rfl) ?_
      obtain ⟨r5, u5, h5, hF⟩ := b2E hF
      refine callVI (As := []) X (ct_Model_popValue l dC dI ad cA H.size h5) lk_Model_421 ⟨rfl, rfl, by decide, by decide⟩ 11 rfl rfl hP hD hS hl.1 rfl rfl (Nat.le_of_ble_eq_true rfl) d_Model_behindFirst_197 (fun H locs hP hD hS => ?_)
      refine lv_pop hx hb d_Model_behindFirst_200 rfl ?_
      refine lv_aload_n hx hb d_Model_behindFirst_201 rfl (lv_at hl 0 rfl) ?_
      refine lv_dup hx hb d_Model_behindFirst_202 rfl ?_
      refine va_get (D := (dC, dI)) (ci := 11) (v := .int (u5.1 48)) hx hb hts i_Model hown hK hP 11 rfl rfl 44 (by decide) (hts _ w_0f4138ce03) (fun _ h9 => h9) rfl d_Model_behindFirst_203 ?_
      refine lv_iconst (v := 1) hx hb d_Model_behindFirst_206 (by decide) ?_
      refine lv_isub hx hb d_Model_behindFirst_207 ?_
      refine va_put (D := (dC, dI)) (ci := 11) (v := .int ((u5.1 48) - 1)) (ty := .int) hx hb hts i_Model t_Model t_Model_ok n_Model hown hK hP hD hS 11 rfl rfl 44 (by decide) (hts _ w_0f4138ce03) (fun _ h9 => h9) rfl (by decide +kernel) rfl rfl (Nat.le_of_ble_eq_true rfl) d_Model_behindFirst_208 (fun H locs hP hD hS => ?_)
      have hP : va_P (dC, dI) vwCl (tcw ad cA (sI u5 48 ((u5.1 48) - 1))) H := hP
      have hD : va_D A (tcw ad cA (sI u5 48 ((u5.1 48) - 1))) := hD
      cases hF
      exact leafV X hP hD hS d_Model_behindFirst_211
    · have hF := ifn hF c_4
      by_cases c_6 : ((σ.2.2.1 20) a1.toNatClampNeg) = 6
      · have hF := ifp hF c_6
        refine lv_tableIn (tgt := 80) (off := 74) hx hb d_Model_behindFirst_6 (by rw [c_6]; decide) (by rw [c_6]; decide) (by rw [c_6]; rfl) (by decide) ?_
        refine lv_aload_n hx hb d_Model_behindFirst_80 rfl (lv_at hl 0 rfl) ?_
        refine lv_iload_n hx hb d_Model_behindFirst_81 rfl (lv_at hl 1 rfl) ?_
        obtain ⟨u7, h7, hF⟩ := b1E hF
        refine callVV (As := [.int a1]) X (ct_Model_signed l dC dI ad cA H.size h7) lk_Model_457 ⟨rfl, rfl, by decide, by decide⟩ 11 rfl rfl hP hD hS hl.1 rfl rfl (Nat.le_of_ble_eq_true rfl) d_Model_behindFirst_82 (fun H locs hP hD hS => ?_)
        refine lv_goto (tgt := 211) hx hb d_Model_behindFirst_85 (by decide) ?_
        cases hF
        exact leafV X hP hD hS d_Model_behindFirst_211
      · have hF := ifn hF c_6
        by_cases c_8 : ((σ.2.2.1 20) a1.toNatClampNeg) = 7
        · have hF := ifp hF c_8
          refine lv_tableIn (tgt := 88) (off := 82) hx hb d_Model_behindFirst_6 (by rw [c_8]; decide) (by rw [c_8]; decide) (by rw [c_8]; rfl) (by decide) ?_
          refine lv_aload_n hx hb d_Model_behindFirst_88 rfl (lv_at hl 0 rfl) ?_
          refine lv_iload_n hx hb d_Model_behindFirst_89 rfl (lv_at hl 1 rfl) ?_
          refine lv_iload_n hx hb d_Model_behindFirst_90 rfl (lv_at hl 2 rfl) ?_
          obtain ⟨u9, h9, hF⟩ := b1E hF
          refine callVV (As := [.int a1, .int a2]) X (ct_Model_pair l dC dI ad cA H.size h9) lk_Model_460 ⟨rfl, rfl, by decide, by decide⟩ 11 rfl rfl hP hD hS hl.1 rfl rfl (Nat.le_of_ble_eq_true rfl) d_Model_behindFirst_91 (fun H locs hP hD hS => ?_)
          refine lv_goto (tgt := 211) hx hb d_Model_behindFirst_94 (by decide) ?_
          cases hF
          exact leafV X hP hD hS d_Model_behindFirst_211
        · have hF := ifn hF c_8
          by_cases c_10 : ((σ.2.2.1 20) a1.toNatClampNeg) = 8
          · have hF := ifp hF c_10
            refine lv_tableIn (tgt := 196) (off := 190) hx hb d_Model_behindFirst_6 (by rw [c_10]; decide) (by rw [c_10]; decide) (by rw [c_10]; rfl) (by decide) ?_
            refine lv_aload_n hx hb d_Model_behindFirst_196 rfl (lv_at hl 0 rfl) ?_
            obtain ⟨r11, u11, h11, hF⟩ := b2E hF
            refine callVI (As := []) X (ct_Model_popValue l dC dI ad cA H.size h11) lk_Model_421 ⟨rfl, rfl, by decide, by decide⟩ 11 rfl rfl hP hD hS hl.1 rfl rfl (Nat.le_of_ble_eq_true rfl) d_Model_behindFirst_197 (fun H locs hP hD hS => ?_)
            refine lv_pop hx hb d_Model_behindFirst_200 rfl ?_
            refine lv_aload_n hx hb d_Model_behindFirst_201 rfl (lv_at hl 0 rfl) ?_
            refine lv_dup hx hb d_Model_behindFirst_202 rfl ?_
            refine va_get (D := (dC, dI)) (ci := 11) (v := .int (u11.1 48)) hx hb hts i_Model hown hK hP 11 rfl rfl 44 (by decide) (hts _ w_0f4138ce03) (fun _ h9 => h9) rfl d_Model_behindFirst_203 ?_
            refine lv_iconst (v := 1) hx hb d_Model_behindFirst_206 (by decide) ?_
            refine lv_isub hx hb d_Model_behindFirst_207 ?_
            refine va_put (D := (dC, dI)) (ci := 11) (v := .int ((u11.1 48) - 1)) (ty := .int) hx hb hts i_Model t_Model t_Model_ok n_Model hown hK hP hD hS 11 rfl rfl 44 (by decide) (hts _ w_0f4138ce03) (fun _ h9 => h9) rfl (by decide +kernel) rfl rfl (Nat.le_of_ble_eq_true rfl) d_Model_behindFirst_208 (fun H locs hP hD hS => ?_)
            have hP : va_P (dC, dI) vwCl (tcw ad cA (sI u11 48 ((u11.1 48) - 1))) H := hP
            have hD : va_D A (tcw ad cA (sI u11 48 ((u11.1 48) - 1))) := hD
            cases hF
            exact leafV X hP hD hS d_Model_behindFirst_211
          · have hF := ifn hF c_10
            by_cases c_12 : ((σ.2.2.1 20) a1.toNatClampNeg) = 9
            · have hF := ifp hF c_12
              refine lv_tableIn (tgt := 196) (off := 190) hx hb d_Model_behindFirst_6 (by rw [c_12]; decide) (by rw [c_12]; decide) (by rw [c_12]; rfl) (by decide) ?_
              refine lv_aload_n hx hb d_Model_behindFirst_196 rfl (lv_at hl 0 rfl) ?_
              obtain ⟨r13, u13, h13, hF⟩ := b2E hF
              refine callVI (As := []) X (ct_Model_popValue l dC dI ad cA H.size h13) lk_Model_421 ⟨rfl, rfl, by decide, by decide⟩ 11 rfl rfl hP hD hS hl.1 rfl rfl (Nat.le_of_ble_eq_true rfl) d_Model_behindFirst_197 (fun H locs hP hD hS => ?_)
              refine lv_pop hx hb d_Model_behindFirst_200 rfl ?_
              refine lv_aload_n hx hb d_Model_behindFirst_201 rfl (lv_at hl 0 rfl) ?_
              refine lv_dup hx hb d_Model_behindFirst_202 rfl ?_
              refine va_get (D := (dC, dI)) (ci := 11) (v := .int (u13.1 48)) hx hb hts i_Model hown hK hP 11 rfl rfl 44 (by decide) (hts _ w_0f4138ce03) (fun _ h9 => h9) rfl d_Model_behindFirst_203 ?_
              refine lv_iconst (v := 1) hx hb d_Model_behindFirst_206 (by decide) ?_
              refine lv_isub hx hb d_Model_behindFirst_207 ?_
              refine va_put (D := (dC, dI)) (ci := 11) (v := .int ((u13.1 48) - 1)) (ty := .int) hx hb hts i_Model t_Model t_Model_ok n_Model hown hK hP hD hS 11 rfl rfl 44 (by decide) (hts _ w_0f4138ce03) (fun _ h9 => h9) rfl (by decide +kernel) rfl rfl (Nat.le_of_ble_eq_true rfl) d_Model_behindFirst_208 (fun H locs hP hD hS => ?_)
              have hP : va_P (dC, dI) vwCl (tcw ad cA (sI u13 48 ((u13.1 48) - 1))) H := hP
              have hD : va_D A (tcw ad cA (sI u13 48 ((u13.1 48) - 1))) := hD
              cases hF
              exact leafV X hP hD hS d_Model_behindFirst_211
            · have hF := ifn hF c_12
              by_cases c_14 : ((σ.2.2.1 20) a1.toNatClampNeg) = 10
              · have hF := ifp hF c_14
                refine lv_tableIn (tgt := 196) (off := 190) hx hb d_Model_behindFirst_6 (by rw [c_14]; decide) (by rw [c_14]; decide) (by rw [c_14]; rfl) (by decide) ?_
                refine lv_aload_n hx hb d_Model_behindFirst_196 rfl (lv_at hl 0 rfl) ?_
                obtain ⟨r15, u15, h15, hF⟩ := b2E hF
                refine callVI (As := []) X (ct_Model_popValue l dC dI ad cA H.size h15) lk_Model_421 ⟨rfl, rfl, by decide, by decide⟩ 11 rfl rfl hP hD hS hl.1 rfl rfl (Nat.le_of_ble_eq_true rfl) d_Model_behindFirst_197 (fun H locs hP hD hS => ?_)
                refine lv_pop hx hb d_Model_behindFirst_200 rfl ?_
                refine lv_aload_n hx hb d_Model_behindFirst_201 rfl (lv_at hl 0 rfl) ?_
                refine lv_dup hx hb d_Model_behindFirst_202 rfl ?_
                refine va_get (D := (dC, dI)) (ci := 11) (v := .int (u15.1 48)) hx hb hts i_Model hown hK hP 11 rfl rfl 44 (by decide) (hts _ w_0f4138ce03) (fun _ h9 => h9) rfl d_Model_behindFirst_203 ?_
                refine lv_iconst (v := 1) hx hb d_Model_behindFirst_206 (by decide) ?_
                refine lv_isub hx hb d_Model_behindFirst_207 ?_
                refine va_put (D := (dC, dI)) (ci := 11) (v := .int ((u15.1 48) - 1)) (ty := .int) hx hb hts i_Model t_Model t_Model_ok n_Model hown hK hP hD hS 11 rfl rfl 44 (by decide) (hts _ w_0f4138ce03) (fun _ h9 => h9) rfl (by decide +kernel) rfl rfl (Nat.le_of_ble_eq_true rfl) d_Model_behindFirst_208 (fun H locs hP hD hS => ?_)
                have hP : va_P (dC, dI) vwCl (tcw ad cA (sI u15 48 ((u15.1 48) - 1))) H := hP
                have hD : va_D A (tcw ad cA (sI u15 48 ((u15.1 48) - 1))) := hD
                cases hF
                exact leafV X hP hD hS d_Model_behindFirst_211
              · have hF := ifn hF c_14
                by_cases c_16 : ((σ.2.2.1 20) a1.toNatClampNeg) = 11
                · have hF := ifp hF c_16
                  refine lv_tableIn (tgt := 158) (off := 152) hx hb d_Model_behindFirst_6 (by rw [c_16]; decide) (by rw [c_16]; decide) (by rw [c_16]; rfl) (by decide) ?_
                  refine lv_aload_n hx hb d_Model_behindFirst_158 rfl (lv_at hl 0 rfl) ?_
                  refine va_get (D := (dC, dI)) (ci := 11) (v := .ref (ad 55)) hx hb hts i_Model hown hK hP 11 rfl rfl 53 (by decide) (hts _ w_5a5d41179b) (fun _ h9 => h9) rfl d_Model_behindFirst_159 ?_
                  refine lv_bipush (v := 12) hx hb d_Model_behindFirst_162 (by decide) ?_
                  refine lv_aload_n hx hb d_Model_behindFirst_164 rfl (lv_at hl 0 rfl) ?_
                  refine va_get (D := (dC, dI)) (ci := 11) (v := .int (σ.1 50)) hx hb hts i_Model hown hK hP 11 rfl rfl 46 (by decide) (hts _ w_bff6745645) (fun _ h9 => h9) rfl d_Model_behindFirst_165 ?_
                  refine lv_iconst (v := 1) hx hb d_Model_behindFirst_168 (by decide) ?_
                  refine lv_isub hx hb d_Model_behindFirst_169 ?_
                  refine lv_imul hx hb d_Model_behindFirst_170 ?_
                  refine lv_aload_n hx hb d_Model_behindFirst_171 rfl (lv_at hl 0 rfl) ?_
                  refine va_get (D := (dC, dI)) (ci := 11) (v := .ref (ad 36)) hx hb hts i_Model hown hK hP 11 rfl rfl 15 (by decide) (hts _ w_70f5434828) (fun _ h9 => h9) rfl d_Model_behindFirst_172 ?_
                  refine lv_iload_n hx hb d_Model_behindFirst_175 rfl (lv_at hl 1 rfl) ?_
                  obtain ⟨g_17, hF⟩ := gdE hF
                  refine va_iald (f := (σ.2.2.1 21)) hx hb hK hP 36 0 rfl rfl (inE g_17) d_Model_behindFirst_176 ?_
                  refine lv_iadd hx hb d_Model_behindFirst_177 ?_
                  refine lv_aload_n hx hb d_Model_behindFirst_178 rfl (lv_at hl 0 rfl) ?_
                  obtain ⟨r18, u18, h18, hF⟩ := b2E hF
                  refine callVI (As := []) X (ct_Model_popValue l dC dI ad cA H.size h18) lk_Model_421 ⟨rfl, rfl, by decide, by decide⟩ 11 rfl rfl hP hD hS hl.1 rfl rfl (Nat.le_of_ble_eq_true rfl) d_Model_behindFirst_179 (fun H locs hP hD hS => ?_)
                  obtain ⟨g_19, hF⟩ := gdE hF
                  refine va_iast (f := (u18.2.2.1 40)) hx hb hK hP hD hS 55 0 rfl rfl (inE g_19) d_Model_behindFirst_182 (fun H locs hP hD hS => ?_)
                  have hP : va_P (dC, dI) vwCl (tcw ad cA (sA u18 40 (upd (u18.2.2.1 40) ((12 * ((σ.1 50) - 1)) + ((σ.2.2.1 21) a1.toNatClampNeg)).toNatClampNeg r18))) H := hP
                  have hD : va_D A (tcw ad cA (sA u18 40 (upd (u18.2.2.1 40) ((12 * ((σ.1 50) - 1)) + ((σ.2.2.1 21) a1.toNatClampNeg)).toNatClampNeg r18))) := hD
                  refine lv_aload_n hx hb d_Model_behindFirst_183 rfl (lv_at hl 0 rfl) ?_
                  refine lv_dup hx hb d_Model_behindFirst_184 rfl ?_
                  refine va_get (D := (dC, dI)) (ci := 11) (v := .int (u18.1 48)) hx hb hts i_Model hown hK hP 11 rfl rfl 44 (by decide) (hts _ w_0f4138ce03) (fun _ h9 => h9) rfl d_Model_behindFirst_185 ?_
                  refine lv_iconst (v := 1) hx hb d_Model_behindFirst_188 (by decide) ?_
                  refine lv_isub hx hb d_Model_behindFirst_189 ?_
                  refine va_put (D := (dC, dI)) (ci := 11) (v := .int ((u18.1 48) - 1)) (ty := .int) hx hb hts i_Model t_Model t_Model_ok n_Model hown hK hP hD hS 11 rfl rfl 44 (by decide) (hts _ w_0f4138ce03) (fun _ h9 => h9) rfl (by decide +kernel) rfl rfl (Nat.le_of_ble_eq_true rfl) d_Model_behindFirst_190 (fun H locs hP hD hS => ?_)
                  have hP : va_P (dC, dI) vwCl (tcw ad cA (sI (sA u18 40 (upd (u18.2.2.1 40) ((12 * ((σ.1 50) - 1)) + ((σ.2.2.1 21) a1.toNatClampNeg)).toNatClampNeg r18)) 48 ((u18.1 48) - 1))) H := hP
                  have hD : va_D A (tcw ad cA (sI (sA u18 40 (upd (u18.2.2.1 40) ((12 * ((σ.1 50) - 1)) + ((σ.2.2.1 21) a1.toNatClampNeg)).toNatClampNeg r18)) 48 ((u18.1 48) - 1))) := hD
                  refine lv_goto (tgt := 211) hx hb d_Model_behindFirst_193 (by decide) ?_
                  cases hF
                  exact leafV X hP hD hS d_Model_behindFirst_211
                · have hF := ifn hF c_16
                  by_cases c_20 : ((σ.2.2.1 20) a1.toNatClampNeg) = 12
                  · have hF := ifp hF c_20
                    refine lv_tableIn (tgt := 97) (off := 91) hx hb d_Model_behindFirst_6 (by rw [c_20]; decide) (by rw [c_20]; decide) (by rw [c_20]; rfl) (by decide) ?_
                    refine lv_aload_n hx hb d_Model_behindFirst_97 rfl (lv_at hl 0 rfl) ?_
                    refine lv_iload_n hx hb d_Model_behindFirst_98 rfl (lv_at hl 1 rfl) ?_
                    refine lv_iload_n hx hb d_Model_behindFirst_99 rfl (lv_at hl 2 rfl) ?_
                    obtain ⟨u21, h21, hF⟩ := b1E hF
                    refine callVV (As := [.int a1, .int a2]) X (ct_Model_put l dC dI ad cA H.size h21) lk_Model_463 ⟨rfl, rfl, by decide, by decide⟩ 11 rfl rfl hP hD hS hl.1 rfl rfl (Nat.le_of_ble_eq_true rfl) d_Model_behindFirst_100 (fun H locs hP hD hS => ?_)
                    refine lv_goto (tgt := 211) hx hb d_Model_behindFirst_103 (by decide) ?_
                    cases hF
                    exact leafV X hP hD hS d_Model_behindFirst_211
                  · have hF := ifn hF c_20
                    by_cases c_22 : ((σ.2.2.1 20) a1.toNatClampNeg) = 13
                    · have hF := ifp hF c_22
                      refine lv_tableIn (tgt := 106) (off := 100) hx hb d_Model_behindFirst_6 (by rw [c_22]; decide) (by rw [c_22]; decide) (by rw [c_22]; rfl) (by decide) ?_
                      refine lv_aload_n hx hb d_Model_behindFirst_106 rfl (lv_at hl 0 rfl) ?_
                      refine lv_iload_n hx hb d_Model_behindFirst_107 rfl (lv_at hl 2 rfl) ?_
                      refine lv_iconst (v := 1) hx hb d_Model_behindFirst_108 (by decide) ?_
                      refine lv_icmp_le (tgt := 116) hx hb d_Model_behindFirst_109 (by decide) (fun c_23 => ?_) (fun c_23 => ?_)
                      · have hF := ifp hF c_23
                        refine lv_aload_n hx hb d_Model_behindFirst_116 rfl (lv_at hl 0 rfl) ?_
                        obtain ⟨r24, u24, h24, hF⟩ := b2E hF
                        refine callVI (As := []) X (ct_Model_popValue l dC dI ad cA H.size h24) lk_Model_421 ⟨rfl, rfl, by decide, by decide⟩ 11 rfl rfl hP hD hS hl.1 rfl rfl (Nat.le_of_ble_eq_true rfl) d_Model_behindFirst_117 (fun H locs hP hD hS => ?_)
                        refine lv_if_eq (tgt := 132) hx hb d_Model_behindFirst_120 (by decide) (fun c_25 => ?_) (fun c_25 => ?_)
                        · have hF := ifp hF c_25
                          refine lv_aload_n hx hb d_Model_behindFirst_132 rfl (lv_at hl 0 rfl) ?_
                          refine va_get (D := (dC, dI)) (ci := 11) (v := .ref (ad 39)) hx hb hts i_Model hown hK hP 11 rfl rfl 18 (by decide) (hts _ w_7d7d4091fc) (fun _ h9 => h9) rfl d_Model_behindFirst_133 ?_
                          refine lv_iload_n hx hb d_Model_behindFirst_136 rfl (lv_at hl 1 rfl) ?_
                          obtain ⟨g_26, hF⟩ := gdE hF
                          refine va_iald (f := (u24.2.2.1 24)) hx hb hK hP 39 0 rfl rfl (inE g_26) d_Model_behindFirst_137 ?_
                          obtain ⟨u27, h27, hF⟩ := b1E hF
                          refine callVV (As := [.int ((u24.2.2.1 24) a1.toNatClampNeg)]) X (ct_Model_startOr l dC dI ad cA H.size h27) lk_Model_448 ⟨rfl, rfl, by decide, by decide⟩ 11 rfl rfl hP hD hS hl.1 rfl rfl (Nat.le_of_ble_eq_true rfl) d_Model_behindFirst_138 (fun H locs hP hD hS => ?_)
                          refine lv_goto (tgt := 211) hx hb d_Model_behindFirst_141 (by decide) ?_
                          cases hF
                          exact leafV X hP hD hS d_Model_behindFirst_211
                        · have hF := ifn hF c_25
                          refine lv_aload_n hx hb d_Model_behindFirst_123 rfl (lv_at hl 0 rfl) ?_
                          refine va_get (D := (dC, dI)) (ci := 11) (v := .ref (ad 38)) hx hb hts i_Model hown hK hP 11 rfl rfl 17 (by decide) (hts _ w_d96db777d5) (fun _ h9 => h9) rfl d_Model_behindFirst_124 ?_
                          refine lv_iload_n hx hb d_Model_behindFirst_127 rfl (lv_at hl 1 rfl) ?_
                          obtain ⟨g_28, hF⟩ := gdE hF
                          refine va_iald (f := (u24.2.2.1 23)) hx hb hK hP 38 0 rfl rfl (inE g_28) d_Model_behindFirst_128 ?_
                          refine lv_goto (tgt := 138) hx hb d_Model_behindFirst_129 (by decide) ?_
                          obtain ⟨u29, h29, hF⟩ := b1E hF
                          refine callVV (As := [.int ((u24.2.2.1 23) a1.toNatClampNeg)]) X (ct_Model_startOr l dC dI ad cA H.size h29) lk_Model_448 ⟨rfl, rfl, by decide, by decide⟩ 11 rfl rfl hP hD hS hl.1 rfl rfl (Nat.le_of_ble_eq_true rfl) d_Model_behindFirst_138 (fun H locs hP hD hS => ?_)
                          refine lv_goto (tgt := 211) hx hb d_Model_behindFirst_141 (by decide) ?_
                          cases hF
                          exact leafV X hP hD hS d_Model_behindFirst_211
                      · have hF := ifn hF c_23
                        refine lv_iconst (v := (-1)) hx hb d_Model_behindFirst_112 (by decide) ?_
                        refine lv_goto (tgt := 138) hx hb d_Model_behindFirst_113 (by decide) ?_
                        obtain ⟨u30, h30, hF⟩ := b1E hF
                        refine callVV (As := [.int (-1)]) X (ct_Model_startOr l dC dI ad cA H.size h30) lk_Model_448 ⟨rfl, rfl, by decide, by decide⟩ 11 rfl rfl hP hD hS hl.1 rfl rfl (Nat.le_of_ble_eq_true rfl) d_Model_behindFirst_138 (fun H locs hP hD hS => ?_)
                        refine lv_goto (tgt := 211) hx hb d_Model_behindFirst_141 (by decide) ?_
                        cases hF
                        exact leafV X hP hD hS d_Model_behindFirst_211
                    · have hF := ifn hF c_22
                      by_cases c_31 : ((σ.2.2.1 20) a1.toNatClampNeg) = 14
                      · have hF := ifp hF c_31
                        refine lv_tableIn (tgt := 196) (off := 190) hx hb d_Model_behindFirst_6 (by rw [c_31]; decide) (by rw [c_31]; decide) (by rw [c_31]; rfl) (by decide) ?_
                        refine lv_aload_n hx hb d_Model_behindFirst_196 rfl (lv_at hl 0 rfl) ?_
                        obtain ⟨r32, u32, h32, hF⟩ := b2E hF
                        refine callVI (As := []) X (ct_Model_popValue l dC dI ad cA H.size h32) lk_Model_421 ⟨rfl, rfl, by decide, by decide⟩ 11 rfl rfl hP hD hS hl.1 rfl rfl (Nat.le_of_ble_eq_true rfl) d_Model_behindFirst_197 (fun H locs hP hD hS => ?_)
                        refine lv_pop hx hb d_Model_behindFirst_200 rfl ?_
                        refine lv_aload_n hx hb d_Model_behindFirst_201 rfl (lv_at hl 0 rfl) ?_
                        refine lv_dup hx hb d_Model_behindFirst_202 rfl ?_
                        refine va_get (D := (dC, dI)) (ci := 11) (v := .int (u32.1 48)) hx hb hts i_Model hown hK hP 11 rfl rfl 44 (by decide) (hts _ w_0f4138ce03) (fun _ h9 => h9) rfl d_Model_behindFirst_203 ?_
                        refine lv_iconst (v := 1) hx hb d_Model_behindFirst_206 (by decide) ?_
                        refine lv_isub hx hb d_Model_behindFirst_207 ?_
                        refine va_put (D := (dC, dI)) (ci := 11) (v := .int ((u32.1 48) - 1)) (ty := .int) hx hb hts i_Model t_Model t_Model_ok n_Model hown hK hP hD hS 11 rfl rfl 44 (by decide) (hts _ w_0f4138ce03) (fun _ h9 => h9) rfl (by decide +kernel) rfl rfl (Nat.le_of_ble_eq_true rfl) d_Model_behindFirst_208 (fun H locs hP hD hS => ?_)
                        have hP : va_P (dC, dI) vwCl (tcw ad cA (sI u32 48 ((u32.1 48) - 1))) H := hP
                        have hD : va_D A (tcw ad cA (sI u32 48 ((u32.1 48) - 1))) := hD
                        cases hF
                        exact leafV X hP hD hS d_Model_behindFirst_211
                      · have hF := ifn hF c_31
                        by_cases c_33 : ((σ.2.2.1 20) a1.toNatClampNeg) = 15
                        · have hF := ifp hF c_33
                          refine lv_tableIn (tgt := 144) (off := 138) hx hb d_Model_behindFirst_6 (by rw [c_33]; decide) (by rw [c_33]; decide) (by rw [c_33]; rfl) (by decide) ?_
                          refine lv_aload_n hx hb d_Model_behindFirst_144 rfl (lv_at hl 0 rfl) ?_
                          obtain ⟨u34, h34, hF⟩ := b1E hF
                          refine callVV (As := []) X (ct_Model_returnValue l dC dI ad cA H.size h34) lk_Model_466 ⟨rfl, rfl, by decide, by decide⟩ 11 rfl rfl hP hD hS hl.1 rfl rfl (Nat.le_of_ble_eq_true rfl) d_Model_behindFirst_145 (fun H locs hP hD hS => ?_)
                          refine lv_goto (tgt := 211) hx hb d_Model_behindFirst_148 (by decide) ?_
                          cases hF
                          exact leafV X hP hD hS d_Model_behindFirst_211
                        · have hF := ifn hF c_33
                          by_cases c_35 : ((σ.2.2.1 20) a1.toNatClampNeg) = 16
                          · have hF := ifp hF c_35
                            refine lv_tableIn (tgt := 151) (off := 145) hx hb d_Model_behindFirst_6 (by rw [c_35]; decide) (by rw [c_35]; decide) (by rw [c_35]; rfl) (by decide) ?_
                            refine lv_aload_n hx hb d_Model_behindFirst_151 rfl (lv_at hl 0 rfl) ?_
                            obtain ⟨u36, h36, hF⟩ := b1E hF
                            refine callVV (As := []) X (ct_Model_print l dC dI ad cA H.size h36) lk_Model_469 ⟨rfl, rfl, by decide, by decide⟩ 11 rfl rfl hP hD hS hl.1 rfl rfl (Nat.le_of_ble_eq_true rfl) d_Model_behindFirst_152 (fun H locs hP hD hS => ?_)
                            refine lv_goto (tgt := 211) hx hb d_Model_behindFirst_155 (by decide) ?_
                            cases hF
                            exact leafV X hP hD hS d_Model_behindFirst_211
                          · have hF := ifn hF c_35
                            refine lv_tableOut (tgt := 196) hx hb d_Model_behindFirst_6 (by have hc_2 := lv_neT (a := 4) c_2 (by decide); have hc_4 := lv_neT (a := 5) c_4 (by decide); have hc_6 := lv_neT (a := 6) c_6 (by decide); have hc_8 := lv_neT (a := 7) c_8 (by decide); have hc_10 := lv_neT (a := 8) c_10 (by decide); have hc_12 := lv_neT (a := 9) c_12 (by decide); have hc_14 := lv_neT (a := 10) c_14 (by decide); have hc_16 := lv_neT (a := 11) c_16 (by decide); have hc_20 := lv_neT (a := 12) c_20 (by decide); have hc_22 := lv_neT (a := 13) c_22 (by decide); have hc_31 := lv_neT (a := 14) c_31 (by decide); have hc_33 := lv_neT (a := 15) c_33 (by decide); have hc_35 := lv_neT (a := 16) c_35 (by decide); omega) (by decide) ?_
                            refine lv_aload_n hx hb d_Model_behindFirst_196 rfl (lv_at hl 0 rfl) ?_
                            obtain ⟨r37, u37, h37, hF⟩ := b2E hF
                            refine callVI (As := []) X (ct_Model_popValue l dC dI ad cA H.size h37) lk_Model_421 ⟨rfl, rfl, by decide, by decide⟩ 11 rfl rfl hP hD hS hl.1 rfl rfl (Nat.le_of_ble_eq_true rfl) d_Model_behindFirst_197 (fun H locs hP hD hS => ?_)
                            refine lv_pop hx hb d_Model_behindFirst_200 rfl ?_
                            refine lv_aload_n hx hb d_Model_behindFirst_201 rfl (lv_at hl 0 rfl) ?_
                            refine lv_dup hx hb d_Model_behindFirst_202 rfl ?_
                            refine va_get (D := (dC, dI)) (ci := 11) (v := .int (u37.1 48)) hx hb hts i_Model hown hK hP 11 rfl rfl 44 (by decide) (hts _ w_0f4138ce03) (fun _ h9 => h9) rfl d_Model_behindFirst_203 ?_
                            refine lv_iconst (v := 1) hx hb d_Model_behindFirst_206 (by decide) ?_
                            refine lv_isub hx hb d_Model_behindFirst_207 ?_
                            refine va_put (D := (dC, dI)) (ci := 11) (v := .int ((u37.1 48) - 1)) (ty := .int) hx hb hts i_Model t_Model t_Model_ok n_Model hown hK hP hD hS 11 rfl rfl 44 (by decide) (hts _ w_0f4138ce03) (fun _ h9 => h9) rfl (by decide +kernel) rfl rfl (Nat.le_of_ble_eq_true rfl) d_Model_behindFirst_208 (fun H locs hP hD hS => ?_)
                            have hP : va_P (dC, dI) vwCl (tcw ad cA (sI u37 48 ((u37.1 48) - 1))) H := hP
                            have hD : va_D A (tcw ad cA (sI u37 48 ((u37.1 48) - 1))) := hD
                            cases hF
                            exact leafV X hP hD hS d_Model_behindFirst_211
theorem d_Model_tick_0 : decode b_Model_tick 0 = .ok (.aload_n 0, 1) := by decide +kernel
theorem d_Model_tick_1 : decode b_Model_tick 1 = .ok (.getfield 392, 3) := by decide +kernel
theorem d_Model_tick_4 : decode b_Model_tick 4 = .ok (.sipush 400, 3) := by decide +kernel
theorem d_Model_tick_7 : decode b_Model_tick 7 = .ok (.if_icmp .ne 11, 3) := by decide +kernel
theorem d_Model_tick_10 : decode b_Model_tick 10 = .ok (.aload_n 0, 1) := by decide +kernel
theorem d_Model_tick_11 : decode b_Model_tick 11 = .ok (.iconst 2, 1) := by decide +kernel
theorem d_Model_tick_12 : decode b_Model_tick 12 = .ok (.putfield 407, 3) := by decide +kernel
theorem d_Model_tick_15 : decode b_Model_tick 15 = .ok (.goto 13, 3) := by decide +kernel
theorem d_Model_tick_18 : decode b_Model_tick 18 = .ok (.aload_n 0, 1) := by decide +kernel
theorem d_Model_tick_19 : decode b_Model_tick 19 = .ok (.dup, 1) := by decide +kernel
theorem d_Model_tick_20 : decode b_Model_tick 20 = .ok (.getfield 392, 3) := by decide +kernel
theorem d_Model_tick_23 : decode b_Model_tick 23 = .ok (.iconst 1, 1) := by decide +kernel
theorem d_Model_tick_24 : decode b_Model_tick 24 = .ok (.iadd, 1) := by decide +kernel
theorem d_Model_tick_25 : decode b_Model_tick 25 = .ok (.putfield 392, 3) := by decide +kernel
theorem d_Model_tick_28 : decode b_Model_tick 28 = .ok (.return_, 1) := by decide +kernel
def tModel_tick (σ : St) : Option (St) := if (σ.1 51) = 400 then some (sI σ 52 2) else some (sI σ 51 ((σ.1 51) + 1))
set_option maxHeartbeats 4000000 in
set_option maxRecDepth 100000 in
theorem ct_Model_tick (l : Launch) (dC : Nat → ClassId) (dI : Nat → Nat → Nat) (ad : Nat → Nat) (cA : Nat → ClassId) (sz : Nat) {σ : St} {σ' : St} (hF : tModel_tick σ = some σ') : MV l y_Model_tick b_Model_tick 1 none { frames := 0, cells := 0, slots := 0, locals := 0 } (dC, dI) (ttys cA) ad (tcw ad cA) [.ref (ad 11)] σ sz σ' := by
  refine startM (own := "TinyForgeModel") (Qc := fun A => QV (dC, dI) (ttys cA) (tcw ad cA) A σ') rfl rfl (Nat.le_of_ble_eq_true rfl) ?_
  intro p e s m below meth c A H locs ls X hP hD hS hl
  have hl : lv_has ls 1 [(0, .ref (ad 11))] := hl
  obtain ⟨hx, hb, hr, hml, hown, hlocks, hts, hA, hK, hZ⟩ := id X
  unfold tModel_tick at hF
  refine lv_aload_n hx hb d_Model_tick_0 rfl (lv_at hl 0 rfl) ?_
  refine va_get (D := (dC, dI)) (ci := 11) (v := .int (σ.1 51)) hx hb hts i_Model hown hK hP 11 rfl rfl 47 (by decide) (hts _ w_d3c148b780) (fun _ h9 => h9) rfl d_Model_tick_1 ?_
  refine lv_sipush (v := 400) hx hb d_Model_tick_4 (by decide) ?_
  refine lv_icmp_ne (tgt := 18) hx hb d_Model_tick_7 (by decide) (fun c_1 => ?_) (fun c_1 => ?_)
  · have hF := ifn hF c_1
    refine lv_aload_n hx hb d_Model_tick_18 rfl (lv_at hl 0 rfl) ?_
    refine lv_dup hx hb d_Model_tick_19 rfl ?_
    refine va_get (D := (dC, dI)) (ci := 11) (v := .int (σ.1 51)) hx hb hts i_Model hown hK hP 11 rfl rfl 47 (by decide) (hts _ w_d3c148b780) (fun _ h9 => h9) rfl d_Model_tick_20 ?_
    refine lv_iconst (v := 1) hx hb d_Model_tick_23 (by decide) ?_
    refine lv_iadd hx hb d_Model_tick_24 ?_
    refine va_put (D := (dC, dI)) (ci := 11) (v := .int ((σ.1 51) + 1)) (ty := .int) hx hb hts i_Model t_Model t_Model_ok n_Model hown hK hP hD hS 11 rfl rfl 47 (by decide) (hts _ w_d3c148b780) (fun _ h9 => h9) rfl (by decide +kernel) rfl rfl (Nat.le_of_ble_eq_true rfl) d_Model_tick_25 (fun H locs hP hD hS => ?_)
    have hP : va_P (dC, dI) vwCl (tcw ad cA (sI σ 51 ((σ.1 51) + 1))) H := hP
    have hD : va_D A (tcw ad cA (sI σ 51 ((σ.1 51) + 1))) := hD
    cases hF
    exact leafV X hP hD hS d_Model_tick_28
  · have hF := ifp hF c_1
    refine lv_aload_n hx hb d_Model_tick_10 rfl (lv_at hl 0 rfl) ?_
    refine lv_iconst (v := 2) hx hb d_Model_tick_11 (by decide) ?_
    refine va_put (D := (dC, dI)) (ci := 11) (v := .int 2) (ty := .int) hx hb hts i_Model t_Model t_Model_ok n_Model hown hK hP hD hS 11 rfl rfl 48 (by decide) (hts _ w_b82ca3c944) (fun _ h9 => h9) rfl (by decide +kernel) rfl rfl (Nat.le_of_ble_eq_true rfl) d_Model_tick_12 (fun H locs hP hD hS => ?_)
    have hP : va_P (dC, dI) vwCl (tcw ad cA (sI σ 52 2)) H := hP
    have hD : va_D A (tcw ad cA (sI σ 52 2)) := hD
    refine lv_goto (tgt := 28) hx hb d_Model_tick_15 (by decide) ?_
    cases hF
    exact leafV X hP hD hS d_Model_tick_28
theorem d_Model_enter_0 : decode b_Model_enter 0 = .ok (.aload_n 0, 1) := by decide +kernel
theorem d_Model_enter_1 : decode b_Model_enter 1 = .ok (.getfield 442, 3) := by decide +kernel
theorem d_Model_enter_4 : decode b_Model_enter 4 = .ok (.bipush 12, 2) := by decide +kernel
theorem d_Model_enter_6 : decode b_Model_enter 6 = .ok (.if_icmp .ne 11, 3) := by decide +kernel
theorem d_Model_enter_9 : decode b_Model_enter 9 = .ok (.aload_n 0, 1) := by decide +kernel
theorem d_Model_enter_10 : decode b_Model_enter 10 = .ok (.iconst 2, 1) := by decide +kernel
theorem d_Model_enter_11 : decode b_Model_enter 11 = .ok (.putfield 407, 3) := by decide +kernel
theorem d_Model_enter_14 : decode b_Model_enter 14 = .ok (.goto 7, 3) := by decide +kernel
theorem d_Model_enter_17 : decode b_Model_enter 17 = .ok (.aload_n 0, 1) := by decide +kernel
theorem d_Model_enter_18 : decode b_Model_enter 18 = .ok (.invokevirtual 445, 3) := by decide +kernel
theorem d_Model_enter_21 : decode b_Model_enter 21 = .ok (.aload_n 0, 1) := by decide +kernel
theorem d_Model_enter_22 : decode b_Model_enter 22 = .ok (.getfield 407, 3) := by decide +kernel
theorem d_Model_enter_25 : decode b_Model_enter 25 = .ok (.ifCond .eq 4, 3) := by decide +kernel
theorem d_Model_enter_28 : decode b_Model_enter 28 = .ok (.return_, 1) := by decide +kernel
theorem d_Model_enter_29 : decode b_Model_enter 29 = .ok (.aload_n 0, 1) := by decide +kernel
theorem d_Model_enter_30 : decode b_Model_enter 30 = .ok (.getfield 58, 3) := by decide +kernel
theorem d_Model_enter_33 : decode b_Model_enter 33 = .ok (.iload_n 1, 1) := by decide +kernel
theorem d_Model_enter_34 : decode b_Model_enter 34 = .ok (.iaload, 1) := by decide +kernel
theorem d_Model_enter_35 : decode b_Model_enter 35 = .ok (.iconst 1, 1) := by decide +kernel
theorem d_Model_enter_36 : decode b_Model_enter 36 = .ok (.isub, 1) := by decide +kernel
theorem d_Model_enter_37 : decode b_Model_enter 37 = .ok (.istore_n 2, 1) := by decide +kernel
theorem d_Model_enter_38 : decode b_Model_enter 38 = .ok (.iload_n 2, 1) := by decide +kernel
theorem d_Model_enter_39 : decode b_Model_enter 39 = .ok (.ifCond .lt 27, 3) := by decide +kernel
theorem d_Model_enter_42 : decode b_Model_enter 42 = .ok (.aload_n 0, 1) := by decide +kernel
theorem d_Model_enter_43 : decode b_Model_enter 43 = .ok (.getfield 91, 3) := by decide +kernel
theorem d_Model_enter_46 : decode b_Model_enter 46 = .ok (.bipush 12, 2) := by decide +kernel
theorem d_Model_enter_48 : decode b_Model_enter 48 = .ok (.aload_n 0, 1) := by decide +kernel
theorem d_Model_enter_49 : decode b_Model_enter 49 = .ok (.getfield 442, 3) := by decide +kernel
theorem d_Model_enter_52 : decode b_Model_enter 52 = .ok (.imul, 1) := by decide +kernel
theorem d_Model_enter_53 : decode b_Model_enter 53 = .ok (.iload_n 2, 1) := by decide +kernel
theorem d_Model_enter_54 : decode b_Model_enter 54 = .ok (.iadd, 1) := by decide +kernel
theorem d_Model_enter_55 : decode b_Model_enter 55 = .ok (.aload_n 0, 1) := by decide +kernel
theorem d_Model_enter_56 : decode b_Model_enter 56 = .ok (.invokevirtual 421, 3) := by decide +kernel
theorem d_Model_enter_59 : decode b_Model_enter 59 = .ok (.iastore, 1) := by decide +kernel
theorem d_Model_enter_60 : decode b_Model_enter 60 = .ok (.iinc 2 (-1), 3) := by decide +kernel
theorem d_Model_enter_63 : decode b_Model_enter 63 = .ok (.goto (-25), 3) := by decide +kernel
theorem d_Model_enter_66 : decode b_Model_enter 66 = .ok (.aload_n 0, 1) := by decide +kernel
theorem d_Model_enter_67 : decode b_Model_enter 67 = .ok (.dup, 1) := by decide +kernel
theorem d_Model_enter_68 : decode b_Model_enter 68 = .ok (.getfield 442, 3) := by decide +kernel
theorem d_Model_enter_71 : decode b_Model_enter 71 = .ok (.iconst 1, 1) := by decide +kernel
theorem d_Model_enter_72 : decode b_Model_enter 72 = .ok (.iadd, 1) := by decide +kernel
theorem d_Model_enter_73 : decode b_Model_enter 73 = .ok (.putfield 442, 3) := by decide +kernel
theorem d_Model_enter_76 : decode b_Model_enter 76 = .ok (.aload_n 0, 1) := by decide +kernel
theorem d_Model_enter_77 : decode b_Model_enter 77 = .ok (.aload_n 0, 1) := by decide +kernel
theorem d_Model_enter_78 : decode b_Model_enter 78 = .ok (.getfield 61, 3) := by decide +kernel
theorem d_Model_enter_81 : decode b_Model_enter 81 = .ok (.iload_n 1, 1) := by decide +kernel
theorem d_Model_enter_82 : decode b_Model_enter 82 = .ok (.iaload, 1) := by decide +kernel
theorem d_Model_enter_83 : decode b_Model_enter 83 = .ok (.invokevirtual 418, 3) := by decide +kernel
theorem d_Model_enter_86 : decode b_Model_enter 86 = .ok (.return_, 1) := by decide +kernel
def tModel_enter_b1 (k : Nat → St → Int32 → Int32 → Option (St)) (σ : St) (x1 : Int32) (x2 : Int32) : Option (St) := if (σ.1 52) = 0 then gd (inB x1 60) (k 2 σ x1 (((σ.2.2.1 29) x1.toNatClampNeg) - 1)) else some σ
def tModel_enter_b2 (k : Nat → St → Int32 → Int32 → Option (St)) (σ : St) (x1 : Int32) (x2 : Int32) : Option (St) := if x2 < 0 then gd (inB x1 60) (b1 (tModel_start (sI σ 50 ((σ.1 50) + 1)) ((σ.2.2.1 30) x1.toNatClampNeg)) (fun u7 => some u7)) else b2 (tModel_popValue σ) (fun r8 u8 => gd (inB ((12 * (σ.1 50)) + x2) 156) (k 2 (sA u8 40 (upd (u8.2.2.1 40) ((12 * (σ.1 50)) + x2).toNatClampNeg r8)) x1 (x2 + (-1))))
def tModel_enter_L : Nat → Nat → St → Int32 → Int32 → Option (St)
  | 0, _, _, _, _ => none
  | n + 1, lab, σ, x1, x2 => match lab with
    | 1 => tModel_enter_b1 (tModel_enter_L n) σ x1 x2
    | 2 => tModel_enter_b2 (tModel_enter_L n) σ x1 x2
    | _ => none
def tModel_enter (σ : St) (a1 : Int32) : Option (St) := if (σ.1 50) = 12 then tModel_enter_L 2000 1 (sI σ 52 2) a1 0 else b1 (tModel_tick σ) (fun u2 => tModel_enter_L 2000 1 u2 a1 0)
set_option maxHeartbeats 4000000 in
set_option maxRecDepth 100000 in
theorem tModel_enter_blk {p : Program} {e : Env} {s : State} {m : MethodId} {args : Array Value} {below : List Frame} {meth : Method} {c : Code} {A : Nat → Prop} (l : Launch) (dC : Nat → ClassId) (dI : Nat → Nat → Nat) (ad : Nat → Nat) (cA : Nat → ClassId) {σ' : St} (X : Cx p s m args meth c b_Model_enter 3 none "TinyForgeModel" (dC, dI) (ttys cA) ad A) : ∀ n : Nat, (∀ (σ : St) (x1 : Int32) (x2 : Int32) (H : Heap) (locs : List Loc) (ls : Array Slot), tModel_enter_L n 1 σ x1 x2 = some σ' → va_P (dC, dI) vwCl (tcw ad cA σ) H → va_D A (tcw ad cA σ) → va_S A s.heap H locs → lv_has ls 3 [(0, .ref (ad 11)), (1, .int x1)] → W p l e { frames := 1, cells := 0, slots := 0, locals := 21 } s m args below meth c H locs 0 0 (MQ below (QV (dC, dI) (ttys cA) (tcw ad cA) A σ') args s 0 0 A) (F0 m 21 ls [])) ∧ (∀ (σ : St) (x1 : Int32) (x2 : Int32) (H : Heap) (locs : List Loc) (ls : Array Slot), tModel_enter_L n 2 σ x1 x2 = some σ' → va_P (dC, dI) vwCl (tcw ad cA σ) H → va_D A (tcw ad cA σ) → va_S A s.heap H locs → lv_has ls 3 [(0, .ref (ad 11)), (1, .int x1), (2, .int x2)] → W p l e { frames := 1, cells := 0, slots := 0, locals := 21 } s m args below meth c H locs 0 0 (MQ below (QV (dC, dI) (ttys cA) (tcw ad cA) A σ') args s 0 0 A) (F0 m 38 ls [])) := by
  obtain ⟨hx, hb, hr, hml, hown, hlocks, hts, hA, hK, hZ⟩ := id X
  intro n
  induction n with
  | zero => exact ⟨(fun σ x1 x2 H locs ls hF => by cases hF), (fun σ x1 x2 H locs ls hF => by cases hF)⟩
  | succ n ihn =>
    refine ⟨fun σ x1 x2 H locs ls hF hP hD hS hl => ?_, fun σ x1 x2 H locs ls hF hP hD hS hl => ?_⟩
    · have hF : tModel_enter_b1 (tModel_enter_L n) σ x1 x2 = some σ' := hF
      unfold tModel_enter_b1 at hF
      refine lv_aload_n hx hb d_Model_enter_21 rfl (lv_at hl 0 rfl) ?_
      refine va_get (D := (dC, dI)) (ci := 11) (v := .int (σ.1 52)) hx hb hts i_Model hown hK hP 11 rfl rfl 48 (by decide) (hts _ w_b82ca3c944) (fun _ h9 => h9) rfl d_Model_enter_22 ?_
      refine lv_if_eq (tgt := 29) hx hb d_Model_enter_25 (by decide) (fun c_3 => ?_) (fun c_3 => ?_)
      · have hF := ifp hF c_3
        refine lv_aload_n hx hb d_Model_enter_29 rfl (lv_at hl 0 rfl) ?_
        refine va_get (D := (dC, dI)) (ci := 11) (v := .ref (ad 44)) hx hb hts i_Model hown hK hP 11 rfl rfl 26 (by decide) (hts _ w_3f8fbd1572) (fun _ h9 => h9) rfl d_Model_enter_30 ?_
        refine lv_iload_n hx hb d_Model_enter_33 rfl (lv_at hl 1 rfl) ?_
        obtain ⟨g_4, hF⟩ := gdE hF
        refine va_iald (f := (σ.2.2.1 29)) hx hb hK hP 44 0 rfl rfl (inE g_4) d_Model_enter_34 ?_
        refine lv_iconst (v := 1) hx hb d_Model_enter_35 (by decide) ?_
        refine lv_isub hx hb d_Model_enter_36 ?_
        refine lv_istore_n (lv' := [(2, .int (((σ.2.2.1 29) x1.toNatClampNeg) - 1)), (0, .ref (ad 11)), (1, .int x1)]) hx hb d_Model_enter_37 rfl hl (by decide) rfl (fun ls hl => ?_)
        exact ihn.2 σ x1 (((σ.2.2.1 29) x1.toNatClampNeg) - 1) H locs ls hF hP hD hS (lv_sub hl [1, 2, 0] rfl)
      · have hF := ifn hF c_3
        cases hF
        exact leafV X hP hD hS d_Model_enter_28
    · have hF : tModel_enter_b2 (tModel_enter_L n) σ x1 x2 = some σ' := hF
      unfold tModel_enter_b2 at hF
      refine lv_iload_n hx hb d_Model_enter_38 rfl (lv_at hl 2 rfl) ?_
      refine lv_if_lt (tgt := 66) hx hb d_Model_enter_39 (by decide) (fun c_5 => ?_) (fun c_5 => ?_)
      · have hF := ifp hF c_5
        refine lv_aload_n hx hb d_Model_enter_66 rfl (lv_at hl 0 rfl) ?_
        refine lv_dup hx hb d_Model_enter_67 rfl ?_
        refine va_get (D := (dC, dI)) (ci := 11) (v := .int (σ.1 50)) hx hb hts i_Model hown hK hP 11 rfl rfl 46 (by decide) (hts _ w_bff6745645) (fun _ h9 => h9) rfl d_Model_enter_68 ?_
        refine lv_iconst (v := 1) hx hb d_Model_enter_71 (by decide) ?_
        refine lv_iadd hx hb d_Model_enter_72 ?_
        refine va_put (D := (dC, dI)) (ci := 11) (v := .int ((σ.1 50) + 1)) (ty := .int) hx hb hts i_Model t_Model t_Model_ok n_Model hown hK hP hD hS 11 rfl rfl 46 (by decide) (hts _ w_bff6745645) (fun _ h9 => h9) rfl (by decide +kernel) rfl rfl (Nat.le_of_ble_eq_true rfl) d_Model_enter_73 (fun H locs hP hD hS => ?_)
        have hP : va_P (dC, dI) vwCl (tcw ad cA (sI σ 50 ((σ.1 50) + 1))) H := hP
        have hD : va_D A (tcw ad cA (sI σ 50 ((σ.1 50) + 1))) := hD
        refine lv_aload_n hx hb d_Model_enter_76 rfl (lv_at hl 0 rfl) ?_
        refine lv_aload_n hx hb d_Model_enter_77 rfl (lv_at hl 0 rfl) ?_
        refine va_get (D := (dC, dI)) (ci := 11) (v := .ref (ad 45)) hx hb hts i_Model hown hK hP 11 rfl rfl 27 (by decide) (hts _ w_04aab809f2) (fun _ h9 => h9) rfl d_Model_enter_78 ?_
        refine lv_iload_n hx hb d_Model_enter_81 rfl (lv_at hl 1 rfl) ?_
        obtain ⟨g_6, hF⟩ := gdE hF
        refine va_iald (f := (σ.2.2.1 30)) hx hb hK hP 45 0 rfl rfl (inE g_6) d_Model_enter_82 ?_
        obtain ⟨u7, h7, hF⟩ := b1E hF
        refine callVV (As := [.int ((σ.2.2.1 30) x1.toNatClampNeg)]) X (ct_Model_start l dC dI ad cA H.size h7) lk_Model_418 ⟨rfl, rfl, by decide, by decide⟩ 11 rfl rfl hP hD hS hl.1 rfl rfl (Nat.le_of_ble_eq_true rfl) d_Model_enter_83 (fun H locs hP hD hS => ?_)
        cases hF
        exact leafV X hP hD hS d_Model_enter_86
      · have hF := ifn hF c_5
        refine lv_aload_n hx hb d_Model_enter_42 rfl (lv_at hl 0 rfl) ?_
        refine va_get (D := (dC, dI)) (ci := 11) (v := .ref (ad 55)) hx hb hts i_Model hown hK hP 11 rfl rfl 53 (by decide) (hts _ w_5a5d41179b) (fun _ h9 => h9) rfl d_Model_enter_43 ?_
        refine lv_bipush (v := 12) hx hb d_Model_enter_46 (by decide) ?_
        refine lv_aload_n hx hb d_Model_enter_48 rfl (lv_at hl 0 rfl) ?_
        refine va_get (D := (dC, dI)) (ci := 11) (v := .int (σ.1 50)) hx hb hts i_Model hown hK hP 11 rfl rfl 46 (by decide) (hts _ w_bff6745645) (fun _ h9 => h9) rfl d_Model_enter_49 ?_
        refine lv_imul hx hb d_Model_enter_52 ?_
        refine lv_iload_n hx hb d_Model_enter_53 rfl (lv_at hl 2 rfl) ?_
        refine lv_iadd hx hb d_Model_enter_54 ?_
        refine lv_aload_n hx hb d_Model_enter_55 rfl (lv_at hl 0 rfl) ?_
        obtain ⟨r8, u8, h8, hF⟩ := b2E hF
        refine callVI (As := []) X (ct_Model_popValue l dC dI ad cA H.size h8) lk_Model_421 ⟨rfl, rfl, by decide, by decide⟩ 11 rfl rfl hP hD hS hl.1 rfl rfl (Nat.le_of_ble_eq_true rfl) d_Model_enter_56 (fun H locs hP hD hS => ?_)
        obtain ⟨g_9, hF⟩ := gdE hF
        refine va_iast (f := (u8.2.2.1 40)) hx hb hK hP hD hS 55 0 rfl rfl (inE g_9) d_Model_enter_59 (fun H locs hP hD hS => ?_)
        have hP : va_P (dC, dI) vwCl (tcw ad cA (sA u8 40 (upd (u8.2.2.1 40) ((12 * (σ.1 50)) + x2).toNatClampNeg r8))) H := hP
        have hD : va_D A (tcw ad cA (sA u8 40 (upd (u8.2.2.1 40) ((12 * (σ.1 50)) + x2).toNatClampNeg r8))) := hD
        refine lv_iinc (v := (x2 + (-1))) (lv' := [(2, .int (x2 + (-1))), (0, .ref (ad 11)), (1, .int x1)]) hx hb d_Model_enter_60 hl (k := 2) rfl rfl (by decide) rfl (fun ls hl => ?_)
        refine lv_goto (tgt := 38) hx hb d_Model_enter_63 (by decide) ?_
        exact ihn.2 (sA u8 40 (upd (u8.2.2.1 40) ((12 * (σ.1 50)) + x2).toNatClampNeg r8)) x1 (x2 + (-1)) H locs ls hF hP hD hS (lv_sub hl [1, 2, 0] rfl)
set_option maxHeartbeats 4000000 in
set_option maxRecDepth 100000 in
theorem ct_Model_enter (l : Launch) (dC : Nat → ClassId) (dI : Nat → Nat → Nat) (ad : Nat → Nat) (cA : Nat → ClassId) (sz : Nat) {σ : St} {a1 : Int32} {σ' : St} (hF : tModel_enter σ a1 = some σ') : MV l y_Model_enter b_Model_enter 3 none { frames := 1, cells := 0, slots := 0, locals := 21 } (dC, dI) (ttys cA) ad (tcw ad cA) [.ref (ad 11), .int a1] σ sz σ' := by
  refine startM (own := "TinyForgeModel") (Qc := fun A => QV (dC, dI) (ttys cA) (tcw ad cA) A σ') rfl rfl (Nat.le_of_ble_eq_true rfl) ?_
  intro p e s m below meth c A H locs ls X hP hD hS hl
  have hl : lv_has ls 3 [(0, .ref (ad 11)), (1, .int a1)] := hl
  obtain ⟨hx, hb, hr, hml, hown, hlocks, hts, hA, hK, hZ⟩ := id X
  unfold tModel_enter at hF
  refine lv_aload_n hx hb d_Model_enter_0 rfl (lv_at hl 0 rfl) ?_
  refine va_get (D := (dC, dI)) (ci := 11) (v := .int (σ.1 50)) hx hb hts i_Model hown hK hP 11 rfl rfl 46 (by decide) (hts _ w_bff6745645) (fun _ h9 => h9) rfl d_Model_enter_1 ?_
  refine lv_bipush (v := 12) hx hb d_Model_enter_4 (by decide) ?_
  refine lv_icmp_ne (tgt := 17) hx hb d_Model_enter_6 (by decide) (fun c_1 => ?_) (fun c_1 => ?_)
  · have hF := ifn hF c_1
    refine lv_aload_n hx hb d_Model_enter_17 rfl (lv_at hl 0 rfl) ?_
    obtain ⟨u2, h2, hF⟩ := b1E hF
    refine callVV (As := []) X (ct_Model_tick l dC dI ad cA H.size h2) lk_Model_445 ⟨rfl, rfl, by decide, by decide⟩ 11 rfl rfl hP hD hS hl.1 rfl rfl (Nat.le_of_ble_eq_true rfl) d_Model_enter_18 (fun H locs hP hD hS => ?_)
    exact (tModel_enter_blk l dC dI ad cA X 2000).1 u2 a1 0 H locs ls hF hP hD hS (lv_sub hl [0, 1] rfl)
  · have hF := ifp hF c_1
    refine lv_aload_n hx hb d_Model_enter_9 rfl (lv_at hl 0 rfl) ?_
    refine lv_iconst (v := 2) hx hb d_Model_enter_10 (by decide) ?_
    refine va_put (D := (dC, dI)) (ci := 11) (v := .int 2) (ty := .int) hx hb hts i_Model t_Model t_Model_ok n_Model hown hK hP hD hS 11 rfl rfl 48 (by decide) (hts _ w_b82ca3c944) (fun _ h9 => h9) rfl (by decide +kernel) rfl rfl (Nat.le_of_ble_eq_true rfl) d_Model_enter_11 (fun H locs hP hD hS => ?_)
    have hP : va_P (dC, dI) vwCl (tcw ad cA (sI σ 52 2)) H := hP
    have hD : va_D A (tcw ad cA (sI σ 52 2)) := hD
    refine lv_goto (tgt := 21) hx hb d_Model_enter_14 (by decide) ?_
    exact (tModel_enter_blk l dC dI ad cA X 2000).1 (sI σ 52 2) a1 0 H locs ls hF hP hD hS (lv_sub hl [0, 1] rfl)
theorem d_Model_partAt_0 : decode b_Model_partAt 0 = .ok (.aload_n 0, 1) := by decide +kernel
theorem d_Model_partAt_1 : decode b_Model_partAt 1 = .ok (.getfield 36, 3) := by decide +kernel
theorem d_Model_partAt_4 : decode b_Model_partAt 4 = .ok (.iload_n 1, 1) := by decide +kernel
theorem d_Model_partAt_5 : decode b_Model_partAt 5 = .ok (.iaload, 1) := by decide +kernel
theorem d_Model_partAt_6 : decode b_Model_partAt 6 = .ok (.istore_n 3, 1) := by decide +kernel
theorem d_Model_partAt_7 : decode b_Model_partAt 7 = .ok (.iconst 0, 1) := by decide +kernel
theorem d_Model_partAt_8 : decode b_Model_partAt 8 = .ok (.istore 4, 2) := by decide +kernel
theorem d_Model_partAt_10 : decode b_Model_partAt 10 = .ok (.iload 4, 2) := by decide +kernel
theorem d_Model_partAt_12 : decode b_Model_partAt 12 = .ok (.iload_n 2, 1) := by decide +kernel
theorem d_Model_partAt_13 : decode b_Model_partAt 13 = .ok (.if_icmp .ge 20, 3) := by decide +kernel
theorem d_Model_partAt_16 : decode b_Model_partAt 16 = .ok (.iload_n 3, 1) := by decide +kernel
theorem d_Model_partAt_17 : decode b_Model_partAt 17 = .ok (.ifCond .lt 16, 3) := by decide +kernel
theorem d_Model_partAt_20 : decode b_Model_partAt 20 = .ok (.aload_n 0, 1) := by decide +kernel
theorem d_Model_partAt_21 : decode b_Model_partAt 21 = .ok (.getfield 45, 3) := by decide +kernel
theorem d_Model_partAt_24 : decode b_Model_partAt 24 = .ok (.iload_n 3, 1) := by decide +kernel
theorem d_Model_partAt_25 : decode b_Model_partAt 25 = .ok (.iaload, 1) := by decide +kernel
theorem d_Model_partAt_26 : decode b_Model_partAt 26 = .ok (.istore_n 3, 1) := by decide +kernel
theorem d_Model_partAt_27 : decode b_Model_partAt 27 = .ok (.iinc 4 1, 3) := by decide +kernel
theorem d_Model_partAt_30 : decode b_Model_partAt 30 = .ok (.goto (-20), 3) := by decide +kernel
theorem d_Model_partAt_33 : decode b_Model_partAt 33 = .ok (.iload_n 3, 1) := by decide +kernel
theorem d_Model_partAt_34 : decode b_Model_partAt 34 = .ok (.ireturn, 1) := by decide +kernel
def tModel_partAt_b1 (k : Nat → St → Int32 → Int32 → Int32 → Option (Int32)) (σ : St) (x1 : Int32) (x2 : Int32) (x3 : Int32) : Option (Int32) := if x1 ≤ x3 then some x2 else if x2 < 0 then some x2 else gd (inB x2 500) (k 1 σ x1 ((σ.2.2.1 25) x2.toNatClampNeg) (x3 + 1))
def tModel_partAt_L : Nat → Nat → St → Int32 → Int32 → Int32 → Option (Int32)
  | 0, _, _, _, _, _ => none
  | n + 1, lab, σ, x1, x2, x3 => match lab with
    | 1 => tModel_partAt_b1 (tModel_partAt_L n) σ x1 x2 x3
    | _ => none
def tModel_partAt (σ : St) (a1 : Int32) (a2 : Int32) : Option (Int32) := gd (inB a1 500) (tModel_partAt_L 2000 1 σ a2 ((σ.2.2.1 22) a1.toNatClampNeg) 0)
set_option maxHeartbeats 4000000 in
set_option maxRecDepth 100000 in
theorem tModel_partAt_blk {p : Program} {e : Env} {s : State} {m : MethodId} {args : Array Value} {below : List Frame} {meth : Method} {c : Code} {A : Nat → Prop} (l : Launch) (dC : Nat → ClassId) (dI : Nat → Nat → Nat) (ad : Nat → Nat) (cA : Nat → ClassId) {r : Int32} (X : Cx p s m args meth c b_Model_partAt 5 (some .int) "TinyForgeModel" (dC, dI) (ttys cA) ad A) : ∀ n : Nat, (∀ (σ : St) (x1 : Int32) (x2 : Int32) (x3 : Int32) (H : Heap) (locs : List Loc) (ls : Array Slot), tModel_partAt_L n 1 σ x1 x2 x3 = some r → va_P (dC, dI) vwCl (tcw ad cA σ) H → va_D A (tcw ad cA σ) → va_S A s.heap H locs → lv_has ls 5 [(0, .ref (ad 11)), (2, .int x1), (3, .int x2), (4, .int x3)] → W p l e { frames := 0, cells := 0, slots := 0, locals := 0 } s m args below meth c H locs 0 0 (MQ below (QI (dC, dI) (ttys cA) (tcw ad cA) A r σ) args s 0 0 A) (F0 m 10 ls [])) := by
  obtain ⟨hx, hb, hr, hml, hown, hlocks, hts, hA, hK, hZ⟩ := id X
  intro n
  induction n with
  | zero => exact (fun σ x1 x2 x3 H locs ls hF => by cases hF)
  | succ n ihn =>
    refine fun σ x1 x2 x3 H locs ls hF hP hD hS hl => ?_
    · have hF : tModel_partAt_b1 (tModel_partAt_L n) σ x1 x2 x3 = some r := hF
      unfold tModel_partAt_b1 at hF
      refine lv_iload hx hb d_Model_partAt_10 (lv_at hl 3 rfl) ?_
      refine lv_iload_n hx hb d_Model_partAt_12 rfl (lv_at hl 1 rfl) ?_
      refine lv_icmp_ge (tgt := 33) hx hb d_Model_partAt_13 (by decide) (fun c_2 => ?_) (fun c_2 => ?_)
      · have hF := ifp hF c_2
        refine lv_iload_n hx hb d_Model_partAt_33 rfl (lv_at hl 2 rfl) ?_
        cases hF
        exact leafI X hP hD hS d_Model_partAt_34
      · have hF := ifn hF c_2
        refine lv_iload_n hx hb d_Model_partAt_16 rfl (lv_at hl 2 rfl) ?_
        refine lv_if_lt (tgt := 33) hx hb d_Model_partAt_17 (by decide) (fun c_3 => ?_) (fun c_3 => ?_)
        · have hF := ifp hF c_3
          refine lv_iload_n hx hb d_Model_partAt_33 rfl (lv_at hl 2 rfl) ?_
          cases hF
          exact leafI X hP hD hS d_Model_partAt_34
        · have hF := ifn hF c_3
          refine lv_aload_n hx hb d_Model_partAt_20 rfl (lv_at hl 0 rfl) ?_
          refine va_get (D := (dC, dI)) (ci := 11) (v := .ref (ad 40)) hx hb hts i_Model hown hK hP 11 rfl rfl 19 (by decide) (hts _ w_90306bc83b) (fun _ h9 => h9) rfl d_Model_partAt_21 ?_
          refine lv_iload_n hx hb d_Model_partAt_24 rfl (lv_at hl 2 rfl) ?_
          obtain ⟨g_4, hF⟩ := gdE hF
          refine va_iald (f := (σ.2.2.1 25)) hx hb hK hP 40 0 rfl rfl (inE g_4) d_Model_partAt_25 ?_
          refine lv_istore_n (lv' := [(3, .int ((σ.2.2.1 25) x2.toNatClampNeg)), (0, .ref (ad 11)), (2, .int x1), (4, .int x3)]) hx hb d_Model_partAt_26 rfl hl (by decide) rfl (fun ls hl => ?_)
          refine lv_iinc (v := (x3 + 1)) (lv' := [(4, .int (x3 + 1)), (3, .int ((σ.2.2.1 25) x2.toNatClampNeg)), (0, .ref (ad 11)), (2, .int x1)]) hx hb d_Model_partAt_27 hl (k := 3) rfl rfl (by decide) rfl (fun ls hl => ?_)
          refine lv_goto (tgt := 10) hx hb d_Model_partAt_30 (by decide) ?_
          exact ihn σ x1 ((σ.2.2.1 25) x2.toNatClampNeg) (x3 + 1) H locs ls hF hP hD hS (lv_sub hl [2, 3, 1, 0] rfl)
set_option maxHeartbeats 4000000 in
set_option maxRecDepth 100000 in
theorem ct_Model_partAt (l : Launch) (dC : Nat → ClassId) (dI : Nat → Nat → Nat) (ad : Nat → Nat) (cA : Nat → ClassId) (sz : Nat) {σ : St} {a1 : Int32} {a2 : Int32} {r : Int32} (hF : tModel_partAt σ a1 a2 = some r) : MI l y_Model_partAt b_Model_partAt 5 (some .int) { frames := 0, cells := 0, slots := 0, locals := 0 } (dC, dI) (ttys cA) ad (tcw ad cA) [.ref (ad 11), .int a1, .int a2] σ sz r σ := by
  refine startM (own := "TinyForgeModel") (Qc := fun A => QI (dC, dI) (ttys cA) (tcw ad cA) A r σ) rfl rfl (Nat.le_of_ble_eq_true rfl) ?_
  intro p e s m below meth c A H locs ls X hP hD hS hl
  have hl : lv_has ls 5 [(0, .ref (ad 11)), (1, .int a1), (2, .int a2)] := hl
  obtain ⟨hx, hb, hr, hml, hown, hlocks, hts, hA, hK, hZ⟩ := id X
  unfold tModel_partAt at hF
  refine lv_aload_n hx hb d_Model_partAt_0 rfl (lv_at hl 0 rfl) ?_
  refine va_get (D := (dC, dI)) (ci := 11) (v := .ref (ad 37)) hx hb hts i_Model hown hK hP 11 rfl rfl 16 (by decide) (hts _ w_b1c1a5a9de) (fun _ h9 => h9) rfl d_Model_partAt_1 ?_
  refine lv_iload_n hx hb d_Model_partAt_4 rfl (lv_at hl 1 rfl) ?_
  obtain ⟨g_1, hF⟩ := gdE hF
  refine va_iald (f := (σ.2.2.1 22)) hx hb hK hP 37 0 rfl rfl (inE g_1) d_Model_partAt_5 ?_
  refine lv_istore_n (lv' := [(3, .int ((σ.2.2.1 22) a1.toNatClampNeg)), (0, .ref (ad 11)), (1, .int a1), (2, .int a2)]) hx hb d_Model_partAt_6 rfl hl (by decide) rfl (fun ls hl => ?_)
  refine lv_iconst (v := 0) hx hb d_Model_partAt_7 (by decide) ?_
  refine lv_istore (lv' := [(4, .int 0), (3, .int ((σ.2.2.1 22) a1.toNatClampNeg)), (0, .ref (ad 11)), (1, .int a1), (2, .int a2)]) hx hb d_Model_partAt_8 hl (by decide) rfl (fun ls hl => ?_)
  exact (tModel_partAt_blk l dC dI ad cA X 2000) σ a2 ((σ.2.2.1 22) a1.toNatClampNeg) 0 H locs ls hF hP hD hS (lv_sub hl [2, 4, 1, 0] rfl)
theorem d_Model_call_0 : decode b_Model_call 0 = .ok (.iload_n 2, 1) := by decide +kernel
theorem d_Model_call_1 : decode b_Model_call 1 = .ok (.aload_n 0, 1) := by decide +kernel
theorem d_Model_call_2 : decode b_Model_call 2 = .ok (.getfield 33, 3) := by decide +kernel
theorem d_Model_call_5 : decode b_Model_call 5 = .ok (.iload_n 1, 1) := by decide +kernel
theorem d_Model_call_6 : decode b_Model_call 6 = .ok (.iaload, 1) := by decide +kernel
theorem d_Model_call_7 : decode b_Model_call 7 = .ok (.if_icmp .ge 16, 3) := by decide +kernel
theorem d_Model_call_10 : decode b_Model_call 10 = .ok (.aload_n 0, 1) := by decide +kernel
theorem d_Model_call_11 : decode b_Model_call 11 = .ok (.aload_n 0, 1) := by decide +kernel
theorem d_Model_call_12 : decode b_Model_call 12 = .ok (.iload_n 1, 1) := by decide +kernel
theorem d_Model_call_13 : decode b_Model_call 13 = .ok (.iload_n 2, 1) := by decide +kernel
theorem d_Model_call_14 : decode b_Model_call 14 = .ok (.invokevirtual 433, 3) := by decide +kernel
theorem d_Model_call_17 : decode b_Model_call 17 = .ok (.invokevirtual 418, 3) := by decide +kernel
theorem d_Model_call_20 : decode b_Model_call 20 = .ok (.goto 31, 3) := by decide +kernel
theorem d_Model_call_23 : decode b_Model_call 23 = .ok (.iload_n 2, 1) := by decide +kernel
theorem d_Model_call_24 : decode b_Model_call 24 = .ok (.aload_n 0, 1) := by decide +kernel
theorem d_Model_call_25 : decode b_Model_call 25 = .ok (.getfield 33, 3) := by decide +kernel
theorem d_Model_call_28 : decode b_Model_call 28 = .ok (.iload_n 1, 1) := by decide +kernel
theorem d_Model_call_29 : decode b_Model_call 29 = .ok (.iaload, 1) := by decide +kernel
theorem d_Model_call_30 : decode b_Model_call 30 = .ok (.if_icmp .ne 16, 3) := by decide +kernel
theorem d_Model_call_33 : decode b_Model_call 33 = .ok (.aload_n 0, 1) := by decide +kernel
theorem d_Model_call_34 : decode b_Model_call 34 = .ok (.aload_n 0, 1) := by decide +kernel
theorem d_Model_call_35 : decode b_Model_call 35 = .ok (.getfield 42, 3) := by decide +kernel
theorem d_Model_call_38 : decode b_Model_call 38 = .ok (.iload_n 1, 1) := by decide +kernel
theorem d_Model_call_39 : decode b_Model_call 39 = .ok (.iaload, 1) := by decide +kernel
theorem d_Model_call_40 : decode b_Model_call 40 = .ok (.invokevirtual 436, 3) := by decide +kernel
theorem d_Model_call_43 : decode b_Model_call 43 = .ok (.goto 8, 3) := by decide +kernel
theorem d_Model_call_46 : decode b_Model_call 46 = .ok (.aload_n 0, 1) := by decide +kernel
theorem d_Model_call_47 : decode b_Model_call 47 = .ok (.iconst 0, 1) := by decide +kernel
theorem d_Model_call_48 : decode b_Model_call 48 = .ok (.invokevirtual 439, 3) := by decide +kernel
theorem d_Model_call_51 : decode b_Model_call 51 = .ok (.return_, 1) := by decide +kernel
def tModel_call (σ : St) (a1 : Int32) (a2 : Int32) : Option (St) := gd (inB a1 500) (if ((σ.2.2.1 21) a1.toNatClampNeg) ≤ a2 then gd (inB a1 500) (if a2 = ((σ.2.2.1 21) a1.toNatClampNeg) then gd (inB a1 500) (b1 (tModel_enter σ ((σ.2.2.1 24) a1.toNatClampNeg)) (fun u7 => some u7)) else b1 (tModel_leave σ 0) (fun u5 => some u5)) else b1 (tModel_partAt σ a1 a2) (fun r8 => b1 (tModel_start σ r8) (fun u9 => some u9)))
set_option maxHeartbeats 4000000 in
set_option maxRecDepth 100000 in
theorem ct_Model_call (l : Launch) (dC : Nat → ClassId) (dI : Nat → Nat → Nat) (ad : Nat → Nat) (cA : Nat → ClassId) (sz : Nat) {σ : St} {a1 : Int32} {a2 : Int32} {σ' : St} (hF : tModel_call σ a1 a2 = some σ') : MV l y_Model_call b_Model_call 3 none { frames := 2, cells := 0, slots := 0, locals := 43 } (dC, dI) (ttys cA) ad (tcw ad cA) [.ref (ad 11), .int a1, .int a2] σ sz σ' := by
  refine startM (own := "TinyForgeModel") (Qc := fun A => QV (dC, dI) (ttys cA) (tcw ad cA) A σ') rfl rfl (Nat.le_of_ble_eq_true rfl) ?_
  intro p e s m below meth c A H locs ls X hP hD hS hl
  have hl : lv_has ls 3 [(0, .ref (ad 11)), (1, .int a1), (2, .int a2)] := hl
  obtain ⟨hx, hb, hr, hml, hown, hlocks, hts, hA, hK, hZ⟩ := id X
  unfold tModel_call at hF
  refine lv_iload_n hx hb d_Model_call_0 rfl (lv_at hl 2 rfl) ?_
  refine lv_aload_n hx hb d_Model_call_1 rfl (lv_at hl 0 rfl) ?_
  refine va_get (D := (dC, dI)) (ci := 11) (v := .ref (ad 36)) hx hb hts i_Model hown hK hP 11 rfl rfl 15 (by decide) (hts _ w_70f5434828) (fun _ h9 => h9) rfl d_Model_call_2 ?_
  refine lv_iload_n hx hb d_Model_call_5 rfl (lv_at hl 1 rfl) ?_
  obtain ⟨g_1, hF⟩ := gdE hF
  refine va_iald (f := (σ.2.2.1 21)) hx hb hK hP 36 0 rfl rfl (inE g_1) d_Model_call_6 ?_
  refine lv_icmp_ge (tgt := 23) hx hb d_Model_call_7 (by decide) (fun c_2 => ?_) (fun c_2 => ?_)
  · have hF := ifp hF c_2
    refine lv_iload_n hx hb d_Model_call_23 rfl (lv_at hl 2 rfl) ?_
    refine lv_aload_n hx hb d_Model_call_24 rfl (lv_at hl 0 rfl) ?_
    refine va_get (D := (dC, dI)) (ci := 11) (v := .ref (ad 36)) hx hb hts i_Model hown hK hP 11 rfl rfl 15 (by decide) (hts _ w_70f5434828) (fun _ h9 => h9) rfl d_Model_call_25 ?_
    refine lv_iload_n hx hb d_Model_call_28 rfl (lv_at hl 1 rfl) ?_
    obtain ⟨g_3, hF⟩ := gdE hF
    refine va_iald (f := (σ.2.2.1 21)) hx hb hK hP 36 0 rfl rfl (inE g_3) d_Model_call_29 ?_
    refine lv_icmp_ne (tgt := 46) hx hb d_Model_call_30 (by decide) (fun c_4 => ?_) (fun c_4 => ?_)
    · have hF := ifn hF c_4
      refine lv_aload_n hx hb d_Model_call_46 rfl (lv_at hl 0 rfl) ?_
      refine lv_iconst (v := 0) hx hb d_Model_call_47 (by decide) ?_
      obtain ⟨u5, h5, hF⟩ := b1E hF
      refine callVV (As := [.int 0]) X (ct_Model_leave l dC dI ad cA H.size h5) lk_Model_439 ⟨rfl, rfl, by decide, by decide⟩ 11 rfl rfl hP hD hS hl.1 rfl rfl (Nat.le_of_ble_eq_true rfl) d_Model_call_48 (fun H locs hP hD hS => ?_)
      cases hF
      exact leafV X hP hD hS d_Model_call_51
    · have hF := ifp hF c_4
      refine lv_aload_n hx hb d_Model_call_33 rfl (lv_at hl 0 rfl) ?_
      refine lv_aload_n hx hb d_Model_call_34 rfl (lv_at hl 0 rfl) ?_
      refine va_get (D := (dC, dI)) (ci := 11) (v := .ref (ad 39)) hx hb hts i_Model hown hK hP 11 rfl rfl 18 (by decide) (hts _ w_7d7d4091fc) (fun _ h9 => h9) rfl d_Model_call_35 ?_
      refine lv_iload_n hx hb d_Model_call_38 rfl (lv_at hl 1 rfl) ?_
      obtain ⟨g_6, hF⟩ := gdE hF
      refine va_iald (f := (σ.2.2.1 24)) hx hb hK hP 39 0 rfl rfl (inE g_6) d_Model_call_39 ?_
      obtain ⟨u7, h7, hF⟩ := b1E hF
      refine callVV (As := [.int ((σ.2.2.1 24) a1.toNatClampNeg)]) X (ct_Model_enter l dC dI ad cA H.size h7) lk_Model_436 ⟨rfl, rfl, by decide, by decide⟩ 11 rfl rfl hP hD hS hl.1 rfl rfl (Nat.le_of_ble_eq_true rfl) d_Model_call_40 (fun H locs hP hD hS => ?_)
      refine lv_goto (tgt := 51) hx hb d_Model_call_43 (by decide) ?_
      cases hF
      exact leafV X hP hD hS d_Model_call_51
  · have hF := ifn hF c_2
    refine lv_aload_n hx hb d_Model_call_10 rfl (lv_at hl 0 rfl) ?_
    refine lv_aload_n hx hb d_Model_call_11 rfl (lv_at hl 0 rfl) ?_
    refine lv_iload_n hx hb d_Model_call_12 rfl (lv_at hl 1 rfl) ?_
    refine lv_iload_n hx hb d_Model_call_13 rfl (lv_at hl 2 rfl) ?_
    obtain ⟨r8, h8, hF⟩ := b1E hF
    refine callVI (As := [.int a1, .int a2]) X (ct_Model_partAt l dC dI ad cA H.size h8) lk_Model_433 ⟨rfl, rfl, by decide, by decide⟩ 11 rfl rfl hP hD hS hl.1 rfl rfl (Nat.le_of_ble_eq_true rfl) d_Model_call_14 (fun H locs hP hD hS => ?_)
    obtain ⟨u9, h9, hF⟩ := b1E hF
    refine callVV (As := [.int r8]) X (ct_Model_start l dC dI ad cA H.size h9) lk_Model_418 ⟨rfl, rfl, by decide, by decide⟩ 11 rfl rfl hP hD hS hl.1 rfl rfl (Nat.le_of_ble_eq_true rfl) d_Model_call_17 (fun H locs hP hD hS => ?_)
    refine lv_goto (tgt := 51) hx hb d_Model_call_20 (by decide) ?_
    cases hF
    exact leafV X hP hD hS d_Model_call_51
theorem d_Model_clear_0 : decode b_Model_clear 0 = .ok (.aload_n 0, 1) := by decide +kernel
theorem d_Model_clear_1 : decode b_Model_clear 1 = .ok (.iconst 0, 1) := by decide +kernel
theorem d_Model_clear_2 : decode b_Model_clear 2 = .ok (.putfield 103, 3) := by decide +kernel
theorem d_Model_clear_5 : decode b_Model_clear 5 = .ok (.aload_n 0, 1) := by decide +kernel
theorem d_Model_clear_6 : decode b_Model_clear 6 = .ok (.getfield 118, 3) := by decide +kernel
theorem d_Model_clear_9 : decode b_Model_clear 9 = .ok (.istore_n 1, 1) := by decide +kernel
theorem d_Model_clear_10 : decode b_Model_clear 10 = .ok (.aload_n 0, 1) := by decide +kernel
theorem d_Model_clear_11 : decode b_Model_clear 11 = .ok (.iconst 0, 1) := by decide +kernel
theorem d_Model_clear_12 : decode b_Model_clear 12 = .ok (.putfield 118, 3) := by decide +kernel
theorem d_Model_clear_15 : decode b_Model_clear 15 = .ok (.iload_n 1, 1) := by decide +kernel
theorem d_Model_clear_16 : decode b_Model_clear 16 = .ok (.ireturn, 1) := by decide +kernel
def tModel_clear (σ : St) : Option (Int32 × St) := some ((σ.1 27), (sI (sI σ 26 0) 27 0))
set_option maxHeartbeats 4000000 in
set_option maxRecDepth 100000 in
theorem ct_Model_clear (l : Launch) (dC : Nat → ClassId) (dI : Nat → Nat → Nat) (ad : Nat → Nat) (cA : Nat → ClassId) (sz : Nat) {σ : St} {r : Int32} {σ' : St} (hF : tModel_clear σ = some (r, σ')) : MI l y_Model_clear b_Model_clear 2 (some .int) { frames := 0, cells := 0, slots := 0, locals := 0 } (dC, dI) (ttys cA) ad (tcw ad cA) [.ref (ad 11)] σ sz r σ' := by
  refine startM (own := "TinyForgeModel") (Qc := fun A => QI (dC, dI) (ttys cA) (tcw ad cA) A r σ') rfl rfl (Nat.le_of_ble_eq_true rfl) ?_
  intro p e s m below meth c A H locs ls X hP hD hS hl
  have hl : lv_has ls 2 [(0, .ref (ad 11))] := hl
  obtain ⟨hx, hb, hr, hml, hown, hlocks, hts, hA, hK, hZ⟩ := id X
  unfold tModel_clear at hF
  refine lv_aload_n hx hb d_Model_clear_0 rfl (lv_at hl 0 rfl) ?_
  refine lv_iconst (v := 0) hx hb d_Model_clear_1 (by decide) ?_
  refine va_put (D := (dC, dI)) (ci := 11) (v := .int 0) (ty := .int) hx hb hts i_Model t_Model t_Model_ok n_Model hown hK hP hD hS 11 rfl rfl 0 (by decide) (hts _ w_06eb2805f0) (fun _ h9 => h9) rfl (by decide +kernel) rfl rfl (Nat.le_of_ble_eq_true rfl) d_Model_clear_2 (fun H locs hP hD hS => ?_)
  have hP : va_P (dC, dI) vwCl (tcw ad cA (sI σ 26 0)) H := hP
  have hD : va_D A (tcw ad cA (sI σ 26 0)) := hD
  refine lv_aload_n hx hb d_Model_clear_5 rfl (lv_at hl 0 rfl) ?_
  refine va_get (D := (dC, dI)) (ci := 11) (v := .int (σ.1 27)) hx hb hts i_Model hown hK hP 11 rfl rfl 2 (by decide) (hts _ w_b232703b7d) (fun _ h9 => h9) rfl d_Model_clear_6 ?_
  refine lv_istore_n (lv' := [(1, .int (σ.1 27)), (0, .ref (ad 11))]) hx hb d_Model_clear_9 rfl hl (by decide) rfl (fun ls hl => ?_)
  refine lv_aload_n hx hb d_Model_clear_10 rfl (lv_at hl 1 rfl) ?_
  refine lv_iconst (v := 0) hx hb d_Model_clear_11 (by decide) ?_
  refine va_put (D := (dC, dI)) (ci := 11) (v := .int 0) (ty := .int) hx hb hts i_Model t_Model t_Model_ok n_Model hown hK hP hD hS 11 rfl rfl 2 (by decide) (hts _ w_b232703b7d) (fun _ h9 => h9) rfl (by decide +kernel) rfl rfl (Nat.le_of_ble_eq_true rfl) d_Model_clear_12 (fun H locs hP hD hS => ?_)
  have hP : va_P (dC, dI) vwCl (tcw ad cA (sI (sI σ 26 0) 27 0)) H := hP
  have hD : va_D A (tcw ad cA (sI (sI σ 26 0) 27 0)) := hD
  refine lv_iload_n hx hb d_Model_clear_15 rfl (lv_at hl 0 rfl) ?_
  cases hF
  exact leafI X hP hD hS d_Model_clear_16
theorem d_Model_element_0 : decode b_Model_element 0 = .ok (.aload_n 0, 1) := by decide +kernel
theorem d_Model_element_1 : decode b_Model_element 1 = .ok (.iconst 4, 1) := by decide +kernel
theorem d_Model_element_2 : decode b_Model_element 2 = .ok (.iconst 0, 1) := by decide +kernel
theorem d_Model_element_3 : decode b_Model_element 3 = .ok (.iload_n 2, 1) := by decide +kernel
theorem d_Model_element_4 : decode b_Model_element 4 = .ok (.iconst (-1), 1) := by decide +kernel
theorem d_Model_element_5 : decode b_Model_element 5 = .ok (.invokevirtual 216, 3) := by decide +kernel
theorem d_Model_element_8 : decode b_Model_element 8 = .ok (.istore_n 3, 1) := by decide +kernel
theorem d_Model_element_9 : decode b_Model_element 9 = .ok (.aload_n 0, 1) := by decide +kernel
theorem d_Model_element_10 : decode b_Model_element 10 = .ok (.getfield 48, 3) := by decide +kernel
theorem d_Model_element_13 : decode b_Model_element 13 = .ok (.iload_n 3, 1) := by decide +kernel
theorem d_Model_element_14 : decode b_Model_element 14 = .ok (.iload_n 1, 1) := by decide +kernel
theorem d_Model_element_15 : decode b_Model_element 15 = .ok (.iastore, 1) := by decide +kernel
theorem d_Model_element_16 : decode b_Model_element 16 = .ok (.aload_n 0, 1) := by decide +kernel
theorem d_Model_element_17 : decode b_Model_element 17 = .ok (.getfield 42, 3) := by decide +kernel
theorem d_Model_element_20 : decode b_Model_element 20 = .ok (.iload_n 3, 1) := by decide +kernel
theorem d_Model_element_21 : decode b_Model_element 21 = .ok (.aload_n 0, 1) := by decide +kernel
theorem d_Model_element_22 : decode b_Model_element 22 = .ok (.iload_n 1, 1) := by decide +kernel
theorem d_Model_element_23 : decode b_Model_element 23 = .ok (.invokevirtual 241, 3) := by decide +kernel
theorem d_Model_element_26 : decode b_Model_element 26 = .ok (.iastore, 1) := by decide +kernel
theorem d_Model_element_27 : decode b_Model_element 27 = .ok (.iload_n 3, 1) := by decide +kernel
theorem d_Model_element_28 : decode b_Model_element 28 = .ok (.ireturn, 1) := by decide +kernel
def tModel_element (σ : St) (a1 : Int32) (a2 : Int32) : Option (Int32 × St) := b2 (tModel_node σ 4 0 a2 (-1)) (fun r1 u1 => gd (inB r1 500) (b1 (tModel_variable (sA u1 26 (upd (u1.2.2.1 26) r1.toNatClampNeg a1)) a1) (fun r3 => gd (inB r1 500) (some (r1, (sA (sA u1 26 (upd (u1.2.2.1 26) r1.toNatClampNeg a1)) 24 (upd (u1.2.2.1 24) r1.toNatClampNeg r3)))))))
set_option maxHeartbeats 4000000 in
set_option maxRecDepth 100000 in
theorem ct_Model_element (l : Launch) (dC : Nat → ClassId) (dI : Nat → Nat → Nat) (ad : Nat → Nat) (cA : Nat → ClassId) (sz : Nat) {σ : St} {a1 : Int32} {a2 : Int32} {r : Int32} {σ' : St} (hF : tModel_element σ a1 a2 = some (r, σ')) : MI l y_Model_element b_Model_element 4 (some .int) { frames := 2, cells := 0, slots := 0, locals := 47 } (dC, dI) (ttys cA) ad (tcw ad cA) [.ref (ad 11), .int a1, .int a2] σ sz r σ' := by
  refine startM (own := "TinyForgeModel") (Qc := fun A => QI (dC, dI) (ttys cA) (tcw ad cA) A r σ') rfl rfl (Nat.le_of_ble_eq_true rfl) ?_
  intro p e s m below meth c A H locs ls X hP hD hS hl
  have hl : lv_has ls 4 [(0, .ref (ad 11)), (1, .int a1), (2, .int a2)] := hl
  obtain ⟨hx, hb, hr, hml, hown, hlocks, hts, hA, hK, hZ⟩ := id X
  unfold tModel_element at hF
  refine lv_aload_n hx hb d_Model_element_0 rfl (lv_at hl 0 rfl) ?_
  refine lv_iconst (v := 4) hx hb d_Model_element_1 (by decide) ?_
  refine lv_iconst (v := 0) hx hb d_Model_element_2 (by decide) ?_
  refine lv_iload_n hx hb d_Model_element_3 rfl (lv_at hl 2 rfl) ?_
  refine lv_iconst (v := (-1)) hx hb d_Model_element_4 (by decide) ?_
  obtain ⟨r1, u1, h1, hF⟩ := b2E hF
  refine callVI (As := [.int 4, .int 0, .int a2, .int (-1)]) X (ct_Model_node l dC dI ad cA H.size h1) lk_Model_216 ⟨rfl, rfl, by decide, by decide⟩ 11 rfl rfl hP hD hS hl.1 rfl rfl (Nat.le_of_ble_eq_true rfl) d_Model_element_5 (fun H locs hP hD hS => ?_)
  refine lv_istore_n (lv' := [(3, .int r1), (0, .ref (ad 11)), (1, .int a1), (2, .int a2)]) hx hb d_Model_element_8 rfl hl (by decide) rfl (fun ls hl => ?_)
  refine lv_aload_n hx hb d_Model_element_9 rfl (lv_at hl 1 rfl) ?_
  refine va_get (D := (dC, dI)) (ci := 11) (v := .ref (ad 41)) hx hb hts i_Model hown hK hP 11 rfl rfl 20 (by decide) (hts _ w_a409c17ef6) (fun _ h9 => h9) rfl d_Model_element_10 ?_
  refine lv_iload_n hx hb d_Model_element_13 rfl (lv_at hl 0 rfl) ?_
  refine lv_iload_n hx hb d_Model_element_14 rfl (lv_at hl 2 rfl) ?_
  obtain ⟨g_2, hF⟩ := gdE hF
  refine va_iast (f := (u1.2.2.1 26)) hx hb hK hP hD hS 41 0 rfl rfl (inE g_2) d_Model_element_15 (fun H locs hP hD hS => ?_)
  have hP : va_P (dC, dI) vwCl (tcw ad cA (sA u1 26 (upd (u1.2.2.1 26) r1.toNatClampNeg a1))) H := hP
  have hD : va_D A (tcw ad cA (sA u1 26 (upd (u1.2.2.1 26) r1.toNatClampNeg a1))) := hD
  refine lv_aload_n hx hb d_Model_element_16 rfl (lv_at hl 1 rfl) ?_
  refine va_get (D := (dC, dI)) (ci := 11) (v := .ref (ad 39)) hx hb hts i_Model hown hK hP 11 rfl rfl 18 (by decide) (hts _ w_7d7d4091fc) (fun _ h9 => h9) rfl d_Model_element_17 ?_
  refine lv_iload_n hx hb d_Model_element_20 rfl (lv_at hl 0 rfl) ?_
  refine lv_aload_n hx hb d_Model_element_21 rfl (lv_at hl 1 rfl) ?_
  refine lv_iload_n hx hb d_Model_element_22 rfl (lv_at hl 2 rfl) ?_
  obtain ⟨r3, h3, hF⟩ := b1E hF
  refine callVI (As := [.int a1]) X (ct_Model_variable l dC dI ad cA H.size h3) lk_Model_241 ⟨rfl, rfl, by decide, by decide⟩ 11 rfl rfl hP hD hS hl.1 rfl rfl (Nat.le_of_ble_eq_true rfl) d_Model_element_23 (fun H locs hP hD hS => ?_)
  obtain ⟨g_4, hF⟩ := gdE hF
  refine va_iast (f := (u1.2.2.1 24)) hx hb hK hP hD hS 39 0 rfl rfl (inE g_4) d_Model_element_26 (fun H locs hP hD hS => ?_)
  have hP : va_P (dC, dI) vwCl (tcw ad cA (sA (sA u1 26 (upd (u1.2.2.1 26) r1.toNatClampNeg a1)) 24 (upd (u1.2.2.1 24) r1.toNatClampNeg r3))) H := hP
  have hD : va_D A (tcw ad cA (sA (sA u1 26 (upd (u1.2.2.1 26) r1.toNatClampNeg a1)) 24 (upd (u1.2.2.1 24) r1.toNatClampNeg r3))) := hD
  refine lv_iload_n hx hb d_Model_element_27 rfl (lv_at hl 0 rfl) ?_
  cases hF
  exact leafI X hP hD hS d_Model_element_28
theorem d_Model_closeBracket_0 : decode b_Model_closeBracket 0 = .ok (.aload_n 0, 1) := by decide +kernel
theorem d_Model_closeBracket_1 : decode b_Model_closeBracket 1 = .ok (.getfield 73, 3) := by decide +kernel
theorem d_Model_closeBracket_4 : decode b_Model_closeBracket 4 = .ok (.aload_n 0, 1) := by decide +kernel
theorem d_Model_closeBracket_5 : decode b_Model_closeBracket 5 = .ok (.getfield 210, 3) := by decide +kernel
theorem d_Model_closeBracket_8 : decode b_Model_closeBracket 8 = .ok (.iconst 1, 1) := by decide +kernel
theorem d_Model_closeBracket_9 : decode b_Model_closeBracket 9 = .ok (.isub, 1) := by decide +kernel
theorem d_Model_closeBracket_10 : decode b_Model_closeBracket 10 = .ok (.iaload, 1) := by decide +kernel
theorem d_Model_closeBracket_11 : decode b_Model_closeBracket 11 = .ok (.istore_n 1, 1) := by decide +kernel
theorem d_Model_closeBracket_12 : decode b_Model_closeBracket 12 = .ok (.aload_n 0, 1) := by decide +kernel
theorem d_Model_closeBracket_13 : decode b_Model_closeBracket 13 = .ok (.getfield 76, 3) := by decide +kernel
theorem d_Model_closeBracket_16 : decode b_Model_closeBracket 16 = .ok (.aload_n 0, 1) := by decide +kernel
theorem d_Model_closeBracket_17 : decode b_Model_closeBracket 17 = .ok (.getfield 210, 3) := by decide +kernel
theorem d_Model_closeBracket_20 : decode b_Model_closeBracket 20 = .ok (.iconst 1, 1) := by decide +kernel
theorem d_Model_closeBracket_21 : decode b_Model_closeBracket 21 = .ok (.isub, 1) := by decide +kernel
theorem d_Model_closeBracket_22 : decode b_Model_closeBracket 22 = .ok (.iaload, 1) := by decide +kernel
theorem d_Model_closeBracket_23 : decode b_Model_closeBracket 23 = .ok (.istore_n 2, 1) := by decide +kernel
theorem d_Model_closeBracket_24 : decode b_Model_closeBracket 24 = .ok (.aload_n 0, 1) := by decide +kernel
theorem d_Model_closeBracket_25 : decode b_Model_closeBracket 25 = .ok (.getfield 70, 3) := by decide +kernel
theorem d_Model_closeBracket_28 : decode b_Model_closeBracket 28 = .ok (.aload_n 0, 1) := by decide +kernel
theorem d_Model_closeBracket_29 : decode b_Model_closeBracket 29 = .ok (.getfield 207, 3) := by decide +kernel
theorem d_Model_closeBracket_32 : decode b_Model_closeBracket 32 = .ok (.iconst 1, 1) := by decide +kernel
theorem d_Model_closeBracket_33 : decode b_Model_closeBracket 33 = .ok (.isub, 1) := by decide +kernel
theorem d_Model_closeBracket_34 : decode b_Model_closeBracket 34 = .ok (.iaload, 1) := by decide +kernel
theorem d_Model_closeBracket_35 : decode b_Model_closeBracket 35 = .ok (.istore_n 3, 1) := by decide +kernel
theorem d_Model_closeBracket_36 : decode b_Model_closeBracket 36 = .ok (.iload_n 1, 1) := by decide +kernel
theorem d_Model_closeBracket_37 : decode b_Model_closeBracket 37 = .ok (.bipush 34, 2) := by decide +kernel
theorem d_Model_closeBracket_39 : decode b_Model_closeBracket 39 = .ok (.if_icmp .ne 67, 3) := by decide +kernel
theorem d_Model_closeBracket_42 : decode b_Model_closeBracket 42 = .ok (.aload_n 0, 1) := by decide +kernel
theorem d_Model_closeBracket_43 : decode b_Model_closeBracket 43 = .ok (.ldc2_w 267, 3) := by decide +kernel
theorem d_Model_closeBracket_46 : decode b_Model_closeBracket 46 = .ok (.invokevirtual 190, 3) := by decide +kernel
theorem d_Model_closeBracket_49 : decode b_Model_closeBracket 49 = .ok (.ifCond .ne 13, 3) := by decide +kernel
theorem d_Model_closeBracket_52 : decode b_Model_closeBracket 52 = .ok (.aload_n 0, 1) := by decide +kernel
theorem d_Model_closeBracket_53 : decode b_Model_closeBracket 53 = .ok (.ldc2_w 244, 3) := by decide +kernel
theorem d_Model_closeBracket_56 : decode b_Model_closeBracket 56 = .ok (.invokevirtual 190, 3) := by decide +kernel
theorem d_Model_closeBracket_59 : decode b_Model_closeBracket 59 = .ok (.ifCond .eq 47, 3) := by decide +kernel
theorem d_Model_closeBracket_62 : decode b_Model_closeBracket 62 = .ok (.aload_n 0, 1) := by decide +kernel
theorem d_Model_closeBracket_63 : decode b_Model_closeBracket 63 = .ok (.dup, 1) := by decide +kernel
theorem d_Model_closeBracket_64 : decode b_Model_closeBracket 64 = .ok (.getfield 207, 3) := by decide +kernel
theorem d_Model_closeBracket_67 : decode b_Model_closeBracket 67 = .ok (.iconst 1, 1) := by decide +kernel
theorem d_Model_closeBracket_68 : decode b_Model_closeBracket 68 = .ok (.isub, 1) := by decide +kernel
theorem d_Model_closeBracket_69 : decode b_Model_closeBracket 69 = .ok (.putfield 207, 3) := by decide +kernel
theorem d_Model_closeBracket_72 : decode b_Model_closeBracket 72 = .ok (.aload_n 0, 1) := by decide +kernel
theorem d_Model_closeBracket_73 : decode b_Model_closeBracket 73 = .ok (.iload_n 2, 1) := by decide +kernel
theorem d_Model_closeBracket_74 : decode b_Model_closeBracket 74 = .ok (.iload_n 3, 1) := by decide +kernel
theorem d_Model_closeBracket_75 : decode b_Model_closeBracket 75 = .ok (.invokevirtual 269, 3) := by decide +kernel
theorem d_Model_closeBracket_78 : decode b_Model_closeBracket 78 = .ok (.aload_n 0, 1) := by decide +kernel
theorem d_Model_closeBracket_79 : decode b_Model_closeBracket 79 = .ok (.ldc2_w 244, 3) := by decide +kernel
theorem d_Model_closeBracket_82 : decode b_Model_closeBracket 82 = .ok (.invokevirtual 190, 3) := by decide +kernel
theorem d_Model_closeBracket_85 : decode b_Model_closeBracket 85 = .ok (.ifCond .eq 9, 3) := by decide +kernel
theorem d_Model_closeBracket_88 : decode b_Model_closeBracket 88 = .ok (.aload_n 0, 1) := by decide +kernel
theorem d_Model_closeBracket_89 : decode b_Model_closeBracket 89 = .ok (.invokevirtual 246, 3) := by decide +kernel
theorem d_Model_closeBracket_92 : decode b_Model_closeBracket 92 = .ok (.iconst 0, 1) := by decide +kernel
theorem d_Model_closeBracket_93 : decode b_Model_closeBracket 93 = .ok (.ireturn, 1) := by decide +kernel
theorem d_Model_closeBracket_94 : decode b_Model_closeBracket 94 = .ok (.aload_n 0, 1) := by decide +kernel
theorem d_Model_closeBracket_95 : decode b_Model_closeBracket 95 = .ok (.dup, 1) := by decide +kernel
theorem d_Model_closeBracket_96 : decode b_Model_closeBracket 96 = .ok (.getfield 184, 3) := by decide +kernel
theorem d_Model_closeBracket_99 : decode b_Model_closeBracket 99 = .ok (.iconst 1, 1) := by decide +kernel
theorem d_Model_closeBracket_100 : decode b_Model_closeBracket 100 = .ok (.iadd, 1) := by decide +kernel
theorem d_Model_closeBracket_101 : decode b_Model_closeBracket 101 = .ok (.putfield 184, 3) := by decide +kernel
theorem d_Model_closeBracket_104 : decode b_Model_closeBracket 104 = .ok (.iconst 1, 1) := by decide +kernel
theorem d_Model_closeBracket_105 : decode b_Model_closeBracket 105 = .ok (.ireturn, 1) := by decide +kernel
theorem d_Model_closeBracket_106 : decode b_Model_closeBracket 106 = .ok (.iload_n 1, 1) := by decide +kernel
theorem d_Model_closeBracket_107 : decode b_Model_closeBracket 107 = .ok (.bipush 30, 2) := by decide +kernel
theorem d_Model_closeBracket_109 : decode b_Model_closeBracket 109 = .ok (.if_icmp .ne 13, 3) := by decide +kernel
theorem d_Model_closeBracket_112 : decode b_Model_closeBracket 112 = .ok (.aload_n 0, 1) := by decide +kernel
theorem d_Model_closeBracket_113 : decode b_Model_closeBracket 113 = .ok (.ldc2_w 244, 3) := by decide +kernel
theorem d_Model_closeBracket_116 : decode b_Model_closeBracket 116 = .ok (.invokevirtual 190, 3) := by decide +kernel
theorem d_Model_closeBracket_119 : decode b_Model_closeBracket 119 = .ok (.ifCond .ne 19, 3) := by decide +kernel
theorem d_Model_closeBracket_122 : decode b_Model_closeBracket 122 = .ok (.iload_n 1, 1) := by decide +kernel
theorem d_Model_closeBracket_123 : decode b_Model_closeBracket 123 = .ok (.bipush 33, 2) := by decide +kernel
theorem d_Model_closeBracket_125 : decode b_Model_closeBracket 125 = .ok (.if_icmp .ne 17, 3) := by decide +kernel
theorem d_Model_closeBracket_128 : decode b_Model_closeBracket 128 = .ok (.aload_n 0, 1) := by decide +kernel
theorem d_Model_closeBracket_129 : decode b_Model_closeBracket 129 = .ok (.ldc2_w 272, 3) := by decide +kernel
theorem d_Model_closeBracket_132 : decode b_Model_closeBracket 132 = .ok (.invokevirtual 190, 3) := by decide +kernel
theorem d_Model_closeBracket_135 : decode b_Model_closeBracket 135 = .ok (.ifCond .eq 7, 3) := by decide +kernel
theorem d_Model_closeBracket_138 : decode b_Model_closeBracket 138 = .ok (.iconst 1, 1) := by decide +kernel
theorem d_Model_closeBracket_139 : decode b_Model_closeBracket 139 = .ok (.goto 4, 3) := by decide +kernel
theorem d_Model_closeBracket_142 : decode b_Model_closeBracket 142 = .ok (.iconst 0, 1) := by decide +kernel
theorem d_Model_closeBracket_143 : decode b_Model_closeBracket 143 = .ok (.istore 4, 2) := by decide +kernel
theorem d_Model_closeBracket_145 : decode b_Model_closeBracket 145 = .ok (.iload 4, 2) := by decide +kernel
theorem d_Model_closeBracket_147 : decode b_Model_closeBracket 147 = .ok (.ifCond .ne 9, 3) := by decide +kernel
theorem d_Model_closeBracket_150 : decode b_Model_closeBracket 150 = .ok (.aload_n 0, 1) := by decide +kernel
theorem d_Model_closeBracket_151 : decode b_Model_closeBracket 151 = .ok (.invokevirtual 194, 3) := by decide +kernel
theorem d_Model_closeBracket_154 : decode b_Model_closeBracket 154 = .ok (.iconst 0, 1) := by decide +kernel
theorem d_Model_closeBracket_155 : decode b_Model_closeBracket 155 = .ok (.ireturn, 1) := by decide +kernel
theorem d_Model_closeBracket_156 : decode b_Model_closeBracket 156 = .ok (.aload_n 0, 1) := by decide +kernel
theorem d_Model_closeBracket_157 : decode b_Model_closeBracket 157 = .ok (.dup, 1) := by decide +kernel
theorem d_Model_closeBracket_158 : decode b_Model_closeBracket 158 = .ok (.getfield 210, 3) := by decide +kernel
theorem d_Model_closeBracket_161 : decode b_Model_closeBracket 161 = .ok (.iconst 1, 1) := by decide +kernel
theorem d_Model_closeBracket_162 : decode b_Model_closeBracket 162 = .ok (.isub, 1) := by decide +kernel
theorem d_Model_closeBracket_163 : decode b_Model_closeBracket 163 = .ok (.putfield 210, 3) := by decide +kernel
theorem d_Model_closeBracket_166 : decode b_Model_closeBracket 166 = .ok (.aload_n 0, 1) := by decide +kernel
theorem d_Model_closeBracket_167 : decode b_Model_closeBracket 167 = .ok (.dup, 1) := by decide +kernel
theorem d_Model_closeBracket_168 : decode b_Model_closeBracket 168 = .ok (.getfield 197, 3) := by decide +kernel
theorem d_Model_closeBracket_171 : decode b_Model_closeBracket 171 = .ok (.iconst 1, 1) := by decide +kernel
theorem d_Model_closeBracket_172 : decode b_Model_closeBracket 172 = .ok (.isub, 1) := by decide +kernel
theorem d_Model_closeBracket_173 : decode b_Model_closeBracket 173 = .ok (.putfield 197, 3) := by decide +kernel
theorem d_Model_closeBracket_176 : decode b_Model_closeBracket 176 = .ok (.aload_n 0, 1) := by decide +kernel
theorem d_Model_closeBracket_177 : decode b_Model_closeBracket 177 = .ok (.dup, 1) := by decide +kernel
theorem d_Model_closeBracket_178 : decode b_Model_closeBracket 178 = .ok (.getfield 184, 3) := by decide +kernel
theorem d_Model_closeBracket_181 : decode b_Model_closeBracket 181 = .ok (.iconst 1, 1) := by decide +kernel
theorem d_Model_closeBracket_182 : decode b_Model_closeBracket 182 = .ok (.iadd, 1) := by decide +kernel
theorem d_Model_closeBracket_183 : decode b_Model_closeBracket 183 = .ok (.putfield 184, 3) := by decide +kernel
theorem d_Model_closeBracket_186 : decode b_Model_closeBracket 186 = .ok (.iload_n 1, 1) := by decide +kernel
theorem d_Model_closeBracket_187 : decode b_Model_closeBracket 187 = .ok (.bipush 33, 2) := by decide +kernel
theorem d_Model_closeBracket_189 : decode b_Model_closeBracket 189 = .ok (.if_icmp .ne 23, 3) := by decide +kernel
theorem d_Model_closeBracket_192 : decode b_Model_closeBracket 192 = .ok (.aload_n 0, 1) := by decide +kernel
theorem d_Model_closeBracket_193 : decode b_Model_closeBracket 193 = .ok (.dup, 1) := by decide +kernel
theorem d_Model_closeBracket_194 : decode b_Model_closeBracket 194 = .ok (.getfield 207, 3) := by decide +kernel
theorem d_Model_closeBracket_197 : decode b_Model_closeBracket 197 = .ok (.iconst 1, 1) := by decide +kernel
theorem d_Model_closeBracket_198 : decode b_Model_closeBracket 198 = .ok (.isub, 1) := by decide +kernel
theorem d_Model_closeBracket_199 : decode b_Model_closeBracket 199 = .ok (.putfield 207, 3) := by decide +kernel
theorem d_Model_closeBracket_202 : decode b_Model_closeBracket 202 = .ok (.aload_n 0, 1) := by decide +kernel
theorem d_Model_closeBracket_203 : decode b_Model_closeBracket 203 = .ok (.aload_n 0, 1) := by decide +kernel
theorem d_Model_closeBracket_204 : decode b_Model_closeBracket 204 = .ok (.iload_n 2, 1) := by decide +kernel
theorem d_Model_closeBracket_205 : decode b_Model_closeBracket 205 = .ok (.iload_n 3, 1) := by decide +kernel
theorem d_Model_closeBracket_206 : decode b_Model_closeBracket 206 = .ok (.invokevirtual 274, 3) := by decide +kernel
theorem d_Model_closeBracket_209 : decode b_Model_closeBracket 209 = .ok (.invokevirtual 220, 3) := by decide +kernel
theorem d_Model_closeBracket_212 : decode b_Model_closeBracket 212 = .ok (.iconst 0, 1) := by decide +kernel
theorem d_Model_closeBracket_213 : decode b_Model_closeBracket 213 = .ok (.ireturn, 1) := by decide +kernel
def tModel_closeBracket_b1 (k : Nat → St → Int32 → Int32 → Int32 → Int32 → Option (Int32 × St)) (σ : St) (x1 : Int32) (x2 : Int32) (x3 : Int32) (x4 : Int32) : Option (Int32 × St) := b1 (tModel_addLast (sI σ 40 ((σ.1 40) - 1)) x1 x2) (fun u12 => b1 (tModel_sees u12 41) (fun r13 => if r13 = 0 then some (1, (sI u12 31 ((u12.1 31) + 1))) else b1 (tModel_closeCall u12) (fun u15 => some (0, u15))))
def tModel_closeBracket_b2 (k : Nat → St → Int32 → Int32 → Int32 → Int32 → Option (Int32 × St)) (σ : St) (x1 : Int32) (x2 : Int32) (x3 : Int32) (x4 : Int32) : Option (Int32 × St) := if x1 = 30 then b1 (tModel_sees σ 41) (fun r10 => if r10 = 0 then k 3 σ x1 x2 x3 0 else k 4 σ x1 x2 x3 0) else k 3 σ x1 x2 x3 0
def tModel_closeBracket_b3 (k : Nat → St → Int32 → Int32 → Int32 → Int32 → Option (Int32 × St)) (σ : St) (x1 : Int32) (x2 : Int32) (x3 : Int32) (x4 : Int32) : Option (Int32 × St) := if x1 = 33 then b1 (tModel_sees σ 93) (fun r17 => if r17 = 0 then k 5 σ x1 x2 x3 0 else k 4 σ x1 x2 x3 0) else k 5 σ x1 x2 x3 0
def tModel_closeBracket_b4 (k : Nat → St → Int32 → Int32 → Int32 → Int32 → Option (Int32 × St)) (σ : St) (x1 : Int32) (x2 : Int32) (x3 : Int32) (x4 : Int32) : Option (Int32 × St) := k 6 σ x1 x2 x3 1
def tModel_closeBracket_b5 (k : Nat → St → Int32 → Int32 → Int32 → Int32 → Option (Int32 × St)) (σ : St) (x1 : Int32) (x2 : Int32) (x3 : Int32) (x4 : Int32) : Option (Int32 × St) := k 6 σ x1 x2 x3 0
def tModel_closeBracket_b6 (k : Nat → St → Int32 → Int32 → Int32 → Int32 → Option (Int32 × St)) (σ : St) (x1 : Int32) (x2 : Int32) (x3 : Int32) (x4 : Int32) : Option (Int32 × St) := if x4 = 0 then b1 (tModel_spoil σ) (fun u23 => some (0, u23)) else if x1 = 33 then b2 (tModel_element (sI (sI (sI (sI σ 41 ((σ.1 41) - 1)) 32 ((σ.1 32) - 1)) 31 ((σ.1 31) + 1)) 40 ((σ.1 40) - 1)) x2 x3) (fun r21 u21 => b1 (tModel_operand u21 r21) (fun u22 => some (0, u22))) else some (0, (sI (sI (sI σ 41 ((σ.1 41) - 1)) 32 ((σ.1 32) - 1)) 31 ((σ.1 31) + 1)))
def tModel_closeBracket_L : Nat → Nat → St → Int32 → Int32 → Int32 → Int32 → Option (Int32 × St)
  | 0, _, _, _, _, _, _ => none
  | n + 1, lab, σ, x1, x2, x3, x4 => match lab with
    | 1 => tModel_closeBracket_b1 (tModel_closeBracket_L n) σ x1 x2 x3 x4
    | 2 => tModel_closeBracket_b2 (tModel_closeBracket_L n) σ x1 x2 x3 x4
    | 3 => tModel_closeBracket_b3 (tModel_closeBracket_L n) σ x1 x2 x3 x4
    | 4 => tModel_closeBracket_b4 (tModel_closeBracket_L n) σ x1 x2 x3 x4
    | 5 => tModel_closeBracket_b5 (tModel_closeBracket_L n) σ x1 x2 x3 x4
    | 6 => tModel_closeBracket_b6 (tModel_closeBracket_L n) σ x1 x2 x3 x4
    | _ => none
def tModel_closeBracket (σ : St) : Option (Int32 × St) := gd (inB ((σ.1 41) - 1) 60) (gd (inB ((σ.1 41) - 1) 60) (gd (inB ((σ.1 40) - 1) 60) (if ((σ.2.2.1 34) ((σ.1 41) - 1).toNatClampNeg) = 34 then b1 (tModel_sees σ 44) (fun r5 => if r5 = 0 then b1 (tModel_sees σ 41) (fun r7 => if r7 = 0 then tModel_closeBracket_L 2000 2 σ ((σ.2.2.1 34) ((σ.1 41) - 1).toNatClampNeg) ((σ.2.2.1 35) ((σ.1 41) - 1).toNatClampNeg) ((σ.2.2.1 33) ((σ.1 40) - 1).toNatClampNeg) 0 else tModel_closeBracket_L 2000 1 σ ((σ.2.2.1 35) ((σ.1 41) - 1).toNatClampNeg) ((σ.2.2.1 33) ((σ.1 40) - 1).toNatClampNeg) 0 0) else tModel_closeBracket_L 2000 1 σ ((σ.2.2.1 35) ((σ.1 41) - 1).toNatClampNeg) ((σ.2.2.1 33) ((σ.1 40) - 1).toNatClampNeg) 0 0) else tModel_closeBracket_L 2000 2 σ ((σ.2.2.1 34) ((σ.1 41) - 1).toNatClampNeg) ((σ.2.2.1 35) ((σ.1 41) - 1).toNatClampNeg) ((σ.2.2.1 33) ((σ.1 40) - 1).toNatClampNeg) 0)))
set_option maxHeartbeats 4000000 in
set_option maxRecDepth 100000 in
theorem tModel_closeBracket_blk {p : Program} {e : Env} {s : State} {m : MethodId} {args : Array Value} {below : List Frame} {meth : Method} {c : Code} {A : Nat → Prop} (l : Launch) (dC : Nat → ClassId) (dI : Nat → Nat → Nat) (ad : Nat → Nat) (cA : Nat → ClassId) {r : Int32} {σ' : St} (X : Cx p s m args meth c b_Model_closeBracket 5 (some .int) "TinyForgeModel" (dC, dI) (ttys cA) ad A) : ∀ n : Nat, (∀ (σ : St) (x1 : Int32) (x2 : Int32) (x3 : Int32) (x4 : Int32) (H : Heap) (locs : List Loc) (ls : Array Slot), tModel_closeBracket_L n 1 σ x1 x2 x3 x4 = some (r, σ') → va_P (dC, dI) vwCl (tcw ad cA σ) H → va_D A (tcw ad cA σ) → va_S A s.heap H locs → lv_has ls 5 [(0, .ref (ad 11)), (2, .int x1), (3, .int x2)] → W p l e { frames := 3, cells := 0, slots := 0, locals := 70 } s m args below meth c H locs 0 0 (MQ below (QI (dC, dI) (ttys cA) (tcw ad cA) A r σ') args s 0 0 A) (F0 m 62 ls [])) ∧ (∀ (σ : St) (x1 : Int32) (x2 : Int32) (x3 : Int32) (x4 : Int32) (H : Heap) (locs : List Loc) (ls : Array Slot), tModel_closeBracket_L n 2 σ x1 x2 x3 x4 = some (r, σ') → va_P (dC, dI) vwCl (tcw ad cA σ) H → va_D A (tcw ad cA σ) → va_S A s.heap H locs → lv_has ls 5 [(0, .ref (ad 11)), (1, .int x1), (2, .int x2), (3, .int x3)] → W p l e { frames := 3, cells := 0, slots := 0, locals := 70 } s m args below meth c H locs 0 0 (MQ below (QI (dC, dI) (ttys cA) (tcw ad cA) A r σ') args s 0 0 A) (F0 m 106 ls [])) ∧ (∀ (σ : St) (x1 : Int32) (x2 : Int32) (x3 : Int32) (x4 : Int32) (H : Heap) (locs : List Loc) (ls : Array Slot), tModel_closeBracket_L n 3 σ x1 x2 x3 x4 = some (r, σ') → va_P (dC, dI) vwCl (tcw ad cA σ) H → va_D A (tcw ad cA σ) → va_S A s.heap H locs → lv_has ls 5 [(0, .ref (ad 11)), (1, .int x1), (2, .int x2), (3, .int x3)] → W p l e { frames := 3, cells := 0, slots := 0, locals := 70 } s m args below meth c H locs 0 0 (MQ below (QI (dC, dI) (ttys cA) (tcw ad cA) A r σ') args s 0 0 A) (F0 m 122 ls [])) ∧ (∀ (σ : St) (x1 : Int32) (x2 : Int32) (x3 : Int32) (x4 : Int32) (H : Heap) (locs : List Loc) (ls : Array Slot), tModel_closeBracket_L n 4 σ x1 x2 x3 x4 = some (r, σ') → va_P (dC, dI) vwCl (tcw ad cA σ) H → va_D A (tcw ad cA σ) → va_S A s.heap H locs → lv_has ls 5 [(0, .ref (ad 11)), (1, .int x1), (2, .int x2), (3, .int x3)] → W p l e { frames := 3, cells := 0, slots := 0, locals := 70 } s m args below meth c H locs 0 0 (MQ below (QI (dC, dI) (ttys cA) (tcw ad cA) A r σ') args s 0 0 A) (F0 m 138 ls [])) ∧ (∀ (σ : St) (x1 : Int32) (x2 : Int32) (x3 : Int32) (x4 : Int32) (H : Heap) (locs : List Loc) (ls : Array Slot), tModel_closeBracket_L n 5 σ x1 x2 x3 x4 = some (r, σ') → va_P (dC, dI) vwCl (tcw ad cA σ) H → va_D A (tcw ad cA σ) → va_S A s.heap H locs → lv_has ls 5 [(0, .ref (ad 11)), (1, .int x1), (2, .int x2), (3, .int x3)] → W p l e { frames := 3, cells := 0, slots := 0, locals := 70 } s m args below meth c H locs 0 0 (MQ below (QI (dC, dI) (ttys cA) (tcw ad cA) A r σ') args s 0 0 A) (F0 m 142 ls [])) ∧ (∀ (σ : St) (x1 : Int32) (x2 : Int32) (x3 : Int32) (x4 : Int32) (H : Heap) (locs : List Loc) (ls : Array Slot), tModel_closeBracket_L n 6 σ x1 x2 x3 x4 = some (r, σ') → va_P (dC, dI) vwCl (tcw ad cA σ) H → va_D A (tcw ad cA σ) → va_S A s.heap H locs → lv_has ls 5 [(0, .ref (ad 11)), (1, .int x1), (2, .int x2), (3, .int x3)] → W p l e { frames := 3, cells := 0, slots := 0, locals := 70 } s m args below meth c H locs 0 0 (MQ below (QI (dC, dI) (ttys cA) (tcw ad cA) A r σ') args s 0 0 A) (F0 m 143 ls [.int x4])) := by
  obtain ⟨hx, hb, hr, hml, hown, hlocks, hts, hA, hK, hZ⟩ := id X
  intro n
  induction n with
  | zero => exact ⟨(fun σ x1 x2 x3 x4 H locs ls hF => by cases hF), (fun σ x1 x2 x3 x4 H locs ls hF => by cases hF), (fun σ x1 x2 x3 x4 H locs ls hF => by cases hF), (fun σ x1 x2 x3 x4 H locs ls hF => by cases hF), (fun σ x1 x2 x3 x4 H locs ls hF => by cases hF), (fun σ x1 x2 x3 x4 H locs ls hF => by cases hF)⟩
  | succ n ihn =>
    refine ⟨fun σ x1 x2 x3 x4 H locs ls hF hP hD hS hl => ?_, fun σ x1 x2 x3 x4 H locs ls hF hP hD hS hl => ?_, fun σ x1 x2 x3 x4 H locs ls hF hP hD hS hl => ?_, fun σ x1 x2 x3 x4 H locs ls hF hP hD hS hl => ?_, fun σ x1 x2 x3 x4 H locs ls hF hP hD hS hl => ?_, fun σ x1 x2 x3 x4 H locs ls hF hP hD hS hl => ?_⟩
    · have hF : tModel_closeBracket_b1 (tModel_closeBracket_L n) σ x1 x2 x3 x4 = some (r, σ') := hF
      unfold tModel_closeBracket_b1 at hF
      refine lv_aload_n hx hb d_Model_closeBracket_62 rfl (lv_at hl 0 rfl) ?_
      refine lv_dup hx hb d_Model_closeBracket_63 rfl ?_
      refine va_get (D := (dC, dI)) (ci := 11) (v := .int (σ.1 40)) hx hb hts i_Model hown hK hP 11 rfl rfl 33 (by decide) (hts _ w_270be961d1) (fun _ h9 => h9) rfl d_Model_closeBracket_64 ?_
      refine lv_iconst (v := 1) hx hb d_Model_closeBracket_67 (by decide) ?_
      refine lv_isub hx hb d_Model_closeBracket_68 ?_
      refine va_put (D := (dC, dI)) (ci := 11) (v := .int ((σ.1 40) - 1)) (ty := .int) hx hb hts i_Model t_Model t_Model_ok n_Model hown hK hP hD hS 11 rfl rfl 33 (by decide) (hts _ w_270be961d1) (fun _ h9 => h9) rfl (by decide +kernel) rfl rfl (Nat.le_of_ble_eq_true rfl) d_Model_closeBracket_69 (fun H locs hP hD hS => ?_)
      have hP : va_P (dC, dI) vwCl (tcw ad cA (sI σ 40 ((σ.1 40) - 1))) H := hP
      have hD : va_D A (tcw ad cA (sI σ 40 ((σ.1 40) - 1))) := hD
      refine lv_aload_n hx hb d_Model_closeBracket_72 rfl (lv_at hl 0 rfl) ?_
      refine lv_iload_n hx hb d_Model_closeBracket_73 rfl (lv_at hl 1 rfl) ?_
      refine lv_iload_n hx hb d_Model_closeBracket_74 rfl (lv_at hl 2 rfl) ?_
      obtain ⟨u12, h12, hF⟩ := b1E hF
      refine callVV (As := [.int x1, .int x2]) X (ct_Model_addLast l dC dI ad cA H.size h12) lk_Model_269 ⟨rfl, rfl, by decide, by decide⟩ 11 rfl rfl hP hD hS hl.1 rfl rfl (Nat.le_of_ble_eq_true rfl) d_Model_closeBracket_75 (fun H locs hP hD hS => ?_)
      refine lv_aload_n hx hb d_Model_closeBracket_78 rfl (lv_at hl 0 rfl) ?_
      refine lv_ldc2 (v := 41) hx hb hown (hts _ w_c6b9d4f3a9) d_Model_closeBracket_79 ?_
      obtain ⟨r13, h13, hF⟩ := b1E hF
      refine callVI (As := [.long 41]) X (ct_Model_sees l dC dI ad cA H.size h13) lk_Model_190 ⟨rfl, rfl, by decide, by decide⟩ 11 rfl rfl hP hD hS hl.1 rfl rfl (Nat.le_of_ble_eq_true rfl) d_Model_closeBracket_82 (fun H locs hP hD hS => ?_)
      refine lv_if_eq (tgt := 94) hx hb d_Model_closeBracket_85 (by decide) (fun c_14 => ?_) (fun c_14 => ?_)
      · have hF := ifp hF c_14
        refine lv_aload_n hx hb d_Model_closeBracket_94 rfl (lv_at hl 0 rfl) ?_
        refine lv_dup hx hb d_Model_closeBracket_95 rfl ?_
        refine va_get (D := (dC, dI)) (ci := 11) (v := .int (u12.1 31)) hx hb hts i_Model hown hK hP 11 rfl rfl 6 (by decide) (hts _ w_13cd8e7698) (fun _ h9 => h9) rfl d_Model_closeBracket_96 ?_
        refine lv_iconst (v := 1) hx hb d_Model_closeBracket_99 (by decide) ?_
        refine lv_iadd hx hb d_Model_closeBracket_100 ?_
        refine va_put (D := (dC, dI)) (ci := 11) (v := .int ((u12.1 31) + 1)) (ty := .int) hx hb hts i_Model t_Model t_Model_ok n_Model hown hK hP hD hS 11 rfl rfl 6 (by decide) (hts _ w_13cd8e7698) (fun _ h9 => h9) rfl (by decide +kernel) rfl rfl (Nat.le_of_ble_eq_true rfl) d_Model_closeBracket_101 (fun H locs hP hD hS => ?_)
        have hP : va_P (dC, dI) vwCl (tcw ad cA (sI u12 31 ((u12.1 31) + 1))) H := hP
        have hD : va_D A (tcw ad cA (sI u12 31 ((u12.1 31) + 1))) := hD
        refine lv_iconst (v := 1) hx hb d_Model_closeBracket_104 (by decide) ?_
        cases hF
        exact leafI X hP hD hS d_Model_closeBracket_105
      · have hF := ifn hF c_14
        refine lv_aload_n hx hb d_Model_closeBracket_88 rfl (lv_at hl 0 rfl) ?_
        obtain ⟨u15, h15, hF⟩ := b1E hF
        refine callVV (As := []) X (ct_Model_closeCall l dC dI ad cA H.size h15) lk_Model_246 ⟨rfl, rfl, by decide, by decide⟩ 11 rfl rfl hP hD hS hl.1 rfl rfl (Nat.le_of_ble_eq_true rfl) d_Model_closeBracket_89 (fun H locs hP hD hS => ?_)
        refine lv_iconst (v := 0) hx hb d_Model_closeBracket_92 (by decide) ?_
        cases hF
        exact leafI X hP hD hS d_Model_closeBracket_93
    · have hF : tModel_closeBracket_b2 (tModel_closeBracket_L n) σ x1 x2 x3 x4 = some (r, σ') := hF
      unfold tModel_closeBracket_b2 at hF
      refine lv_iload_n hx hb d_Model_closeBracket_106 rfl (lv_at hl 1 rfl) ?_
      refine lv_bipush (v := 30) hx hb d_Model_closeBracket_107 (by decide) ?_
      refine lv_icmp_ne (tgt := 122) hx hb d_Model_closeBracket_109 (by decide) (fun c_9 => ?_) (fun c_9 => ?_)
      · have hF := ifn hF c_9
        exact ihn.2.2.1 σ x1 x2 x3 0 H locs ls hF hP hD hS (lv_sub hl [0, 1, 2, 3] rfl)
      · have hF := ifp hF c_9
        refine lv_aload_n hx hb d_Model_closeBracket_112 rfl (lv_at hl 0 rfl) ?_
        refine lv_ldc2 (v := 41) hx hb hown (hts _ w_c6b9d4f3a9) d_Model_closeBracket_113 ?_
        obtain ⟨r10, h10, hF⟩ := b1E hF
        refine callVI (As := [.long 41]) X (ct_Model_sees l dC dI ad cA H.size h10) lk_Model_190 ⟨rfl, rfl, by decide, by decide⟩ 11 rfl rfl hP hD hS hl.1 rfl rfl (Nat.le_of_ble_eq_true rfl) d_Model_closeBracket_116 (fun H locs hP hD hS => ?_)
        refine lv_if_ne (tgt := 138) hx hb d_Model_closeBracket_119 (by decide) (fun c_11 => ?_) (fun c_11 => ?_)
        · have hF := ifn hF c_11
          exact ihn.2.2.2.1 σ x1 x2 x3 0 H locs ls hF hP hD hS (lv_sub hl [0, 1, 2, 3] rfl)
        · have hF := ifp hF c_11
          exact ihn.2.2.1 σ x1 x2 x3 0 H locs ls hF hP hD hS (lv_sub hl [0, 1, 2, 3] rfl)
    · have hF : tModel_closeBracket_b3 (tModel_closeBracket_L n) σ x1 x2 x3 x4 = some (r, σ') := hF
      unfold tModel_closeBracket_b3 at hF
      refine lv_iload_n hx hb d_Model_closeBracket_122 rfl (lv_at hl 1 rfl) ?_
      refine lv_bipush (v := 33) hx hb d_Model_closeBracket_123 (by decide) ?_
      refine lv_icmp_ne (tgt := 142) hx hb d_Model_closeBracket_125 (by decide) (fun c_16 => ?_) (fun c_16 => ?_)
      · have hF := ifn hF c_16
        exact ihn.2.2.2.2.1 σ x1 x2 x3 0 H locs ls hF hP hD hS (lv_sub hl [0, 1, 2, 3] rfl)
      · have hF := ifp hF c_16
        refine lv_aload_n hx hb d_Model_closeBracket_128 rfl (lv_at hl 0 rfl) ?_
        refine lv_ldc2 (v := 93) hx hb hown (hts _ w_61319408b8) d_Model_closeBracket_129 ?_
        obtain ⟨r17, h17, hF⟩ := b1E hF
        refine callVI (As := [.long 93]) X (ct_Model_sees l dC dI ad cA H.size h17) lk_Model_190 ⟨rfl, rfl, by decide, by decide⟩ 11 rfl rfl hP hD hS hl.1 rfl rfl (Nat.le_of_ble_eq_true rfl) d_Model_closeBracket_132 (fun H locs hP hD hS => ?_)
        refine lv_if_eq (tgt := 142) hx hb d_Model_closeBracket_135 (by decide) (fun c_18 => ?_) (fun c_18 => ?_)
        · have hF := ifp hF c_18
          exact ihn.2.2.2.2.1 σ x1 x2 x3 0 H locs ls hF hP hD hS (lv_sub hl [0, 1, 2, 3] rfl)
        · have hF := ifn hF c_18
          exact ihn.2.2.2.1 σ x1 x2 x3 0 H locs ls hF hP hD hS (lv_sub hl [0, 1, 2, 3] rfl)
    · have hF : tModel_closeBracket_b4 (tModel_closeBracket_L n) σ x1 x2 x3 x4 = some (r, σ') := hF
      unfold tModel_closeBracket_b4 at hF
      refine lv_iconst (v := 1) hx hb d_Model_closeBracket_138 (by decide) ?_
      refine lv_goto (tgt := 143) hx hb d_Model_closeBracket_139 (by decide) ?_
      exact ihn.2.2.2.2.2 σ x1 x2 x3 1 H locs ls hF hP hD hS (lv_sub hl [0, 1, 2, 3] rfl)
    · have hF : tModel_closeBracket_b5 (tModel_closeBracket_L n) σ x1 x2 x3 x4 = some (r, σ') := hF
      unfold tModel_closeBracket_b5 at hF
      refine lv_iconst (v := 0) hx hb d_Model_closeBracket_142 (by decide) ?_
      exact ihn.2.2.2.2.2 σ x1 x2 x3 0 H locs ls hF hP hD hS (lv_sub hl [0, 1, 2, 3] rfl)
    · have hF : tModel_closeBracket_b6 (tModel_closeBracket_L n) σ x1 x2 x3 x4 = some (r, σ') := hF
      unfold tModel_closeBracket_b6 at hF
      refine lv_istore (lv' := [(4, .int x4), (0, .ref (ad 11)), (1, .int x1), (2, .int x2), (3, .int x3)]) hx hb d_Model_closeBracket_143 hl (by decide) rfl (fun ls hl => ?_)
      refine lv_iload hx hb d_Model_closeBracket_145 (lv_at hl 0 rfl) ?_
      refine lv_if_ne (tgt := 156) hx hb d_Model_closeBracket_147 (by decide) (fun c_19 => ?_) (fun c_19 => ?_)
      · have hF := ifn hF c_19
        refine lv_aload_n hx hb d_Model_closeBracket_156 rfl (lv_at hl 1 rfl) ?_
        refine lv_dup hx hb d_Model_closeBracket_157 rfl ?_
        refine va_get (D := (dC, dI)) (ci := 11) (v := .int (σ.1 41)) hx hb hts i_Model hown hK hP 11 rfl rfl 34 (by decide) (hts _ w_98d35192b7) (fun _ h9 => h9) rfl d_Model_closeBracket_158 ?_
        refine lv_iconst (v := 1) hx hb d_Model_closeBracket_161 (by decide) ?_
        refine lv_isub hx hb d_Model_closeBracket_162 ?_
        refine va_put (D := (dC, dI)) (ci := 11) (v := .int ((σ.1 41) - 1)) (ty := .int) hx hb hts i_Model t_Model t_Model_ok n_Model hown hK hP hD hS 11 rfl rfl 34 (by decide) (hts _ w_98d35192b7) (fun _ h9 => h9) rfl (by decide +kernel) rfl rfl (Nat.le_of_ble_eq_true rfl) d_Model_closeBracket_163 (fun H locs hP hD hS => ?_)
        have hP : va_P (dC, dI) vwCl (tcw ad cA (sI σ 41 ((σ.1 41) - 1))) H := hP
        have hD : va_D A (tcw ad cA (sI σ 41 ((σ.1 41) - 1))) := hD
        refine lv_aload_n hx hb d_Model_closeBracket_166 rfl (lv_at hl 1 rfl) ?_
        refine lv_dup hx hb d_Model_closeBracket_167 rfl ?_
        refine va_get (D := (dC, dI)) (ci := 11) (v := .int (σ.1 32)) hx hb hts i_Model hown hK hP 11 rfl rfl 7 (by decide) (hts _ w_eb874fa0f0) (fun _ h9 => h9) rfl d_Model_closeBracket_168 ?_
        refine lv_iconst (v := 1) hx hb d_Model_closeBracket_171 (by decide) ?_
        refine lv_isub hx hb d_Model_closeBracket_172 ?_
        refine va_put (D := (dC, dI)) (ci := 11) (v := .int ((σ.1 32) - 1)) (ty := .int) hx hb hts i_Model t_Model t_Model_ok n_Model hown hK hP hD hS 11 rfl rfl 7 (by decide) (hts _ w_eb874fa0f0) (fun _ h9 => h9) rfl (by decide +kernel) rfl rfl (Nat.le_of_ble_eq_true rfl) d_Model_closeBracket_173 (fun H locs hP hD hS => ?_)
        have hP : va_P (dC, dI) vwCl (tcw ad cA (sI (sI σ 41 ((σ.1 41) - 1)) 32 ((σ.1 32) - 1))) H := hP
        have hD : va_D A (tcw ad cA (sI (sI σ 41 ((σ.1 41) - 1)) 32 ((σ.1 32) - 1))) := hD
        refine lv_aload_n hx hb d_Model_closeBracket_176 rfl (lv_at hl 1 rfl) ?_
        refine lv_dup hx hb d_Model_closeBracket_177 rfl ?_
        refine va_get (D := (dC, dI)) (ci := 11) (v := .int (σ.1 31)) hx hb hts i_Model hown hK hP 11 rfl rfl 6 (by decide) (hts _ w_13cd8e7698) (fun _ h9 => h9) rfl d_Model_closeBracket_178 ?_
        refine lv_iconst (v := 1) hx hb d_Model_closeBracket_181 (by decide) ?_
        refine lv_iadd hx hb d_Model_closeBracket_182 ?_
        refine va_put (D := (dC, dI)) (ci := 11) (v := .int ((σ.1 31) + 1)) (ty := .int) hx hb hts i_Model t_Model t_Model_ok n_Model hown hK hP hD hS 11 rfl rfl 6 (by decide) (hts _ w_13cd8e7698) (fun _ h9 => h9) rfl (by decide +kernel) rfl rfl (Nat.le_of_ble_eq_true rfl) d_Model_closeBracket_183 (fun H locs hP hD hS => ?_)
        have hP : va_P (dC, dI) vwCl (tcw ad cA (sI (sI (sI σ 41 ((σ.1 41) - 1)) 32 ((σ.1 32) - 1)) 31 ((σ.1 31) + 1))) H := hP
        have hD : va_D A (tcw ad cA (sI (sI (sI σ 41 ((σ.1 41) - 1)) 32 ((σ.1 32) - 1)) 31 ((σ.1 31) + 1))) := hD
        refine lv_iload_n hx hb d_Model_closeBracket_186 rfl (lv_at hl 2 rfl) ?_
        refine lv_bipush (v := 33) hx hb d_Model_closeBracket_187 (by decide) ?_
        refine lv_icmp_ne (tgt := 212) hx hb d_Model_closeBracket_189 (by decide) (fun c_20 => ?_) (fun c_20 => ?_)
        · have hF := ifn hF c_20
          refine lv_iconst (v := 0) hx hb d_Model_closeBracket_212 (by decide) ?_
          cases hF
          exact leafI X hP hD hS d_Model_closeBracket_213
        · have hF := ifp hF c_20
          refine lv_aload_n hx hb d_Model_closeBracket_192 rfl (lv_at hl 1 rfl) ?_
          refine lv_dup hx hb d_Model_closeBracket_193 rfl ?_
          refine va_get (D := (dC, dI)) (ci := 11) (v := .int (σ.1 40)) hx hb hts i_Model hown hK hP 11 rfl rfl 33 (by decide) (hts _ w_270be961d1) (fun _ h9 => h9) rfl d_Model_closeBracket_194 ?_
          refine lv_iconst (v := 1) hx hb d_Model_closeBracket_197 (by decide) ?_
          refine lv_isub hx hb d_Model_closeBracket_198 ?_
          refine va_put (D := (dC, dI)) (ci := 11) (v := .int ((σ.1 40) - 1)) (ty := .int) hx hb hts i_Model t_Model t_Model_ok n_Model hown hK hP hD hS 11 rfl rfl 33 (by decide) (hts _ w_270be961d1) (fun _ h9 => h9) rfl (by decide +kernel) rfl rfl (Nat.le_of_ble_eq_true rfl) d_Model_closeBracket_199 (fun H locs hP hD hS => ?_)
          have hP : va_P (dC, dI) vwCl (tcw ad cA (sI (sI (sI (sI σ 41 ((σ.1 41) - 1)) 32 ((σ.1 32) - 1)) 31 ((σ.1 31) + 1)) 40 ((σ.1 40) - 1))) H := hP
          have hD : va_D A (tcw ad cA (sI (sI (sI (sI σ 41 ((σ.1 41) - 1)) 32 ((σ.1 32) - 1)) 31 ((σ.1 31) + 1)) 40 ((σ.1 40) - 1))) := hD
          refine lv_aload_n hx hb d_Model_closeBracket_202 rfl (lv_at hl 1 rfl) ?_
          refine lv_aload_n hx hb d_Model_closeBracket_203 rfl (lv_at hl 1 rfl) ?_
          refine lv_iload_n hx hb d_Model_closeBracket_204 rfl (lv_at hl 3 rfl) ?_
          refine lv_iload_n hx hb d_Model_closeBracket_205 rfl (lv_at hl 4 rfl) ?_
          obtain ⟨r21, u21, h21, hF⟩ := b2E hF
          refine callVI (As := [.int x2, .int x3]) X (ct_Model_element l dC dI ad cA H.size h21) lk_Model_274 ⟨rfl, rfl, by decide, by decide⟩ 11 rfl rfl hP hD hS hl.1 rfl rfl (Nat.le_of_ble_eq_true rfl) d_Model_closeBracket_206 (fun H locs hP hD hS => ?_)
          obtain ⟨u22, h22, hF⟩ := b1E hF
          refine callVV (As := [.int r21]) X (ct_Model_operand l dC dI ad cA H.size h22) lk_Model_220 ⟨rfl, rfl, by decide, by decide⟩ 11 rfl rfl hP hD hS hl.1 rfl rfl (Nat.le_of_ble_eq_true rfl) d_Model_closeBracket_209 (fun H locs hP hD hS => ?_)
          refine lv_iconst (v := 0) hx hb d_Model_closeBracket_212 (by decide) ?_
          cases hF
          exact leafI X hP hD hS d_Model_closeBracket_213
      · have hF := ifp hF c_19
        refine lv_aload_n hx hb d_Model_closeBracket_150 rfl (lv_at hl 1 rfl) ?_
        obtain ⟨u23, h23, hF⟩ := b1E hF
        refine callVV (As := []) X (ct_Model_spoil l dC dI ad cA H.size h23) lk_Model_194 ⟨rfl, rfl, by decide, by decide⟩ 11 rfl rfl hP hD hS hl.1 rfl rfl (Nat.le_of_ble_eq_true rfl) d_Model_closeBracket_151 (fun H locs hP hD hS => ?_)
        refine lv_iconst (v := 0) hx hb d_Model_closeBracket_154 (by decide) ?_
        cases hF
        exact leafI X hP hD hS d_Model_closeBracket_155
set_option maxHeartbeats 4000000 in
set_option maxRecDepth 100000 in
theorem ct_Model_closeBracket (l : Launch) (dC : Nat → ClassId) (dI : Nat → Nat → Nat) (ad : Nat → Nat) (cA : Nat → ClassId) (sz : Nat) {σ : St} {r : Int32} {σ' : St} (hF : tModel_closeBracket σ = some (r, σ')) : MI l y_Model_closeBracket b_Model_closeBracket 5 (some .int) { frames := 3, cells := 0, slots := 0, locals := 70 } (dC, dI) (ttys cA) ad (tcw ad cA) [.ref (ad 11)] σ sz r σ' := by
  refine startM (own := "TinyForgeModel") (Qc := fun A => QI (dC, dI) (ttys cA) (tcw ad cA) A r σ') rfl rfl (Nat.le_of_ble_eq_true rfl) ?_
  intro p e s m below meth c A H locs ls X hP hD hS hl
  have hl : lv_has ls 5 [(0, .ref (ad 11))] := hl
  obtain ⟨hx, hb, hr, hml, hown, hlocks, hts, hA, hK, hZ⟩ := id X
  unfold tModel_closeBracket at hF
  refine lv_aload_n hx hb d_Model_closeBracket_0 rfl (lv_at hl 0 rfl) ?_
  refine va_get (D := (dC, dI)) (ci := 11) (v := .ref (ad 49)) hx hb hts i_Model hown hK hP 11 rfl rfl 36 (by decide) (hts _ w_2d771b9611) (fun _ h9 => h9) rfl d_Model_closeBracket_1 ?_
  refine lv_aload_n hx hb d_Model_closeBracket_4 rfl (lv_at hl 0 rfl) ?_
  refine va_get (D := (dC, dI)) (ci := 11) (v := .int (σ.1 41)) hx hb hts i_Model hown hK hP 11 rfl rfl 34 (by decide) (hts _ w_98d35192b7) (fun _ h9 => h9) rfl d_Model_closeBracket_5 ?_
  refine lv_iconst (v := 1) hx hb d_Model_closeBracket_8 (by decide) ?_
  refine lv_isub hx hb d_Model_closeBracket_9 ?_
  obtain ⟨g_1, hF⟩ := gdE hF
  refine va_iald (f := (σ.2.2.1 34)) hx hb hK hP 49 0 rfl rfl (inE g_1) d_Model_closeBracket_10 ?_
  refine lv_istore_n (lv' := [(1, .int ((σ.2.2.1 34) ((σ.1 41) - 1).toNatClampNeg)), (0, .ref (ad 11))]) hx hb d_Model_closeBracket_11 rfl hl (by decide) rfl (fun ls hl => ?_)
  refine lv_aload_n hx hb d_Model_closeBracket_12 rfl (lv_at hl 1 rfl) ?_
  refine va_get (D := (dC, dI)) (ci := 11) (v := .ref (ad 50)) hx hb hts i_Model hown hK hP 11 rfl rfl 37 (by decide) (hts _ w_4d94d4f137) (fun _ h9 => h9) rfl d_Model_closeBracket_13 ?_
  refine lv_aload_n hx hb d_Model_closeBracket_16 rfl (lv_at hl 1 rfl) ?_
  refine va_get (D := (dC, dI)) (ci := 11) (v := .int (σ.1 41)) hx hb hts i_Model hown hK hP 11 rfl rfl 34 (by decide) (hts _ w_98d35192b7) (fun _ h9 => h9) rfl d_Model_closeBracket_17 ?_
  refine lv_iconst (v := 1) hx hb d_Model_closeBracket_20 (by decide) ?_
  refine lv_isub hx hb d_Model_closeBracket_21 ?_
  obtain ⟨g_2, hF⟩ := gdE hF
  refine va_iald (f := (σ.2.2.1 35)) hx hb hK hP 50 0 rfl rfl (inE g_2) d_Model_closeBracket_22 ?_
  refine lv_istore_n (lv' := [(2, .int ((σ.2.2.1 35) ((σ.1 41) - 1).toNatClampNeg)), (1, .int ((σ.2.2.1 34) ((σ.1 41) - 1).toNatClampNeg)), (0, .ref (ad 11))]) hx hb d_Model_closeBracket_23 rfl hl (by decide) rfl (fun ls hl => ?_)
  refine lv_aload_n hx hb d_Model_closeBracket_24 rfl (lv_at hl 2 rfl) ?_
  refine va_get (D := (dC, dI)) (ci := 11) (v := .ref (ad 48)) hx hb hts i_Model hown hK hP 11 rfl rfl 32 (by decide) (hts _ w_231baed428) (fun _ h9 => h9) rfl d_Model_closeBracket_25 ?_
  refine lv_aload_n hx hb d_Model_closeBracket_28 rfl (lv_at hl 2 rfl) ?_
  refine va_get (D := (dC, dI)) (ci := 11) (v := .int (σ.1 40)) hx hb hts i_Model hown hK hP 11 rfl rfl 33 (by decide) (hts _ w_270be961d1) (fun _ h9 => h9) rfl d_Model_closeBracket_29 ?_
  refine lv_iconst (v := 1) hx hb d_Model_closeBracket_32 (by decide) ?_
  refine lv_isub hx hb d_Model_closeBracket_33 ?_
  obtain ⟨g_3, hF⟩ := gdE hF
  refine va_iald (f := (σ.2.2.1 33)) hx hb hK hP 48 0 rfl rfl (inE g_3) d_Model_closeBracket_34 ?_
  refine lv_istore_n (lv' := [(3, .int ((σ.2.2.1 33) ((σ.1 40) - 1).toNatClampNeg)), (2, .int ((σ.2.2.1 35) ((σ.1 41) - 1).toNatClampNeg)), (1, .int ((σ.2.2.1 34) ((σ.1 41) - 1).toNatClampNeg)), (0, .ref (ad 11))]) hx hb d_Model_closeBracket_35 rfl hl (by decide) rfl (fun ls hl => ?_)
  refine lv_iload_n hx hb d_Model_closeBracket_36 rfl (lv_at hl 2 rfl) ?_
  refine lv_bipush (v := 34) hx hb d_Model_closeBracket_37 (by decide) ?_
  refine lv_icmp_ne (tgt := 106) hx hb d_Model_closeBracket_39 (by decide) (fun c_4 => ?_) (fun c_4 => ?_)
  · have hF := ifn hF c_4
    exact (tModel_closeBracket_blk l dC dI ad cA X 2000).2.1 σ ((σ.2.2.1 34) ((σ.1 41) - 1).toNatClampNeg) ((σ.2.2.1 35) ((σ.1 41) - 1).toNatClampNeg) ((σ.2.2.1 33) ((σ.1 40) - 1).toNatClampNeg) 0 H locs ls hF hP hD hS (lv_sub hl [3, 2, 1, 0] rfl)
  · have hF := ifp hF c_4
    refine lv_aload_n hx hb d_Model_closeBracket_42 rfl (lv_at hl 3 rfl) ?_
    refine lv_ldc2 (v := 44) hx hb hown (hts _ w_0f4ae4318f) d_Model_closeBracket_43 ?_
    obtain ⟨r5, h5, hF⟩ := b1E hF
    refine callVI (As := [.long 44]) X (ct_Model_sees l dC dI ad cA H.size h5) lk_Model_190 ⟨rfl, rfl, by decide, by decide⟩ 11 rfl rfl hP hD hS hl.1 rfl rfl (Nat.le_of_ble_eq_true rfl) d_Model_closeBracket_46 (fun H locs hP hD hS => ?_)
    refine lv_if_ne (tgt := 62) hx hb d_Model_closeBracket_49 (by decide) (fun c_6 => ?_) (fun c_6 => ?_)
    · have hF := ifn hF c_6
      exact (tModel_closeBracket_blk l dC dI ad cA X 2000).1 σ ((σ.2.2.1 35) ((σ.1 41) - 1).toNatClampNeg) ((σ.2.2.1 33) ((σ.1 40) - 1).toNatClampNeg) 0 0 H locs ls hF hP hD hS (lv_sub hl [3, 1, 0] rfl)
    · have hF := ifp hF c_6
      refine lv_aload_n hx hb d_Model_closeBracket_52 rfl (lv_at hl 3 rfl) ?_
      refine lv_ldc2 (v := 41) hx hb hown (hts _ w_c6b9d4f3a9) d_Model_closeBracket_53 ?_
      obtain ⟨r7, h7, hF⟩ := b1E hF
      refine callVI (As := [.long 41]) X (ct_Model_sees l dC dI ad cA H.size h7) lk_Model_190 ⟨rfl, rfl, by decide, by decide⟩ 11 rfl rfl hP hD hS hl.1 rfl rfl (Nat.le_of_ble_eq_true rfl) d_Model_closeBracket_56 (fun H locs hP hD hS => ?_)
      refine lv_if_eq (tgt := 106) hx hb d_Model_closeBracket_59 (by decide) (fun c_8 => ?_) (fun c_8 => ?_)
      · have hF := ifp hF c_8
        exact (tModel_closeBracket_blk l dC dI ad cA X 2000).2.1 σ ((σ.2.2.1 34) ((σ.1 41) - 1).toNatClampNeg) ((σ.2.2.1 35) ((σ.1 41) - 1).toNatClampNeg) ((σ.2.2.1 33) ((σ.1 40) - 1).toNatClampNeg) 0 H locs ls hF hP hD hS (lv_sub hl [3, 2, 1, 0] rfl)
      · have hF := ifn hF c_8
        exact (tModel_closeBracket_blk l dC dI ad cA X 2000).1 σ ((σ.2.2.1 35) ((σ.1 41) - 1).toNatClampNeg) ((σ.2.2.1 33) ((σ.1 40) - 1).toNatClampNeg) 0 0 H locs ls hF hP hD hS (lv_sub hl [3, 1, 0] rfl)
theorem d_Model_sign_0 : decode b_Model_sign 0 = .ok (.iload_n 1, 1) := by decide +kernel
theorem d_Model_sign_1 : decode b_Model_sign 1 = .ok (.aload_n 0, 1) := by decide +kernel
theorem d_Model_sign_2 : decode b_Model_sign 2 = .ok (.getfield 118, 3) := by decide +kernel
theorem d_Model_sign_5 : decode b_Model_sign 5 = .ok (.if_icmp .ge 12, 3) := by decide +kernel
theorem d_Model_sign_8 : decode b_Model_sign 8 = .ok (.aload_n 0, 1) := by decide +kernel
theorem d_Model_sign_9 : decode b_Model_sign 9 = .ok (.getfield 7, 3) := by decide +kernel
theorem d_Model_sign_12 : decode b_Model_sign 12 = .ok (.iload_n 1, 1) := by decide +kernel
theorem d_Model_sign_13 : decode b_Model_sign 13 = .ok (.caload, 1) := by decide +kernel
theorem d_Model_sign_14 : decode b_Model_sign 14 = .ok (.goto 4, 3) := by decide +kernel
theorem d_Model_sign_17 : decode b_Model_sign 17 = .ok (.iconst 0, 1) := by decide +kernel
theorem d_Model_sign_18 : decode b_Model_sign 18 = .ok (.ireturn, 1) := by decide +kernel
def tModel_sign (σ : St) (a1 : Int32) : Option (Int32) := if (σ.1 27) ≤ a1 then some 0 else gd (inB a1 480) (some ((σ.2.2.1 15) a1.toNatClampNeg))
set_option maxHeartbeats 4000000 in
set_option maxRecDepth 100000 in
theorem ct_Model_sign (l : Launch) (dC : Nat → ClassId) (dI : Nat → Nat → Nat) (ad : Nat → Nat) (cA : Nat → ClassId) (sz : Nat) {σ : St} {a1 : Int32} {r : Int32} (hF : tModel_sign σ a1 = some r) : MI l y_Model_sign b_Model_sign 2 (some .int) { frames := 0, cells := 0, slots := 0, locals := 0 } (dC, dI) (ttys cA) ad (tcw ad cA) [.ref (ad 11), .int a1] σ sz r σ := by
  refine startM (own := "TinyForgeModel") (Qc := fun A => QI (dC, dI) (ttys cA) (tcw ad cA) A r σ) rfl rfl (Nat.le_of_ble_eq_true rfl) ?_
  intro p e s m below meth c A H locs ls X hP hD hS hl
  have hl : lv_has ls 2 [(0, .ref (ad 11)), (1, .int a1)] := hl
  obtain ⟨hx, hb, hr, hml, hown, hlocks, hts, hA, hK, hZ⟩ := id X
  unfold tModel_sign at hF
  refine lv_iload_n hx hb d_Model_sign_0 rfl (lv_at hl 1 rfl) ?_
  refine lv_aload_n hx hb d_Model_sign_1 rfl (lv_at hl 0 rfl) ?_
  refine va_get (D := (dC, dI)) (ci := 11) (v := .int (σ.1 27)) hx hb hts i_Model hown hK hP 11 rfl rfl 2 (by decide) (hts _ w_b232703b7d) (fun _ h9 => h9) rfl d_Model_sign_2 ?_
  refine lv_icmp_ge (tgt := 17) hx hb d_Model_sign_5 (by decide) (fun c_1 => ?_) (fun c_1 => ?_)
  · have hF := ifp hF c_1
    refine lv_iconst (v := 0) hx hb d_Model_sign_17 (by decide) ?_
    cases hF
    exact leafI X hP hD hS d_Model_sign_18
  · have hF := ifn hF c_1
    refine lv_aload_n hx hb d_Model_sign_8 rfl (lv_at hl 0 rfl) ?_
    refine va_get (D := (dC, dI)) (ci := 11) (v := .ref (ad 30)) hx hb hts i_Model hown hK hP 11 rfl rfl 1 (by decide) (hts _ w_c45f734488) (fun _ h9 => h9) rfl d_Model_sign_9 ?_
    refine lv_iload_n hx hb d_Model_sign_12 rfl (lv_at hl 1 rfl) ?_
    obtain ⟨g_2, hF⟩ := gdE hF
    refine va_cald (f := (σ.2.2.1 15)) hx hb hK hP 30 2 rfl rfl (inE g_2) d_Model_sign_13 ?_
    refine lv_goto (tgt := 18) hx hb d_Model_sign_14 (by decide) ?_
    cases hF
    exact leafI X hP hD hS d_Model_sign_18
theorem d_Model_strengthOf_0 : decode b_Model_strengthOf 0 = .ok (.iload_n 0, 1) := by decide +kernel
theorem d_Model_strengthOf_1 : decode b_Model_strengthOf 1 = .ok (.bipush 124, 2) := by decide +kernel
theorem d_Model_strengthOf_3 : decode b_Model_strengthOf 3 = .ok (.if_icmp .ne 5, 3) := by decide +kernel
theorem d_Model_strengthOf_6 : decode b_Model_strengthOf 6 = .ok (.iconst 1, 1) := by decide +kernel
theorem d_Model_strengthOf_7 : decode b_Model_strengthOf 7 = .ok (.ireturn, 1) := by decide +kernel
theorem d_Model_strengthOf_8 : decode b_Model_strengthOf 8 = .ok (.iload_n 0, 1) := by decide +kernel
theorem d_Model_strengthOf_9 : decode b_Model_strengthOf 9 = .ok (.bipush 38, 2) := by decide +kernel
theorem d_Model_strengthOf_11 : decode b_Model_strengthOf 11 = .ok (.if_icmp .ne 5, 3) := by decide +kernel
theorem d_Model_strengthOf_14 : decode b_Model_strengthOf 14 = .ok (.iconst 2, 1) := by decide +kernel
theorem d_Model_strengthOf_15 : decode b_Model_strengthOf 15 = .ok (.ireturn, 1) := by decide +kernel
theorem d_Model_strengthOf_16 : decode b_Model_strengthOf 16 = .ok (.iload_n 1, 1) := by decide +kernel
theorem d_Model_strengthOf_17 : decode b_Model_strengthOf 17 = .ok (.bipush 61, 2) := by decide +kernel
theorem d_Model_strengthOf_19 : decode b_Model_strengthOf 19 = .ok (.if_icmp .ne 17, 3) := by decide +kernel
theorem d_Model_strengthOf_22 : decode b_Model_strengthOf 22 = .ok (.iload_n 0, 1) := by decide +kernel
theorem d_Model_strengthOf_23 : decode b_Model_strengthOf 23 = .ok (.bipush 61, 2) := by decide +kernel
theorem d_Model_strengthOf_25 : decode b_Model_strengthOf 25 = .ok (.if_icmp .eq 9, 3) := by decide +kernel
theorem d_Model_strengthOf_28 : decode b_Model_strengthOf 28 = .ok (.iload_n 0, 1) := by decide +kernel
theorem d_Model_strengthOf_29 : decode b_Model_strengthOf 29 = .ok (.bipush 33, 2) := by decide +kernel
theorem d_Model_strengthOf_31 : decode b_Model_strengthOf 31 = .ok (.if_icmp .ne 5, 3) := by decide +kernel
theorem d_Model_strengthOf_34 : decode b_Model_strengthOf 34 = .ok (.iconst 3, 1) := by decide +kernel
theorem d_Model_strengthOf_35 : decode b_Model_strengthOf 35 = .ok (.ireturn, 1) := by decide +kernel
theorem d_Model_strengthOf_36 : decode b_Model_strengthOf 36 = .ok (.iload_n 0, 1) := by decide +kernel
theorem d_Model_strengthOf_37 : decode b_Model_strengthOf 37 = .ok (.bipush 60, 2) := by decide +kernel
theorem d_Model_strengthOf_39 : decode b_Model_strengthOf 39 = .ok (.if_icmp .eq 9, 3) := by decide +kernel
theorem d_Model_strengthOf_42 : decode b_Model_strengthOf 42 = .ok (.iload_n 0, 1) := by decide +kernel
theorem d_Model_strengthOf_43 : decode b_Model_strengthOf 43 = .ok (.bipush 62, 2) := by decide +kernel
theorem d_Model_strengthOf_45 : decode b_Model_strengthOf 45 = .ok (.if_icmp .ne 5, 3) := by decide +kernel
theorem d_Model_strengthOf_48 : decode b_Model_strengthOf 48 = .ok (.iconst 4, 1) := by decide +kernel
theorem d_Model_strengthOf_49 : decode b_Model_strengthOf 49 = .ok (.ireturn, 1) := by decide +kernel
theorem d_Model_strengthOf_50 : decode b_Model_strengthOf 50 = .ok (.iload_n 0, 1) := by decide +kernel
theorem d_Model_strengthOf_51 : decode b_Model_strengthOf 51 = .ok (.bipush 43, 2) := by decide +kernel
theorem d_Model_strengthOf_53 : decode b_Model_strengthOf 53 = .ok (.if_icmp .eq 9, 3) := by decide +kernel
theorem d_Model_strengthOf_56 : decode b_Model_strengthOf 56 = .ok (.iload_n 0, 1) := by decide +kernel
theorem d_Model_strengthOf_57 : decode b_Model_strengthOf 57 = .ok (.bipush 45, 2) := by decide +kernel
theorem d_Model_strengthOf_59 : decode b_Model_strengthOf 59 = .ok (.if_icmp .ne 5, 3) := by decide +kernel
theorem d_Model_strengthOf_62 : decode b_Model_strengthOf 62 = .ok (.iconst 5, 1) := by decide +kernel
theorem d_Model_strengthOf_63 : decode b_Model_strengthOf 63 = .ok (.ireturn, 1) := by decide +kernel
theorem d_Model_strengthOf_64 : decode b_Model_strengthOf 64 = .ok (.iload_n 0, 1) := by decide +kernel
theorem d_Model_strengthOf_65 : decode b_Model_strengthOf 65 = .ok (.bipush 42, 2) := by decide +kernel
theorem d_Model_strengthOf_67 : decode b_Model_strengthOf 67 = .ok (.if_icmp .eq 15, 3) := by decide +kernel
theorem d_Model_strengthOf_70 : decode b_Model_strengthOf 70 = .ok (.iload_n 0, 1) := by decide +kernel
theorem d_Model_strengthOf_71 : decode b_Model_strengthOf 71 = .ok (.bipush 47, 2) := by decide +kernel
theorem d_Model_strengthOf_73 : decode b_Model_strengthOf 73 = .ok (.if_icmp .eq 9, 3) := by decide +kernel
theorem d_Model_strengthOf_76 : decode b_Model_strengthOf 76 = .ok (.iload_n 0, 1) := by decide +kernel
theorem d_Model_strengthOf_77 : decode b_Model_strengthOf 77 = .ok (.bipush 37, 2) := by decide +kernel
theorem d_Model_strengthOf_79 : decode b_Model_strengthOf 79 = .ok (.if_icmp .ne 8, 3) := by decide +kernel
theorem d_Model_strengthOf_82 : decode b_Model_strengthOf 82 = .ok (.bipush 6, 2) := by decide +kernel
theorem d_Model_strengthOf_84 : decode b_Model_strengthOf 84 = .ok (.goto 4, 3) := by decide +kernel
theorem d_Model_strengthOf_87 : decode b_Model_strengthOf 87 = .ok (.iconst 0, 1) := by decide +kernel
theorem d_Model_strengthOf_88 : decode b_Model_strengthOf 88 = .ok (.ireturn, 1) := by decide +kernel
def tModel_strengthOf_b1 (k : Nat → St → Int32 → Option (Int32)) (σ : St) (x1 : Int32) : Option (Int32) := if x1 = 60 then some 4 else if x1 = 62 then some 4 else if x1 = 43 then some 5 else if x1 = 45 then some 5 else if x1 = 42 then some 6 else if x1 = 47 then some 6 else if x1 = 37 then some 6 else some 0
def tModel_strengthOf_L : Nat → Nat → St → Int32 → Option (Int32)
  | 0, _, _, _ => none
  | n + 1, lab, σ, x1 => match lab with
    | 1 => tModel_strengthOf_b1 (tModel_strengthOf_L n) σ x1
    | _ => none
def tModel_strengthOf (σ : St) (a1 : Int32) (a2 : Int32) : Option (Int32) := if a1 = 124 then some 1 else if a1 = 38 then some 2 else if a2 = 61 then if a1 = 61 then some 3 else if a1 = 33 then some 3 else tModel_strengthOf_L 2000 1 σ a1 else tModel_strengthOf_L 2000 1 σ a1
set_option maxHeartbeats 4000000 in
set_option maxRecDepth 100000 in
theorem tModel_strengthOf_blk {p : Program} {e : Env} {s : State} {m : MethodId} {args : Array Value} {below : List Frame} {meth : Method} {c : Code} {A : Nat → Prop} (l : Launch) (dC : Nat → ClassId) (dI : Nat → Nat → Nat) (ad : Nat → Nat) (cA : Nat → ClassId) {r : Int32} (X : Cx p s m args meth c b_Model_strengthOf 2 (some .int) "TinyForgeModel" (dC, dI) (ttys cA) ad A) : ∀ n : Nat, (∀ (σ : St) (x1 : Int32) (H : Heap) (locs : List Loc) (ls : Array Slot), tModel_strengthOf_L n 1 σ x1 = some r → va_P (dC, dI) vwCl (tcw ad cA σ) H → va_D A (tcw ad cA σ) → va_S A s.heap H locs → lv_has ls 2 [(0, .int x1)] → W p l e { frames := 0, cells := 0, slots := 0, locals := 0 } s m args below meth c H locs 0 0 (MQ below (QI (dC, dI) (ttys cA) (tcw ad cA) A r σ) args s 0 0 A) (F0 m 36 ls [])) := by
  obtain ⟨hx, hb, hr, hml, hown, hlocks, hts, hA, hK, hZ⟩ := id X
  intro n
  induction n with
  | zero => exact (fun σ x1 H locs ls hF => by cases hF)
  | succ n ihn =>
    refine fun σ x1 H locs ls hF hP hD hS hl => ?_
    · have hF : tModel_strengthOf_b1 (tModel_strengthOf_L n) σ x1 = some r := hF
      unfold tModel_strengthOf_b1 at hF
      refine lv_iload_n hx hb d_Model_strengthOf_36 rfl (lv_at hl 0 rfl) ?_
      refine lv_bipush (v := 60) hx hb d_Model_strengthOf_37 (by decide) ?_
      refine lv_icmp_eq (tgt := 48) hx hb d_Model_strengthOf_39 (by decide) (fun c_6 => ?_) (fun c_6 => ?_)
      · have hF := ifp hF c_6
        refine lv_iconst (v := 4) hx hb d_Model_strengthOf_48 (by decide) ?_
        cases hF
        exact leafI X hP hD hS d_Model_strengthOf_49
      · have hF := ifn hF c_6
        refine lv_iload_n hx hb d_Model_strengthOf_42 rfl (lv_at hl 0 rfl) ?_
        refine lv_bipush (v := 62) hx hb d_Model_strengthOf_43 (by decide) ?_
        refine lv_icmp_ne (tgt := 50) hx hb d_Model_strengthOf_45 (by decide) (fun c_7 => ?_) (fun c_7 => ?_)
        · have hF := ifn hF c_7
          refine lv_iload_n hx hb d_Model_strengthOf_50 rfl (lv_at hl 0 rfl) ?_
          refine lv_bipush (v := 43) hx hb d_Model_strengthOf_51 (by decide) ?_
          refine lv_icmp_eq (tgt := 62) hx hb d_Model_strengthOf_53 (by decide) (fun c_8 => ?_) (fun c_8 => ?_)
          · have hF := ifp hF c_8
            refine lv_iconst (v := 5) hx hb d_Model_strengthOf_62 (by decide) ?_
            cases hF
            exact leafI X hP hD hS d_Model_strengthOf_63
          · have hF := ifn hF c_8
            refine lv_iload_n hx hb d_Model_strengthOf_56 rfl (lv_at hl 0 rfl) ?_
            refine lv_bipush (v := 45) hx hb d_Model_strengthOf_57 (by decide) ?_
            refine lv_icmp_ne (tgt := 64) hx hb d_Model_strengthOf_59 (by decide) (fun c_9 => ?_) (fun c_9 => ?_)
            · have hF := ifn hF c_9
              refine lv_iload_n hx hb d_Model_strengthOf_64 rfl (lv_at hl 0 rfl) ?_
              refine lv_bipush (v := 42) hx hb d_Model_strengthOf_65 (by decide) ?_
              refine lv_icmp_eq (tgt := 82) hx hb d_Model_strengthOf_67 (by decide) (fun c_10 => ?_) (fun c_10 => ?_)
              · have hF := ifp hF c_10
                refine lv_bipush (v := 6) hx hb d_Model_strengthOf_82 (by decide) ?_
                refine lv_goto (tgt := 88) hx hb d_Model_strengthOf_84 (by decide) ?_
                cases hF
                exact leafI X hP hD hS d_Model_strengthOf_88
              · have hF := ifn hF c_10
                refine lv_iload_n hx hb d_Model_strengthOf_70 rfl (lv_at hl 0 rfl) ?_
                refine lv_bipush (v := 47) hx hb d_Model_strengthOf_71 (by decide) ?_
                refine lv_icmp_eq (tgt := 82) hx hb d_Model_strengthOf_73 (by decide) (fun c_11 => ?_) (fun c_11 => ?_)
                · have hF := ifp hF c_11
                  refine lv_bipush (v := 6) hx hb d_Model_strengthOf_82 (by decide) ?_
                  refine lv_goto (tgt := 88) hx hb d_Model_strengthOf_84 (by decide) ?_
                  cases hF
                  exact leafI X hP hD hS d_Model_strengthOf_88
                · have hF := ifn hF c_11
                  refine lv_iload_n hx hb d_Model_strengthOf_76 rfl (lv_at hl 0 rfl) ?_
                  refine lv_bipush (v := 37) hx hb d_Model_strengthOf_77 (by decide) ?_
                  refine lv_icmp_ne (tgt := 87) hx hb d_Model_strengthOf_79 (by decide) (fun c_12 => ?_) (fun c_12 => ?_)
                  · have hF := ifn hF c_12
                    refine lv_iconst (v := 0) hx hb d_Model_strengthOf_87 (by decide) ?_
                    cases hF
                    exact leafI X hP hD hS d_Model_strengthOf_88
                  · have hF := ifp hF c_12
                    refine lv_bipush (v := 6) hx hb d_Model_strengthOf_82 (by decide) ?_
                    refine lv_goto (tgt := 88) hx hb d_Model_strengthOf_84 (by decide) ?_
                    cases hF
                    exact leafI X hP hD hS d_Model_strengthOf_88
            · have hF := ifp hF c_9
              refine lv_iconst (v := 5) hx hb d_Model_strengthOf_62 (by decide) ?_
              cases hF
              exact leafI X hP hD hS d_Model_strengthOf_63
        · have hF := ifp hF c_7
          refine lv_iconst (v := 4) hx hb d_Model_strengthOf_48 (by decide) ?_
          cases hF
          exact leafI X hP hD hS d_Model_strengthOf_49
set_option maxHeartbeats 4000000 in
set_option maxRecDepth 100000 in
theorem ct_Model_strengthOf (l : Launch) (dC : Nat → ClassId) (dI : Nat → Nat → Nat) (ad : Nat → Nat) (cA : Nat → ClassId) (sz : Nat) {σ : St} {a1 : Int32} {a2 : Int32} {r : Int32} (hF : tModel_strengthOf σ a1 a2 = some r) : MI l y_Model_strengthOf b_Model_strengthOf 2 (some .int) { frames := 0, cells := 0, slots := 0, locals := 0 } (dC, dI) (ttys cA) ad (tcw ad cA) [.int a1, .int a2] σ sz r σ := by
  refine startM (own := "TinyForgeModel") (Qc := fun A => QI (dC, dI) (ttys cA) (tcw ad cA) A r σ) rfl rfl (Nat.le_of_ble_eq_true rfl) ?_
  intro p e s m below meth c A H locs ls X hP hD hS hl
  have hl : lv_has ls 2 [(0, .int a1), (1, .int a2)] := hl
  obtain ⟨hx, hb, hr, hml, hown, hlocks, hts, hA, hK, hZ⟩ := id X
  unfold tModel_strengthOf at hF
  refine lv_iload_n hx hb d_Model_strengthOf_0 rfl (lv_at hl 0 rfl) ?_
  refine lv_bipush (v := 124) hx hb d_Model_strengthOf_1 (by decide) ?_
  refine lv_icmp_ne (tgt := 8) hx hb d_Model_strengthOf_3 (by decide) (fun c_1 => ?_) (fun c_1 => ?_)
  · have hF := ifn hF c_1
    refine lv_iload_n hx hb d_Model_strengthOf_8 rfl (lv_at hl 0 rfl) ?_
    refine lv_bipush (v := 38) hx hb d_Model_strengthOf_9 (by decide) ?_
    refine lv_icmp_ne (tgt := 16) hx hb d_Model_strengthOf_11 (by decide) (fun c_2 => ?_) (fun c_2 => ?_)
    · have hF := ifn hF c_2
      refine lv_iload_n hx hb d_Model_strengthOf_16 rfl (lv_at hl 1 rfl) ?_
      refine lv_bipush (v := 61) hx hb d_Model_strengthOf_17 (by decide) ?_
      refine lv_icmp_ne (tgt := 36) hx hb d_Model_strengthOf_19 (by decide) (fun c_3 => ?_) (fun c_3 => ?_)
      · have hF := ifn hF c_3
        exact (tModel_strengthOf_blk l dC dI ad cA X 2000) σ a1 H locs ls hF hP hD hS (lv_sub hl [0] rfl)
      · have hF := ifp hF c_3
        refine lv_iload_n hx hb d_Model_strengthOf_22 rfl (lv_at hl 0 rfl) ?_
        refine lv_bipush (v := 61) hx hb d_Model_strengthOf_23 (by decide) ?_
        refine lv_icmp_eq (tgt := 34) hx hb d_Model_strengthOf_25 (by decide) (fun c_4 => ?_) (fun c_4 => ?_)
        · have hF := ifp hF c_4
          refine lv_iconst (v := 3) hx hb d_Model_strengthOf_34 (by decide) ?_
          cases hF
          exact leafI X hP hD hS d_Model_strengthOf_35
        · have hF := ifn hF c_4
          refine lv_iload_n hx hb d_Model_strengthOf_28 rfl (lv_at hl 0 rfl) ?_
          refine lv_bipush (v := 33) hx hb d_Model_strengthOf_29 (by decide) ?_
          refine lv_icmp_ne (tgt := 36) hx hb d_Model_strengthOf_31 (by decide) (fun c_5 => ?_) (fun c_5 => ?_)
          · have hF := ifn hF c_5
            exact (tModel_strengthOf_blk l dC dI ad cA X 2000) σ a1 H locs ls hF hP hD hS (lv_sub hl [0] rfl)
          · have hF := ifp hF c_5
            refine lv_iconst (v := 3) hx hb d_Model_strengthOf_34 (by decide) ?_
            cases hF
            exact leafI X hP hD hS d_Model_strengthOf_35
    · have hF := ifp hF c_2
      refine lv_iconst (v := 2) hx hb d_Model_strengthOf_14 (by decide) ?_
      cases hF
      exact leafI X hP hD hS d_Model_strengthOf_15
  · have hF := ifp hF c_1
    refine lv_iconst (v := 1) hx hb d_Model_strengthOf_6 (by decide) ?_
    cases hF
    exact leafI X hP hD hS d_Model_strengthOf_7
