theorem d_Model_isIn_0 : decode b_Model_isIn 0 = .ok (.iload_n 2, 1) := by decide +kernel
theorem d_Model_isIn_1 : decode b_Model_isIn 1 = .ok (.ifCond .lt 22, 3) := by decide +kernel
theorem d_Model_isIn_4 : decode b_Model_isIn 4 = .ok (.iload_n 2, 1) := by decide +kernel
theorem d_Model_isIn_5 : decode b_Model_isIn 5 = .ok (.aload_n 0, 1) := by decide +kernel
theorem d_Model_isIn_6 : decode b_Model_isIn 6 = .ok (.getfield 58, 3) := by decide +kernel
theorem d_Model_isIn_9 : decode b_Model_isIn 9 = .ok (.aload_n 0, 1) := by decide +kernel
theorem d_Model_isIn_10 : decode b_Model_isIn 10 = .ok (.getfield 42, 3) := by decide +kernel
theorem d_Model_isIn_13 : decode b_Model_isIn 13 = .ok (.iload_n 1, 1) := by decide +kernel
theorem d_Model_isIn_14 : decode b_Model_isIn 14 = .ok (.iaload, 1) := by decide +kernel
theorem d_Model_isIn_15 : decode b_Model_isIn 15 = .ok (.iaload, 1) := by decide +kernel
theorem d_Model_isIn_16 : decode b_Model_isIn 16 = .ok (.if_icmp .ge 7, 3) := by decide +kernel
theorem d_Model_isIn_19 : decode b_Model_isIn 19 = .ok (.iconst 1, 1) := by decide +kernel
theorem d_Model_isIn_20 : decode b_Model_isIn 20 = .ok (.goto 4, 3) := by decide +kernel
theorem d_Model_isIn_23 : decode b_Model_isIn 23 = .ok (.iconst 0, 1) := by decide +kernel
theorem d_Model_isIn_24 : decode b_Model_isIn 24 = .ok (.ireturn, 1) := by decide +kernel
def tModel_isIn (σ : St) (a1 : Int32) (a2 : Int32) : Option (Int32) := if a2 < 0 then some 0 else gd (inB a1 500) (gd (inB ((σ.2.2.1 24) a1.toNatClampNeg) 60) (if ((σ.2.2.1 29) ((σ.2.2.1 24) a1.toNatClampNeg).toNatClampNeg) ≤ a2 then some 0 else some 1))
set_option maxHeartbeats 4000000 in
set_option maxRecDepth 100000 in
theorem ct_Model_isIn (l : Launch) (dC : Nat → ClassId) (dI : Nat → Nat → Nat) (ad : Nat → Nat) (cA : Nat → ClassId) (sz : Nat) {σ : St} {a1 : Int32} {a2 : Int32} {r : Int32} (hF : tModel_isIn σ a1 a2 = some r) : MI l y_Model_isIn b_Model_isIn 3 (some .boolean) { frames := 0, cells := 0, slots := 0, locals := 0 } (dC, dI) (ttys cA) ad (tcw ad cA) [.ref (ad 11), .int a1, .int a2] σ sz r σ := by
  refine startM (own := "TinyForgeModel") (Qc := fun A => QI (dC, dI) (ttys cA) (tcw ad cA) A r σ) rfl rfl (Nat.le_of_ble_eq_true rfl) ?_
  intro p e s m below meth c A H locs ls X hP hD hS hl
  have hl : lv_has ls 3 [(0, .ref (ad 11)), (1, .int a1), (2, .int a2)] := hl
  obtain ⟨hx, hb, hr, hml, hown, hlocks, hts, hA, hK, hZ⟩ := id X
  unfold tModel_isIn at hF
  refine lv_iload_n hx hb d_Model_isIn_0 rfl (lv_at hl 2 rfl) ?_
  refine lv_if_lt (tgt := 23) hx hb d_Model_isIn_1 (by decide) (fun c_1 => ?_) (fun c_1 => ?_)
  · have hF := ifp hF c_1
    refine lv_iconst (v := 0) hx hb d_Model_isIn_23 (by decide) ?_
    cases hF
    exact leafZ X hP hD hS (by decide) d_Model_isIn_24
  · have hF := ifn hF c_1
    refine lv_iload_n hx hb d_Model_isIn_4 rfl (lv_at hl 2 rfl) ?_
    refine lv_aload_n hx hb d_Model_isIn_5 rfl (lv_at hl 0 rfl) ?_
    refine va_get (D := (dC, dI)) (ci := 11) (v := .ref (ad 44)) hx hb hts i_Model hown hK hP 11 rfl rfl 26 (by decide) (hts _ w_3f8fbd1572) (fun _ h9 => h9) rfl d_Model_isIn_6 ?_
    refine lv_aload_n hx hb d_Model_isIn_9 rfl (lv_at hl 0 rfl) ?_
    refine va_get (D := (dC, dI)) (ci := 11) (v := .ref (ad 39)) hx hb hts i_Model hown hK hP 11 rfl rfl 18 (by decide) (hts _ w_7d7d4091fc) (fun _ h9 => h9) rfl d_Model_isIn_10 ?_
    refine lv_iload_n hx hb d_Model_isIn_13 rfl (lv_at hl 1 rfl) ?_
    obtain ⟨g_2, hF⟩ := gdE hF
    refine va_iald (f := (σ.2.2.1 24)) hx hb hK hP 39 0 rfl rfl (inE g_2) d_Model_isIn_14 ?_
    obtain ⟨g_3, hF⟩ := gdE hF
    refine va_iald (f := (σ.2.2.1 29)) hx hb hK hP 44 0 rfl rfl (inE g_3) d_Model_isIn_15 ?_
    refine lv_icmp_ge (tgt := 23) hx hb d_Model_isIn_16 (by decide) (fun c_4 => ?_) (fun c_4 => ?_)
    · have hF := ifp hF c_4
      refine lv_iconst (v := 0) hx hb d_Model_isIn_23 (by decide) ?_
      cases hF
      exact leafZ X hP hD hS (by decide) d_Model_isIn_24
    · have hF := ifn hF c_4
      refine lv_iconst (v := 1) hx hb d_Model_isIn_19 (by decide) ?_
      refine lv_goto (tgt := 24) hx hb d_Model_isIn_20 (by decide) ?_
      cases hF
      exact leafZ X hP hD hS (by decide) d_Model_isIn_24
theorem d_Model_popValue_0 : decode b_Model_popValue 0 = .ok (.aload_n 0, 1) := by decide +kernel
theorem d_Model_popValue_1 : decode b_Model_popValue 1 = .ok (.dup, 1) := by decide +kernel
theorem d_Model_popValue_2 : decode b_Model_popValue 2 = .ok (.getfield 404, 3) := by decide +kernel
theorem d_Model_popValue_5 : decode b_Model_popValue 5 = .ok (.iconst 1, 1) := by decide +kernel
theorem d_Model_popValue_6 : decode b_Model_popValue 6 = .ok (.isub, 1) := by decide +kernel
theorem d_Model_popValue_7 : decode b_Model_popValue 7 = .ok (.putfield 404, 3) := by decide +kernel
theorem d_Model_popValue_10 : decode b_Model_popValue 10 = .ok (.aload_n 0, 1) := by decide +kernel
theorem d_Model_popValue_11 : decode b_Model_popValue 11 = .ok (.getfield 100, 3) := by decide +kernel
theorem d_Model_popValue_14 : decode b_Model_popValue 14 = .ok (.aload_n 0, 1) := by decide +kernel
theorem d_Model_popValue_15 : decode b_Model_popValue 15 = .ok (.getfield 404, 3) := by decide +kernel
theorem d_Model_popValue_18 : decode b_Model_popValue 18 = .ok (.iaload, 1) := by decide +kernel
theorem d_Model_popValue_19 : decode b_Model_popValue 19 = .ok (.ireturn, 1) := by decide +kernel
def tModel_popValue (σ : St) : Option (Int32 × St) := gd (inB ((σ.1 49) - 1) 400) (some (((σ.2.2.1 43) ((σ.1 49) - 1).toNatClampNeg), (sI σ 49 ((σ.1 49) - 1))))
set_option maxHeartbeats 4000000 in
set_option maxRecDepth 100000 in
theorem ct_Model_popValue (l : Launch) (dC : Nat → ClassId) (dI : Nat → Nat → Nat) (ad : Nat → Nat) (cA : Nat → ClassId) (sz : Nat) {σ : St} {r : Int32} {σ' : St} (hF : tModel_popValue σ = some (r, σ')) : MI l y_Model_popValue b_Model_popValue 1 (some .int) { frames := 0, cells := 0, slots := 0, locals := 0 } (dC, dI) (ttys cA) ad (tcw ad cA) [.ref (ad 11)] σ sz r σ' := by
  refine startM (own := "TinyForgeModel") (Qc := fun A => QI (dC, dI) (ttys cA) (tcw ad cA) A r σ') rfl rfl (Nat.le_of_ble_eq_true rfl) ?_
  intro p e s m below meth c A H locs ls X hP hD hS hl
  have hl : lv_has ls 1 [(0, .ref (ad 11))] := hl
  obtain ⟨hx, hb, hr, hml, hown, hlocks, hts, hA, hK, hZ⟩ := id X
  unfold tModel_popValue at hF
  refine lv_aload_n hx hb d_Model_popValue_0 rfl (lv_at hl 0 rfl) ?_
  refine lv_dup hx hb d_Model_popValue_1 rfl ?_
  refine va_get (D := (dC, dI)) (ci := 11) (v := .int (σ.1 49)) hx hb hts i_Model hown hK hP 11 rfl rfl 45 (by decide) (hts _ w_4548f44b3d) (fun _ h9 => h9) rfl d_Model_popValue_2 ?_
  refine lv_iconst (v := 1) hx hb d_Model_popValue_5 (by decide) ?_
  refine lv_isub hx hb d_Model_popValue_6 ?_
  refine va_put (D := (dC, dI)) (ci := 11) (v := .int ((σ.1 49) - 1)) (ty := .int) hx hb hts i_Model t_Model t_Model_ok n_Model hown hK hP hD hS 11 rfl rfl 45 (by decide) (hts _ w_4548f44b3d) (fun _ h9 => h9) rfl (by decide +kernel) rfl rfl (Nat.le_of_ble_eq_true rfl) d_Model_popValue_7 (fun H locs hP hD hS => ?_)
  have hP : va_P (dC, dI) vwCl (tcw ad cA (sI σ 49 ((σ.1 49) - 1))) H := hP
  have hD : va_D A (tcw ad cA (sI σ 49 ((σ.1 49) - 1))) := hD
  refine lv_aload_n hx hb d_Model_popValue_10 rfl (lv_at hl 0 rfl) ?_
  refine va_get (D := (dC, dI)) (ci := 11) (v := .ref (ad 58)) hx hb hts i_Model hown hK hP 11 rfl rfl 56 (by decide) (hts _ w_4a342e2c2d) (fun _ h9 => h9) rfl d_Model_popValue_11 ?_
  refine lv_aload_n hx hb d_Model_popValue_14 rfl (lv_at hl 0 rfl) ?_
  refine va_get (D := (dC, dI)) (ci := 11) (v := .int ((σ.1 49) - 1)) hx hb hts i_Model hown hK hP 11 rfl rfl 45 (by decide) (hts _ w_4548f44b3d) (fun _ h9 => h9) rfl d_Model_popValue_15 ?_
  obtain ⟨g_1, hF⟩ := gdE hF
  refine va_iald (f := (σ.2.2.1 43)) hx hb hK hP 58 0 rfl rfl (inE g_1) d_Model_popValue_18 ?_
  cases hF
  exact leafI X hP hD hS d_Model_popValue_19
theorem d_Model_elementValue_0 : decode b_Model_elementValue 0 = .ok (.aload_n 0, 1) := by decide +kernel
theorem d_Model_elementValue_1 : decode b_Model_elementValue 1 = .ok (.invokevirtual 421, 3) := by decide +kernel
theorem d_Model_elementValue_4 : decode b_Model_elementValue 4 = .ok (.istore_n 2, 1) := by decide +kernel
theorem d_Model_elementValue_5 : decode b_Model_elementValue 5 = .ok (.aload_n 0, 1) := by decide +kernel
theorem d_Model_elementValue_6 : decode b_Model_elementValue 6 = .ok (.iload_n 1, 1) := by decide +kernel
theorem d_Model_elementValue_7 : decode b_Model_elementValue 7 = .ok (.iload_n 2, 1) := by decide +kernel
theorem d_Model_elementValue_8 : decode b_Model_elementValue 8 = .ok (.invokevirtual 430, 3) := by decide +kernel
theorem d_Model_elementValue_11 : decode b_Model_elementValue 11 = .ok (.ifCond .eq 28, 3) := by decide +kernel
theorem d_Model_elementValue_14 : decode b_Model_elementValue 14 = .ok (.aload_n 0, 1) := by decide +kernel
theorem d_Model_elementValue_15 : decode b_Model_elementValue 15 = .ok (.aload_n 0, 1) := by decide +kernel
theorem d_Model_elementValue_16 : decode b_Model_elementValue 16 = .ok (.getfield 88, 3) := by decide +kernel
theorem d_Model_elementValue_19 : decode b_Model_elementValue 19 = .ok (.aload_n 0, 1) := by decide +kernel
theorem d_Model_elementValue_20 : decode b_Model_elementValue 20 = .ok (.getfield 61, 3) := by decide +kernel
theorem d_Model_elementValue_23 : decode b_Model_elementValue 23 = .ok (.aload_n 0, 1) := by decide +kernel
theorem d_Model_elementValue_24 : decode b_Model_elementValue 24 = .ok (.getfield 42, 3) := by decide +kernel
theorem d_Model_elementValue_27 : decode b_Model_elementValue 27 = .ok (.iload_n 1, 1) := by decide +kernel
theorem d_Model_elementValue_28 : decode b_Model_elementValue 28 = .ok (.iaload, 1) := by decide +kernel
theorem d_Model_elementValue_29 : decode b_Model_elementValue 29 = .ok (.iaload, 1) := by decide +kernel
theorem d_Model_elementValue_30 : decode b_Model_elementValue 30 = .ok (.iload_n 2, 1) := by decide +kernel
theorem d_Model_elementValue_31 : decode b_Model_elementValue 31 = .ok (.iadd, 1) := by decide +kernel
theorem d_Model_elementValue_32 : decode b_Model_elementValue 32 = .ok (.iaload, 1) := by decide +kernel
theorem d_Model_elementValue_33 : decode b_Model_elementValue 33 = .ok (.invokevirtual 427, 3) := by decide +kernel
theorem d_Model_elementValue_36 : decode b_Model_elementValue 36 = .ok (.goto 8, 3) := by decide +kernel
theorem d_Model_elementValue_39 : decode b_Model_elementValue 39 = .ok (.aload_n 0, 1) := by decide +kernel
theorem d_Model_elementValue_40 : decode b_Model_elementValue 40 = .ok (.iconst 1, 1) := by decide +kernel
theorem d_Model_elementValue_41 : decode b_Model_elementValue 41 = .ok (.putfield 407, 3) := by decide +kernel
theorem d_Model_elementValue_44 : decode b_Model_elementValue 44 = .ok (.return_, 1) := by decide +kernel
def tModel_elementValue (σ : St) (a1 : Int32) : Option (St) := b2 (tModel_popValue σ) (fun r1 u1 => b1 (tModel_isIn u1 a1 r1) (fun r2 => if r2 = 0 then some (sI u1 52 1) else gd (inB a1 500) (gd (inB ((u1.2.2.1 24) a1.toNatClampNeg) 60) (gd (inB (((u1.2.2.1 30) ((u1.2.2.1 24) a1.toNatClampNeg).toNatClampNeg) + r1) 960) (b1 (tModel_hand u1 ((u1.2.2.1 39) (((u1.2.2.1 30) ((u1.2.2.1 24) a1.toNatClampNeg).toNatClampNeg) + r1).toNatClampNeg)) (fun u7 => some u7))))))
set_option maxHeartbeats 4000000 in
set_option maxRecDepth 100000 in
theorem ct_Model_elementValue (l : Launch) (dC : Nat → ClassId) (dI : Nat → Nat → Nat) (ad : Nat → Nat) (cA : Nat → ClassId) (sz : Nat) {σ : St} {a1 : Int32} {σ' : St} (hF : tModel_elementValue σ a1 = some σ') : MV l y_Model_elementValue b_Model_elementValue 3 none { frames := 1, cells := 0, slots := 0, locals := 22 } (dC, dI) (ttys cA) ad (tcw ad cA) [.ref (ad 11), .int a1] σ sz σ' := by
  refine startM (own := "TinyForgeModel") (Qc := fun A => QV (dC, dI) (ttys cA) (tcw ad cA) A σ') rfl rfl (Nat.le_of_ble_eq_true rfl) ?_
  intro p e s m below meth c A H locs ls X hP hD hS hl
  have hl : lv_has ls 3 [(0, .ref (ad 11)), (1, .int a1)] := hl
  obtain ⟨hx, hb, hr, hml, hown, hlocks, hts, hA, hK, hZ⟩ := id X
  unfold tModel_elementValue at hF
  refine lv_aload_n hx hb d_Model_elementValue_0 rfl (lv_at hl 0 rfl) ?_
  obtain ⟨r1, u1, h1, hF⟩ := b2E hF
  refine callVI (As := []) X (ct_Model_popValue l dC dI ad cA H.size h1) lk_Model_421 ⟨rfl, rfl, by decide, by decide⟩ 11 rfl rfl hP hD hS hl.1 rfl rfl (Nat.le_of_ble_eq_true rfl) d_Model_elementValue_1 (fun H locs hP hD hS => ?_)
  refine lv_istore_n (lv' := [(2, .int r1), (0, .ref (ad 11)), (1, .int a1)]) hx hb d_Model_elementValue_4 rfl hl (by decide) rfl (fun ls hl => ?_)
  refine lv_aload_n hx hb d_Model_elementValue_5 rfl (lv_at hl 1 rfl) ?_
  refine lv_iload_n hx hb d_Model_elementValue_6 rfl (lv_at hl 2 rfl) ?_
  refine lv_iload_n hx hb d_Model_elementValue_7 rfl (lv_at hl 0 rfl) ?_
  obtain ⟨r2, h2, hF⟩ := b1E hF
  refine callVI (As := [.int a1, .int r1]) X (ct_Model_isIn l dC dI ad cA H.size h2) lk_Model_430 ⟨rfl, rfl, by decide, by decide⟩ 11 rfl rfl hP hD hS hl.1 rfl rfl (Nat.le_of_ble_eq_true rfl) d_Model_elementValue_8 (fun H locs hP hD hS => ?_)
  refine lv_if_eq (tgt := 39) hx hb d_Model_elementValue_11 (by decide) (fun c_3 => ?_) (fun c_3 => ?_)
  · have hF := ifp hF c_3
    refine lv_aload_n hx hb d_Model_elementValue_39 rfl (lv_at hl 1 rfl) ?_
    refine lv_iconst (v := 1) hx hb d_Model_elementValue_40 (by decide) ?_
    refine va_put (D := (dC, dI)) (ci := 11) (v := .int 1) (ty := .int) hx hb hts i_Model t_Model t_Model_ok n_Model hown hK hP hD hS 11 rfl rfl 48 (by decide) (hts _ w_b82ca3c944) (fun _ h9 => h9) rfl (by decide +kernel) rfl rfl (Nat.le_of_ble_eq_true rfl) d_Model_elementValue_41 (fun H locs hP hD hS => ?_)
    have hP : va_P (dC, dI) vwCl (tcw ad cA (sI u1 52 1)) H := hP
    have hD : va_D A (tcw ad cA (sI u1 52 1)) := hD
    cases hF
    exact leafV X hP hD hS d_Model_elementValue_44
  · have hF := ifn hF c_3
    refine lv_aload_n hx hb d_Model_elementValue_14 rfl (lv_at hl 1 rfl) ?_
    refine lv_aload_n hx hb d_Model_elementValue_15 rfl (lv_at hl 1 rfl) ?_
    refine va_get (D := (dC, dI)) (ci := 11) (v := .ref (ad 54)) hx hb hts i_Model hown hK hP 11 rfl rfl 52 (by decide) (hts _ w_639930e084) (fun _ h9 => h9) rfl d_Model_elementValue_16 ?_
    refine lv_aload_n hx hb d_Model_elementValue_19 rfl (lv_at hl 1 rfl) ?_
    refine va_get (D := (dC, dI)) (ci := 11) (v := .ref (ad 45)) hx hb hts i_Model hown hK hP 11 rfl rfl 27 (by decide) (hts _ w_04aab809f2) (fun _ h9 => h9) rfl d_Model_elementValue_20 ?_
    refine lv_aload_n hx hb d_Model_elementValue_23 rfl (lv_at hl 1 rfl) ?_
    refine va_get (D := (dC, dI)) (ci := 11) (v := .ref (ad 39)) hx hb hts i_Model hown hK hP 11 rfl rfl 18 (by decide) (hts _ w_7d7d4091fc) (fun _ h9 => h9) rfl d_Model_elementValue_24 ?_
    refine lv_iload_n hx hb d_Model_elementValue_27 rfl (lv_at hl 2 rfl) ?_
    obtain ⟨g_4, hF⟩ := gdE hF
    refine va_iald (f := (u1.2.2.1 24)) hx hb hK hP 39 0 rfl rfl (inE g_4) d_Model_elementValue_28 ?_
    obtain ⟨g_5, hF⟩ := gdE hF
    refine va_iald (f := (u1.2.2.1 30)) hx hb hK hP 45 0 rfl rfl (inE g_5) d_Model_elementValue_29 ?_
    refine lv_iload_n hx hb d_Model_elementValue_30 rfl (lv_at hl 0 rfl) ?_
    refine lv_iadd hx hb d_Model_elementValue_31 ?_
    obtain ⟨g_6, hF⟩ := gdE hF
    refine va_iald (f := (u1.2.2.1 39)) hx hb hK hP 54 0 rfl rfl (inE g_6) d_Model_elementValue_32 ?_
    obtain ⟨u7, h7, hF⟩ := b1E hF
    refine callVV (As := [.int ((u1.2.2.1 39) (((u1.2.2.1 30) ((u1.2.2.1 24) a1.toNatClampNeg).toNatClampNeg) + r1).toNatClampNeg)]) X (ct_Model_hand l dC dI ad cA H.size h7) lk_Model_427 ⟨rfl, rfl, by decide, by decide⟩ 11 rfl rfl hP hD hS hl.1 rfl rfl (Nat.le_of_ble_eq_true rfl) d_Model_elementValue_33 (fun H locs hP hD hS => ?_)
    refine lv_goto (tgt := 44) hx hb d_Model_elementValue_36 (by decide) ?_
    cases hF
    exact leafV X hP hD hS d_Model_elementValue_44
theorem d_Model_bit_0 : decode b_Model_bit 0 = .ok (.iload_n 0, 1) := by decide +kernel
theorem d_Model_bit_1 : decode b_Model_bit 1 = .ok (.ifCond .eq 7, 3) := by decide +kernel
theorem d_Model_bit_4 : decode b_Model_bit 4 = .ok (.iconst 1, 1) := by decide +kernel
theorem d_Model_bit_5 : decode b_Model_bit 5 = .ok (.goto 4, 3) := by decide +kernel
theorem d_Model_bit_8 : decode b_Model_bit 8 = .ok (.iconst 0, 1) := by decide +kernel
theorem d_Model_bit_9 : decode b_Model_bit 9 = .ok (.ireturn, 1) := by decide +kernel
def tModel_bit (σ : St) (a1 : Int32) : Option (Int32) := if a1 = 0 then some 0 else some 1
set_option maxHeartbeats 4000000 in
set_option maxRecDepth 100000 in
theorem ct_Model_bit (l : Launch) (dC : Nat → ClassId) (dI : Nat → Nat → Nat) (ad : Nat → Nat) (cA : Nat → ClassId) (sz : Nat) {σ : St} {a1 : Int32} {r : Int32} (hF : tModel_bit σ a1 = some r) : MI l y_Model_bit b_Model_bit 1 (some .int) { frames := 0, cells := 0, slots := 0, locals := 0 } (dC, dI) (ttys cA) ad (tcw ad cA) [.int a1] σ sz r σ := by
  refine startM (own := "TinyForgeModel") (Qc := fun A => QI (dC, dI) (ttys cA) (tcw ad cA) A r σ) rfl rfl (Nat.le_of_ble_eq_true rfl) ?_
  intro p e s m below meth c A H locs ls X hP hD hS hl
  have hl : lv_has ls 1 [(0, .int a1)] := hl
  obtain ⟨hx, hb, hr, hml, hown, hlocks, hts, hA, hK, hZ⟩ := id X
  unfold tModel_bit at hF
  refine lv_iload_n hx hb d_Model_bit_0 rfl (lv_at hl 0 rfl) ?_
  refine lv_if_eq (tgt := 8) hx hb d_Model_bit_1 (by decide) (fun c_1 => ?_) (fun c_1 => ?_)
  · have hF := ifp hF c_1
    refine lv_iconst (v := 0) hx hb d_Model_bit_8 (by decide) ?_
    cases hF
    exact leafI X hP hD hS d_Model_bit_9
  · have hF := ifn hF c_1
    refine lv_iconst (v := 1) hx hb d_Model_bit_4 (by decide) ?_
    refine lv_goto (tgt := 9) hx hb d_Model_bit_5 (by decide) ?_
    cases hF
    exact leafI X hP hD hS d_Model_bit_9
theorem d_Model_compared_0 : decode b_Model_compared 0 = .ok (.iload_n 0, 1) := by decide +kernel
theorem d_Model_compared_1 : decode b_Model_compared 1 = .ok (.bipush 61, 2) := by decide +kernel
theorem d_Model_compared_3 : decode b_Model_compared 3 = .ok (.if_icmp .ne 16, 3) := by decide +kernel
theorem d_Model_compared_6 : decode b_Model_compared 6 = .ok (.iload_n 1, 1) := by decide +kernel
theorem d_Model_compared_7 : decode b_Model_compared 7 = .ok (.iload_n 2, 1) := by decide +kernel
theorem d_Model_compared_8 : decode b_Model_compared 8 = .ok (.if_icmp .ne 7, 3) := by decide +kernel
theorem d_Model_compared_11 : decode b_Model_compared 11 = .ok (.iconst 1, 1) := by decide +kernel
theorem d_Model_compared_12 : decode b_Model_compared 12 = .ok (.goto 73, 3) := by decide +kernel
theorem d_Model_compared_15 : decode b_Model_compared 15 = .ok (.iconst 0, 1) := by decide +kernel
theorem d_Model_compared_16 : decode b_Model_compared 16 = .ok (.goto 69, 3) := by decide +kernel
theorem d_Model_compared_19 : decode b_Model_compared 19 = .ok (.iload_n 0, 1) := by decide +kernel
theorem d_Model_compared_20 : decode b_Model_compared 20 = .ok (.bipush 33, 2) := by decide +kernel
theorem d_Model_compared_22 : decode b_Model_compared 22 = .ok (.if_icmp .ne 16, 3) := by decide +kernel
theorem d_Model_compared_25 : decode b_Model_compared 25 = .ok (.iload_n 1, 1) := by decide +kernel
theorem d_Model_compared_26 : decode b_Model_compared 26 = .ok (.iload_n 2, 1) := by decide +kernel
theorem d_Model_compared_27 : decode b_Model_compared 27 = .ok (.if_icmp .eq 7, 3) := by decide +kernel
theorem d_Model_compared_30 : decode b_Model_compared 30 = .ok (.iconst 1, 1) := by decide +kernel
theorem d_Model_compared_31 : decode b_Model_compared 31 = .ok (.goto 54, 3) := by decide +kernel
theorem d_Model_compared_34 : decode b_Model_compared 34 = .ok (.iconst 0, 1) := by decide +kernel
theorem d_Model_compared_35 : decode b_Model_compared 35 = .ok (.goto 50, 3) := by decide +kernel
theorem d_Model_compared_38 : decode b_Model_compared 38 = .ok (.iload_n 0, 1) := by decide +kernel
theorem d_Model_compared_39 : decode b_Model_compared 39 = .ok (.bipush 60, 2) := by decide +kernel
theorem d_Model_compared_41 : decode b_Model_compared 41 = .ok (.if_icmp .ne 16, 3) := by decide +kernel
theorem d_Model_compared_44 : decode b_Model_compared 44 = .ok (.iload_n 1, 1) := by decide +kernel
theorem d_Model_compared_45 : decode b_Model_compared 45 = .ok (.iload_n 2, 1) := by decide +kernel
theorem d_Model_compared_46 : decode b_Model_compared 46 = .ok (.if_icmp .gt 7, 3) := by decide +kernel
theorem d_Model_compared_49 : decode b_Model_compared 49 = .ok (.iconst 1, 1) := by decide +kernel
theorem d_Model_compared_50 : decode b_Model_compared 50 = .ok (.goto 35, 3) := by decide +kernel
theorem d_Model_compared_53 : decode b_Model_compared 53 = .ok (.iconst 0, 1) := by decide +kernel
theorem d_Model_compared_54 : decode b_Model_compared 54 = .ok (.goto 31, 3) := by decide +kernel
theorem d_Model_compared_57 : decode b_Model_compared 57 = .ok (.iload_n 0, 1) := by decide +kernel
theorem d_Model_compared_58 : decode b_Model_compared 58 = .ok (.bipush 62, 2) := by decide +kernel
theorem d_Model_compared_60 : decode b_Model_compared 60 = .ok (.if_icmp .ne 16, 3) := by decide +kernel
theorem d_Model_compared_63 : decode b_Model_compared 63 = .ok (.iload_n 1, 1) := by decide +kernel
theorem d_Model_compared_64 : decode b_Model_compared 64 = .ok (.iload_n 2, 1) := by decide +kernel
theorem d_Model_compared_65 : decode b_Model_compared 65 = .ok (.if_icmp .lt 7, 3) := by decide +kernel
theorem d_Model_compared_68 : decode b_Model_compared 68 = .ok (.iconst 1, 1) := by decide +kernel
theorem d_Model_compared_69 : decode b_Model_compared 69 = .ok (.goto 16, 3) := by decide +kernel
theorem d_Model_compared_72 : decode b_Model_compared 72 = .ok (.iconst 0, 1) := by decide +kernel
theorem d_Model_compared_73 : decode b_Model_compared 73 = .ok (.goto 12, 3) := by decide +kernel
theorem d_Model_compared_76 : decode b_Model_compared 76 = .ok (.iload_n 2, 1) := by decide +kernel
theorem d_Model_compared_77 : decode b_Model_compared 77 = .ok (.ifCond .eq 7, 3) := by decide +kernel
theorem d_Model_compared_80 : decode b_Model_compared 80 = .ok (.iconst 1, 1) := by decide +kernel
theorem d_Model_compared_81 : decode b_Model_compared 81 = .ok (.goto 4, 3) := by decide +kernel
theorem d_Model_compared_84 : decode b_Model_compared 84 = .ok (.iconst 0, 1) := by decide +kernel
theorem d_Model_compared_85 : decode b_Model_compared 85 = .ok (.invokestatic 410, 3) := by decide +kernel
theorem d_Model_compared_88 : decode b_Model_compared 88 = .ok (.ireturn, 1) := by decide +kernel
def tModel_compared (σ : St) (a1 : Int32) (a2 : Int32) (a3 : Int32) : Option (Int32) := if a1 = 61 then if a2 = a3 then b1 (tModel_bit σ 1) (fun r19 => some r19) else b1 (tModel_bit σ 0) (fun r18 => some r18) else if a1 = 33 then if a2 = a3 then b1 (tModel_bit σ 0) (fun r15 => some r15) else b1 (tModel_bit σ 1) (fun r16 => some r16) else if a1 = 60 then if a3 < a2 then b1 (tModel_bit σ 0) (fun r12 => some r12) else b1 (tModel_bit σ 1) (fun r13 => some r13) else if a1 = 62 then if a2 < a3 then b1 (tModel_bit σ 0) (fun r9 => some r9) else b1 (tModel_bit σ 1) (fun r10 => some r10) else if a3 = 0 then b1 (tModel_bit σ 0) (fun r6 => some r6) else b1 (tModel_bit σ 1) (fun r7 => some r7)
set_option maxHeartbeats 4000000 in
set_option maxRecDepth 100000 in
theorem ct_Model_compared (l : Launch) (dC : Nat → ClassId) (dI : Nat → Nat → Nat) (ad : Nat → Nat) (cA : Nat → ClassId) (sz : Nat) {σ : St} {a1 : Int32} {a2 : Int32} {a3 : Int32} {r : Int32} (hF : tModel_compared σ a1 a2 a3 = some r) : MI l y_Model_compared b_Model_compared 3 (some .int) { frames := 1, cells := 0, slots := 0, locals := 20 } (dC, dI) (ttys cA) ad (tcw ad cA) [.int a1, .int a2, .int a3] σ sz r σ := by
  refine startM (own := "TinyForgeModel") (Qc := fun A => QI (dC, dI) (ttys cA) (tcw ad cA) A r σ) rfl rfl (Nat.le_of_ble_eq_true rfl) ?_
  intro p e s m below meth c A H locs ls X hP hD hS hl
  have hl : lv_has ls 3 [(0, .int a1), (1, .int a2), (2, .int a3)] := hl
  obtain ⟨hx, hb, hr, hml, hown, hlocks, hts, hA, hK, hZ⟩ := id X
  unfold tModel_compared at hF
  refine lv_iload_n hx hb d_Model_compared_0 rfl (lv_at hl 0 rfl) ?_
  refine lv_bipush (v := 61) hx hb d_Model_compared_1 (by decide) ?_
  refine lv_icmp_ne (tgt := 19) hx hb d_Model_compared_3 (by decide) (fun c_1 => ?_) (fun c_1 => ?_)
  · have hF := ifn hF c_1
    refine lv_iload_n hx hb d_Model_compared_19 rfl (lv_at hl 0 rfl) ?_
    refine lv_bipush (v := 33) hx hb d_Model_compared_20 (by decide) ?_
    refine lv_icmp_ne (tgt := 38) hx hb d_Model_compared_22 (by decide) (fun c_2 => ?_) (fun c_2 => ?_)
    · have hF := ifn hF c_2
      refine lv_iload_n hx hb d_Model_compared_38 rfl (lv_at hl 0 rfl) ?_
      refine lv_bipush (v := 60) hx hb d_Model_compared_39 (by decide) ?_
      refine lv_icmp_ne (tgt := 57) hx hb d_Model_compared_41 (by decide) (fun c_3 => ?_) (fun c_3 => ?_)
      · have hF := ifn hF c_3
        refine lv_iload_n hx hb d_Model_compared_57 rfl (lv_at hl 0 rfl) ?_
        refine lv_bipush (v := 62) hx hb d_Model_compared_58 (by decide) ?_
        refine lv_icmp_ne (tgt := 76) hx hb d_Model_compared_60 (by decide) (fun c_4 => ?_) (fun c_4 => ?_)
        · have hF := ifn hF c_4
          refine lv_iload_n hx hb d_Model_compared_76 rfl (lv_at hl 2 rfl) ?_
          refine lv_if_eq (tgt := 84) hx hb d_Model_compared_77 (by decide) (fun c_5 => ?_) (fun c_5 => ?_)
          · have hF := ifp hF c_5
            refine lv_iconst (v := 0) hx hb d_Model_compared_84 (by decide) ?_
            obtain ⟨r6, h6, hF⟩ := b1E hF
            refine callSI (As := [.int 0]) X (ct_Model_bit l dC dI ad cA H.size h6) lk_Model_410 ⟨rfl, rfl, by decide, by decide⟩ hP hD hS hl.1 rfl rfl (Nat.le_of_ble_eq_true rfl) d_Model_compared_85 (fun H locs hP hD hS => ?_)
            cases hF
            exact leafI X hP hD hS d_Model_compared_88
          · have hF := ifn hF c_5
            refine lv_iconst (v := 1) hx hb d_Model_compared_80 (by decide) ?_
            refine lv_goto (tgt := 85) hx hb d_Model_compared_81 (by decide) ?_
            obtain ⟨r7, h7, hF⟩ := b1E hF
            refine callSI (As := [.int 1]) X (ct_Model_bit l dC dI ad cA H.size h7) lk_Model_410 ⟨rfl, rfl, by decide, by decide⟩ hP hD hS hl.1 rfl rfl (Nat.le_of_ble_eq_true rfl) d_Model_compared_85 (fun H locs hP hD hS => ?_)
            cases hF
            exact leafI X hP hD hS d_Model_compared_88
        · have hF := ifp hF c_4
          refine lv_iload_n hx hb d_Model_compared_63 rfl (lv_at hl 1 rfl) ?_
          refine lv_iload_n hx hb d_Model_compared_64 rfl (lv_at hl 2 rfl) ?_
          refine lv_icmp_lt (tgt := 72) hx hb d_Model_compared_65 (by decide) (fun c_8 => ?_) (fun c_8 => ?_)
          · have hF := ifp hF c_8
            refine lv_iconst (v := 0) hx hb d_Model_compared_72 (by decide) ?_
            refine lv_goto (tgt := 85) hx hb d_Model_compared_73 (by decide) ?_
            obtain ⟨r9, h9, hF⟩ := b1E hF
            refine callSI (As := [.int 0]) X (ct_Model_bit l dC dI ad cA H.size h9) lk_Model_410 ⟨rfl, rfl, by decide, by decide⟩ hP hD hS hl.1 rfl rfl (Nat.le_of_ble_eq_true rfl) d_Model_compared_85 (fun H locs hP hD hS => ?_)
            cases hF
            exact leafI X hP hD hS d_Model_compared_88
          · have hF := ifn hF c_8
            refine lv_iconst (v := 1) hx hb d_Model_compared_68 (by decide) ?_
            refine lv_goto (tgt := 85) hx hb d_Model_compared_69 (by decide) ?_
            obtain ⟨r10, h10, hF⟩ := b1E hF
            refine callSI (As := [.int 1]) X (ct_Model_bit l dC dI ad cA H.size h10) lk_Model_410 ⟨rfl, rfl, by decide, by decide⟩ hP hD hS hl.1 rfl rfl (Nat.le_of_ble_eq_true rfl) d_Model_compared_85 (fun H locs hP hD hS => ?_)
            cases hF
            exact leafI X hP hD hS d_Model_compared_88
      · have hF := ifp hF c_3
        refine lv_iload_n hx hb d_Model_compared_44 rfl (lv_at hl 1 rfl) ?_
        refine lv_iload_n hx hb d_Model_compared_45 rfl (lv_at hl 2 rfl) ?_
        refine lv_icmp_gt (tgt := 53) hx hb d_Model_compared_46 (by decide) (fun c_11 => ?_) (fun c_11 => ?_)
        · have hF := ifp hF c_11
          refine lv_iconst (v := 0) hx hb d_Model_compared_53 (by decide) ?_
          refine lv_goto (tgt := 85) hx hb d_Model_compared_54 (by decide) ?_
          obtain ⟨r12, h12, hF⟩ := b1E hF
          refine callSI (As := [.int 0]) X (ct_Model_bit l dC dI ad cA H.size h12) lk_Model_410 ⟨rfl, rfl, by decide, by decide⟩ hP hD hS hl.1 rfl rfl (Nat.le_of_ble_eq_true rfl) d_Model_compared_85 (fun H locs hP hD hS => ?_)
          cases hF
          exact leafI X hP hD hS d_Model_compared_88
        · have hF := ifn hF c_11
          refine lv_iconst (v := 1) hx hb d_Model_compared_49 (by decide) ?_
          refine lv_goto (tgt := 85) hx hb d_Model_compared_50 (by decide) ?_
          obtain ⟨r13, h13, hF⟩ := b1E hF
          refine callSI (As := [.int 1]) X (ct_Model_bit l dC dI ad cA H.size h13) lk_Model_410 ⟨rfl, rfl, by decide, by decide⟩ hP hD hS hl.1 rfl rfl (Nat.le_of_ble_eq_true rfl) d_Model_compared_85 (fun H locs hP hD hS => ?_)
          cases hF
          exact leafI X hP hD hS d_Model_compared_88
    · have hF := ifp hF c_2
      refine lv_iload_n hx hb d_Model_compared_25 rfl (lv_at hl 1 rfl) ?_
      refine lv_iload_n hx hb d_Model_compared_26 rfl (lv_at hl 2 rfl) ?_
      refine lv_icmp_eq (tgt := 34) hx hb d_Model_compared_27 (by decide) (fun c_14 => ?_) (fun c_14 => ?_)
      · have hF := ifp hF c_14
        refine lv_iconst (v := 0) hx hb d_Model_compared_34 (by decide) ?_
        refine lv_goto (tgt := 85) hx hb d_Model_compared_35 (by decide) ?_
        obtain ⟨r15, h15, hF⟩ := b1E hF
        refine callSI (As := [.int 0]) X (ct_Model_bit l dC dI ad cA H.size h15) lk_Model_410 ⟨rfl, rfl, by decide, by decide⟩ hP hD hS hl.1 rfl rfl (Nat.le_of_ble_eq_true rfl) d_Model_compared_85 (fun H locs hP hD hS => ?_)
        cases hF
        exact leafI X hP hD hS d_Model_compared_88
      · have hF := ifn hF c_14
        refine lv_iconst (v := 1) hx hb d_Model_compared_30 (by decide) ?_
        refine lv_goto (tgt := 85) hx hb d_Model_compared_31 (by decide) ?_
        obtain ⟨r16, h16, hF⟩ := b1E hF
        refine callSI (As := [.int 1]) X (ct_Model_bit l dC dI ad cA H.size h16) lk_Model_410 ⟨rfl, rfl, by decide, by decide⟩ hP hD hS hl.1 rfl rfl (Nat.le_of_ble_eq_true rfl) d_Model_compared_85 (fun H locs hP hD hS => ?_)
        cases hF
        exact leafI X hP hD hS d_Model_compared_88
  · have hF := ifp hF c_1
    refine lv_iload_n hx hb d_Model_compared_6 rfl (lv_at hl 1 rfl) ?_
    refine lv_iload_n hx hb d_Model_compared_7 rfl (lv_at hl 2 rfl) ?_
    refine lv_icmp_ne (tgt := 15) hx hb d_Model_compared_8 (by decide) (fun c_17 => ?_) (fun c_17 => ?_)
    · have hF := ifn hF c_17
      refine lv_iconst (v := 0) hx hb d_Model_compared_15 (by decide) ?_
      refine lv_goto (tgt := 85) hx hb d_Model_compared_16 (by decide) ?_
      obtain ⟨r18, h18, hF⟩ := b1E hF
      refine callSI (As := [.int 0]) X (ct_Model_bit l dC dI ad cA H.size h18) lk_Model_410 ⟨rfl, rfl, by decide, by decide⟩ hP hD hS hl.1 rfl rfl (Nat.le_of_ble_eq_true rfl) d_Model_compared_85 (fun H locs hP hD hS => ?_)
      cases hF
      exact leafI X hP hD hS d_Model_compared_88
    · have hF := ifp hF c_17
      refine lv_iconst (v := 1) hx hb d_Model_compared_11 (by decide) ?_
      refine lv_goto (tgt := 85) hx hb d_Model_compared_12 (by decide) ?_
      obtain ⟨r19, h19, hF⟩ := b1E hF
      refine callSI (As := [.int 1]) X (ct_Model_bit l dC dI ad cA H.size h19) lk_Model_410 ⟨rfl, rfl, by decide, by decide⟩ hP hD hS hl.1 rfl rfl (Nat.le_of_ble_eq_true rfl) d_Model_compared_85 (fun H locs hP hD hS => ?_)
      cases hF
      exact leafI X hP hD hS d_Model_compared_88
theorem d_Model_combined_0 : decode b_Model_combined 0 = .ok (.iload_n 0, 1) := by decide +kernel
theorem d_Model_combined_1 : decode b_Model_combined 1 = .ok (.lookupswitch 131 #[(37, 91), (42, 75), (43, 67), (45, 71), (47, 79), (60, 103), (62, 117)], 67) := by decide +kernel
theorem d_Model_combined_68 : decode b_Model_combined 68 = .ok (.iload_n 1, 1) := by decide +kernel
theorem d_Model_combined_69 : decode b_Model_combined 69 = .ok (.iload_n 2, 1) := by decide +kernel
theorem d_Model_combined_70 : decode b_Model_combined 70 = .ok (.iadd, 1) := by decide +kernel
theorem d_Model_combined_71 : decode b_Model_combined 71 = .ok (.ireturn, 1) := by decide +kernel
theorem d_Model_combined_72 : decode b_Model_combined 72 = .ok (.iload_n 1, 1) := by decide +kernel
theorem d_Model_combined_73 : decode b_Model_combined 73 = .ok (.iload_n 2, 1) := by decide +kernel
theorem d_Model_combined_74 : decode b_Model_combined 74 = .ok (.isub, 1) := by decide +kernel
theorem d_Model_combined_75 : decode b_Model_combined 75 = .ok (.ireturn, 1) := by decide +kernel
theorem d_Model_combined_76 : decode b_Model_combined 76 = .ok (.iload_n 1, 1) := by decide +kernel
theorem d_Model_combined_77 : decode b_Model_combined 77 = .ok (.iload_n 2, 1) := by decide +kernel
theorem d_Model_combined_78 : decode b_Model_combined 78 = .ok (.imul, 1) := by decide +kernel
theorem d_Model_combined_79 : decode b_Model_combined 79 = .ok (.ireturn, 1) := by decide +kernel
theorem d_Model_combined_80 : decode b_Model_combined 80 = .ok (.iload_n 2, 1) := by decide +kernel
theorem d_Model_combined_81 : decode b_Model_combined 81 = .ok (.ifCond .ne 7, 3) := by decide +kernel
theorem d_Model_combined_84 : decode b_Model_combined 84 = .ok (.iconst (-1), 1) := by decide +kernel
theorem d_Model_combined_85 : decode b_Model_combined 85 = .ok (.goto 6, 3) := by decide +kernel
theorem d_Model_combined_88 : decode b_Model_combined 88 = .ok (.iload_n 1, 1) := by decide +kernel
theorem d_Model_combined_89 : decode b_Model_combined 89 = .ok (.iload_n 2, 1) := by decide +kernel
theorem d_Model_combined_90 : decode b_Model_combined 90 = .ok (.idiv, 1) := by decide +kernel
theorem d_Model_combined_91 : decode b_Model_combined 91 = .ok (.ireturn, 1) := by decide +kernel
theorem d_Model_combined_92 : decode b_Model_combined 92 = .ok (.iload_n 2, 1) := by decide +kernel
theorem d_Model_combined_93 : decode b_Model_combined 93 = .ok (.ifCond .ne 7, 3) := by decide +kernel
theorem d_Model_combined_96 : decode b_Model_combined 96 = .ok (.iload_n 1, 1) := by decide +kernel
theorem d_Model_combined_97 : decode b_Model_combined 97 = .ok (.goto 6, 3) := by decide +kernel
theorem d_Model_combined_100 : decode b_Model_combined 100 = .ok (.iload_n 1, 1) := by decide +kernel
theorem d_Model_combined_101 : decode b_Model_combined 101 = .ok (.iload_n 2, 1) := by decide +kernel
theorem d_Model_combined_102 : decode b_Model_combined 102 = .ok (.irem, 1) := by decide +kernel
theorem d_Model_combined_103 : decode b_Model_combined 103 = .ok (.ireturn, 1) := by decide +kernel
theorem d_Model_combined_104 : decode b_Model_combined 104 = .ok (.iload_n 1, 1) := by decide +kernel
theorem d_Model_combined_105 : decode b_Model_combined 105 = .ok (.iload_n 2, 1) := by decide +kernel
theorem d_Model_combined_106 : decode b_Model_combined 106 = .ok (.if_icmp .ge 7, 3) := by decide +kernel
theorem d_Model_combined_109 : decode b_Model_combined 109 = .ok (.iconst 1, 1) := by decide +kernel
theorem d_Model_combined_110 : decode b_Model_combined 110 = .ok (.goto 4, 3) := by decide +kernel
theorem d_Model_combined_113 : decode b_Model_combined 113 = .ok (.iconst 0, 1) := by decide +kernel
theorem d_Model_combined_114 : decode b_Model_combined 114 = .ok (.invokestatic 410, 3) := by decide +kernel
theorem d_Model_combined_117 : decode b_Model_combined 117 = .ok (.ireturn, 1) := by decide +kernel
theorem d_Model_combined_118 : decode b_Model_combined 118 = .ok (.iload_n 1, 1) := by decide +kernel
theorem d_Model_combined_119 : decode b_Model_combined 119 = .ok (.iload_n 2, 1) := by decide +kernel
theorem d_Model_combined_120 : decode b_Model_combined 120 = .ok (.if_icmp .le 7, 3) := by decide +kernel
theorem d_Model_combined_123 : decode b_Model_combined 123 = .ok (.iconst 1, 1) := by decide +kernel
theorem d_Model_combined_124 : decode b_Model_combined 124 = .ok (.goto 4, 3) := by decide +kernel
theorem d_Model_combined_127 : decode b_Model_combined 127 = .ok (.iconst 0, 1) := by decide +kernel
theorem d_Model_combined_128 : decode b_Model_combined 128 = .ok (.invokestatic 410, 3) := by decide +kernel
theorem d_Model_combined_131 : decode b_Model_combined 131 = .ok (.ireturn, 1) := by decide +kernel
theorem d_Model_combined_132 : decode b_Model_combined 132 = .ok (.iload_n 0, 1) := by decide +kernel
theorem d_Model_combined_133 : decode b_Model_combined 133 = .ok (.sipush 256, 3) := by decide +kernel
theorem d_Model_combined_136 : decode b_Model_combined 136 = .ok (.isub, 1) := by decide +kernel
theorem d_Model_combined_137 : decode b_Model_combined 137 = .ok (.iload_n 1, 1) := by decide +kernel
theorem d_Model_combined_138 : decode b_Model_combined 138 = .ok (.iload_n 2, 1) := by decide +kernel
theorem d_Model_combined_139 : decode b_Model_combined 139 = .ok (.invokestatic 414, 3) := by decide +kernel
theorem d_Model_combined_142 : decode b_Model_combined 142 = .ok (.ireturn, 1) := by decide +kernel
def tModel_combined (σ : St) (a1 : Int32) (a2 : Int32) (a3 : Int32) : Option (Int32) := if a1 = 37 then if a3 = 0 then some a2 else gd (nz0 a3) (some (a2 - a2 / a3 * a3)) else if a1 = 42 then some (a2 * a3) else if a1 = 43 then some (a2 + a3) else if a1 = 45 then some (a2 - a3) else if a1 = 47 then if a3 = 0 then some (-1) else gd (nz0 a3) (some (a2 / a3)) else if a1 = 60 then if a3 ≤ a2 then b1 (tModel_bit σ 0) (fun r12 => some r12) else b1 (tModel_bit σ 1) (fun r13 => some r13) else if a1 = 62 then if a2 ≤ a3 then b1 (tModel_bit σ 0) (fun r16 => some r16) else b1 (tModel_bit σ 1) (fun r17 => some r17) else b1 (tModel_compared σ (a1 - 256) a2 a3) (fun r18 => some r18)
set_option maxHeartbeats 4000000 in
set_option maxRecDepth 100000 in
theorem ct_Model_combined (l : Launch) (dC : Nat → ClassId) (dI : Nat → Nat → Nat) (ad : Nat → Nat) (cA : Nat → ClassId) (sz : Nat) {σ : St} {a1 : Int32} {a2 : Int32} {a3 : Int32} {r : Int32} (hF : tModel_combined σ a1 a2 a3 = some r) : MI l y_Model_combined b_Model_combined 3 (some .int) { frames := 2, cells := 0, slots := 0, locals := 42 } (dC, dI) (ttys cA) ad (tcw ad cA) [.int a1, .int a2, .int a3] σ sz r σ := by
  refine startM (own := "TinyForgeModel") (Qc := fun A => QI (dC, dI) (ttys cA) (tcw ad cA) A r σ) rfl rfl (Nat.le_of_ble_eq_true rfl) ?_
  intro p e s m below meth c A H locs ls X hP hD hS hl
  have hl : lv_has ls 3 [(0, .int a1), (1, .int a2), (2, .int a3)] := hl
  obtain ⟨hx, hb, hr, hml, hown, hlocks, hts, hA, hK, hZ⟩ := id X
  unfold tModel_combined at hF
  refine lv_iload_n hx hb d_Model_combined_0 rfl (lv_at hl 0 rfl) ?_
  by_cases c_1 : a1 = 37
  · have hF := ifp hF c_1
    refine lv_lookup (tgt := 92) (off := 91) hx hb d_Model_combined_1 (by decide) (by rw [c_1]; rfl) (by decide) ?_
    refine lv_iload_n hx hb d_Model_combined_92 rfl (lv_at hl 2 rfl) ?_
    refine lv_if_ne (tgt := 100) hx hb d_Model_combined_93 (by decide) (fun c_2 => ?_) (fun c_2 => ?_)
    · have hF := ifn hF c_2
      refine lv_iload_n hx hb d_Model_combined_100 rfl (lv_at hl 1 rfl) ?_
      refine lv_iload_n hx hb d_Model_combined_101 rfl (lv_at hl 2 rfl) ?_
      obtain ⟨g_3, hF⟩ := gdE hF
      refine lv_irem hx hb d_Model_combined_102 (nz0E g_3) ?_
      cases hF
      exact leafI X hP hD hS d_Model_combined_103
    · have hF := ifp hF c_2
      refine lv_iload_n hx hb d_Model_combined_96 rfl (lv_at hl 1 rfl) ?_
      refine lv_goto (tgt := 103) hx hb d_Model_combined_97 (by decide) ?_
      cases hF
      exact leafI X hP hD hS d_Model_combined_103
  · have hF := ifn hF c_1
    by_cases c_4 : a1 = 42
    · have hF := ifp hF c_4
      refine lv_lookup (tgt := 76) (off := 75) hx hb d_Model_combined_1 (by decide) (by rw [c_4]; rfl) (by decide) ?_
      refine lv_iload_n hx hb d_Model_combined_76 rfl (lv_at hl 1 rfl) ?_
      refine lv_iload_n hx hb d_Model_combined_77 rfl (lv_at hl 2 rfl) ?_
      refine lv_imul hx hb d_Model_combined_78 ?_
      cases hF
      exact leafI X hP hD hS d_Model_combined_79
    · have hF := ifn hF c_4
      by_cases c_5 : a1 = 43
      · have hF := ifp hF c_5
        refine lv_lookup (tgt := 68) (off := 67) hx hb d_Model_combined_1 (by decide) (by rw [c_5]; rfl) (by decide) ?_
        refine lv_iload_n hx hb d_Model_combined_68 rfl (lv_at hl 1 rfl) ?_
        refine lv_iload_n hx hb d_Model_combined_69 rfl (lv_at hl 2 rfl) ?_
        refine lv_iadd hx hb d_Model_combined_70 ?_
        cases hF
        exact leafI X hP hD hS d_Model_combined_71
      · have hF := ifn hF c_5
        by_cases c_6 : a1 = 45
        · have hF := ifp hF c_6
          refine lv_lookup (tgt := 72) (off := 71) hx hb d_Model_combined_1 (by decide) (by rw [c_6]; rfl) (by decide) ?_
          refine lv_iload_n hx hb d_Model_combined_72 rfl (lv_at hl 1 rfl) ?_
          refine lv_iload_n hx hb d_Model_combined_73 rfl (lv_at hl 2 rfl) ?_
          refine lv_isub hx hb d_Model_combined_74 ?_
          cases hF
          exact leafI X hP hD hS d_Model_combined_75
        · have hF := ifn hF c_6
          by_cases c_7 : a1 = 47
          · have hF := ifp hF c_7
            refine lv_lookup (tgt := 80) (off := 79) hx hb d_Model_combined_1 (by decide) (by rw [c_7]; rfl) (by decide) ?_
            refine lv_iload_n hx hb d_Model_combined_80 rfl (lv_at hl 2 rfl) ?_
            refine lv_if_ne (tgt := 88) hx hb d_Model_combined_81 (by decide) (fun c_8 => ?_) (fun c_8 => ?_)
            · have hF := ifn hF c_8
              refine lv_iload_n hx hb d_Model_combined_88 rfl (lv_at hl 1 rfl) ?_
              refine lv_iload_n hx hb d_Model_combined_89 rfl (lv_at hl 2 rfl) ?_
              obtain ⟨g_9, hF⟩ := gdE hF
              refine lv_idiv hx hb d_Model_combined_90 (nz0E g_9) ?_
              cases hF
              exact leafI X hP hD hS d_Model_combined_91
            · have hF := ifp hF c_8
              refine lv_iconst (v := (-1)) hx hb d_Model_combined_84 (by decide) ?_
              refine lv_goto (tgt := 91) hx hb d_Model_combined_85 (by decide) ?_
              cases hF
              exact leafI X hP hD hS d_Model_combined_91
          · have hF := ifn hF c_7
            by_cases c_10 : a1 = 60
            · have hF := ifp hF c_10
              refine lv_lookup (tgt := 104) (off := 103) hx hb d_Model_combined_1 (by decide) (by rw [c_10]; rfl) (by decide) ?_
              refine lv_iload_n hx hb d_Model_combined_104 rfl (lv_at hl 1 rfl) ?_
              refine lv_iload_n hx hb d_Model_combined_105 rfl (lv_at hl 2 rfl) ?_
              refine lv_icmp_ge (tgt := 113) hx hb d_Model_combined_106 (by decide) (fun c_11 => ?_) (fun c_11 => ?_)
              · have hF := ifp hF c_11
                refine lv_iconst (v := 0) hx hb d_Model_combined_113 (by decide) ?_
                obtain ⟨r12, h12, hF⟩ := b1E hF
                refine callSI (As := [.int 0]) X (ct_Model_bit l dC dI ad cA H.size h12) lk_Model_410 ⟨rfl, rfl, by decide, by decide⟩ hP hD hS hl.1 rfl rfl (Nat.le_of_ble_eq_true rfl) d_Model_combined_114 (fun H locs hP hD hS => ?_)
                cases hF
                exact leafI X hP hD hS d_Model_combined_117
              · have hF := ifn hF c_11
                refine lv_iconst (v := 1) hx hb d_Model_combined_109 (by decide) ?_
                refine lv_goto (tgt := 114) hx hb d_Model_combined_110 (by decide) ?_
                obtain ⟨r13, h13, hF⟩ := b1E hF
                refine callSI (As := [.int 1]) X (ct_Model_bit l dC dI ad cA H.size h13) lk_Model_410 ⟨rfl, rfl, by decide, by decide⟩ hP hD hS hl.1 rfl rfl (Nat.le_of_ble_eq_true rfl) d_Model_combined_114 (fun H locs hP hD hS => ?_)
                cases hF
                exact leafI X hP hD hS d_Model_combined_117
            · have hF := ifn hF c_10
              by_cases c_14 : a1 = 62
              · have hF := ifp hF c_14
                refine lv_lookup (tgt := 118) (off := 117) hx hb d_Model_combined_1 (by decide) (by rw [c_14]; rfl) (by decide) ?_
                refine lv_iload_n hx hb d_Model_combined_118 rfl (lv_at hl 1 rfl) ?_
                refine lv_iload_n hx hb d_Model_combined_119 rfl (lv_at hl 2 rfl) ?_
                refine lv_icmp_le (tgt := 127) hx hb d_Model_combined_120 (by decide) (fun c_15 => ?_) (fun c_15 => ?_)
                · have hF := ifp hF c_15
                  refine lv_iconst (v := 0) hx hb d_Model_combined_127 (by decide) ?_
                  obtain ⟨r16, h16, hF⟩ := b1E hF
                  refine callSI (As := [.int 0]) X (ct_Model_bit l dC dI ad cA H.size h16) lk_Model_410 ⟨rfl, rfl, by decide, by decide⟩ hP hD hS hl.1 rfl rfl (Nat.le_of_ble_eq_true rfl) d_Model_combined_128 (fun H locs hP hD hS => ?_)
                  cases hF
                  exact leafI X hP hD hS d_Model_combined_131
                · have hF := ifn hF c_15
                  refine lv_iconst (v := 1) hx hb d_Model_combined_123 (by decide) ?_
                  refine lv_goto (tgt := 128) hx hb d_Model_combined_124 (by decide) ?_
                  obtain ⟨r17, h17, hF⟩ := b1E hF
                  refine callSI (As := [.int 1]) X (ct_Model_bit l dC dI ad cA H.size h17) lk_Model_410 ⟨rfl, rfl, by decide, by decide⟩ hP hD hS hl.1 rfl rfl (Nat.le_of_ble_eq_true rfl) d_Model_combined_128 (fun H locs hP hD hS => ?_)
                  cases hF
                  exact leafI X hP hD hS d_Model_combined_131
              · have hF := ifn hF c_14
                refine lv_lookup (tgt := 132) (off := 131) hx hb d_Model_combined_1 (by decide) (by show Op.lookupswitch.offset [(37, 91), (42, 75), (43, 67), (45, 71), (47, 79), (60, 103), (62, 117)] 131 _ = _; rw [lv_osw (a := 37) c_1 (by decide), lv_osw (a := 42) c_4 (by decide), lv_osw (a := 43) c_5 (by decide), lv_osw (a := 45) c_6 (by decide), lv_osw (a := 47) c_7 (by decide), lv_osw (a := 60) c_10 (by decide), lv_osw (a := 62) c_14 (by decide)]; rfl) (by decide) ?_
                refine lv_iload_n hx hb d_Model_combined_132 rfl (lv_at hl 0 rfl) ?_
                refine lv_sipush (v := 256) hx hb d_Model_combined_133 (by decide) ?_
                refine lv_isub hx hb d_Model_combined_136 ?_
                refine lv_iload_n hx hb d_Model_combined_137 rfl (lv_at hl 1 rfl) ?_
                refine lv_iload_n hx hb d_Model_combined_138 rfl (lv_at hl 2 rfl) ?_
                obtain ⟨r18, h18, hF⟩ := b1E hF
                refine callSI (As := [.int (a1 - 256), .int a2, .int a3]) X (ct_Model_compared l dC dI ad cA H.size h18) lk_Model_414 ⟨rfl, rfl, by decide, by decide⟩ hP hD hS hl.1 rfl rfl (Nat.le_of_ble_eq_true rfl) d_Model_combined_139 (fun H locs hP hD hS => ?_)
                cases hF
                exact leafI X hP hD hS d_Model_combined_142
theorem d_Model_start_0 : decode b_Model_start 0 = .ok (.aload_n 0, 1) := by decide +kernel
theorem d_Model_start_1 : decode b_Model_start 1 = .ok (.getfield 94, 3) := by decide +kernel
theorem d_Model_start_4 : decode b_Model_start 4 = .ok (.aload_n 0, 1) := by decide +kernel
theorem d_Model_start_5 : decode b_Model_start 5 = .ok (.getfield 401, 3) := by decide +kernel
theorem d_Model_start_8 : decode b_Model_start 8 = .ok (.iload_n 1, 1) := by decide +kernel
theorem d_Model_start_9 : decode b_Model_start 9 = .ok (.iastore, 1) := by decide +kernel
theorem d_Model_start_10 : decode b_Model_start 10 = .ok (.aload_n 0, 1) := by decide +kernel
theorem d_Model_start_11 : decode b_Model_start 11 = .ok (.getfield 97, 3) := by decide +kernel
theorem d_Model_start_14 : decode b_Model_start 14 = .ok (.aload_n 0, 1) := by decide +kernel
theorem d_Model_start_15 : decode b_Model_start 15 = .ok (.getfield 401, 3) := by decide +kernel
theorem d_Model_start_18 : decode b_Model_start 18 = .ok (.iconst 0, 1) := by decide +kernel
theorem d_Model_start_19 : decode b_Model_start 19 = .ok (.iastore, 1) := by decide +kernel
theorem d_Model_start_20 : decode b_Model_start 20 = .ok (.aload_n 0, 1) := by decide +kernel
theorem d_Model_start_21 : decode b_Model_start 21 = .ok (.dup, 1) := by decide +kernel
theorem d_Model_start_22 : decode b_Model_start 22 = .ok (.getfield 401, 3) := by decide +kernel
theorem d_Model_start_25 : decode b_Model_start 25 = .ok (.iconst 1, 1) := by decide +kernel
theorem d_Model_start_26 : decode b_Model_start 26 = .ok (.iadd, 1) := by decide +kernel
theorem d_Model_start_27 : decode b_Model_start 27 = .ok (.putfield 401, 3) := by decide +kernel
theorem d_Model_start_30 : decode b_Model_start 30 = .ok (.return_, 1) := by decide +kernel
def tModel_start (σ : St) (a1 : Int32) : Option (St) := gd (inB (σ.1 48) 1600) (gd (inB (σ.1 48) 1600) (some (sI (sA (sA σ 41 (upd (σ.2.2.1 41) (σ.1 48).toNatClampNeg a1)) 42 (upd (σ.2.2.1 42) (σ.1 48).toNatClampNeg 0)) 48 ((σ.1 48) + 1))))
set_option maxHeartbeats 4000000 in
set_option maxRecDepth 100000 in
theorem ct_Model_start (l : Launch) (dC : Nat → ClassId) (dI : Nat → Nat → Nat) (ad : Nat → Nat) (cA : Nat → ClassId) (sz : Nat) {σ : St} {a1 : Int32} {σ' : St} (hF : tModel_start σ a1 = some σ') : MV l y_Model_start b_Model_start 2 none { frames := 0, cells := 0, slots := 0, locals := 0 } (dC, dI) (ttys cA) ad (tcw ad cA) [.ref (ad 11), .int a1] σ sz σ' := by
  refine startM (own := "TinyForgeModel") (Qc := fun A => QV (dC, dI) (ttys cA) (tcw ad cA) A σ') rfl rfl (Nat.le_of_ble_eq_true rfl) ?_
  intro p e s m below meth c A H locs ls X hP hD hS hl
  have hl : lv_has ls 2 [(0, .ref (ad 11)), (1, .int a1)] := hl
  obtain ⟨hx, hb, hr, hml, hown, hlocks, hts, hA, hK, hZ⟩ := id X
  unfold tModel_start at hF
  refine lv_aload_n hx hb d_Model_start_0 rfl (lv_at hl 0 rfl) ?_
  refine va_get (D := (dC, dI)) (ci := 11) (v := .ref (ad 56)) hx hb hts i_Model hown hK hP 11 rfl rfl 54 (by decide) (hts _ w_9e90833517) (fun _ h9 => h9) rfl d_Model_start_1 ?_
  refine lv_aload_n hx hb d_Model_start_4 rfl (lv_at hl 0 rfl) ?_
  refine va_get (D := (dC, dI)) (ci := 11) (v := .int (σ.1 48)) hx hb hts i_Model hown hK hP 11 rfl rfl 44 (by decide) (hts _ w_0f4138ce03) (fun _ h9 => h9) rfl d_Model_start_5 ?_
  refine lv_iload_n hx hb d_Model_start_8 rfl (lv_at hl 1 rfl) ?_
  obtain ⟨g_1, hF⟩ := gdE hF
  refine va_iast (f := (σ.2.2.1 41)) hx hb hK hP hD hS 56 0 rfl rfl (inE g_1) d_Model_start_9 (fun H locs hP hD hS => ?_)
  have hP : va_P (dC, dI) vwCl (tcw ad cA (sA σ 41 (upd (σ.2.2.1 41) (σ.1 48).toNatClampNeg a1))) H := hP
  have hD : va_D A (tcw ad cA (sA σ 41 (upd (σ.2.2.1 41) (σ.1 48).toNatClampNeg a1))) := hD
  refine lv_aload_n hx hb d_Model_start_10 rfl (lv_at hl 0 rfl) ?_
  refine va_get (D := (dC, dI)) (ci := 11) (v := .ref (ad 57)) hx hb hts i_Model hown hK hP 11 rfl rfl 55 (by decide) (hts _ w_1fb9835bec) (fun _ h9 => h9) rfl d_Model_start_11 ?_
  refine lv_aload_n hx hb d_Model_start_14 rfl (lv_at hl 0 rfl) ?_
  refine va_get (D := (dC, dI)) (ci := 11) (v := .int (σ.1 48)) hx hb hts i_Model hown hK hP 11 rfl rfl 44 (by decide) (hts _ w_0f4138ce03) (fun _ h9 => h9) rfl d_Model_start_15 ?_
  refine lv_iconst (v := 0) hx hb d_Model_start_18 (by decide) ?_
  obtain ⟨g_2, hF⟩ := gdE hF
  refine va_iast (f := (σ.2.2.1 42)) hx hb hK hP hD hS 57 0 rfl rfl (inE g_2) d_Model_start_19 (fun H locs hP hD hS => ?_)
  have hP : va_P (dC, dI) vwCl (tcw ad cA (sA (sA σ 41 (upd (σ.2.2.1 41) (σ.1 48).toNatClampNeg a1)) 42 (upd (σ.2.2.1 42) (σ.1 48).toNatClampNeg 0))) H := hP
  have hD : va_D A (tcw ad cA (sA (sA σ 41 (upd (σ.2.2.1 41) (σ.1 48).toNatClampNeg a1)) 42 (upd (σ.2.2.1 42) (σ.1 48).toNatClampNeg 0))) := hD
  refine lv_aload_n hx hb d_Model_start_20 rfl (lv_at hl 0 rfl) ?_
  refine lv_dup hx hb d_Model_start_21 rfl ?_
  refine va_get (D := (dC, dI)) (ci := 11) (v := .int (σ.1 48)) hx hb hts i_Model hown hK hP 11 rfl rfl 44 (by decide) (hts _ w_0f4138ce03) (fun _ h9 => h9) rfl d_Model_start_22 ?_
  refine lv_iconst (v := 1) hx hb d_Model_start_25 (by decide) ?_
  refine lv_iadd hx hb d_Model_start_26 ?_
  refine va_put (D := (dC, dI)) (ci := 11) (v := .int ((σ.1 48) + 1)) (ty := .int) hx hb hts i_Model t_Model t_Model_ok n_Model hown hK hP hD hS 11 rfl rfl 44 (by decide) (hts _ w_0f4138ce03) (fun _ h9 => h9) rfl (by decide +kernel) rfl rfl (Nat.le_of_ble_eq_true rfl) d_Model_start_27 (fun H locs hP hD hS => ?_)
  have hP : va_P (dC, dI) vwCl (tcw ad cA (sI (sA (sA σ 41 (upd (σ.2.2.1 41) (σ.1 48).toNatClampNeg a1)) 42 (upd (σ.2.2.1 42) (σ.1 48).toNatClampNeg 0)) 48 ((σ.1 48) + 1))) H := hP
  have hD : va_D A (tcw ad cA (sI (sA (sA σ 41 (upd (σ.2.2.1 41) (σ.1 48).toNatClampNeg a1)) 42 (upd (σ.2.2.1 42) (σ.1 48).toNatClampNeg 0)) 48 ((σ.1 48) + 1))) := hD
  cases hF
  exact leafV X hP hD hS d_Model_start_30
theorem d_Model_pair_0 : decode b_Model_pair 0 = .ok (.aload_n 0, 1) := by decide +kernel
theorem d_Model_pair_1 : decode b_Model_pair 1 = .ok (.getfield 33, 3) := by decide +kernel
theorem d_Model_pair_4 : decode b_Model_pair 4 = .ok (.iload_n 1, 1) := by decide +kernel
theorem d_Model_pair_5 : decode b_Model_pair 5 = .ok (.iaload, 1) := by decide +kernel
theorem d_Model_pair_6 : decode b_Model_pair 6 = .ok (.sipush 256, 3) := by decide +kernel
theorem d_Model_pair_9 : decode b_Model_pair 9 = .ok (.isub, 1) := by decide +kernel
theorem d_Model_pair_10 : decode b_Model_pair 10 = .ok (.istore_n 3, 1) := by decide +kernel
theorem d_Model_pair_11 : decode b_Model_pair 11 = .ok (.aload_n 0, 1) := by decide +kernel
theorem d_Model_pair_12 : decode b_Model_pair 12 = .ok (.getfield 100, 3) := by decide +kernel
theorem d_Model_pair_15 : decode b_Model_pair 15 = .ok (.aload_n 0, 1) := by decide +kernel
theorem d_Model_pair_16 : decode b_Model_pair 16 = .ok (.getfield 404, 3) := by decide +kernel
theorem d_Model_pair_19 : decode b_Model_pair 19 = .ok (.iconst 1, 1) := by decide +kernel
theorem d_Model_pair_20 : decode b_Model_pair 20 = .ok (.isub, 1) := by decide +kernel
theorem d_Model_pair_21 : decode b_Model_pair 21 = .ok (.iaload, 1) := by decide +kernel
theorem d_Model_pair_22 : decode b_Model_pair 22 = .ok (.istore 4, 2) := by decide +kernel
theorem d_Model_pair_24 : decode b_Model_pair 24 = .ok (.iload_n 2, 1) := by decide +kernel
theorem d_Model_pair_25 : decode b_Model_pair 25 = .ok (.iconst 1, 1) := by decide +kernel
theorem d_Model_pair_26 : decode b_Model_pair 26 = .ok (.if_icmp .ne 36, 3) := by decide +kernel
theorem d_Model_pair_29 : decode b_Model_pair 29 = .ok (.iload_n 3, 1) := by decide +kernel
theorem d_Model_pair_30 : decode b_Model_pair 30 = .ok (.bipush 38, 2) := by decide +kernel
theorem d_Model_pair_32 : decode b_Model_pair 32 = .ok (.if_icmp .ne 8, 3) := by decide +kernel
theorem d_Model_pair_35 : decode b_Model_pair 35 = .ok (.iload 4, 2) := by decide +kernel
theorem d_Model_pair_37 : decode b_Model_pair 37 = .ok (.ifCond .eq 25, 3) := by decide +kernel
theorem d_Model_pair_40 : decode b_Model_pair 40 = .ok (.iload_n 3, 1) := by decide +kernel
theorem d_Model_pair_41 : decode b_Model_pair 41 = .ok (.bipush 124, 2) := by decide +kernel
theorem d_Model_pair_43 : decode b_Model_pair 43 = .ok (.if_icmp .ne 8, 3) := by decide +kernel
theorem d_Model_pair_46 : decode b_Model_pair 46 = .ok (.iload 4, 2) := by decide +kernel
theorem d_Model_pair_48 : decode b_Model_pair 48 = .ok (.ifCond .ne 14, 3) := by decide +kernel
theorem d_Model_pair_51 : decode b_Model_pair 51 = .ok (.aload_n 0, 1) := by decide +kernel
theorem d_Model_pair_52 : decode b_Model_pair 52 = .ok (.aload_n 0, 1) := by decide +kernel
theorem d_Model_pair_53 : decode b_Model_pair 53 = .ok (.getfield 39, 3) := by decide +kernel
theorem d_Model_pair_56 : decode b_Model_pair 56 = .ok (.iload_n 1, 1) := by decide +kernel
theorem d_Model_pair_57 : decode b_Model_pair 57 = .ok (.iaload, 1) := by decide +kernel
theorem d_Model_pair_58 : decode b_Model_pair 58 = .ok (.invokevirtual 418, 3) := by decide +kernel
theorem d_Model_pair_61 : decode b_Model_pair 61 = .ok (.return_, 1) := by decide +kernel
theorem d_Model_pair_62 : decode b_Model_pair 62 = .ok (.aload_n 0, 1) := by decide +kernel
theorem d_Model_pair_63 : decode b_Model_pair 63 = .ok (.invokevirtual 421, 3) := by decide +kernel
theorem d_Model_pair_66 : decode b_Model_pair 66 = .ok (.istore 5, 2) := by decide +kernel
theorem d_Model_pair_68 : decode b_Model_pair 68 = .ok (.aload_n 0, 1) := by decide +kernel
theorem d_Model_pair_69 : decode b_Model_pair 69 = .ok (.iload_n 2, 1) := by decide +kernel
theorem d_Model_pair_70 : decode b_Model_pair 70 = .ok (.iconst 1, 1) := by decide +kernel
theorem d_Model_pair_71 : decode b_Model_pair 71 = .ok (.if_icmp .ne 19, 3) := by decide +kernel
theorem d_Model_pair_74 : decode b_Model_pair 74 = .ok (.iload 5, 2) := by decide +kernel
theorem d_Model_pair_76 : decode b_Model_pair 76 = .ok (.ifCond .eq 7, 3) := by decide +kernel
theorem d_Model_pair_79 : decode b_Model_pair 79 = .ok (.iconst 1, 1) := by decide +kernel
theorem d_Model_pair_80 : decode b_Model_pair 80 = .ok (.goto 4, 3) := by decide +kernel
theorem d_Model_pair_83 : decode b_Model_pair 83 = .ok (.iconst 0, 1) := by decide +kernel
theorem d_Model_pair_84 : decode b_Model_pair 84 = .ok (.invokestatic 410, 3) := by decide +kernel
theorem d_Model_pair_87 : decode b_Model_pair 87 = .ok (.goto 18, 3) := by decide +kernel
theorem d_Model_pair_90 : decode b_Model_pair 90 = .ok (.aload_n 0, 1) := by decide +kernel
theorem d_Model_pair_91 : decode b_Model_pair 91 = .ok (.getfield 33, 3) := by decide +kernel
theorem d_Model_pair_94 : decode b_Model_pair 94 = .ok (.iload_n 1, 1) := by decide +kernel
theorem d_Model_pair_95 : decode b_Model_pair 95 = .ok (.iaload, 1) := by decide +kernel
theorem d_Model_pair_96 : decode b_Model_pair 96 = .ok (.aload_n 0, 1) := by decide +kernel
theorem d_Model_pair_97 : decode b_Model_pair 97 = .ok (.invokevirtual 421, 3) := by decide +kernel
theorem d_Model_pair_100 : decode b_Model_pair 100 = .ok (.iload 5, 2) := by decide +kernel
theorem d_Model_pair_102 : decode b_Model_pair 102 = .ok (.invokestatic 424, 3) := by decide +kernel
theorem d_Model_pair_105 : decode b_Model_pair 105 = .ok (.invokevirtual 427, 3) := by decide +kernel
theorem d_Model_pair_108 : decode b_Model_pair 108 = .ok (.return_, 1) := by decide +kernel
def tModel_pair_b1 (k : Nat → St → Int32 → Int32 → Int32 → Int32 → Option (St)) (σ : St) (x1 : Int32) (x2 : Int32) (x3 : Int32) (x4 : Int32) : Option (St) := if x3 = 124 then if x4 = 0 then gd (inB x1 500) (b1 (tModel_start σ ((σ.2.2.1 23) x1.toNatClampNeg)) (fun u22 => some u22)) else k 2 σ x1 x2 0 0 else gd (inB x1 500) (b1 (tModel_start σ ((σ.2.2.1 23) x1.toNatClampNeg)) (fun u19 => some u19))
def tModel_pair_b2 (k : Nat → St → Int32 → Int32 → Int32 → Int32 → Option (St)) (σ : St) (x1 : Int32) (x2 : Int32) (x3 : Int32) (x4 : Int32) : Option (St) := b2 (tModel_popValue σ) (fun r6 u6 => if x2 = 1 then if r6 = 0 then b1 (tModel_bit u6 0) (fun r13 => b1 (tModel_hand u6 r13) (fun u14 => some u14)) else b1 (tModel_bit u6 1) (fun r15 => b1 (tModel_hand u6 r15) (fun u16 => some u16)) else gd (inB x1 500) (b2 (tModel_popValue u6) (fun r9 u9 => b1 (tModel_combined u9 ((u6.2.2.1 21) x1.toNatClampNeg) r9 r6) (fun r10 => b1 (tModel_hand u9 r10) (fun u11 => some u11)))))
def tModel_pair_L : Nat → Nat → St → Int32 → Int32 → Int32 → Int32 → Option (St)
  | 0, _, _, _, _, _, _ => none
  | n + 1, lab, σ, x1, x2, x3, x4 => match lab with
    | 1 => tModel_pair_b1 (tModel_pair_L n) σ x1 x2 x3 x4
    | 2 => tModel_pair_b2 (tModel_pair_L n) σ x1 x2 x3 x4
    | _ => none
def tModel_pair (σ : St) (a1 : Int32) (a2 : Int32) : Option (St) := gd (inB a1 500) (gd (inB ((σ.1 49) - 1) 400) (if a2 = 1 then if (((σ.2.2.1 21) a1.toNatClampNeg) - 256) = 38 then if ((σ.2.2.1 43) ((σ.1 49) - 1).toNatClampNeg) = 0 then tModel_pair_L 2000 2 σ a1 a2 0 0 else tModel_pair_L 2000 1 σ a1 a2 (((σ.2.2.1 21) a1.toNatClampNeg) - 256) ((σ.2.2.1 43) ((σ.1 49) - 1).toNatClampNeg) else tModel_pair_L 2000 1 σ a1 a2 (((σ.2.2.1 21) a1.toNatClampNeg) - 256) ((σ.2.2.1 43) ((σ.1 49) - 1).toNatClampNeg) else tModel_pair_L 2000 2 σ a1 a2 0 0))
set_option maxHeartbeats 4000000 in
set_option maxRecDepth 100000 in
theorem tModel_pair_blk {p : Program} {e : Env} {s : State} {m : MethodId} {args : Array Value} {below : List Frame} {meth : Method} {c : Code} {A : Nat → Prop} (l : Launch) (dC : Nat → ClassId) (dI : Nat → Nat → Nat) (ad : Nat → Nat) (cA : Nat → ClassId) {σ' : St} (X : Cx p s m args meth c b_Model_pair 6 none "TinyForgeModel" (dC, dI) (ttys cA) ad A) : ∀ n : Nat, (∀ (σ : St) (x1 : Int32) (x2 : Int32) (x3 : Int32) (x4 : Int32) (H : Heap) (locs : List Loc) (ls : Array Slot), tModel_pair_L n 1 σ x1 x2 x3 x4 = some σ' → va_P (dC, dI) vwCl (tcw ad cA σ) H → va_D A (tcw ad cA σ) → va_S A s.heap H locs → lv_has ls 6 [(0, .ref (ad 11)), (1, .int x1), (2, .int x2), (3, .int x3), (4, .int x4)] → W p l e { frames := 3, cells := 0, slots := 0, locals := 64 } s m args below meth c H locs 0 0 (MQ below (QV (dC, dI) (ttys cA) (tcw ad cA) A σ') args s 0 0 A) (F0 m 40 ls [])) ∧ (∀ (σ : St) (x1 : Int32) (x2 : Int32) (x3 : Int32) (x4 : Int32) (H : Heap) (locs : List Loc) (ls : Array Slot), tModel_pair_L n 2 σ x1 x2 x3 x4 = some σ' → va_P (dC, dI) vwCl (tcw ad cA σ) H → va_D A (tcw ad cA σ) → va_S A s.heap H locs → lv_has ls 6 [(0, .ref (ad 11)), (1, .int x1), (2, .int x2)] → W p l e { frames := 3, cells := 0, slots := 0, locals := 64 } s m args below meth c H locs 0 0 (MQ below (QV (dC, dI) (ttys cA) (tcw ad cA) A σ') args s 0 0 A) (F0 m 62 ls [])) := by
  obtain ⟨hx, hb, hr, hml, hown, hlocks, hts, hA, hK, hZ⟩ := id X
  intro n
  induction n with
  | zero => exact ⟨(fun σ x1 x2 x3 x4 H locs ls hF => by cases hF), (fun σ x1 x2 x3 x4 H locs ls hF => by cases hF)⟩
  | succ n ihn =>
    refine ⟨fun σ x1 x2 x3 x4 H locs ls hF hP hD hS hl => ?_, fun σ x1 x2 x3 x4 H locs ls hF hP hD hS hl => ?_⟩
    · have hF : tModel_pair_b1 (tModel_pair_L n) σ x1 x2 x3 x4 = some σ' := hF
      unfold tModel_pair_b1 at hF
      refine lv_iload_n hx hb d_Model_pair_40 rfl (lv_at hl 3 rfl) ?_
      refine lv_bipush (v := 124) hx hb d_Model_pair_41 (by decide) ?_
      refine lv_icmp_ne (tgt := 51) hx hb d_Model_pair_43 (by decide) (fun c_17 => ?_) (fun c_17 => ?_)
      · have hF := ifn hF c_17
        refine lv_aload_n hx hb d_Model_pair_51 rfl (lv_at hl 0 rfl) ?_
        refine lv_aload_n hx hb d_Model_pair_52 rfl (lv_at hl 0 rfl) ?_
        refine va_get (D := (dC, dI)) (ci := 11) (v := .ref (ad 38)) hx hb hts i_Model hown hK hP 11 rfl rfl 17 (by decide) (hts _ w_d96db777d5) (fun _ h9 => h9) rfl d_Model_pair_53 ?_
        refine lv_iload_n hx hb d_Model_pair_56 rfl (lv_at hl 1 rfl) ?_
        obtain ⟨g_18, hF⟩ := gdE hF
        refine va_iald (f := (σ.2.2.1 23)) hx hb hK hP 38 0 rfl rfl (inE g_18) d_Model_pair_57 ?_
        obtain ⟨u19, h19, hF⟩ := b1E hF
        refine callVV (As := [.int ((σ.2.2.1 23) x1.toNatClampNeg)]) X (ct_Model_start l dC dI ad cA H.size h19) lk_Model_418 ⟨rfl, rfl, by decide, by decide⟩ 11 rfl rfl hP hD hS hl.1 rfl rfl (Nat.le_of_ble_eq_true rfl) d_Model_pair_58 (fun H locs hP hD hS => ?_)
        cases hF
        exact leafV X hP hD hS d_Model_pair_61
      · have hF := ifp hF c_17
        refine lv_iload hx hb d_Model_pair_46 (lv_at hl 4 rfl) ?_
        refine lv_if_ne (tgt := 62) hx hb d_Model_pair_48 (by decide) (fun c_20 => ?_) (fun c_20 => ?_)
        · have hF := ifn hF c_20
          exact ihn.2 σ x1 x2 0 0 H locs ls hF hP hD hS (lv_sub hl [0, 1, 2] rfl)
        · have hF := ifp hF c_20
          refine lv_aload_n hx hb d_Model_pair_51 rfl (lv_at hl 0 rfl) ?_
          refine lv_aload_n hx hb d_Model_pair_52 rfl (lv_at hl 0 rfl) ?_
          refine va_get (D := (dC, dI)) (ci := 11) (v := .ref (ad 38)) hx hb hts i_Model hown hK hP 11 rfl rfl 17 (by decide) (hts _ w_d96db777d5) (fun _ h9 => h9) rfl d_Model_pair_53 ?_
          refine lv_iload_n hx hb d_Model_pair_56 rfl (lv_at hl 1 rfl) ?_
          obtain ⟨g_21, hF⟩ := gdE hF
          refine va_iald (f := (σ.2.2.1 23)) hx hb hK hP 38 0 rfl rfl (inE g_21) d_Model_pair_57 ?_
          obtain ⟨u22, h22, hF⟩ := b1E hF
          refine callVV (As := [.int ((σ.2.2.1 23) x1.toNatClampNeg)]) X (ct_Model_start l dC dI ad cA H.size h22) lk_Model_418 ⟨rfl, rfl, by decide, by decide⟩ 11 rfl rfl hP hD hS hl.1 rfl rfl (Nat.le_of_ble_eq_true rfl) d_Model_pair_58 (fun H locs hP hD hS => ?_)
          cases hF
          exact leafV X hP hD hS d_Model_pair_61
    · have hF : tModel_pair_b2 (tModel_pair_L n) σ x1 x2 x3 x4 = some σ' := hF
      unfold tModel_pair_b2 at hF
      refine lv_aload_n hx hb d_Model_pair_62 rfl (lv_at hl 0 rfl) ?_
      obtain ⟨r6, u6, h6, hF⟩ := b2E hF
      refine callVI (As := []) X (ct_Model_popValue l dC dI ad cA H.size h6) lk_Model_421 ⟨rfl, rfl, by decide, by decide⟩ 11 rfl rfl hP hD hS hl.1 rfl rfl (Nat.le_of_ble_eq_true rfl) d_Model_pair_63 (fun H locs hP hD hS => ?_)
      refine lv_istore (lv' := [(5, .int r6), (0, .ref (ad 11)), (1, .int x1), (2, .int x2)]) hx hb d_Model_pair_66 hl (by decide) rfl (fun ls hl => ?_)
      refine lv_aload_n hx hb d_Model_pair_68 rfl (lv_at hl 1 rfl) ?_
      refine lv_iload_n hx hb d_Model_pair_69 rfl (lv_at hl 3 rfl) ?_
      refine lv_iconst (v := 1) hx hb d_Model_pair_70 (by decide) ?_
      refine lv_icmp_ne (tgt := 90) hx hb d_Model_pair_71 (by decide) (fun c_7 => ?_) (fun c_7 => ?_)
      · have hF := ifn hF c_7
        refine lv_aload_n hx hb d_Model_pair_90 rfl (lv_at hl 1 rfl) ?_
        refine va_get (D := (dC, dI)) (ci := 11) (v := .ref (ad 36)) hx hb hts i_Model hown hK hP 11 rfl rfl 15 (by decide) (hts _ w_70f5434828) (fun _ h9 => h9) rfl d_Model_pair_91 ?_
        refine lv_iload_n hx hb d_Model_pair_94 rfl (lv_at hl 2 rfl) ?_
        obtain ⟨g_8, hF⟩ := gdE hF
        refine va_iald (f := (u6.2.2.1 21)) hx hb hK hP 36 0 rfl rfl (inE g_8) d_Model_pair_95 ?_
        refine lv_aload_n hx hb d_Model_pair_96 rfl (lv_at hl 1 rfl) ?_
        obtain ⟨r9, u9, h9, hF⟩ := b2E hF
        refine callVI (As := []) X (ct_Model_popValue l dC dI ad cA H.size h9) lk_Model_421 ⟨rfl, rfl, by decide, by decide⟩ 11 rfl rfl hP hD hS hl.1 rfl rfl (Nat.le_of_ble_eq_true rfl) d_Model_pair_97 (fun H locs hP hD hS => ?_)
        refine lv_iload hx hb d_Model_pair_100 (lv_at hl 0 rfl) ?_
        obtain ⟨r10, h10, hF⟩ := b1E hF
        refine callSI (As := [.int ((u6.2.2.1 21) x1.toNatClampNeg), .int r9, .int r6]) X (ct_Model_combined l dC dI ad cA H.size h10) lk_Model_424 ⟨rfl, rfl, by decide, by decide⟩ hP hD hS hl.1 rfl rfl (Nat.le_of_ble_eq_true rfl) d_Model_pair_102 (fun H locs hP hD hS => ?_)
        obtain ⟨u11, h11, hF⟩ := b1E hF
        refine callVV (As := [.int r10]) X (ct_Model_hand l dC dI ad cA H.size h11) lk_Model_427 ⟨rfl, rfl, by decide, by decide⟩ 11 rfl rfl hP hD hS hl.1 rfl rfl (Nat.le_of_ble_eq_true rfl) d_Model_pair_105 (fun H locs hP hD hS => ?_)
        cases hF
        exact leafV X hP hD hS d_Model_pair_108
      · have hF := ifp hF c_7
        refine lv_iload hx hb d_Model_pair_74 (lv_at hl 0 rfl) ?_
        refine lv_if_eq (tgt := 83) hx hb d_Model_pair_76 (by decide) (fun c_12 => ?_) (fun c_12 => ?_)
        · have hF := ifp hF c_12
          refine lv_iconst (v := 0) hx hb d_Model_pair_83 (by decide) ?_
          obtain ⟨r13, h13, hF⟩ := b1E hF
          refine callSI (As := [.int 0]) X (ct_Model_bit l dC dI ad cA H.size h13) lk_Model_410 ⟨rfl, rfl, by decide, by decide⟩ hP hD hS hl.1 rfl rfl (Nat.le_of_ble_eq_true rfl) d_Model_pair_84 (fun H locs hP hD hS => ?_)
          refine lv_goto (tgt := 105) hx hb d_Model_pair_87 (by decide) ?_
          obtain ⟨u14, h14, hF⟩ := b1E hF
          refine callVV (As := [.int r13]) X (ct_Model_hand l dC dI ad cA H.size h14) lk_Model_427 ⟨rfl, rfl, by decide, by decide⟩ 11 rfl rfl hP hD hS hl.1 rfl rfl (Nat.le_of_ble_eq_true rfl) d_Model_pair_105 (fun H locs hP hD hS => ?_)
          cases hF
          exact leafV X hP hD hS d_Model_pair_108
        · have hF := ifn hF c_12
          refine lv_iconst (v := 1) hx hb d_Model_pair_79 (by decide) ?_
          refine lv_goto (tgt := 84) hx hb d_Model_pair_80 (by decide) ?_
          obtain ⟨r15, h15, hF⟩ := b1E hF
          refine callSI (As := [.int 1]) X (ct_Model_bit l dC dI ad cA H.size h15) lk_Model_410 ⟨rfl, rfl, by decide, by decide⟩ hP hD hS hl.1 rfl rfl (Nat.le_of_ble_eq_true rfl) d_Model_pair_84 (fun H locs hP hD hS => ?_)
          refine lv_goto (tgt := 105) hx hb d_Model_pair_87 (by decide) ?_
          obtain ⟨u16, h16, hF⟩ := b1E hF
          refine callVV (As := [.int r15]) X (ct_Model_hand l dC dI ad cA H.size h16) lk_Model_427 ⟨rfl, rfl, by decide, by decide⟩ 11 rfl rfl hP hD hS hl.1 rfl rfl (Nat.le_of_ble_eq_true rfl) d_Model_pair_105 (fun H locs hP hD hS => ?_)
          cases hF
          exact leafV X hP hD hS d_Model_pair_108
set_option maxHeartbeats 4000000 in
set_option maxRecDepth 100000 in
theorem ct_Model_pair (l : Launch) (dC : Nat → ClassId) (dI : Nat → Nat → Nat) (ad : Nat → Nat) (cA : Nat → ClassId) (sz : Nat) {σ : St} {a1 : Int32} {a2 : Int32} {σ' : St} (hF : tModel_pair σ a1 a2 = some σ') : MV l y_Model_pair b_Model_pair 6 none { frames := 3, cells := 0, slots := 0, locals := 64 } (dC, dI) (ttys cA) ad (tcw ad cA) [.ref (ad 11), .int a1, .int a2] σ sz σ' := by
  refine startM (own := "TinyForgeModel") (Qc := fun A => QV (dC, dI) (ttys cA) (tcw ad cA) A σ') rfl rfl (Nat.le_of_ble_eq_true rfl) ?_
  intro p e s m below meth c A H locs ls X hP hD hS hl
  have hl : lv_has ls 6 [(0, .ref (ad 11)), (1, .int a1), (2, .int a2)] := hl
  obtain ⟨hx, hb, hr, hml, hown, hlocks, hts, hA, hK, hZ⟩ := id X
  unfold tModel_pair at hF
  refine lv_aload_n hx hb d_Model_pair_0 rfl (lv_at hl 0 rfl) ?_
  refine va_get (D := (dC, dI)) (ci := 11) (v := .ref (ad 36)) hx hb hts i_Model hown hK hP 11 rfl rfl 15 (by decide) (hts _ w_70f5434828) (fun _ h9 => h9) rfl d_Model_pair_1 ?_
  refine lv_iload_n hx hb d_Model_pair_4 rfl (lv_at hl 1 rfl) ?_
  obtain ⟨g_1, hF⟩ := gdE hF
  refine va_iald (f := (σ.2.2.1 21)) hx hb hK hP 36 0 rfl rfl (inE g_1) d_Model_pair_5 ?_
  refine lv_sipush (v := 256) hx hb d_Model_pair_6 (by decide) ?_
  refine lv_isub hx hb d_Model_pair_9 ?_
  refine lv_istore_n (lv' := [(3, .int (((σ.2.2.1 21) a1.toNatClampNeg) - 256)), (0, .ref (ad 11)), (1, .int a1), (2, .int a2)]) hx hb d_Model_pair_10 rfl hl (by decide) rfl (fun ls hl => ?_)
  refine lv_aload_n hx hb d_Model_pair_11 rfl (lv_at hl 1 rfl) ?_
  refine va_get (D := (dC, dI)) (ci := 11) (v := .ref (ad 58)) hx hb hts i_Model hown hK hP 11 rfl rfl 56 (by decide) (hts _ w_4a342e2c2d) (fun _ h9 => h9) rfl d_Model_pair_12 ?_
  refine lv_aload_n hx hb d_Model_pair_15 rfl (lv_at hl 1 rfl) ?_
  refine va_get (D := (dC, dI)) (ci := 11) (v := .int (σ.1 49)) hx hb hts i_Model hown hK hP 11 rfl rfl 45 (by decide) (hts _ w_4548f44b3d) (fun _ h9 => h9) rfl d_Model_pair_16 ?_
  refine lv_iconst (v := 1) hx hb d_Model_pair_19 (by decide) ?_
  refine lv_isub hx hb d_Model_pair_20 ?_
  obtain ⟨g_2, hF⟩ := gdE hF
  refine va_iald (f := (σ.2.2.1 43)) hx hb hK hP 58 0 rfl rfl (inE g_2) d_Model_pair_21 ?_
  refine lv_istore (lv' := [(4, .int ((σ.2.2.1 43) ((σ.1 49) - 1).toNatClampNeg)), (3, .int (((σ.2.2.1 21) a1.toNatClampNeg) - 256)), (0, .ref (ad 11)), (1, .int a1), (2, .int a2)]) hx hb d_Model_pair_22 hl (by decide) rfl (fun ls hl => ?_)
  refine lv_iload_n hx hb d_Model_pair_24 rfl (lv_at hl 4 rfl) ?_
  refine lv_iconst (v := 1) hx hb d_Model_pair_25 (by decide) ?_
  refine lv_icmp_ne (tgt := 62) hx hb d_Model_pair_26 (by decide) (fun c_3 => ?_) (fun c_3 => ?_)
  · have hF := ifn hF c_3
    exact (tModel_pair_blk l dC dI ad cA X 2000).2 σ a1 a2 0 0 H locs ls hF hP hD hS (lv_sub hl [2, 3, 4] rfl)
  · have hF := ifp hF c_3
    refine lv_iload_n hx hb d_Model_pair_29 rfl (lv_at hl 1 rfl) ?_
    refine lv_bipush (v := 38) hx hb d_Model_pair_30 (by decide) ?_
    refine lv_icmp_ne (tgt := 40) hx hb d_Model_pair_32 (by decide) (fun c_4 => ?_) (fun c_4 => ?_)
    · have hF := ifn hF c_4
      exact (tModel_pair_blk l dC dI ad cA X 2000).1 σ a1 a2 (((σ.2.2.1 21) a1.toNatClampNeg) - 256) ((σ.2.2.1 43) ((σ.1 49) - 1).toNatClampNeg) H locs ls hF hP hD hS (lv_sub hl [2, 3, 4, 1, 0] rfl)
    · have hF := ifp hF c_4
      refine lv_iload hx hb d_Model_pair_35 (lv_at hl 0 rfl) ?_
      refine lv_if_eq (tgt := 62) hx hb d_Model_pair_37 (by decide) (fun c_5 => ?_) (fun c_5 => ?_)
      · have hF := ifp hF c_5
        exact (tModel_pair_blk l dC dI ad cA X 2000).2 σ a1 a2 0 0 H locs ls hF hP hD hS (lv_sub hl [2, 3, 4] rfl)
      · have hF := ifn hF c_5
        exact (tModel_pair_blk l dC dI ad cA X 2000).1 σ a1 a2 (((σ.2.2.1 21) a1.toNatClampNeg) - 256) ((σ.2.2.1 43) ((σ.1 49) - 1).toNatClampNeg) H locs ls hF hP hD hS (lv_sub hl [2, 3, 4, 1, 0] rfl)
theorem d_Model_print_0 : decode b_Model_print 0 = .ok (.aload_n 0, 1) := by decide +kernel
theorem d_Model_print_1 : decode b_Model_print 1 = .ok (.invokevirtual 421, 3) := by decide +kernel
theorem d_Model_print_4 : decode b_Model_print 4 = .ok (.istore_n 1, 1) := by decide +kernel
theorem d_Model_print_5 : decode b_Model_print 5 = .ok (.aload_n 0, 1) := by decide +kernel
theorem d_Model_print_6 : decode b_Model_print 6 = .ok (.getfield 389, 3) := by decide +kernel
theorem d_Model_print_9 : decode b_Model_print 9 = .ok (.bipush 30, 2) := by decide +kernel
theorem d_Model_print_11 : decode b_Model_print 11 = .ok (.if_icmp .ne 9, 3) := by decide +kernel
theorem d_Model_print_14 : decode b_Model_print 14 = .ok (.aload_n 0, 1) := by decide +kernel
theorem d_Model_print_15 : decode b_Model_print 15 = .ok (.iconst 1, 1) := by decide +kernel
theorem d_Model_print_16 : decode b_Model_print 16 = .ok (.putfield 407, 3) := by decide +kernel
theorem d_Model_print_19 : decode b_Model_print 19 = .ok (.return_, 1) := by decide +kernel
theorem d_Model_print_20 : decode b_Model_print 20 = .ok (.aload_n 0, 1) := by decide +kernel
theorem d_Model_print_21 : decode b_Model_print 21 = .ok (.getfield 85, 3) := by decide +kernel
theorem d_Model_print_24 : decode b_Model_print 24 = .ok (.aload_n 0, 1) := by decide +kernel
theorem d_Model_print_25 : decode b_Model_print 25 = .ok (.getfield 389, 3) := by decide +kernel
theorem d_Model_print_28 : decode b_Model_print 28 = .ok (.iload_n 1, 1) := by decide +kernel
theorem d_Model_print_29 : decode b_Model_print 29 = .ok (.iastore, 1) := by decide +kernel
theorem d_Model_print_30 : decode b_Model_print 30 = .ok (.aload_n 0, 1) := by decide +kernel
theorem d_Model_print_31 : decode b_Model_print 31 = .ok (.dup, 1) := by decide +kernel
theorem d_Model_print_32 : decode b_Model_print 32 = .ok (.getfield 389, 3) := by decide +kernel
theorem d_Model_print_35 : decode b_Model_print 35 = .ok (.iconst 1, 1) := by decide +kernel
theorem d_Model_print_36 : decode b_Model_print 36 = .ok (.iadd, 1) := by decide +kernel
theorem d_Model_print_37 : decode b_Model_print 37 = .ok (.putfield 389, 3) := by decide +kernel
theorem d_Model_print_40 : decode b_Model_print 40 = .ok (.aload_n 0, 1) := by decide +kernel
theorem d_Model_print_41 : decode b_Model_print 41 = .ok (.dup, 1) := by decide +kernel
theorem d_Model_print_42 : decode b_Model_print 42 = .ok (.getfield 401, 3) := by decide +kernel
theorem d_Model_print_45 : decode b_Model_print 45 = .ok (.iconst 1, 1) := by decide +kernel
theorem d_Model_print_46 : decode b_Model_print 46 = .ok (.isub, 1) := by decide +kernel
theorem d_Model_print_47 : decode b_Model_print 47 = .ok (.putfield 401, 3) := by decide +kernel
theorem d_Model_print_50 : decode b_Model_print 50 = .ok (.return_, 1) := by decide +kernel
def tModel_print (σ : St) : Option (St) := b2 (tModel_popValue σ) (fun r1 u1 => if (u1.1 47) = 30 then some (sI u1 52 1) else gd (inB (u1.1 47) 30) (some (sI (sI (sA u1 38 (upd (u1.2.2.1 38) (u1.1 47).toNatClampNeg r1)) 47 ((u1.1 47) + 1)) 48 ((u1.1 48) - 1))))
set_option maxHeartbeats 4000000 in
set_option maxRecDepth 100000 in
theorem ct_Model_print (l : Launch) (dC : Nat → ClassId) (dI : Nat → Nat → Nat) (ad : Nat → Nat) (cA : Nat → ClassId) (sz : Nat) {σ : St} {σ' : St} (hF : tModel_print σ = some σ') : MV l y_Model_print b_Model_print 2 none { frames := 1, cells := 0, slots := 0, locals := 20 } (dC, dI) (ttys cA) ad (tcw ad cA) [.ref (ad 11)] σ sz σ' := by
  refine startM (own := "TinyForgeModel") (Qc := fun A => QV (dC, dI) (ttys cA) (tcw ad cA) A σ') rfl rfl (Nat.le_of_ble_eq_true rfl) ?_
  intro p e s m below meth c A H locs ls X hP hD hS hl
  have hl : lv_has ls 2 [(0, .ref (ad 11))] := hl
  obtain ⟨hx, hb, hr, hml, hown, hlocks, hts, hA, hK, hZ⟩ := id X
  unfold tModel_print at hF
  refine lv_aload_n hx hb d_Model_print_0 rfl (lv_at hl 0 rfl) ?_
  obtain ⟨r1, u1, h1, hF⟩ := b2E hF
  refine callVI (As := []) X (ct_Model_popValue l dC dI ad cA H.size h1) lk_Model_421 ⟨rfl, rfl, by decide, by decide⟩ 11 rfl rfl hP hD hS hl.1 rfl rfl (Nat.le_of_ble_eq_true rfl) d_Model_print_1 (fun H locs hP hD hS => ?_)
  refine lv_istore_n (lv' := [(1, .int r1), (0, .ref (ad 11))]) hx hb d_Model_print_4 rfl hl (by decide) rfl (fun ls hl => ?_)
  refine lv_aload_n hx hb d_Model_print_5 rfl (lv_at hl 1 rfl) ?_
  refine va_get (D := (dC, dI)) (ci := 11) (v := .int (u1.1 47)) hx hb hts i_Model hown hK hP 11 rfl rfl 43 (by decide) (hts _ w_51088924d7) (fun _ h9 => h9) rfl d_Model_print_6 ?_
  refine lv_bipush (v := 30) hx hb d_Model_print_9 (by decide) ?_
  refine lv_icmp_ne (tgt := 20) hx hb d_Model_print_11 (by decide) (fun c_2 => ?_) (fun c_2 => ?_)
  · have hF := ifn hF c_2
    refine lv_aload_n hx hb d_Model_print_20 rfl (lv_at hl 1 rfl) ?_
    refine va_get (D := (dC, dI)) (ci := 11) (v := .ref (ad 53)) hx hb hts i_Model hown hK hP 11 rfl rfl 51 (by decide) (hts _ w_be8d00e1aa) (fun _ h9 => h9) rfl d_Model_print_21 ?_
    refine lv_aload_n hx hb d_Model_print_24 rfl (lv_at hl 1 rfl) ?_
    refine va_get (D := (dC, dI)) (ci := 11) (v := .int (u1.1 47)) hx hb hts i_Model hown hK hP 11 rfl rfl 43 (by decide) (hts _ w_51088924d7) (fun _ h9 => h9) rfl d_Model_print_25 ?_
    refine lv_iload_n hx hb d_Model_print_28 rfl (lv_at hl 0 rfl) ?_
    obtain ⟨g_3, hF⟩ := gdE hF
    refine va_iast (f := (u1.2.2.1 38)) hx hb hK hP hD hS 53 0 rfl rfl (inE g_3) d_Model_print_29 (fun H locs hP hD hS => ?_)
    have hP : va_P (dC, dI) vwCl (tcw ad cA (sA u1 38 (upd (u1.2.2.1 38) (u1.1 47).toNatClampNeg r1))) H := hP
    have hD : va_D A (tcw ad cA (sA u1 38 (upd (u1.2.2.1 38) (u1.1 47).toNatClampNeg r1))) := hD
    refine lv_aload_n hx hb d_Model_print_30 rfl (lv_at hl 1 rfl) ?_
    refine lv_dup hx hb d_Model_print_31 rfl ?_
    refine va_get (D := (dC, dI)) (ci := 11) (v := .int (u1.1 47)) hx hb hts i_Model hown hK hP 11 rfl rfl 43 (by decide) (hts _ w_51088924d7) (fun _ h9 => h9) rfl d_Model_print_32 ?_
    refine lv_iconst (v := 1) hx hb d_Model_print_35 (by decide) ?_
    refine lv_iadd hx hb d_Model_print_36 ?_
    refine va_put (D := (dC, dI)) (ci := 11) (v := .int ((u1.1 47) + 1)) (ty := .int) hx hb hts i_Model t_Model t_Model_ok n_Model hown hK hP hD hS 11 rfl rfl 43 (by decide) (hts _ w_51088924d7) (fun _ h9 => h9) rfl (by decide +kernel) rfl rfl (Nat.le_of_ble_eq_true rfl) d_Model_print_37 (fun H locs hP hD hS => ?_)
    have hP : va_P (dC, dI) vwCl (tcw ad cA (sI (sA u1 38 (upd (u1.2.2.1 38) (u1.1 47).toNatClampNeg r1)) 47 ((u1.1 47) + 1))) H := hP
    have hD : va_D A (tcw ad cA (sI (sA u1 38 (upd (u1.2.2.1 38) (u1.1 47).toNatClampNeg r1)) 47 ((u1.1 47) + 1))) := hD
    refine lv_aload_n hx hb d_Model_print_40 rfl (lv_at hl 1 rfl) ?_
    refine lv_dup hx hb d_Model_print_41 rfl ?_
    refine va_get (D := (dC, dI)) (ci := 11) (v := .int (u1.1 48)) hx hb hts i_Model hown hK hP 11 rfl rfl 44 (by decide) (hts _ w_0f4138ce03) (fun _ h9 => h9) rfl d_Model_print_42 ?_
    refine lv_iconst (v := 1) hx hb d_Model_print_45 (by decide) ?_
    refine lv_isub hx hb d_Model_print_46 ?_
    refine va_put (D := (dC, dI)) (ci := 11) (v := .int ((u1.1 48) - 1)) (ty := .int) hx hb hts i_Model t_Model t_Model_ok n_Model hown hK hP hD hS 11 rfl rfl 44 (by decide) (hts _ w_0f4138ce03) (fun _ h9 => h9) rfl (by decide +kernel) rfl rfl (Nat.le_of_ble_eq_true rfl) d_Model_print_47 (fun H locs hP hD hS => ?_)
    have hP : va_P (dC, dI) vwCl (tcw ad cA (sI (sI (sA u1 38 (upd (u1.2.2.1 38) (u1.1 47).toNatClampNeg r1)) 47 ((u1.1 47) + 1)) 48 ((u1.1 48) - 1))) H := hP
    have hD : va_D A (tcw ad cA (sI (sI (sA u1 38 (upd (u1.2.2.1 38) (u1.1 47).toNatClampNeg r1)) 47 ((u1.1 47) + 1)) 48 ((u1.1 48) - 1))) := hD
    cases hF
    exact leafV X hP hD hS d_Model_print_50
  · have hF := ifp hF c_2
    refine lv_aload_n hx hb d_Model_print_14 rfl (lv_at hl 1 rfl) ?_
    refine lv_iconst (v := 1) hx hb d_Model_print_15 (by decide) ?_
    refine va_put (D := (dC, dI)) (ci := 11) (v := .int 1) (ty := .int) hx hb hts i_Model t_Model t_Model_ok n_Model hown hK hP hD hS 11 rfl rfl 48 (by decide) (hts _ w_b82ca3c944) (fun _ h9 => h9) rfl (by decide +kernel) rfl rfl (Nat.le_of_ble_eq_true rfl) d_Model_print_16 (fun H locs hP hD hS => ?_)
    have hP : va_P (dC, dI) vwCl (tcw ad cA (sI u1 52 1)) H := hP
    have hD : va_D A (tcw ad cA (sI u1 52 1)) := hD
    cases hF
    exact leafV X hP hD hS d_Model_print_19
theorem d_Model_put_0 : decode b_Model_put 0 = .ok (.iload_n 2, 1) := by decide +kernel
theorem d_Model_put_1 : decode b_Model_put 1 = .ok (.iconst 1, 1) := by decide +kernel
theorem d_Model_put_2 : decode b_Model_put 2 = .ok (.if_icmp .ne 14, 3) := by decide +kernel
theorem d_Model_put_5 : decode b_Model_put 5 = .ok (.aload_n 0, 1) := by decide +kernel
theorem d_Model_put_6 : decode b_Model_put 6 = .ok (.aload_n 0, 1) := by decide +kernel
theorem d_Model_put_7 : decode b_Model_put 7 = .ok (.getfield 39, 3) := by decide +kernel
theorem d_Model_put_10 : decode b_Model_put 10 = .ok (.iload_n 1, 1) := by decide +kernel
theorem d_Model_put_11 : decode b_Model_put 11 = .ok (.iaload, 1) := by decide +kernel
theorem d_Model_put_12 : decode b_Model_put 12 = .ok (.invokevirtual 418, 3) := by decide +kernel
theorem d_Model_put_15 : decode b_Model_put 15 = .ok (.return_, 1) := by decide +kernel
theorem d_Model_put_16 : decode b_Model_put 16 = .ok (.aload_n 0, 1) := by decide +kernel
theorem d_Model_put_17 : decode b_Model_put 17 = .ok (.invokevirtual 421, 3) := by decide +kernel
theorem d_Model_put_20 : decode b_Model_put 20 = .ok (.istore_n 3, 1) := by decide +kernel
theorem d_Model_put_21 : decode b_Model_put 21 = .ok (.aload_n 0, 1) := by decide +kernel
theorem d_Model_put_22 : decode b_Model_put 22 = .ok (.invokevirtual 421, 3) := by decide +kernel
theorem d_Model_put_25 : decode b_Model_put 25 = .ok (.istore 4, 2) := by decide +kernel
theorem d_Model_put_27 : decode b_Model_put 27 = .ok (.aload_n 0, 1) := by decide +kernel
theorem d_Model_put_28 : decode b_Model_put 28 = .ok (.iload_n 1, 1) := by decide +kernel
theorem d_Model_put_29 : decode b_Model_put 29 = .ok (.iload 4, 2) := by decide +kernel
theorem d_Model_put_31 : decode b_Model_put 31 = .ok (.invokevirtual 430, 3) := by decide +kernel
theorem d_Model_put_34 : decode b_Model_put 34 = .ok (.ifCond .eq 26, 3) := by decide +kernel
theorem d_Model_put_37 : decode b_Model_put 37 = .ok (.aload_n 0, 1) := by decide +kernel
theorem d_Model_put_38 : decode b_Model_put 38 = .ok (.getfield 88, 3) := by decide +kernel
theorem d_Model_put_41 : decode b_Model_put 41 = .ok (.aload_n 0, 1) := by decide +kernel
theorem d_Model_put_42 : decode b_Model_put 42 = .ok (.getfield 61, 3) := by decide +kernel
theorem d_Model_put_45 : decode b_Model_put 45 = .ok (.aload_n 0, 1) := by decide +kernel
theorem d_Model_put_46 : decode b_Model_put 46 = .ok (.getfield 42, 3) := by decide +kernel
theorem d_Model_put_49 : decode b_Model_put 49 = .ok (.iload_n 1, 1) := by decide +kernel
theorem d_Model_put_50 : decode b_Model_put 50 = .ok (.iaload, 1) := by decide +kernel
theorem d_Model_put_51 : decode b_Model_put 51 = .ok (.iaload, 1) := by decide +kernel
theorem d_Model_put_52 : decode b_Model_put 52 = .ok (.iload 4, 2) := by decide +kernel
theorem d_Model_put_54 : decode b_Model_put 54 = .ok (.iadd, 1) := by decide +kernel
theorem d_Model_put_55 : decode b_Model_put 55 = .ok (.iload_n 3, 1) := by decide +kernel
theorem d_Model_put_56 : decode b_Model_put 56 = .ok (.iastore, 1) := by decide +kernel
theorem d_Model_put_57 : decode b_Model_put 57 = .ok (.goto 8, 3) := by decide +kernel
theorem d_Model_put_60 : decode b_Model_put 60 = .ok (.aload_n 0, 1) := by decide +kernel
theorem d_Model_put_61 : decode b_Model_put 61 = .ok (.iconst 1, 1) := by decide +kernel
theorem d_Model_put_62 : decode b_Model_put 62 = .ok (.putfield 407, 3) := by decide +kernel
theorem d_Model_put_65 : decode b_Model_put 65 = .ok (.aload_n 0, 1) := by decide +kernel
theorem d_Model_put_66 : decode b_Model_put 66 = .ok (.dup, 1) := by decide +kernel
theorem d_Model_put_67 : decode b_Model_put 67 = .ok (.getfield 401, 3) := by decide +kernel
theorem d_Model_put_70 : decode b_Model_put 70 = .ok (.iconst 1, 1) := by decide +kernel
theorem d_Model_put_71 : decode b_Model_put 71 = .ok (.isub, 1) := by decide +kernel
theorem d_Model_put_72 : decode b_Model_put 72 = .ok (.putfield 401, 3) := by decide +kernel
theorem d_Model_put_75 : decode b_Model_put 75 = .ok (.return_, 1) := by decide +kernel
def tModel_put (σ : St) (a1 : Int32) (a2 : Int32) : Option (St) := if a2 = 1 then gd (inB a1 500) (b1 (tModel_start σ ((σ.2.2.1 23) a1.toNatClampNeg)) (fun u10 => some u10)) else b2 (tModel_popValue σ) (fun r2 u2 => b2 (tModel_popValue u2) (fun r3 u3 => b1 (tModel_isIn u3 a1 r3) (fun r4 => if r4 = 0 then some (sI (sI u3 52 1) 48 ((u3.1 48) - 1)) else gd (inB a1 500) (gd (inB ((u3.2.2.1 24) a1.toNatClampNeg) 60) (gd (inB (((u3.2.2.1 30) ((u3.2.2.1 24) a1.toNatClampNeg).toNatClampNeg) + r3) 960) (some (sI (sA u3 39 (upd (u3.2.2.1 39) (((u3.2.2.1 30) ((u3.2.2.1 24) a1.toNatClampNeg).toNatClampNeg) + r3).toNatClampNeg r2)) 48 ((u3.1 48) - 1))))))))
set_option maxHeartbeats 4000000 in
set_option maxRecDepth 100000 in
theorem ct_Model_put (l : Launch) (dC : Nat → ClassId) (dI : Nat → Nat → Nat) (ad : Nat → Nat) (cA : Nat → ClassId) (sz : Nat) {σ : St} {a1 : Int32} {a2 : Int32} {σ' : St} (hF : tModel_put σ a1 a2 = some σ') : MV l y_Model_put b_Model_put 5 none { frames := 1, cells := 0, slots := 0, locals := 22 } (dC, dI) (ttys cA) ad (tcw ad cA) [.ref (ad 11), .int a1, .int a2] σ sz σ' := by
  refine startM (own := "TinyForgeModel") (Qc := fun A => QV (dC, dI) (ttys cA) (tcw ad cA) A σ') rfl rfl (Nat.le_of_ble_eq_true rfl) ?_
  intro p e s m below meth c A H locs ls X hP hD hS hl
  have hl : lv_has ls 5 [(0, .ref (ad 11)), (1, .int a1), (2, .int a2)] := hl
  obtain ⟨hx, hb, hr, hml, hown, hlocks, hts, hA, hK, hZ⟩ := id X
  unfold tModel_put at hF
  refine lv_iload_n hx hb d_Model_put_0 rfl (lv_at hl 2 rfl) ?_
  refine lv_iconst (v := 1) hx hb d_Model_put_1 (by decide) ?_
  refine lv_icmp_ne (tgt := 16) hx hb d_Model_put_2 (by decide) (fun c_1 => ?_) (fun c_1 => ?_)
  · have hF := ifn hF c_1
    refine lv_aload_n hx hb d_Model_put_16 rfl (lv_at hl 0 rfl) ?_
    obtain ⟨r2, u2, h2, hF⟩ := b2E hF
    refine callVI (As := []) X (ct_Model_popValue l dC dI ad cA H.size h2) lk_Model_421 ⟨rfl, rfl, by decide, by decide⟩ 11 rfl rfl hP hD hS hl.1 rfl rfl (Nat.le_of_ble_eq_true rfl) d_Model_put_17 (fun H locs hP hD hS => ?_)
    refine lv_istore_n (lv' := [(3, .int r2), (0, .ref (ad 11)), (1, .int a1), (2, .int a2)]) hx hb d_Model_put_20 rfl hl (by decide) rfl (fun ls hl => ?_)
    refine lv_aload_n hx hb d_Model_put_21 rfl (lv_at hl 1 rfl) ?_
    obtain ⟨r3, u3, h3, hF⟩ := b2E hF
    refine callVI (As := []) X (ct_Model_popValue l dC dI ad cA H.size h3) lk_Model_421 ⟨rfl, rfl, by decide, by decide⟩ 11 rfl rfl hP hD hS hl.1 rfl rfl (Nat.le_of_ble_eq_true rfl) d_Model_put_22 (fun H locs hP hD hS => ?_)
    refine lv_istore (lv' := [(4, .int r3), (3, .int r2), (0, .ref (ad 11)), (1, .int a1), (2, .int a2)]) hx hb d_Model_put_25 hl (by decide) rfl (fun ls hl => ?_)
    refine lv_aload_n hx hb d_Model_put_27 rfl (lv_at hl 2 rfl) ?_
    refine lv_iload_n hx hb d_Model_put_28 rfl (lv_at hl 3 rfl) ?_
    refine lv_iload hx hb d_Model_put_29 (lv_at hl 0 rfl) ?_
    obtain ⟨r4, h4, hF⟩ := b1E hF
    refine callVI (As := [.int a1, .int r3]) X (ct_Model_isIn l dC dI ad cA H.size h4) lk_Model_430 ⟨rfl, rfl, by decide, by decide⟩ 11 rfl rfl hP hD hS hl.1 rfl rfl (Nat.le_of_ble_eq_true rfl) d_Model_put_31 (fun H locs hP hD hS => ?_)
    refine lv_if_eq (tgt := 60) hx hb d_Model_put_34 (by decide) (fun c_5 => ?_) (fun c_5 => ?_)
    · have hF := ifp hF c_5
      refine lv_aload_n hx hb d_Model_put_60 rfl (lv_at hl 2 rfl) ?_
      refine lv_iconst (v := 1) hx hb d_Model_put_61 (by decide) ?_
      refine va_put (D := (dC, dI)) (ci := 11) (v := .int 1) (ty := .int) hx hb hts i_Model t_Model t_Model_ok n_Model hown hK hP hD hS 11 rfl rfl 48 (by decide) (hts _ w_b82ca3c944) (fun _ h9 => h9) rfl (by decide +kernel) rfl rfl (Nat.le_of_ble_eq_true rfl) d_Model_put_62 (fun H locs hP hD hS => ?_)
      have hP : va_P (dC, dI) vwCl (tcw ad cA (sI u3 52 1)) H := hP
      have hD : va_D A (tcw ad cA (sI u3 52 1)) := hD
      refine lv_aload_n hx hb d_Model_put_65 rfl (lv_at hl 2 rfl) ?_
      refine lv_dup hx hb d_Model_put_66 rfl ?_
      refine va_get (D := (dC, dI)) (ci := 11) (v := .int (u3.1 48)) hx hb hts i_Model hown hK hP 11 rfl rfl 44 (by decide) (hts _ w_0f4138ce03) (fun _ h9 => h9) rfl d_Model_put_67 ?_
      refine lv_iconst (v := 1) hx hb d_Model_put_70 (by decide) ?_
      refine lv_isub hx hb d_Model_put_71 ?_
      refine va_put (D := (dC, dI)) (ci := 11) (v := .int ((u3.1 48) - 1)) (ty := .int) hx hb hts i_Model t_Model t_Model_ok n_Model hown hK hP hD hS 11 rfl rfl 44 (by decide) (hts _ w_0f4138ce03) (fun _ h9 => h9) rfl (by decide +kernel) rfl rfl (Nat.le_of_ble_eq_true rfl) d_Model_put_72 (fun H locs hP hD hS => ?_)
      have hP : va_P (dC, dI) vwCl (tcw ad cA (sI (sI u3 52 1) 48 ((u3.1 48) - 1))) H := hP
      have hD : va_D A (tcw ad cA (sI (sI u3 52 1) 48 ((u3.1 48) - 1))) := hD
      cases hF
      exact leafV X hP hD hS d_Model_put_75
    · have hF := ifn hF c_5
      refine lv_aload_n hx hb d_Model_put_37 rfl (lv_at hl 2 rfl) ?_
      refine va_get (D := (dC, dI)) (ci := 11) (v := .ref (ad 54)) hx hb hts i_Model hown hK hP 11 rfl rfl 52 (by decide) (hts _ w_639930e084) (fun _ h9 => h9) rfl d_Model_put_38 ?_
      refine lv_aload_n hx hb d_Model_put_41 rfl (lv_at hl 2 rfl) ?_
      refine va_get (D := (dC, dI)) (ci := 11) (v := .ref (ad 45)) hx hb hts i_Model hown hK hP 11 rfl rfl 27 (by decide) (hts _ w_04aab809f2) (fun _ h9 => h9) rfl d_Model_put_42 ?_
      refine lv_aload_n hx hb d_Model_put_45 rfl (lv_at hl 2 rfl) ?_
      refine va_get (D := (dC, dI)) (ci := 11) (v := .ref (ad 39)) hx hb hts i_Model hown hK hP 11 rfl rfl 18 (by decide) (hts _ w_7d7d4091fc) (fun _ h9 => h9) rfl d_Model_put_46 ?_
      refine lv_iload_n hx hb d_Model_put_49 rfl (lv_at hl 3 rfl) ?_
      obtain ⟨g_6, hF⟩ := gdE hF
      refine va_iald (f := (u3.2.2.1 24)) hx hb hK hP 39 0 rfl rfl (inE g_6) d_Model_put_50 ?_
      obtain ⟨g_7, hF⟩ := gdE hF
      refine va_iald (f := (u3.2.2.1 30)) hx hb hK hP 45 0 rfl rfl (inE g_7) d_Model_put_51 ?_
      refine lv_iload hx hb d_Model_put_52 (lv_at hl 0 rfl) ?_
      refine lv_iadd hx hb d_Model_put_54 ?_
      refine lv_iload_n hx hb d_Model_put_55 rfl (lv_at hl 1 rfl) ?_
      obtain ⟨g_8, hF⟩ := gdE hF
      refine va_iast (f := (u3.2.2.1 39)) hx hb hK hP hD hS 54 0 rfl rfl (inE g_8) d_Model_put_56 (fun H locs hP hD hS => ?_)
      have hP : va_P (dC, dI) vwCl (tcw ad cA (sA u3 39 (upd (u3.2.2.1 39) (((u3.2.2.1 30) ((u3.2.2.1 24) a1.toNatClampNeg).toNatClampNeg) + r3).toNatClampNeg r2))) H := hP
      have hD : va_D A (tcw ad cA (sA u3 39 (upd (u3.2.2.1 39) (((u3.2.2.1 30) ((u3.2.2.1 24) a1.toNatClampNeg).toNatClampNeg) + r3).toNatClampNeg r2))) := hD
      refine lv_goto (tgt := 65) hx hb d_Model_put_57 (by decide) ?_
      refine lv_aload_n hx hb d_Model_put_65 rfl (lv_at hl 2 rfl) ?_
      refine lv_dup hx hb d_Model_put_66 rfl ?_
      refine va_get (D := (dC, dI)) (ci := 11) (v := .int (u3.1 48)) hx hb hts i_Model hown hK hP 11 rfl rfl 44 (by decide) (hts _ w_0f4138ce03) (fun _ h9 => h9) rfl d_Model_put_67 ?_
      refine lv_iconst (v := 1) hx hb d_Model_put_70 (by decide) ?_
      refine lv_isub hx hb d_Model_put_71 ?_
      refine va_put (D := (dC, dI)) (ci := 11) (v := .int ((u3.1 48) - 1)) (ty := .int) hx hb hts i_Model t_Model t_Model_ok n_Model hown hK hP hD hS 11 rfl rfl 44 (by decide) (hts _ w_0f4138ce03) (fun _ h9 => h9) rfl (by decide +kernel) rfl rfl (Nat.le_of_ble_eq_true rfl) d_Model_put_72 (fun H locs hP hD hS => ?_)
      have hP : va_P (dC, dI) vwCl (tcw ad cA (sI (sA u3 39 (upd (u3.2.2.1 39) (((u3.2.2.1 30) ((u3.2.2.1 24) a1.toNatClampNeg).toNatClampNeg) + r3).toNatClampNeg r2)) 48 ((u3.1 48) - 1))) H := hP
      have hD : va_D A (tcw ad cA (sI (sA u3 39 (upd (u3.2.2.1 39) (((u3.2.2.1 30) ((u3.2.2.1 24) a1.toNatClampNeg).toNatClampNeg) + r3).toNatClampNeg r2)) 48 ((u3.1 48) - 1))) := hD
      cases hF
      exact leafV X hP hD hS d_Model_put_75
  · have hF := ifp hF c_1
    refine lv_aload_n hx hb d_Model_put_5 rfl (lv_at hl 0 rfl) ?_
    refine lv_aload_n hx hb d_Model_put_6 rfl (lv_at hl 0 rfl) ?_
    refine va_get (D := (dC, dI)) (ci := 11) (v := .ref (ad 38)) hx hb hts i_Model hown hK hP 11 rfl rfl 17 (by decide) (hts _ w_d96db777d5) (fun _ h9 => h9) rfl d_Model_put_7 ?_
    refine lv_iload_n hx hb d_Model_put_10 rfl (lv_at hl 1 rfl) ?_
    obtain ⟨g_9, hF⟩ := gdE hF
    refine va_iald (f := (σ.2.2.1 23)) hx hb hK hP 38 0 rfl rfl (inE g_9) d_Model_put_11 ?_
    obtain ⟨u10, h10, hF⟩ := b1E hF
    refine callVV (As := [.int ((σ.2.2.1 23) a1.toNatClampNeg)]) X (ct_Model_start l dC dI ad cA H.size h10) lk_Model_418 ⟨rfl, rfl, by decide, by decide⟩ 11 rfl rfl hP hD hS hl.1 rfl rfl (Nat.le_of_ble_eq_true rfl) d_Model_put_12 (fun H locs hP hD hS => ?_)
    cases hF
    exact leafV X hP hD hS d_Model_put_15
theorem d_Model_leave_0 : decode b_Model_leave 0 = .ok (.aload_n 0, 1) := by decide +kernel
theorem d_Model_leave_1 : decode b_Model_leave 1 = .ok (.dup, 1) := by decide +kernel
theorem d_Model_leave_2 : decode b_Model_leave 2 = .ok (.getfield 442, 3) := by decide +kernel
theorem d_Model_leave_5 : decode b_Model_leave 5 = .ok (.iconst 1, 1) := by decide +kernel
theorem d_Model_leave_6 : decode b_Model_leave 6 = .ok (.isub, 1) := by decide +kernel
theorem d_Model_leave_7 : decode b_Model_leave 7 = .ok (.putfield 442, 3) := by decide +kernel
theorem d_Model_leave_10 : decode b_Model_leave 10 = .ok (.aload_n 0, 1) := by decide +kernel
theorem d_Model_leave_11 : decode b_Model_leave 11 = .ok (.iload_n 1, 1) := by decide +kernel
theorem d_Model_leave_12 : decode b_Model_leave 12 = .ok (.invokevirtual 427, 3) := by decide +kernel
theorem d_Model_leave_15 : decode b_Model_leave 15 = .ok (.return_, 1) := by decide +kernel
def tModel_leave (σ : St) (a1 : Int32) : Option (St) := b1 (tModel_hand (sI σ 50 ((σ.1 50) - 1)) a1) (fun u1 => some u1)
set_option maxHeartbeats 4000000 in
set_option maxRecDepth 100000 in
theorem ct_Model_leave (l : Launch) (dC : Nat → ClassId) (dI : Nat → Nat → Nat) (ad : Nat → Nat) (cA : Nat → ClassId) (sz : Nat) {σ : St} {a1 : Int32} {σ' : St} (hF : tModel_leave σ a1 = some σ') : MV l y_Model_leave b_Model_leave 2 none { frames := 1, cells := 0, slots := 0, locals := 21 } (dC, dI) (ttys cA) ad (tcw ad cA) [.ref (ad 11), .int a1] σ sz σ' := by
  refine startM (own := "TinyForgeModel") (Qc := fun A => QV (dC, dI) (ttys cA) (tcw ad cA) A σ') rfl rfl (Nat.le_of_ble_eq_true rfl) ?_
  intro p e s m below meth c A H locs ls X hP hD hS hl
  have hl : lv_has ls 2 [(0, .ref (ad 11)), (1, .int a1)] := hl
  obtain ⟨hx, hb, hr, hml, hown, hlocks, hts, hA, hK, hZ⟩ := id X
  unfold tModel_leave at hF
  refine lv_aload_n hx hb d_Model_leave_0 rfl (lv_at hl 0 rfl) ?_
  refine lv_dup hx hb d_Model_leave_1 rfl ?_
  refine va_get (D := (dC, dI)) (ci := 11) (v := .int (σ.1 50)) hx hb hts i_Model hown hK hP 11 rfl rfl 46 (by decide) (hts _ w_bff6745645) (fun _ h9 => h9) rfl d_Model_leave_2 ?_
  refine lv_iconst (v := 1) hx hb d_Model_leave_5 (by decide) ?_
  refine lv_isub hx hb d_Model_leave_6 ?_
  refine va_put (D := (dC, dI)) (ci := 11) (v := .int ((σ.1 50) - 1)) (ty := .int) hx hb hts i_Model t_Model t_Model_ok n_Model hown hK hP hD hS 11 rfl rfl 46 (by decide) (hts _ w_bff6745645) (fun _ h9 => h9) rfl (by decide +kernel) rfl rfl (Nat.le_of_ble_eq_true rfl) d_Model_leave_7 (fun H locs hP hD hS => ?_)
  have hP : va_P (dC, dI) vwCl (tcw ad cA (sI σ 50 ((σ.1 50) - 1))) H := hP
  have hD : va_D A (tcw ad cA (sI σ 50 ((σ.1 50) - 1))) := hD
  refine lv_aload_n hx hb d_Model_leave_10 rfl (lv_at hl 0 rfl) ?_
  refine lv_iload_n hx hb d_Model_leave_11 rfl (lv_at hl 1 rfl) ?_
  obtain ⟨u1, h1, hF⟩ := b1E hF
  refine callVV (As := [.int a1]) X (ct_Model_hand l dC dI ad cA H.size h1) lk_Model_427 ⟨rfl, rfl, by decide, by decide⟩ 11 rfl rfl hP hD hS hl.1 rfl rfl (Nat.le_of_ble_eq_true rfl) d_Model_leave_12 (fun H locs hP hD hS => ?_)
  cases hF
  exact leafV X hP hD hS d_Model_leave_15
theorem d_Model_returnValue_0 : decode b_Model_returnValue 0 = .ok (.aload_n 0, 1) := by decide +kernel
theorem d_Model_returnValue_1 : decode b_Model_returnValue 1 = .ok (.invokevirtual 421, 3) := by decide +kernel
theorem d_Model_returnValue_4 : decode b_Model_returnValue 4 = .ok (.istore_n 1, 1) := by decide +kernel
theorem d_Model_returnValue_5 : decode b_Model_returnValue 5 = .ok (.aload_n 0, 1) := by decide +kernel
theorem d_Model_returnValue_6 : decode b_Model_returnValue 6 = .ok (.getfield 30, 3) := by decide +kernel
theorem d_Model_returnValue_9 : decode b_Model_returnValue 9 = .ok (.aload_n 0, 1) := by decide +kernel
theorem d_Model_returnValue_10 : decode b_Model_returnValue 10 = .ok (.getfield 94, 3) := by decide +kernel
theorem d_Model_returnValue_13 : decode b_Model_returnValue 13 = .ok (.aload_n 0, 1) := by decide +kernel
theorem d_Model_returnValue_14 : decode b_Model_returnValue 14 = .ok (.getfield 401, 3) := by decide +kernel
theorem d_Model_returnValue_17 : decode b_Model_returnValue 17 = .ok (.iconst 1, 1) := by decide +kernel
theorem d_Model_returnValue_18 : decode b_Model_returnValue 18 = .ok (.isub, 1) := by decide +kernel
theorem d_Model_returnValue_19 : decode b_Model_returnValue 19 = .ok (.iaload, 1) := by decide +kernel
theorem d_Model_returnValue_20 : decode b_Model_returnValue 20 = .ok (.iaload, 1) := by decide +kernel
theorem d_Model_returnValue_21 : decode b_Model_returnValue 21 = .ok (.iconst 5, 1) := by decide +kernel
theorem d_Model_returnValue_22 : decode b_Model_returnValue 22 = .ok (.if_icmp .eq 16, 3) := by decide +kernel
theorem d_Model_returnValue_25 : decode b_Model_returnValue 25 = .ok (.aload_n 0, 1) := by decide +kernel
theorem d_Model_returnValue_26 : decode b_Model_returnValue 26 = .ok (.dup, 1) := by decide +kernel
theorem d_Model_returnValue_27 : decode b_Model_returnValue 27 = .ok (.getfield 401, 3) := by decide +kernel
theorem d_Model_returnValue_30 : decode b_Model_returnValue 30 = .ok (.iconst 1, 1) := by decide +kernel
theorem d_Model_returnValue_31 : decode b_Model_returnValue 31 = .ok (.isub, 1) := by decide +kernel
theorem d_Model_returnValue_32 : decode b_Model_returnValue 32 = .ok (.putfield 401, 3) := by decide +kernel
theorem d_Model_returnValue_35 : decode b_Model_returnValue 35 = .ok (.goto (-30), 3) := by decide +kernel
theorem d_Model_returnValue_38 : decode b_Model_returnValue 38 = .ok (.aload_n 0, 1) := by decide +kernel
theorem d_Model_returnValue_39 : decode b_Model_returnValue 39 = .ok (.iload_n 1, 1) := by decide +kernel
theorem d_Model_returnValue_40 : decode b_Model_returnValue 40 = .ok (.invokevirtual 439, 3) := by decide +kernel
theorem d_Model_returnValue_43 : decode b_Model_returnValue 43 = .ok (.return_, 1) := by decide +kernel
def tModel_returnValue_b1 (k : Nat → St → Int32 → Option (St)) (σ : St) (x1 : Int32) : Option (St) := gd (inB ((σ.1 48) - 1) 1600) (gd (inB ((σ.2.2.1 41) ((σ.1 48) - 1).toNatClampNeg) 500) (if ((σ.2.2.1 20) ((σ.2.2.1 41) ((σ.1 48) - 1).toNatClampNeg).toNatClampNeg) = 5 then b1 (tModel_leave σ x1) (fun u5 => some u5) else k 1 (sI σ 48 ((σ.1 48) - 1)) x1))
def tModel_returnValue_L : Nat → Nat → St → Int32 → Option (St)
  | 0, _, _, _ => none
  | n + 1, lab, σ, x1 => match lab with
    | 1 => tModel_returnValue_b1 (tModel_returnValue_L n) σ x1
    | _ => none
def tModel_returnValue (σ : St) : Option (St) := b2 (tModel_popValue σ) (fun r1 u1 => tModel_returnValue_L 2000 1 u1 r1)
set_option maxHeartbeats 4000000 in
set_option maxRecDepth 100000 in
theorem tModel_returnValue_blk {p : Program} {e : Env} {s : State} {m : MethodId} {args : Array Value} {below : List Frame} {meth : Method} {c : Code} {A : Nat → Prop} (l : Launch) (dC : Nat → ClassId) (dI : Nat → Nat → Nat) (ad : Nat → Nat) (cA : Nat → ClassId) {σ' : St} (X : Cx p s m args meth c b_Model_returnValue 2 none "TinyForgeModel" (dC, dI) (ttys cA) ad A) : ∀ n : Nat, (∀ (σ : St) (x1 : Int32) (H : Heap) (locs : List Loc) (ls : Array Slot), tModel_returnValue_L n 1 σ x1 = some σ' → va_P (dC, dI) vwCl (tcw ad cA σ) H → va_D A (tcw ad cA σ) → va_S A s.heap H locs → lv_has ls 2 [(0, .ref (ad 11)), (1, .int x1)] → W p l e { frames := 2, cells := 0, slots := 0, locals := 42 } s m args below meth c H locs 0 0 (MQ below (QV (dC, dI) (ttys cA) (tcw ad cA) A σ') args s 0 0 A) (F0 m 5 ls [])) := by
  obtain ⟨hx, hb, hr, hml, hown, hlocks, hts, hA, hK, hZ⟩ := id X
  intro n
  induction n with
  | zero => exact (fun σ x1 H locs ls hF => by cases hF)
  | succ n ihn =>
    refine fun σ x1 H locs ls hF hP hD hS hl => ?_
    · have hF : tModel_returnValue_b1 (tModel_returnValue_L n) σ x1 = some σ' := hF
      unfold tModel_returnValue_b1 at hF
      refine lv_aload_n hx hb d_Model_returnValue_5 rfl (lv_at hl 0 rfl) ?_
      refine va_get (D := (dC, dI)) (ci := 11) (v := .ref (ad 35)) hx hb hts i_Model hown hK hP 11 rfl rfl 14 (by decide) (hts _ w_0e6df3fb4c) (fun _ h9 => h9) rfl d_Model_returnValue_6 ?_
      refine lv_aload_n hx hb d_Model_returnValue_9 rfl (lv_at hl 0 rfl) ?_
      refine va_get (D := (dC, dI)) (ci := 11) (v := .ref (ad 56)) hx hb hts i_Model hown hK hP 11 rfl rfl 54 (by decide) (hts _ w_9e90833517) (fun _ h9 => h9) rfl d_Model_returnValue_10 ?_
      refine lv_aload_n hx hb d_Model_returnValue_13 rfl (lv_at hl 0 rfl) ?_
      refine va_get (D := (dC, dI)) (ci := 11) (v := .int (σ.1 48)) hx hb hts i_Model hown hK hP 11 rfl rfl 44 (by decide) (hts _ w_0f4138ce03) (fun _ h9 => h9) rfl d_Model_returnValue_14 ?_
      refine lv_iconst (v := 1) hx hb d_Model_returnValue_17 (by decide) ?_
      refine lv_isub hx hb d_Model_returnValue_18 ?_
      obtain ⟨g_2, hF⟩ := gdE hF
      refine va_iald (f := (σ.2.2.1 41)) hx hb hK hP 56 0 rfl rfl (inE g_2) d_Model_returnValue_19 ?_
      obtain ⟨g_3, hF⟩ := gdE hF
      refine va_iald (f := (σ.2.2.1 20)) hx hb hK hP 35 0 rfl rfl (inE g_3) d_Model_returnValue_20 ?_
      refine lv_iconst (v := 5) hx hb d_Model_returnValue_21 (by decide) ?_
      refine lv_icmp_eq (tgt := 38) hx hb d_Model_returnValue_22 (by decide) (fun c_4 => ?_) (fun c_4 => ?_)
      · have hF := ifp hF c_4
        refine lv_aload_n hx hb d_Model_returnValue_38 rfl (lv_at hl 0 rfl) ?_
        refine lv_iload_n hx hb d_Model_returnValue_39 rfl (lv_at hl 1 rfl) ?_
        obtain ⟨u5, h5, hF⟩ := b1E hF
        refine callVV (As := [.int x1]) X (ct_Model_leave l dC dI ad cA H.size h5) lk_Model_439 ⟨rfl, rfl, by decide, by decide⟩ 11 rfl rfl hP hD hS hl.1 rfl rfl (Nat.le_of_ble_eq_true rfl) d_Model_returnValue_40 (fun H locs hP hD hS => ?_)
        cases hF
        exact leafV X hP hD hS d_Model_returnValue_43
      · have hF := ifn hF c_4
        refine lv_aload_n hx hb d_Model_returnValue_25 rfl (lv_at hl 0 rfl) ?_
        refine lv_dup hx hb d_Model_returnValue_26 rfl ?_
        refine va_get (D := (dC, dI)) (ci := 11) (v := .int (σ.1 48)) hx hb hts i_Model hown hK hP 11 rfl rfl 44 (by decide) (hts _ w_0f4138ce03) (fun _ h9 => h9) rfl d_Model_returnValue_27 ?_
        refine lv_iconst (v := 1) hx hb d_Model_returnValue_30 (by decide) ?_
        refine lv_isub hx hb d_Model_returnValue_31 ?_
        refine va_put (D := (dC, dI)) (ci := 11) (v := .int ((σ.1 48) - 1)) (ty := .int) hx hb hts i_Model t_Model t_Model_ok n_Model hown hK hP hD hS 11 rfl rfl 44 (by decide) (hts _ w_0f4138ce03) (fun _ h9 => h9) rfl (by decide +kernel) rfl rfl (Nat.le_of_ble_eq_true rfl) d_Model_returnValue_32 (fun H locs hP hD hS => ?_)
        have hP : va_P (dC, dI) vwCl (tcw ad cA (sI σ 48 ((σ.1 48) - 1))) H := hP
        have hD : va_D A (tcw ad cA (sI σ 48 ((σ.1 48) - 1))) := hD
        refine lv_goto (tgt := 5) hx hb d_Model_returnValue_35 (by decide) ?_
        exact ihn (sI σ 48 ((σ.1 48) - 1)) x1 H locs ls hF hP hD hS (lv_sub hl [0, 1] rfl)
set_option maxHeartbeats 4000000 in
set_option maxRecDepth 100000 in
theorem ct_Model_returnValue (l : Launch) (dC : Nat → ClassId) (dI : Nat → Nat → Nat) (ad : Nat → Nat) (cA : Nat → ClassId) (sz : Nat) {σ : St} {σ' : St} (hF : tModel_returnValue σ = some σ') : MV l y_Model_returnValue b_Model_returnValue 2 none { frames := 2, cells := 0, slots := 0, locals := 42 } (dC, dI) (ttys cA) ad (tcw ad cA) [.ref (ad 11)] σ sz σ' := by
  refine startM (own := "TinyForgeModel") (Qc := fun A => QV (dC, dI) (ttys cA) (tcw ad cA) A σ') rfl rfl (Nat.le_of_ble_eq_true rfl) ?_
  intro p e s m below meth c A H locs ls X hP hD hS hl
  have hl : lv_has ls 2 [(0, .ref (ad 11))] := hl
  obtain ⟨hx, hb, hr, hml, hown, hlocks, hts, hA, hK, hZ⟩ := id X
  unfold tModel_returnValue at hF
  refine lv_aload_n hx hb d_Model_returnValue_0 rfl (lv_at hl 0 rfl) ?_
  obtain ⟨r1, u1, h1, hF⟩ := b2E hF
  refine callVI (As := []) X (ct_Model_popValue l dC dI ad cA H.size h1) lk_Model_421 ⟨rfl, rfl, by decide, by decide⟩ 11 rfl rfl hP hD hS hl.1 rfl rfl (Nat.le_of_ble_eq_true rfl) d_Model_returnValue_1 (fun H locs hP hD hS => ?_)
  refine lv_istore_n (lv' := [(1, .int r1), (0, .ref (ad 11))]) hx hb d_Model_returnValue_4 rfl hl (by decide) rfl (fun ls hl => ?_)
  exact (tModel_returnValue_blk l dC dI ad cA X 2000) u1 r1 H locs ls hF hP hD hS (lv_sub hl [1, 0] rfl)
