theorem d_Law_forge_0 : decode b_Law_forge 0 = .ok (.aload_n 1, 1) := by decide +kernel
theorem d_Law_forge_1 : decode b_Law_forge 1 = .ok (.iconst 0, 1) := by decide +kernel
theorem d_Law_forge_2 : decode b_Law_forge 2 = .ok (.aload_n 0, 1) := by decide +kernel
theorem d_Law_forge_3 : decode b_Law_forge 3 = .ok (.invokevirtual 17, 3) := by decide +kernel
theorem d_Law_forge_6 : decode b_Law_forge 6 = .ok (.i2l, 1) := by decide +kernel
theorem d_Law_forge_7 : decode b_Law_forge 7 = .ok (.lastore, 1) := by decide +kernel
theorem d_Law_forge_8 : decode b_Law_forge 8 = .ok (.goto 6, 3) := by decide +kernel
theorem d_Law_forge_11 : decode b_Law_forge 11 = .ok (.astore_n 2, 1) := by decide +kernel
theorem d_Law_forge_12 : decode b_Law_forge 12 = .ok (.iconst 1, 1) := by decide +kernel
theorem d_Law_forge_13 : decode b_Law_forge 13 = .ok (.ireturn, 1) := by decide +kernel
theorem d_Law_forge_14 : decode b_Law_forge 14 = .ok (.iconst 0, 1) := by decide +kernel
theorem d_Law_forge_15 : decode b_Law_forge 15 = .ok (.ireturn, 1) := by decide +kernel
def tLaw_forge (σ : St) : Option (Int32 × St) := b3 (tForge_forge σ) (fun k1 r1 u1 => if k1 = 0 then gd (inB 0 1) (some (0, (sL u1 3 (vp_updL (u1.2.2.2 3) (0 : Int32).toNatClampNeg ((r1 : Int32).toInt64))))) else if k1 = 3 then some (1, u1) else none)
set_option maxHeartbeats 4000000 in
set_option maxRecDepth 100000 in
theorem ct_Law_forge (l : Launch) (htr : l.stackTraces = false) (dC : Nat → ClassId) (dI : Nat → Nat → Nat) (ad : Nat → Nat) (cA : Nat → ClassId) (sz : Nat) {σ : St} {r : Int32} {σ' : St} (hF : tLaw_forge σ = some (r, σ')) : MH l y_Law_forge b_Law_forge 3 (some .int) [(0, 8, 11, 21)] { frames := 97, cells := 1, slots := 6, locals := 2148 } (dC, dI) (ttys cA) ad (tcw ad cA) [.ref (ad 10), .ref (ad 59)] σ sz r σ' := by
  refine startH (own := "TinyForgeLaw") rfl rfl (Nat.le_of_ble_eq_true rfl) ?_
  intro p e s m below meth c A H locs ls X hex hS0 hNc hP hD hS hl
  have hl : lv_has ls 3 [(0, .ref (ad 10)), (1, .ref (ad 59))] := hl
  obtain ⟨hx, hb, hr, hml, hown, hlocks, hts, hA, hK, hZ⟩ := id X
  unfold tLaw_forge at hF
  refine lv_aload_n hx hb d_Law_forge_0 rfl (lv_at hl 1 rfl) ?_
  refine lv_iconst (v := 0) hx hb d_Law_forge_1 (by decide) ?_
  refine lv_aload_n hx hb d_Law_forge_2 rfl (lv_at hl 0 rfl) ?_
  obtain ⟨k1, r1, u1, h1, hF⟩ := b3E hF
  refine callVX (As := []) X hS0 (ct_Forge_forge l htr dC dI ad cA H.size h1) lk_Law_17 ⟨rfl, rfl, by decide, by decide⟩ ⟨by decide, by decide⟩ 10 rfl rfl hP hD hS hl.1 rfl rfl (Nat.le_of_ble_eq_true rfl) d_Law_forge_3 (fun c_1 H locs hP hD hS => ?_) (fun c_1 H locs q1 ce T1 hP hD hS hce hcv hcl hT1 Y => ?_)
  · have hF := ifp hF c_1
    refine lv_i2l (v := (r1 : Int32).toInt64) hx hb d_Law_forge_6 rfl ?_
    obtain ⟨g_2, hF⟩ := gdE hF
    refine va_last (f := (u1.2.2.2 3)) hx hb hK hP hD hS 59 1 rfl rfl (inE g_2) d_Law_forge_7 (fun H locs hP hD hS => ?_)
    have hP : va_P (dC, dI) vwCl (tcw ad cA (sL u1 3 (vp_updL (u1.2.2.2 3) (0 : Int32).toNatClampNeg ((r1 : Int32).toInt64)))) H := hP
    have hD : va_D A (tcw ad cA (sL u1 3 (vp_updL (u1.2.2.2 3) (0 : Int32).toNatClampNeg ((r1 : Int32).toInt64)))) := hD
    refine lv_goto (tgt := 14) hx hb d_Law_forge_8 (by decide) ?_
    refine lv_iconst (v := 0) hx hb d_Law_forge_14 (by decide) ?_
    cases hF
    exact leafH X hP hD hS d_Law_forge_15
  · have hF := ifn hF c_1
    by_cases c_3 : k1 = 3
    · have hF := ifp hF c_3
      subst c_3
      refine catch1 (k := 3) X hS0 hex (by decide) (by decide) w_f7f4804376 (by decide +kernel) hce hcv hcl hT1 Y ?_
      refine W.eq (g2 := F0 m 11 ls [.ref q1]) rfl ?_
      refine lv_astore_n (lv' := [(2, .ref q1), (0, .ref (ad 10)), (1, .ref (ad 59))]) hx hb d_Law_forge_11 rfl hl (by decide) rfl (fun ls hl => ?_)
      refine lv_iconst (v := 1) hx hb d_Law_forge_12 (by decide) ?_
      cases hF
      exact leafH X hP hD hS d_Law_forge_13
    · have hF := ifn hF c_3
      cases hF
theorem d_Law_give_0 : decode b_Law_give 0 = .ok (.aload_n 2, 1) := by decide +kernel
theorem d_Law_give_1 : decode b_Law_give 1 = .ok (.iconst 0, 1) := by decide +kernel
theorem d_Law_give_2 : decode b_Law_give 2 = .ok (.aload_n 0, 1) := by decide +kernel
theorem d_Law_give_3 : decode b_Law_give 3 = .ok (.iload_n 1, 1) := by decide +kernel
theorem d_Law_give_4 : decode b_Law_give 4 = .ok (.invokevirtual 23, 3) := by decide +kernel
theorem d_Law_give_7 : decode b_Law_give 7 = .ok (.i2l, 1) := by decide +kernel
theorem d_Law_give_8 : decode b_Law_give 8 = .ok (.lastore, 1) := by decide +kernel
theorem d_Law_give_9 : decode b_Law_give 9 = .ok (.goto 6, 3) := by decide +kernel
theorem d_Law_give_12 : decode b_Law_give 12 = .ok (.astore_n 3, 1) := by decide +kernel
theorem d_Law_give_13 : decode b_Law_give 13 = .ok (.iconst 1, 1) := by decide +kernel
theorem d_Law_give_14 : decode b_Law_give 14 = .ok (.ireturn, 1) := by decide +kernel
theorem d_Law_give_15 : decode b_Law_give 15 = .ok (.iconst 0, 1) := by decide +kernel
theorem d_Law_give_16 : decode b_Law_give 16 = .ok (.ireturn, 1) := by decide +kernel
def tLaw_give (σ : St) (a2 : Int32) : Option (Int32 × St) := b3 (tForge_give σ a2) (fun k1 r1 u1 => if k1 = 0 then gd (inB 0 1) (some (0, (sL u1 3 (vp_updL (u1.2.2.2 3) (0 : Int32).toNatClampNeg ((r1 : Int32).toInt64))))) else if k1 = 2 then some (1, u1) else none)
set_option maxHeartbeats 4000000 in
set_option maxRecDepth 100000 in
theorem ct_Law_give (l : Launch) (htr : l.stackTraces = false) (dC : Nat → ClassId) (dI : Nat → Nat → Nat) (ad : Nat → Nat) (cA : Nat → ClassId) (sz : Nat) {σ : St} {a2 : Int32} {r : Int32} {σ' : St} (hF : tLaw_give σ a2 = some (r, σ')) : MH l y_Law_give b_Law_give 4 (some .int) [(0, 9, 12, 15)] { frames := 10, cells := 1, slots := 6, locals := 162 } (dC, dI) (ttys cA) ad (tcw ad cA) [.ref (ad 10), .int a2, .ref (ad 59)] σ sz r σ' := by
  refine startH (own := "TinyForgeLaw") rfl rfl (Nat.le_of_ble_eq_true rfl) ?_
  intro p e s m below meth c A H locs ls X hex hS0 hNc hP hD hS hl
  have hl : lv_has ls 4 [(0, .ref (ad 10)), (1, .int a2), (2, .ref (ad 59))] := hl
  obtain ⟨hx, hb, hr, hml, hown, hlocks, hts, hA, hK, hZ⟩ := id X
  unfold tLaw_give at hF
  refine lv_aload_n hx hb d_Law_give_0 rfl (lv_at hl 2 rfl) ?_
  refine lv_iconst (v := 0) hx hb d_Law_give_1 (by decide) ?_
  refine lv_aload_n hx hb d_Law_give_2 rfl (lv_at hl 0 rfl) ?_
  refine lv_iload_n hx hb d_Law_give_3 rfl (lv_at hl 1 rfl) ?_
  obtain ⟨k1, r1, u1, h1, hF⟩ := b3E hF
  refine callVX (As := [.int a2]) X hS0 (ct_Forge_give l htr dC dI ad cA H.size h1) lk_Law_23 ⟨rfl, rfl, by decide, by decide⟩ ⟨by decide, by decide⟩ 10 rfl rfl hP hD hS hl.1 rfl rfl (Nat.le_of_ble_eq_true rfl) d_Law_give_4 (fun c_1 H locs hP hD hS => ?_) (fun c_1 H locs q1 ce T1 hP hD hS hce hcv hcl hT1 Y => ?_)
  · have hF := ifp hF c_1
    refine lv_i2l (v := (r1 : Int32).toInt64) hx hb d_Law_give_7 rfl ?_
    obtain ⟨g_2, hF⟩ := gdE hF
    refine va_last (f := (u1.2.2.2 3)) hx hb hK hP hD hS 59 1 rfl rfl (inE g_2) d_Law_give_8 (fun H locs hP hD hS => ?_)
    have hP : va_P (dC, dI) vwCl (tcw ad cA (sL u1 3 (vp_updL (u1.2.2.2 3) (0 : Int32).toNatClampNeg ((r1 : Int32).toInt64)))) H := hP
    have hD : va_D A (tcw ad cA (sL u1 3 (vp_updL (u1.2.2.2 3) (0 : Int32).toNatClampNeg ((r1 : Int32).toInt64)))) := hD
    refine lv_goto (tgt := 15) hx hb d_Law_give_9 (by decide) ?_
    refine lv_iconst (v := 0) hx hb d_Law_give_15 (by decide) ?_
    cases hF
    exact leafH X hP hD hS d_Law_give_16
  · have hF := ifn hF c_1
    by_cases c_3 : k1 = 2
    · have hF := ifp hF c_3
      subst c_3
      refine catch1 (k := 2) X hS0 hex (by decide) (by decide) w_7fa1ab8612 (by decide +kernel) hce hcv hcl hT1 Y ?_
      refine W.eq (g2 := F0 m 12 ls [.ref q1]) rfl ?_
      refine lv_astore_n (lv' := [(3, .ref q1), (0, .ref (ad 10)), (1, .int a2), (2, .ref (ad 59))]) hx hb d_Law_give_12 rfl hl (by decide) rfl (fun ls hl => ?_)
      refine lv_iconst (v := 1) hx hb d_Law_give_13 (by decide) ?_
      cases hF
      exact leafH X hP hD hS d_Law_give_14
    · have hF := ifn hF c_3
      cases hF
theorem d_Law_run_0 : decode b_Law_run 0 = .ok (.aload_n 1, 1) := by decide +kernel
theorem d_Law_run_1 : decode b_Law_run 1 = .ok (.iconst 0, 1) := by decide +kernel
theorem d_Law_run_2 : decode b_Law_run 2 = .ok (.aload_n 0, 1) := by decide +kernel
theorem d_Law_run_3 : decode b_Law_run 3 = .ok (.invokevirtual 27, 3) := by decide +kernel
theorem d_Law_run_6 : decode b_Law_run 6 = .ok (.i2l, 1) := by decide +kernel
theorem d_Law_run_7 : decode b_Law_run 7 = .ok (.lastore, 1) := by decide +kernel
theorem d_Law_run_8 : decode b_Law_run 8 = .ok (.goto 6, 3) := by decide +kernel
theorem d_Law_run_11 : decode b_Law_run 11 = .ok (.astore_n 2, 1) := by decide +kernel
theorem d_Law_run_12 : decode b_Law_run 12 = .ok (.iconst 1, 1) := by decide +kernel
theorem d_Law_run_13 : decode b_Law_run 13 = .ok (.ireturn, 1) := by decide +kernel
theorem d_Law_run_14 : decode b_Law_run 14 = .ok (.iconst 0, 1) := by decide +kernel
theorem d_Law_run_15 : decode b_Law_run 15 = .ok (.ireturn, 1) := by decide +kernel
def tLaw_run (σ : St) : Option (Int32 × St) := b3 (tForge_run σ) (fun k1 r1 u1 => if k1 = 0 then gd (inB 0 1) (some (0, (sL u1 3 (vp_updL (u1.2.2.2 3) (0 : Int32).toNatClampNeg ((r1 : Int32).toInt64))))) else if k1 = 4 then some (1, u1) else none)
set_option maxHeartbeats 4000000 in
set_option maxRecDepth 100000 in
theorem ct_Law_run (l : Launch) (htr : l.stackTraces = false) (dC : Nat → ClassId) (dI : Nat → Nat → Nat) (ad : Nat → Nat) (cA : Nat → ClassId) (sz : Nat) {σ : St} {r : Int32} {σ' : St} (hF : tLaw_run σ = some (r, σ')) : MH l y_Law_run b_Law_run 3 (some .int) [(0, 8, 11, 30)] { frames := 14, cells := 1, slots := 6, locals := 250 } (dC, dI) (ttys cA) ad (tcw ad cA) [.ref (ad 10), .ref (ad 59)] σ sz r σ' := by
  refine startH (own := "TinyForgeLaw") rfl rfl (Nat.le_of_ble_eq_true rfl) ?_
  intro p e s m below meth c A H locs ls X hex hS0 hNc hP hD hS hl
  have hl : lv_has ls 3 [(0, .ref (ad 10)), (1, .ref (ad 59))] := hl
  obtain ⟨hx, hb, hr, hml, hown, hlocks, hts, hA, hK, hZ⟩ := id X
  unfold tLaw_run at hF
  refine lv_aload_n hx hb d_Law_run_0 rfl (lv_at hl 1 rfl) ?_
  refine lv_iconst (v := 0) hx hb d_Law_run_1 (by decide) ?_
  refine lv_aload_n hx hb d_Law_run_2 rfl (lv_at hl 0 rfl) ?_
  obtain ⟨k1, r1, u1, h1, hF⟩ := b3E hF
  refine callVX (As := []) X hS0 (ct_Forge_run l htr dC dI ad cA H.size h1) lk_Law_27 ⟨rfl, rfl, by decide, by decide⟩ ⟨by decide, by decide⟩ 10 rfl rfl hP hD hS hl.1 rfl rfl (Nat.le_of_ble_eq_true rfl) d_Law_run_3 (fun c_1 H locs hP hD hS => ?_) (fun c_1 H locs q1 ce T1 hP hD hS hce hcv hcl hT1 Y => ?_)
  · have hF := ifp hF c_1
    refine lv_i2l (v := (r1 : Int32).toInt64) hx hb d_Law_run_6 rfl ?_
    obtain ⟨g_2, hF⟩ := gdE hF
    refine va_last (f := (u1.2.2.2 3)) hx hb hK hP hD hS 59 1 rfl rfl (inE g_2) d_Law_run_7 (fun H locs hP hD hS => ?_)
    have hP : va_P (dC, dI) vwCl (tcw ad cA (sL u1 3 (vp_updL (u1.2.2.2 3) (0 : Int32).toNatClampNeg ((r1 : Int32).toInt64)))) H := hP
    have hD : va_D A (tcw ad cA (sL u1 3 (vp_updL (u1.2.2.2 3) (0 : Int32).toNatClampNeg ((r1 : Int32).toInt64)))) := hD
    refine lv_goto (tgt := 14) hx hb d_Law_run_8 (by decide) ?_
    refine lv_iconst (v := 0) hx hb d_Law_run_14 (by decide) ?_
    cases hF
    exact leafH X hP hD hS d_Law_run_15
  · have hF := ifn hF c_1
    by_cases c_3 : k1 = 4
    · have hF := ifp hF c_3
      subst c_3
      refine catch1 (k := 4) X hS0 hex (by decide) (by decide) w_1bf449bfa6 (by decide +kernel) hce hcv hcl hT1 Y ?_
      refine W.eq (g2 := F0 m 11 ls [.ref q1]) rfl ?_
      refine lv_astore_n (lv' := [(2, .ref q1), (0, .ref (ad 10)), (1, .ref (ad 59))]) hx hb d_Law_run_11 rfl hl (by decide) rfl (fun ls hl => ?_)
      refine lv_iconst (v := 1) hx hb d_Law_run_12 (by decide) ?_
      cases hF
      exact leafH X hP hD hS d_Law_run_13
    · have hF := ifn hF c_3
      cases hF
theorem d_Law_type_0 : decode b_Law_type 0 = .ok (.aload 4, 2) := by decide +kernel
theorem d_Law_type_2 : decode b_Law_type 2 = .ok (.iconst 0, 1) := by decide +kernel
theorem d_Law_type_3 : decode b_Law_type 3 = .ok (.aload_n 0, 1) := by decide +kernel
theorem d_Law_type_4 : decode b_Law_type 4 = .ok (.lload_n 1, 1) := by decide +kernel
theorem d_Law_type_5 : decode b_Law_type 5 = .ok (.iload_n 3, 1) := by decide +kernel
theorem d_Law_type_6 : decode b_Law_type 6 = .ok (.invokevirtual 7, 3) := by decide +kernel
theorem d_Law_type_9 : decode b_Law_type 9 = .ok (.i2l, 1) := by decide +kernel
theorem d_Law_type_10 : decode b_Law_type 10 = .ok (.lastore, 1) := by decide +kernel
theorem d_Law_type_11 : decode b_Law_type 11 = .ok (.goto 11, 3) := by decide +kernel
theorem d_Law_type_14 : decode b_Law_type 14 = .ok (.astore 5, 2) := by decide +kernel
theorem d_Law_type_16 : decode b_Law_type 16 = .ok (.iconst 1, 1) := by decide +kernel
theorem d_Law_type_17 : decode b_Law_type 17 = .ok (.ireturn, 1) := by decide +kernel
theorem d_Law_type_18 : decode b_Law_type 18 = .ok (.astore 5, 2) := by decide +kernel
theorem d_Law_type_20 : decode b_Law_type 20 = .ok (.iconst 2, 1) := by decide +kernel
theorem d_Law_type_21 : decode b_Law_type 21 = .ok (.ireturn, 1) := by decide +kernel
theorem d_Law_type_22 : decode b_Law_type 22 = .ok (.iconst 0, 1) := by decide +kernel
theorem d_Law_type_23 : decode b_Law_type 23 = .ok (.ireturn, 1) := by decide +kernel
def tLaw_type (σ : St) (a2 : Int64) (a3 : Int32) : Option (Int32 × St) := b3 (tForge_type σ a2 a3) (fun k1 r1 u1 => if k1 = 0 then gd (inB 0 1) (some (0, (sL u1 3 (vp_updL (u1.2.2.2 3) (0 : Int32).toNatClampNeg ((r1 : Int32).toInt64))))) else if k1 = 1 then some (1, u1) else if k1 = 2 then some (2, u1) else none)
set_option maxHeartbeats 4000000 in
set_option maxRecDepth 100000 in
theorem ct_Law_type (l : Launch) (htr : l.stackTraces = false) (dC : Nat → ClassId) (dI : Nat → Nat → Nat) (ad : Nat → Nat) (cA : Nat → ClassId) (sz : Nat) {σ : St} {a2 : Int64} {a3 : Int32} {r : Int32} {σ' : St} (hF : tLaw_type σ a2 a3 = some (r, σ')) : MH l y_Law_type b_Law_type 6 (some .int) [(0, 11, 14, 13), (0, 11, 18, 15)] { frames := 11, cells := 1, slots := 6, locals := 189 } (dC, dI) (ttys cA) ad (tcw ad cA) [.ref (ad 10), .long a2, .int a3, .ref (ad 59)] σ sz r σ' := by
  refine startH (own := "TinyForgeLaw") rfl rfl (Nat.le_of_ble_eq_true rfl) ?_
  intro p e s m below meth c A H locs ls X hex hS0 hNc hP hD hS hl
  have hl : lv_has ls 6 [(0, .ref (ad 10)), (1, .long a2), (3, .int a3), (4, .ref (ad 59))] := hl
  obtain ⟨hx, hb, hr, hml, hown, hlocks, hts, hA, hK, hZ⟩ := id X
  unfold tLaw_type at hF
  refine lv_aload hx hb d_Law_type_0 (lv_at hl 3 rfl) ?_
  refine lv_iconst (v := 0) hx hb d_Law_type_2 (by decide) ?_
  refine lv_aload_n hx hb d_Law_type_3 rfl (lv_at hl 0 rfl) ?_
  refine lv_lload_n hx hb d_Law_type_4 rfl (lv_at hl 1 rfl) ?_
  refine lv_iload_n hx hb d_Law_type_5 rfl (lv_at hl 2 rfl) ?_
  obtain ⟨k1, r1, u1, h1, hF⟩ := b3E hF
  refine callVX (As := [.long a2, .int a3]) X hS0 (ct_Forge_type l htr dC dI ad cA H.size h1) lk_Law_7 ⟨rfl, rfl, by decide, by decide⟩ ⟨by decide, by decide⟩ 10 rfl rfl hP hD hS hl.1 rfl rfl (Nat.le_of_ble_eq_true rfl) d_Law_type_6 (fun c_1 H locs hP hD hS => ?_) (fun c_1 H locs q1 ce T1 hP hD hS hce hcv hcl hT1 Y => ?_)
  · have hF := ifp hF c_1
    refine lv_i2l (v := (r1 : Int32).toInt64) hx hb d_Law_type_9 rfl ?_
    obtain ⟨g_2, hF⟩ := gdE hF
    refine va_last (f := (u1.2.2.2 3)) hx hb hK hP hD hS 59 1 rfl rfl (inE g_2) d_Law_type_10 (fun H locs hP hD hS => ?_)
    have hP : va_P (dC, dI) vwCl (tcw ad cA (sL u1 3 (vp_updL (u1.2.2.2 3) (0 : Int32).toNatClampNeg ((r1 : Int32).toInt64)))) H := hP
    have hD : va_D A (tcw ad cA (sL u1 3 (vp_updL (u1.2.2.2 3) (0 : Int32).toNatClampNeg ((r1 : Int32).toInt64)))) := hD
    refine lv_goto (tgt := 22) hx hb d_Law_type_11 (by decide) ?_
    refine lv_iconst (v := 0) hx hb d_Law_type_22 (by decide) ?_
    cases hF
    exact leafH X hP hD hS d_Law_type_23
  · have hF := ifn hF c_1
    by_cases c_3 : k1 = 1
    · have hF := ifp hF c_3
      subst c_3
      refine catch1 (k := 1) X hS0 hex (by decide) (by decide) w_30a25a4b4e (by decide +kernel) hce hcv hcl hT1 Y ?_
      refine W.eq (g2 := F0 m 14 ls [.ref q1]) rfl ?_
      refine lv_astore (lv' := [(5, .ref q1), (0, .ref (ad 10)), (1, .long a2), (3, .int a3), (4, .ref (ad 59))]) hx hb d_Law_type_14 hl (by decide) rfl (fun ls hl => ?_)
      refine lv_iconst (v := 1) hx hb d_Law_type_16 (by decide) ?_
      cases hF
      exact leafH X hP hD hS d_Law_type_17
    · have hF := ifn hF c_3
      by_cases c_4 : k1 = 2
      · have hF := ifp hF c_4
        subst c_4
        refine catch2 (k := 2) (k2 := 1) X hS0 hex (by decide) (by decide) w_30a25a4b4e hNc (by decide) (by decide) w_7fa1ab8612 (by decide +kernel) hce hcv hcl hT1 Y ?_
        refine W.eq (g2 := F0 m 18 ls [.ref q1]) rfl ?_
        refine lv_astore (lv' := [(5, .ref q1), (0, .ref (ad 10)), (1, .long a2), (3, .int a3), (4, .ref (ad 59))]) hx hb d_Law_type_18 hl (by decide) rfl (fun ls hl => ?_)
        refine lv_iconst (v := 2) hx hb d_Law_type_20 (by decide) ?_
        cases hF
        exact leafH X hP hD hS d_Law_type_21
      · have hF := ifn hF c_4
        cases hF
