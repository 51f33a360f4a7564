theorem d_Preconditions_checkIndex_0 : decode b_Preconditions_checkIndex 0 = .ok (.iload_n 0, 1) := by decide +kernel
theorem d_Preconditions_checkIndex_1 : decode b_Preconditions_checkIndex 1 = .ok (.ifCond .lt 8, 3) := by decide +kernel
theorem d_Preconditions_checkIndex_4 : decode b_Preconditions_checkIndex 4 = .ok (.iload_n 0, 1) := by decide +kernel
theorem d_Preconditions_checkIndex_5 : decode b_Preconditions_checkIndex 5 = .ok (.iload_n 1, 1) := by decide +kernel
theorem d_Preconditions_checkIndex_6 : decode b_Preconditions_checkIndex 6 = .ok (.if_icmp .lt 10, 3) := by decide +kernel
theorem d_Preconditions_checkIndex_9 : decode b_Preconditions_checkIndex 9 = .ok (.aload_n 2, 1) := by decide +kernel
theorem d_Preconditions_checkIndex_10 : decode b_Preconditions_checkIndex 10 = .ok (.iload_n 0, 1) := by decide +kernel
theorem d_Preconditions_checkIndex_11 : decode b_Preconditions_checkIndex 11 = .ok (.iload_n 1, 1) := by decide +kernel
theorem d_Preconditions_checkIndex_12 : decode b_Preconditions_checkIndex 12 = .ok (.invokestatic 95, 3) := by decide +kernel
theorem d_Preconditions_checkIndex_15 : decode b_Preconditions_checkIndex 15 = .ok (.athrow, 1) := by decide +kernel
theorem d_Preconditions_checkIndex_16 : decode b_Preconditions_checkIndex 16 = .ok (.iload_n 0, 1) := by decide +kernel
theorem d_Preconditions_checkIndex_17 : decode b_Preconditions_checkIndex 17 = .ok (.ireturn, 1) := by decide +kernel
def tPreconditions_checkIndex (σ : St) (a1 : Int32) (a2 : Int32) : Option (Int32) := if a1 < 0 then none else if a1 < a2 then some a1 else none
set_option maxHeartbeats 4000000 in
set_option maxRecDepth 100000 in
theorem ct_Preconditions_checkIndex (l : Launch) (dC : Nat → ClassId) (dI : Nat → Nat → Nat) (ad : Nat → Nat) (cA : Nat → ClassId) (sz : Nat) {σ : St} {a1 : Int32} {a2 : Int32} {r : Int32} {q3 : Value} (hq3 : q3 = .null ∨ ∃ t : Nat, q3 = .ref t) (hF : tPreconditions_checkIndex σ a1 a2 = some r) : MI l y_Preconditions_checkIndex b_Preconditions_checkIndex 3 (some .int) { frames := 0, cells := 0, slots := 0, locals := 0 } (dC, dI) (ttys cA) ad (tcw ad cA) [.int a1, .int a2, q3] σ sz r σ := by
  refine startM (own := "jdk/internal/util/Preconditions") (Qc := fun A => QI (dC, dI) (ttys cA) (tcw ad cA) A r σ) rfl rfl (by rcases hq3 with rfl | ⟨t, rfl⟩ <;> exact Nat.le_of_ble_eq_true rfl) ?_
  intro p e s m below meth c A H locs ls X hP hD hS hl
  have hl : lv_has ls 3 [(0, .int a1), (1, .int a2), (2, q3)] := hl
  obtain ⟨hx, hb, hr, hml, hown, hlocks, hts, hA, hK, hZ⟩ := id X
  unfold tPreconditions_checkIndex at hF
  refine lv_iload_n hx hb d_Preconditions_checkIndex_0 rfl (lv_at hl 0 rfl) ?_
  refine lv_if_lt (tgt := 9) hx hb d_Preconditions_checkIndex_1 (by decide) (fun c_1 => ?_) (fun c_1 => ?_)
  · have hF := ifp hF c_1
    cases hF
  · have hF := ifn hF c_1
    refine lv_iload_n hx hb d_Preconditions_checkIndex_4 rfl (lv_at hl 0 rfl) ?_
    refine lv_iload_n hx hb d_Preconditions_checkIndex_5 rfl (lv_at hl 1 rfl) ?_
    refine lv_icmp_lt (tgt := 16) hx hb d_Preconditions_checkIndex_6 (by decide) (fun c_2 => ?_) (fun c_2 => ?_)
    · have hF := ifp hF c_2
      refine lv_iload_n hx hb d_Preconditions_checkIndex_16 rfl (lv_at hl 0 rfl) ?_
      cases hF
      exact leafI X hP hD hS d_Preconditions_checkIndex_17
    · have hF := ifn hF c_2
      cases hF
theorem d_String_checkIndex_0 : decode b_String_checkIndex 0 = .ok (.iload_n 0, 1) := by decide +kernel
theorem d_String_checkIndex_1 : decode b_String_checkIndex 1 = .ok (.iload_n 1, 1) := by decide +kernel
theorem d_String_checkIndex_2 : decode b_String_checkIndex 2 = .ok (.getstatic 1053, 3) := by decide +kernel
theorem d_String_checkIndex_5 : decode b_String_checkIndex 5 = .ok (.invokestatic 1059, 3) := by decide +kernel
theorem d_String_checkIndex_8 : decode b_String_checkIndex 8 = .ok (.pop, 1) := by decide +kernel
theorem d_String_checkIndex_9 : decode b_String_checkIndex 9 = .ok (.return_, 1) := by decide +kernel
def tString_checkIndex (σ : St) (a1 : Int32) (a2 : Int32) : Option (Unit) := b1 (tPreconditions_checkIndex σ a1 a2) (fun r2 => some ())
set_option maxHeartbeats 4000000 in
set_option maxRecDepth 100000 in
theorem ct_String_checkIndex (l : Launch) (dC : Nat → ClassId) (dI : Nat → Nat → Nat) (ad : Nat → Nat) (cA : Nat → ClassId) (sz : Nat) {σ : St} {a1 : Int32} {a2 : Int32} {v : Unit} (hF : tString_checkIndex σ a1 a2 = some v) : MV l y_String_checkIndex b_String_checkIndex 2 none { frames := 1, cells := 0, slots := 0, locals := 22 } (dC, dI) (ttys cA) ad (tcw ad cA) [.int a1, .int a2] σ sz σ := by
  refine startM (own := "java/lang/String") (Qc := fun A => QV (dC, dI) (ttys cA) (tcw ad cA) A σ) rfl rfl (Nat.le_of_ble_eq_true rfl) ?_
  intro p e s m below meth c A H locs ls X hP hD hS hl
  have hl : lv_has ls 2 [(0, .int a1), (1, .int a2)] := hl
  obtain ⟨hx, hb, hr, hml, hown, hlocks, hts, hA, hK, hZ⟩ := id X
  unfold tString_checkIndex at hF
  refine lv_iload_n hx hb d_String_checkIndex_0 rfl (lv_at hl 0 rfl) ?_
  refine lv_iload_n hx hb d_String_checkIndex_1 rfl (lv_at hl 1 rfl) ?_
  obtain ⟨q_1, hq_1, hv_1⟩ := hZ.2.2.2
  refine va_gets hx hb hv_1 hS hown (hts _ w_9bd18de021) (fun _ h9 => h9) d_String_checkIndex_2 ?_
  obtain ⟨r2, h2, hF⟩ := b1E hF
  refine callSI (As := [.int a1, .int a2, q_1]) X (ct_Preconditions_checkIndex l dC dI ad cA H.size hq_1 h2) lk_String_1059 ⟨rfl, rfl, by decide, by decide⟩ hP hD hS hl.1 rfl rfl (Nat.le_of_ble_eq_true rfl) d_String_checkIndex_5 (fun H locs hP hD hS => ?_)
  refine lv_pop hx hb d_String_checkIndex_8 rfl ?_
  cases hF
  exact leafV X hP hD hS d_String_checkIndex_9
theorem d_StringLatin1_charAt_0 : decode b_StringLatin1_charAt 0 = .ok (.iload_n 1, 1) := by decide +kernel
theorem d_StringLatin1_charAt_1 : decode b_StringLatin1_charAt 1 = .ok (.aload_n 0, 1) := by decide +kernel
theorem d_StringLatin1_charAt_2 : decode b_StringLatin1_charAt 2 = .ok (.arraylength, 1) := by decide +kernel
theorem d_StringLatin1_charAt_3 : decode b_StringLatin1_charAt 3 = .ok (.invokestatic 9, 3) := by decide +kernel
theorem d_StringLatin1_charAt_6 : decode b_StringLatin1_charAt 6 = .ok (.aload_n 0, 1) := by decide +kernel
theorem d_StringLatin1_charAt_7 : decode b_StringLatin1_charAt 7 = .ok (.iload_n 1, 1) := by decide +kernel
theorem d_StringLatin1_charAt_8 : decode b_StringLatin1_charAt 8 = .ok (.baload, 1) := by decide +kernel
theorem d_StringLatin1_charAt_9 : decode b_StringLatin1_charAt 9 = .ok (.sipush 255, 3) := by decide +kernel
theorem d_StringLatin1_charAt_12 : decode b_StringLatin1_charAt 12 = .ok (.iand, 1) := by decide +kernel
theorem d_StringLatin1_charAt_13 : decode b_StringLatin1_charAt 13 = .ok (.i2c, 1) := by decide +kernel
theorem d_StringLatin1_charAt_14 : decode b_StringLatin1_charAt 14 = .ok (.ireturn, 1) := by decide +kernel
def tStringLatin1_charAt (σ : St) (a1 : Nat) (a2 : Int32) : Option (Int32) := gd (sB a1) (b1 (tString_checkIndex σ a2 (Int32.ofNat (sLen a1))) (fun v1 => gd (inB a2 (sLen a1)) (gd (nC (((((sByte a1 a2.toNatClampNeg) &&& 255) : Int32).toUInt32 % 65536).toInt32)) (some (((((sByte a1 a2.toNatClampNeg) &&& 255) : Int32).toUInt32 % 65536).toInt32)))))
set_option maxHeartbeats 4000000 in
set_option maxRecDepth 100000 in
theorem ct_StringLatin1_charAt (l : Launch) (dC : Nat → ClassId) (dI : Nat → Nat → Nat) (ad : Nat → Nat) (cA : Nat → ClassId) (sz : Nat) {σ : St} {a1 : Nat} {a2 : Int32} {r : Int32} (hF : tStringLatin1_charAt σ a1 a2 = some r) : MI l y_StringLatin1_charAt b_StringLatin1_charAt 2 (some .char) { frames := 2, cells := 0, slots := 0, locals := 43 } (dC, dI) (ttys cA) ad (tcw ad cA) [.ref (ad (200 + a1)), .int a2] σ sz r σ := by
  refine startM (own := "java/lang/StringLatin1") (Qc := fun A => QI (dC, dI) (ttys cA) (tcw ad cA) A r σ) rfl rfl (Nat.le_of_ble_eq_true rfl) ?_
  intro p e s m below meth c A H locs ls X hP hD hS hl
  have hl : lv_has ls 2 [(0, .ref (ad (200 + a1))), (1, .int a2)] := hl
  obtain ⟨hx, hb, hr, hml, hown, hlocks, hts, hA, hK, hZ⟩ := id X
  unfold tStringLatin1_charAt at hF
  obtain ⟨hs_a1, hF⟩ := gdE hF
  refine lv_iload_n hx hb d_StringLatin1_charAt_0 rfl (lv_at hl 1 rfl) ?_
  refine lv_aload_n hx hb d_StringLatin1_charAt_1 rfl (lv_at hl 0 rfl) ?_
  refine va_tlen (v := (Int32.ofNat (sLen a1))) hx hb (hZ.1.1 a1 (sBE hs_a1)).2.2.2 hS rfl d_StringLatin1_charAt_2 ?_
  obtain ⟨v1, h1, hF⟩ := b1E hF
  refine callSV (As := [.int a2, .int (Int32.ofNat (sLen a1))]) X (ct_String_checkIndex l dC dI ad cA H.size h1) lk_StringLatin1_9 ⟨rfl, rfl, by decide, by decide⟩ hP hD hS hl.1 rfl rfl (Nat.le_of_ble_eq_true rfl) d_StringLatin1_charAt_3 (fun H locs hP hD hS => ?_)
  refine lv_aload_n hx hb d_StringLatin1_charAt_6 rfl (lv_at hl 0 rfl) ?_
  refine lv_iload_n hx hb d_StringLatin1_charAt_7 rfl (lv_at hl 1 rfl) ?_
  obtain ⟨g_2, hF⟩ := gdE hF
  refine va_tb (v := .int (sByte a1 a2.toNatClampNeg)) hx hb (hZ.1.1 a1 (sBE hs_a1)).2.2.2 hS (inE g_2) rfl d_StringLatin1_charAt_8 ?_
  refine lv_sipush (v := 255) hx hb d_StringLatin1_charAt_9 (by decide) ?_
  refine lv_iand hx hb d_StringLatin1_charAt_12 ?_
  refine lv_i2c (v := ((((sByte a1 a2.toNatClampNeg) &&& 255) : Int32).toUInt32 % 65536).toInt32) hx hb d_StringLatin1_charAt_13 rfl ?_
  obtain ⟨g_3, hF⟩ := gdE hF
  cases hF
  exact leafZ X hP hD hS (nCN g_3) d_StringLatin1_charAt_14
theorem d_String_isLatin1_0 : decode b_String_isLatin1 0 = .ok (.getstatic 38, 3) := by decide +kernel
theorem d_String_isLatin1_3 : decode b_String_isLatin1 3 = .ok (.ifCond .eq 14, 3) := by decide +kernel
theorem d_String_isLatin1_6 : decode b_String_isLatin1 6 = .ok (.aload_n 0, 1) := by decide +kernel
theorem d_String_isLatin1_7 : decode b_String_isLatin1 7 = .ok (.getfield 15, 3) := by decide +kernel
theorem d_String_isLatin1_10 : decode b_String_isLatin1 10 = .ok (.ifCond .ne 7, 3) := by decide +kernel
theorem d_String_isLatin1_13 : decode b_String_isLatin1 13 = .ok (.iconst 1, 1) := by decide +kernel
theorem d_String_isLatin1_14 : decode b_String_isLatin1 14 = .ok (.goto 4, 3) := by decide +kernel
theorem d_String_isLatin1_17 : decode b_String_isLatin1 17 = .ok (.iconst 0, 1) := by decide +kernel
theorem d_String_isLatin1_18 : decode b_String_isLatin1 18 = .ok (.ireturn, 1) := by decide +kernel
def tString_isLatin1 (σ : St) (a0 : Nat) : Option (Int32) := gd (sB a0) (if (1 : Int32) = 0 then some 0 else if (0 : Int32) = 0 then some 1 else some 0)
set_option maxHeartbeats 4000000 in
set_option maxRecDepth 100000 in
theorem ct_String_isLatin1 (l : Launch) (dC : Nat → ClassId) (dI : Nat → Nat → Nat) (ad : Nat → Nat) (cA : Nat → ClassId) (sz : Nat) {σ : St} {a0 : Nat} {r : Int32} (hF : tString_isLatin1 σ a0 = some r) : MI l y_String_isLatin1 b_String_isLatin1 1 (some .boolean) { frames := 0, cells := 0, slots := 0, locals := 0 } (dC, dI) (ttys cA) ad (tcw ad cA) [.ref (ad (100 + a0))] σ sz r σ := by
  refine startM (own := "java/lang/String") (Qc := fun A => QI (dC, dI) (ttys cA) (tcw ad cA) A r σ) rfl rfl (Nat.le_of_ble_eq_true rfl) ?_
  intro p e s m below meth c A H locs ls X hP hD hS hl
  have hl : lv_has ls 1 [(0, .ref (ad (100 + a0)))] := hl
  obtain ⟨hx, hb, hr, hml, hown, hlocks, hts, hA, hK, hZ⟩ := id X
  unfold tString_isLatin1 at hF
  obtain ⟨hs_a0, hF⟩ := gdE hF
  refine va_gets hx hb hZ.2.2.1 hS hown (hts _ w_193842c612) (fun _ h9 => h9) d_String_isLatin1_0 ?_
  refine lv_if_eq (tgt := 17) hx hb d_String_isLatin1_3 (by decide) (fun c_1 => ?_) (fun c_1 => ?_)
  · have hF := ifp hF c_1
    refine lv_iconst (v := 0) hx hb d_String_isLatin1_17 (by decide) ?_
    cases hF
    exact leafZ X hP hD hS (by decide) d_String_isLatin1_18
  · have hF := ifn hF c_1
    refine lv_aload_n hx hb d_String_isLatin1_6 rfl (lv_at hl 0 rfl) ?_
    refine vk_getf hx hb (hZ.1.1 a0 (sBE hs_a0)).2.1 hS hown (hts _ w_16e810f99d) (fun _ h9 => h9) d_String_isLatin1_7 ?_
    refine lv_if_ne (tgt := 17) hx hb d_String_isLatin1_10 (by decide) (fun c_2 => ?_) (fun c_2 => ?_)
    · have hF := ifn hF c_2
      refine lv_iconst (v := 0) hx hb d_String_isLatin1_17 (by decide) ?_
      cases hF
      exact leafZ X hP hD hS (by decide) d_String_isLatin1_18
    · have hF := ifp hF c_2
      refine lv_iconst (v := 1) hx hb d_String_isLatin1_13 (by decide) ?_
      refine lv_goto (tgt := 18) hx hb d_String_isLatin1_14 (by decide) ?_
      cases hF
      exact leafZ X hP hD hS (by decide) d_String_isLatin1_18
theorem d_String_charAt_0 : decode b_String_charAt 0 = .ok (.aload_n 0, 1) := by decide +kernel
theorem d_String_charAt_1 : decode b_String_charAt 1 = .ok (.invokevirtual 492, 3) := by decide +kernel
theorem d_String_charAt_4 : decode b_String_charAt 4 = .ok (.ifCond .eq 12, 3) := by decide +kernel
theorem d_String_charAt_7 : decode b_String_charAt 7 = .ok (.aload_n 0, 1) := by decide +kernel
theorem d_String_charAt_8 : decode b_String_charAt 8 = .ok (.getfield 9, 3) := by decide +kernel
theorem d_String_charAt_11 : decode b_String_charAt 11 = .ok (.iload_n 1, 1) := by decide +kernel
theorem d_String_charAt_12 : decode b_String_charAt 12 = .ok (.invokestatic 495, 3) := by decide +kernel
theorem d_String_charAt_15 : decode b_String_charAt 15 = .ok (.ireturn, 1) := by decide +kernel
theorem d_String_charAt_16 : decode b_String_charAt 16 = .ok (.aload_n 0, 1) := by decide +kernel
theorem d_String_charAt_17 : decode b_String_charAt 17 = .ok (.getfield 9, 3) := by decide +kernel
theorem d_String_charAt_20 : decode b_String_charAt 20 = .ok (.iload_n 1, 1) := by decide +kernel
theorem d_String_charAt_21 : decode b_String_charAt 21 = .ok (.invokestatic 498, 3) := by decide +kernel
theorem d_String_charAt_24 : decode b_String_charAt 24 = .ok (.ireturn, 1) := by decide +kernel
def tString_charAt (σ : St) (a0 : Nat) (a1 : Int32) : Option (Int32) := gd (sB a0) (b1 (tString_isLatin1 σ a0) (fun r1 => if r1 = 0 then none else b1 (tStringLatin1_charAt σ a0 a1) (fun r3 => gd (nC r3) (some r3))))
set_option maxHeartbeats 4000000 in
set_option maxRecDepth 100000 in
theorem ct_String_charAt (l : Launch) (dC : Nat → ClassId) (dI : Nat → Nat → Nat) (ad : Nat → Nat) (cA : Nat → ClassId) (sz : Nat) {σ : St} {a0 : Nat} {a1 : Int32} {r : Int32} (hF : tString_charAt σ a0 a1 = some r) : MI l y_String_charAt b_String_charAt 2 (some .char) { frames := 3, cells := 0, slots := 0, locals := 64 } (dC, dI) (ttys cA) ad (tcw ad cA) [.ref (ad (100 + a0)), .int a1] σ sz r σ := by
  refine startM (own := "java/lang/String") (Qc := fun A => QI (dC, dI) (ttys cA) (tcw ad cA) A r σ) rfl rfl (Nat.le_of_ble_eq_true rfl) ?_
  intro p e s m below meth c A H locs ls X hP hD hS hl
  have hl : lv_has ls 2 [(0, .ref (ad (100 + a0))), (1, .int a1)] := hl
  obtain ⟨hx, hb, hr, hml, hown, hlocks, hts, hA, hK, hZ⟩ := id X
  unfold tString_charAt at hF
  obtain ⟨hs_a0, hF⟩ := gdE hF
  refine lv_aload_n hx hb d_String_charAt_0 rfl (lv_at hl 0 rfl) ?_
  obtain ⟨r1, h1, hF⟩ := b1E hF
  refine callZI (As := []) X (ct_String_isLatin1 l dC dI ad cA H.size h1) lk_String_492 ⟨rfl, rfl, by decide, by decide⟩ (sBE hs_a0) hP hD hS hl.1 rfl rfl (Nat.le_of_ble_eq_true rfl) d_String_charAt_1 (fun H locs hP hD hS => ?_)
  refine lv_if_eq (tgt := 16) hx hb d_String_charAt_4 (by decide) (fun c_2 => ?_) (fun c_2 => ?_)
  · have hF := ifp hF c_2
    refine lv_aload_n hx hb d_String_charAt_16 rfl (lv_at hl 0 rfl) ?_
    refine vk_getf hx hb (hZ.1.1 a0 (sBE hs_a0)).2.2.1 hS hown (hts _ w_e5cefe5dae) (fun _ h9 => h9) d_String_charAt_17 ?_
    refine lv_iload_n hx hb d_String_charAt_20 rfl (lv_at hl 1 rfl) ?_
    cases hF
  · have hF := ifn hF c_2
    refine lv_aload_n hx hb d_String_charAt_7 rfl (lv_at hl 0 rfl) ?_
    refine vk_getf hx hb (hZ.1.1 a0 (sBE hs_a0)).2.2.1 hS hown (hts _ w_e5cefe5dae) (fun _ h9 => h9) d_String_charAt_8 ?_
    refine lv_iload_n hx hb d_String_charAt_11 rfl (lv_at hl 1 rfl) ?_
    obtain ⟨r3, h3, hF⟩ := b1E hF
    refine callSI (As := [.ref (ad (200 + a0)), .int a1]) X (ct_StringLatin1_charAt l dC dI ad cA H.size h3) lk_String_495 ⟨rfl, rfl, by decide, by decide⟩ hP hD hS hl.1 rfl rfl (Nat.le_of_ble_eq_true rfl) d_String_charAt_12 (fun H locs hP hD hS => ?_)
    obtain ⟨g_4, hF⟩ := gdE hF
    cases hF
    exact leafZ X hP hD hS (nCN g_4) d_String_charAt_15
theorem d_String_coder_0 : decode b_String_coder 0 = .ok (.getstatic 38, 3) := by decide +kernel
theorem d_String_coder_3 : decode b_String_coder 3 = .ok (.ifCond .eq 10, 3) := by decide +kernel
theorem d_String_coder_6 : decode b_String_coder 6 = .ok (.aload_n 0, 1) := by decide +kernel
theorem d_String_coder_7 : decode b_String_coder 7 = .ok (.getfield 15, 3) := by decide +kernel
theorem d_String_coder_10 : decode b_String_coder 10 = .ok (.goto 4, 3) := by decide +kernel
theorem d_String_coder_13 : decode b_String_coder 13 = .ok (.iconst 1, 1) := by decide +kernel
theorem d_String_coder_14 : decode b_String_coder 14 = .ok (.ireturn, 1) := by decide +kernel
def tString_coder (σ : St) (a0 : Nat) : Option (Int32) := gd (sB a0) (if (1 : Int32) = 0 then some 1 else some 0)
set_option maxHeartbeats 4000000 in
set_option maxRecDepth 100000 in
theorem ct_String_coder (l : Launch) (dC : Nat → ClassId) (dI : Nat → Nat → Nat) (ad : Nat → Nat) (cA : Nat → ClassId) (sz : Nat) {σ : St} {a0 : Nat} {r : Int32} (hF : tString_coder σ a0 = some r) : MI l y_String_coder b_String_coder 1 (some .byte) { frames := 0, cells := 0, slots := 0, locals := 0 } (dC, dI) (ttys cA) ad (tcw ad cA) [.ref (ad (100 + a0))] σ sz r σ := by
  refine startM (own := "java/lang/String") (Qc := fun A => QI (dC, dI) (ttys cA) (tcw ad cA) A r σ) rfl rfl (Nat.le_of_ble_eq_true rfl) ?_
  intro p e s m below meth c A H locs ls X hP hD hS hl
  have hl : lv_has ls 1 [(0, .ref (ad (100 + a0)))] := hl
  obtain ⟨hx, hb, hr, hml, hown, hlocks, hts, hA, hK, hZ⟩ := id X
  unfold tString_coder at hF
  obtain ⟨hs_a0, hF⟩ := gdE hF
  refine va_gets hx hb hZ.2.2.1 hS hown (hts _ w_193842c612) (fun _ h9 => h9) d_String_coder_0 ?_
  refine lv_if_eq (tgt := 13) hx hb d_String_coder_3 (by decide) (fun c_1 => ?_) (fun c_1 => ?_)
  · have hF := ifp hF c_1
    refine lv_iconst (v := 1) hx hb d_String_coder_13 (by decide) ?_
    cases hF
    exact leafZ X hP hD hS (by decide) d_String_coder_14
  · have hF := ifn hF c_1
    refine lv_aload_n hx hb d_String_coder_6 rfl (lv_at hl 0 rfl) ?_
    refine vk_getf hx hb (hZ.1.1 a0 (sBE hs_a0)).2.1 hS hown (hts _ w_16e810f99d) (fun _ h9 => h9) d_String_coder_7 ?_
    refine lv_goto (tgt := 14) hx hb d_String_coder_10 (by decide) ?_
    cases hF
    exact leafZ X hP hD hS (by decide) d_String_coder_14
theorem d_String_length_0 : decode b_String_length 0 = .ok (.aload_n 0, 1) := by decide +kernel
theorem d_String_length_1 : decode b_String_length 1 = .ok (.getfield 9, 3) := by decide +kernel
theorem d_String_length_4 : decode b_String_length 4 = .ok (.arraylength, 1) := by decide +kernel
theorem d_String_length_5 : decode b_String_length 5 = .ok (.aload_n 0, 1) := by decide +kernel
theorem d_String_length_6 : decode b_String_length 6 = .ok (.invokevirtual 335, 3) := by decide +kernel
theorem d_String_length_9 : decode b_String_length 9 = .ok (.ishr, 1) := by decide +kernel
theorem d_String_length_10 : decode b_String_length 10 = .ok (.ireturn, 1) := by decide +kernel
def tString_length (σ : St) (a0 : Nat) : Option (Int32) := gd (sB a0) (b1 (tString_coder σ a0) (fun r1 => some ((Int32.ofNat (sLen a0)) >>> (r1 &&& 31))))
set_option maxHeartbeats 4000000 in
set_option maxRecDepth 100000 in
theorem ct_String_length (l : Launch) (dC : Nat → ClassId) (dI : Nat → Nat → Nat) (ad : Nat → Nat) (cA : Nat → ClassId) (sz : Nat) {σ : St} {a0 : Nat} {r : Int32} (hF : tString_length σ a0 = some r) : MI l y_String_length b_String_length 1 (some .int) { frames := 1, cells := 0, slots := 0, locals := 20 } (dC, dI) (ttys cA) ad (tcw ad cA) [.ref (ad (100 + a0))] σ sz r σ := by
  refine startM (own := "java/lang/String") (Qc := fun A => QI (dC, dI) (ttys cA) (tcw ad cA) A r σ) rfl rfl (Nat.le_of_ble_eq_true rfl) ?_
  intro p e s m below meth c A H locs ls X hP hD hS hl
  have hl : lv_has ls 1 [(0, .ref (ad (100 + a0)))] := hl
  obtain ⟨hx, hb, hr, hml, hown, hlocks, hts, hA, hK, hZ⟩ := id X
  unfold tString_length at hF
  obtain ⟨hs_a0, hF⟩ := gdE hF
  refine lv_aload_n hx hb d_String_length_0 rfl (lv_at hl 0 rfl) ?_
  refine vk_getf hx hb (hZ.1.1 a0 (sBE hs_a0)).2.2.1 hS hown (hts _ w_e5cefe5dae) (fun _ h9 => h9) d_String_length_1 ?_
  refine va_tlen (v := (Int32.ofNat (sLen a0))) hx hb (hZ.1.1 a0 (sBE hs_a0)).2.2.2 hS rfl d_String_length_4 ?_
  refine lv_aload_n hx hb d_String_length_5 rfl (lv_at hl 0 rfl) ?_
  obtain ⟨r1, h1, hF⟩ := b1E hF
  refine callZI (As := []) X (ct_String_coder l dC dI ad cA H.size h1) lk_String_335 ⟨rfl, rfl, by decide, by decide⟩ (sBE hs_a0) hP hD hS hl.1 rfl rfl (Nat.le_of_ble_eq_true rfl) d_String_length_6 (fun H locs hP hD hS => ?_)
  refine lv_ishr hx hb d_String_length_9 ?_
  cases hF
  exact leafI X hP hD hS d_String_length_10
theorem d_StringLatin1_canEncode_0 : decode b_StringLatin1_canEncode 0 = .ok (.iload_n 0, 1) := by decide +kernel
theorem d_StringLatin1_canEncode_1 : decode b_StringLatin1_canEncode 1 = .ok (.ifCond .lt 14, 3) := by decide +kernel
theorem d_StringLatin1_canEncode_4 : decode b_StringLatin1_canEncode 4 = .ok (.iload_n 0, 1) := by decide +kernel
theorem d_StringLatin1_canEncode_5 : decode b_StringLatin1_canEncode 5 = .ok (.sipush 255, 3) := by decide +kernel
theorem d_StringLatin1_canEncode_8 : decode b_StringLatin1_canEncode 8 = .ok (.if_icmp .gt 7, 3) := by decide +kernel
theorem d_StringLatin1_canEncode_11 : decode b_StringLatin1_canEncode 11 = .ok (.iconst 1, 1) := by decide +kernel
theorem d_StringLatin1_canEncode_12 : decode b_StringLatin1_canEncode 12 = .ok (.goto 4, 3) := by decide +kernel
theorem d_StringLatin1_canEncode_15 : decode b_StringLatin1_canEncode 15 = .ok (.iconst 0, 1) := by decide +kernel
theorem d_StringLatin1_canEncode_16 : decode b_StringLatin1_canEncode 16 = .ok (.ireturn, 1) := by decide +kernel
def tStringLatin1_canEncode (σ : St) (a1 : Int32) : Option (Int32) := if a1 < 0 then some 0 else if (255 : Int32) < a1 then some 0 else some 1
set_option maxHeartbeats 4000000 in
set_option maxRecDepth 100000 in
theorem ct_StringLatin1_canEncode (l : Launch) (dC : Nat → ClassId) (dI : Nat → Nat → Nat) (ad : Nat → Nat) (cA : Nat → ClassId) (sz : Nat) {σ : St} {a1 : Int32} {r : Int32} (hF : tStringLatin1_canEncode σ a1 = some r) : MI l y_StringLatin1_canEncode b_StringLatin1_canEncode 1 (some .boolean) { frames := 1, cells := 0, slots := 0, locals := 30 } (dC, dI) (ttys cA) ad (tcw ad cA) [.int a1] σ sz r σ := by
  refine startM (own := "java/lang/StringLatin1") (Qc := fun A => QI (dC, dI) (ttys cA) (tcw ad cA) A r σ) rfl rfl (Nat.le_of_ble_eq_true rfl) ?_
  intro p e s m below meth c A H locs ls X hP hD hS hl
  have hl : lv_has ls 1 [(0, .int a1)] := hl
  obtain ⟨hx, hb, hr, hml, hown, hlocks, hts, hA, hK, hZ⟩ := id X
  unfold tStringLatin1_canEncode at hF
  refine lv_iload_n hx hb d_StringLatin1_canEncode_0 rfl (lv_at hl 0 rfl) ?_
  refine lv_if_lt (tgt := 15) hx hb d_StringLatin1_canEncode_1 (by decide) (fun c_1 => ?_) (fun c_1 => ?_)
  · have hF := ifp hF c_1
    refine lv_iconst (v := 0) hx hb d_StringLatin1_canEncode_15 (by decide) ?_
    cases hF
    exact leafZ X hP hD hS (by decide) d_StringLatin1_canEncode_16
  · have hF := ifn hF c_1
    refine lv_iload_n hx hb d_StringLatin1_canEncode_4 rfl (lv_at hl 0 rfl) ?_
    refine lv_sipush (v := 255) hx hb d_StringLatin1_canEncode_5 (by decide) ?_
    refine lv_icmp_gt (tgt := 15) hx hb d_StringLatin1_canEncode_8 (by decide) (fun c_2 => ?_) (fun c_2 => ?_)
    · have hF := ifp hF c_2
      refine lv_iconst (v := 0) hx hb d_StringLatin1_canEncode_15 (by decide) ?_
      cases hF
      exact leafZ X hP hD hS (by decide) d_StringLatin1_canEncode_16
    · have hF := ifn hF c_2
      refine lv_iconst (v := 1) hx hb d_StringLatin1_canEncode_11 (by decide) ?_
      refine lv_goto (tgt := 16) hx hb d_StringLatin1_canEncode_12 (by decide) ?_
      cases hF
      exact leafZ X hP hD hS (by decide) d_StringLatin1_canEncode_16
theorem d_StringLatin1_indexOfChar_0 : decode b_StringLatin1_indexOfChar 0 = .ok (.iload_n 1, 1) := by decide +kernel
theorem d_StringLatin1_indexOfChar_1 : decode b_StringLatin1_indexOfChar 1 = .ok (.i2b, 1) := by decide +kernel
theorem d_StringLatin1_indexOfChar_2 : decode b_StringLatin1_indexOfChar 2 = .ok (.istore 4, 2) := by decide +kernel
theorem d_StringLatin1_indexOfChar_4 : decode b_StringLatin1_indexOfChar 4 = .ok (.iload_n 2, 1) := by decide +kernel
theorem d_StringLatin1_indexOfChar_5 : decode b_StringLatin1_indexOfChar 5 = .ok (.istore 5, 2) := by decide +kernel
theorem d_StringLatin1_indexOfChar_7 : decode b_StringLatin1_indexOfChar 7 = .ok (.iload 5, 2) := by decide +kernel
theorem d_StringLatin1_indexOfChar_9 : decode b_StringLatin1_indexOfChar 9 = .ok (.iload_n 3, 1) := by decide +kernel
theorem d_StringLatin1_indexOfChar_10 : decode b_StringLatin1_indexOfChar 10 = .ok (.if_icmp .ge 21, 3) := by decide +kernel
theorem d_StringLatin1_indexOfChar_13 : decode b_StringLatin1_indexOfChar 13 = .ok (.aload_n 0, 1) := by decide +kernel
theorem d_StringLatin1_indexOfChar_14 : decode b_StringLatin1_indexOfChar 14 = .ok (.iload 5, 2) := by decide +kernel
theorem d_StringLatin1_indexOfChar_16 : decode b_StringLatin1_indexOfChar 16 = .ok (.baload, 1) := by decide +kernel
theorem d_StringLatin1_indexOfChar_17 : decode b_StringLatin1_indexOfChar 17 = .ok (.iload 4, 2) := by decide +kernel
theorem d_StringLatin1_indexOfChar_19 : decode b_StringLatin1_indexOfChar 19 = .ok (.if_icmp .ne 6, 3) := by decide +kernel
theorem d_StringLatin1_indexOfChar_22 : decode b_StringLatin1_indexOfChar 22 = .ok (.iload 5, 2) := by decide +kernel
theorem d_StringLatin1_indexOfChar_24 : decode b_StringLatin1_indexOfChar 24 = .ok (.ireturn, 1) := by decide +kernel
theorem d_StringLatin1_indexOfChar_25 : decode b_StringLatin1_indexOfChar 25 = .ok (.iinc 5 1, 3) := by decide +kernel
theorem d_StringLatin1_indexOfChar_28 : decode b_StringLatin1_indexOfChar 28 = .ok (.goto (-21), 3) := by decide +kernel
theorem d_StringLatin1_indexOfChar_31 : decode b_StringLatin1_indexOfChar 31 = .ok (.iconst (-1), 1) := by decide +kernel
theorem d_StringLatin1_indexOfChar_32 : decode b_StringLatin1_indexOfChar 32 = .ok (.ireturn, 1) := by decide +kernel
def tStringLatin1_indexOfChar_b1 (k : Nat → St → Int32 → Int32 → Int32 → Nat → Option (Int32)) (σ : St) (x1 : Int32) (x2 : Int32) (x3 : Int32) (z1 : Nat) : Option (Int32) := gd (sB z1) (if x1 ≤ x3 then some (-1) else gd (inB x3 (sLen z1)) (if (sByte z1 x3.toNatClampNeg) = x2 then some x3 else k 1 σ x1 x2 (x3 + 1) z1))
def tStringLatin1_indexOfChar_L : Nat → Nat → St → Int32 → Int32 → Int32 → Nat → Option (Int32)
  | 0, _, _, _, _, _, _ => none
  | n + 1, lab, σ, x1, x2, x3, z1 => match lab with
    | 1 => tStringLatin1_indexOfChar_b1 (tStringLatin1_indexOfChar_L n) σ x1 x2 x3 z1
    | _ => none
def tStringLatin1_indexOfChar (σ : St) (a1 : Nat) (a2 : Int32) (a3 : Int32) (a4 : Int32) : Option (Int32) := gd (sB a1) (tStringLatin1_indexOfChar_L 2000 1 σ a4 ((a2 : Int32).toInt8.toInt32) a3 a1)
set_option maxHeartbeats 4000000 in
set_option maxRecDepth 100000 in
theorem tStringLatin1_indexOfChar_blk {p : Program} {e : Env} {s : State} {m : MethodId} {args : Array Value} {below : List Frame} {meth : Method} {c : Code} {A : Nat → Prop} (l : Launch) (dC : Nat → ClassId) (dI : Nat → Nat → Nat) (ad : Nat → Nat) (cA : Nat → ClassId) {r : Int32} (X : Cx p s m args meth c b_StringLatin1_indexOfChar 6 (some .int) "java/lang/StringLatin1" (dC, dI) (ttys cA) ad A) : ∀ n : Nat, (∀ (σ : St) (x1 : Int32) (x2 : Int32) (x3 : Int32) (z1 : Nat) (H : Heap) (locs : List Loc) (ls : Array Slot), tStringLatin1_indexOfChar_L n 1 σ x1 x2 x3 z1 = some r → va_P (dC, dI) vwCl (tcw ad cA σ) H → va_D A (tcw ad cA σ) → va_S A s.heap H locs → lv_has ls 6 [(0, .ref (ad (200 + z1))), (3, .int x1), (4, .int x2), (5, .int x3)] → W p l e { frames := 1, cells := 0, slots := 0, locals := 30 } s m args below meth c H locs 0 0 (MQ below (QI (dC, dI) (ttys cA) (tcw ad cA) A r σ) args s 0 0 A) (F0 m 7 ls [])) := by
  obtain ⟨hx, hb, hr, hml, hown, hlocks, hts, hA, hK, hZ⟩ := id X
  intro n
  induction n with
  | zero => exact (fun σ x1 x2 x3 z1 H locs ls hF => by cases hF)
  | succ n ihn =>
    refine fun σ x1 x2 x3 z1 H locs ls hF hP hD hS hl => ?_
    · have hF : tStringLatin1_indexOfChar_b1 (tStringLatin1_indexOfChar_L n) σ x1 x2 x3 z1 = some r := hF
      unfold tStringLatin1_indexOfChar_b1 at hF
      obtain ⟨hs_z1, hF⟩ := gdE hF
      refine lv_iload hx hb d_StringLatin1_indexOfChar_7 (lv_at hl 3 rfl) ?_
      refine lv_iload_n hx hb d_StringLatin1_indexOfChar_9 rfl (lv_at hl 1 rfl) ?_
      refine lv_icmp_ge (tgt := 31) hx hb d_StringLatin1_indexOfChar_10 (by decide) (fun c_1 => ?_) (fun c_1 => ?_)
      · have hF := ifp hF c_1
        refine lv_iconst (v := (-1)) hx hb d_StringLatin1_indexOfChar_31 (by decide) ?_
        cases hF
        exact leafI X hP hD hS d_StringLatin1_indexOfChar_32
      · have hF := ifn hF c_1
        refine lv_aload_n hx hb d_StringLatin1_indexOfChar_13 rfl (lv_at hl 0 rfl) ?_
        refine lv_iload hx hb d_StringLatin1_indexOfChar_14 (lv_at hl 3 rfl) ?_
        obtain ⟨g_2, hF⟩ := gdE hF
        refine va_tb (v := .int (sByte z1 x3.toNatClampNeg)) hx hb (hZ.1.1 z1 (sBE hs_z1)).2.2.2 hS (inE g_2) rfl d_StringLatin1_indexOfChar_16 ?_
        refine lv_iload hx hb d_StringLatin1_indexOfChar_17 (lv_at hl 2 rfl) ?_
        refine lv_icmp_ne (tgt := 25) hx hb d_StringLatin1_indexOfChar_19 (by decide) (fun c_3 => ?_) (fun c_3 => ?_)
        · have hF := ifn hF c_3
          refine lv_iinc (v := (x3 + 1)) (lv' := [(5, .int (x3 + 1)), (0, .ref (ad (200 + z1))), (3, .int x1), (4, .int x2)]) hx hb d_StringLatin1_indexOfChar_25 hl (k := 3) rfl rfl (by decide) rfl (fun ls hl => ?_)
          refine lv_goto (tgt := 7) hx hb d_StringLatin1_indexOfChar_28 (by decide) ?_
          exact ihn σ x1 x2 (x3 + 1) z1 H locs ls hF hP hD hS (lv_sub hl [1, 2, 3, 0] rfl)
        · have hF := ifp hF c_3
          refine lv_iload hx hb d_StringLatin1_indexOfChar_22 (lv_at hl 3 rfl) ?_
          cases hF
          exact leafI X hP hD hS d_StringLatin1_indexOfChar_24
set_option maxHeartbeats 4000000 in
set_option maxRecDepth 100000 in
theorem ct_StringLatin1_indexOfChar (l : Launch) (dC : Nat → ClassId) (dI : Nat → Nat → Nat) (ad : Nat → Nat) (cA : Nat → ClassId) (sz : Nat) {σ : St} {a1 : Nat} {a2 : Int32} {a3 : Int32} {a4 : Int32} {r : Int32} (hF : tStringLatin1_indexOfChar σ a1 a2 a3 a4 = some r) : MI l y_StringLatin1_indexOfChar b_StringLatin1_indexOfChar 6 (some .int) { frames := 1, cells := 0, slots := 0, locals := 30 } (dC, dI) (ttys cA) ad (tcw ad cA) [.ref (ad (200 + a1)), .int a2, .int a3, .int a4] σ sz r σ := by
  refine startM (own := "java/lang/StringLatin1") (Qc := fun A => QI (dC, dI) (ttys cA) (tcw ad cA) A r σ) rfl rfl (Nat.le_of_ble_eq_true rfl) ?_
  intro p e s m below meth c A H locs ls X hP hD hS hl
  have hl : lv_has ls 6 [(0, .ref (ad (200 + a1))), (1, .int a2), (2, .int a3), (3, .int a4)] := hl
  obtain ⟨hx, hb, hr, hml, hown, hlocks, hts, hA, hK, hZ⟩ := id X
  unfold tStringLatin1_indexOfChar at hF
  obtain ⟨hs_a1, hF⟩ := gdE hF
  refine lv_iload_n hx hb d_StringLatin1_indexOfChar_0 rfl (lv_at hl 1 rfl) ?_
  refine lv_i2b (v := (a2 : Int32).toInt8.toInt32) hx hb d_StringLatin1_indexOfChar_1 rfl ?_
  refine lv_istore (lv' := [(4, .int ((a2 : Int32).toInt8.toInt32)), (0, .ref (ad (200 + a1))), (1, .int a2), (2, .int a3), (3, .int a4)]) hx hb d_StringLatin1_indexOfChar_2 hl (by decide) rfl (fun ls hl => ?_)
  refine lv_iload_n hx hb d_StringLatin1_indexOfChar_4 rfl (lv_at hl 3 rfl) ?_
  refine lv_istore (lv' := [(5, .int a3), (4, .int ((a2 : Int32).toInt8.toInt32)), (0, .ref (ad (200 + a1))), (1, .int a2), (2, .int a3), (3, .int a4)]) hx hb d_StringLatin1_indexOfChar_5 hl (by decide) rfl (fun ls hl => ?_)
  exact (tStringLatin1_indexOfChar_blk l dC dI ad cA X 2000) σ a4 ((a2 : Int32).toInt8.toInt32) a3 a1 H locs ls hF hP hD hS (lv_sub hl [2, 5, 1, 0] rfl)
theorem d_StringLatin1_indexOf_0 : decode b_StringLatin1_indexOf 0 = .ok (.iload_n 1, 1) := by decide +kernel
theorem d_StringLatin1_indexOf_1 : decode b_StringLatin1_indexOf 1 = .ok (.invokestatic 88, 3) := by decide +kernel
theorem d_StringLatin1_indexOf_4 : decode b_StringLatin1_indexOf 4 = .ok (.ifCond .ne 5, 3) := by decide +kernel
theorem d_StringLatin1_indexOf_7 : decode b_StringLatin1_indexOf 7 = .ok (.iconst (-1), 1) := by decide +kernel
theorem d_StringLatin1_indexOf_8 : decode b_StringLatin1_indexOf 8 = .ok (.ireturn, 1) := by decide +kernel
theorem d_StringLatin1_indexOf_9 : decode b_StringLatin1_indexOf 9 = .ok (.iload_n 2, 1) := by decide +kernel
theorem d_StringLatin1_indexOf_10 : decode b_StringLatin1_indexOf 10 = .ok (.iconst 0, 1) := by decide +kernel
theorem d_StringLatin1_indexOf_11 : decode b_StringLatin1_indexOf 11 = .ok (.invokestatic 92, 3) := by decide +kernel
theorem d_StringLatin1_indexOf_14 : decode b_StringLatin1_indexOf 14 = .ok (.istore_n 2, 1) := by decide +kernel
theorem d_StringLatin1_indexOf_15 : decode b_StringLatin1_indexOf 15 = .ok (.iload_n 3, 1) := by decide +kernel
theorem d_StringLatin1_indexOf_16 : decode b_StringLatin1_indexOf 16 = .ok (.aload_n 0, 1) := by decide +kernel
theorem d_StringLatin1_indexOf_17 : decode b_StringLatin1_indexOf 17 = .ok (.arraylength, 1) := by decide +kernel
theorem d_StringLatin1_indexOf_18 : decode b_StringLatin1_indexOf 18 = .ok (.invokestatic 38, 3) := by decide +kernel
theorem d_StringLatin1_indexOf_21 : decode b_StringLatin1_indexOf 21 = .ok (.istore_n 3, 1) := by decide +kernel
theorem d_StringLatin1_indexOf_22 : decode b_StringLatin1_indexOf 22 = .ok (.iload_n 2, 1) := by decide +kernel
theorem d_StringLatin1_indexOf_23 : decode b_StringLatin1_indexOf 23 = .ok (.iload_n 3, 1) := by decide +kernel
theorem d_StringLatin1_indexOf_24 : decode b_StringLatin1_indexOf 24 = .ok (.if_icmp .lt 5, 3) := by decide +kernel
theorem d_StringLatin1_indexOf_27 : decode b_StringLatin1_indexOf 27 = .ok (.iconst (-1), 1) := by decide +kernel
theorem d_StringLatin1_indexOf_28 : decode b_StringLatin1_indexOf 28 = .ok (.ireturn, 1) := by decide +kernel
theorem d_StringLatin1_indexOf_29 : decode b_StringLatin1_indexOf 29 = .ok (.aload_n 0, 1) := by decide +kernel
theorem d_StringLatin1_indexOf_30 : decode b_StringLatin1_indexOf 30 = .ok (.iload_n 1, 1) := by decide +kernel
theorem d_StringLatin1_indexOf_31 : decode b_StringLatin1_indexOf 31 = .ok (.iload_n 2, 1) := by decide +kernel
theorem d_StringLatin1_indexOf_32 : decode b_StringLatin1_indexOf 32 = .ok (.iload_n 3, 1) := by decide +kernel
theorem d_StringLatin1_indexOf_33 : decode b_StringLatin1_indexOf 33 = .ok (.invokestatic 95, 3) := by decide +kernel
theorem d_StringLatin1_indexOf_36 : decode b_StringLatin1_indexOf 36 = .ok (.ireturn, 1) := by decide +kernel
def tStringLatin1_indexOf (σ : St) (a1 : Nat) (a2 : Int32) (a3 : Int32) (a4 : Int32) : Option (Int32) := gd (sB a1) (b1 (tStringLatin1_canEncode σ a2) (fun r1 => if r1 = 0 then some (-1) else if (if a3 < 0 then 0 else a3) < (if (Int32.ofNat (sLen a1)) < a4 then (Int32.ofNat (sLen a1)) else a4) then b1 (tStringLatin1_indexOfChar σ a1 a2 (if a3 < 0 then 0 else a3) (if (Int32.ofNat (sLen a1)) < a4 then (Int32.ofNat (sLen a1)) else a4)) (fun r4 => some r4) else some (-1)))
set_option maxHeartbeats 4000000 in
set_option maxRecDepth 100000 in
theorem ct_StringLatin1_indexOf (l : Launch) (dC : Nat → ClassId) (dI : Nat → Nat → Nat) (ad : Nat → Nat) (cA : Nat → ClassId) (sz : Nat) {σ : St} {a1 : Nat} {a2 : Int32} {a3 : Int32} {a4 : Int32} {r : Int32} (hF : tStringLatin1_indexOf σ a1 a2 a3 a4 = some r) : MI l y_StringLatin1_indexOf b_StringLatin1_indexOf 4 (some .int) { frames := 2, cells := 0, slots := 0, locals := 55 } (dC, dI) (ttys cA) ad (tcw ad cA) [.ref (ad (200 + a1)), .int a2, .int a3, .int a4] σ sz r σ := by
  refine startM (own := "java/lang/StringLatin1") (Qc := fun A => QI (dC, dI) (ttys cA) (tcw ad cA) A r σ) rfl rfl (Nat.le_of_ble_eq_true rfl) ?_
  intro p e s m below meth c A H locs ls X hP hD hS hl
  have hl : lv_has ls 4 [(0, .ref (ad (200 + a1))), (1, .int a2), (2, .int a3), (3, .int a4)] := hl
  obtain ⟨hx, hb, hr, hml, hown, hlocks, hts, hA, hK, hZ⟩ := id X
  unfold tStringLatin1_indexOf at hF
  obtain ⟨hs_a1, hF⟩ := gdE hF
  refine lv_iload_n hx hb d_StringLatin1_indexOf_0 rfl (lv_at hl 1 rfl) ?_
  obtain ⟨r1, h1, hF⟩ := b1E hF
  refine callSI (As := [.int a2]) X (ct_StringLatin1_canEncode l dC dI ad cA H.size h1) lk_StringLatin1_88 ⟨rfl, rfl, by decide, by decide⟩ hP hD hS hl.1 rfl rfl (Nat.le_of_ble_eq_true rfl) d_StringLatin1_indexOf_1 (fun H locs hP hD hS => ?_)
  refine lv_if_ne (tgt := 9) hx hb d_StringLatin1_indexOf_4 (by decide) (fun c_2 => ?_) (fun c_2 => ?_)
  · have hF := ifn hF c_2
    refine lv_iload_n hx hb d_StringLatin1_indexOf_9 rfl (lv_at hl 2 rfl) ?_
    refine lv_iconst (v := 0) hx hb d_StringLatin1_indexOf_10 (by decide) ?_
    refine va_mmax hx hb (hml.trans hl.1.symm) hown (hts _ w_10fceee138) (hts _ w_0883cd8b83) (hts _ w_4fc2bdf7c0) (hts _ w_cb399de247) (by decide) (Nat.le_of_ble_eq_true rfl) (Nat.zero_le _) (Nat.zero_le _) d_StringLatin1_indexOf_11 ?_
    refine lv_istore_n (lv' := [(2, .int (if a3 < 0 then 0 else a3)), (0, .ref (ad (200 + a1))), (1, .int a2), (3, .int a4)]) hx hb d_StringLatin1_indexOf_14 rfl hl (by decide) rfl (fun ls hl => ?_)
    refine lv_iload_n hx hb d_StringLatin1_indexOf_15 rfl (lv_at hl 3 rfl) ?_
    refine lv_aload_n hx hb d_StringLatin1_indexOf_16 rfl (lv_at hl 1 rfl) ?_
    refine va_tlen (v := (Int32.ofNat (sLen a1))) hx hb (hZ.1.1 a1 (sBE hs_a1)).2.2.2 hS rfl d_StringLatin1_indexOf_17 ?_
    refine va_mmin hx hb (hml.trans hl.1.symm) hown (hts _ w_3c7ef4762a) (hts _ w_bbda979437) (hts _ w_4fc2bdf7c0) (hts _ w_e1c28c28fa) (by decide) (Nat.le_of_ble_eq_true rfl) (Nat.zero_le _) (Nat.zero_le _) d_StringLatin1_indexOf_18 ?_
    refine lv_istore_n (lv' := [(3, .int (if (Int32.ofNat (sLen a1)) < a4 then (Int32.ofNat (sLen a1)) else a4)), (2, .int (if a3 < 0 then 0 else a3)), (0, .ref (ad (200 + a1))), (1, .int a2)]) hx hb d_StringLatin1_indexOf_21 rfl hl (by decide) rfl (fun ls hl => ?_)
    refine lv_iload_n hx hb d_StringLatin1_indexOf_22 rfl (lv_at hl 1 rfl) ?_
    refine lv_iload_n hx hb d_StringLatin1_indexOf_23 rfl (lv_at hl 0 rfl) ?_
    refine lv_icmp_lt (tgt := 29) hx hb d_StringLatin1_indexOf_24 (by decide) (fun c_3 => ?_) (fun c_3 => ?_)
    · have hF := ifp hF c_3
      refine lv_aload_n hx hb d_StringLatin1_indexOf_29 rfl (lv_at hl 2 rfl) ?_
      refine lv_iload_n hx hb d_StringLatin1_indexOf_30 rfl (lv_at hl 3 rfl) ?_
      refine lv_iload_n hx hb d_StringLatin1_indexOf_31 rfl (lv_at hl 1 rfl) ?_
      refine lv_iload_n hx hb d_StringLatin1_indexOf_32 rfl (lv_at hl 0 rfl) ?_
      obtain ⟨r4, h4, hF⟩ := b1E hF
      refine callSI (As := [.ref (ad (200 + a1)), .int a2, .int (if a3 < 0 then 0 else a3), .int (if (Int32.ofNat (sLen a1)) < a4 then (Int32.ofNat (sLen a1)) else a4)]) X (ct_StringLatin1_indexOfChar l dC dI ad cA H.size h4) lk_StringLatin1_95 ⟨rfl, rfl, by decide, by decide⟩ hP hD hS hl.1 rfl rfl (Nat.le_of_ble_eq_true rfl) d_StringLatin1_indexOf_33 (fun H locs hP hD hS => ?_)
      cases hF
      exact leafI X hP hD hS d_StringLatin1_indexOf_36
    · have hF := ifn hF c_3
      refine lv_iconst (v := (-1)) hx hb d_StringLatin1_indexOf_27 (by decide) ?_
      cases hF
      exact leafI X hP hD hS d_StringLatin1_indexOf_28
  · have hF := ifp hF c_2
    refine lv_iconst (v := (-1)) hx hb d_StringLatin1_indexOf_7 (by decide) ?_
    cases hF
    exact leafI X hP hD hS d_StringLatin1_indexOf_8
theorem d_String_indexOf_1_0 : decode b_String_indexOf_1 0 = .ok (.aload_n 0, 1) := by decide +kernel
theorem d_String_indexOf_1_1 : decode b_String_indexOf_1 1 = .ok (.invokevirtual 492, 3) := by decide +kernel
theorem d_String_indexOf_1_4 : decode b_String_indexOf_1 4 = .ok (.ifCond .eq 19, 3) := by decide +kernel
theorem d_String_indexOf_1_7 : decode b_String_indexOf_1 7 = .ok (.aload_n 0, 1) := by decide +kernel
theorem d_String_indexOf_1_8 : decode b_String_indexOf_1 8 = .ok (.getfield 9, 3) := by decide +kernel
theorem d_String_indexOf_1_11 : decode b_String_indexOf_1 11 = .ok (.iload_n 1, 1) := by decide +kernel
theorem d_String_indexOf_1_12 : decode b_String_indexOf_1 12 = .ok (.iload_n 2, 1) := by decide +kernel
theorem d_String_indexOf_1_13 : decode b_String_indexOf_1 13 = .ok (.aload_n 0, 1) := by decide +kernel
theorem d_String_indexOf_1_14 : decode b_String_indexOf_1 14 = .ok (.invokevirtual 505, 3) := by decide +kernel
theorem d_String_indexOf_1_17 : decode b_String_indexOf_1 17 = .ok (.invokestatic 637, 3) := by decide +kernel
theorem d_String_indexOf_1_20 : decode b_String_indexOf_1 20 = .ok (.goto 16, 3) := by decide +kernel
theorem d_String_indexOf_1_23 : decode b_String_indexOf_1 23 = .ok (.aload_n 0, 1) := by decide +kernel
theorem d_String_indexOf_1_24 : decode b_String_indexOf_1 24 = .ok (.getfield 9, 3) := by decide +kernel
theorem d_String_indexOf_1_27 : decode b_String_indexOf_1 27 = .ok (.iload_n 1, 1) := by decide +kernel
theorem d_String_indexOf_1_28 : decode b_String_indexOf_1 28 = .ok (.iload_n 2, 1) := by decide +kernel
theorem d_String_indexOf_1_29 : decode b_String_indexOf_1 29 = .ok (.aload_n 0, 1) := by decide +kernel
theorem d_String_indexOf_1_30 : decode b_String_indexOf_1 30 = .ok (.invokevirtual 505, 3) := by decide +kernel
theorem d_String_indexOf_1_33 : decode b_String_indexOf_1 33 = .ok (.invokestatic 640, 3) := by decide +kernel
theorem d_String_indexOf_1_36 : decode b_String_indexOf_1 36 = .ok (.ireturn, 1) := by decide +kernel
def tString_indexOf_1 (σ : St) (a0 : Nat) (a1 : Int32) (a2 : Int32) : Option (Int32) := gd (sB a0) (b1 (tString_isLatin1 σ a0) (fun r1 => if r1 = 0 then b1 (tString_length σ a0) (fun r3 => none) else b1 (tString_length σ a0) (fun r4 => b1 (tStringLatin1_indexOf σ a0 a1 a2 r4) (fun r5 => some r5))))
set_option maxHeartbeats 4000000 in
set_option maxRecDepth 100000 in
theorem ct_String_indexOf_1 (l : Launch) (dC : Nat → ClassId) (dI : Nat → Nat → Nat) (ad : Nat → Nat) (cA : Nat → ClassId) (sz : Nat) {σ : St} {a0 : Nat} {a1 : Int32} {a2 : Int32} {r : Int32} (hF : tString_indexOf_1 σ a0 a1 a2 = some r) : MI l y_String_indexOf_1 b_String_indexOf_1 3 (some .int) { frames := 3, cells := 0, slots := 0, locals := 78 } (dC, dI) (ttys cA) ad (tcw ad cA) [.ref (ad (100 + a0)), .int a1, .int a2] σ sz r σ := by
  refine startM (own := "java/lang/String") (Qc := fun A => QI (dC, dI) (ttys cA) (tcw ad cA) A r σ) rfl rfl (Nat.le_of_ble_eq_true rfl) ?_
  intro p e s m below meth c A H locs ls X hP hD hS hl
  have hl : lv_has ls 3 [(0, .ref (ad (100 + a0))), (1, .int a1), (2, .int a2)] := hl
  obtain ⟨hx, hb, hr, hml, hown, hlocks, hts, hA, hK, hZ⟩ := id X
  unfold tString_indexOf_1 at hF
  obtain ⟨hs_a0, hF⟩ := gdE hF
  refine lv_aload_n hx hb d_String_indexOf_1_0 rfl (lv_at hl 0 rfl) ?_
  obtain ⟨r1, h1, hF⟩ := b1E hF
  refine callZI (As := []) X (ct_String_isLatin1 l dC dI ad cA H.size h1) lk_String_492 ⟨rfl, rfl, by decide, by decide⟩ (sBE hs_a0) hP hD hS hl.1 rfl rfl (Nat.le_of_ble_eq_true rfl) d_String_indexOf_1_1 (fun H locs hP hD hS => ?_)
  refine lv_if_eq (tgt := 23) hx hb d_String_indexOf_1_4 (by decide) (fun c_2 => ?_) (fun c_2 => ?_)
  · have hF := ifp hF c_2
    refine lv_aload_n hx hb d_String_indexOf_1_23 rfl (lv_at hl 0 rfl) ?_
    refine vk_getf hx hb (hZ.1.1 a0 (sBE hs_a0)).2.2.1 hS hown (hts _ w_e5cefe5dae) (fun _ h9 => h9) d_String_indexOf_1_24 ?_
    refine lv_iload_n hx hb d_String_indexOf_1_27 rfl (lv_at hl 1 rfl) ?_
    refine lv_iload_n hx hb d_String_indexOf_1_28 rfl (lv_at hl 2 rfl) ?_
    refine lv_aload_n hx hb d_String_indexOf_1_29 rfl (lv_at hl 0 rfl) ?_
    obtain ⟨r3, h3, hF⟩ := b1E hF
    refine callZI (As := []) X (ct_String_length l dC dI ad cA H.size h3) lk_String_505 ⟨rfl, rfl, by decide, by decide⟩ (sBE hs_a0) hP hD hS hl.1 rfl rfl (Nat.le_of_ble_eq_true rfl) d_String_indexOf_1_30 (fun H locs hP hD hS => ?_)
    cases hF
  · have hF := ifn hF c_2
    refine lv_aload_n hx hb d_String_indexOf_1_7 rfl (lv_at hl 0 rfl) ?_
    refine vk_getf hx hb (hZ.1.1 a0 (sBE hs_a0)).2.2.1 hS hown (hts _ w_e5cefe5dae) (fun _ h9 => h9) d_String_indexOf_1_8 ?_
    refine lv_iload_n hx hb d_String_indexOf_1_11 rfl (lv_at hl 1 rfl) ?_
    refine lv_iload_n hx hb d_String_indexOf_1_12 rfl (lv_at hl 2 rfl) ?_
    refine lv_aload_n hx hb d_String_indexOf_1_13 rfl (lv_at hl 0 rfl) ?_
    obtain ⟨r4, h4, hF⟩ := b1E hF
    refine callZI (As := []) X (ct_String_length l dC dI ad cA H.size h4) lk_String_505 ⟨rfl, rfl, by decide, by decide⟩ (sBE hs_a0) hP hD hS hl.1 rfl rfl (Nat.le_of_ble_eq_true rfl) d_String_indexOf_1_14 (fun H locs hP hD hS => ?_)
    obtain ⟨r5, h5, hF⟩ := b1E hF
    refine callSI (As := [.ref (ad (200 + a0)), .int a1, .int a2, .int r4]) X (ct_StringLatin1_indexOf l dC dI ad cA H.size h5) lk_String_637 ⟨rfl, rfl, by decide, by decide⟩ hP hD hS hl.1 rfl rfl (Nat.le_of_ble_eq_true rfl) d_String_indexOf_1_17 (fun H locs hP hD hS => ?_)
    refine lv_goto (tgt := 36) hx hb d_String_indexOf_1_20 (by decide) ?_
    cases hF
    exact leafI X hP hD hS d_String_indexOf_1_36
theorem d_String_indexOf_0_0 : decode b_String_indexOf_0 0 = .ok (.aload_n 0, 1) := by decide +kernel
theorem d_String_indexOf_0_1 : decode b_String_indexOf_0 1 = .ok (.iload_n 1, 1) := by decide +kernel
theorem d_String_indexOf_0_2 : decode b_String_indexOf_0 2 = .ok (.iconst 0, 1) := by decide +kernel
theorem d_String_indexOf_0_3 : decode b_String_indexOf_0 3 = .ok (.invokevirtual 633, 3) := by decide +kernel
theorem d_String_indexOf_0_6 : decode b_String_indexOf_0 6 = .ok (.ireturn, 1) := by decide +kernel
def tString_indexOf_0 (σ : St) (a0 : Nat) (a1 : Int32) : Option (Int32) := gd (sB a0) (b1 (tString_indexOf_1 σ a0 a1 0) (fun r1 => some r1))
set_option maxHeartbeats 4000000 in
set_option maxRecDepth 100000 in
theorem ct_String_indexOf_0 (l : Launch) (dC : Nat → ClassId) (dI : Nat → Nat → Nat) (ad : Nat → Nat) (cA : Nat → ClassId) (sz : Nat) {σ : St} {a0 : Nat} {a1 : Int32} {r : Int32} (hF : tString_indexOf_0 σ a0 a1 = some r) : MI l y_String_indexOf_0 b_String_indexOf_0 2 (some .int) { frames := 4, cells := 0, slots := 0, locals := 100 } (dC, dI) (ttys cA) ad (tcw ad cA) [.ref (ad (100 + a0)), .int a1] σ sz r σ := by
  refine startM (own := "java/lang/String") (Qc := fun A => QI (dC, dI) (ttys cA) (tcw ad cA) A r σ) rfl rfl (Nat.le_of_ble_eq_true rfl) ?_
  intro p e s m below meth c A H locs ls X hP hD hS hl
  have hl : lv_has ls 2 [(0, .ref (ad (100 + a0))), (1, .int a1)] := hl
  obtain ⟨hx, hb, hr, hml, hown, hlocks, hts, hA, hK, hZ⟩ := id X
  unfold tString_indexOf_0 at hF
  obtain ⟨hs_a0, hF⟩ := gdE hF
  refine lv_aload_n hx hb d_String_indexOf_0_0 rfl (lv_at hl 0 rfl) ?_
  refine lv_iload_n hx hb d_String_indexOf_0_1 rfl (lv_at hl 1 rfl) ?_
  refine lv_iconst (v := 0) hx hb d_String_indexOf_0_2 (by decide) ?_
  obtain ⟨r1, h1, hF⟩ := b1E hF
  refine callZI (As := [.int a1, .int 0]) X (ct_String_indexOf_1 l dC dI ad cA H.size h1) lk_String_633 ⟨rfl, rfl, by decide, by decide⟩ (sBE hs_a0) hP hD hS hl.1 rfl rfl (Nat.le_of_ble_eq_true rfl) d_String_indexOf_0_3 (fun H locs hP hD hS => ?_)
  cases hF
  exact leafI X hP hD hS d_String_indexOf_0_6
