theorem d_Tokens_kindOf_0 : decode b_Tokens_kindOf 0 = .ok (.iload_n 1, 1) := by decide +kernel
theorem d_Tokens_kindOf_1 : decode b_Tokens_kindOf 1 = .ok (.ifCond .lt 20, 3) := by decide +kernel
theorem d_Tokens_kindOf_4 : decode b_Tokens_kindOf 4 = .ok (.iload_n 1, 1) := by decide +kernel
theorem d_Tokens_kindOf_5 : decode b_Tokens_kindOf 5 = .ok (.aload_n 0, 1) := by decide +kernel
theorem d_Tokens_kindOf_6 : decode b_Tokens_kindOf 6 = .ok (.getfield 22, 3) := by decide +kernel
theorem d_Tokens_kindOf_9 : decode b_Tokens_kindOf 9 = .ok (.if_icmp .ge 12, 3) := by decide +kernel
theorem d_Tokens_kindOf_12 : decode b_Tokens_kindOf 12 = .ok (.aload_n 0, 1) := by decide +kernel
theorem d_Tokens_kindOf_13 : decode b_Tokens_kindOf 13 = .ok (.getfield 9, 3) := by decide +kernel
theorem d_Tokens_kindOf_16 : decode b_Tokens_kindOf 16 = .ok (.iload_n 1, 1) := by decide +kernel
theorem d_Tokens_kindOf_17 : decode b_Tokens_kindOf 17 = .ok (.iaload, 1) := by decide +kernel
theorem d_Tokens_kindOf_18 : decode b_Tokens_kindOf 18 = .ok (.goto 4, 3) := by decide +kernel
theorem d_Tokens_kindOf_21 : decode b_Tokens_kindOf 21 = .ok (.iconst 0, 1) := by decide +kernel
theorem d_Tokens_kindOf_22 : decode b_Tokens_kindOf 22 = .ok (.ireturn, 1) := by decide +kernel
theorem tw_83 : Cond.fieldLink "TinyForge$Tokens" 22 "TinyForge$Tokens" "count" "I" ∈ BIG := List.mem_filter.mpr ⟨List.mem_of_getElem? (i := 201) (by decide +kernel), by decide +kernel⟩
theorem tw_84 : Cond.fieldLink "TinyForge$Tokens" 9 "TinyForge$Tokens" "kinds" "[I" ∈ BIG := List.mem_filter.mpr ⟨List.mem_of_getElem? (i := 198) (by decide +kernel), by decide +kernel⟩
def tTokens_kindOf (σ : St) (a1 : Int32) : Option (Int32) := if a1 < 0 then some 0 else if (σ.1 4) ≤ a1 then some 0 else gd (inB a1 220) (some ((σ.2.2.1 1) a1.toNatClampNeg))
set_option maxHeartbeats 4000000 in
set_option maxRecDepth 100000 in
theorem ct_Tokens_kindOf (l : Launch) (dC : Nat → ClassId) (dI : Nat → Nat → Nat) (ad : Nat → Nat) (cA : Nat → ClassId) (sz : Nat) {σ : St} {a1 : Int32} {r : Int32} (hF : tTokens_kindOf σ a1 = some r) : MI l y_Tokens_kindOf b_Tokens_kindOf 2 (some .int) { frames := 0, cells := 0, slots := 0, locals := 0 } (dC, dI) (ttys cA) ad (tcw ad cA) [.ref (ad 2), .int a1] σ sz r σ := by
  refine startM (own := "TinyForge$Tokens") (Qc := fun A => QI (dC, dI) (ttys cA) (tcw ad cA) A r σ) rfl rfl (Nat.le_of_ble_eq_true rfl) ?_
  intro p e s m below meth c A H locs ls X hP hD hS hl
  have hl : lv_has ls 2 [(0, .ref (ad 2)), (1, .int a1)] := hl
  obtain ⟨hx, hb, hr, hml, hown, hlocks, hts, hA, hK, hZ⟩ := id X
  unfold tTokens_kindOf at hF
  refine lv_iload_n hx hb d_Tokens_kindOf_0 rfl (lv_at hl 1 rfl) ?_
  refine lv_if_lt (tgt := 21) hx hb d_Tokens_kindOf_1 (by decide) (fun c_1 => ?_) (fun c_1 => ?_)
  · have hF := ifp hF c_1
    refine lv_iconst (v := 0) hx hb d_Tokens_kindOf_21 (by decide) ?_
    cases hF
    exact leafI X hP hD hS d_Tokens_kindOf_22
  · have hF := ifn hF c_1
    refine lv_iload_n hx hb d_Tokens_kindOf_4 rfl (lv_at hl 1 rfl) ?_
    refine lv_aload_n hx hb d_Tokens_kindOf_5 rfl (lv_at hl 0 rfl) ?_
    refine va_get (D := (dC, dI)) (ci := 2) (v := .int (σ.1 4)) hx hb hts i_Tokens hown hK hP 2 rfl rfl 5 (by decide) (hts _ tw_83) (fun _ h9 => h9) rfl d_Tokens_kindOf_6 ?_
    refine lv_icmp_ge (tgt := 21) hx hb d_Tokens_kindOf_9 (by decide) (fun c_2 => ?_) (fun c_2 => ?_)
    · have hF := ifp hF c_2
      refine lv_iconst (v := 0) hx hb d_Tokens_kindOf_21 (by decide) ?_
      cases hF
      exact leafI X hP hD hS d_Tokens_kindOf_22
    · have hF := ifn hF c_2
      refine lv_aload_n hx hb d_Tokens_kindOf_12 rfl (lv_at hl 0 rfl) ?_
      refine va_get (D := (dC, dI)) (ci := 2) (v := .ref (ad 12)) hx hb hts i_Tokens hown hK hP 2 rfl rfl 2 (by decide) (hts _ tw_84) (fun _ h9 => h9) rfl d_Tokens_kindOf_13 ?_
      refine lv_iload_n hx hb d_Tokens_kindOf_16 rfl (lv_at hl 1 rfl) ?_
      obtain ⟨g_3, hF⟩ := gdE hF
      refine va_iald (f := (σ.2.2.1 1)) hx hb hK hP 12 0 rfl rfl (inE g_3) d_Tokens_kindOf_17 ?_
      refine lv_goto (tgt := 22) hx hb d_Tokens_kindOf_18 (by decide) ?_
      cases hF
      exact leafI X hP hD hS d_Tokens_kindOf_22
theorem d_Tokens_valueOf_0 : decode b_Tokens_valueOf 0 = .ok (.iload_n 1, 1) := by decide +kernel
theorem d_Tokens_valueOf_1 : decode b_Tokens_valueOf 1 = .ok (.ifCond .lt 20, 3) := by decide +kernel
theorem d_Tokens_valueOf_4 : decode b_Tokens_valueOf 4 = .ok (.iload_n 1, 1) := by decide +kernel
theorem d_Tokens_valueOf_5 : decode b_Tokens_valueOf 5 = .ok (.aload_n 0, 1) := by decide +kernel
theorem d_Tokens_valueOf_6 : decode b_Tokens_valueOf 6 = .ok (.getfield 22, 3) := by decide +kernel
theorem d_Tokens_valueOf_9 : decode b_Tokens_valueOf 9 = .ok (.if_icmp .ge 12, 3) := by decide +kernel
theorem d_Tokens_valueOf_12 : decode b_Tokens_valueOf 12 = .ok (.aload_n 0, 1) := by decide +kernel
theorem d_Tokens_valueOf_13 : decode b_Tokens_valueOf 13 = .ok (.getfield 18, 3) := by decide +kernel
theorem d_Tokens_valueOf_16 : decode b_Tokens_valueOf 16 = .ok (.iload_n 1, 1) := by decide +kernel
theorem d_Tokens_valueOf_17 : decode b_Tokens_valueOf 17 = .ok (.laload, 1) := by decide +kernel
theorem d_Tokens_valueOf_18 : decode b_Tokens_valueOf 18 = .ok (.goto 4, 3) := by decide +kernel
theorem d_Tokens_valueOf_21 : decode b_Tokens_valueOf 21 = .ok (.lconst 0, 1) := by decide +kernel
theorem d_Tokens_valueOf_22 : decode b_Tokens_valueOf 22 = .ok (.lreturn, 1) := by decide +kernel
theorem tw_85 : Cond.fieldLink "TinyForge$Tokens" 18 "TinyForge$Tokens" "values" "[J" ∈ BIG := List.mem_filter.mpr ⟨List.mem_of_getElem? (i := 200) (by decide +kernel), by decide +kernel⟩
def tTokens_valueOf (σ : St) (a1 : Int32) : Option (Int64) := if a1 < 0 then some 0 else if (σ.1 4) ≤ a1 then some 0 else gd (inB a1 220) (some ((σ.2.2.2 0) a1.toNatClampNeg))
set_option maxHeartbeats 4000000 in
set_option maxRecDepth 100000 in
theorem ct_Tokens_valueOf (l : Launch) (dC : Nat → ClassId) (dI : Nat → Nat → Nat) (ad : Nat → Nat) (cA : Nat → ClassId) (sz : Nat) {σ : St} {a1 : Int32} {r : Int64} (hF : tTokens_valueOf σ a1 = some r) : MJ l y_Tokens_valueOf b_Tokens_valueOf 2 (some .long) { frames := 0, cells := 0, slots := 0, locals := 0 } (dC, dI) (ttys cA) ad (tcw ad cA) [.ref (ad 2), .int a1] σ sz r σ := by
  refine startM (own := "TinyForge$Tokens") (Qc := fun A => QJ (dC, dI) (ttys cA) (tcw ad cA) A r σ) rfl rfl (Nat.le_of_ble_eq_true rfl) ?_
  intro p e s m below meth c A H locs ls X hP hD hS hl
  have hl : lv_has ls 2 [(0, .ref (ad 2)), (1, .int a1)] := hl
  obtain ⟨hx, hb, hr, hml, hown, hlocks, hts, hA, hK, hZ⟩ := id X
  unfold tTokens_valueOf at hF
  refine lv_iload_n hx hb d_Tokens_valueOf_0 rfl (lv_at hl 1 rfl) ?_
  refine lv_if_lt (tgt := 21) hx hb d_Tokens_valueOf_1 (by decide) (fun c_1 => ?_) (fun c_1 => ?_)
  · have hF := ifp hF c_1
    refine lv_lconst (v := 0) hx hb d_Tokens_valueOf_21 (by decide) ?_
    cases hF
    exact leafJ X hP hD hS d_Tokens_valueOf_22
  · have hF := ifn hF c_1
    refine lv_iload_n hx hb d_Tokens_valueOf_4 rfl (lv_at hl 1 rfl) ?_
    refine lv_aload_n hx hb d_Tokens_valueOf_5 rfl (lv_at hl 0 rfl) ?_
    refine va_get (D := (dC, dI)) (ci := 2) (v := .int (σ.1 4)) hx hb hts i_Tokens hown hK hP 2 rfl rfl 5 (by decide) (hts _ tw_83) (fun _ h9 => h9) rfl d_Tokens_valueOf_6 ?_
    refine lv_icmp_ge (tgt := 21) hx hb d_Tokens_valueOf_9 (by decide) (fun c_2 => ?_) (fun c_2 => ?_)
    · have hF := ifp hF c_2
      refine lv_lconst (v := 0) hx hb d_Tokens_valueOf_21 (by decide) ?_
      cases hF
      exact leafJ X hP hD hS d_Tokens_valueOf_22
    · have hF := ifn hF c_2
      refine lv_aload_n hx hb d_Tokens_valueOf_12 rfl (lv_at hl 0 rfl) ?_
      refine va_get (D := (dC, dI)) (ci := 2) (v := .ref (ad 14)) hx hb hts i_Tokens hown hK hP 2 rfl rfl 4 (by decide) (hts _ tw_85) (fun _ h9 => h9) rfl d_Tokens_valueOf_13 ?_
      refine lv_iload_n hx hb d_Tokens_valueOf_16 rfl (lv_at hl 1 rfl) ?_
      obtain ⟨g_3, hF⟩ := gdE hF
      refine va_lald (f := (σ.2.2.2 0)) hx hb hK hP 14 1 rfl rfl (inE g_3) d_Tokens_valueOf_17 ?_
      refine lv_goto (tgt := 22) hx hb d_Tokens_valueOf_18 (by decide) ?_
      cases hF
      exact leafJ X hP hD hS d_Tokens_valueOf_22
theorem d_Tokens_placeOf_0 : decode b_Tokens_placeOf 0 = .ok (.iload_n 1, 1) := by decide +kernel
theorem d_Tokens_placeOf_1 : decode b_Tokens_placeOf 1 = .ok (.ifCond .lt 20, 3) := by decide +kernel
theorem d_Tokens_placeOf_4 : decode b_Tokens_placeOf 4 = .ok (.iload_n 1, 1) := by decide +kernel
theorem d_Tokens_placeOf_5 : decode b_Tokens_placeOf 5 = .ok (.aload_n 0, 1) := by decide +kernel
theorem d_Tokens_placeOf_6 : decode b_Tokens_placeOf 6 = .ok (.getfield 22, 3) := by decide +kernel
theorem d_Tokens_placeOf_9 : decode b_Tokens_placeOf 9 = .ok (.if_icmp .ge 12, 3) := by decide +kernel
theorem d_Tokens_placeOf_12 : decode b_Tokens_placeOf 12 = .ok (.aload_n 0, 1) := by decide +kernel
theorem d_Tokens_placeOf_13 : decode b_Tokens_placeOf 13 = .ok (.getfield 15, 3) := by decide +kernel
theorem d_Tokens_placeOf_16 : decode b_Tokens_placeOf 16 = .ok (.iload_n 1, 1) := by decide +kernel
theorem d_Tokens_placeOf_17 : decode b_Tokens_placeOf 17 = .ok (.iaload, 1) := by decide +kernel
theorem d_Tokens_placeOf_18 : decode b_Tokens_placeOf 18 = .ok (.goto 10, 3) := by decide +kernel
theorem d_Tokens_placeOf_21 : decode b_Tokens_placeOf 21 = .ok (.aload_n 0, 1) := by decide +kernel
theorem d_Tokens_placeOf_22 : decode b_Tokens_placeOf 22 = .ok (.getfield 29, 3) := by decide +kernel
theorem d_Tokens_placeOf_25 : decode b_Tokens_placeOf 25 = .ok (.getfield 37, 3) := by decide +kernel
theorem d_Tokens_placeOf_28 : decode b_Tokens_placeOf 28 = .ok (.ireturn, 1) := by decide +kernel
theorem tw_86 : Cond.fieldLink "TinyForge$Tokens" 29 "TinyForge$Tokens" "text" "LTinyForge$Text;" ∈ BIG := List.mem_filter.mpr ⟨List.mem_of_getElem? (i := 195) (by decide +kernel), by decide +kernel⟩
theorem tw_87 : Cond.fieldLink "TinyForge$Tokens" 37 "TinyForge$Text" "length" "I" ∈ BIG := List.mem_filter.mpr ⟨List.mem_of_getElem? (i := 162) (by decide +kernel), by decide +kernel⟩
theorem tw_88 : Cond.fieldLink "TinyForge$Tokens" 15 "TinyForge$Tokens" "places" "[I" ∈ BIG := List.mem_filter.mpr ⟨List.mem_of_getElem? (i := 199) (by decide +kernel), by decide +kernel⟩
def tTokens_placeOf (σ : St) (a1 : Int32) : Option (Int32) := if a1 < 0 then some (σ.1 0) else if (σ.1 4) ≤ a1 then some (σ.1 0) else gd (inB a1 220) (some ((σ.2.2.1 2) a1.toNatClampNeg))
set_option maxHeartbeats 4000000 in
set_option maxRecDepth 100000 in
theorem ct_Tokens_placeOf (l : Launch) (dC : Nat → ClassId) (dI : Nat → Nat → Nat) (ad : Nat → Nat) (cA : Nat → ClassId) (sz : Nat) {σ : St} {a1 : Int32} {r : Int32} (hF : tTokens_placeOf σ a1 = some r) : MI l y_Tokens_placeOf b_Tokens_placeOf 2 (some .int) { frames := 0, cells := 0, slots := 0, locals := 0 } (dC, dI) (ttys cA) ad (tcw ad cA) [.ref (ad 2), .int a1] σ sz r σ := by
  refine startM (own := "TinyForge$Tokens") (Qc := fun A => QI (dC, dI) (ttys cA) (tcw ad cA) A r σ) rfl rfl (Nat.le_of_ble_eq_true rfl) ?_
  intro p e s m below meth c A H locs ls X hP hD hS hl
  have hl : lv_has ls 2 [(0, .ref (ad 2)), (1, .int a1)] := hl
  obtain ⟨hx, hb, hr, hml, hown, hlocks, hts, hA, hK, hZ⟩ := id X
  unfold tTokens_placeOf at hF
  refine lv_iload_n hx hb d_Tokens_placeOf_0 rfl (lv_at hl 1 rfl) ?_
  refine lv_if_lt (tgt := 21) hx hb d_Tokens_placeOf_1 (by decide) (fun c_1 => ?_) (fun c_1 => ?_)
  · have hF := ifp hF c_1
    refine lv_aload_n hx hb d_Tokens_placeOf_21 rfl (lv_at hl 0 rfl) ?_
    refine va_get (D := (dC, dI)) (ci := 2) (v := .ref (ad 0)) hx hb hts i_Tokens hown hK hP 2 rfl rfl 0 (by decide) (hts _ tw_86) (fun _ h9 => h9) rfl d_Tokens_placeOf_22 ?_
    refine va_get (D := (dC, dI)) (ci := 0) (v := .int (σ.1 0)) hx hb hts i_Text hown hK hP 0 rfl rfl 1 (by decide) (hts _ tw_87) (fun _ h9 => h9) rfl d_Tokens_placeOf_25 ?_
    cases hF
    exact leafI X hP hD hS d_Tokens_placeOf_28
  · have hF := ifn hF c_1
    refine lv_iload_n hx hb d_Tokens_placeOf_4 rfl (lv_at hl 1 rfl) ?_
    refine lv_aload_n hx hb d_Tokens_placeOf_5 rfl (lv_at hl 0 rfl) ?_
    refine va_get (D := (dC, dI)) (ci := 2) (v := .int (σ.1 4)) hx hb hts i_Tokens hown hK hP 2 rfl rfl 5 (by decide) (hts _ tw_83) (fun _ h9 => h9) rfl d_Tokens_placeOf_6 ?_
    refine lv_icmp_ge (tgt := 21) hx hb d_Tokens_placeOf_9 (by decide) (fun c_2 => ?_) (fun c_2 => ?_)
    · have hF := ifp hF c_2
      refine lv_aload_n hx hb d_Tokens_placeOf_21 rfl (lv_at hl 0 rfl) ?_
      refine va_get (D := (dC, dI)) (ci := 2) (v := .ref (ad 0)) hx hb hts i_Tokens hown hK hP 2 rfl rfl 0 (by decide) (hts _ tw_86) (fun _ h9 => h9) rfl d_Tokens_placeOf_22 ?_
      refine va_get (D := (dC, dI)) (ci := 0) (v := .int (σ.1 0)) hx hb hts i_Text hown hK hP 0 rfl rfl 1 (by decide) (hts _ tw_87) (fun _ h9 => h9) rfl d_Tokens_placeOf_25 ?_
      cases hF
      exact leafI X hP hD hS d_Tokens_placeOf_28
    · have hF := ifn hF c_2
      refine lv_aload_n hx hb d_Tokens_placeOf_12 rfl (lv_at hl 0 rfl) ?_
      refine va_get (D := (dC, dI)) (ci := 2) (v := .ref (ad 13)) hx hb hts i_Tokens hown hK hP 2 rfl rfl 3 (by decide) (hts _ tw_88) (fun _ h9 => h9) rfl d_Tokens_placeOf_13 ?_
      refine lv_iload_n hx hb d_Tokens_placeOf_16 rfl (lv_at hl 1 rfl) ?_
      obtain ⟨g_3, hF⟩ := gdE hF
      refine va_iald (f := (σ.2.2.1 2)) hx hb hK hP 13 0 rfl rfl (inE g_3) d_Tokens_placeOf_17 ?_
      refine lv_goto (tgt := 28) hx hb d_Tokens_placeOf_18 (by decide) ?_
      cases hF
      exact leafI X hP hD hS d_Tokens_placeOf_28
theorem d_Tokens_add_0 : decode b_Tokens_add 0 = .ok (.aload_n 0, 1) := by decide +kernel
theorem d_Tokens_add_1 : decode b_Tokens_add 1 = .ok (.getfield 22, 3) := by decide +kernel
theorem d_Tokens_add_4 : decode b_Tokens_add 4 = .ok (.sipush 220, 3) := by decide +kernel
theorem d_Tokens_add_7 : decode b_Tokens_add 7 = .ok (.if_icmp .ge 46, 3) := by decide +kernel
theorem d_Tokens_add_10 : decode b_Tokens_add 10 = .ok (.aload_n 0, 1) := by decide +kernel
theorem d_Tokens_add_11 : decode b_Tokens_add 11 = .ok (.getfield 9, 3) := by decide +kernel
theorem d_Tokens_add_14 : decode b_Tokens_add 14 = .ok (.aload_n 0, 1) := by decide +kernel
theorem d_Tokens_add_15 : decode b_Tokens_add 15 = .ok (.getfield 22, 3) := by decide +kernel
theorem d_Tokens_add_18 : decode b_Tokens_add 18 = .ok (.iload_n 1, 1) := by decide +kernel
theorem d_Tokens_add_19 : decode b_Tokens_add 19 = .ok (.iastore, 1) := by decide +kernel
theorem d_Tokens_add_20 : decode b_Tokens_add 20 = .ok (.aload_n 0, 1) := by decide +kernel
theorem d_Tokens_add_21 : decode b_Tokens_add 21 = .ok (.getfield 15, 3) := by decide +kernel
theorem d_Tokens_add_24 : decode b_Tokens_add 24 = .ok (.aload_n 0, 1) := by decide +kernel
theorem d_Tokens_add_25 : decode b_Tokens_add 25 = .ok (.getfield 22, 3) := by decide +kernel
theorem d_Tokens_add_28 : decode b_Tokens_add 28 = .ok (.iload_n 2, 1) := by decide +kernel
theorem d_Tokens_add_29 : decode b_Tokens_add 29 = .ok (.iastore, 1) := by decide +kernel
theorem d_Tokens_add_30 : decode b_Tokens_add 30 = .ok (.aload_n 0, 1) := by decide +kernel
theorem d_Tokens_add_31 : decode b_Tokens_add 31 = .ok (.getfield 18, 3) := by decide +kernel
theorem d_Tokens_add_34 : decode b_Tokens_add 34 = .ok (.aload_n 0, 1) := by decide +kernel
theorem d_Tokens_add_35 : decode b_Tokens_add 35 = .ok (.getfield 22, 3) := by decide +kernel
theorem d_Tokens_add_38 : decode b_Tokens_add 38 = .ok (.lload_n 3, 1) := by decide +kernel
theorem d_Tokens_add_39 : decode b_Tokens_add 39 = .ok (.lastore, 1) := by decide +kernel
theorem d_Tokens_add_40 : decode b_Tokens_add 40 = .ok (.aload_n 0, 1) := by decide +kernel
theorem d_Tokens_add_41 : decode b_Tokens_add 41 = .ok (.dup, 1) := by decide +kernel
theorem d_Tokens_add_42 : decode b_Tokens_add 42 = .ok (.getfield 22, 3) := by decide +kernel
theorem d_Tokens_add_45 : decode b_Tokens_add 45 = .ok (.iconst 1, 1) := by decide +kernel
theorem d_Tokens_add_46 : decode b_Tokens_add 46 = .ok (.iadd, 1) := by decide +kernel
theorem d_Tokens_add_47 : decode b_Tokens_add 47 = .ok (.putfield 22, 3) := by decide +kernel
theorem d_Tokens_add_50 : decode b_Tokens_add 50 = .ok (.goto 15, 3) := by decide +kernel
theorem d_Tokens_add_53 : decode b_Tokens_add 53 = .ok (.aload_n 0, 1) := by decide +kernel
theorem d_Tokens_add_54 : decode b_Tokens_add 54 = .ok (.getfield 26, 3) := by decide +kernel
theorem d_Tokens_add_57 : decode b_Tokens_add 57 = .ok (.ifCond .ge 8, 3) := by decide +kernel
theorem d_Tokens_add_60 : decode b_Tokens_add 60 = .ok (.aload_n 0, 1) := by decide +kernel
theorem d_Tokens_add_61 : decode b_Tokens_add 61 = .ok (.iload_n 2, 1) := by decide +kernel
theorem d_Tokens_add_62 : decode b_Tokens_add 62 = .ok (.putfield 26, 3) := by decide +kernel
theorem d_Tokens_add_65 : decode b_Tokens_add 65 = .ok (.return_, 1) := by decide +kernel
theorem tw_89 : Cond.fieldLink "TinyForge$Tokens" 26 "TinyForge$Tokens" "tooMany" "I" ∈ BIG := List.mem_filter.mpr ⟨List.mem_of_getElem? (i := 202) (by decide +kernel), by decide +kernel⟩
def tTokens_add (σ : St) (a1 : Int32) (a2 : Int32) (a3 : Int64) : Option (St) := if (220 : Int32) ≤ (σ.1 4) then if (0 : Int32) ≤ (σ.1 5) then some σ else some (sI σ 5 a2) else gd (inB (σ.1 4) 220) (gd (inB (σ.1 4) 220) (gd (inB (σ.1 4) 220) (some (sI (sL (sA (sA σ 1 (upd (σ.2.2.1 1) (σ.1 4).toNatClampNeg a1)) 2 (upd (σ.2.2.1 2) (σ.1 4).toNatClampNeg a2)) 0 (vp_updL (σ.2.2.2 0) (σ.1 4).toNatClampNeg a3)) 4 ((σ.1 4) + 1)))))
set_option maxHeartbeats 4000000 in
set_option maxRecDepth 100000 in
theorem ct_Tokens_add (l : Launch) (dC : Nat → ClassId) (dI : Nat → Nat → Nat) (ad : Nat → Nat) (cA : Nat → ClassId) (sz : Nat) {σ : St} {a1 : Int32} {a2 : Int32} {a3 : Int64} {σ' : St} (hF : tTokens_add σ a1 a2 a3 = some σ') : MV l y_Tokens_add b_Tokens_add 5 none { frames := 0, cells := 0, slots := 0, locals := 0 } (dC, dI) (ttys cA) ad (tcw ad cA) [.ref (ad 2), .int a1, .int a2, .long a3] σ sz σ' := by
  refine startM (own := "TinyForge$Tokens") (Qc := fun A => QV (dC, dI) (ttys cA) (tcw ad cA) A σ') rfl rfl (Nat.le_of_ble_eq_true rfl) ?_
  intro p e s m below meth c A H locs ls X hP hD hS hl
  have hl : lv_has ls 5 [(0, .ref (ad 2)), (1, .int a1), (2, .int a2), (3, .long a3)] := hl
  obtain ⟨hx, hb, hr, hml, hown, hlocks, hts, hA, hK, hZ⟩ := id X
  unfold tTokens_add at hF
  refine lv_aload_n hx hb d_Tokens_add_0 rfl (lv_at hl 0 rfl) ?_
  refine va_get (D := (dC, dI)) (ci := 2) (v := .int (σ.1 4)) hx hb hts i_Tokens hown hK hP 2 rfl rfl 5 (by decide) (hts _ tw_83) (fun _ h9 => h9) rfl d_Tokens_add_1 ?_
  refine lv_sipush (v := 220) hx hb d_Tokens_add_4 (by decide) ?_
  refine lv_icmp_ge (tgt := 53) hx hb d_Tokens_add_7 (by decide) (fun c_1 => ?_) (fun c_1 => ?_)
  · have hF := ifp hF c_1
    refine lv_aload_n hx hb d_Tokens_add_53 rfl (lv_at hl 0 rfl) ?_
    refine va_get (D := (dC, dI)) (ci := 2) (v := .int (σ.1 5)) hx hb hts i_Tokens hown hK hP 2 rfl rfl 6 (by decide) (hts _ tw_89) (fun _ h9 => h9) rfl d_Tokens_add_54 ?_
    refine lv_if_ge (tgt := 65) hx hb d_Tokens_add_57 (by decide) (fun c_2 => ?_) (fun c_2 => ?_)
    · have hF := ifp hF c_2
      cases hF
      exact leafV X hP hD hS d_Tokens_add_65
    · have hF := ifn hF c_2
      refine lv_aload_n hx hb d_Tokens_add_60 rfl (lv_at hl 0 rfl) ?_
      refine lv_iload_n hx hb d_Tokens_add_61 rfl (lv_at hl 2 rfl) ?_
      refine va_put (D := (dC, dI)) (ci := 2) (v := .int a2) (ty := .int) hx hb hts i_Tokens t_Tokens t_Tokens_ok n_Tokens hown hK hP hD hS 2 rfl rfl 6 (by decide) (hts _ tw_89) (fun _ h9 => h9) rfl (by decide +kernel) rfl rfl (Nat.le_of_ble_eq_true rfl) d_Tokens_add_62 (fun H locs hP hD hS => ?_)
      have hP : va_P (dC, dI) vwCl (tcw ad cA (sI σ 5 a2)) H := hP
      have hD : va_D A (tcw ad cA (sI σ 5 a2)) := hD
      cases hF
      exact leafV X hP hD hS d_Tokens_add_65
  · have hF := ifn hF c_1
    refine lv_aload_n hx hb d_Tokens_add_10 rfl (lv_at hl 0 rfl) ?_
    refine va_get (D := (dC, dI)) (ci := 2) (v := .ref (ad 12)) hx hb hts i_Tokens hown hK hP 2 rfl rfl 2 (by decide) (hts _ tw_84) (fun _ h9 => h9) rfl d_Tokens_add_11 ?_
    refine lv_aload_n hx hb d_Tokens_add_14 rfl (lv_at hl 0 rfl) ?_
    refine va_get (D := (dC, dI)) (ci := 2) (v := .int (σ.1 4)) hx hb hts i_Tokens hown hK hP 2 rfl rfl 5 (by decide) (hts _ tw_83) (fun _ h9 => h9) rfl d_Tokens_add_15 ?_
    refine lv_iload_n hx hb d_Tokens_add_18 rfl (lv_at hl 1 rfl) ?_
    obtain ⟨g_3, hF⟩ := gdE hF
    refine va_iast (f := (σ.2.2.1 1)) hx hb hK hP hD hS 12 0 rfl rfl (inE g_3) d_Tokens_add_19 (fun H locs hP hD hS => ?_)
    have hP : va_P (dC, dI) vwCl (tcw ad cA (sA σ 1 (upd (σ.2.2.1 1) (σ.1 4).toNatClampNeg a1))) H := hP
    have hD : va_D A (tcw ad cA (sA σ 1 (upd (σ.2.2.1 1) (σ.1 4).toNatClampNeg a1))) := hD
    refine lv_aload_n hx hb d_Tokens_add_20 rfl (lv_at hl 0 rfl) ?_
    refine va_get (D := (dC, dI)) (ci := 2) (v := .ref (ad 13)) hx hb hts i_Tokens hown hK hP 2 rfl rfl 3 (by decide) (hts _ tw_88) (fun _ h9 => h9) rfl d_Tokens_add_21 ?_
    refine lv_aload_n hx hb d_Tokens_add_24 rfl (lv_at hl 0 rfl) ?_
    refine va_get (D := (dC, dI)) (ci := 2) (v := .int (σ.1 4)) hx hb hts i_Tokens hown hK hP 2 rfl rfl 5 (by decide) (hts _ tw_83) (fun _ h9 => h9) rfl d_Tokens_add_25 ?_
    refine lv_iload_n hx hb d_Tokens_add_28 rfl (lv_at hl 2 rfl) ?_
    obtain ⟨g_4, hF⟩ := gdE hF
    refine va_iast (f := (σ.2.2.1 2)) hx hb hK hP hD hS 13 0 rfl rfl (inE g_4) d_Tokens_add_29 (fun H locs hP hD hS => ?_)
    have hP : va_P (dC, dI) vwCl (tcw ad cA (sA (sA σ 1 (upd (σ.2.2.1 1) (σ.1 4).toNatClampNeg a1)) 2 (upd (σ.2.2.1 2) (σ.1 4).toNatClampNeg a2))) H := hP
    have hD : va_D A (tcw ad cA (sA (sA σ 1 (upd (σ.2.2.1 1) (σ.1 4).toNatClampNeg a1)) 2 (upd (σ.2.2.1 2) (σ.1 4).toNatClampNeg a2))) := hD
    refine lv_aload_n hx hb d_Tokens_add_30 rfl (lv_at hl 0 rfl) ?_
    refine va_get (D := (dC, dI)) (ci := 2) (v := .ref (ad 14)) hx hb hts i_Tokens hown hK hP 2 rfl rfl 4 (by decide) (hts _ tw_85) (fun _ h9 => h9) rfl d_Tokens_add_31 ?_
    refine lv_aload_n hx hb d_Tokens_add_34 rfl (lv_at hl 0 rfl) ?_
    refine va_get (D := (dC, dI)) (ci := 2) (v := .int (σ.1 4)) hx hb hts i_Tokens hown hK hP 2 rfl rfl 5 (by decide) (hts _ tw_83) (fun _ h9 => h9) rfl d_Tokens_add_35 ?_
    refine lv_lload_n hx hb d_Tokens_add_38 rfl (lv_at hl 3 rfl) ?_
    obtain ⟨g_5, hF⟩ := gdE hF
    refine va_last (f := (σ.2.2.2 0)) hx hb hK hP hD hS 14 1 rfl rfl (inE g_5) d_Tokens_add_39 (fun H locs hP hD hS => ?_)
    have hP : va_P (dC, dI) vwCl (tcw ad cA (sL (sA (sA σ 1 (upd (σ.2.2.1 1) (σ.1 4).toNatClampNeg a1)) 2 (upd (σ.2.2.1 2) (σ.1 4).toNatClampNeg a2)) 0 (vp_updL (σ.2.2.2 0) (σ.1 4).toNatClampNeg a3))) H := hP
    have hD : va_D A (tcw ad cA (sL (sA (sA σ 1 (upd (σ.2.2.1 1) (σ.1 4).toNatClampNeg a1)) 2 (upd (σ.2.2.1 2) (σ.1 4).toNatClampNeg a2)) 0 (vp_updL (σ.2.2.2 0) (σ.1 4).toNatClampNeg a3))) := hD
    refine lv_aload_n hx hb d_Tokens_add_40 rfl (lv_at hl 0 rfl) ?_
    refine lv_dup hx hb d_Tokens_add_41 rfl ?_
    refine va_get (D := (dC, dI)) (ci := 2) (v := .int (σ.1 4)) hx hb hts i_Tokens hown hK hP 2 rfl rfl 5 (by decide) (hts _ tw_83) (fun _ h9 => h9) rfl d_Tokens_add_42 ?_
    refine lv_iconst (v := 1) hx hb d_Tokens_add_45 (by decide) ?_
    refine lv_iadd hx hb d_Tokens_add_46 ?_
    refine va_put (D := (dC, dI)) (ci := 2) (v := .int ((σ.1 4) + 1)) (ty := .int) hx hb hts i_Tokens t_Tokens t_Tokens_ok n_Tokens hown hK hP hD hS 2 rfl rfl 5 (by decide) (hts _ tw_83) (fun _ h9 => h9) rfl (by decide +kernel) rfl rfl (Nat.le_of_ble_eq_true rfl) d_Tokens_add_47 (fun H locs hP hD hS => ?_)
    have hP : va_P (dC, dI) vwCl (tcw ad cA (sI (sL (sA (sA σ 1 (upd (σ.2.2.1 1) (σ.1 4).toNatClampNeg a1)) 2 (upd (σ.2.2.1 2) (σ.1 4).toNatClampNeg a2)) 0 (vp_updL (σ.2.2.2 0) (σ.1 4).toNatClampNeg a3)) 4 ((σ.1 4) + 1))) H := hP
    have hD : va_D A (tcw ad cA (sI (sL (sA (sA σ 1 (upd (σ.2.2.1 1) (σ.1 4).toNatClampNeg a1)) 2 (upd (σ.2.2.1 2) (σ.1 4).toNatClampNeg a2)) 0 (vp_updL (σ.2.2.2 0) (σ.1 4).toNatClampNeg a3)) 4 ((σ.1 4) + 1))) := hD
    refine lv_goto (tgt := 65) hx hb d_Tokens_add_50 (by decide) ?_
    cases hF
    exact leafV X hP hD hS d_Tokens_add_65
theorem d_Tokens_isDoubleSign_0 : decode b_Tokens_isDoubleSign 0 = .ok (.iload_n 0, 1) := by decide +kernel
theorem d_Tokens_isDoubleSign_1 : decode b_Tokens_isDoubleSign 1 = .ok (.bipush 38, 2) := by decide +kernel
theorem d_Tokens_isDoubleSign_3 : decode b_Tokens_isDoubleSign 3 = .ok (.if_icmp .eq 9, 3) := by decide +kernel
theorem d_Tokens_isDoubleSign_6 : decode b_Tokens_isDoubleSign 6 = .ok (.iload_n 0, 1) := by decide +kernel
theorem d_Tokens_isDoubleSign_7 : decode b_Tokens_isDoubleSign 7 = .ok (.bipush 124, 2) := by decide +kernel
theorem d_Tokens_isDoubleSign_9 : decode b_Tokens_isDoubleSign 9 = .ok (.if_icmp .ne 14, 3) := by decide +kernel
theorem d_Tokens_isDoubleSign_12 : decode b_Tokens_isDoubleSign 12 = .ok (.iload_n 1, 1) := by decide +kernel
theorem d_Tokens_isDoubleSign_13 : decode b_Tokens_isDoubleSign 13 = .ok (.iload_n 0, 1) := by decide +kernel
theorem d_Tokens_isDoubleSign_14 : decode b_Tokens_isDoubleSign 14 = .ok (.if_icmp .ne 7, 3) := by decide +kernel
theorem d_Tokens_isDoubleSign_17 : decode b_Tokens_isDoubleSign 17 = .ok (.iconst 1, 1) := by decide +kernel
theorem d_Tokens_isDoubleSign_18 : decode b_Tokens_isDoubleSign 18 = .ok (.goto 4, 3) := by decide +kernel
theorem d_Tokens_isDoubleSign_21 : decode b_Tokens_isDoubleSign 21 = .ok (.iconst 0, 1) := by decide +kernel
theorem d_Tokens_isDoubleSign_22 : decode b_Tokens_isDoubleSign 22 = .ok (.ireturn, 1) := by decide +kernel
theorem d_Tokens_isDoubleSign_23 : decode b_Tokens_isDoubleSign 23 = .ok (.iload_n 1, 1) := by decide +kernel
theorem d_Tokens_isDoubleSign_24 : decode b_Tokens_isDoubleSign 24 = .ok (.bipush 61, 2) := by decide +kernel
theorem d_Tokens_isDoubleSign_26 : decode b_Tokens_isDoubleSign 26 = .ok (.if_icmp .ne 31, 3) := by decide +kernel
theorem d_Tokens_isDoubleSign_29 : decode b_Tokens_isDoubleSign 29 = .ok (.iload_n 0, 1) := by decide +kernel
theorem d_Tokens_isDoubleSign_30 : decode b_Tokens_isDoubleSign 30 = .ok (.bipush 61, 2) := by decide +kernel
theorem d_Tokens_isDoubleSign_32 : decode b_Tokens_isDoubleSign 32 = .ok (.if_icmp .eq 21, 3) := by decide +kernel
theorem d_Tokens_isDoubleSign_35 : decode b_Tokens_isDoubleSign 35 = .ok (.iload_n 0, 1) := by decide +kernel
theorem d_Tokens_isDoubleSign_36 : decode b_Tokens_isDoubleSign 36 = .ok (.bipush 33, 2) := by decide +kernel
theorem d_Tokens_isDoubleSign_38 : decode b_Tokens_isDoubleSign 38 = .ok (.if_icmp .eq 15, 3) := by decide +kernel
theorem d_Tokens_isDoubleSign_41 : decode b_Tokens_isDoubleSign 41 = .ok (.iload_n 0, 1) := by decide +kernel
theorem d_Tokens_isDoubleSign_42 : decode b_Tokens_isDoubleSign 42 = .ok (.bipush 60, 2) := by decide +kernel
theorem d_Tokens_isDoubleSign_44 : decode b_Tokens_isDoubleSign 44 = .ok (.if_icmp .eq 9, 3) := by decide +kernel
theorem d_Tokens_isDoubleSign_47 : decode b_Tokens_isDoubleSign 47 = .ok (.iload_n 0, 1) := by decide +kernel
theorem d_Tokens_isDoubleSign_48 : decode b_Tokens_isDoubleSign 48 = .ok (.bipush 62, 2) := by decide +kernel
theorem d_Tokens_isDoubleSign_50 : decode b_Tokens_isDoubleSign 50 = .ok (.if_icmp .ne 7, 3) := by decide +kernel
theorem d_Tokens_isDoubleSign_53 : decode b_Tokens_isDoubleSign 53 = .ok (.iconst 1, 1) := by decide +kernel
theorem d_Tokens_isDoubleSign_54 : decode b_Tokens_isDoubleSign 54 = .ok (.goto 4, 3) := by decide +kernel
theorem d_Tokens_isDoubleSign_57 : decode b_Tokens_isDoubleSign 57 = .ok (.iconst 0, 1) := by decide +kernel
theorem d_Tokens_isDoubleSign_58 : decode b_Tokens_isDoubleSign 58 = .ok (.ireturn, 1) := by decide +kernel
def tTokens_isDoubleSign (σ : St) (a1 : Int32) (a2 : Int32) : Option (Int32) := if a1 = 38 then if a2 = a1 then some 1 else some 0 else if a1 = 124 then if a2 = a1 then some 1 else some 0 else if a2 = 61 then if a1 = 61 then some 1 else if a1 = 33 then some 1 else if a1 = 60 then some 1 else if a1 = 62 then some 1 else some 0 else some 0
set_option maxHeartbeats 4000000 in
set_option maxRecDepth 100000 in
theorem ct_Tokens_isDoubleSign (l : Launch) (dC : Nat → ClassId) (dI : Nat → Nat → Nat) (ad : Nat → Nat) (cA : Nat → ClassId) (sz : Nat) {σ : St} {a1 : Int32} {a2 : Int32} {r : Int32} (hF : tTokens_isDoubleSign σ a1 a2 = some r) : MI l y_Tokens_isDoubleSign b_Tokens_isDoubleSign 2 (some .boolean) { frames := 0, cells := 0, slots := 0, locals := 0 } (dC, dI) (ttys cA) ad (tcw ad cA) [.int a1, .int a2] σ sz r σ := by
  refine startM (own := "TinyForge$Tokens") (Qc := fun A => QI (dC, dI) (ttys cA) (tcw ad cA) A r σ) rfl rfl (Nat.le_of_ble_eq_true rfl) ?_
  intro p e s m below meth c A H locs ls X hP hD hS hl
  have hl : lv_has ls 2 [(0, .int a1), (1, .int a2)] := hl
  obtain ⟨hx, hb, hr, hml, hown, hlocks, hts, hA, hK, hZ⟩ := id X
  unfold tTokens_isDoubleSign at hF
  refine lv_iload_n hx hb d_Tokens_isDoubleSign_0 rfl (lv_at hl 0 rfl) ?_
  refine lv_bipush (v := 38) hx hb d_Tokens_isDoubleSign_1 (by decide) ?_
  refine lv_icmp_eq (tgt := 12) hx hb d_Tokens_isDoubleSign_3 (by decide) (fun c_1 => ?_) (fun c_1 => ?_)
  · have hF := ifp hF c_1
    refine lv_iload_n hx hb d_Tokens_isDoubleSign_12 rfl (lv_at hl 1 rfl) ?_
    refine lv_iload_n hx hb d_Tokens_isDoubleSign_13 rfl (lv_at hl 0 rfl) ?_
    refine lv_icmp_ne (tgt := 21) hx hb d_Tokens_isDoubleSign_14 (by decide) (fun c_2 => ?_) (fun c_2 => ?_)
    · have hF := ifn hF c_2
      refine lv_iconst (v := 0) hx hb d_Tokens_isDoubleSign_21 (by decide) ?_
      cases hF
      exact leafZ X hP hD hS (by decide) d_Tokens_isDoubleSign_22
    · have hF := ifp hF c_2
      refine lv_iconst (v := 1) hx hb d_Tokens_isDoubleSign_17 (by decide) ?_
      refine lv_goto (tgt := 22) hx hb d_Tokens_isDoubleSign_18 (by decide) ?_
      cases hF
      exact leafZ X hP hD hS (by decide) d_Tokens_isDoubleSign_22
  · have hF := ifn hF c_1
    refine lv_iload_n hx hb d_Tokens_isDoubleSign_6 rfl (lv_at hl 0 rfl) ?_
    refine lv_bipush (v := 124) hx hb d_Tokens_isDoubleSign_7 (by decide) ?_
    refine lv_icmp_ne (tgt := 23) hx hb d_Tokens_isDoubleSign_9 (by decide) (fun c_3 => ?_) (fun c_3 => ?_)
    · have hF := ifn hF c_3
      refine lv_iload_n hx hb d_Tokens_isDoubleSign_23 rfl (lv_at hl 1 rfl) ?_
      refine lv_bipush (v := 61) hx hb d_Tokens_isDoubleSign_24 (by decide) ?_
      refine lv_icmp_ne (tgt := 57) hx hb d_Tokens_isDoubleSign_26 (by decide) (fun c_4 => ?_) (fun c_4 => ?_)
      · have hF := ifn hF c_4
        refine lv_iconst (v := 0) hx hb d_Tokens_isDoubleSign_57 (by decide) ?_
        cases hF
        exact leafZ X hP hD hS (by decide) d_Tokens_isDoubleSign_58
      · have hF := ifp hF c_4
        refine lv_iload_n hx hb d_Tokens_isDoubleSign_29 rfl (lv_at hl 0 rfl) ?_
        refine lv_bipush (v := 61) hx hb d_Tokens_isDoubleSign_30 (by decide) ?_
        refine lv_icmp_eq (tgt := 53) hx hb d_Tokens_isDoubleSign_32 (by decide) (fun c_5 => ?_) (fun c_5 => ?_)
        · have hF := ifp hF c_5
          refine lv_iconst (v := 1) hx hb d_Tokens_isDoubleSign_53 (by decide) ?_
          refine lv_goto (tgt := 58) hx hb d_Tokens_isDoubleSign_54 (by decide) ?_
          cases hF
          exact leafZ X hP hD hS (by decide) d_Tokens_isDoubleSign_58
        · have hF := ifn hF c_5
          refine lv_iload_n hx hb d_Tokens_isDoubleSign_35 rfl (lv_at hl 0 rfl) ?_
          refine lv_bipush (v := 33) hx hb d_Tokens_isDoubleSign_36 (by decide) ?_
          refine lv_icmp_eq (tgt := 53) hx hb d_Tokens_isDoubleSign_38 (by decide) (fun c_6 => ?_) (fun c_6 => ?_)
          · have hF := ifp hF c_6
            refine lv_iconst (v := 1) hx hb d_Tokens_isDoubleSign_53 (by decide) ?_
            refine lv_goto (tgt := 58) hx hb d_Tokens_isDoubleSign_54 (by decide) ?_
            cases hF
            exact leafZ X hP hD hS (by decide) d_Tokens_isDoubleSign_58
          · have hF := ifn hF c_6
            refine lv_iload_n hx hb d_Tokens_isDoubleSign_41 rfl (lv_at hl 0 rfl) ?_
            refine lv_bipush (v := 60) hx hb d_Tokens_isDoubleSign_42 (by decide) ?_
            refine lv_icmp_eq (tgt := 53) hx hb d_Tokens_isDoubleSign_44 (by decide) (fun c_7 => ?_) (fun c_7 => ?_)
            · have hF := ifp hF c_7
              refine lv_iconst (v := 1) hx hb d_Tokens_isDoubleSign_53 (by decide) ?_
              refine lv_goto (tgt := 58) hx hb d_Tokens_isDoubleSign_54 (by decide) ?_
              cases hF
              exact leafZ X hP hD hS (by decide) d_Tokens_isDoubleSign_58
            · have hF := ifn hF c_7
              refine lv_iload_n hx hb d_Tokens_isDoubleSign_47 rfl (lv_at hl 0 rfl) ?_
              refine lv_bipush (v := 62) hx hb d_Tokens_isDoubleSign_48 (by decide) ?_
              refine lv_icmp_ne (tgt := 57) hx hb d_Tokens_isDoubleSign_50 (by decide) (fun c_8 => ?_) (fun c_8 => ?_)
              · have hF := ifn hF c_8
                refine lv_iconst (v := 0) hx hb d_Tokens_isDoubleSign_57 (by decide) ?_
                cases hF
                exact leafZ X hP hD hS (by decide) d_Tokens_isDoubleSign_58
              · have hF := ifp hF c_8
                refine lv_iconst (v := 1) hx hb d_Tokens_isDoubleSign_53 (by decide) ?_
                refine lv_goto (tgt := 58) hx hb d_Tokens_isDoubleSign_54 (by decide) ?_
                cases hF
                exact leafZ X hP hD hS (by decide) d_Tokens_isDoubleSign_58
    · have hF := ifp hF c_3
      refine lv_iload_n hx hb d_Tokens_isDoubleSign_12 rfl (lv_at hl 1 rfl) ?_
      refine lv_iload_n hx hb d_Tokens_isDoubleSign_13 rfl (lv_at hl 0 rfl) ?_
      refine lv_icmp_ne (tgt := 21) hx hb d_Tokens_isDoubleSign_14 (by decide) (fun c_9 => ?_) (fun c_9 => ?_)
      · have hF := ifn hF c_9
        refine lv_iconst (v := 0) hx hb d_Tokens_isDoubleSign_21 (by decide) ?_
        cases hF
        exact leafZ X hP hD hS (by decide) d_Tokens_isDoubleSign_22
      · have hF := ifp hF c_9
        refine lv_iconst (v := 1) hx hb d_Tokens_isDoubleSign_17 (by decide) ?_
        refine lv_goto (tgt := 22) hx hb d_Tokens_isDoubleSign_18 (by decide) ?_
        cases hF
        exact leafZ X hP hD hS (by decide) d_Tokens_isDoubleSign_22
theorem d_Tokens_kindOfName_0 : decode b_Tokens_kindOfName 0 = .ok (.aload_n 0, 1) := by decide +kernel
theorem d_Tokens_kindOfName_1 : decode b_Tokens_kindOfName 1 = .ok (.getfield 29, 3) := by decide +kernel
theorem d_Tokens_kindOfName_4 : decode b_Tokens_kindOfName 4 = .ok (.ldc 83, 2) := by decide +kernel
theorem d_Tokens_kindOfName_6 : decode b_Tokens_kindOfName 6 = .ok (.iload_n 1, 1) := by decide +kernel
theorem d_Tokens_kindOfName_7 : decode b_Tokens_kindOfName 7 = .ok (.iload_n 2, 1) := by decide +kernel
theorem d_Tokens_kindOfName_8 : decode b_Tokens_kindOfName 8 = .ok (.invokevirtual 85, 3) := by decide +kernel
theorem d_Tokens_kindOfName_11 : decode b_Tokens_kindOfName 11 = .ok (.ifCond .eq 5, 3) := by decide +kernel
theorem d_Tokens_kindOfName_14 : decode b_Tokens_kindOfName 14 = .ok (.iconst 3, 1) := by decide +kernel
theorem d_Tokens_kindOfName_15 : decode b_Tokens_kindOfName 15 = .ok (.ireturn, 1) := by decide +kernel
theorem d_Tokens_kindOfName_16 : decode b_Tokens_kindOfName 16 = .ok (.aload_n 0, 1) := by decide +kernel
theorem d_Tokens_kindOfName_17 : decode b_Tokens_kindOfName 17 = .ok (.getfield 29, 3) := by decide +kernel
theorem d_Tokens_kindOfName_20 : decode b_Tokens_kindOfName 20 = .ok (.ldc 89, 2) := by decide +kernel
theorem d_Tokens_kindOfName_22 : decode b_Tokens_kindOfName 22 = .ok (.iload_n 1, 1) := by decide +kernel
theorem d_Tokens_kindOfName_23 : decode b_Tokens_kindOfName 23 = .ok (.iload_n 2, 1) := by decide +kernel
theorem d_Tokens_kindOfName_24 : decode b_Tokens_kindOfName 24 = .ok (.invokevirtual 85, 3) := by decide +kernel
theorem d_Tokens_kindOfName_27 : decode b_Tokens_kindOfName 27 = .ok (.ifCond .eq 5, 3) := by decide +kernel
theorem d_Tokens_kindOfName_30 : decode b_Tokens_kindOfName 30 = .ok (.iconst 4, 1) := by decide +kernel
theorem d_Tokens_kindOfName_31 : decode b_Tokens_kindOfName 31 = .ok (.ireturn, 1) := by decide +kernel
theorem d_Tokens_kindOfName_32 : decode b_Tokens_kindOfName 32 = .ok (.aload_n 0, 1) := by decide +kernel
theorem d_Tokens_kindOfName_33 : decode b_Tokens_kindOfName 33 = .ok (.getfield 29, 3) := by decide +kernel
theorem d_Tokens_kindOfName_36 : decode b_Tokens_kindOfName 36 = .ok (.ldc 91, 2) := by decide +kernel
theorem d_Tokens_kindOfName_38 : decode b_Tokens_kindOfName 38 = .ok (.iload_n 1, 1) := by decide +kernel
theorem d_Tokens_kindOfName_39 : decode b_Tokens_kindOfName 39 = .ok (.iload_n 2, 1) := by decide +kernel
theorem d_Tokens_kindOfName_40 : decode b_Tokens_kindOfName 40 = .ok (.invokevirtual 85, 3) := by decide +kernel
theorem d_Tokens_kindOfName_43 : decode b_Tokens_kindOfName 43 = .ok (.ifCond .eq 5, 3) := by decide +kernel
theorem d_Tokens_kindOfName_46 : decode b_Tokens_kindOfName 46 = .ok (.iconst 5, 1) := by decide +kernel
theorem d_Tokens_kindOfName_47 : decode b_Tokens_kindOfName 47 = .ok (.ireturn, 1) := by decide +kernel
theorem d_Tokens_kindOfName_48 : decode b_Tokens_kindOfName 48 = .ok (.aload_n 0, 1) := by decide +kernel
theorem d_Tokens_kindOfName_49 : decode b_Tokens_kindOfName 49 = .ok (.getfield 29, 3) := by decide +kernel
theorem d_Tokens_kindOfName_52 : decode b_Tokens_kindOfName 52 = .ok (.ldc 93, 2) := by decide +kernel
theorem d_Tokens_kindOfName_54 : decode b_Tokens_kindOfName 54 = .ok (.iload_n 1, 1) := by decide +kernel
theorem d_Tokens_kindOfName_55 : decode b_Tokens_kindOfName 55 = .ok (.iload_n 2, 1) := by decide +kernel
theorem d_Tokens_kindOfName_56 : decode b_Tokens_kindOfName 56 = .ok (.invokevirtual 85, 3) := by decide +kernel
theorem d_Tokens_kindOfName_59 : decode b_Tokens_kindOfName 59 = .ok (.ifCond .eq 6, 3) := by decide +kernel
theorem d_Tokens_kindOfName_62 : decode b_Tokens_kindOfName 62 = .ok (.bipush 6, 2) := by decide +kernel
theorem d_Tokens_kindOfName_64 : decode b_Tokens_kindOfName 64 = .ok (.ireturn, 1) := by decide +kernel
theorem d_Tokens_kindOfName_65 : decode b_Tokens_kindOfName 65 = .ok (.aload_n 0, 1) := by decide +kernel
theorem d_Tokens_kindOfName_66 : decode b_Tokens_kindOfName 66 = .ok (.getfield 29, 3) := by decide +kernel
theorem d_Tokens_kindOfName_69 : decode b_Tokens_kindOfName 69 = .ok (.ldc 95, 2) := by decide +kernel
theorem d_Tokens_kindOfName_71 : decode b_Tokens_kindOfName 71 = .ok (.iload_n 1, 1) := by decide +kernel
theorem d_Tokens_kindOfName_72 : decode b_Tokens_kindOfName 72 = .ok (.iload_n 2, 1) := by decide +kernel
theorem d_Tokens_kindOfName_73 : decode b_Tokens_kindOfName 73 = .ok (.invokevirtual 85, 3) := by decide +kernel
theorem d_Tokens_kindOfName_76 : decode b_Tokens_kindOfName 76 = .ok (.ifCond .eq 6, 3) := by decide +kernel
theorem d_Tokens_kindOfName_79 : decode b_Tokens_kindOfName 79 = .ok (.bipush 7, 2) := by decide +kernel
theorem d_Tokens_kindOfName_81 : decode b_Tokens_kindOfName 81 = .ok (.ireturn, 1) := by decide +kernel
theorem d_Tokens_kindOfName_82 : decode b_Tokens_kindOfName 82 = .ok (.aload_n 0, 1) := by decide +kernel
theorem d_Tokens_kindOfName_83 : decode b_Tokens_kindOfName 83 = .ok (.getfield 29, 3) := by decide +kernel
theorem d_Tokens_kindOfName_86 : decode b_Tokens_kindOfName 86 = .ok (.ldc 97, 2) := by decide +kernel
theorem d_Tokens_kindOfName_88 : decode b_Tokens_kindOfName 88 = .ok (.iload_n 1, 1) := by decide +kernel
theorem d_Tokens_kindOfName_89 : decode b_Tokens_kindOfName 89 = .ok (.iload_n 2, 1) := by decide +kernel
theorem d_Tokens_kindOfName_90 : decode b_Tokens_kindOfName 90 = .ok (.invokevirtual 85, 3) := by decide +kernel
theorem d_Tokens_kindOfName_93 : decode b_Tokens_kindOfName 93 = .ok (.ifCond .eq 6, 3) := by decide +kernel
theorem d_Tokens_kindOfName_96 : decode b_Tokens_kindOfName 96 = .ok (.bipush 8, 2) := by decide +kernel
theorem d_Tokens_kindOfName_98 : decode b_Tokens_kindOfName 98 = .ok (.ireturn, 1) := by decide +kernel
theorem d_Tokens_kindOfName_99 : decode b_Tokens_kindOfName 99 = .ok (.aload_n 0, 1) := by decide +kernel
theorem d_Tokens_kindOfName_100 : decode b_Tokens_kindOfName 100 = .ok (.getfield 29, 3) := by decide +kernel
theorem d_Tokens_kindOfName_103 : decode b_Tokens_kindOfName 103 = .ok (.ldc 99, 2) := by decide +kernel
theorem d_Tokens_kindOfName_105 : decode b_Tokens_kindOfName 105 = .ok (.iload_n 1, 1) := by decide +kernel
theorem d_Tokens_kindOfName_106 : decode b_Tokens_kindOfName 106 = .ok (.iload_n 2, 1) := by decide +kernel
theorem d_Tokens_kindOfName_107 : decode b_Tokens_kindOfName 107 = .ok (.invokevirtual 85, 3) := by decide +kernel
theorem d_Tokens_kindOfName_110 : decode b_Tokens_kindOfName 110 = .ok (.ifCond .eq 8, 3) := by decide +kernel
theorem d_Tokens_kindOfName_113 : decode b_Tokens_kindOfName 113 = .ok (.bipush 9, 2) := by decide +kernel
theorem d_Tokens_kindOfName_115 : decode b_Tokens_kindOfName 115 = .ok (.goto 4, 3) := by decide +kernel
theorem d_Tokens_kindOfName_118 : decode b_Tokens_kindOfName 118 = .ok (.iconst 1, 1) := by decide +kernel
theorem d_Tokens_kindOfName_119 : decode b_Tokens_kindOfName 119 = .ok (.ireturn, 1) := by decide +kernel
theorem tw_90 : Cond.methodLink "TinyForge$Tokens" 85 ⟨"TinyForge$Text", "spells", "(Ljava/lang/String;II)Z"⟩ ∈ BIG := List.mem_filter.mpr ⟨List.mem_of_getElem? (i := 639) (by decide +kernel), by decide +kernel⟩
theorem tw_91 : Cond.code ⟨"TinyForge$Text", "spells", "(Ljava/lang/String;II)Z"⟩ prog_9_method_11_code 5 (some .boolean) ∈ BIG := List.mem_filter.mpr ⟨List.mem_of_getElem? (i := 642) (by decide +kernel), by decide +kernel⟩
theorem tw_92 : Cond.instanceMethod ⟨"TinyForge$Text", "spells", "(Ljava/lang/String;II)Z"⟩ ∈ BIG := List.mem_filter.mpr ⟨List.mem_of_getElem? (i := 640) (by decide +kernel), by decide +kernel⟩
theorem tw_93 : Cond.selects "TinyForge$Text" ⟨"TinyForge$Text", "spells", "(Ljava/lang/String;II)Z"⟩ ⟨"TinyForge$Text", "spells", "(Ljava/lang/String;II)Z"⟩ ∈ BIG := List.mem_filter.mpr ⟨List.mem_of_getElem? (i := 641) (by decide +kernel), by decide +kernel⟩
theorem lk_Tokens_85 : LkV "TinyForge$Tokens" 85 "TinyForge$Text" y_Text_spells b_Text_spells 5 (some .boolean) 3 := ⟨⟨tw_90, tw_76, tw_91, by decide +kernel⟩, tw_92, tw_93⟩
def tTokens_kindOfName (σ : St) (a1 : Int32) (a2 : Int32) : Option (Int32) := b1 (tText_spells σ 0 a1 a2) (fun r1 => if r1 = 0 then b1 (tText_spells σ 1 a1 a2) (fun r3 => if r3 = 0 then b1 (tText_spells σ 2 a1 a2) (fun r5 => if r5 = 0 then b1 (tText_spells σ 3 a1 a2) (fun r7 => if r7 = 0 then b1 (tText_spells σ 4 a1 a2) (fun r9 => if r9 = 0 then b1 (tText_spells σ 5 a1 a2) (fun r11 => if r11 = 0 then b1 (tText_spells σ 6 a1 a2) (fun r13 => if r13 = 0 then some 1 else some 9) else some 8) else some 7) else some 6) else some 5) else some 4) else some 3)
set_option maxHeartbeats 4000000 in
set_option maxRecDepth 100000 in
theorem ct_Tokens_kindOfName (l : Launch) (dC : Nat → ClassId) (dI : Nat → Nat → Nat) (ad : Nat → Nat) (cA : Nat → ClassId) (sz : Nat) {σ : St} {a1 : Int32} {a2 : Int32} {r : Int32} (hF : tTokens_kindOfName σ a1 a2 = some r) : MI l y_Tokens_kindOfName b_Tokens_kindOfName 3 (some .int) { frames := 5, cells := 0, slots := 0, locals := 109 } (dC, dI) (ttys cA) ad (tcw ad cA) [.ref (ad 2), .int a1, .int a2] σ sz r σ := by
  refine startM (own := "TinyForge$Tokens") (Qc := fun A => QI (dC, dI) (ttys cA) (tcw ad cA) A r σ) rfl rfl (Nat.le_of_ble_eq_true rfl) ?_
  intro p e s m below meth c A H locs ls X hP hD hS hl
  have hl : lv_has ls 3 [(0, .ref (ad 2)), (1, .int a1), (2, .int a2)] := hl
  obtain ⟨hx, hb, hr, hml, hown, hlocks, hts, hA, hK, hZ⟩ := id X
  unfold tTokens_kindOfName at hF
  refine lv_aload_n hx hb d_Tokens_kindOfName_0 rfl (lv_at hl 0 rfl) ?_
  refine va_get (D := (dC, dI)) (ci := 2) (v := .ref (ad 0)) hx hb hts i_Tokens hown hK hP 2 rfl rfl 0 (by decide) (hts _ tw_86) (fun _ h9 => h9) rfl d_Tokens_kindOfName_1 ?_
  refine va_ldcS hx hb hown (hZ.2.1 0 _ rfl) d_Tokens_kindOfName_4 ?_
  refine lv_iload_n hx hb d_Tokens_kindOfName_6 rfl (lv_at hl 1 rfl) ?_
  refine lv_iload_n hx hb d_Tokens_kindOfName_7 rfl (lv_at hl 2 rfl) ?_
  obtain ⟨r1, h1, hF⟩ := b1E hF
  refine callVI (As := [.ref (ad (100 + 0)), .int a1, .int a2]) X (ct_Text_spells l dC dI ad cA H.size h1) lk_Tokens_85 ⟨rfl, rfl, by decide, by decide⟩ 0 rfl rfl hP hD hS hl.1 rfl rfl (Nat.le_of_ble_eq_true rfl) d_Tokens_kindOfName_8 (fun H locs hP hD hS => ?_)
  refine lv_if_eq (tgt := 16) hx hb d_Tokens_kindOfName_11 (by decide) (fun c_2 => ?_) (fun c_2 => ?_)
  · have hF := ifp hF c_2
    refine lv_aload_n hx hb d_Tokens_kindOfName_16 rfl (lv_at hl 0 rfl) ?_
    refine va_get (D := (dC, dI)) (ci := 2) (v := .ref (ad 0)) hx hb hts i_Tokens hown hK hP 2 rfl rfl 0 (by decide) (hts _ tw_86) (fun _ h9 => h9) rfl d_Tokens_kindOfName_17 ?_
    refine va_ldcS hx hb hown (hZ.2.1 1 _ rfl) d_Tokens_kindOfName_20 ?_
    refine lv_iload_n hx hb d_Tokens_kindOfName_22 rfl (lv_at hl 1 rfl) ?_
    refine lv_iload_n hx hb d_Tokens_kindOfName_23 rfl (lv_at hl 2 rfl) ?_
    obtain ⟨r3, h3, hF⟩ := b1E hF
    refine callVI (As := [.ref (ad (100 + 1)), .int a1, .int a2]) X (ct_Text_spells l dC dI ad cA H.size h3) lk_Tokens_85 ⟨rfl, rfl, by decide, by decide⟩ 0 rfl rfl hP hD hS hl.1 rfl rfl (Nat.le_of_ble_eq_true rfl) d_Tokens_kindOfName_24 (fun H locs hP hD hS => ?_)
    refine lv_if_eq (tgt := 32) hx hb d_Tokens_kindOfName_27 (by decide) (fun c_4 => ?_) (fun c_4 => ?_)
    · have hF := ifp hF c_4
      refine lv_aload_n hx hb d_Tokens_kindOfName_32 rfl (lv_at hl 0 rfl) ?_
      refine va_get (D := (dC, dI)) (ci := 2) (v := .ref (ad 0)) hx hb hts i_Tokens hown hK hP 2 rfl rfl 0 (by decide) (hts _ tw_86) (fun _ h9 => h9) rfl d_Tokens_kindOfName_33 ?_
      refine va_ldcS hx hb hown (hZ.2.1 2 _ rfl) d_Tokens_kindOfName_36 ?_
      refine lv_iload_n hx hb d_Tokens_kindOfName_38 rfl (lv_at hl 1 rfl) ?_
      refine lv_iload_n hx hb d_Tokens_kindOfName_39 rfl (lv_at hl 2 rfl) ?_
      obtain ⟨r5, h5, hF⟩ := b1E hF
      refine callVI (As := [.ref (ad (100 + 2)), .int a1, .int a2]) X (ct_Text_spells l dC dI ad cA H.size h5) lk_Tokens_85 ⟨rfl, rfl, by decide, by decide⟩ 0 rfl rfl hP hD hS hl.1 rfl rfl (Nat.le_of_ble_eq_true rfl) d_Tokens_kindOfName_40 (fun H locs hP hD hS => ?_)
      refine lv_if_eq (tgt := 48) hx hb d_Tokens_kindOfName_43 (by decide) (fun c_6 => ?_) (fun c_6 => ?_)
      · have hF := ifp hF c_6
        refine lv_aload_n hx hb d_Tokens_kindOfName_48 rfl (lv_at hl 0 rfl) ?_
        refine va_get (D := (dC, dI)) (ci := 2) (v := .ref (ad 0)) hx hb hts i_Tokens hown hK hP 2 rfl rfl 0 (by decide) (hts _ tw_86) (fun _ h9 => h9) rfl d_Tokens_kindOfName_49 ?_
        refine va_ldcS hx hb hown (hZ.2.1 3 _ rfl) d_Tokens_kindOfName_52 ?_
        refine lv_iload_n hx hb d_Tokens_kindOfName_54 rfl (lv_at hl 1 rfl) ?_
        refine lv_iload_n hx hb d_Tokens_kindOfName_55 rfl (lv_at hl 2 rfl) ?_
        obtain ⟨r7, h7, hF⟩ := b1E hF
        refine callVI (As := [.ref (ad (100 + 3)), .int a1, .int a2]) X (ct_Text_spells l dC dI ad cA H.size h7) lk_Tokens_85 ⟨rfl, rfl, by decide, by decide⟩ 0 rfl rfl hP hD hS hl.1 rfl rfl (Nat.le_of_ble_eq_true rfl) d_Tokens_kindOfName_56 (fun H locs hP hD hS => ?_)
        refine lv_if_eq (tgt := 65) hx hb d_Tokens_kindOfName_59 (by decide) (fun c_8 => ?_) (fun c_8 => ?_)
        · have hF := ifp hF c_8
          refine lv_aload_n hx hb d_Tokens_kindOfName_65 rfl (lv_at hl 0 rfl) ?_
          refine va_get (D := (dC, dI)) (ci := 2) (v := .ref (ad 0)) hx hb hts i_Tokens hown hK hP 2 rfl rfl 0 (by decide) (hts _ tw_86) (fun _ h9 => h9) rfl d_Tokens_kindOfName_66 ?_
          refine va_ldcS hx hb hown (hZ.2.1 4 _ rfl) d_Tokens_kindOfName_69 ?_
          refine lv_iload_n hx hb d_Tokens_kindOfName_71 rfl (lv_at hl 1 rfl) ?_
          refine lv_iload_n hx hb d_Tokens_kindOfName_72 rfl (lv_at hl 2 rfl) ?_
          obtain ⟨r9, h9, hF⟩ := b1E hF
          refine callVI (As := [.ref (ad (100 + 4)), .int a1, .int a2]) X (ct_Text_spells l dC dI ad cA H.size h9) lk_Tokens_85 ⟨rfl, rfl, by decide, by decide⟩ 0 rfl rfl hP hD hS hl.1 rfl rfl (Nat.le_of_ble_eq_true rfl) d_Tokens_kindOfName_73 (fun H locs hP hD hS => ?_)
          refine lv_if_eq (tgt := 82) hx hb d_Tokens_kindOfName_76 (by decide) (fun c_10 => ?_) (fun c_10 => ?_)
          · have hF := ifp hF c_10
            refine lv_aload_n hx hb d_Tokens_kindOfName_82 rfl (lv_at hl 0 rfl) ?_
            refine va_get (D := (dC, dI)) (ci := 2) (v := .ref (ad 0)) hx hb hts i_Tokens hown hK hP 2 rfl rfl 0 (by decide) (hts _ tw_86) (fun _ h9 => h9) rfl d_Tokens_kindOfName_83 ?_
            refine va_ldcS hx hb hown (hZ.2.1 5 _ rfl) d_Tokens_kindOfName_86 ?_
            refine lv_iload_n hx hb d_Tokens_kindOfName_88 rfl (lv_at hl 1 rfl) ?_
            refine lv_iload_n hx hb d_Tokens_kindOfName_89 rfl (lv_at hl 2 rfl) ?_
            obtain ⟨r11, h11, hF⟩ := b1E hF
            refine callVI (As := [.ref (ad (100 + 5)), .int a1, .int a2]) X (ct_Text_spells l dC dI ad cA H.size h11) lk_Tokens_85 ⟨rfl, rfl, by decide, by decide⟩ 0 rfl rfl hP hD hS hl.1 rfl rfl (Nat.le_of_ble_eq_true rfl) d_Tokens_kindOfName_90 (fun H locs hP hD hS => ?_)
            refine lv_if_eq (tgt := 99) hx hb d_Tokens_kindOfName_93 (by decide) (fun c_12 => ?_) (fun c_12 => ?_)
            · have hF := ifp hF c_12
              refine lv_aload_n hx hb d_Tokens_kindOfName_99 rfl (lv_at hl 0 rfl) ?_
              refine va_get (D := (dC, dI)) (ci := 2) (v := .ref (ad 0)) hx hb hts i_Tokens hown hK hP 2 rfl rfl 0 (by decide) (hts _ tw_86) (fun _ h9 => h9) rfl d_Tokens_kindOfName_100 ?_
              refine va_ldcS hx hb hown (hZ.2.1 6 _ rfl) d_Tokens_kindOfName_103 ?_
              refine lv_iload_n hx hb d_Tokens_kindOfName_105 rfl (lv_at hl 1 rfl) ?_
              refine lv_iload_n hx hb d_Tokens_kindOfName_106 rfl (lv_at hl 2 rfl) ?_
              obtain ⟨r13, h13, hF⟩ := b1E hF
              refine callVI (As := [.ref (ad (100 + 6)), .int a1, .int a2]) X (ct_Text_spells l dC dI ad cA H.size h13) lk_Tokens_85 ⟨rfl, rfl, by decide, by decide⟩ 0 rfl rfl hP hD hS hl.1 rfl rfl (Nat.le_of_ble_eq_true rfl) d_Tokens_kindOfName_107 (fun H locs hP hD hS => ?_)
              refine lv_if_eq (tgt := 118) hx hb d_Tokens_kindOfName_110 (by decide) (fun c_14 => ?_) (fun c_14 => ?_)
              · have hF := ifp hF c_14
                refine lv_iconst (v := 1) hx hb d_Tokens_kindOfName_118 (by decide) ?_
                cases hF
                exact leafI X hP hD hS d_Tokens_kindOfName_119
              · have hF := ifn hF c_14
                refine lv_bipush (v := 9) hx hb d_Tokens_kindOfName_113 (by decide) ?_
                refine lv_goto (tgt := 119) hx hb d_Tokens_kindOfName_115 (by decide) ?_
                cases hF
                exact leafI X hP hD hS d_Tokens_kindOfName_119
            · have hF := ifn hF c_12
              refine lv_bipush (v := 8) hx hb d_Tokens_kindOfName_96 (by decide) ?_
              cases hF
              exact leafI X hP hD hS d_Tokens_kindOfName_98
          · have hF := ifn hF c_10
            refine lv_bipush (v := 7) hx hb d_Tokens_kindOfName_79 (by decide) ?_
            cases hF
            exact leafI X hP hD hS d_Tokens_kindOfName_81
        · have hF := ifn hF c_8
          refine lv_bipush (v := 6) hx hb d_Tokens_kindOfName_62 (by decide) ?_
          cases hF
          exact leafI X hP hD hS d_Tokens_kindOfName_64
      · have hF := ifn hF c_6
        refine lv_iconst (v := 5) hx hb d_Tokens_kindOfName_46 (by decide) ?_
        cases hF
        exact leafI X hP hD hS d_Tokens_kindOfName_47
    · have hF := ifn hF c_4
      refine lv_iconst (v := 4) hx hb d_Tokens_kindOfName_30 (by decide) ?_
      cases hF
      exact leafI X hP hD hS d_Tokens_kindOfName_31
  · have hF := ifn hF c_2
    refine lv_iconst (v := 3) hx hb d_Tokens_kindOfName_14 (by decide) ?_
    cases hF
    exact leafI X hP hD hS d_Tokens_kindOfName_15
theorem d_Tokens_takeName_0 : decode b_Tokens_takeName 0 = .ok (.lconst 0, 1) := by decide +kernel
theorem d_Tokens_takeName_1 : decode b_Tokens_takeName 1 = .ok (.lstore_n 2, 1) := by decide +kernel
theorem d_Tokens_takeName_2 : decode b_Tokens_takeName 2 = .ok (.iload_n 1, 1) := by decide +kernel
theorem d_Tokens_takeName_3 : decode b_Tokens_takeName 3 = .ok (.istore 4, 2) := by decide +kernel
theorem d_Tokens_takeName_5 : decode b_Tokens_takeName 5 = .ok (.iload 4, 2) := by decide +kernel
theorem d_Tokens_takeName_7 : decode b_Tokens_takeName 7 = .ok (.aload_n 0, 1) := by decide +kernel
theorem d_Tokens_takeName_8 : decode b_Tokens_takeName 8 = .ok (.getfield 29, 3) := by decide +kernel
theorem d_Tokens_takeName_11 : decode b_Tokens_takeName 11 = .ok (.getfield 37, 3) := by decide +kernel
theorem d_Tokens_takeName_14 : decode b_Tokens_takeName 14 = .ok (.if_icmp .ge 49, 3) := by decide +kernel
theorem d_Tokens_takeName_17 : decode b_Tokens_takeName 17 = .ok (.aload_n 0, 1) := by decide +kernel
theorem d_Tokens_takeName_18 : decode b_Tokens_takeName 18 = .ok (.getfield 29, 3) := by decide +kernel
theorem d_Tokens_takeName_21 : decode b_Tokens_takeName 21 = .ok (.iload 4, 2) := by decide +kernel
theorem d_Tokens_takeName_23 : decode b_Tokens_takeName 23 = .ok (.invokevirtual 56, 3) := by decide +kernel
theorem d_Tokens_takeName_26 : decode b_Tokens_takeName 26 = .ok (.ifCond .ne 15, 3) := by decide +kernel
theorem d_Tokens_takeName_29 : decode b_Tokens_takeName 29 = .ok (.aload_n 0, 1) := by decide +kernel
theorem d_Tokens_takeName_30 : decode b_Tokens_takeName 30 = .ok (.getfield 29, 3) := by decide +kernel
theorem d_Tokens_takeName_33 : decode b_Tokens_takeName 33 = .ok (.iload 4, 2) := by decide +kernel
theorem d_Tokens_takeName_35 : decode b_Tokens_takeName 35 = .ok (.invokevirtual 62, 3) := by decide +kernel
theorem d_Tokens_takeName_38 : decode b_Tokens_takeName 38 = .ok (.ifCond .eq 25, 3) := by decide +kernel
theorem d_Tokens_takeName_41 : decode b_Tokens_takeName 41 = .ok (.lload_n 2, 1) := by decide +kernel
theorem d_Tokens_takeName_42 : decode b_Tokens_takeName 42 = .ok (.bipush 8, 2) := by decide +kernel
theorem d_Tokens_takeName_44 : decode b_Tokens_takeName 44 = .ok (.lshl, 1) := by decide +kernel
theorem d_Tokens_takeName_45 : decode b_Tokens_takeName 45 = .ok (.aload_n 0, 1) := by decide +kernel
theorem d_Tokens_takeName_46 : decode b_Tokens_takeName 46 = .ok (.getfield 29, 3) := by decide +kernel
theorem d_Tokens_takeName_49 : decode b_Tokens_takeName 49 = .ok (.iload 4, 2) := by decide +kernel
theorem d_Tokens_takeName_51 : decode b_Tokens_takeName 51 = .ok (.invokevirtual 71, 3) := by decide +kernel
theorem d_Tokens_takeName_54 : decode b_Tokens_takeName 54 = .ok (.i2l, 1) := by decide +kernel
theorem d_Tokens_takeName_55 : decode b_Tokens_takeName 55 = .ok (.lor, 1) := by decide +kernel
theorem d_Tokens_takeName_56 : decode b_Tokens_takeName 56 = .ok (.lstore_n 2, 1) := by decide +kernel
theorem d_Tokens_takeName_57 : decode b_Tokens_takeName 57 = .ok (.iinc 4 1, 3) := by decide +kernel
theorem d_Tokens_takeName_60 : decode b_Tokens_takeName 60 = .ok (.goto (-55), 3) := by decide +kernel
theorem d_Tokens_takeName_63 : decode b_Tokens_takeName 63 = .ok (.iload 4, 2) := by decide +kernel
theorem d_Tokens_takeName_65 : decode b_Tokens_takeName 65 = .ok (.iload_n 1, 1) := by decide +kernel
theorem d_Tokens_takeName_66 : decode b_Tokens_takeName 66 = .ok (.isub, 1) := by decide +kernel
theorem d_Tokens_takeName_67 : decode b_Tokens_takeName 67 = .ok (.bipush 8, 2) := by decide +kernel
theorem d_Tokens_takeName_69 : decode b_Tokens_takeName 69 = .ok (.if_icmp .le 12, 3) := by decide +kernel
theorem d_Tokens_takeName_72 : decode b_Tokens_takeName 72 = .ok (.aload_n 0, 1) := by decide +kernel
theorem d_Tokens_takeName_73 : decode b_Tokens_takeName 73 = .ok (.getfield 33, 3) := by decide +kernel
theorem d_Tokens_takeName_76 : decode b_Tokens_takeName 76 = .ok (.iconst 1, 1) := by decide +kernel
theorem d_Tokens_takeName_77 : decode b_Tokens_takeName 77 = .ok (.iload_n 1, 1) := by decide +kernel
theorem d_Tokens_takeName_78 : decode b_Tokens_takeName 78 = .ok (.invokevirtual 50, 3) := by decide +kernel
theorem d_Tokens_takeName_81 : decode b_Tokens_takeName 81 = .ok (.aload_n 0, 1) := by decide +kernel
theorem d_Tokens_takeName_82 : decode b_Tokens_takeName 82 = .ok (.aload_n 0, 1) := by decide +kernel
theorem d_Tokens_takeName_83 : decode b_Tokens_takeName 83 = .ok (.iload_n 1, 1) := by decide +kernel
theorem d_Tokens_takeName_84 : decode b_Tokens_takeName 84 = .ok (.iload 4, 2) := by decide +kernel
theorem d_Tokens_takeName_86 : decode b_Tokens_takeName 86 = .ok (.invokevirtual 75, 3) := by decide +kernel
theorem d_Tokens_takeName_89 : decode b_Tokens_takeName 89 = .ok (.iload_n 1, 1) := by decide +kernel
theorem d_Tokens_takeName_90 : decode b_Tokens_takeName 90 = .ok (.lload_n 2, 1) := by decide +kernel
theorem d_Tokens_takeName_91 : decode b_Tokens_takeName 91 = .ok (.invokevirtual 79, 3) := by decide +kernel
theorem d_Tokens_takeName_94 : decode b_Tokens_takeName 94 = .ok (.iload 4, 2) := by decide +kernel
theorem d_Tokens_takeName_96 : decode b_Tokens_takeName 96 = .ok (.ireturn, 1) := by decide +kernel
theorem tw_94 : Cond.fieldLink "TinyForge$Tokens" 33 "TinyForge$Tokens" "refusal" "LTinyForge$Refusal;" ∈ BIG := List.mem_filter.mpr ⟨List.mem_of_getElem? (i := 197) (by decide +kernel), by decide +kernel⟩
theorem tw_95 : Cond.methodLink "TinyForge$Tokens" 56 ⟨"TinyForge$Text", "isLetter", "(I)Z"⟩ ∈ BIG := List.mem_filter.mpr ⟨List.mem_of_getElem? (i := 617) (by decide +kernel), by decide +kernel⟩
theorem tw_96 : Cond.code ⟨"TinyForge$Text", "isLetter", "(I)Z"⟩ prog_9_method_9_code 3 (some .boolean) ∈ BIG := List.mem_filter.mpr ⟨List.mem_of_getElem? (i := 620) (by decide +kernel), by decide +kernel⟩
theorem tw_97 : Cond.instanceMethod ⟨"TinyForge$Text", "isLetter", "(I)Z"⟩ ∈ BIG := List.mem_filter.mpr ⟨List.mem_of_getElem? (i := 618) (by decide +kernel), by decide +kernel⟩
theorem tw_98 : Cond.selects "TinyForge$Text" ⟨"TinyForge$Text", "isLetter", "(I)Z"⟩ ⟨"TinyForge$Text", "isLetter", "(I)Z"⟩ ∈ BIG := List.mem_filter.mpr ⟨List.mem_of_getElem? (i := 619) (by decide +kernel), by decide +kernel⟩
theorem tw_99 : Cond.methodLink "TinyForge$Tokens" 62 ⟨"TinyForge$Text", "isDigit", "(I)Z"⟩ ∈ BIG := List.mem_filter.mpr ⟨List.mem_of_getElem? (i := 625) (by decide +kernel), by decide +kernel⟩
theorem tw_100 : Cond.code ⟨"TinyForge$Text", "isDigit", "(I)Z"⟩ prog_9_method_10_code 2 (some .boolean) ∈ BIG := List.mem_filter.mpr ⟨List.mem_of_getElem? (i := 628) (by decide +kernel), by decide +kernel⟩
theorem tw_101 : Cond.instanceMethod ⟨"TinyForge$Text", "isDigit", "(I)Z"⟩ ∈ BIG := List.mem_filter.mpr ⟨List.mem_of_getElem? (i := 626) (by decide +kernel), by decide +kernel⟩
theorem tw_102 : Cond.selects "TinyForge$Text" ⟨"TinyForge$Text", "isDigit", "(I)Z"⟩ ⟨"TinyForge$Text", "isDigit", "(I)Z"⟩ ∈ BIG := List.mem_filter.mpr ⟨List.mem_of_getElem? (i := 627) (by decide +kernel), by decide +kernel⟩
theorem tw_103 : Cond.methodLink "TinyForge$Tokens" 50 ⟨"TinyForge$Refusal", "refuse", "(II)V"⟩ ∈ BIG := List.mem_filter.mpr ⟨List.mem_of_getElem? (i := 630) (by decide +kernel), by decide +kernel⟩
theorem tw_104 : Cond.methodLink "TinyForge$Tokens" 71 ⟨"TinyForge$Text", "at", "(I)C"⟩ ∈ BIG := List.mem_filter.mpr ⟨List.mem_of_getElem? (i := 629) (by decide +kernel), by decide +kernel⟩
theorem tw_105 : Cond.methodLink "TinyForge$Tokens" 75 ⟨"TinyForge$Tokens", "kindOfName", "(II)I"⟩ ∈ BIG := List.mem_filter.mpr ⟨List.mem_of_getElem? (i := 634) (by decide +kernel), by decide +kernel⟩
theorem tw_106 : Cond.initialized "TinyForge$Tokens" ∈ BIG := List.mem_filter.mpr ⟨List.mem_of_getElem? (i := 124) (by decide +kernel), by decide +kernel⟩
theorem tw_107 : Cond.code ⟨"TinyForge$Tokens", "kindOfName", "(II)I"⟩ prog_10_method_5_code 3 (some .int) ∈ BIG := List.mem_filter.mpr ⟨List.mem_of_getElem? (i := 637) (by decide +kernel), by decide +kernel⟩
theorem tw_108 : Cond.instanceMethod ⟨"TinyForge$Tokens", "kindOfName", "(II)I"⟩ ∈ BIG := List.mem_filter.mpr ⟨List.mem_of_getElem? (i := 636) (by decide +kernel), by decide +kernel⟩
theorem tw_109 : Cond.selects "TinyForge$Tokens" ⟨"TinyForge$Tokens", "kindOfName", "(II)I"⟩ ⟨"TinyForge$Tokens", "kindOfName", "(II)I"⟩ ∈ BIG := List.mem_filter.mpr ⟨List.mem_of_getElem? (i := 3) (by decide +kernel), by decide +kernel⟩
theorem tw_110 : Cond.methodLink "TinyForge$Tokens" 79 ⟨"TinyForge$Tokens", "add", "(IIJ)V"⟩ ∈ BIG := List.mem_filter.mpr ⟨List.mem_of_getElem? (i := 697) (by decide +kernel), by decide +kernel⟩
theorem tw_111 : Cond.code ⟨"TinyForge$Tokens", "add", "(IIJ)V"⟩ prog_10_method_9_code 5 none ∈ BIG := List.mem_filter.mpr ⟨List.mem_of_getElem? (i := 700) (by decide +kernel), by decide +kernel⟩
theorem tw_112 : Cond.instanceMethod ⟨"TinyForge$Tokens", "add", "(IIJ)V"⟩ ∈ BIG := List.mem_filter.mpr ⟨List.mem_of_getElem? (i := 699) (by decide +kernel), by decide +kernel⟩
theorem tw_113 : Cond.selects "TinyForge$Tokens" ⟨"TinyForge$Tokens", "add", "(IIJ)V"⟩ ⟨"TinyForge$Tokens", "add", "(IIJ)V"⟩ ∈ BIG := List.mem_filter.mpr ⟨List.mem_of_getElem? (i := 4) (by decide +kernel), by decide +kernel⟩
theorem lk_Tokens_56 : LkV "TinyForge$Tokens" 56 "TinyForge$Text" y_Text_isLetter b_Text_isLetter 3 (some .boolean) 1 := ⟨⟨tw_95, tw_76, tw_96, by decide +kernel⟩, tw_97, tw_98⟩
theorem lk_Tokens_62 : LkV "TinyForge$Tokens" 62 "TinyForge$Text" y_Text_isDigit b_Text_isDigit 2 (some .boolean) 1 := ⟨⟨tw_99, tw_76, tw_100, by decide +kernel⟩, tw_101, tw_102⟩
theorem lk_Tokens_50 : LkV "TinyForge$Tokens" 50 "TinyForge$Refusal" y_Refusal_refuse b_Refusal_refuse 3 none 2 := ⟨⟨tw_103, tw_57, tw_58, by decide +kernel⟩, tw_59, tw_60⟩
theorem lk_Tokens_71 : LkV "TinyForge$Tokens" 71 "TinyForge$Text" y_Text_at b_Text_at 2 (some .char) 1 := ⟨⟨tw_104, tw_76, tw_80, by decide +kernel⟩, tw_81, tw_82⟩
theorem lk_Tokens_75 : LkV "TinyForge$Tokens" 75 "TinyForge$Tokens" y_Tokens_kindOfName b_Tokens_kindOfName 3 (some .int) 2 := ⟨⟨tw_105, tw_106, tw_107, by decide +kernel⟩, tw_108, tw_109⟩
theorem lk_Tokens_79 : LkV "TinyForge$Tokens" 79 "TinyForge$Tokens" y_Tokens_add b_Tokens_add 5 none 3 := ⟨⟨tw_110, tw_106, tw_111, by decide +kernel⟩, tw_112, tw_113⟩
def tTokens_takeName_b1 (k : Nat → St → Int32 → Int32 → Int64 → Option (Int32 × St)) (σ : St) (x1 : Int32) (x2 : Int32) (y1 : Int64) : Option (Int32 × St) := if (σ.1 0) ≤ x2 then k 3 σ x1 x2 y1 else b1 (tText_isLetter σ x2) (fun r2 => if r2 = 0 then b1 (tText_isDigit σ x2) (fun r4 => if r4 = 0 then k 3 σ x1 x2 y1 else k 2 σ x1 x2 y1) else k 2 σ x1 x2 y1)
def tTokens_takeName_b2 (k : Nat → St → Int32 → Int32 → Int64 → Option (Int32 × St)) (σ : St) (x1 : Int32) (x2 : Int32) (y1 : Int64) : Option (Int32 × St) := b1 (tText_at σ x2) (fun r8 => k 1 σ x1 (x2 + 1) ((y1 <<< ((8 : Int32).toInt64 &&& 63)) ||| ((r8 : Int32).toInt64)))
def tTokens_takeName_b3 (k : Nat → St → Int32 → Int32 → Int64 → Option (Int32 × St)) (σ : St) (x1 : Int32) (x2 : Int32) (y1 : Int64) : Option (Int32 × St) := if (x2 - x1) ≤ 8 then k 4 σ x1 x2 y1 else b1 (tRefusal_refuse σ 1 x1) (fun u7 => k 4 u7 x1 x2 y1)
def tTokens_takeName_b4 (k : Nat → St → Int32 → Int32 → Int64 → Option (Int32 × St)) (σ : St) (x1 : Int32) (x2 : Int32) (y1 : Int64) : Option (Int32 × St) := b1 (tTokens_kindOfName σ x1 x2) (fun r9 => b1 (tTokens_add σ r9 x1 y1) (fun u10 => some (x2, u10)))
def tTokens_takeName_L : Nat → Nat → St → Int32 → Int32 → Int64 → Option (Int32 × St)
  | 0, _, _, _, _, _ => none
  | n + 1, lab, σ, x1, x2, y1 => match lab with
    | 1 => tTokens_takeName_b1 (tTokens_takeName_L n) σ x1 x2 y1
    | 2 => tTokens_takeName_b2 (tTokens_takeName_L n) σ x1 x2 y1
    | 3 => tTokens_takeName_b3 (tTokens_takeName_L n) σ x1 x2 y1
    | 4 => tTokens_takeName_b4 (tTokens_takeName_L n) σ x1 x2 y1
    | _ => none
def tTokens_takeName (σ : St) (a1 : Int32) : Option (Int32 × St) := tTokens_takeName_L 2000 1 σ a1 a1 0
set_option maxHeartbeats 4000000 in
set_option maxRecDepth 100000 in
theorem tTokens_takeName_blk {p : Program} {e : Env} {s : State} {m : MethodId} {args : Array Value} {below : List Frame} {meth : Method} {c : Code} {A : Nat → Prop} (l : Launch) (dC : Nat → ClassId) (dI : Nat → Nat → Nat) (ad : Nat → Nat) (cA : Nat → ClassId) {r : Int32} {σ' : St} (X : Cx p s m args meth c b_Tokens_takeName 5 (some .int) "TinyForge$Tokens" (dC, dI) (ttys cA) ad A) : ∀ n : Nat, (∀ (σ : St) (x1 : Int32) (x2 : Int32) (y1 : Int64) (H : Heap) (locs : List Loc) (ls : Array Slot), tTokens_takeName_L n 1 σ x1 x2 y1 = some (r, σ') → va_P (dC, dI) vwCl (tcw ad cA σ) H → va_D A (tcw ad cA σ) → va_S A s.heap H locs → lv_has ls 5 [(0, .ref (ad 2)), (1, .int x1), (2, .long y1), (4, .int x2)] → W p l e { frames := 6, cells := 0, slots := 0, locals := 131 } s m args below meth c H locs 0 0 (MQ below (QI (dC, dI) (ttys cA) (tcw ad cA) A r σ') args s 0 0 A) (F0 m 5 ls [])) ∧ (∀ (σ : St) (x1 : Int32) (x2 : Int32) (y1 : Int64) (H : Heap) (locs : List Loc) (ls : Array Slot), tTokens_takeName_L n 2 σ x1 x2 y1 = some (r, σ') → va_P (dC, dI) vwCl (tcw ad cA σ) H → va_D A (tcw ad cA σ) → va_S A s.heap H locs → lv_has ls 5 [(0, .ref (ad 2)), (1, .int x1), (2, .long y1), (4, .int x2)] → W p l e { frames := 6, cells := 0, slots := 0, locals := 131 } s m args below meth c H locs 0 0 (MQ below (QI (dC, dI) (ttys cA) (tcw ad cA) A r σ') args s 0 0 A) (F0 m 41 ls [])) ∧ (∀ (σ : St) (x1 : Int32) (x2 : Int32) (y1 : Int64) (H : Heap) (locs : List Loc) (ls : Array Slot), tTokens_takeName_L n 3 σ x1 x2 y1 = some (r, σ') → va_P (dC, dI) vwCl (tcw ad cA σ) H → va_D A (tcw ad cA σ) → va_S A s.heap H locs → lv_has ls 5 [(0, .ref (ad 2)), (1, .int x1), (2, .long y1), (4, .int x2)] → W p l e { frames := 6, cells := 0, slots := 0, locals := 131 } s m args below meth c H locs 0 0 (MQ below (QI (dC, dI) (ttys cA) (tcw ad cA) A r σ') args s 0 0 A) (F0 m 63 ls [])) ∧ (∀ (σ : St) (x1 : Int32) (x2 : Int32) (y1 : Int64) (H : Heap) (locs : List Loc) (ls : Array Slot), tTokens_takeName_L n 4 σ x1 x2 y1 = some (r, σ') → va_P (dC, dI) vwCl (tcw ad cA σ) H → va_D A (tcw ad cA σ) → va_S A s.heap H locs → lv_has ls 5 [(0, .ref (ad 2)), (1, .int x1), (2, .long y1), (4, .int x2)] → W p l e { frames := 6, cells := 0, slots := 0, locals := 131 } s m args below meth c H locs 0 0 (MQ below (QI (dC, dI) (ttys cA) (tcw ad cA) A r σ') args s 0 0 A) (F0 m 81 ls [])) := by
  obtain ⟨hx, hb, hr, hml, hown, hlocks, hts, hA, hK, hZ⟩ := id X
  intro n
  induction n with
  | zero => exact ⟨(fun σ x1 x2 y1 H locs ls hF => by cases hF), (fun σ x1 x2 y1 H locs ls hF => by cases hF), (fun σ x1 x2 y1 H locs ls hF => by cases hF), (fun σ x1 x2 y1 H locs ls hF => by cases hF)⟩
  | succ n ihn =>
    refine ⟨fun σ x1 x2 y1 H locs ls hF hP hD hS hl => ?_, fun σ x1 x2 y1 H locs ls hF hP hD hS hl => ?_, fun σ x1 x2 y1 H locs ls hF hP hD hS hl => ?_, fun σ x1 x2 y1 H locs ls hF hP hD hS hl => ?_⟩
    · have hF : tTokens_takeName_b1 (tTokens_takeName_L n) σ x1 x2 y1 = some (r, σ') := hF
      unfold tTokens_takeName_b1 at hF
      refine lv_iload hx hb d_Tokens_takeName_5 (lv_at hl 3 rfl) ?_
      refine lv_aload_n hx hb d_Tokens_takeName_7 rfl (lv_at hl 0 rfl) ?_
      refine va_get (D := (dC, dI)) (ci := 2) (v := .ref (ad 0)) hx hb hts i_Tokens hown hK hP 2 rfl rfl 0 (by decide) (hts _ tw_86) (fun _ h9 => h9) rfl d_Tokens_takeName_8 ?_
      refine va_get (D := (dC, dI)) (ci := 0) (v := .int (σ.1 0)) hx hb hts i_Text hown hK hP 0 rfl rfl 1 (by decide) (hts _ tw_87) (fun _ h9 => h9) rfl d_Tokens_takeName_11 ?_
      refine lv_icmp_ge (tgt := 63) hx hb d_Tokens_takeName_14 (by decide) (fun c_1 => ?_) (fun c_1 => ?_)
      · have hF := ifp hF c_1
        exact ihn.2.2.1 σ x1 x2 y1 H locs ls hF hP hD hS (lv_sub hl [0, 1, 2, 3] rfl)
      · have hF := ifn hF c_1
        refine lv_aload_n hx hb d_Tokens_takeName_17 rfl (lv_at hl 0 rfl) ?_
        refine va_get (D := (dC, dI)) (ci := 2) (v := .ref (ad 0)) hx hb hts i_Tokens hown hK hP 2 rfl rfl 0 (by decide) (hts _ tw_86) (fun _ h9 => h9) rfl d_Tokens_takeName_18 ?_
        refine lv_iload hx hb d_Tokens_takeName_21 (lv_at hl 3 rfl) ?_
        obtain ⟨r2, h2, hF⟩ := b1E hF
        refine callVI (As := [.int x2]) X (ct_Text_isLetter l dC dI ad cA H.size h2) lk_Tokens_56 ⟨rfl, rfl, by decide, by decide⟩ 0 rfl rfl hP hD hS hl.1 rfl rfl (Nat.le_of_ble_eq_true rfl) d_Tokens_takeName_23 (fun H locs hP hD hS => ?_)
        refine lv_if_ne (tgt := 41) hx hb d_Tokens_takeName_26 (by decide) (fun c_3 => ?_) (fun c_3 => ?_)
        · have hF := ifn hF c_3
          exact ihn.2.1 σ x1 x2 y1 H locs ls hF hP hD hS (lv_sub hl [0, 1, 2, 3] rfl)
        · have hF := ifp hF c_3
          refine lv_aload_n hx hb d_Tokens_takeName_29 rfl (lv_at hl 0 rfl) ?_
          refine va_get (D := (dC, dI)) (ci := 2) (v := .ref (ad 0)) hx hb hts i_Tokens hown hK hP 2 rfl rfl 0 (by decide) (hts _ tw_86) (fun _ h9 => h9) rfl d_Tokens_takeName_30 ?_
          refine lv_iload hx hb d_Tokens_takeName_33 (lv_at hl 3 rfl) ?_
          obtain ⟨r4, h4, hF⟩ := b1E hF
          refine callVI (As := [.int x2]) X (ct_Text_isDigit l dC dI ad cA H.size h4) lk_Tokens_62 ⟨rfl, rfl, by decide, by decide⟩ 0 rfl rfl hP hD hS hl.1 rfl rfl (Nat.le_of_ble_eq_true rfl) d_Tokens_takeName_35 (fun H locs hP hD hS => ?_)
          refine lv_if_eq (tgt := 63) hx hb d_Tokens_takeName_38 (by decide) (fun c_5 => ?_) (fun c_5 => ?_)
          · have hF := ifp hF c_5
            exact ihn.2.2.1 σ x1 x2 y1 H locs ls hF hP hD hS (lv_sub hl [0, 1, 2, 3] rfl)
          · have hF := ifn hF c_5
            exact ihn.2.1 σ x1 x2 y1 H locs ls hF hP hD hS (lv_sub hl [0, 1, 2, 3] rfl)
    · have hF : tTokens_takeName_b2 (tTokens_takeName_L n) σ x1 x2 y1 = some (r, σ') := hF
      unfold tTokens_takeName_b2 at hF
      refine lv_lload_n hx hb d_Tokens_takeName_41 rfl (lv_at hl 2 rfl) ?_
      refine lv_bipush (v := 8) hx hb d_Tokens_takeName_42 (by decide) ?_
      refine lv_lshl (v := (y1 <<< ((8 : Int32).toInt64 &&& 63))) hx hb d_Tokens_takeName_44 rfl ?_
      refine lv_aload_n hx hb d_Tokens_takeName_45 rfl (lv_at hl 0 rfl) ?_
      refine va_get (D := (dC, dI)) (ci := 2) (v := .ref (ad 0)) hx hb hts i_Tokens hown hK hP 2 rfl rfl 0 (by decide) (hts _ tw_86) (fun _ h9 => h9) rfl d_Tokens_takeName_46 ?_
      refine lv_iload hx hb d_Tokens_takeName_49 (lv_at hl 3 rfl) ?_
      obtain ⟨r8, h8, hF⟩ := b1E hF
      refine callVI (As := [.int x2]) X (ct_Text_at l dC dI ad cA H.size h8) lk_Tokens_71 ⟨rfl, rfl, by decide, by decide⟩ 0 rfl rfl hP hD hS hl.1 rfl rfl (Nat.le_of_ble_eq_true rfl) d_Tokens_takeName_51 (fun H locs hP hD hS => ?_)
      refine lv_i2l (v := (r8 : Int32).toInt64) hx hb d_Tokens_takeName_54 rfl ?_
      refine lv_lor hx hb d_Tokens_takeName_55 ?_
      refine lv_lstore_n (lv' := [(2, .long ((y1 <<< ((8 : Int32).toInt64 &&& 63)) ||| ((r8 : Int32).toInt64))), (0, .ref (ad 2)), (1, .int x1), (4, .int x2)]) hx hb d_Tokens_takeName_56 rfl hl (by decide) rfl (fun ls hl => ?_)
      refine lv_iinc (v := (x2 + 1)) (lv' := [(4, .int (x2 + 1)), (2, .long ((y1 <<< ((8 : Int32).toInt64 &&& 63)) ||| ((r8 : Int32).toInt64))), (0, .ref (ad 2)), (1, .int x1)]) hx hb d_Tokens_takeName_57 hl (k := 3) rfl rfl (by decide) rfl (fun ls hl => ?_)
      refine lv_goto (tgt := 5) hx hb d_Tokens_takeName_60 (by decide) ?_
      exact ihn.1 σ x1 (x2 + 1) ((y1 <<< ((8 : Int32).toInt64 &&& 63)) ||| ((r8 : Int32).toInt64)) H locs ls hF hP hD hS (lv_sub hl [2, 3, 1, 0] rfl)
    · have hF : tTokens_takeName_b3 (tTokens_takeName_L n) σ x1 x2 y1 = some (r, σ') := hF
      unfold tTokens_takeName_b3 at hF
      refine lv_iload hx hb d_Tokens_takeName_63 (lv_at hl 3 rfl) ?_
      refine lv_iload_n hx hb d_Tokens_takeName_65 rfl (lv_at hl 1 rfl) ?_
      refine lv_isub hx hb d_Tokens_takeName_66 ?_
      refine lv_bipush (v := 8) hx hb d_Tokens_takeName_67 (by decide) ?_
      refine lv_icmp_le (tgt := 81) hx hb d_Tokens_takeName_69 (by decide) (fun c_6 => ?_) (fun c_6 => ?_)
      · have hF := ifp hF c_6
        exact ihn.2.2.2 σ x1 x2 y1 H locs ls hF hP hD hS (lv_sub hl [0, 1, 2, 3] rfl)
      · have hF := ifn hF c_6
        refine lv_aload_n hx hb d_Tokens_takeName_72 rfl (lv_at hl 0 rfl) ?_
        refine va_get (D := (dC, dI)) (ci := 2) (v := .ref (ad 1)) hx hb hts i_Tokens hown hK hP 2 rfl rfl 1 (by decide) (hts _ tw_94) (fun _ h9 => h9) rfl d_Tokens_takeName_73 ?_
        refine lv_iconst (v := 1) hx hb d_Tokens_takeName_76 (by decide) ?_
        refine lv_iload_n hx hb d_Tokens_takeName_77 rfl (lv_at hl 1 rfl) ?_
        obtain ⟨u7, h7, hF⟩ := b1E hF
        refine callVV (As := [.int 1, .int x1]) X (ct_Refusal_refuse l dC dI ad cA H.size h7) lk_Tokens_50 ⟨rfl, rfl, by decide, by decide⟩ 1 rfl rfl hP hD hS hl.1 rfl rfl (Nat.le_of_ble_eq_true rfl) d_Tokens_takeName_78 (fun H locs hP hD hS => ?_)
        exact ihn.2.2.2 u7 x1 x2 y1 H locs ls hF hP hD hS (lv_sub hl [0, 1, 2, 3] rfl)
    · have hF : tTokens_takeName_b4 (tTokens_takeName_L n) σ x1 x2 y1 = some (r, σ') := hF
      unfold tTokens_takeName_b4 at hF
      refine lv_aload_n hx hb d_Tokens_takeName_81 rfl (lv_at hl 0 rfl) ?_
      refine lv_aload_n hx hb d_Tokens_takeName_82 rfl (lv_at hl 0 rfl) ?_
      refine lv_iload_n hx hb d_Tokens_takeName_83 rfl (lv_at hl 1 rfl) ?_
      refine lv_iload hx hb d_Tokens_takeName_84 (lv_at hl 3 rfl) ?_
      obtain ⟨r9, h9, hF⟩ := b1E hF
      refine callVI (As := [.int x1, .int x2]) X (ct_Tokens_kindOfName l dC dI ad cA H.size h9) lk_Tokens_75 ⟨rfl, rfl, by decide, by decide⟩ 2 rfl rfl hP hD hS hl.1 rfl rfl (Nat.le_of_ble_eq_true rfl) d_Tokens_takeName_86 (fun H locs hP hD hS => ?_)
      refine lv_iload_n hx hb d_Tokens_takeName_89 rfl (lv_at hl 1 rfl) ?_
      refine lv_lload_n hx hb d_Tokens_takeName_90 rfl (lv_at hl 2 rfl) ?_
      obtain ⟨u10, h10, hF⟩ := b1E hF
      refine callVV (As := [.int r9, .int x1, .long y1]) X (ct_Tokens_add l dC dI ad cA H.size h10) lk_Tokens_79 ⟨rfl, rfl, by decide, by decide⟩ 2 rfl rfl hP hD hS hl.1 rfl rfl (Nat.le_of_ble_eq_true rfl) d_Tokens_takeName_91 (fun H locs hP hD hS => ?_)
      refine lv_iload hx hb d_Tokens_takeName_94 (lv_at hl 3 rfl) ?_
      cases hF
      exact leafI X hP hD hS d_Tokens_takeName_96
set_option maxHeartbeats 4000000 in
set_option maxRecDepth 100000 in
theorem ct_Tokens_takeName (l : Launch) (dC : Nat → ClassId) (dI : Nat → Nat → Nat) (ad : Nat → Nat) (cA : Nat → ClassId) (sz : Nat) {σ : St} {a1 : Int32} {r : Int32} {σ' : St} (hF : tTokens_takeName σ a1 = some (r, σ')) : MI l y_Tokens_takeName b_Tokens_takeName 5 (some .int) { frames := 6, cells := 0, slots := 0, locals := 131 } (dC, dI) (ttys cA) ad (tcw ad cA) [.ref (ad 2), .int a1] σ sz r σ' := by
  refine startM (own := "TinyForge$Tokens") (Qc := fun A => QI (dC, dI) (ttys cA) (tcw ad cA) A r σ') rfl rfl (Nat.le_of_ble_eq_true rfl) ?_
  intro p e s m below meth c A H locs ls X hP hD hS hl
  have hl : lv_has ls 5 [(0, .ref (ad 2)), (1, .int a1)] := hl
  obtain ⟨hx, hb, hr, hml, hown, hlocks, hts, hA, hK, hZ⟩ := id X
  unfold tTokens_takeName at hF
  refine lv_lconst (v := 0) hx hb d_Tokens_takeName_0 (by decide) ?_
  refine lv_lstore_n (lv' := [(2, .long 0), (0, .ref (ad 2)), (1, .int a1)]) hx hb d_Tokens_takeName_1 rfl hl (by decide) rfl (fun ls hl => ?_)
  refine lv_iload_n hx hb d_Tokens_takeName_2 rfl (lv_at hl 2 rfl) ?_
  refine lv_istore (lv' := [(4, .int a1), (2, .long 0), (0, .ref (ad 2)), (1, .int a1)]) hx hb d_Tokens_takeName_3 hl (by decide) rfl (fun ls hl => ?_)
  exact (tTokens_takeName_blk l dC dI ad cA X 2000).1 σ a1 a1 0 H locs ls hF hP hD hS (lv_sub hl [2, 3, 1, 0] rfl)
theorem d_Tokens_takeNumber_0 : decode b_Tokens_takeNumber 0 = .ok (.lconst 0, 1) := by decide +kernel
theorem d_Tokens_takeNumber_1 : decode b_Tokens_takeNumber 1 = .ok (.lstore_n 2, 1) := by decide +kernel
theorem d_Tokens_takeNumber_2 : decode b_Tokens_takeNumber 2 = .ok (.iload_n 1, 1) := by decide +kernel
theorem d_Tokens_takeNumber_3 : decode b_Tokens_takeNumber 3 = .ok (.istore 4, 2) := by decide +kernel
theorem d_Tokens_takeNumber_5 : decode b_Tokens_takeNumber 5 = .ok (.iload 4, 2) := by decide +kernel
theorem d_Tokens_takeNumber_7 : decode b_Tokens_takeNumber 7 = .ok (.aload_n 0, 1) := by decide +kernel
theorem d_Tokens_takeNumber_8 : decode b_Tokens_takeNumber 8 = .ok (.getfield 29, 3) := by decide +kernel
theorem d_Tokens_takeNumber_11 : decode b_Tokens_takeNumber 11 = .ok (.getfield 37, 3) := by decide +kernel
theorem d_Tokens_takeNumber_14 : decode b_Tokens_takeNumber 14 = .ok (.if_icmp .ge 49, 3) := by decide +kernel
theorem d_Tokens_takeNumber_17 : decode b_Tokens_takeNumber 17 = .ok (.aload_n 0, 1) := by decide +kernel
theorem d_Tokens_takeNumber_18 : decode b_Tokens_takeNumber 18 = .ok (.getfield 29, 3) := by decide +kernel
theorem d_Tokens_takeNumber_21 : decode b_Tokens_takeNumber 21 = .ok (.iload 4, 2) := by decide +kernel
theorem d_Tokens_takeNumber_23 : decode b_Tokens_takeNumber 23 = .ok (.invokevirtual 62, 3) := by decide +kernel
theorem d_Tokens_takeNumber_26 : decode b_Tokens_takeNumber 26 = .ok (.ifCond .eq 37, 3) := by decide +kernel
theorem d_Tokens_takeNumber_29 : decode b_Tokens_takeNumber 29 = .ok (.lload_n 2, 1) := by decide +kernel
theorem d_Tokens_takeNumber_30 : decode b_Tokens_takeNumber 30 = .ok (.ldc2_w 101, 3) := by decide +kernel
theorem d_Tokens_takeNumber_33 : decode b_Tokens_takeNumber 33 = .ok (.lcmp, 1) := by decide +kernel
theorem d_Tokens_takeNumber_34 : decode b_Tokens_takeNumber 34 = .ok (.ifCond .gt 23, 3) := by decide +kernel
theorem d_Tokens_takeNumber_37 : decode b_Tokens_takeNumber 37 = .ok (.lload_n 2, 1) := by decide +kernel
theorem d_Tokens_takeNumber_38 : decode b_Tokens_takeNumber 38 = .ok (.ldc2_w 103, 3) := by decide +kernel
theorem d_Tokens_takeNumber_41 : decode b_Tokens_takeNumber 41 = .ok (.lmul, 1) := by decide +kernel
theorem d_Tokens_takeNumber_42 : decode b_Tokens_takeNumber 42 = .ok (.aload_n 0, 1) := by decide +kernel
theorem d_Tokens_takeNumber_43 : decode b_Tokens_takeNumber 43 = .ok (.getfield 29, 3) := by decide +kernel
theorem d_Tokens_takeNumber_46 : decode b_Tokens_takeNumber 46 = .ok (.iload 4, 2) := by decide +kernel
theorem d_Tokens_takeNumber_48 : decode b_Tokens_takeNumber 48 = .ok (.invokevirtual 71, 3) := by decide +kernel
theorem d_Tokens_takeNumber_51 : decode b_Tokens_takeNumber 51 = .ok (.bipush 48, 2) := by decide +kernel
theorem d_Tokens_takeNumber_53 : decode b_Tokens_takeNumber 53 = .ok (.isub, 1) := by decide +kernel
theorem d_Tokens_takeNumber_54 : decode b_Tokens_takeNumber 54 = .ok (.i2l, 1) := by decide +kernel
theorem d_Tokens_takeNumber_55 : decode b_Tokens_takeNumber 55 = .ok (.ladd, 1) := by decide +kernel
theorem d_Tokens_takeNumber_56 : decode b_Tokens_takeNumber 56 = .ok (.lstore_n 2, 1) := by decide +kernel
theorem d_Tokens_takeNumber_57 : decode b_Tokens_takeNumber 57 = .ok (.iinc 4 1, 3) := by decide +kernel
theorem d_Tokens_takeNumber_60 : decode b_Tokens_takeNumber 60 = .ok (.goto (-55), 3) := by decide +kernel
theorem d_Tokens_takeNumber_63 : decode b_Tokens_takeNumber 63 = .ok (.lload_n 2, 1) := by decide +kernel
theorem d_Tokens_takeNumber_64 : decode b_Tokens_takeNumber 64 = .ok (.ldc2_w 101, 3) := by decide +kernel
theorem d_Tokens_takeNumber_67 : decode b_Tokens_takeNumber 67 = .ok (.lcmp, 1) := by decide +kernel
theorem d_Tokens_takeNumber_68 : decode b_Tokens_takeNumber 68 = .ok (.ifCond .gt 15, 3) := by decide +kernel
theorem d_Tokens_takeNumber_71 : decode b_Tokens_takeNumber 71 = .ok (.aload_n 0, 1) := by decide +kernel
theorem d_Tokens_takeNumber_72 : decode b_Tokens_takeNumber 72 = .ok (.getfield 29, 3) := by decide +kernel
theorem d_Tokens_takeNumber_75 : decode b_Tokens_takeNumber 75 = .ok (.iload 4, 2) := by decide +kernel
theorem d_Tokens_takeNumber_77 : decode b_Tokens_takeNumber 77 = .ok (.invokevirtual 56, 3) := by decide +kernel
theorem d_Tokens_takeNumber_80 : decode b_Tokens_takeNumber 80 = .ok (.ifCond .eq 12, 3) := by decide +kernel
theorem d_Tokens_takeNumber_83 : decode b_Tokens_takeNumber 83 = .ok (.aload_n 0, 1) := by decide +kernel
theorem d_Tokens_takeNumber_84 : decode b_Tokens_takeNumber 84 = .ok (.getfield 33, 3) := by decide +kernel
theorem d_Tokens_takeNumber_87 : decode b_Tokens_takeNumber 87 = .ok (.iconst 1, 1) := by decide +kernel
theorem d_Tokens_takeNumber_88 : decode b_Tokens_takeNumber 88 = .ok (.iload_n 1, 1) := by decide +kernel
theorem d_Tokens_takeNumber_89 : decode b_Tokens_takeNumber 89 = .ok (.invokevirtual 50, 3) := by decide +kernel
theorem d_Tokens_takeNumber_92 : decode b_Tokens_takeNumber 92 = .ok (.aload_n 0, 1) := by decide +kernel
theorem d_Tokens_takeNumber_93 : decode b_Tokens_takeNumber 93 = .ok (.iconst 2, 1) := by decide +kernel
theorem d_Tokens_takeNumber_94 : decode b_Tokens_takeNumber 94 = .ok (.iload_n 1, 1) := by decide +kernel
theorem d_Tokens_takeNumber_95 : decode b_Tokens_takeNumber 95 = .ok (.lload_n 2, 1) := by decide +kernel
theorem d_Tokens_takeNumber_96 : decode b_Tokens_takeNumber 96 = .ok (.invokevirtual 79, 3) := by decide +kernel
theorem d_Tokens_takeNumber_99 : decode b_Tokens_takeNumber 99 = .ok (.iload 4, 2) := by decide +kernel
theorem d_Tokens_takeNumber_101 : decode b_Tokens_takeNumber 101 = .ok (.ireturn, 1) := by decide +kernel
theorem tw_114 : Cond.constantLong "TinyForge$Tokens" 101 2147483647 ∈ BIG := List.mem_filter.mpr ⟨List.mem_of_getElem? (i := 705) (by decide +kernel), by decide +kernel⟩
theorem tw_115 : Cond.constantLong "TinyForge$Tokens" 103 10 ∈ BIG := List.mem_filter.mpr ⟨List.mem_of_getElem? (i := 706) (by decide +kernel), by decide +kernel⟩
def tTokens_takeNumber_b1 (k : Nat → St → Int32 → Int32 → Int64 → Option (Int32 × St)) (σ : St) (x1 : Int32) (x2 : Int32) (y1 : Int64) : Option (Int32 × St) := if (σ.1 0) ≤ x2 then k 3 σ x1 x2 y1 else b1 (tText_isDigit σ x2) (fun r2 => if r2 = 0 then k 3 σ x1 x2 y1 else if (0 : Int32) < (lg_cmp y1 2147483647) then k 2 σ x1 x2 y1 else b1 (tText_at σ x2) (fun r5 => k 2 σ x1 x2 ((y1 * 10) + (((r5 - 48) : Int32).toInt64))))
def tTokens_takeNumber_b2 (k : Nat → St → Int32 → Int32 → Int64 → Option (Int32 × St)) (σ : St) (x1 : Int32) (x2 : Int32) (y1 : Int64) : Option (Int32 × St) := k 1 σ x1 (x2 + 1) y1
def tTokens_takeNumber_b3 (k : Nat → St → Int32 → Int32 → Int64 → Option (Int32 × St)) (σ : St) (x1 : Int32) (x2 : Int32) (y1 : Int64) : Option (Int32 × St) := if (0 : Int32) < (lg_cmp y1 2147483647) then k 4 σ x1 x2 y1 else b1 (tText_isLetter σ x2) (fun r7 => if r7 = 0 then b1 (tTokens_add σ 2 x1 y1) (fun u9 => some (x2, u9)) else k 4 σ x1 x2 y1)
def tTokens_takeNumber_b4 (k : Nat → St → Int32 → Int32 → Int64 → Option (Int32 × St)) (σ : St) (x1 : Int32) (x2 : Int32) (y1 : Int64) : Option (Int32 × St) := b1 (tRefusal_refuse σ 1 x1) (fun u10 => b1 (tTokens_add u10 2 x1 y1) (fun u11 => some (x2, u11)))
def tTokens_takeNumber_L : Nat → Nat → St → Int32 → Int32 → Int64 → Option (Int32 × St)
  | 0, _, _, _, _, _ => none
  | n + 1, lab, σ, x1, x2, y1 => match lab with
    | 1 => tTokens_takeNumber_b1 (tTokens_takeNumber_L n) σ x1 x2 y1
    | 2 => tTokens_takeNumber_b2 (tTokens_takeNumber_L n) σ x1 x2 y1
    | 3 => tTokens_takeNumber_b3 (tTokens_takeNumber_L n) σ x1 x2 y1
    | 4 => tTokens_takeNumber_b4 (tTokens_takeNumber_L n) σ x1 x2 y1
    | _ => none
def tTokens_takeNumber (σ : St) (a1 : Int32) : Option (Int32 × St) := tTokens_takeNumber_L 2000 1 σ a1 a1 0
set_option maxHeartbeats 4000000 in
set_option maxRecDepth 100000 in
theorem tTokens_takeNumber_blk {p : Program} {e : Env} {s : State} {m : MethodId} {args : Array Value} {below : List Frame} {meth : Method} {c : Code} {A : Nat → Prop} (l : Launch) (dC : Nat → ClassId) (dI : Nat → Nat → Nat) (ad : Nat → Nat) (cA : Nat → ClassId) {r : Int32} {σ' : St} (X : Cx p s m args meth c b_Tokens_takeNumber 5 (some .int) "TinyForge$Tokens" (dC, dI) (ttys cA) ad A) : ∀ n : Nat, (∀ (σ : St) (x1 : Int32) (x2 : Int32) (y1 : Int64) (H : Heap) (locs : List Loc) (ls : Array Slot), tTokens_takeNumber_L n 1 σ x1 x2 y1 = some (r, σ') → va_P (dC, dI) vwCl (tcw ad cA σ) H → va_D A (tcw ad cA σ) → va_S A s.heap H locs → lv_has ls 5 [(0, .ref (ad 2)), (1, .int x1), (2, .long y1), (4, .int x2)] → W p l e { frames := 2, cells := 0, slots := 0, locals := 43 } s m args below meth c H locs 0 0 (MQ below (QI (dC, dI) (ttys cA) (tcw ad cA) A r σ') args s 0 0 A) (F0 m 5 ls [])) ∧ (∀ (σ : St) (x1 : Int32) (x2 : Int32) (y1 : Int64) (H : Heap) (locs : List Loc) (ls : Array Slot), tTokens_takeNumber_L n 2 σ x1 x2 y1 = some (r, σ') → va_P (dC, dI) vwCl (tcw ad cA σ) H → va_D A (tcw ad cA σ) → va_S A s.heap H locs → lv_has ls 5 [(0, .ref (ad 2)), (1, .int x1), (2, .long y1), (4, .int x2)] → W p l e { frames := 2, cells := 0, slots := 0, locals := 43 } s m args below meth c H locs 0 0 (MQ below (QI (dC, dI) (ttys cA) (tcw ad cA) A r σ') args s 0 0 A) (F0 m 57 ls [])) ∧ (∀ (σ : St) (x1 : Int32) (x2 : Int32) (y1 : Int64) (H : Heap) (locs : List Loc) (ls : Array Slot), tTokens_takeNumber_L n 3 σ x1 x2 y1 = some (r, σ') → va_P (dC, dI) vwCl (tcw ad cA σ) H → va_D A (tcw ad cA σ) → va_S A s.heap H locs → lv_has ls 5 [(0, .ref (ad 2)), (1, .int x1), (2, .long y1), (4, .int x2)] → W p l e { frames := 2, cells := 0, slots := 0, locals := 43 } s m args below meth c H locs 0 0 (MQ below (QI (dC, dI) (ttys cA) (tcw ad cA) A r σ') args s 0 0 A) (F0 m 63 ls [])) ∧ (∀ (σ : St) (x1 : Int32) (x2 : Int32) (y1 : Int64) (H : Heap) (locs : List Loc) (ls : Array Slot), tTokens_takeNumber_L n 4 σ x1 x2 y1 = some (r, σ') → va_P (dC, dI) vwCl (tcw ad cA σ) H → va_D A (tcw ad cA σ) → va_S A s.heap H locs → lv_has ls 5 [(0, .ref (ad 2)), (1, .int x1), (2, .long y1), (4, .int x2)] → W p l e { frames := 2, cells := 0, slots := 0, locals := 43 } s m args below meth c H locs 0 0 (MQ below (QI (dC, dI) (ttys cA) (tcw ad cA) A r σ') args s 0 0 A) (F0 m 83 ls [])) := by
  obtain ⟨hx, hb, hr, hml, hown, hlocks, hts, hA, hK, hZ⟩ := id X
  intro n
  induction n with
  | zero => exact ⟨(fun σ x1 x2 y1 H locs ls hF => by cases hF), (fun σ x1 x2 y1 H locs ls hF => by cases hF), (fun σ x1 x2 y1 H locs ls hF => by cases hF), (fun σ x1 x2 y1 H locs ls hF => by cases hF)⟩
  | succ n ihn =>
    refine ⟨fun σ x1 x2 y1 H locs ls hF hP hD hS hl => ?_, fun σ x1 x2 y1 H locs ls hF hP hD hS hl => ?_, fun σ x1 x2 y1 H locs ls hF hP hD hS hl => ?_, fun σ x1 x2 y1 H locs ls hF hP hD hS hl => ?_⟩
    · have hF : tTokens_takeNumber_b1 (tTokens_takeNumber_L n) σ x1 x2 y1 = some (r, σ') := hF
      unfold tTokens_takeNumber_b1 at hF
      refine lv_iload hx hb d_Tokens_takeNumber_5 (lv_at hl 3 rfl) ?_
      refine lv_aload_n hx hb d_Tokens_takeNumber_7 rfl (lv_at hl 0 rfl) ?_
      refine va_get (D := (dC, dI)) (ci := 2) (v := .ref (ad 0)) hx hb hts i_Tokens hown hK hP 2 rfl rfl 0 (by decide) (hts _ tw_86) (fun _ h9 => h9) rfl d_Tokens_takeNumber_8 ?_
      refine va_get (D := (dC, dI)) (ci := 0) (v := .int (σ.1 0)) hx hb hts i_Text hown hK hP 0 rfl rfl 1 (by decide) (hts _ tw_87) (fun _ h9 => h9) rfl d_Tokens_takeNumber_11 ?_
      refine lv_icmp_ge (tgt := 63) hx hb d_Tokens_takeNumber_14 (by decide) (fun c_1 => ?_) (fun c_1 => ?_)
      · have hF := ifp hF c_1
        exact ihn.2.2.1 σ x1 x2 y1 H locs ls hF hP hD hS (lv_sub hl [0, 1, 2, 3] rfl)
      · have hF := ifn hF c_1
        refine lv_aload_n hx hb d_Tokens_takeNumber_17 rfl (lv_at hl 0 rfl) ?_
        refine va_get (D := (dC, dI)) (ci := 2) (v := .ref (ad 0)) hx hb hts i_Tokens hown hK hP 2 rfl rfl 0 (by decide) (hts _ tw_86) (fun _ h9 => h9) rfl d_Tokens_takeNumber_18 ?_
        refine lv_iload hx hb d_Tokens_takeNumber_21 (lv_at hl 3 rfl) ?_
        obtain ⟨r2, h2, hF⟩ := b1E hF
        refine callVI (As := [.int x2]) X (ct_Text_isDigit l dC dI ad cA H.size h2) lk_Tokens_62 ⟨rfl, rfl, by decide, by decide⟩ 0 rfl rfl hP hD hS hl.1 rfl rfl (Nat.le_of_ble_eq_true rfl) d_Tokens_takeNumber_23 (fun H locs hP hD hS => ?_)
        refine lv_if_eq (tgt := 63) hx hb d_Tokens_takeNumber_26 (by decide) (fun c_3 => ?_) (fun c_3 => ?_)
        · have hF := ifp hF c_3
          exact ihn.2.2.1 σ x1 x2 y1 H locs ls hF hP hD hS (lv_sub hl [0, 1, 2, 3] rfl)
        · have hF := ifn hF c_3
          refine lv_lload_n hx hb d_Tokens_takeNumber_29 rfl (lv_at hl 2 rfl) ?_
          refine lv_ldc2 (v := 2147483647) hx hb hown (hts _ tw_114) d_Tokens_takeNumber_30 ?_
          refine W.lcmp hx hb d_Tokens_takeNumber_33 ?_
          refine lv_if_gt (tgt := 57) hx hb d_Tokens_takeNumber_34 (by decide) (fun c_4 => ?_) (fun c_4 => ?_)
          · have hF := ifp hF c_4
            exact ihn.2.1 σ x1 x2 y1 H locs ls hF hP hD hS (lv_sub hl [0, 1, 2, 3] rfl)
          · have hF := ifn hF c_4
            refine lv_lload_n hx hb d_Tokens_takeNumber_37 rfl (lv_at hl 2 rfl) ?_
            refine lv_ldc2 (v := 10) hx hb hown (hts _ tw_115) d_Tokens_takeNumber_38 ?_
            refine lv_lmul hx hb d_Tokens_takeNumber_41 ?_
            refine lv_aload_n hx hb d_Tokens_takeNumber_42 rfl (lv_at hl 0 rfl) ?_
            refine va_get (D := (dC, dI)) (ci := 2) (v := .ref (ad 0)) hx hb hts i_Tokens hown hK hP 2 rfl rfl 0 (by decide) (hts _ tw_86) (fun _ h9 => h9) rfl d_Tokens_takeNumber_43 ?_
            refine lv_iload hx hb d_Tokens_takeNumber_46 (lv_at hl 3 rfl) ?_
            obtain ⟨r5, h5, hF⟩ := b1E hF
            refine callVI (As := [.int x2]) X (ct_Text_at l dC dI ad cA H.size h5) lk_Tokens_71 ⟨rfl, rfl, by decide, by decide⟩ 0 rfl rfl hP hD hS hl.1 rfl rfl (Nat.le_of_ble_eq_true rfl) d_Tokens_takeNumber_48 (fun H locs hP hD hS => ?_)
            refine lv_bipush (v := 48) hx hb d_Tokens_takeNumber_51 (by decide) ?_
            refine lv_isub hx hb d_Tokens_takeNumber_53 ?_
            refine lv_i2l (v := ((r5 - 48) : Int32).toInt64) hx hb d_Tokens_takeNumber_54 rfl ?_
            refine lv_ladd hx hb d_Tokens_takeNumber_55 ?_
            refine lv_lstore_n (lv' := [(2, .long ((y1 * 10) + (((r5 - 48) : Int32).toInt64))), (0, .ref (ad 2)), (1, .int x1), (4, .int x2)]) hx hb d_Tokens_takeNumber_56 rfl hl (by decide) rfl (fun ls hl => ?_)
            exact ihn.2.1 σ x1 x2 ((y1 * 10) + (((r5 - 48) : Int32).toInt64)) H locs ls hF hP hD hS (lv_sub hl [1, 2, 0, 3] rfl)
    · have hF : tTokens_takeNumber_b2 (tTokens_takeNumber_L n) σ x1 x2 y1 = some (r, σ') := hF
      unfold tTokens_takeNumber_b2 at hF
      refine lv_iinc (v := (x2 + 1)) (lv' := [(4, .int (x2 + 1)), (0, .ref (ad 2)), (1, .int x1), (2, .long y1)]) hx hb d_Tokens_takeNumber_57 hl (k := 3) rfl rfl (by decide) rfl (fun ls hl => ?_)
      refine lv_goto (tgt := 5) hx hb d_Tokens_takeNumber_60 (by decide) ?_
      exact ihn.1 σ x1 (x2 + 1) y1 H locs ls hF hP hD hS (lv_sub hl [1, 2, 3, 0] rfl)
    · have hF : tTokens_takeNumber_b3 (tTokens_takeNumber_L n) σ x1 x2 y1 = some (r, σ') := hF
      unfold tTokens_takeNumber_b3 at hF
      refine lv_lload_n hx hb d_Tokens_takeNumber_63 rfl (lv_at hl 2 rfl) ?_
      refine lv_ldc2 (v := 2147483647) hx hb hown (hts _ tw_114) d_Tokens_takeNumber_64 ?_
      refine W.lcmp hx hb d_Tokens_takeNumber_67 ?_
      refine lv_if_gt (tgt := 83) hx hb d_Tokens_takeNumber_68 (by decide) (fun c_6 => ?_) (fun c_6 => ?_)
      · have hF := ifp hF c_6
        exact ihn.2.2.2 σ x1 x2 y1 H locs ls hF hP hD hS (lv_sub hl [0, 1, 2, 3] rfl)
      · have hF := ifn hF c_6
        refine lv_aload_n hx hb d_Tokens_takeNumber_71 rfl (lv_at hl 0 rfl) ?_
        refine va_get (D := (dC, dI)) (ci := 2) (v := .ref (ad 0)) hx hb hts i_Tokens hown hK hP 2 rfl rfl 0 (by decide) (hts _ tw_86) (fun _ h9 => h9) rfl d_Tokens_takeNumber_72 ?_
        refine lv_iload hx hb d_Tokens_takeNumber_75 (lv_at hl 3 rfl) ?_
        obtain ⟨r7, h7, hF⟩ := b1E hF
        refine callVI (As := [.int x2]) X (ct_Text_isLetter l dC dI ad cA H.size h7) lk_Tokens_56 ⟨rfl, rfl, by decide, by decide⟩ 0 rfl rfl hP hD hS hl.1 rfl rfl (Nat.le_of_ble_eq_true rfl) d_Tokens_takeNumber_77 (fun H locs hP hD hS => ?_)
        refine lv_if_eq (tgt := 92) hx hb d_Tokens_takeNumber_80 (by decide) (fun c_8 => ?_) (fun c_8 => ?_)
        · have hF := ifp hF c_8
          refine lv_aload_n hx hb d_Tokens_takeNumber_92 rfl (lv_at hl 0 rfl) ?_
          refine lv_iconst (v := 2) hx hb d_Tokens_takeNumber_93 (by decide) ?_
          refine lv_iload_n hx hb d_Tokens_takeNumber_94 rfl (lv_at hl 1 rfl) ?_
          refine lv_lload_n hx hb d_Tokens_takeNumber_95 rfl (lv_at hl 2 rfl) ?_
          obtain ⟨u9, h9, hF⟩ := b1E hF
          refine callVV (As := [.int 2, .int x1, .long y1]) X (ct_Tokens_add l dC dI ad cA H.size h9) lk_Tokens_79 ⟨rfl, rfl, by decide, by decide⟩ 2 rfl rfl hP hD hS hl.1 rfl rfl (Nat.le_of_ble_eq_true rfl) d_Tokens_takeNumber_96 (fun H locs hP hD hS => ?_)
          refine lv_iload hx hb d_Tokens_takeNumber_99 (lv_at hl 3 rfl) ?_
          cases hF
          exact leafI X hP hD hS d_Tokens_takeNumber_101
        · have hF := ifn hF c_8
          exact ihn.2.2.2 σ x1 x2 y1 H locs ls hF hP hD hS (lv_sub hl [0, 1, 2, 3] rfl)
    · have hF : tTokens_takeNumber_b4 (tTokens_takeNumber_L n) σ x1 x2 y1 = some (r, σ') := hF
      unfold tTokens_takeNumber_b4 at hF
      refine lv_aload_n hx hb d_Tokens_takeNumber_83 rfl (lv_at hl 0 rfl) ?_
      refine va_get (D := (dC, dI)) (ci := 2) (v := .ref (ad 1)) hx hb hts i_Tokens hown hK hP 2 rfl rfl 1 (by decide) (hts _ tw_94) (fun _ h9 => h9) rfl d_Tokens_takeNumber_84 ?_
      refine lv_iconst (v := 1) hx hb d_Tokens_takeNumber_87 (by decide) ?_
      refine lv_iload_n hx hb d_Tokens_takeNumber_88 rfl (lv_at hl 1 rfl) ?_
      obtain ⟨u10, h10, hF⟩ := b1E hF
      refine callVV (As := [.int 1, .int x1]) X (ct_Refusal_refuse l dC dI ad cA H.size h10) lk_Tokens_50 ⟨rfl, rfl, by decide, by decide⟩ 1 rfl rfl hP hD hS hl.1 rfl rfl (Nat.le_of_ble_eq_true rfl) d_Tokens_takeNumber_89 (fun H locs hP hD hS => ?_)
      refine lv_aload_n hx hb d_Tokens_takeNumber_92 rfl (lv_at hl 0 rfl) ?_
      refine lv_iconst (v := 2) hx hb d_Tokens_takeNumber_93 (by decide) ?_
      refine lv_iload_n hx hb d_Tokens_takeNumber_94 rfl (lv_at hl 1 rfl) ?_
      refine lv_lload_n hx hb d_Tokens_takeNumber_95 rfl (lv_at hl 2 rfl) ?_
      obtain ⟨u11, h11, hF⟩ := b1E hF
      refine callVV (As := [.int 2, .int x1, .long y1]) X (ct_Tokens_add l dC dI ad cA H.size h11) lk_Tokens_79 ⟨rfl, rfl, by decide, by decide⟩ 2 rfl rfl hP hD hS hl.1 rfl rfl (Nat.le_of_ble_eq_true rfl) d_Tokens_takeNumber_96 (fun H locs hP hD hS => ?_)
      refine lv_iload hx hb d_Tokens_takeNumber_99 (lv_at hl 3 rfl) ?_
      cases hF
      exact leafI X hP hD hS d_Tokens_takeNumber_101
set_option maxHeartbeats 4000000 in
set_option maxRecDepth 100000 in
theorem ct_Tokens_takeNumber (l : Launch) (dC : Nat → ClassId) (dI : Nat → Nat → Nat) (ad : Nat → Nat) (cA : Nat → ClassId) (sz : Nat) {σ : St} {a1 : Int32} {r : Int32} {σ' : St} (hF : tTokens_takeNumber σ a1 = some (r, σ')) : MI l y_Tokens_takeNumber b_Tokens_takeNumber 5 (some .int) { frames := 2, cells := 0, slots := 0, locals := 43 } (dC, dI) (ttys cA) ad (tcw ad cA) [.ref (ad 2), .int a1] σ sz r σ' := by
  refine startM (own := "TinyForge$Tokens") (Qc := fun A => QI (dC, dI) (ttys cA) (tcw ad cA) A r σ') rfl rfl (Nat.le_of_ble_eq_true rfl) ?_
  intro p e s m below meth c A H locs ls X hP hD hS hl
  have hl : lv_has ls 5 [(0, .ref (ad 2)), (1, .int a1)] := hl
  obtain ⟨hx, hb, hr, hml, hown, hlocks, hts, hA, hK, hZ⟩ := id X
  unfold tTokens_takeNumber at hF
  refine lv_lconst (v := 0) hx hb d_Tokens_takeNumber_0 (by decide) ?_
  refine lv_lstore_n (lv' := [(2, .long 0), (0, .ref (ad 2)), (1, .int a1)]) hx hb d_Tokens_takeNumber_1 rfl hl (by decide) rfl (fun ls hl => ?_)
  refine lv_iload_n hx hb d_Tokens_takeNumber_2 rfl (lv_at hl 2 rfl) ?_
  refine lv_istore (lv' := [(4, .int a1), (2, .long 0), (0, .ref (ad 2)), (1, .int a1)]) hx hb d_Tokens_takeNumber_3 hl (by decide) rfl (fun ls hl => ?_)
  exact (tTokens_takeNumber_blk l dC dI ad cA X 2000).1 σ a1 a1 0 H locs ls hF hP hD hS (lv_sub hl [2, 3, 1, 0] rfl)
theorem d_Tokens_takeSign_0 : decode b_Tokens_takeSign 0 = .ok (.aload_n 0, 1) := by decide +kernel
theorem d_Tokens_takeSign_1 : decode b_Tokens_takeSign 1 = .ok (.getfield 29, 3) := by decide +kernel
theorem d_Tokens_takeSign_4 : decode b_Tokens_takeSign 4 = .ok (.iload_n 1, 1) := by decide +kernel
theorem d_Tokens_takeSign_5 : decode b_Tokens_takeSign 5 = .ok (.invokevirtual 71, 3) := by decide +kernel
theorem d_Tokens_takeSign_8 : decode b_Tokens_takeSign 8 = .ok (.istore_n 2, 1) := by decide +kernel
theorem d_Tokens_takeSign_9 : decode b_Tokens_takeSign 9 = .ok (.iload_n 2, 1) := by decide +kernel
theorem d_Tokens_takeSign_10 : decode b_Tokens_takeSign 10 = .ok (.aload_n 0, 1) := by decide +kernel
theorem d_Tokens_takeSign_11 : decode b_Tokens_takeSign 11 = .ok (.getfield 29, 3) := by decide +kernel
theorem d_Tokens_takeSign_14 : decode b_Tokens_takeSign 14 = .ok (.iload_n 1, 1) := by decide +kernel
theorem d_Tokens_takeSign_15 : decode b_Tokens_takeSign 15 = .ok (.iconst 1, 1) := by decide +kernel
theorem d_Tokens_takeSign_16 : decode b_Tokens_takeSign 16 = .ok (.iadd, 1) := by decide +kernel
theorem d_Tokens_takeSign_17 : decode b_Tokens_takeSign 17 = .ok (.invokevirtual 71, 3) := by decide +kernel
theorem d_Tokens_takeSign_20 : decode b_Tokens_takeSign 20 = .ok (.invokestatic 105, 3) := by decide +kernel
theorem d_Tokens_takeSign_23 : decode b_Tokens_takeSign 23 = .ok (.ifCond .eq 18, 3) := by decide +kernel
theorem d_Tokens_takeSign_26 : decode b_Tokens_takeSign 26 = .ok (.aload_n 0, 1) := by decide +kernel
theorem d_Tokens_takeSign_27 : decode b_Tokens_takeSign 27 = .ok (.sipush 256, 3) := by decide +kernel
theorem d_Tokens_takeSign_30 : decode b_Tokens_takeSign 30 = .ok (.iload_n 2, 1) := by decide +kernel
theorem d_Tokens_takeSign_31 : decode b_Tokens_takeSign 31 = .ok (.iadd, 1) := by decide +kernel
theorem d_Tokens_takeSign_32 : decode b_Tokens_takeSign 32 = .ok (.iload_n 1, 1) := by decide +kernel
theorem d_Tokens_takeSign_33 : decode b_Tokens_takeSign 33 = .ok (.lconst 0, 1) := by decide +kernel
theorem d_Tokens_takeSign_34 : decode b_Tokens_takeSign 34 = .ok (.invokevirtual 79, 3) := by decide +kernel
theorem d_Tokens_takeSign_37 : decode b_Tokens_takeSign 37 = .ok (.iload_n 1, 1) := by decide +kernel
theorem d_Tokens_takeSign_38 : decode b_Tokens_takeSign 38 = .ok (.iconst 2, 1) := by decide +kernel
theorem d_Tokens_takeSign_39 : decode b_Tokens_takeSign 39 = .ok (.iadd, 1) := by decide +kernel
theorem d_Tokens_takeSign_40 : decode b_Tokens_takeSign 40 = .ok (.ireturn, 1) := by decide +kernel
theorem d_Tokens_takeSign_41 : decode b_Tokens_takeSign 41 = .ok (.ldc 109, 2) := by decide +kernel
theorem d_Tokens_takeSign_43 : decode b_Tokens_takeSign 43 = .ok (.iload_n 2, 1) := by decide +kernel
theorem d_Tokens_takeSign_44 : decode b_Tokens_takeSign 44 = .ok (.invokevirtual 111, 3) := by decide +kernel
theorem d_Tokens_takeSign_47 : decode b_Tokens_takeSign 47 = .ok (.ifCond .ge 12, 3) := by decide +kernel
theorem d_Tokens_takeSign_50 : decode b_Tokens_takeSign 50 = .ok (.aload_n 0, 1) := by decide +kernel
theorem d_Tokens_takeSign_51 : decode b_Tokens_takeSign 51 = .ok (.getfield 33, 3) := by decide +kernel
theorem d_Tokens_takeSign_54 : decode b_Tokens_takeSign 54 = .ok (.iconst 1, 1) := by decide +kernel
theorem d_Tokens_takeSign_55 : decode b_Tokens_takeSign 55 = .ok (.iload_n 1, 1) := by decide +kernel
theorem d_Tokens_takeSign_56 : decode b_Tokens_takeSign 56 = .ok (.invokevirtual 50, 3) := by decide +kernel
theorem d_Tokens_takeSign_59 : decode b_Tokens_takeSign 59 = .ok (.aload_n 0, 1) := by decide +kernel
theorem d_Tokens_takeSign_60 : decode b_Tokens_takeSign 60 = .ok (.iload_n 2, 1) := by decide +kernel
theorem d_Tokens_takeSign_61 : decode b_Tokens_takeSign 61 = .ok (.iload_n 1, 1) := by decide +kernel
theorem d_Tokens_takeSign_62 : decode b_Tokens_takeSign 62 = .ok (.lconst 0, 1) := by decide +kernel
theorem d_Tokens_takeSign_63 : decode b_Tokens_takeSign 63 = .ok (.invokevirtual 79, 3) := by decide +kernel
theorem d_Tokens_takeSign_66 : decode b_Tokens_takeSign 66 = .ok (.iload_n 1, 1) := by decide +kernel
theorem d_Tokens_takeSign_67 : decode b_Tokens_takeSign 67 = .ok (.iconst 1, 1) := by decide +kernel
theorem d_Tokens_takeSign_68 : decode b_Tokens_takeSign 68 = .ok (.iadd, 1) := by decide +kernel
theorem d_Tokens_takeSign_69 : decode b_Tokens_takeSign 69 = .ok (.ireturn, 1) := by decide +kernel
theorem tw_116 : Cond.methodLink "TinyForge$Tokens" 105 ⟨"TinyForge$Tokens", "isDoubleSign", "(CC)Z"⟩ ∈ BIG := List.mem_filter.mpr ⟨List.mem_of_getElem? (i := 711) (by decide +kernel), by decide +kernel⟩
theorem tw_117 : Cond.code ⟨"TinyForge$Tokens", "isDoubleSign", "(CC)Z"⟩ prog_10_method_8_code 2 (some .boolean) ∈ BIG := List.mem_filter.mpr ⟨List.mem_of_getElem? (i := 713) (by decide +kernel), by decide +kernel⟩
theorem tw_118 : Cond.static ⟨"TinyForge$Tokens", "isDoubleSign", "(CC)Z"⟩ ∈ BIG := List.mem_filter.mpr ⟨List.mem_of_getElem? (i := 712) (by decide +kernel), by decide +kernel⟩
theorem tw_119 : Cond.methodLink "TinyForge$Tokens" 111 ⟨"java/lang/String", "indexOf", "(I)I"⟩ ∈ BIG := List.mem_filter.mpr ⟨List.mem_of_getElem? (i := 715) (by decide +kernel), by decide +kernel⟩
theorem tw_120 : Cond.code ⟨"java/lang/String", "indexOf", "(I)I"⟩ prog_20_method_79_code 2 (some .int) ∈ BIG := List.mem_filter.mpr ⟨List.mem_of_getElem? (i := 718) (by decide +kernel), by decide +kernel⟩
theorem tw_121 : Cond.instanceMethod ⟨"java/lang/String", "indexOf", "(I)I"⟩ ∈ BIG := List.mem_filter.mpr ⟨List.mem_of_getElem? (i := 716) (by decide +kernel), by decide +kernel⟩
theorem tw_122 : Cond.selects "java/lang/String" ⟨"java/lang/String", "indexOf", "(I)I"⟩ ⟨"java/lang/String", "indexOf", "(I)I"⟩ ∈ BIG := List.mem_filter.mpr ⟨List.mem_of_getElem? (i := 717) (by decide +kernel), by decide +kernel⟩
theorem lk_Tokens_105 : LkS "TinyForge$Tokens" 105 y_Tokens_isDoubleSign b_Tokens_isDoubleSign 2 (some .boolean) 2 := ⟨⟨tw_116, tw_106, tw_117, by decide +kernel⟩, tw_118⟩
theorem lk_Tokens_111 : LkV "TinyForge$Tokens" 111 "java/lang/String" y_String_indexOf_0 b_String_indexOf_0 2 (some .int) 1 := ⟨⟨tw_119, tw_6, tw_120, by decide +kernel⟩, tw_121, tw_122⟩
def tTokens_takeSign_b1 (k : Nat → St → Int32 → Int32 → Option (Int32 × St)) (σ : St) (x1 : Int32) (x2 : Int32) : Option (Int32 × St) := b1 (tTokens_add σ x2 x1 0) (fun u9 => some ((x1 + 1), u9))
def tTokens_takeSign_L : Nat → Nat → St → Int32 → Int32 → Option (Int32 × St)
  | 0, _, _, _, _ => none
  | n + 1, lab, σ, x1, x2 => match lab with
    | 1 => tTokens_takeSign_b1 (tTokens_takeSign_L n) σ x1 x2
    | _ => none
def tTokens_takeSign (σ : St) (a1 : Int32) : Option (Int32 × St) := b1 (tText_at σ a1) (fun r1 => b1 (tText_at σ (a1 + 1)) (fun r2 => b1 (tTokens_isDoubleSign σ r1 r2) (fun r3 => if r3 = 0 then b1 (tString_indexOf_0 σ 7 r1) (fun r5 => if (0 : Int32) ≤ r5 then tTokens_takeSign_L 2000 1 σ a1 r1 else b1 (tRefusal_refuse σ 1 a1) (fun u7 => tTokens_takeSign_L 2000 1 u7 a1 r1)) else b1 (tTokens_add σ (256 + r1) a1 0) (fun u8 => some ((a1 + 2), u8)))))
set_option maxHeartbeats 4000000 in
set_option maxRecDepth 100000 in
theorem tTokens_takeSign_blk {p : Program} {e : Env} {s : State} {m : MethodId} {args : Array Value} {below : List Frame} {meth : Method} {c : Code} {A : Nat → Prop} (l : Launch) (dC : Nat → ClassId) (dI : Nat → Nat → Nat) (ad : Nat → Nat) (cA : Nat → ClassId) {r : Int32} {σ' : St} (X : Cx p s m args meth c b_Tokens_takeSign 3 (some .int) "TinyForge$Tokens" (dC, dI) (ttys cA) ad A) : ∀ n : Nat, (∀ (σ : St) (x1 : Int32) (x2 : Int32) (H : Heap) (locs : List Loc) (ls : Array Slot), tTokens_takeSign_L n 1 σ x1 x2 = some (r, σ') → va_P (dC, dI) vwCl (tcw ad cA σ) H → va_D A (tcw ad cA σ) → va_S A s.heap H locs → lv_has ls 3 [(0, .ref (ad 2)), (1, .int x1), (2, .int x2)] → W p l e { frames := 5, cells := 0, slots := 0, locals := 121 } s m args below meth c H locs 0 0 (MQ below (QI (dC, dI) (ttys cA) (tcw ad cA) A r σ') args s 0 0 A) (F0 m 59 ls [])) := by
  obtain ⟨hx, hb, hr, hml, hown, hlocks, hts, hA, hK, hZ⟩ := id X
  intro n
  induction n with
  | zero => exact (fun σ x1 x2 H locs ls hF => by cases hF)
  | succ n ihn =>
    refine fun σ x1 x2 H locs ls hF hP hD hS hl => ?_
    · have hF : tTokens_takeSign_b1 (tTokens_takeSign_L n) σ x1 x2 = some (r, σ') := hF
      unfold tTokens_takeSign_b1 at hF
      refine lv_aload_n hx hb d_Tokens_takeSign_59 rfl (lv_at hl 0 rfl) ?_
      refine lv_iload_n hx hb d_Tokens_takeSign_60 rfl (lv_at hl 2 rfl) ?_
      refine lv_iload_n hx hb d_Tokens_takeSign_61 rfl (lv_at hl 1 rfl) ?_
      refine lv_lconst (v := 0) hx hb d_Tokens_takeSign_62 (by decide) ?_
      obtain ⟨u9, h9, hF⟩ := b1E hF
      refine callVV (As := [.int x2, .int x1, .long 0]) X (ct_Tokens_add l dC dI ad cA H.size h9) lk_Tokens_79 ⟨rfl, rfl, by decide, by decide⟩ 2 rfl rfl hP hD hS hl.1 rfl rfl (Nat.le_of_ble_eq_true rfl) d_Tokens_takeSign_63 (fun H locs hP hD hS => ?_)
      refine lv_iload_n hx hb d_Tokens_takeSign_66 rfl (lv_at hl 1 rfl) ?_
      refine lv_iconst (v := 1) hx hb d_Tokens_takeSign_67 (by decide) ?_
      refine lv_iadd hx hb d_Tokens_takeSign_68 ?_
      cases hF
      exact leafI X hP hD hS d_Tokens_takeSign_69
set_option maxHeartbeats 4000000 in
set_option maxRecDepth 100000 in
theorem ct_Tokens_takeSign (l : Launch) (dC : Nat → ClassId) (dI : Nat → Nat → Nat) (ad : Nat → Nat) (cA : Nat → ClassId) (sz : Nat) {σ : St} {a1 : Int32} {r : Int32} {σ' : St} (hF : tTokens_takeSign σ a1 = some (r, σ')) : MI l y_Tokens_takeSign b_Tokens_takeSign 3 (some .int) { frames := 5, cells := 0, slots := 0, locals := 121 } (dC, dI) (ttys cA) ad (tcw ad cA) [.ref (ad 2), .int a1] σ sz r σ' := by
  refine startM (own := "TinyForge$Tokens") (Qc := fun A => QI (dC, dI) (ttys cA) (tcw ad cA) A r σ') rfl rfl (Nat.le_of_ble_eq_true rfl) ?_
  intro p e s m below meth c A H locs ls X hP hD hS hl
  have hl : lv_has ls 3 [(0, .ref (ad 2)), (1, .int a1)] := hl
  obtain ⟨hx, hb, hr, hml, hown, hlocks, hts, hA, hK, hZ⟩ := id X
  unfold tTokens_takeSign at hF
  refine lv_aload_n hx hb d_Tokens_takeSign_0 rfl (lv_at hl 0 rfl) ?_
  refine va_get (D := (dC, dI)) (ci := 2) (v := .ref (ad 0)) hx hb hts i_Tokens hown hK hP 2 rfl rfl 0 (by decide) (hts _ tw_86) (fun _ h9 => h9) rfl d_Tokens_takeSign_1 ?_
  refine lv_iload_n hx hb d_Tokens_takeSign_4 rfl (lv_at hl 1 rfl) ?_
  obtain ⟨r1, h1, hF⟩ := b1E hF
  refine callVI (As := [.int a1]) X (ct_Text_at l dC dI ad cA H.size h1) lk_Tokens_71 ⟨rfl, rfl, by decide, by decide⟩ 0 rfl rfl hP hD hS hl.1 rfl rfl (Nat.le_of_ble_eq_true rfl) d_Tokens_takeSign_5 (fun H locs hP hD hS => ?_)
  refine lv_istore_n (lv' := [(2, .int r1), (0, .ref (ad 2)), (1, .int a1)]) hx hb d_Tokens_takeSign_8 rfl hl (by decide) rfl (fun ls hl => ?_)
  refine lv_iload_n hx hb d_Tokens_takeSign_9 rfl (lv_at hl 0 rfl) ?_
  refine lv_aload_n hx hb d_Tokens_takeSign_10 rfl (lv_at hl 1 rfl) ?_
  refine va_get (D := (dC, dI)) (ci := 2) (v := .ref (ad 0)) hx hb hts i_Tokens hown hK hP 2 rfl rfl 0 (by decide) (hts _ tw_86) (fun _ h9 => h9) rfl d_Tokens_takeSign_11 ?_
  refine lv_iload_n hx hb d_Tokens_takeSign_14 rfl (lv_at hl 2 rfl) ?_
  refine lv_iconst (v := 1) hx hb d_Tokens_takeSign_15 (by decide) ?_
  refine lv_iadd hx hb d_Tokens_takeSign_16 ?_
  obtain ⟨r2, h2, hF⟩ := b1E hF
  refine callVI (As := [.int (a1 + 1)]) X (ct_Text_at l dC dI ad cA H.size h2) lk_Tokens_71 ⟨rfl, rfl, by decide, by decide⟩ 0 rfl rfl hP hD hS hl.1 rfl rfl (Nat.le_of_ble_eq_true rfl) d_Tokens_takeSign_17 (fun H locs hP hD hS => ?_)
  obtain ⟨r3, h3, hF⟩ := b1E hF
  refine callSI (As := [.int r1, .int r2]) X (ct_Tokens_isDoubleSign l dC dI ad cA H.size h3) lk_Tokens_105 ⟨rfl, rfl, by decide, by decide⟩ hP hD hS hl.1 rfl rfl (Nat.le_of_ble_eq_true rfl) d_Tokens_takeSign_20 (fun H locs hP hD hS => ?_)
  refine lv_if_eq (tgt := 41) hx hb d_Tokens_takeSign_23 (by decide) (fun c_4 => ?_) (fun c_4 => ?_)
  · have hF := ifp hF c_4
    refine va_ldcS hx hb hown (hZ.2.1 7 _ rfl) d_Tokens_takeSign_41 ?_
    refine lv_iload_n hx hb d_Tokens_takeSign_43 rfl (lv_at hl 0 rfl) ?_
    obtain ⟨r5, h5, hF⟩ := b1E hF
    refine callZI (As := [.int r1]) X (ct_String_indexOf_0 l dC dI ad cA H.size h5) lk_Tokens_111 ⟨rfl, rfl, by decide, by decide⟩ (by decide) hP hD hS hl.1 rfl rfl (Nat.le_of_ble_eq_true rfl) d_Tokens_takeSign_44 (fun H locs hP hD hS => ?_)
    refine lv_if_ge (tgt := 59) hx hb d_Tokens_takeSign_47 (by decide) (fun c_6 => ?_) (fun c_6 => ?_)
    · have hF := ifp hF c_6
      exact (tTokens_takeSign_blk l dC dI ad cA X 2000) σ a1 r1 H locs ls hF hP hD hS (lv_sub hl [1, 2, 0] rfl)
    · have hF := ifn hF c_6
      refine lv_aload_n hx hb d_Tokens_takeSign_50 rfl (lv_at hl 1 rfl) ?_
      refine va_get (D := (dC, dI)) (ci := 2) (v := .ref (ad 1)) hx hb hts i_Tokens hown hK hP 2 rfl rfl 1 (by decide) (hts _ tw_94) (fun _ h9 => h9) rfl d_Tokens_takeSign_51 ?_
      refine lv_iconst (v := 1) hx hb d_Tokens_takeSign_54 (by decide) ?_
      refine lv_iload_n hx hb d_Tokens_takeSign_55 rfl (lv_at hl 2 rfl) ?_
      obtain ⟨u7, h7, hF⟩ := b1E hF
      refine callVV (As := [.int 1, .int a1]) X (ct_Refusal_refuse l dC dI ad cA H.size h7) lk_Tokens_50 ⟨rfl, rfl, by decide, by decide⟩ 1 rfl rfl hP hD hS hl.1 rfl rfl (Nat.le_of_ble_eq_true rfl) d_Tokens_takeSign_56 (fun H locs hP hD hS => ?_)
      exact (tTokens_takeSign_blk l dC dI ad cA X 2000) u7 a1 r1 H locs ls hF hP hD hS (lv_sub hl [1, 2, 0] rfl)
  · have hF := ifn hF c_4
    refine lv_aload_n hx hb d_Tokens_takeSign_26 rfl (lv_at hl 1 rfl) ?_
    refine lv_sipush (v := 256) hx hb d_Tokens_takeSign_27 (by decide) ?_
    refine lv_iload_n hx hb d_Tokens_takeSign_30 rfl (lv_at hl 0 rfl) ?_
    refine lv_iadd hx hb d_Tokens_takeSign_31 ?_
    refine lv_iload_n hx hb d_Tokens_takeSign_32 rfl (lv_at hl 2 rfl) ?_
    refine lv_lconst (v := 0) hx hb d_Tokens_takeSign_33 (by decide) ?_
    obtain ⟨u8, h8, hF⟩ := b1E hF
    refine callVV (As := [.int (256 + r1), .int a1, .long 0]) X (ct_Tokens_add l dC dI ad cA H.size h8) lk_Tokens_79 ⟨rfl, rfl, by decide, by decide⟩ 2 rfl rfl hP hD hS hl.1 rfl rfl (Nat.le_of_ble_eq_true rfl) d_Tokens_takeSign_34 (fun H locs hP hD hS => ?_)
    refine lv_iload_n hx hb d_Tokens_takeSign_37 rfl (lv_at hl 2 rfl) ?_
    refine lv_iconst (v := 2) hx hb d_Tokens_takeSign_38 (by decide) ?_
    refine lv_iadd hx hb d_Tokens_takeSign_39 ?_
    cases hF
    exact leafI X hP hD hS d_Tokens_takeSign_40
theorem d_Tokens_takeOne_0 : decode b_Tokens_takeOne 0 = .ok (.aload_n 0, 1) := by decide +kernel
theorem d_Tokens_takeOne_1 : decode b_Tokens_takeOne 1 = .ok (.getfield 29, 3) := by decide +kernel
theorem d_Tokens_takeOne_4 : decode b_Tokens_takeOne 4 = .ok (.iload_n 1, 1) := by decide +kernel
theorem d_Tokens_takeOne_5 : decode b_Tokens_takeOne 5 = .ok (.invokevirtual 56, 3) := by decide +kernel
theorem d_Tokens_takeOne_8 : decode b_Tokens_takeOne 8 = .ok (.ifCond .eq 9, 3) := by decide +kernel
theorem d_Tokens_takeOne_11 : decode b_Tokens_takeOne 11 = .ok (.aload_n 0, 1) := by decide +kernel
theorem d_Tokens_takeOne_12 : decode b_Tokens_takeOne 12 = .ok (.iload_n 1, 1) := by decide +kernel
theorem d_Tokens_takeOne_13 : decode b_Tokens_takeOne 13 = .ok (.invokevirtual 59, 3) := by decide +kernel
theorem d_Tokens_takeOne_16 : decode b_Tokens_takeOne 16 = .ok (.ireturn, 1) := by decide +kernel
theorem d_Tokens_takeOne_17 : decode b_Tokens_takeOne 17 = .ok (.aload_n 0, 1) := by decide +kernel
theorem d_Tokens_takeOne_18 : decode b_Tokens_takeOne 18 = .ok (.getfield 29, 3) := by decide +kernel
theorem d_Tokens_takeOne_21 : decode b_Tokens_takeOne 21 = .ok (.iload_n 1, 1) := by decide +kernel
theorem d_Tokens_takeOne_22 : decode b_Tokens_takeOne 22 = .ok (.invokevirtual 62, 3) := by decide +kernel
theorem d_Tokens_takeOne_25 : decode b_Tokens_takeOne 25 = .ok (.ifCond .eq 9, 3) := by decide +kernel
theorem d_Tokens_takeOne_28 : decode b_Tokens_takeOne 28 = .ok (.aload_n 0, 1) := by decide +kernel
theorem d_Tokens_takeOne_29 : decode b_Tokens_takeOne 29 = .ok (.iload_n 1, 1) := by decide +kernel
theorem d_Tokens_takeOne_30 : decode b_Tokens_takeOne 30 = .ok (.invokevirtual 65, 3) := by decide +kernel
theorem d_Tokens_takeOne_33 : decode b_Tokens_takeOne 33 = .ok (.ireturn, 1) := by decide +kernel
theorem d_Tokens_takeOne_34 : decode b_Tokens_takeOne 34 = .ok (.aload_n 0, 1) := by decide +kernel
theorem d_Tokens_takeOne_35 : decode b_Tokens_takeOne 35 = .ok (.iload_n 1, 1) := by decide +kernel
theorem d_Tokens_takeOne_36 : decode b_Tokens_takeOne 36 = .ok (.invokevirtual 68, 3) := by decide +kernel
theorem d_Tokens_takeOne_39 : decode b_Tokens_takeOne 39 = .ok (.ireturn, 1) := by decide +kernel
theorem tw_123 : Cond.methodLink "TinyForge$Tokens" 68 ⟨"TinyForge$Tokens", "takeSign", "(I)I"⟩ ∈ BIG := List.mem_filter.mpr ⟨List.mem_of_getElem? (i := 707) (by decide +kernel), by decide +kernel⟩
theorem tw_124 : Cond.code ⟨"TinyForge$Tokens", "takeSign", "(I)I"⟩ prog_10_method_7_code 3 (some .int) ∈ BIG := List.mem_filter.mpr ⟨List.mem_of_getElem? (i := 710) (by decide +kernel), by decide +kernel⟩
theorem tw_125 : Cond.instanceMethod ⟨"TinyForge$Tokens", "takeSign", "(I)I"⟩ ∈ BIG := List.mem_filter.mpr ⟨List.mem_of_getElem? (i := 709) (by decide +kernel), by decide +kernel⟩
theorem tw_126 : Cond.selects "TinyForge$Tokens" ⟨"TinyForge$Tokens", "takeSign", "(I)I"⟩ ⟨"TinyForge$Tokens", "takeSign", "(I)I"⟩ ∈ BIG := List.mem_filter.mpr ⟨List.mem_of_getElem? (i := 6) (by decide +kernel), by decide +kernel⟩
theorem tw_127 : Cond.methodLink "TinyForge$Tokens" 65 ⟨"TinyForge$Tokens", "takeNumber", "(I)I"⟩ ∈ BIG := List.mem_filter.mpr ⟨List.mem_of_getElem? (i := 701) (by decide +kernel), by decide +kernel⟩
theorem tw_128 : Cond.code ⟨"TinyForge$Tokens", "takeNumber", "(I)I"⟩ prog_10_method_6_code 5 (some .int) ∈ BIG := List.mem_filter.mpr ⟨List.mem_of_getElem? (i := 704) (by decide +kernel), by decide +kernel⟩
theorem tw_129 : Cond.instanceMethod ⟨"TinyForge$Tokens", "takeNumber", "(I)I"⟩ ∈ BIG := List.mem_filter.mpr ⟨List.mem_of_getElem? (i := 703) (by decide +kernel), by decide +kernel⟩
theorem tw_130 : Cond.selects "TinyForge$Tokens" ⟨"TinyForge$Tokens", "takeNumber", "(I)I"⟩ ⟨"TinyForge$Tokens", "takeNumber", "(I)I"⟩ ∈ BIG := List.mem_filter.mpr ⟨List.mem_of_getElem? (i := 5) (by decide +kernel), by decide +kernel⟩
theorem tw_131 : Cond.methodLink "TinyForge$Tokens" 59 ⟨"TinyForge$Tokens", "takeName", "(I)I"⟩ ∈ BIG := List.mem_filter.mpr ⟨List.mem_of_getElem? (i := 621) (by decide +kernel), by decide +kernel⟩
theorem tw_132 : Cond.code ⟨"TinyForge$Tokens", "takeName", "(I)I"⟩ prog_10_method_4_code 5 (some .int) ∈ BIG := List.mem_filter.mpr ⟨List.mem_of_getElem? (i := 624) (by decide +kernel), by decide +kernel⟩
theorem tw_133 : Cond.instanceMethod ⟨"TinyForge$Tokens", "takeName", "(I)I"⟩ ∈ BIG := List.mem_filter.mpr ⟨List.mem_of_getElem? (i := 623) (by decide +kernel), by decide +kernel⟩
theorem tw_134 : Cond.selects "TinyForge$Tokens" ⟨"TinyForge$Tokens", "takeName", "(I)I"⟩ ⟨"TinyForge$Tokens", "takeName", "(I)I"⟩ ∈ BIG := List.mem_filter.mpr ⟨List.mem_of_getElem? (i := 2) (by decide +kernel), by decide +kernel⟩
theorem lk_Tokens_68 : LkV "TinyForge$Tokens" 68 "TinyForge$Tokens" y_Tokens_takeSign b_Tokens_takeSign 3 (some .int) 1 := ⟨⟨tw_123, tw_106, tw_124, by decide +kernel⟩, tw_125, tw_126⟩
theorem lk_Tokens_65 : LkV "TinyForge$Tokens" 65 "TinyForge$Tokens" y_Tokens_takeNumber b_Tokens_takeNumber 5 (some .int) 1 := ⟨⟨tw_127, tw_106, tw_128, by decide +kernel⟩, tw_129, tw_130⟩
theorem lk_Tokens_59 : LkV "TinyForge$Tokens" 59 "TinyForge$Tokens" y_Tokens_takeName b_Tokens_takeName 5 (some .int) 1 := ⟨⟨tw_131, tw_106, tw_132, by decide +kernel⟩, tw_133, tw_134⟩
def tTokens_takeOne (σ : St) (a1 : Int32) : Option (Int32 × St) := b1 (tText_isLetter σ a1) (fun r1 => if r1 = 0 then b1 (tText_isDigit σ a1) (fun r3 => if r3 = 0 then b2 (tTokens_takeSign σ a1) (fun r5 u5 => some (r5, u5)) else b2 (tTokens_takeNumber σ a1) (fun r6 u6 => some (r6, u6))) else b2 (tTokens_takeName σ a1) (fun r7 u7 => some (r7, u7)))
set_option maxHeartbeats 4000000 in
set_option maxRecDepth 100000 in
theorem ct_Tokens_takeOne (l : Launch) (dC : Nat → ClassId) (dI : Nat → Nat → Nat) (ad : Nat → Nat) (cA : Nat → ClassId) (sz : Nat) {σ : St} {a1 : Int32} {r : Int32} {σ' : St} (hF : tTokens_takeOne σ a1 = some (r, σ')) : MI l y_Tokens_takeOne b_Tokens_takeOne 2 (some .int) { frames := 7, cells := 0, slots := 0, locals := 155 } (dC, dI) (ttys cA) ad (tcw ad cA) [.ref (ad 2), .int a1] σ sz r σ' := by
  refine startM (own := "TinyForge$Tokens") (Qc := fun A => QI (dC, dI) (ttys cA) (tcw ad cA) A r σ') rfl rfl (Nat.le_of_ble_eq_true rfl) ?_
  intro p e s m below meth c A H locs ls X hP hD hS hl
  have hl : lv_has ls 2 [(0, .ref (ad 2)), (1, .int a1)] := hl
  obtain ⟨hx, hb, hr, hml, hown, hlocks, hts, hA, hK, hZ⟩ := id X
  unfold tTokens_takeOne at hF
  refine lv_aload_n hx hb d_Tokens_takeOne_0 rfl (lv_at hl 0 rfl) ?_
  refine va_get (D := (dC, dI)) (ci := 2) (v := .ref (ad 0)) hx hb hts i_Tokens hown hK hP 2 rfl rfl 0 (by decide) (hts _ tw_86) (fun _ h9 => h9) rfl d_Tokens_takeOne_1 ?_
  refine lv_iload_n hx hb d_Tokens_takeOne_4 rfl (lv_at hl 1 rfl) ?_
  obtain ⟨r1, h1, hF⟩ := b1E hF
  refine callVI (As := [.int a1]) X (ct_Text_isLetter l dC dI ad cA H.size h1) lk_Tokens_56 ⟨rfl, rfl, by decide, by decide⟩ 0 rfl rfl hP hD hS hl.1 rfl rfl (Nat.le_of_ble_eq_true rfl) d_Tokens_takeOne_5 (fun H locs hP hD hS => ?_)
  refine lv_if_eq (tgt := 17) hx hb d_Tokens_takeOne_8 (by decide) (fun c_2 => ?_) (fun c_2 => ?_)
  · have hF := ifp hF c_2
    refine lv_aload_n hx hb d_Tokens_takeOne_17 rfl (lv_at hl 0 rfl) ?_
    refine va_get (D := (dC, dI)) (ci := 2) (v := .ref (ad 0)) hx hb hts i_Tokens hown hK hP 2 rfl rfl 0 (by decide) (hts _ tw_86) (fun _ h9 => h9) rfl d_Tokens_takeOne_18 ?_
    refine lv_iload_n hx hb d_Tokens_takeOne_21 rfl (lv_at hl 1 rfl) ?_
    obtain ⟨r3, h3, hF⟩ := b1E hF
    refine callVI (As := [.int a1]) X (ct_Text_isDigit l dC dI ad cA H.size h3) lk_Tokens_62 ⟨rfl, rfl, by decide, by decide⟩ 0 rfl rfl hP hD hS hl.1 rfl rfl (Nat.le_of_ble_eq_true rfl) d_Tokens_takeOne_22 (fun H locs hP hD hS => ?_)
    refine lv_if_eq (tgt := 34) hx hb d_Tokens_takeOne_25 (by decide) (fun c_4 => ?_) (fun c_4 => ?_)
    · have hF := ifp hF c_4
      refine lv_aload_n hx hb d_Tokens_takeOne_34 rfl (lv_at hl 0 rfl) ?_
      refine lv_iload_n hx hb d_Tokens_takeOne_35 rfl (lv_at hl 1 rfl) ?_
      obtain ⟨r5, u5, h5, hF⟩ := b2E hF
      refine callVI (As := [.int a1]) X (ct_Tokens_takeSign l dC dI ad cA H.size h5) lk_Tokens_68 ⟨rfl, rfl, by decide, by decide⟩ 2 rfl rfl hP hD hS hl.1 rfl rfl (Nat.le_of_ble_eq_true rfl) d_Tokens_takeOne_36 (fun H locs hP hD hS => ?_)
      cases hF
      exact leafI X hP hD hS d_Tokens_takeOne_39
    · have hF := ifn hF c_4
      refine lv_aload_n hx hb d_Tokens_takeOne_28 rfl (lv_at hl 0 rfl) ?_
      refine lv_iload_n hx hb d_Tokens_takeOne_29 rfl (lv_at hl 1 rfl) ?_
      obtain ⟨r6, u6, h6, hF⟩ := b2E hF
      refine callVI (As := [.int a1]) X (ct_Tokens_takeNumber l dC dI ad cA H.size h6) lk_Tokens_65 ⟨rfl, rfl, by decide, by decide⟩ 2 rfl rfl hP hD hS hl.1 rfl rfl (Nat.le_of_ble_eq_true rfl) d_Tokens_takeOne_30 (fun H locs hP hD hS => ?_)
      cases hF
      exact leafI X hP hD hS d_Tokens_takeOne_33
  · have hF := ifn hF c_2
    refine lv_aload_n hx hb d_Tokens_takeOne_11 rfl (lv_at hl 0 rfl) ?_
    refine lv_iload_n hx hb d_Tokens_takeOne_12 rfl (lv_at hl 1 rfl) ?_
    obtain ⟨r7, u7, h7, hF⟩ := b2E hF
    refine callVI (As := [.int a1]) X (ct_Tokens_takeName l dC dI ad cA H.size h7) lk_Tokens_59 ⟨rfl, rfl, by decide, by decide⟩ 2 rfl rfl hP hD hS hl.1 rfl rfl (Nat.le_of_ble_eq_true rfl) d_Tokens_takeOne_13 (fun H locs hP hD hS => ?_)
    cases hF
    exact leafI X hP hD hS d_Tokens_takeOne_16
theorem d_Tokens_takeAll_0 : decode b_Tokens_takeAll 0 = .ok (.aload_n 0, 1) := by decide +kernel
theorem d_Tokens_takeAll_1 : decode b_Tokens_takeAll 1 = .ok (.iconst 0, 1) := by decide +kernel
theorem d_Tokens_takeAll_2 : decode b_Tokens_takeAll 2 = .ok (.putfield 22, 3) := by decide +kernel
theorem d_Tokens_takeAll_5 : decode b_Tokens_takeAll 5 = .ok (.aload_n 0, 1) := by decide +kernel
theorem d_Tokens_takeAll_6 : decode b_Tokens_takeAll 6 = .ok (.iconst (-1), 1) := by decide +kernel
theorem d_Tokens_takeAll_7 : decode b_Tokens_takeAll 7 = .ok (.putfield 26, 3) := by decide +kernel
theorem d_Tokens_takeAll_10 : decode b_Tokens_takeAll 10 = .ok (.iconst 0, 1) := by decide +kernel
theorem d_Tokens_takeAll_11 : decode b_Tokens_takeAll 11 = .ok (.istore_n 1, 1) := by decide +kernel
theorem d_Tokens_takeAll_12 : decode b_Tokens_takeAll 12 = .ok (.iconst 0, 1) := by decide +kernel
theorem d_Tokens_takeAll_13 : decode b_Tokens_takeAll 13 = .ok (.istore_n 2, 1) := by decide +kernel
theorem d_Tokens_takeAll_14 : decode b_Tokens_takeAll 14 = .ok (.iload_n 2, 1) := by decide +kernel
theorem d_Tokens_takeAll_15 : decode b_Tokens_takeAll 15 = .ok (.sipush 480, 3) := by decide +kernel
theorem d_Tokens_takeAll_18 : decode b_Tokens_takeAll 18 = .ok (.if_icmp .ge 43, 3) := by decide +kernel
theorem d_Tokens_takeAll_21 : decode b_Tokens_takeAll 21 = .ok (.iload_n 1, 1) := by decide +kernel
theorem d_Tokens_takeAll_22 : decode b_Tokens_takeAll 22 = .ok (.aload_n 0, 1) := by decide +kernel
theorem d_Tokens_takeAll_23 : decode b_Tokens_takeAll 23 = .ok (.getfield 29, 3) := by decide +kernel
theorem d_Tokens_takeAll_26 : decode b_Tokens_takeAll 26 = .ok (.getfield 37, 3) := by decide +kernel
theorem d_Tokens_takeAll_29 : decode b_Tokens_takeAll 29 = .ok (.if_icmp .ge 32, 3) := by decide +kernel
theorem d_Tokens_takeAll_32 : decode b_Tokens_takeAll 32 = .ok (.aload_n 0, 1) := by decide +kernel
theorem d_Tokens_takeAll_33 : decode b_Tokens_takeAll 33 = .ok (.getfield 29, 3) := by decide +kernel
theorem d_Tokens_takeAll_36 : decode b_Tokens_takeAll 36 = .ok (.iload_n 1, 1) := by decide +kernel
theorem d_Tokens_takeAll_37 : decode b_Tokens_takeAll 37 = .ok (.invokevirtual 42, 3) := by decide +kernel
theorem d_Tokens_takeAll_40 : decode b_Tokens_takeAll 40 = .ok (.ifCond .eq 9, 3) := by decide +kernel
theorem d_Tokens_takeAll_43 : decode b_Tokens_takeAll 43 = .ok (.iload_n 1, 1) := by decide +kernel
theorem d_Tokens_takeAll_44 : decode b_Tokens_takeAll 44 = .ok (.iconst 1, 1) := by decide +kernel
theorem d_Tokens_takeAll_45 : decode b_Tokens_takeAll 45 = .ok (.iadd, 1) := by decide +kernel
theorem d_Tokens_takeAll_46 : decode b_Tokens_takeAll 46 = .ok (.goto 8, 3) := by decide +kernel
theorem d_Tokens_takeAll_49 : decode b_Tokens_takeAll 49 = .ok (.aload_n 0, 1) := by decide +kernel
theorem d_Tokens_takeAll_50 : decode b_Tokens_takeAll 50 = .ok (.iload_n 1, 1) := by decide +kernel
theorem d_Tokens_takeAll_51 : decode b_Tokens_takeAll 51 = .ok (.invokevirtual 46, 3) := by decide +kernel
theorem d_Tokens_takeAll_54 : decode b_Tokens_takeAll 54 = .ok (.istore_n 1, 1) := by decide +kernel
theorem d_Tokens_takeAll_55 : decode b_Tokens_takeAll 55 = .ok (.iinc 2 1, 3) := by decide +kernel
theorem d_Tokens_takeAll_58 : decode b_Tokens_takeAll 58 = .ok (.goto (-44), 3) := by decide +kernel
theorem d_Tokens_takeAll_61 : decode b_Tokens_takeAll 61 = .ok (.aload_n 0, 1) := by decide +kernel
theorem d_Tokens_takeAll_62 : decode b_Tokens_takeAll 62 = .ok (.getfield 26, 3) := by decide +kernel
theorem d_Tokens_takeAll_65 : decode b_Tokens_takeAll 65 = .ok (.ifCond .lt 15, 3) := by decide +kernel
theorem d_Tokens_takeAll_68 : decode b_Tokens_takeAll 68 = .ok (.aload_n 0, 1) := by decide +kernel
theorem d_Tokens_takeAll_69 : decode b_Tokens_takeAll 69 = .ok (.getfield 33, 3) := by decide +kernel
theorem d_Tokens_takeAll_72 : decode b_Tokens_takeAll 72 = .ok (.iconst 2, 1) := by decide +kernel
theorem d_Tokens_takeAll_73 : decode b_Tokens_takeAll 73 = .ok (.aload_n 0, 1) := by decide +kernel
theorem d_Tokens_takeAll_74 : decode b_Tokens_takeAll 74 = .ok (.getfield 26, 3) := by decide +kernel
theorem d_Tokens_takeAll_77 : decode b_Tokens_takeAll 77 = .ok (.invokevirtual 50, 3) := by decide +kernel
theorem d_Tokens_takeAll_80 : decode b_Tokens_takeAll 80 = .ok (.return_, 1) := by decide +kernel
theorem tw_135 : Cond.methodLink "TinyForge$Tokens" 42 ⟨"TinyForge$Text", "isBlank", "(I)Z"⟩ ∈ BIG := List.mem_filter.mpr ⟨List.mem_of_getElem? (i := 605) (by decide +kernel), by decide +kernel⟩
theorem tw_136 : Cond.code ⟨"TinyForge$Text", "isBlank", "(I)Z"⟩ prog_9_method_8_code 2 (some .boolean) ∈ BIG := List.mem_filter.mpr ⟨List.mem_of_getElem? (i := 608) (by decide +kernel), by decide +kernel⟩
theorem tw_137 : Cond.instanceMethod ⟨"TinyForge$Text", "isBlank", "(I)Z"⟩ ∈ BIG := List.mem_filter.mpr ⟨List.mem_of_getElem? (i := 606) (by decide +kernel), by decide +kernel⟩
theorem tw_138 : Cond.selects "TinyForge$Text" ⟨"TinyForge$Text", "isBlank", "(I)Z"⟩ ⟨"TinyForge$Text", "isBlank", "(I)Z"⟩ ∈ BIG := List.mem_filter.mpr ⟨List.mem_of_getElem? (i := 607) (by decide +kernel), by decide +kernel⟩
theorem tw_139 : Cond.methodLink "TinyForge$Tokens" 46 ⟨"TinyForge$Tokens", "takeOne", "(I)I"⟩ ∈ BIG := List.mem_filter.mpr ⟨List.mem_of_getElem? (i := 613) (by decide +kernel), by decide +kernel⟩
theorem tw_140 : Cond.code ⟨"TinyForge$Tokens", "takeOne", "(I)I"⟩ prog_10_method_3_code 2 (some .int) ∈ BIG := List.mem_filter.mpr ⟨List.mem_of_getElem? (i := 616) (by decide +kernel), by decide +kernel⟩
theorem tw_141 : Cond.instanceMethod ⟨"TinyForge$Tokens", "takeOne", "(I)I"⟩ ∈ BIG := List.mem_filter.mpr ⟨List.mem_of_getElem? (i := 615) (by decide +kernel), by decide +kernel⟩
theorem tw_142 : Cond.selects "TinyForge$Tokens" ⟨"TinyForge$Tokens", "takeOne", "(I)I"⟩ ⟨"TinyForge$Tokens", "takeOne", "(I)I"⟩ ∈ BIG := List.mem_filter.mpr ⟨List.mem_of_getElem? (i := 1) (by decide +kernel), by decide +kernel⟩
theorem lk_Tokens_42 : LkV "TinyForge$Tokens" 42 "TinyForge$Text" y_Text_isBlank b_Text_isBlank 2 (some .boolean) 1 := ⟨⟨tw_135, tw_76, tw_136, by decide +kernel⟩, tw_137, tw_138⟩
theorem lk_Tokens_46 : LkV "TinyForge$Tokens" 46 "TinyForge$Tokens" y_Tokens_takeOne b_Tokens_takeOne 2 (some .int) 1 := ⟨⟨tw_139, tw_106, tw_140, by decide +kernel⟩, tw_141, tw_142⟩
def tTokens_takeAll_b1 (k : Nat → St → Int32 → Int32 → Option (St)) (σ : St) (x1 : Int32) (x2 : Int32) : Option (St) := if (480 : Int32) ≤ x2 then k 3 σ 0 0 else if (σ.1 0) ≤ x1 then k 3 σ 0 0 else b1 (tText_isBlank σ x1) (fun r3 => if r3 = 0 then b2 (tTokens_takeOne σ x1) (fun r5 u5 => k 2 u5 x2 r5) else k 2 σ x2 (x1 + 1))
def tTokens_takeAll_b2 (k : Nat → St → Int32 → Int32 → Option (St)) (σ : St) (x1 : Int32) (x2 : Int32) : Option (St) := k 1 σ x2 (x1 + 1)
def tTokens_takeAll_b3 (k : Nat → St → Int32 → Int32 → Option (St)) (σ : St) (x1 : Int32) (x2 : Int32) : Option (St) := if (σ.1 5) < 0 then some σ else b1 (tRefusal_refuse σ 2 (σ.1 5)) (fun u7 => some u7)
def tTokens_takeAll_L : Nat → Nat → St → Int32 → Int32 → Option (St)
  | 0, _, _, _, _ => none
  | n + 1, lab, σ, x1, x2 => match lab with
    | 1 => tTokens_takeAll_b1 (tTokens_takeAll_L n) σ x1 x2
    | 2 => tTokens_takeAll_b2 (tTokens_takeAll_L n) σ x1 x2
    | 3 => tTokens_takeAll_b3 (tTokens_takeAll_L n) σ x1 x2
    | _ => none
def tTokens_takeAll (σ : St) : Option (St) := tTokens_takeAll_L 2000 1 (sI (sI σ 4 0) 5 (-1)) 0 0
set_option maxHeartbeats 4000000 in
set_option maxRecDepth 100000 in
theorem tTokens_takeAll_blk {p : Program} {e : Env} {s : State} {m : MethodId} {args : Array Value} {below : List Frame} {meth : Method} {c : Code} {A : Nat → Prop} (l : Launch) (dC : Nat → ClassId) (dI : Nat → Nat → Nat) (ad : Nat → Nat) (cA : Nat → ClassId) {σ' : St} (X : Cx p s m args meth c b_Tokens_takeAll 3 none "TinyForge$Tokens" (dC, dI) (ttys cA) ad A) : ∀ n : Nat, (∀ (σ : St) (x1 : Int32) (x2 : Int32) (H : Heap) (locs : List Loc) (ls : Array Slot), tTokens_takeAll_L n 1 σ x1 x2 = some σ' → va_P (dC, dI) vwCl (tcw ad cA σ) H → va_D A (tcw ad cA σ) → va_S A s.heap H locs → lv_has ls 3 [(0, .ref (ad 2)), (1, .int x1), (2, .int x2)] → W p l e { frames := 8, cells := 0, slots := 0, locals := 176 } s m args below meth c H locs 0 0 (MQ below (QV (dC, dI) (ttys cA) (tcw ad cA) A σ') args s 0 0 A) (F0 m 14 ls [])) ∧ (∀ (σ : St) (x1 : Int32) (x2 : Int32) (H : Heap) (locs : List Loc) (ls : Array Slot), tTokens_takeAll_L n 2 σ x1 x2 = some σ' → va_P (dC, dI) vwCl (tcw ad cA σ) H → va_D A (tcw ad cA σ) → va_S A s.heap H locs → lv_has ls 3 [(0, .ref (ad 2)), (2, .int x1)] → W p l e { frames := 8, cells := 0, slots := 0, locals := 176 } s m args below meth c H locs 0 0 (MQ below (QV (dC, dI) (ttys cA) (tcw ad cA) A σ') args s 0 0 A) (F0 m 54 ls [.int x2])) ∧ (∀ (σ : St) (x1 : Int32) (x2 : Int32) (H : Heap) (locs : List Loc) (ls : Array Slot), tTokens_takeAll_L n 3 σ x1 x2 = some σ' → va_P (dC, dI) vwCl (tcw ad cA σ) H → va_D A (tcw ad cA σ) → va_S A s.heap H locs → lv_has ls 3 [(0, .ref (ad 2))] → W p l e { frames := 8, cells := 0, slots := 0, locals := 176 } s m args below meth c H locs 0 0 (MQ below (QV (dC, dI) (ttys cA) (tcw ad cA) A σ') args s 0 0 A) (F0 m 61 ls [])) := by
  obtain ⟨hx, hb, hr, hml, hown, hlocks, hts, hA, hK, hZ⟩ := id X
  intro n
  induction n with
  | zero => exact ⟨(fun σ x1 x2 H locs ls hF => by cases hF), (fun σ x1 x2 H locs ls hF => by cases hF), (fun σ x1 x2 H locs ls hF => by cases hF)⟩
  | succ n ihn =>
    refine ⟨fun σ x1 x2 H locs ls hF hP hD hS hl => ?_, fun σ x1 x2 H locs ls hF hP hD hS hl => ?_, fun σ x1 x2 H locs ls hF hP hD hS hl => ?_⟩
    · have hF : tTokens_takeAll_b1 (tTokens_takeAll_L n) σ x1 x2 = some σ' := hF
      unfold tTokens_takeAll_b1 at hF
      refine lv_iload_n hx hb d_Tokens_takeAll_14 rfl (lv_at hl 2 rfl) ?_
      refine lv_sipush (v := 480) hx hb d_Tokens_takeAll_15 (by decide) ?_
      refine lv_icmp_ge (tgt := 61) hx hb d_Tokens_takeAll_18 (by decide) (fun c_1 => ?_) (fun c_1 => ?_)
      · have hF := ifp hF c_1
        exact ihn.2.2 σ 0 0 H locs ls hF hP hD hS (lv_sub hl [0] rfl)
      · have hF := ifn hF c_1
        refine lv_iload_n hx hb d_Tokens_takeAll_21 rfl (lv_at hl 1 rfl) ?_
        refine lv_aload_n hx hb d_Tokens_takeAll_22 rfl (lv_at hl 0 rfl) ?_
        refine va_get (D := (dC, dI)) (ci := 2) (v := .ref (ad 0)) hx hb hts i_Tokens hown hK hP 2 rfl rfl 0 (by decide) (hts _ tw_86) (fun _ h9 => h9) rfl d_Tokens_takeAll_23 ?_
        refine va_get (D := (dC, dI)) (ci := 0) (v := .int (σ.1 0)) hx hb hts i_Text hown hK hP 0 rfl rfl 1 (by decide) (hts _ tw_87) (fun _ h9 => h9) rfl d_Tokens_takeAll_26 ?_
        refine lv_icmp_ge (tgt := 61) hx hb d_Tokens_takeAll_29 (by decide) (fun c_2 => ?_) (fun c_2 => ?_)
        · have hF := ifp hF c_2
          exact ihn.2.2 σ 0 0 H locs ls hF hP hD hS (lv_sub hl [0] rfl)
        · have hF := ifn hF c_2
          refine lv_aload_n hx hb d_Tokens_takeAll_32 rfl (lv_at hl 0 rfl) ?_
          refine va_get (D := (dC, dI)) (ci := 2) (v := .ref (ad 0)) hx hb hts i_Tokens hown hK hP 2 rfl rfl 0 (by decide) (hts _ tw_86) (fun _ h9 => h9) rfl d_Tokens_takeAll_33 ?_
          refine lv_iload_n hx hb d_Tokens_takeAll_36 rfl (lv_at hl 1 rfl) ?_
          obtain ⟨r3, h3, hF⟩ := b1E hF
          refine callVI (As := [.int x1]) X (ct_Text_isBlank l dC dI ad cA H.size h3) lk_Tokens_42 ⟨rfl, rfl, by decide, by decide⟩ 0 rfl rfl hP hD hS hl.1 rfl rfl (Nat.le_of_ble_eq_true rfl) d_Tokens_takeAll_37 (fun H locs hP hD hS => ?_)
          refine lv_if_eq (tgt := 49) hx hb d_Tokens_takeAll_40 (by decide) (fun c_4 => ?_) (fun c_4 => ?_)
          · have hF := ifp hF c_4
            refine lv_aload_n hx hb d_Tokens_takeAll_49 rfl (lv_at hl 0 rfl) ?_
            refine lv_iload_n hx hb d_Tokens_takeAll_50 rfl (lv_at hl 1 rfl) ?_
            obtain ⟨r5, u5, h5, hF⟩ := b2E hF
            refine callVI (As := [.int x1]) X (ct_Tokens_takeOne l dC dI ad cA H.size h5) lk_Tokens_46 ⟨rfl, rfl, by decide, by decide⟩ 2 rfl rfl hP hD hS hl.1 rfl rfl (Nat.le_of_ble_eq_true rfl) d_Tokens_takeAll_51 (fun H locs hP hD hS => ?_)
            exact ihn.2.1 u5 x2 r5 H locs ls hF hP hD hS (lv_sub hl [0, 2] rfl)
          · have hF := ifn hF c_4
            refine lv_iload_n hx hb d_Tokens_takeAll_43 rfl (lv_at hl 1 rfl) ?_
            refine lv_iconst (v := 1) hx hb d_Tokens_takeAll_44 (by decide) ?_
            refine lv_iadd hx hb d_Tokens_takeAll_45 ?_
            refine lv_goto (tgt := 54) hx hb d_Tokens_takeAll_46 (by decide) ?_
            exact ihn.2.1 σ x2 (x1 + 1) H locs ls hF hP hD hS (lv_sub hl [0, 2] rfl)
    · have hF : tTokens_takeAll_b2 (tTokens_takeAll_L n) σ x1 x2 = some σ' := hF
      unfold tTokens_takeAll_b2 at hF
      refine lv_istore_n (lv' := [(1, .int x2), (0, .ref (ad 2)), (2, .int x1)]) hx hb d_Tokens_takeAll_54 rfl hl (by decide) rfl (fun ls hl => ?_)
      refine lv_iinc (v := (x1 + 1)) (lv' := [(2, .int (x1 + 1)), (1, .int x2), (0, .ref (ad 2))]) hx hb d_Tokens_takeAll_55 hl (k := 2) rfl rfl (by decide) rfl (fun ls hl => ?_)
      refine lv_goto (tgt := 14) hx hb d_Tokens_takeAll_58 (by decide) ?_
      exact ihn.1 σ x2 (x1 + 1) H locs ls hF hP hD hS (lv_sub hl [2, 1, 0] rfl)
    · have hF : tTokens_takeAll_b3 (tTokens_takeAll_L n) σ x1 x2 = some σ' := hF
      unfold tTokens_takeAll_b3 at hF
      refine lv_aload_n hx hb d_Tokens_takeAll_61 rfl (lv_at hl 0 rfl) ?_
      refine va_get (D := (dC, dI)) (ci := 2) (v := .int (σ.1 5)) hx hb hts i_Tokens hown hK hP 2 rfl rfl 6 (by decide) (hts _ tw_89) (fun _ h9 => h9) rfl d_Tokens_takeAll_62 ?_
      refine lv_if_lt (tgt := 80) hx hb d_Tokens_takeAll_65 (by decide) (fun c_6 => ?_) (fun c_6 => ?_)
      · have hF := ifp hF c_6
        cases hF
        exact leafV X hP hD hS d_Tokens_takeAll_80
      · have hF := ifn hF c_6
        refine lv_aload_n hx hb d_Tokens_takeAll_68 rfl (lv_at hl 0 rfl) ?_
        refine va_get (D := (dC, dI)) (ci := 2) (v := .ref (ad 1)) hx hb hts i_Tokens hown hK hP 2 rfl rfl 1 (by decide) (hts _ tw_94) (fun _ h9 => h9) rfl d_Tokens_takeAll_69 ?_
        refine lv_iconst (v := 2) hx hb d_Tokens_takeAll_72 (by decide) ?_
        refine lv_aload_n hx hb d_Tokens_takeAll_73 rfl (lv_at hl 0 rfl) ?_
        refine va_get (D := (dC, dI)) (ci := 2) (v := .int (σ.1 5)) hx hb hts i_Tokens hown hK hP 2 rfl rfl 6 (by decide) (hts _ tw_89) (fun _ h9 => h9) rfl d_Tokens_takeAll_74 ?_
        obtain ⟨u7, h7, hF⟩ := b1E hF
        refine callVV (As := [.int 2, .int (σ.1 5)]) X (ct_Refusal_refuse l dC dI ad cA H.size h7) lk_Tokens_50 ⟨rfl, rfl, by decide, by decide⟩ 1 rfl rfl hP hD hS hl.1 rfl rfl (Nat.le_of_ble_eq_true rfl) d_Tokens_takeAll_77 (fun H locs hP hD hS => ?_)
        cases hF
        exact leafV X hP hD hS d_Tokens_takeAll_80
set_option maxHeartbeats 4000000 in
set_option maxRecDepth 100000 in
theorem ct_Tokens_takeAll (l : Launch) (dC : Nat → ClassId) (dI : Nat → Nat → Nat) (ad : Nat → Nat) (cA : Nat → ClassId) (sz : Nat) {σ : St} {σ' : St} (hF : tTokens_takeAll σ = some σ') : MV l y_Tokens_takeAll b_Tokens_takeAll 3 none { frames := 8, cells := 0, slots := 0, locals := 176 } (dC, dI) (ttys cA) ad (tcw ad cA) [.ref (ad 2)] σ sz σ' := by
  refine startM (own := "TinyForge$Tokens") (Qc := fun A => QV (dC, dI) (ttys cA) (tcw ad cA) A σ') rfl rfl (Nat.le_of_ble_eq_true rfl) ?_
  intro p e s m below meth c A H locs ls X hP hD hS hl
  have hl : lv_has ls 3 [(0, .ref (ad 2))] := hl
  obtain ⟨hx, hb, hr, hml, hown, hlocks, hts, hA, hK, hZ⟩ := id X
  unfold tTokens_takeAll at hF
  refine lv_aload_n hx hb d_Tokens_takeAll_0 rfl (lv_at hl 0 rfl) ?_
  refine lv_iconst (v := 0) hx hb d_Tokens_takeAll_1 (by decide) ?_
  refine va_put (D := (dC, dI)) (ci := 2) (v := .int 0) (ty := .int) hx hb hts i_Tokens t_Tokens t_Tokens_ok n_Tokens hown hK hP hD hS 2 rfl rfl 5 (by decide) (hts _ tw_83) (fun _ h9 => h9) rfl (by decide +kernel) rfl rfl (Nat.le_of_ble_eq_true rfl) d_Tokens_takeAll_2 (fun H locs hP hD hS => ?_)
  have hP : va_P (dC, dI) vwCl (tcw ad cA (sI σ 4 0)) H := hP
  have hD : va_D A (tcw ad cA (sI σ 4 0)) := hD
  refine lv_aload_n hx hb d_Tokens_takeAll_5 rfl (lv_at hl 0 rfl) ?_
  refine lv_iconst (v := (-1)) hx hb d_Tokens_takeAll_6 (by decide) ?_
  refine va_put (D := (dC, dI)) (ci := 2) (v := .int (-1)) (ty := .int) hx hb hts i_Tokens t_Tokens t_Tokens_ok n_Tokens hown hK hP hD hS 2 rfl rfl 6 (by decide) (hts _ tw_89) (fun _ h9 => h9) rfl (by decide +kernel) rfl rfl (Nat.le_of_ble_eq_true rfl) d_Tokens_takeAll_7 (fun H locs hP hD hS => ?_)
  have hP : va_P (dC, dI) vwCl (tcw ad cA (sI (sI σ 4 0) 5 (-1))) H := hP
  have hD : va_D A (tcw ad cA (sI (sI σ 4 0) 5 (-1))) := hD
  refine lv_iconst (v := 0) hx hb d_Tokens_takeAll_10 (by decide) ?_
  refine lv_istore_n (lv' := [(1, .int 0), (0, .ref (ad 2))]) hx hb d_Tokens_takeAll_11 rfl hl (by decide) rfl (fun ls hl => ?_)
  refine lv_iconst (v := 0) hx hb d_Tokens_takeAll_12 (by decide) ?_
  refine lv_istore_n (lv' := [(2, .int 0), (1, .int 0), (0, .ref (ad 2))]) hx hb d_Tokens_takeAll_13 rfl hl (by decide) rfl (fun ls hl => ?_)
  exact (tTokens_takeAll_blk l dC dI ad cA X 2000).1 (sI (sI σ 4 0) 5 (-1)) 0 0 H locs ls hF hP hD hS (lv_sub hl [2, 1, 0] rfl)
