theorem d_Tokens_kindOf_0 : decode b_Tokens_kindOf 0 = .ok (.iload_n 1, 1) := by decide +kernel
theorem d_Tokens_kindOf_1 : decode b_Tokens_kindOf 1 = .ok (.ifCond .lt 20, 3) := by decide +kernel
theorem d_Tokens_kindOf_4 : decode b_Tokens_kindOf 4 = .ok (.iload_n 1, 1) := by decide +kernel
theorem d_Tokens_kindOf_5 : decode b_Tokens_kindOf 5 = .ok (.aload_n 0, 1) := by decide +kernel
theorem d_Tokens_kindOf_6 : decode b_Tokens_kindOf 6 = .ok (.getfield 22, 3) := by decide +kernel
theorem d_Tokens_kindOf_9 : decode b_Tokens_kindOf 9 = .ok (.if_icmp .ge 12, 3) := by decide +kernel
theorem d_Tokens_kindOf_12 : decode b_Tokens_kindOf 12 = .ok (.aload_n 0, 1) := by decide +kernel
theorem d_Tokens_kindOf_13 : decode b_Tokens_kindOf 13 = .ok (.getfield 9, 3) := by decide +kernel
theorem d_Tokens_kindOf_16 : decode b_Tokens_kindOf 16 = .ok (.iload_n 1, 1) := by decide +kernel
theorem d_Tokens_kindOf_17 : decode b_Tokens_kindOf 17 = .ok (.iaload, 1) := by decide +kernel
theorem d_Tokens_kindOf_18 : decode b_Tokens_kindOf 18 = .ok (.goto 4, 3) := by decide +kernel
theorem d_Tokens_kindOf_21 : decode b_Tokens_kindOf 21 = .ok (.iconst 0, 1) := by decide +kernel
theorem d_Tokens_kindOf_22 : decode b_Tokens_kindOf 22 = .ok (.ireturn, 1) := by decide +kernel
def tTokens_kindOf (σ : St) (a1 : Int32) : Option (Int32) := if a1 < 0 then some 0 else if (σ.1 4) ≤ a1 then some 0 else gd (inB a1 220) (some ((σ.2.2.1 1) a1.toNatClampNeg))
set_option maxHeartbeats 4000000 in
set_option maxRecDepth 100000 in
theorem ct_Tokens_kindOf (l : Launch) (dC : Nat → ClassId) (dI : Nat → Nat → Nat) (ad : Nat → Nat) (cA : Nat → ClassId) (sz : Nat) {σ : St} {a1 : Int32} {r : Int32} (hF : tTokens_kindOf σ a1 = some r) : MI l y_Tokens_kindOf b_Tokens_kindOf 2 (some .int) { frames := 0, cells := 0, slots := 0, locals := 0 } (dC, dI) (ttys cA) ad (tcw ad cA) [.ref (ad 2), .int a1] σ sz r σ := by
  refine startM (own := "TinyForge$Tokens") (Qc := fun A => QI (dC, dI) (ttys cA) (tcw ad cA) A r σ) rfl rfl (Nat.le_of_ble_eq_true rfl) ?_
  intro p e s m below meth c A H locs ls X hP hD hS hl
  have hl : lv_has ls 2 [(0, .ref (ad 2)), (1, .int a1)] := hl
  obtain ⟨hx, hb, hr, hml, hown, hlocks, hts, hA, hK, hZ⟩ := id X
  unfold tTokens_kindOf at hF
  refine lv_iload_n hx hb d_Tokens_kindOf_0 rfl (lv_at hl 1 rfl) ?_
  refine lv_if_lt (tgt := 21) hx hb d_Tokens_kindOf_1 (by decide) (fun c_1 => ?_) (fun c_1 => ?_)
  · have hF := ifp hF c_1
    refine lv_iconst (v := 0) hx hb d_Tokens_kindOf_21 (by decide) ?_
    cases hF
    exact leafI X hP hD hS d_Tokens_kindOf_22
  · have hF := ifn hF c_1
    refine lv_iload_n hx hb d_Tokens_kindOf_4 rfl (lv_at hl 1 rfl) ?_
    refine lv_aload_n hx hb d_Tokens_kindOf_5 rfl (lv_at hl 0 rfl) ?_
    refine va_get (D := (dC, dI)) (ci := 2) (v := .int (σ.1 4)) hx hb hts i_Tokens hown hK hP 2 rfl rfl 5 (by decide) (hts _ w_3591416eac) (fun _ h9 => h9) rfl d_Tokens_kindOf_6 ?_
    refine lv_icmp_ge (tgt := 21) hx hb d_Tokens_kindOf_9 (by decide) (fun c_2 => ?_) (fun c_2 => ?_)
    · have hF := ifp hF c_2
      refine lv_iconst (v := 0) hx hb d_Tokens_kindOf_21 (by decide) ?_
      cases hF
      exact leafI X hP hD hS d_Tokens_kindOf_22
    · have hF := ifn hF c_2
      refine lv_aload_n hx hb d_Tokens_kindOf_12 rfl (lv_at hl 0 rfl) ?_
      refine va_get (D := (dC, dI)) (ci := 2) (v := .ref (ad 13)) hx hb hts i_Tokens hown hK hP 2 rfl rfl 2 (by decide) (hts _ w_9546412e86) (fun _ h9 => h9) rfl d_Tokens_kindOf_13 ?_
      refine lv_iload_n hx hb d_Tokens_kindOf_16 rfl (lv_at hl 1 rfl) ?_
      obtain ⟨g_3, hF⟩ := gdE hF
      refine va_iald (f := (σ.2.2.1 1)) hx hb hK hP 13 0 rfl rfl (inE g_3) d_Tokens_kindOf_17 ?_
      refine lv_goto (tgt := 22) hx hb d_Tokens_kindOf_18 (by decide) ?_
      cases hF
      exact leafI X hP hD hS d_Tokens_kindOf_22
theorem d_Tokens_valueOf_0 : decode b_Tokens_valueOf 0 = .ok (.iload_n 1, 1) := by decide +kernel
theorem d_Tokens_valueOf_1 : decode b_Tokens_valueOf 1 = .ok (.ifCond .lt 20, 3) := by decide +kernel
theorem d_Tokens_valueOf_4 : decode b_Tokens_valueOf 4 = .ok (.iload_n 1, 1) := by decide +kernel
theorem d_Tokens_valueOf_5 : decode b_Tokens_valueOf 5 = .ok (.aload_n 0, 1) := by decide +kernel
theorem d_Tokens_valueOf_6 : decode b_Tokens_valueOf 6 = .ok (.getfield 22, 3) := by decide +kernel
theorem d_Tokens_valueOf_9 : decode b_Tokens_valueOf 9 = .ok (.if_icmp .ge 12, 3) := by decide +kernel
theorem d_Tokens_valueOf_12 : decode b_Tokens_valueOf 12 = .ok (.aload_n 0, 1) := by decide +kernel
theorem d_Tokens_valueOf_13 : decode b_Tokens_valueOf 13 = .ok (.getfield 18, 3) := by decide +kernel
theorem d_Tokens_valueOf_16 : decode b_Tokens_valueOf 16 = .ok (.iload_n 1, 1) := by decide +kernel
theorem d_Tokens_valueOf_17 : decode b_Tokens_valueOf 17 = .ok (.laload, 1) := by decide +kernel
theorem d_Tokens_valueOf_18 : decode b_Tokens_valueOf 18 = .ok (.goto 4, 3) := by decide +kernel
theorem d_Tokens_valueOf_21 : decode b_Tokens_valueOf 21 = .ok (.lconst 0, 1) := by decide +kernel
theorem d_Tokens_valueOf_22 : decode b_Tokens_valueOf 22 = .ok (.lreturn, 1) := by decide +kernel
def tTokens_valueOf (σ : St) (a1 : Int32) : Option (Int64) := if a1 < 0 then some 0 else if (σ.1 4) ≤ a1 then some 0 else gd (inB a1 220) (some ((σ.2.2.2 0) a1.toNatClampNeg))
set_option maxHeartbeats 4000000 in
set_option maxRecDepth 100000 in
theorem ct_Tokens_valueOf (l : Launch) (dC : Nat → ClassId) (dI : Nat → Nat → Nat) (ad : Nat → Nat) (cA : Nat → ClassId) (sz : Nat) {σ : St} {a1 : Int32} {r : Int64} (hF : tTokens_valueOf σ a1 = some r) : MJ l y_Tokens_valueOf b_Tokens_valueOf 2 (some .long) { frames := 0, cells := 0, slots := 0, locals := 0 } (dC, dI) (ttys cA) ad (tcw ad cA) [.ref (ad 2), .int a1] σ sz r σ := by
  refine startM (own := "TinyForge$Tokens") (Qc := fun A => QJ (dC, dI) (ttys cA) (tcw ad cA) A r σ) rfl rfl (Nat.le_of_ble_eq_true rfl) ?_
  intro p e s m below meth c A H locs ls X hP hD hS hl
  have hl : lv_has ls 2 [(0, .ref (ad 2)), (1, .int a1)] := hl
  obtain ⟨hx, hb, hr, hml, hown, hlocks, hts, hA, hK, hZ⟩ := id X
  unfold tTokens_valueOf at hF
  refine lv_iload_n hx hb d_Tokens_valueOf_0 rfl (lv_at hl 1 rfl) ?_
  refine lv_if_lt (tgt := 21) hx hb d_Tokens_valueOf_1 (by decide) (fun c_1 => ?_) (fun c_1 => ?_)
  · have hF := ifp hF c_1
    refine lv_lconst (v := 0) hx hb d_Tokens_valueOf_21 (by decide) ?_
    cases hF
    exact leafJ X hP hD hS d_Tokens_valueOf_22
  · have hF := ifn hF c_1
    refine lv_iload_n hx hb d_Tokens_valueOf_4 rfl (lv_at hl 1 rfl) ?_
    refine lv_aload_n hx hb d_Tokens_valueOf_5 rfl (lv_at hl 0 rfl) ?_
    refine va_get (D := (dC, dI)) (ci := 2) (v := .int (σ.1 4)) hx hb hts i_Tokens hown hK hP 2 rfl rfl 5 (by decide) (hts _ w_3591416eac) (fun _ h9 => h9) rfl d_Tokens_valueOf_6 ?_
    refine lv_icmp_ge (tgt := 21) hx hb d_Tokens_valueOf_9 (by decide) (fun c_2 => ?_) (fun c_2 => ?_)
    · have hF := ifp hF c_2
      refine lv_lconst (v := 0) hx hb d_Tokens_valueOf_21 (by decide) ?_
      cases hF
      exact leafJ X hP hD hS d_Tokens_valueOf_22
    · have hF := ifn hF c_2
      refine lv_aload_n hx hb d_Tokens_valueOf_12 rfl (lv_at hl 0 rfl) ?_
      refine va_get (D := (dC, dI)) (ci := 2) (v := .ref (ad 15)) hx hb hts i_Tokens hown hK hP 2 rfl rfl 4 (by decide) (hts _ w_cd436aabcb) (fun _ h9 => h9) rfl d_Tokens_valueOf_13 ?_
      refine lv_iload_n hx hb d_Tokens_valueOf_16 rfl (lv_at hl 1 rfl) ?_
      obtain ⟨g_3, hF⟩ := gdE hF
      refine va_lald (f := (σ.2.2.2 0)) hx hb hK hP 15 1 rfl rfl (inE g_3) d_Tokens_valueOf_17 ?_
      refine lv_goto (tgt := 22) hx hb d_Tokens_valueOf_18 (by decide) ?_
      cases hF
      exact leafJ X hP hD hS d_Tokens_valueOf_22
theorem d_Tokens_placeOf_0 : decode b_Tokens_placeOf 0 = .ok (.iload_n 1, 1) := by decide +kernel
theorem d_Tokens_placeOf_1 : decode b_Tokens_placeOf 1 = .ok (.ifCond .lt 20, 3) := by decide +kernel
theorem d_Tokens_placeOf_4 : decode b_Tokens_placeOf 4 = .ok (.iload_n 1, 1) := by decide +kernel
theorem d_Tokens_placeOf_5 : decode b_Tokens_placeOf 5 = .ok (.aload_n 0, 1) := by decide +kernel
theorem d_Tokens_placeOf_6 : decode b_Tokens_placeOf 6 = .ok (.getfield 22, 3) := by decide +kernel
theorem d_Tokens_placeOf_9 : decode b_Tokens_placeOf 9 = .ok (.if_icmp .ge 12, 3) := by decide +kernel
theorem d_Tokens_placeOf_12 : decode b_Tokens_placeOf 12 = .ok (.aload_n 0, 1) := by decide +kernel
theorem d_Tokens_placeOf_13 : decode b_Tokens_placeOf 13 = .ok (.getfield 15, 3) := by decide +kernel
theorem d_Tokens_placeOf_16 : decode b_Tokens_placeOf 16 = .ok (.iload_n 1, 1) := by decide +kernel
theorem d_Tokens_placeOf_17 : decode b_Tokens_placeOf 17 = .ok (.iaload, 1) := by decide +kernel
theorem d_Tokens_placeOf_18 : decode b_Tokens_placeOf 18 = .ok (.goto 10, 3) := by decide +kernel
theorem d_Tokens_placeOf_21 : decode b_Tokens_placeOf 21 = .ok (.aload_n 0, 1) := by decide +kernel
theorem d_Tokens_placeOf_22 : decode b_Tokens_placeOf 22 = .ok (.getfield 29, 3) := by decide +kernel
theorem d_Tokens_placeOf_25 : decode b_Tokens_placeOf 25 = .ok (.getfield 37, 3) := by decide +kernel
theorem d_Tokens_placeOf_28 : decode b_Tokens_placeOf 28 = .ok (.ireturn, 1) := by decide +kernel
def tTokens_placeOf (σ : St) (a1 : Int32) : Option (Int32) := if a1 < 0 then some (σ.1 0) else if (σ.1 4) ≤ a1 then some (σ.1 0) else gd (inB a1 220) (some ((σ.2.2.1 2) a1.toNatClampNeg))
set_option maxHeartbeats 4000000 in
set_option maxRecDepth 100000 in
theorem ct_Tokens_placeOf (l : Launch) (dC : Nat → ClassId) (dI : Nat → Nat → Nat) (ad : Nat → Nat) (cA : Nat → ClassId) (sz : Nat) {σ : St} {a1 : Int32} {r : Int32} (hF : tTokens_placeOf σ a1 = some r) : MI l y_Tokens_placeOf b_Tokens_placeOf 2 (some .int) { frames := 0, cells := 0, slots := 0, locals := 0 } (dC, dI) (ttys cA) ad (tcw ad cA) [.ref (ad 2), .int a1] σ sz r σ := by
  refine startM (own := "TinyForge$Tokens") (Qc := fun A => QI (dC, dI) (ttys cA) (tcw ad cA) A r σ) rfl rfl (Nat.le_of_ble_eq_true rfl) ?_
  intro p e s m below meth c A H locs ls X hP hD hS hl
  have hl : lv_has ls 2 [(0, .ref (ad 2)), (1, .int a1)] := hl
  obtain ⟨hx, hb, hr, hml, hown, hlocks, hts, hA, hK, hZ⟩ := id X
  unfold tTokens_placeOf at hF
  refine lv_iload_n hx hb d_Tokens_placeOf_0 rfl (lv_at hl 1 rfl) ?_
  refine lv_if_lt (tgt := 21) hx hb d_Tokens_placeOf_1 (by decide) (fun c_1 => ?_) (fun c_1 => ?_)
  · have hF := ifp hF c_1
    refine lv_aload_n hx hb d_Tokens_placeOf_21 rfl (lv_at hl 0 rfl) ?_
    refine va_get (D := (dC, dI)) (ci := 2) (v := .ref (ad 0)) hx hb hts i_Tokens hown hK hP 2 rfl rfl 0 (by decide) (hts _ w_c5b1da8661) (fun _ h9 => h9) rfl d_Tokens_placeOf_22 ?_
    refine va_get (D := (dC, dI)) (ci := 0) (v := .int (σ.1 0)) hx hb hts i_Text hown hK hP 0 rfl rfl 1 (by decide) (hts _ w_56434b2ee8) (fun _ h9 => h9) rfl d_Tokens_placeOf_25 ?_
    cases hF
    exact leafI X hP hD hS d_Tokens_placeOf_28
  · have hF := ifn hF c_1
    refine lv_iload_n hx hb d_Tokens_placeOf_4 rfl (lv_at hl 1 rfl) ?_
    refine lv_aload_n hx hb d_Tokens_placeOf_5 rfl (lv_at hl 0 rfl) ?_
    refine va_get (D := (dC, dI)) (ci := 2) (v := .int (σ.1 4)) hx hb hts i_Tokens hown hK hP 2 rfl rfl 5 (by decide) (hts _ w_3591416eac) (fun _ h9 => h9) rfl d_Tokens_placeOf_6 ?_
    refine lv_icmp_ge (tgt := 21) hx hb d_Tokens_placeOf_9 (by decide) (fun c_2 => ?_) (fun c_2 => ?_)
    · have hF := ifp hF c_2
      refine lv_aload_n hx hb d_Tokens_placeOf_21 rfl (lv_at hl 0 rfl) ?_
      refine va_get (D := (dC, dI)) (ci := 2) (v := .ref (ad 0)) hx hb hts i_Tokens hown hK hP 2 rfl rfl 0 (by decide) (hts _ w_c5b1da8661) (fun _ h9 => h9) rfl d_Tokens_placeOf_22 ?_
      refine va_get (D := (dC, dI)) (ci := 0) (v := .int (σ.1 0)) hx hb hts i_Text hown hK hP 0 rfl rfl 1 (by decide) (hts _ w_56434b2ee8) (fun _ h9 => h9) rfl d_Tokens_placeOf_25 ?_
      cases hF
      exact leafI X hP hD hS d_Tokens_placeOf_28
    · have hF := ifn hF c_2
      refine lv_aload_n hx hb d_Tokens_placeOf_12 rfl (lv_at hl 0 rfl) ?_
      refine va_get (D := (dC, dI)) (ci := 2) (v := .ref (ad 14)) hx hb hts i_Tokens hown hK hP 2 rfl rfl 3 (by decide) (hts _ w_0dda90fb48) (fun _ h9 => h9) rfl d_Tokens_placeOf_13 ?_
      refine lv_iload_n hx hb d_Tokens_placeOf_16 rfl (lv_at hl 1 rfl) ?_
      obtain ⟨g_3, hF⟩ := gdE hF
      refine va_iald (f := (σ.2.2.1 2)) hx hb hK hP 14 0 rfl rfl (inE g_3) d_Tokens_placeOf_17 ?_
      refine lv_goto (tgt := 28) hx hb d_Tokens_placeOf_18 (by decide) ?_
      cases hF
      exact leafI X hP hD hS d_Tokens_placeOf_28
theorem d_Tokens_add_0 : decode b_Tokens_add 0 = .ok (.aload_n 0, 1) := by decide +kernel
theorem d_Tokens_add_1 : decode b_Tokens_add 1 = .ok (.getfield 22, 3) := by decide +kernel
theorem d_Tokens_add_4 : decode b_Tokens_add 4 = .ok (.sipush 220, 3) := by decide +kernel
theorem d_Tokens_add_7 : decode b_Tokens_add 7 = .ok (.if_icmp .ge 46, 3) := by decide +kernel
theorem d_Tokens_add_10 : decode b_Tokens_add 10 = .ok (.aload_n 0, 1) := by decide +kernel
theorem d_Tokens_add_11 : decode b_Tokens_add 11 = .ok (.getfield 9, 3) := by decide +kernel
theorem d_Tokens_add_14 : decode b_Tokens_add 14 = .ok (.aload_n 0, 1) := by decide +kernel
theorem d_Tokens_add_15 : decode b_Tokens_add 15 = .ok (.getfield 22, 3) := by decide +kernel
theorem d_Tokens_add_18 : decode b_Tokens_add 18 = .ok (.iload_n 1, 1) := by decide +kernel
theorem d_Tokens_add_19 : decode b_Tokens_add 19 = .ok (.iastore, 1) := by decide +kernel
theorem d_Tokens_add_20 : decode b_Tokens_add 20 = .ok (.aload_n 0, 1) := by decide +kernel
theorem d_Tokens_add_21 : decode b_Tokens_add 21 = .ok (.getfield 15, 3) := by decide +kernel
theorem d_Tokens_add_24 : decode b_Tokens_add 24 = .ok (.aload_n 0, 1) := by decide +kernel
theorem d_Tokens_add_25 : decode b_Tokens_add 25 = .ok (.getfield 22, 3) := by decide +kernel
theorem d_Tokens_add_28 : decode b_Tokens_add 28 = .ok (.iload_n 2, 1) := by decide +kernel
theorem d_Tokens_add_29 : decode b_Tokens_add 29 = .ok (.iastore, 1) := by decide +kernel
theorem d_Tokens_add_30 : decode b_Tokens_add 30 = .ok (.aload_n 0, 1) := by decide +kernel
theorem d_Tokens_add_31 : decode b_Tokens_add 31 = .ok (.getfield 18, 3) := by decide +kernel
theorem d_Tokens_add_34 : decode b_Tokens_add 34 = .ok (.aload_n 0, 1) := by decide +kernel
theorem d_Tokens_add_35 : decode b_Tokens_add 35 = .ok (.getfield 22, 3) := by decide +kernel
theorem d_Tokens_add_38 : decode b_Tokens_add 38 = .ok (.lload_n 3, 1) := by decide +kernel
theorem d_Tokens_add_39 : decode b_Tokens_add 39 = .ok (.lastore, 1) := by decide +kernel
theorem d_Tokens_add_40 : decode b_Tokens_add 40 = .ok (.aload_n 0, 1) := by decide +kernel
theorem d_Tokens_add_41 : decode b_Tokens_add 41 = .ok (.dup, 1) := by decide +kernel
theorem d_Tokens_add_42 : decode b_Tokens_add 42 = .ok (.getfield 22, 3) := by decide +kernel
theorem d_Tokens_add_45 : decode b_Tokens_add 45 = .ok (.iconst 1, 1) := by decide +kernel
theorem d_Tokens_add_46 : decode b_Tokens_add 46 = .ok (.iadd, 1) := by decide +kernel
theorem d_Tokens_add_47 : decode b_Tokens_add 47 = .ok (.putfield 22, 3) := by decide +kernel
theorem d_Tokens_add_50 : decode b_Tokens_add 50 = .ok (.goto 15, 3) := by decide +kernel
theorem d_Tokens_add_53 : decode b_Tokens_add 53 = .ok (.aload_n 0, 1) := by decide +kernel
theorem d_Tokens_add_54 : decode b_Tokens_add 54 = .ok (.getfield 26, 3) := by decide +kernel
theorem d_Tokens_add_57 : decode b_Tokens_add 57 = .ok (.ifCond .ge 8, 3) := by decide +kernel
theorem d_Tokens_add_60 : decode b_Tokens_add 60 = .ok (.aload_n 0, 1) := by decide +kernel
theorem d_Tokens_add_61 : decode b_Tokens_add 61 = .ok (.iload_n 2, 1) := by decide +kernel
theorem d_Tokens_add_62 : decode b_Tokens_add 62 = .ok (.putfield 26, 3) := by decide +kernel
theorem d_Tokens_add_65 : decode b_Tokens_add 65 = .ok (.return_, 1) := by decide +kernel
def tTokens_add (σ : St) (a1 : Int32) (a2 : Int32) (a3 : Int64) : Option (St) := if (220 : Int32) ≤ (σ.1 4) then if (0 : Int32) ≤ (σ.1 5) then some σ else some (sI σ 5 a2) else gd (inB (σ.1 4) 220) (gd (inB (σ.1 4) 220) (gd (inB (σ.1 4) 220) (some (sI (sL (sA (sA σ 1 (upd (σ.2.2.1 1) (σ.1 4).toNatClampNeg a1)) 2 (upd (σ.2.2.1 2) (σ.1 4).toNatClampNeg a2)) 0 (vp_updL (σ.2.2.2 0) (σ.1 4).toNatClampNeg a3)) 4 ((σ.1 4) + 1)))))
set_option maxHeartbeats 4000000 in
set_option maxRecDepth 100000 in
theorem ct_Tokens_add (l : Launch) (dC : Nat → ClassId) (dI : Nat → Nat → Nat) (ad : Nat → Nat) (cA : Nat → ClassId) (sz : Nat) {σ : St} {a1 : Int32} {a2 : Int32} {a3 : Int64} {σ' : St} (hF : tTokens_add σ a1 a2 a3 = some σ') : MV l y_Tokens_add b_Tokens_add 5 none { frames := 0, cells := 0, slots := 0, locals := 0 } (dC, dI) (ttys cA) ad (tcw ad cA) [.ref (ad 2), .int a1, .int a2, .long a3] σ sz σ' := by
  refine startM (own := "TinyForge$Tokens") (Qc := fun A => QV (dC, dI) (ttys cA) (tcw ad cA) A σ') rfl rfl (Nat.le_of_ble_eq_true rfl) ?_
  intro p e s m below meth c A H locs ls X hP hD hS hl
  have hl : lv_has ls 5 [(0, .ref (ad 2)), (1, .int a1), (2, .int a2), (3, .long a3)] := hl
  obtain ⟨hx, hb, hr, hml, hown, hlocks, hts, hA, hK, hZ⟩ := id X
  unfold tTokens_add at hF
  refine lv_aload_n hx hb d_Tokens_add_0 rfl (lv_at hl 0 rfl) ?_
  refine va_get (D := (dC, dI)) (ci := 2) (v := .int (σ.1 4)) hx hb hts i_Tokens hown hK hP 2 rfl rfl 5 (by decide) (hts _ w_3591416eac) (fun _ h9 => h9) rfl d_Tokens_add_1 ?_
  refine lv_sipush (v := 220) hx hb d_Tokens_add_4 (by decide) ?_
  refine lv_icmp_ge (tgt := 53) hx hb d_Tokens_add_7 (by decide) (fun c_1 => ?_) (fun c_1 => ?_)
  · have hF := ifp hF c_1
    refine lv_aload_n hx hb d_Tokens_add_53 rfl (lv_at hl 0 rfl) ?_
    refine va_get (D := (dC, dI)) (ci := 2) (v := .int (σ.1 5)) hx hb hts i_Tokens hown hK hP 2 rfl rfl 6 (by decide) (hts _ w_62a2c989b2) (fun _ h9 => h9) rfl d_Tokens_add_54 ?_
    refine lv_if_ge (tgt := 65) hx hb d_Tokens_add_57 (by decide) (fun c_2 => ?_) (fun c_2 => ?_)
    · have hF := ifp hF c_2
      cases hF
      exact leafV X hP hD hS d_Tokens_add_65
    · have hF := ifn hF c_2
      refine lv_aload_n hx hb d_Tokens_add_60 rfl (lv_at hl 0 rfl) ?_
      refine lv_iload_n hx hb d_Tokens_add_61 rfl (lv_at hl 2 rfl) ?_
      refine va_put (D := (dC, dI)) (ci := 2) (v := .int a2) (ty := .int) hx hb hts i_Tokens t_Tokens t_Tokens_ok n_Tokens hown hK hP hD hS 2 rfl rfl 6 (by decide) (hts _ w_62a2c989b2) (fun _ h9 => h9) rfl (by decide +kernel) rfl rfl (Nat.le_of_ble_eq_true rfl) d_Tokens_add_62 (fun H locs hP hD hS => ?_)
      have hP : va_P (dC, dI) vwCl (tcw ad cA (sI σ 5 a2)) H := hP
      have hD : va_D A (tcw ad cA (sI σ 5 a2)) := hD
      cases hF
      exact leafV X hP hD hS d_Tokens_add_65
  · have hF := ifn hF c_1
    refine lv_aload_n hx hb d_Tokens_add_10 rfl (lv_at hl 0 rfl) ?_
    refine va_get (D := (dC, dI)) (ci := 2) (v := .ref (ad 13)) hx hb hts i_Tokens hown hK hP 2 rfl rfl 2 (by decide) (hts _ w_9546412e86) (fun _ h9 => h9) rfl d_Tokens_add_11 ?_
    refine lv_aload_n hx hb d_Tokens_add_14 rfl (lv_at hl 0 rfl) ?_
    refine va_get (D := (dC, dI)) (ci := 2) (v := .int (σ.1 4)) hx hb hts i_Tokens hown hK hP 2 rfl rfl 5 (by decide) (hts _ w_3591416eac) (fun _ h9 => h9) rfl d_Tokens_add_15 ?_
    refine lv_iload_n hx hb d_Tokens_add_18 rfl (lv_at hl 1 rfl) ?_
    obtain ⟨g_3, hF⟩ := gdE hF
    refine va_iast (f := (σ.2.2.1 1)) hx hb hK hP hD hS 13 0 rfl rfl (inE g_3) d_Tokens_add_19 (fun H locs hP hD hS => ?_)
    have hP : va_P (dC, dI) vwCl (tcw ad cA (sA σ 1 (upd (σ.2.2.1 1) (σ.1 4).toNatClampNeg a1))) H := hP
    have hD : va_D A (tcw ad cA (sA σ 1 (upd (σ.2.2.1 1) (σ.1 4).toNatClampNeg a1))) := hD
    refine lv_aload_n hx hb d_Tokens_add_20 rfl (lv_at hl 0 rfl) ?_
    refine va_get (D := (dC, dI)) (ci := 2) (v := .ref (ad 14)) hx hb hts i_Tokens hown hK hP 2 rfl rfl 3 (by decide) (hts _ w_0dda90fb48) (fun _ h9 => h9) rfl d_Tokens_add_21 ?_
    refine lv_aload_n hx hb d_Tokens_add_24 rfl (lv_at hl 0 rfl) ?_
    refine va_get (D := (dC, dI)) (ci := 2) (v := .int (σ.1 4)) hx hb hts i_Tokens hown hK hP 2 rfl rfl 5 (by decide) (hts _ w_3591416eac) (fun _ h9 => h9) rfl d_Tokens_add_25 ?_
    refine lv_iload_n hx hb d_Tokens_add_28 rfl (lv_at hl 2 rfl) ?_
    obtain ⟨g_4, hF⟩ := gdE hF
    refine va_iast (f := (σ.2.2.1 2)) hx hb hK hP hD hS 14 0 rfl rfl (inE g_4) d_Tokens_add_29 (fun H locs hP hD hS => ?_)
    have hP : va_P (dC, dI) vwCl (tcw ad cA (sA (sA σ 1 (upd (σ.2.2.1 1) (σ.1 4).toNatClampNeg a1)) 2 (upd (σ.2.2.1 2) (σ.1 4).toNatClampNeg a2))) H := hP
    have hD : va_D A (tcw ad cA (sA (sA σ 1 (upd (σ.2.2.1 1) (σ.1 4).toNatClampNeg a1)) 2 (upd (σ.2.2.1 2) (σ.1 4).toNatClampNeg a2))) := hD
    refine lv_aload_n hx hb d_Tokens_add_30 rfl (lv_at hl 0 rfl) ?_
    refine va_get (D := (dC, dI)) (ci := 2) (v := .ref (ad 15)) hx hb hts i_Tokens hown hK hP 2 rfl rfl 4 (by decide) (hts _ w_cd436aabcb) (fun _ h9 => h9) rfl d_Tokens_add_31 ?_
    refine lv_aload_n hx hb d_Tokens_add_34 rfl (lv_at hl 0 rfl) ?_
    refine va_get (D := (dC, dI)) (ci := 2) (v := .int (σ.1 4)) hx hb hts i_Tokens hown hK hP 2 rfl rfl 5 (by decide) (hts _ w_3591416eac) (fun _ h9 => h9) rfl d_Tokens_add_35 ?_
    refine lv_lload_n hx hb d_Tokens_add_38 rfl (lv_at hl 3 rfl) ?_
    obtain ⟨g_5, hF⟩ := gdE hF
    refine va_last (f := (σ.2.2.2 0)) hx hb hK hP hD hS 15 1 rfl rfl (inE g_5) d_Tokens_add_39 (fun H locs hP hD hS => ?_)
    have hP : va_P (dC, dI) vwCl (tcw ad cA (sL (sA (sA σ 1 (upd (σ.2.2.1 1) (σ.1 4).toNatClampNeg a1)) 2 (upd (σ.2.2.1 2) (σ.1 4).toNatClampNeg a2)) 0 (vp_updL (σ.2.2.2 0) (σ.1 4).toNatClampNeg a3))) H := hP
    have hD : va_D A (tcw ad cA (sL (sA (sA σ 1 (upd (σ.2.2.1 1) (σ.1 4).toNatClampNeg a1)) 2 (upd (σ.2.2.1 2) (σ.1 4).toNatClampNeg a2)) 0 (vp_updL (σ.2.2.2 0) (σ.1 4).toNatClampNeg a3))) := hD
    refine lv_aload_n hx hb d_Tokens_add_40 rfl (lv_at hl 0 rfl) ?_
    refine lv_dup hx hb d_Tokens_add_41 rfl ?_
    refine va_get (D := (dC, dI)) (ci := 2) (v := .int (σ.1 4)) hx hb hts i_Tokens hown hK hP 2 rfl rfl 5 (by decide) (hts _ w_3591416eac) (fun _ h9 => h9) rfl d_Tokens_add_42 ?_
    refine lv_iconst (v := 1) hx hb d_Tokens_add_45 (by decide) ?_
    refine lv_iadd hx hb d_Tokens_add_46 ?_
    refine va_put (D := (dC, dI)) (ci := 2) (v := .int ((σ.1 4) + 1)) (ty := .int) hx hb hts i_Tokens t_Tokens t_Tokens_ok n_Tokens hown hK hP hD hS 2 rfl rfl 5 (by decide) (hts _ w_3591416eac) (fun _ h9 => h9) rfl (by decide +kernel) rfl rfl (Nat.le_of_ble_eq_true rfl) d_Tokens_add_47 (fun H locs hP hD hS => ?_)
    have hP : va_P (dC, dI) vwCl (tcw ad cA (sI (sL (sA (sA σ 1 (upd (σ.2.2.1 1) (σ.1 4).toNatClampNeg a1)) 2 (upd (σ.2.2.1 2) (σ.1 4).toNatClampNeg a2)) 0 (vp_updL (σ.2.2.2 0) (σ.1 4).toNatClampNeg a3)) 4 ((σ.1 4) + 1))) H := hP
    have hD : va_D A (tcw ad cA (sI (sL (sA (sA σ 1 (upd (σ.2.2.1 1) (σ.1 4).toNatClampNeg a1)) 2 (upd (σ.2.2.1 2) (σ.1 4).toNatClampNeg a2)) 0 (vp_updL (σ.2.2.2 0) (σ.1 4).toNatClampNeg a3)) 4 ((σ.1 4) + 1))) := hD
    refine lv_goto (tgt := 65) hx hb d_Tokens_add_50 (by decide) ?_
    cases hF
    exact leafV X hP hD hS d_Tokens_add_65
theorem d_Tokens_takeNumber_0 : decode b_Tokens_takeNumber 0 = .ok (.lconst 0, 1) := by decide +kernel
theorem d_Tokens_takeNumber_1 : decode b_Tokens_takeNumber 1 = .ok (.lstore_n 2, 1) := by decide +kernel
theorem d_Tokens_takeNumber_2 : decode b_Tokens_takeNumber 2 = .ok (.iload_n 1, 1) := by decide +kernel
theorem d_Tokens_takeNumber_3 : decode b_Tokens_takeNumber 3 = .ok (.istore 4, 2) := by decide +kernel
theorem d_Tokens_takeNumber_5 : decode b_Tokens_takeNumber 5 = .ok (.iload 4, 2) := by decide +kernel
theorem d_Tokens_takeNumber_7 : decode b_Tokens_takeNumber 7 = .ok (.aload_n 0, 1) := by decide +kernel
theorem d_Tokens_takeNumber_8 : decode b_Tokens_takeNumber 8 = .ok (.getfield 29, 3) := by decide +kernel
theorem d_Tokens_takeNumber_11 : decode b_Tokens_takeNumber 11 = .ok (.getfield 37, 3) := by decide +kernel
theorem d_Tokens_takeNumber_14 : decode b_Tokens_takeNumber 14 = .ok (.if_icmp .ge 49, 3) := by decide +kernel
theorem d_Tokens_takeNumber_17 : decode b_Tokens_takeNumber 17 = .ok (.aload_n 0, 1) := by decide +kernel
theorem d_Tokens_takeNumber_18 : decode b_Tokens_takeNumber 18 = .ok (.getfield 29, 3) := by decide +kernel
theorem d_Tokens_takeNumber_21 : decode b_Tokens_takeNumber 21 = .ok (.iload 4, 2) := by decide +kernel
theorem d_Tokens_takeNumber_23 : decode b_Tokens_takeNumber 23 = .ok (.invokevirtual 62, 3) := by decide +kernel
theorem d_Tokens_takeNumber_26 : decode b_Tokens_takeNumber 26 = .ok (.ifCond .eq 37, 3) := by decide +kernel
theorem d_Tokens_takeNumber_29 : decode b_Tokens_takeNumber 29 = .ok (.lload_n 2, 1) := by decide +kernel
theorem d_Tokens_takeNumber_30 : decode b_Tokens_takeNumber 30 = .ok (.ldc2_w 101, 3) := by decide +kernel
theorem d_Tokens_takeNumber_33 : decode b_Tokens_takeNumber 33 = .ok (.lcmp, 1) := by decide +kernel
theorem d_Tokens_takeNumber_34 : decode b_Tokens_takeNumber 34 = .ok (.ifCond .gt 23, 3) := by decide +kernel
theorem d_Tokens_takeNumber_37 : decode b_Tokens_takeNumber 37 = .ok (.lload_n 2, 1) := by decide +kernel
theorem d_Tokens_takeNumber_38 : decode b_Tokens_takeNumber 38 = .ok (.ldc2_w 103, 3) := by decide +kernel
theorem d_Tokens_takeNumber_41 : decode b_Tokens_takeNumber 41 = .ok (.lmul, 1) := by decide +kernel
theorem d_Tokens_takeNumber_42 : decode b_Tokens_takeNumber 42 = .ok (.aload_n 0, 1) := by decide +kernel
theorem d_Tokens_takeNumber_43 : decode b_Tokens_takeNumber 43 = .ok (.getfield 29, 3) := by decide +kernel
theorem d_Tokens_takeNumber_46 : decode b_Tokens_takeNumber 46 = .ok (.iload 4, 2) := by decide +kernel
theorem d_Tokens_takeNumber_48 : decode b_Tokens_takeNumber 48 = .ok (.invokevirtual 71, 3) := by decide +kernel
theorem d_Tokens_takeNumber_51 : decode b_Tokens_takeNumber 51 = .ok (.bipush 48, 2) := by decide +kernel
theorem d_Tokens_takeNumber_53 : decode b_Tokens_takeNumber 53 = .ok (.isub, 1) := by decide +kernel
theorem d_Tokens_takeNumber_54 : decode b_Tokens_takeNumber 54 = .ok (.i2l, 1) := by decide +kernel
theorem d_Tokens_takeNumber_55 : decode b_Tokens_takeNumber 55 = .ok (.ladd, 1) := by decide +kernel
theorem d_Tokens_takeNumber_56 : decode b_Tokens_takeNumber 56 = .ok (.lstore_n 2, 1) := by decide +kernel
theorem d_Tokens_takeNumber_57 : decode b_Tokens_takeNumber 57 = .ok (.iinc 4 1, 3) := by decide +kernel
theorem d_Tokens_takeNumber_60 : decode b_Tokens_takeNumber 60 = .ok (.goto (-55), 3) := by decide +kernel
theorem d_Tokens_takeNumber_63 : decode b_Tokens_takeNumber 63 = .ok (.lload_n 2, 1) := by decide +kernel
theorem d_Tokens_takeNumber_64 : decode b_Tokens_takeNumber 64 = .ok (.ldc2_w 101, 3) := by decide +kernel
theorem d_Tokens_takeNumber_67 : decode b_Tokens_takeNumber 67 = .ok (.lcmp, 1) := by decide +kernel
theorem d_Tokens_takeNumber_68 : decode b_Tokens_takeNumber 68 = .ok (.ifCond .gt 15, 3) := by decide +kernel
theorem d_Tokens_takeNumber_71 : decode b_Tokens_takeNumber 71 = .ok (.aload_n 0, 1) := by decide +kernel
theorem d_Tokens_takeNumber_72 : decode b_Tokens_takeNumber 72 = .ok (.getfield 29, 3) := by decide +kernel
theorem d_Tokens_takeNumber_75 : decode b_Tokens_takeNumber 75 = .ok (.iload 4, 2) := by decide +kernel
theorem d_Tokens_takeNumber_77 : decode b_Tokens_takeNumber 77 = .ok (.invokevirtual 56, 3) := by decide +kernel
theorem d_Tokens_takeNumber_80 : decode b_Tokens_takeNumber 80 = .ok (.ifCond .eq 12, 3) := by decide +kernel
theorem d_Tokens_takeNumber_83 : decode b_Tokens_takeNumber 83 = .ok (.aload_n 0, 1) := by decide +kernel
theorem d_Tokens_takeNumber_84 : decode b_Tokens_takeNumber 84 = .ok (.getfield 33, 3) := by decide +kernel
theorem d_Tokens_takeNumber_87 : decode b_Tokens_takeNumber 87 = .ok (.iconst 1, 1) := by decide +kernel
theorem d_Tokens_takeNumber_88 : decode b_Tokens_takeNumber 88 = .ok (.iload_n 1, 1) := by decide +kernel
theorem d_Tokens_takeNumber_89 : decode b_Tokens_takeNumber 89 = .ok (.invokevirtual 50, 3) := by decide +kernel
theorem d_Tokens_takeNumber_92 : decode b_Tokens_takeNumber 92 = .ok (.aload_n 0, 1) := by decide +kernel
theorem d_Tokens_takeNumber_93 : decode b_Tokens_takeNumber 93 = .ok (.iconst 2, 1) := by decide +kernel
theorem d_Tokens_takeNumber_94 : decode b_Tokens_takeNumber 94 = .ok (.iload_n 1, 1) := by decide +kernel
theorem d_Tokens_takeNumber_95 : decode b_Tokens_takeNumber 95 = .ok (.lload_n 2, 1) := by decide +kernel
theorem d_Tokens_takeNumber_96 : decode b_Tokens_takeNumber 96 = .ok (.invokevirtual 79, 3) := by decide +kernel
theorem d_Tokens_takeNumber_99 : decode b_Tokens_takeNumber 99 = .ok (.iload 4, 2) := by decide +kernel
theorem d_Tokens_takeNumber_101 : decode b_Tokens_takeNumber 101 = .ok (.ireturn, 1) := by decide +kernel
def tTokens_takeNumber_b1 (k : Nat → St → Int32 → Int32 → Int64 → Option (Int32 × St)) (σ : St) (x1 : Int32) (x2 : Int32) (y1 : Int64) : Option (Int32 × St) := if (σ.1 0) ≤ x2 then k 3 σ x1 x2 y1 else b1 (tText_isDigit σ x2) (fun r2 => if r2 = 0 then k 3 σ x1 x2 y1 else if (0 : Int32) < (lg_cmp y1 2147483647) then k 2 σ x1 x2 y1 else b1 (tText_at σ x2) (fun r5 => k 2 σ x1 x2 ((y1 * 10) + (((r5 - 48) : Int32).toInt64))))
def tTokens_takeNumber_b2 (k : Nat → St → Int32 → Int32 → Int64 → Option (Int32 × St)) (σ : St) (x1 : Int32) (x2 : Int32) (y1 : Int64) : Option (Int32 × St) := k 1 σ x1 (x2 + 1) y1
def tTokens_takeNumber_b3 (k : Nat → St → Int32 → Int32 → Int64 → Option (Int32 × St)) (σ : St) (x1 : Int32) (x2 : Int32) (y1 : Int64) : Option (Int32 × St) := if (0 : Int32) < (lg_cmp y1 2147483647) then k 4 σ x1 x2 y1 else b1 (tText_isLetter σ x2) (fun r7 => if r7 = 0 then b1 (tTokens_add σ 2 x1 y1) (fun u9 => some (x2, u9)) else k 4 σ x1 x2 y1)
def tTokens_takeNumber_b4 (k : Nat → St → Int32 → Int32 → Int64 → Option (Int32 × St)) (σ : St) (x1 : Int32) (x2 : Int32) (y1 : Int64) : Option (Int32 × St) := b1 (tRefusal_refuse σ 1 x1) (fun u10 => b1 (tTokens_add u10 2 x1 y1) (fun u11 => some (x2, u11)))
def tTokens_takeNumber_L : Nat → Nat → St → Int32 → Int32 → Int64 → Option (Int32 × St)
  | 0, _, _, _, _, _ => none
  | n + 1, lab, σ, x1, x2, y1 => match lab with
    | 1 => tTokens_takeNumber_b1 (tTokens_takeNumber_L n) σ x1 x2 y1
    | 2 => tTokens_takeNumber_b2 (tTokens_takeNumber_L n) σ x1 x2 y1
    | 3 => tTokens_takeNumber_b3 (tTokens_takeNumber_L n) σ x1 x2 y1
    | 4 => tTokens_takeNumber_b4 (tTokens_takeNumber_L n) σ x1 x2 y1
    | _ => none
def tTokens_takeNumber (σ : St) (a1 : Int32) : Option (Int32 × St) := tTokens_takeNumber_L 2000 1 σ a1 a1 0
set_option maxHeartbeats 4000000 in
set_option maxRecDepth 100000 in
theorem tTokens_takeNumber_blk {p : Program} {e : Env} {s : State} {m : MethodId} {args : Array Value} {below : List Frame} {meth : Method} {c : Code} {A : Nat → Prop} (l : Launch) (dC : Nat → ClassId) (dI : Nat → Nat → Nat) (ad : Nat → Nat) (cA : Nat → ClassId) {r : Int32} {σ' : St} (X : Cx p s m args meth c b_Tokens_takeNumber 5 (some .int) "TinyForge$Tokens" (dC, dI) (ttys cA) ad A) : ∀ n : Nat, (∀ (σ : St) (x1 : Int32) (x2 : Int32) (y1 : Int64) (H : Heap) (locs : List Loc) (ls : Array Slot), tTokens_takeNumber_L n 1 σ x1 x2 y1 = some (r, σ') → va_P (dC, dI) vwCl (tcw ad cA σ) H → va_D A (tcw ad cA σ) → va_S A s.heap H locs → lv_has ls 5 [(0, .ref (ad 2)), (1, .int x1), (2, .long y1), (4, .int x2)] → W p l e { frames := 2, cells := 0, slots := 0, locals := 43 } s m args below meth c H locs 0 0 (MQ below (QI (dC, dI) (ttys cA) (tcw ad cA) A r σ') args s 0 0 A) (F0 m 5 ls [])) ∧ (∀ (σ : St) (x1 : Int32) (x2 : Int32) (y1 : Int64) (H : Heap) (locs : List Loc) (ls : Array Slot), tTokens_takeNumber_L n 2 σ x1 x2 y1 = some (r, σ') → va_P (dC, dI) vwCl (tcw ad cA σ) H → va_D A (tcw ad cA σ) → va_S A s.heap H locs → lv_has ls 5 [(0, .ref (ad 2)), (1, .int x1), (2, .long y1), (4, .int x2)] → W p l e { frames := 2, cells := 0, slots := 0, locals := 43 } s m args below meth c H locs 0 0 (MQ below (QI (dC, dI) (ttys cA) (tcw ad cA) A r σ') args s 0 0 A) (F0 m 57 ls [])) ∧ (∀ (σ : St) (x1 : Int32) (x2 : Int32) (y1 : Int64) (H : Heap) (locs : List Loc) (ls : Array Slot), tTokens_takeNumber_L n 3 σ x1 x2 y1 = some (r, σ') → va_P (dC, dI) vwCl (tcw ad cA σ) H → va_D A (tcw ad cA σ) → va_S A s.heap H locs → lv_has ls 5 [(0, .ref (ad 2)), (1, .int x1), (2, .long y1), (4, .int x2)] → W p l e { frames := 2, cells := 0, slots := 0, locals := 43 } s m args below meth c H locs 0 0 (MQ below (QI (dC, dI) (ttys cA) (tcw ad cA) A r σ') args s 0 0 A) (F0 m 63 ls [])) ∧ (∀ (σ : St) (x1 : Int32) (x2 : Int32) (y1 : Int64) (H : Heap) (locs : List Loc) (ls : Array Slot), tTokens_takeNumber_L n 4 σ x1 x2 y1 = some (r, σ') → va_P (dC, dI) vwCl (tcw ad cA σ) H → va_D A (tcw ad cA σ) → va_S A s.heap H locs → lv_has ls 5 [(0, .ref (ad 2)), (1, .int x1), (2, .long y1), (4, .int x2)] → W p l e { frames := 2, cells := 0, slots := 0, locals := 43 } s m args below meth c H locs 0 0 (MQ below (QI (dC, dI) (ttys cA) (tcw ad cA) A r σ') args s 0 0 A) (F0 m 83 ls [])) := by
  obtain ⟨hx, hb, hr, hml, hown, hlocks, hts, hA, hK, hZ⟩ := id X
  intro n
  induction n with
  | zero => exact ⟨(fun σ x1 x2 y1 H locs ls hF => by cases hF), (fun σ x1 x2 y1 H locs ls hF => by cases hF), (fun σ x1 x2 y1 H locs ls hF => by cases hF), (fun σ x1 x2 y1 H locs ls hF => by cases hF)⟩
  | succ n ihn =>
    refine ⟨fun σ x1 x2 y1 H locs ls hF hP hD hS hl => ?_, fun σ x1 x2 y1 H locs ls hF hP hD hS hl => ?_, fun σ x1 x2 y1 H locs ls hF hP hD hS hl => ?_, fun σ x1 x2 y1 H locs ls hF hP hD hS hl => ?_⟩
    · have hF : tTokens_takeNumber_b1 (tTokens_takeNumber_L n) σ x1 x2 y1 = some (r, σ') := hF
      unfold tTokens_takeNumber_b1 at hF
      refine lv_iload hx hb d_Tokens_takeNumber_5 (lv_at hl 3 rfl) ?_
      refine lv_aload_n hx hb d_Tokens_takeNumber_7 rfl (lv_at hl 0 rfl) ?_
      refine va_get (D := (dC, dI)) (ci := 2) (v := .ref (ad 0)) hx hb hts i_Tokens hown hK hP 2 rfl rfl 0 (by decide) (hts _ w_c5b1da8661) (fun _ h9 => h9) rfl d_Tokens_takeNumber_8 ?_
      refine va_get (D := (dC, dI)) (ci := 0) (v := .int (σ.1 0)) hx hb hts i_Text hown hK hP 0 rfl rfl 1 (by decide) (hts _ w_56434b2ee8) (fun _ h9 => h9) rfl d_Tokens_takeNumber_11 ?_
      refine lv_icmp_ge (tgt := 63) hx hb d_Tokens_takeNumber_14 (by decide) (fun c_1 => ?_) (fun c_1 => ?_)
      · have hF := ifp hF c_1
        exact ihn.2.2.1 σ x1 x2 y1 H locs ls hF hP hD hS (lv_sub hl [0, 1, 2, 3] rfl)
      · have hF := ifn hF c_1
        refine lv_aload_n hx hb d_Tokens_takeNumber_17 rfl (lv_at hl 0 rfl) ?_
        refine va_get (D := (dC, dI)) (ci := 2) (v := .ref (ad 0)) hx hb hts i_Tokens hown hK hP 2 rfl rfl 0 (by decide) (hts _ w_c5b1da8661) (fun _ h9 => h9) rfl d_Tokens_takeNumber_18 ?_
        refine lv_iload hx hb d_Tokens_takeNumber_21 (lv_at hl 3 rfl) ?_
        obtain ⟨r2, h2, hF⟩ := b1E hF
        refine callVI (As := [.int x2]) X (ct_Text_isDigit l dC dI ad cA H.size h2) lk_Tokens_62 ⟨rfl, rfl, by decide, by decide⟩ 0 rfl rfl hP hD hS hl.1 rfl rfl (Nat.le_of_ble_eq_true rfl) d_Tokens_takeNumber_23 (fun H locs hP hD hS => ?_)
        refine lv_if_eq (tgt := 63) hx hb d_Tokens_takeNumber_26 (by decide) (fun c_3 => ?_) (fun c_3 => ?_)
        · have hF := ifp hF c_3
          exact ihn.2.2.1 σ x1 x2 y1 H locs ls hF hP hD hS (lv_sub hl [0, 1, 2, 3] rfl)
        · have hF := ifn hF c_3
          refine lv_lload_n hx hb d_Tokens_takeNumber_29 rfl (lv_at hl 2 rfl) ?_
          refine lv_ldc2 (v := 2147483647) hx hb hown (hts _ w_517bed0e06) d_Tokens_takeNumber_30 ?_
          refine W.lcmp hx hb d_Tokens_takeNumber_33 ?_
          refine lv_if_gt (tgt := 57) hx hb d_Tokens_takeNumber_34 (by decide) (fun c_4 => ?_) (fun c_4 => ?_)
          · have hF := ifp hF c_4
            exact ihn.2.1 σ x1 x2 y1 H locs ls hF hP hD hS (lv_sub hl [0, 1, 2, 3] rfl)
          · have hF := ifn hF c_4
            refine lv_lload_n hx hb d_Tokens_takeNumber_37 rfl (lv_at hl 2 rfl) ?_
            refine lv_ldc2 (v := 10) hx hb hown (hts _ w_910ecc103c) d_Tokens_takeNumber_38 ?_
            refine lv_lmul hx hb d_Tokens_takeNumber_41 ?_
            refine lv_aload_n hx hb d_Tokens_takeNumber_42 rfl (lv_at hl 0 rfl) ?_
            refine va_get (D := (dC, dI)) (ci := 2) (v := .ref (ad 0)) hx hb hts i_Tokens hown hK hP 2 rfl rfl 0 (by decide) (hts _ w_c5b1da8661) (fun _ h9 => h9) rfl d_Tokens_takeNumber_43 ?_
            refine lv_iload hx hb d_Tokens_takeNumber_46 (lv_at hl 3 rfl) ?_
            obtain ⟨r5, h5, hF⟩ := b1E hF
            refine callVI (As := [.int x2]) X (ct_Text_at l dC dI ad cA H.size h5) lk_Tokens_71 ⟨rfl, rfl, by decide, by decide⟩ 0 rfl rfl hP hD hS hl.1 rfl rfl (Nat.le_of_ble_eq_true rfl) d_Tokens_takeNumber_48 (fun H locs hP hD hS => ?_)
            refine lv_bipush (v := 48) hx hb d_Tokens_takeNumber_51 (by decide) ?_
            refine lv_isub hx hb d_Tokens_takeNumber_53 ?_
            refine lv_i2l (v := ((r5 - 48) : Int32).toInt64) hx hb d_Tokens_takeNumber_54 rfl ?_
            refine lv_ladd hx hb d_Tokens_takeNumber_55 ?_
            refine lv_lstore_n (lv' := [(2, .long ((y1 * 10) + (((r5 - 48) : Int32).toInt64))), (0, .ref (ad 2)), (1, .int x1), (4, .int x2)]) hx hb d_Tokens_takeNumber_56 rfl hl (by decide) rfl (fun ls hl => ?_)
            exact ihn.2.1 σ x1 x2 ((y1 * 10) + (((r5 - 48) : Int32).toInt64)) H locs ls hF hP hD hS (lv_sub hl [1, 2, 0, 3] rfl)
    · have hF : tTokens_takeNumber_b2 (tTokens_takeNumber_L n) σ x1 x2 y1 = some (r, σ') := hF
      unfold tTokens_takeNumber_b2 at hF
      refine lv_iinc (v := (x2 + 1)) (lv' := [(4, .int (x2 + 1)), (0, .ref (ad 2)), (1, .int x1), (2, .long y1)]) hx hb d_Tokens_takeNumber_57 hl (k := 3) rfl rfl (by decide) rfl (fun ls hl => ?_)
      refine lv_goto (tgt := 5) hx hb d_Tokens_takeNumber_60 (by decide) ?_
      exact ihn.1 σ x1 (x2 + 1) y1 H locs ls hF hP hD hS (lv_sub hl [1, 2, 3, 0] rfl)
    · have hF : tTokens_takeNumber_b3 (tTokens_takeNumber_L n) σ x1 x2 y1 = some (r, σ') := hF
      unfold tTokens_takeNumber_b3 at hF
      refine lv_lload_n hx hb d_Tokens_takeNumber_63 rfl (lv_at hl 2 rfl) ?_
      refine lv_ldc2 (v := 2147483647) hx hb hown (hts _ w_517bed0e06) d_Tokens_takeNumber_64 ?_
      refine W.lcmp hx hb d_Tokens_takeNumber_67 ?_
      refine lv_if_gt (tgt := 83) hx hb d_Tokens_takeNumber_68 (by decide) (fun c_6 => ?_) (fun c_6 => ?_)
      · have hF := ifp hF c_6
        exact ihn.2.2.2 σ x1 x2 y1 H locs ls hF hP hD hS (lv_sub hl [0, 1, 2, 3] rfl)
      · have hF := ifn hF c_6
        refine lv_aload_n hx hb d_Tokens_takeNumber_71 rfl (lv_at hl 0 rfl) ?_
        refine va_get (D := (dC, dI)) (ci := 2) (v := .ref (ad 0)) hx hb hts i_Tokens hown hK hP 2 rfl rfl 0 (by decide) (hts _ w_c5b1da8661) (fun _ h9 => h9) rfl d_Tokens_takeNumber_72 ?_
        refine lv_iload hx hb d_Tokens_takeNumber_75 (lv_at hl 3 rfl) ?_
        obtain ⟨r7, h7, hF⟩ := b1E hF
        refine callVI (As := [.int x2]) X (ct_Text_isLetter l dC dI ad cA H.size h7) lk_Tokens_56 ⟨rfl, rfl, by decide, by decide⟩ 0 rfl rfl hP hD hS hl.1 rfl rfl (Nat.le_of_ble_eq_true rfl) d_Tokens_takeNumber_77 (fun H locs hP hD hS => ?_)
        refine lv_if_eq (tgt := 92) hx hb d_Tokens_takeNumber_80 (by decide) (fun c_8 => ?_) (fun c_8 => ?_)
        · have hF := ifp hF c_8
          refine lv_aload_n hx hb d_Tokens_takeNumber_92 rfl (lv_at hl 0 rfl) ?_
          refine lv_iconst (v := 2) hx hb d_Tokens_takeNumber_93 (by decide) ?_
          refine lv_iload_n hx hb d_Tokens_takeNumber_94 rfl (lv_at hl 1 rfl) ?_
          refine lv_lload_n hx hb d_Tokens_takeNumber_95 rfl (lv_at hl 2 rfl) ?_
          obtain ⟨u9, h9, hF⟩ := b1E hF
          refine callVV (As := [.int 2, .int x1, .long y1]) X (ct_Tokens_add l dC dI ad cA H.size h9) lk_Tokens_79 ⟨rfl, rfl, by decide, by decide⟩ 2 rfl rfl hP hD hS hl.1 rfl rfl (Nat.le_of_ble_eq_true rfl) d_Tokens_takeNumber_96 (fun H locs hP hD hS => ?_)
          refine lv_iload hx hb d_Tokens_takeNumber_99 (lv_at hl 3 rfl) ?_
          cases hF
          exact leafI X hP hD hS d_Tokens_takeNumber_101
        · have hF := ifn hF c_8
          exact ihn.2.2.2 σ x1 x2 y1 H locs ls hF hP hD hS (lv_sub hl [0, 1, 2, 3] rfl)
    · have hF : tTokens_takeNumber_b4 (tTokens_takeNumber_L n) σ x1 x2 y1 = some (r, σ') := hF
      unfold tTokens_takeNumber_b4 at hF
      refine lv_aload_n hx hb d_Tokens_takeNumber_83 rfl (lv_at hl 0 rfl) ?_
      refine va_get (D := (dC, dI)) (ci := 2) (v := .ref (ad 1)) hx hb hts i_Tokens hown hK hP 2 rfl rfl 1 (by decide) (hts _ w_324bcc424f) (fun _ h9 => h9) rfl d_Tokens_takeNumber_84 ?_
      refine lv_iconst (v := 1) hx hb d_Tokens_takeNumber_87 (by decide) ?_
      refine lv_iload_n hx hb d_Tokens_takeNumber_88 rfl (lv_at hl 1 rfl) ?_
      obtain ⟨u10, h10, hF⟩ := b1E hF
      refine callVV (As := [.int 1, .int x1]) X (ct_Refusal_refuse l dC dI ad cA H.size h10) lk_Tokens_50 ⟨rfl, rfl, by decide, by decide⟩ 1 rfl rfl hP hD hS hl.1 rfl rfl (Nat.le_of_ble_eq_true rfl) d_Tokens_takeNumber_89 (fun H locs hP hD hS => ?_)
      refine lv_aload_n hx hb d_Tokens_takeNumber_92 rfl (lv_at hl 0 rfl) ?_
      refine lv_iconst (v := 2) hx hb d_Tokens_takeNumber_93 (by decide) ?_
      refine lv_iload_n hx hb d_Tokens_takeNumber_94 rfl (lv_at hl 1 rfl) ?_
      refine lv_lload_n hx hb d_Tokens_takeNumber_95 rfl (lv_at hl 2 rfl) ?_
      obtain ⟨u11, h11, hF⟩ := b1E hF
      refine callVV (As := [.int 2, .int x1, .long y1]) X (ct_Tokens_add l dC dI ad cA H.size h11) lk_Tokens_79 ⟨rfl, rfl, by decide, by decide⟩ 2 rfl rfl hP hD hS hl.1 rfl rfl (Nat.le_of_ble_eq_true rfl) d_Tokens_takeNumber_96 (fun H locs hP hD hS => ?_)
      refine lv_iload hx hb d_Tokens_takeNumber_99 (lv_at hl 3 rfl) ?_
      cases hF
      exact leafI X hP hD hS d_Tokens_takeNumber_101
set_option maxHeartbeats 4000000 in
set_option maxRecDepth 100000 in
theorem ct_Tokens_takeNumber (l : Launch) (dC : Nat → ClassId) (dI : Nat → Nat → Nat) (ad : Nat → Nat) (cA : Nat → ClassId) (sz : Nat) {σ : St} {a1 : Int32} {r : Int32} {σ' : St} (hF : tTokens_takeNumber σ a1 = some (r, σ')) : MI l y_Tokens_takeNumber b_Tokens_takeNumber 5 (some .int) { frames := 2, cells := 0, slots := 0, locals := 43 } (dC, dI) (ttys cA) ad (tcw ad cA) [.ref (ad 2), .int a1] σ sz r σ' := by
  refine startM (own := "TinyForge$Tokens") (Qc := fun A => QI (dC, dI) (ttys cA) (tcw ad cA) A r σ') rfl rfl (Nat.le_of_ble_eq_true rfl) ?_
  intro p e s m below meth c A H locs ls X hP hD hS hl
  have hl : lv_has ls 5 [(0, .ref (ad 2)), (1, .int a1)] := hl
  obtain ⟨hx, hb, hr, hml, hown, hlocks, hts, hA, hK, hZ⟩ := id X
  unfold tTokens_takeNumber at hF
  refine lv_lconst (v := 0) hx hb d_Tokens_takeNumber_0 (by decide) ?_
  refine lv_lstore_n (lv' := [(2, .long 0), (0, .ref (ad 2)), (1, .int a1)]) hx hb d_Tokens_takeNumber_1 rfl hl (by decide) rfl (fun ls hl => ?_)
  refine lv_iload_n hx hb d_Tokens_takeNumber_2 rfl (lv_at hl 2 rfl) ?_
  refine lv_istore (lv' := [(4, .int a1), (2, .long 0), (0, .ref (ad 2)), (1, .int a1)]) hx hb d_Tokens_takeNumber_3 hl (by decide) rfl (fun ls hl => ?_)
  exact (tTokens_takeNumber_blk l dC dI ad cA X 2000).1 σ a1 a1 0 H locs ls hF hP hD hS (lv_sub hl [2, 3, 1, 0] rfl)
theorem d_Tokens_isDoubleSign_0 : decode b_Tokens_isDoubleSign 0 = .ok (.iload_n 0, 1) := by decide +kernel
theorem d_Tokens_isDoubleSign_1 : decode b_Tokens_isDoubleSign 1 = .ok (.bipush 38, 2) := by decide +kernel
theorem d_Tokens_isDoubleSign_3 : decode b_Tokens_isDoubleSign 3 = .ok (.if_icmp .eq 9, 3) := by decide +kernel
theorem d_Tokens_isDoubleSign_6 : decode b_Tokens_isDoubleSign 6 = .ok (.iload_n 0, 1) := by decide +kernel
theorem d_Tokens_isDoubleSign_7 : decode b_Tokens_isDoubleSign 7 = .ok (.bipush 124, 2) := by decide +kernel
theorem d_Tokens_isDoubleSign_9 : decode b_Tokens_isDoubleSign 9 = .ok (.if_icmp .ne 14, 3) := by decide +kernel
theorem d_Tokens_isDoubleSign_12 : decode b_Tokens_isDoubleSign 12 = .ok (.iload_n 1, 1) := by decide +kernel
theorem d_Tokens_isDoubleSign_13 : decode b_Tokens_isDoubleSign 13 = .ok (.iload_n 0, 1) := by decide +kernel
theorem d_Tokens_isDoubleSign_14 : decode b_Tokens_isDoubleSign 14 = .ok (.if_icmp .ne 7, 3) := by decide +kernel
theorem d_Tokens_isDoubleSign_17 : decode b_Tokens_isDoubleSign 17 = .ok (.iconst 1, 1) := by decide +kernel
theorem d_Tokens_isDoubleSign_18 : decode b_Tokens_isDoubleSign 18 = .ok (.goto 4, 3) := by decide +kernel
theorem d_Tokens_isDoubleSign_21 : decode b_Tokens_isDoubleSign 21 = .ok (.iconst 0, 1) := by decide +kernel
theorem d_Tokens_isDoubleSign_22 : decode b_Tokens_isDoubleSign 22 = .ok (.ireturn, 1) := by decide +kernel
theorem d_Tokens_isDoubleSign_23 : decode b_Tokens_isDoubleSign 23 = .ok (.iload_n 1, 1) := by decide +kernel
theorem d_Tokens_isDoubleSign_24 : decode b_Tokens_isDoubleSign 24 = .ok (.bipush 61, 2) := by decide +kernel
theorem d_Tokens_isDoubleSign_26 : decode b_Tokens_isDoubleSign 26 = .ok (.if_icmp .ne 31, 3) := by decide +kernel
theorem d_Tokens_isDoubleSign_29 : decode b_Tokens_isDoubleSign 29 = .ok (.iload_n 0, 1) := by decide +kernel
theorem d_Tokens_isDoubleSign_30 : decode b_Tokens_isDoubleSign 30 = .ok (.bipush 61, 2) := by decide +kernel
theorem d_Tokens_isDoubleSign_32 : decode b_Tokens_isDoubleSign 32 = .ok (.if_icmp .eq 21, 3) := by decide +kernel
theorem d_Tokens_isDoubleSign_35 : decode b_Tokens_isDoubleSign 35 = .ok (.iload_n 0, 1) := by decide +kernel
theorem d_Tokens_isDoubleSign_36 : decode b_Tokens_isDoubleSign 36 = .ok (.bipush 33, 2) := by decide +kernel
theorem d_Tokens_isDoubleSign_38 : decode b_Tokens_isDoubleSign 38 = .ok (.if_icmp .eq 15, 3) := by decide +kernel
theorem d_Tokens_isDoubleSign_41 : decode b_Tokens_isDoubleSign 41 = .ok (.iload_n 0, 1) := by decide +kernel
theorem d_Tokens_isDoubleSign_42 : decode b_Tokens_isDoubleSign 42 = .ok (.bipush 60, 2) := by decide +kernel
theorem d_Tokens_isDoubleSign_44 : decode b_Tokens_isDoubleSign 44 = .ok (.if_icmp .eq 9, 3) := by decide +kernel
theorem d_Tokens_isDoubleSign_47 : decode b_Tokens_isDoubleSign 47 = .ok (.iload_n 0, 1) := by decide +kernel
theorem d_Tokens_isDoubleSign_48 : decode b_Tokens_isDoubleSign 48 = .ok (.bipush 62, 2) := by decide +kernel
theorem d_Tokens_isDoubleSign_50 : decode b_Tokens_isDoubleSign 50 = .ok (.if_icmp .ne 7, 3) := by decide +kernel
theorem d_Tokens_isDoubleSign_53 : decode b_Tokens_isDoubleSign 53 = .ok (.iconst 1, 1) := by decide +kernel
theorem d_Tokens_isDoubleSign_54 : decode b_Tokens_isDoubleSign 54 = .ok (.goto 4, 3) := by decide +kernel
theorem d_Tokens_isDoubleSign_57 : decode b_Tokens_isDoubleSign 57 = .ok (.iconst 0, 1) := by decide +kernel
theorem d_Tokens_isDoubleSign_58 : decode b_Tokens_isDoubleSign 58 = .ok (.ireturn, 1) := by decide +kernel
def tTokens_isDoubleSign (σ : St) (a1 : Int32) (a2 : Int32) : Option (Int32) := if a1 = 38 then if a2 = a1 then some 1 else some 0 else if a1 = 124 then if a2 = a1 then some 1 else some 0 else if a2 = 61 then if a1 = 61 then some 1 else if a1 = 33 then some 1 else if a1 = 60 then some 1 else if a1 = 62 then some 1 else some 0 else some 0
set_option maxHeartbeats 4000000 in
set_option maxRecDepth 100000 in
theorem ct_Tokens_isDoubleSign (l : Launch) (dC : Nat → ClassId) (dI : Nat → Nat → Nat) (ad : Nat → Nat) (cA : Nat → ClassId) (sz : Nat) {σ : St} {a1 : Int32} {a2 : Int32} {r : Int32} (hF : tTokens_isDoubleSign σ a1 a2 = some r) : MI l y_Tokens_isDoubleSign b_Tokens_isDoubleSign 2 (some .boolean) { frames := 0, cells := 0, slots := 0, locals := 0 } (dC, dI) (ttys cA) ad (tcw ad cA) [.int a1, .int a2] σ sz r σ := by
  refine startM (own := "TinyForge$Tokens") (Qc := fun A => QI (dC, dI) (ttys cA) (tcw ad cA) A r σ) rfl rfl (Nat.le_of_ble_eq_true rfl) ?_
  intro p e s m below meth c A H locs ls X hP hD hS hl
  have hl : lv_has ls 2 [(0, .int a1), (1, .int a2)] := hl
  obtain ⟨hx, hb, hr, hml, hown, hlocks, hts, hA, hK, hZ⟩ := id X
  unfold tTokens_isDoubleSign at hF
  refine lv_iload_n hx hb d_Tokens_isDoubleSign_0 rfl (lv_at hl 0 rfl) ?_
  refine lv_bipush (v := 38) hx hb d_Tokens_isDoubleSign_1 (by decide) ?_
  refine lv_icmp_eq (tgt := 12) hx hb d_Tokens_isDoubleSign_3 (by decide) (fun c_1 => ?_) (fun c_1 => ?_)
  · have hF := ifp hF c_1
    refine lv_iload_n hx hb d_Tokens_isDoubleSign_12 rfl (lv_at hl 1 rfl) ?_
    refine lv_iload_n hx hb d_Tokens_isDoubleSign_13 rfl (lv_at hl 0 rfl) ?_
    refine lv_icmp_ne (tgt := 21) hx hb d_Tokens_isDoubleSign_14 (by decide) (fun c_2 => ?_) (fun c_2 => ?_)
    · have hF := ifn hF c_2
      refine lv_iconst (v := 0) hx hb d_Tokens_isDoubleSign_21 (by decide) ?_
      cases hF
      exact leafZ X hP hD hS (by decide) d_Tokens_isDoubleSign_22
    · have hF := ifp hF c_2
      refine lv_iconst (v := 1) hx hb d_Tokens_isDoubleSign_17 (by decide) ?_
      refine lv_goto (tgt := 22) hx hb d_Tokens_isDoubleSign_18 (by decide) ?_
      cases hF
      exact leafZ X hP hD hS (by decide) d_Tokens_isDoubleSign_22
  · have hF := ifn hF c_1
    refine lv_iload_n hx hb d_Tokens_isDoubleSign_6 rfl (lv_at hl 0 rfl) ?_
    refine lv_bipush (v := 124) hx hb d_Tokens_isDoubleSign_7 (by decide) ?_
    refine lv_icmp_ne (tgt := 23) hx hb d_Tokens_isDoubleSign_9 (by decide) (fun c_3 => ?_) (fun c_3 => ?_)
    · have hF := ifn hF c_3
      refine lv_iload_n hx hb d_Tokens_isDoubleSign_23 rfl (lv_at hl 1 rfl) ?_
      refine lv_bipush (v := 61) hx hb d_Tokens_isDoubleSign_24 (by decide) ?_
      refine lv_icmp_ne (tgt := 57) hx hb d_Tokens_isDoubleSign_26 (by decide) (fun c_4 => ?_) (fun c_4 => ?_)
      · have hF := ifn hF c_4
        refine lv_iconst (v := 0) hx hb d_Tokens_isDoubleSign_57 (by decide) ?_
        cases hF
        exact leafZ X hP hD hS (by decide) d_Tokens_isDoubleSign_58
      · have hF := ifp hF c_4
        refine lv_iload_n hx hb d_Tokens_isDoubleSign_29 rfl (lv_at hl 0 rfl) ?_
        refine lv_bipush (v := 61) hx hb d_Tokens_isDoubleSign_30 (by decide) ?_
        refine lv_icmp_eq (tgt := 53) hx hb d_Tokens_isDoubleSign_32 (by decide) (fun c_5 => ?_) (fun c_5 => ?_)
        · have hF := ifp hF c_5
          refine lv_iconst (v := 1) hx hb d_Tokens_isDoubleSign_53 (by decide) ?_
          refine lv_goto (tgt := 58) hx hb d_Tokens_isDoubleSign_54 (by decide) ?_
          cases hF
          exact leafZ X hP hD hS (by decide) d_Tokens_isDoubleSign_58
        · have hF := ifn hF c_5
          refine lv_iload_n hx hb d_Tokens_isDoubleSign_35 rfl (lv_at hl 0 rfl) ?_
          refine lv_bipush (v := 33) hx hb d_Tokens_isDoubleSign_36 (by decide) ?_
          refine lv_icmp_eq (tgt := 53) hx hb d_Tokens_isDoubleSign_38 (by decide) (fun c_6 => ?_) (fun c_6 => ?_)
          · have hF := ifp hF c_6
            refine lv_iconst (v := 1) hx hb d_Tokens_isDoubleSign_53 (by decide) ?_
            refine lv_goto (tgt := 58) hx hb d_Tokens_isDoubleSign_54 (by decide) ?_
            cases hF
            exact leafZ X hP hD hS (by decide) d_Tokens_isDoubleSign_58
          · have hF := ifn hF c_6
            refine lv_iload_n hx hb d_Tokens_isDoubleSign_41 rfl (lv_at hl 0 rfl) ?_
            refine lv_bipush (v := 60) hx hb d_Tokens_isDoubleSign_42 (by decide) ?_
            refine lv_icmp_eq (tgt := 53) hx hb d_Tokens_isDoubleSign_44 (by decide) (fun c_7 => ?_) (fun c_7 => ?_)
            · have hF := ifp hF c_7
              refine lv_iconst (v := 1) hx hb d_Tokens_isDoubleSign_53 (by decide) ?_
              refine lv_goto (tgt := 58) hx hb d_Tokens_isDoubleSign_54 (by decide) ?_
              cases hF
              exact leafZ X hP hD hS (by decide) d_Tokens_isDoubleSign_58
            · have hF := ifn hF c_7
              refine lv_iload_n hx hb d_Tokens_isDoubleSign_47 rfl (lv_at hl 0 rfl) ?_
              refine lv_bipush (v := 62) hx hb d_Tokens_isDoubleSign_48 (by decide) ?_
              refine lv_icmp_ne (tgt := 57) hx hb d_Tokens_isDoubleSign_50 (by decide) (fun c_8 => ?_) (fun c_8 => ?_)
              · have hF := ifn hF c_8
                refine lv_iconst (v := 0) hx hb d_Tokens_isDoubleSign_57 (by decide) ?_
                cases hF
                exact leafZ X hP hD hS (by decide) d_Tokens_isDoubleSign_58
              · have hF := ifp hF c_8
                refine lv_iconst (v := 1) hx hb d_Tokens_isDoubleSign_53 (by decide) ?_
                refine lv_goto (tgt := 58) hx hb d_Tokens_isDoubleSign_54 (by decide) ?_
                cases hF
                exact leafZ X hP hD hS (by decide) d_Tokens_isDoubleSign_58
    · have hF := ifp hF c_3
      refine lv_iload_n hx hb d_Tokens_isDoubleSign_12 rfl (lv_at hl 1 rfl) ?_
      refine lv_iload_n hx hb d_Tokens_isDoubleSign_13 rfl (lv_at hl 0 rfl) ?_
      refine lv_icmp_ne (tgt := 21) hx hb d_Tokens_isDoubleSign_14 (by decide) (fun c_9 => ?_) (fun c_9 => ?_)
      · have hF := ifn hF c_9
        refine lv_iconst (v := 0) hx hb d_Tokens_isDoubleSign_21 (by decide) ?_
        cases hF
        exact leafZ X hP hD hS (by decide) d_Tokens_isDoubleSign_22
      · have hF := ifp hF c_9
        refine lv_iconst (v := 1) hx hb d_Tokens_isDoubleSign_17 (by decide) ?_
        refine lv_goto (tgt := 22) hx hb d_Tokens_isDoubleSign_18 (by decide) ?_
        cases hF
        exact leafZ X hP hD hS (by decide) d_Tokens_isDoubleSign_22
theorem d_Tokens_takeSign_0 : decode b_Tokens_takeSign 0 = .ok (.aload_n 0, 1) := by decide +kernel
theorem d_Tokens_takeSign_1 : decode b_Tokens_takeSign 1 = .ok (.getfield 29, 3) := by decide +kernel
theorem d_Tokens_takeSign_4 : decode b_Tokens_takeSign 4 = .ok (.iload_n 1, 1) := by decide +kernel
theorem d_Tokens_takeSign_5 : decode b_Tokens_takeSign 5 = .ok (.invokevirtual 71, 3) := by decide +kernel
theorem d_Tokens_takeSign_8 : decode b_Tokens_takeSign 8 = .ok (.istore_n 2, 1) := by decide +kernel
theorem d_Tokens_takeSign_9 : decode b_Tokens_takeSign 9 = .ok (.iload_n 2, 1) := by decide +kernel
theorem d_Tokens_takeSign_10 : decode b_Tokens_takeSign 10 = .ok (.aload_n 0, 1) := by decide +kernel
theorem d_Tokens_takeSign_11 : decode b_Tokens_takeSign 11 = .ok (.getfield 29, 3) := by decide +kernel
theorem d_Tokens_takeSign_14 : decode b_Tokens_takeSign 14 = .ok (.iload_n 1, 1) := by decide +kernel
theorem d_Tokens_takeSign_15 : decode b_Tokens_takeSign 15 = .ok (.iconst 1, 1) := by decide +kernel
theorem d_Tokens_takeSign_16 : decode b_Tokens_takeSign 16 = .ok (.iadd, 1) := by decide +kernel
theorem d_Tokens_takeSign_17 : decode b_Tokens_takeSign 17 = .ok (.invokevirtual 71, 3) := by decide +kernel
theorem d_Tokens_takeSign_20 : decode b_Tokens_takeSign 20 = .ok (.invokestatic 105, 3) := by decide +kernel
theorem d_Tokens_takeSign_23 : decode b_Tokens_takeSign 23 = .ok (.ifCond .eq 18, 3) := by decide +kernel
theorem d_Tokens_takeSign_26 : decode b_Tokens_takeSign 26 = .ok (.aload_n 0, 1) := by decide +kernel
theorem d_Tokens_takeSign_27 : decode b_Tokens_takeSign 27 = .ok (.sipush 256, 3) := by decide +kernel
theorem d_Tokens_takeSign_30 : decode b_Tokens_takeSign 30 = .ok (.iload_n 2, 1) := by decide +kernel
theorem d_Tokens_takeSign_31 : decode b_Tokens_takeSign 31 = .ok (.iadd, 1) := by decide +kernel
theorem d_Tokens_takeSign_32 : decode b_Tokens_takeSign 32 = .ok (.iload_n 1, 1) := by decide +kernel
theorem d_Tokens_takeSign_33 : decode b_Tokens_takeSign 33 = .ok (.lconst 0, 1) := by decide +kernel
theorem d_Tokens_takeSign_34 : decode b_Tokens_takeSign 34 = .ok (.invokevirtual 79, 3) := by decide +kernel
theorem d_Tokens_takeSign_37 : decode b_Tokens_takeSign 37 = .ok (.iload_n 1, 1) := by decide +kernel
theorem d_Tokens_takeSign_38 : decode b_Tokens_takeSign 38 = .ok (.iconst 2, 1) := by decide +kernel
theorem d_Tokens_takeSign_39 : decode b_Tokens_takeSign 39 = .ok (.iadd, 1) := by decide +kernel
theorem d_Tokens_takeSign_40 : decode b_Tokens_takeSign 40 = .ok (.ireturn, 1) := by decide +kernel
theorem d_Tokens_takeSign_41 : decode b_Tokens_takeSign 41 = .ok (.ldc 109, 2) := by decide +kernel
theorem d_Tokens_takeSign_43 : decode b_Tokens_takeSign 43 = .ok (.iload_n 2, 1) := by decide +kernel
theorem d_Tokens_takeSign_44 : decode b_Tokens_takeSign 44 = .ok (.invokevirtual 111, 3) := by decide +kernel
theorem d_Tokens_takeSign_47 : decode b_Tokens_takeSign 47 = .ok (.ifCond .ge 12, 3) := by decide +kernel
theorem d_Tokens_takeSign_50 : decode b_Tokens_takeSign 50 = .ok (.aload_n 0, 1) := by decide +kernel
theorem d_Tokens_takeSign_51 : decode b_Tokens_takeSign 51 = .ok (.getfield 33, 3) := by decide +kernel
theorem d_Tokens_takeSign_54 : decode b_Tokens_takeSign 54 = .ok (.iconst 1, 1) := by decide +kernel
theorem d_Tokens_takeSign_55 : decode b_Tokens_takeSign 55 = .ok (.iload_n 1, 1) := by decide +kernel
theorem d_Tokens_takeSign_56 : decode b_Tokens_takeSign 56 = .ok (.invokevirtual 50, 3) := by decide +kernel
theorem d_Tokens_takeSign_59 : decode b_Tokens_takeSign 59 = .ok (.aload_n 0, 1) := by decide +kernel
theorem d_Tokens_takeSign_60 : decode b_Tokens_takeSign 60 = .ok (.iload_n 2, 1) := by decide +kernel
theorem d_Tokens_takeSign_61 : decode b_Tokens_takeSign 61 = .ok (.iload_n 1, 1) := by decide +kernel
theorem d_Tokens_takeSign_62 : decode b_Tokens_takeSign 62 = .ok (.lconst 0, 1) := by decide +kernel
theorem d_Tokens_takeSign_63 : decode b_Tokens_takeSign 63 = .ok (.invokevirtual 79, 3) := by decide +kernel
theorem d_Tokens_takeSign_66 : decode b_Tokens_takeSign 66 = .ok (.iload_n 1, 1) := by decide +kernel
theorem d_Tokens_takeSign_67 : decode b_Tokens_takeSign 67 = .ok (.iconst 1, 1) := by decide +kernel
theorem d_Tokens_takeSign_68 : decode b_Tokens_takeSign 68 = .ok (.iadd, 1) := by decide +kernel
theorem d_Tokens_takeSign_69 : decode b_Tokens_takeSign 69 = .ok (.ireturn, 1) := by decide +kernel
def tTokens_takeSign_b1 (k : Nat → St → Int32 → Int32 → Option (Int32 × St)) (σ : St) (x1 : Int32) (x2 : Int32) : Option (Int32 × St) := b1 (tTokens_add σ x2 x1 0) (fun u9 => some ((x1 + 1), u9))
def tTokens_takeSign_L : Nat → Nat → St → Int32 → Int32 → Option (Int32 × St)
  | 0, _, _, _, _ => none
  | n + 1, lab, σ, x1, x2 => match lab with
    | 1 => tTokens_takeSign_b1 (tTokens_takeSign_L n) σ x1 x2
    | _ => none
def tTokens_takeSign (σ : St) (a1 : Int32) : Option (Int32 × St) := b1 (tText_at σ a1) (fun r1 => b1 (tText_at σ (a1 + 1)) (fun r2 => b1 (tTokens_isDoubleSign σ r1 r2) (fun r3 => if r3 = 0 then b1 (tString_indexOf_0 σ 7 r1) (fun r5 => if (0 : Int32) ≤ r5 then tTokens_takeSign_L 2000 1 σ a1 r1 else b1 (tRefusal_refuse σ 1 a1) (fun u7 => tTokens_takeSign_L 2000 1 u7 a1 r1)) else b1 (tTokens_add σ (256 + r1) a1 0) (fun u8 => some ((a1 + 2), u8)))))
set_option maxHeartbeats 4000000 in
set_option maxRecDepth 100000 in
theorem tTokens_takeSign_blk {p : Program} {e : Env} {s : State} {m : MethodId} {args : Array Value} {below : List Frame} {meth : Method} {c : Code} {A : Nat → Prop} (l : Launch) (dC : Nat → ClassId) (dI : Nat → Nat → Nat) (ad : Nat → Nat) (cA : Nat → ClassId) {r : Int32} {σ' : St} (X : Cx p s m args meth c b_Tokens_takeSign 3 (some .int) "TinyForge$Tokens" (dC, dI) (ttys cA) ad A) : ∀ n : Nat, (∀ (σ : St) (x1 : Int32) (x2 : Int32) (H : Heap) (locs : List Loc) (ls : Array Slot), tTokens_takeSign_L n 1 σ x1 x2 = some (r, σ') → va_P (dC, dI) vwCl (tcw ad cA σ) H → va_D A (tcw ad cA σ) → va_S A s.heap H locs → lv_has ls 3 [(0, .ref (ad 2)), (1, .int x1), (2, .int x2)] → W p l e { frames := 5, cells := 0, slots := 0, locals := 121 } s m args below meth c H locs 0 0 (MQ below (QI (dC, dI) (ttys cA) (tcw ad cA) A r σ') args s 0 0 A) (F0 m 59 ls [])) := by
  obtain ⟨hx, hb, hr, hml, hown, hlocks, hts, hA, hK, hZ⟩ := id X
  intro n
  induction n with
  | zero => exact (fun σ x1 x2 H locs ls hF => by cases hF)
  | succ n ihn =>
    refine fun σ x1 x2 H locs ls hF hP hD hS hl => ?_
    · have hF : tTokens_takeSign_b1 (tTokens_takeSign_L n) σ x1 x2 = some (r, σ') := hF
      unfold tTokens_takeSign_b1 at hF
      refine lv_aload_n hx hb d_Tokens_takeSign_59 rfl (lv_at hl 0 rfl) ?_
      refine lv_iload_n hx hb d_Tokens_takeSign_60 rfl (lv_at hl 2 rfl) ?_
      refine lv_iload_n hx hb d_Tokens_takeSign_61 rfl (lv_at hl 1 rfl) ?_
      refine lv_lconst (v := 0) hx hb d_Tokens_takeSign_62 (by decide) ?_
      obtain ⟨u9, h9, hF⟩ := b1E hF
      refine callVV (As := [.int x2, .int x1, .long 0]) X (ct_Tokens_add l dC dI ad cA H.size h9) lk_Tokens_79 ⟨rfl, rfl, by decide, by decide⟩ 2 rfl rfl hP hD hS hl.1 rfl rfl (Nat.le_of_ble_eq_true rfl) d_Tokens_takeSign_63 (fun H locs hP hD hS => ?_)
      refine lv_iload_n hx hb d_Tokens_takeSign_66 rfl (lv_at hl 1 rfl) ?_
      refine lv_iconst (v := 1) hx hb d_Tokens_takeSign_67 (by decide) ?_
      refine lv_iadd hx hb d_Tokens_takeSign_68 ?_
      cases hF
      exact leafI X hP hD hS d_Tokens_takeSign_69
set_option maxHeartbeats 4000000 in
set_option maxRecDepth 100000 in
theorem ct_Tokens_takeSign (l : Launch) (dC : Nat → ClassId) (dI : Nat → Nat → Nat) (ad : Nat → Nat) (cA : Nat → ClassId) (sz : Nat) {σ : St} {a1 : Int32} {r : Int32} {σ' : St} (hF : tTokens_takeSign σ a1 = some (r, σ')) : MI l y_Tokens_takeSign b_Tokens_takeSign 3 (some .int) { frames := 5, cells := 0, slots := 0, locals := 121 } (dC, dI) (ttys cA) ad (tcw ad cA) [.ref (ad 2), .int a1] σ sz r σ' := by
  refine startM (own := "TinyForge$Tokens") (Qc := fun A => QI (dC, dI) (ttys cA) (tcw ad cA) A r σ') rfl rfl (Nat.le_of_ble_eq_true rfl) ?_
  intro p e s m below meth c A H locs ls X hP hD hS hl
  have hl : lv_has ls 3 [(0, .ref (ad 2)), (1, .int a1)] := hl
  obtain ⟨hx, hb, hr, hml, hown, hlocks, hts, hA, hK, hZ⟩ := id X
  unfold tTokens_takeSign at hF
  refine lv_aload_n hx hb d_Tokens_takeSign_0 rfl (lv_at hl 0 rfl) ?_
  refine va_get (D := (dC, dI)) (ci := 2) (v := .ref (ad 0)) hx hb hts i_Tokens hown hK hP 2 rfl rfl 0 (by decide) (hts _ w_c5b1da8661) (fun _ h9 => h9) rfl d_Tokens_takeSign_1 ?_
  refine lv_iload_n hx hb d_Tokens_takeSign_4 rfl (lv_at hl 1 rfl) ?_
  obtain ⟨r1, h1, hF⟩ := b1E hF
  refine callVI (As := [.int a1]) X (ct_Text_at l dC dI ad cA H.size h1) lk_Tokens_71 ⟨rfl, rfl, by decide, by decide⟩ 0 rfl rfl hP hD hS hl.1 rfl rfl (Nat.le_of_ble_eq_true rfl) d_Tokens_takeSign_5 (fun H locs hP hD hS => ?_)
  refine lv_istore_n (lv' := [(2, .int r1), (0, .ref (ad 2)), (1, .int a1)]) hx hb d_Tokens_takeSign_8 rfl hl (by decide) rfl (fun ls hl => ?_)
  refine lv_iload_n hx hb d_Tokens_takeSign_9 rfl (lv_at hl 0 rfl) ?_
  refine lv_aload_n hx hb d_Tokens_takeSign_10 rfl (lv_at hl 1 rfl) ?_
  refine va_get (D := (dC, dI)) (ci := 2) (v := .ref (ad 0)) hx hb hts i_Tokens hown hK hP 2 rfl rfl 0 (by decide) (hts _ w_c5b1da8661) (fun _ h9 => h9) rfl d_Tokens_takeSign_11 ?_
  refine lv_iload_n hx hb d_Tokens_takeSign_14 rfl (lv_at hl 2 rfl) ?_
  refine lv_iconst (v := 1) hx hb d_Tokens_takeSign_15 (by decide) ?_
  refine lv_iadd hx hb d_Tokens_takeSign_16 ?_
  obtain ⟨r2, h2, hF⟩ := b1E hF
  refine callVI (As := [.int (a1 + 1)]) X (ct_Text_at l dC dI ad cA H.size h2) lk_Tokens_71 ⟨rfl, rfl, by decide, by decide⟩ 0 rfl rfl hP hD hS hl.1 rfl rfl (Nat.le_of_ble_eq_true rfl) d_Tokens_takeSign_17 (fun H locs hP hD hS => ?_)
  obtain ⟨r3, h3, hF⟩ := b1E hF
  refine callSI (As := [.int r1, .int r2]) X (ct_Tokens_isDoubleSign l dC dI ad cA H.size h3) lk_Tokens_105 ⟨rfl, rfl, by decide, by decide⟩ hP hD hS hl.1 rfl rfl (Nat.le_of_ble_eq_true rfl) d_Tokens_takeSign_20 (fun H locs hP hD hS => ?_)
  refine lv_if_eq (tgt := 41) hx hb d_Tokens_takeSign_23 (by decide) (fun c_4 => ?_) (fun c_4 => ?_)
  · have hF := ifp hF c_4
    refine va_ldcS (own := "TinyForge$Tokens") (index := 109) (tx := "+-*/%!~<>=(){}[],;") (q := ad (100 + 7)) hx hb hown (hZ.2.1 7 ("TinyForge$Tokens", 109, "+-*/%!~<>=(){}[],;", [43, 45, 42, 47, 37, 33, 126, 60, 62, 61, 40, 41, 123, 125, 91, 93, 44, 59]) rfl) d_Tokens_takeSign_41 ?_
    refine lv_iload_n hx hb d_Tokens_takeSign_43 rfl (lv_at hl 0 rfl) ?_
    obtain ⟨r5, h5, hF⟩ := b1E hF
    refine callZI (As := [.int r1]) X (ct_String_indexOf_0 l dC dI ad cA H.size h5) lk_Tokens_111 ⟨rfl, rfl, by decide, by decide⟩ (by decide) hP hD hS hl.1 rfl rfl (Nat.le_of_ble_eq_true rfl) d_Tokens_takeSign_44 (fun H locs hP hD hS => ?_)
    refine lv_if_ge (tgt := 59) hx hb d_Tokens_takeSign_47 (by decide) (fun c_6 => ?_) (fun c_6 => ?_)
    · have hF := ifp hF c_6
      exact (tTokens_takeSign_blk l dC dI ad cA X 2000) σ a1 r1 H locs ls hF hP hD hS (lv_sub hl [1, 2, 0] rfl)
    · have hF := ifn hF c_6
      refine lv_aload_n hx hb d_Tokens_takeSign_50 rfl (lv_at hl 1 rfl) ?_
      refine va_get (D := (dC, dI)) (ci := 2) (v := .ref (ad 1)) hx hb hts i_Tokens hown hK hP 2 rfl rfl 1 (by decide) (hts _ w_324bcc424f) (fun _ h9 => h9) rfl d_Tokens_takeSign_51 ?_
      refine lv_iconst (v := 1) hx hb d_Tokens_takeSign_54 (by decide) ?_
      refine lv_iload_n hx hb d_Tokens_takeSign_55 rfl (lv_at hl 2 rfl) ?_
      obtain ⟨u7, h7, hF⟩ := b1E hF
      refine callVV (As := [.int 1, .int a1]) X (ct_Refusal_refuse l dC dI ad cA H.size h7) lk_Tokens_50 ⟨rfl, rfl, by decide, by decide⟩ 1 rfl rfl hP hD hS hl.1 rfl rfl (Nat.le_of_ble_eq_true rfl) d_Tokens_takeSign_56 (fun H locs hP hD hS => ?_)
      exact (tTokens_takeSign_blk l dC dI ad cA X 2000) u7 a1 r1 H locs ls hF hP hD hS (lv_sub hl [1, 2, 0] rfl)
  · have hF := ifn hF c_4
    refine lv_aload_n hx hb d_Tokens_takeSign_26 rfl (lv_at hl 1 rfl) ?_
    refine lv_sipush (v := 256) hx hb d_Tokens_takeSign_27 (by decide) ?_
    refine lv_iload_n hx hb d_Tokens_takeSign_30 rfl (lv_at hl 0 rfl) ?_
    refine lv_iadd hx hb d_Tokens_takeSign_31 ?_
    refine lv_iload_n hx hb d_Tokens_takeSign_32 rfl (lv_at hl 2 rfl) ?_
    refine lv_lconst (v := 0) hx hb d_Tokens_takeSign_33 (by decide) ?_
    obtain ⟨u8, h8, hF⟩ := b1E hF
    refine callVV (As := [.int (256 + r1), .int a1, .long 0]) X (ct_Tokens_add l dC dI ad cA H.size h8) lk_Tokens_79 ⟨rfl, rfl, by decide, by decide⟩ 2 rfl rfl hP hD hS hl.1 rfl rfl (Nat.le_of_ble_eq_true rfl) d_Tokens_takeSign_34 (fun H locs hP hD hS => ?_)
    refine lv_iload_n hx hb d_Tokens_takeSign_37 rfl (lv_at hl 2 rfl) ?_
    refine lv_iconst (v := 2) hx hb d_Tokens_takeSign_38 (by decide) ?_
    refine lv_iadd hx hb d_Tokens_takeSign_39 ?_
    cases hF
    exact leafI X hP hD hS d_Tokens_takeSign_40
