theorem d_Machine_forget_0 : decode b_Machine_forget 0 = .ok (.aload_n 0, 1) := by decide +kernel
theorem d_Machine_forget_1 : decode b_Machine_forget 1 = .ok (.iconst 0, 1) := by decide +kernel
theorem d_Machine_forget_2 : decode b_Machine_forget 2 = .ok (.putfield 43, 3) := by decide +kernel
theorem d_Machine_forget_5 : decode b_Machine_forget 5 = .ok (.aload_n 0, 1) := by decide +kernel
theorem d_Machine_forget_6 : decode b_Machine_forget 6 = .ok (.iconst 0, 1) := by decide +kernel
theorem d_Machine_forget_7 : decode b_Machine_forget 7 = .ok (.putfield 46, 3) := by decide +kernel
theorem d_Machine_forget_10 : decode b_Machine_forget 10 = .ok (.aload_n 0, 1) := by decide +kernel
theorem d_Machine_forget_11 : decode b_Machine_forget 11 = .ok (.iconst 0, 1) := by decide +kernel
theorem d_Machine_forget_12 : decode b_Machine_forget 12 = .ok (.putfield 49, 3) := by decide +kernel
theorem d_Machine_forget_15 : decode b_Machine_forget 15 = .ok (.return_, 1) := by decide +kernel
def tMachine_forget (σ : St) : Option (St) := some (sI (sI (sI σ 22 0) 23 0) 24 0)
set_option maxHeartbeats 4000000 in
set_option maxRecDepth 100000 in
theorem ct_Machine_forget (l : Launch) (dC : Nat → ClassId) (dI : Nat → Nat → Nat) (ad : Nat → Nat) (cA : Nat → ClassId) (sz : Nat) {σ : St} {σ' : St} (hF : tMachine_forget σ = some σ') : MV l y_Machine_forget b_Machine_forget 1 none { frames := 0, cells := 0, slots := 0, locals := 0 } (dC, dI) (ttys cA) ad (tcw ad cA) [.ref (ad 9)] σ sz σ' := by
  refine startM (own := "TinyForge$Machine") (Qc := fun A => QV (dC, dI) (ttys cA) (tcw ad cA) A σ') rfl rfl (Nat.le_of_ble_eq_true rfl) ?_
  intro p e s m below meth c A H locs ls X hP hD hS hl
  have hl : lv_has ls 1 [(0, .ref (ad 9))] := hl
  obtain ⟨hx, hb, hr, hml, hown, hlocks, hts, hA, hK, hZ⟩ := id X
  unfold tMachine_forget at hF
  refine lv_aload_n hx hb d_Machine_forget_0 rfl (lv_at hl 0 rfl) ?_
  refine lv_iconst (v := 0) hx hb d_Machine_forget_1 (by decide) ?_
  refine va_put (D := (dC, dI)) (ci := 9) (v := .int 0) (ty := .int) hx hb hts i_Machine t_Machine t_Machine_ok n_Machine hown hK hP hD hS 9 rfl rfl 12 (by decide) (hts _ w_e1c42edd65) (fun _ h9 => h9) rfl (by decide +kernel) rfl rfl (Nat.le_of_ble_eq_true rfl) d_Machine_forget_2 (fun H locs hP hD hS => ?_)
  have hP : va_P (dC, dI) vwCl (tcw ad cA (sI σ 22 0)) H := hP
  have hD : va_D A (tcw ad cA (sI σ 22 0)) := hD
  refine lv_aload_n hx hb d_Machine_forget_5 rfl (lv_at hl 0 rfl) ?_
  refine lv_iconst (v := 0) hx hb d_Machine_forget_6 (by decide) ?_
  refine va_put (D := (dC, dI)) (ci := 9) (v := .int 0) (ty := .int) hx hb hts i_Machine t_Machine t_Machine_ok n_Machine hown hK hP hD hS 9 rfl rfl 13 (by decide) (hts _ w_e212a5d1e0) (fun _ h9 => h9) rfl (by decide +kernel) rfl rfl (Nat.le_of_ble_eq_true rfl) d_Machine_forget_7 (fun H locs hP hD hS => ?_)
  have hP : va_P (dC, dI) vwCl (tcw ad cA (sI (sI σ 22 0) 23 0)) H := hP
  have hD : va_D A (tcw ad cA (sI (sI σ 22 0) 23 0)) := hD
  refine lv_aload_n hx hb d_Machine_forget_10 rfl (lv_at hl 0 rfl) ?_
  refine lv_iconst (v := 0) hx hb d_Machine_forget_11 (by decide) ?_
  refine va_put (D := (dC, dI)) (ci := 9) (v := .int 0) (ty := .int) hx hb hts i_Machine t_Machine t_Machine_ok n_Machine hown hK hP hD hS 9 rfl rfl 14 (by decide) (hts _ w_de0635e65e) (fun _ h9 => h9) rfl (by decide +kernel) rfl rfl (Nat.le_of_ble_eq_true rfl) d_Machine_forget_12 (fun H locs hP hD hS => ?_)
  have hP : va_P (dC, dI) vwCl (tcw ad cA (sI (sI (sI σ 22 0) 23 0) 24 0)) H := hP
  have hD : va_D A (tcw ad cA (sI (sI (sI σ 22 0) 23 0) 24 0)) := hD
  cases hF
  exact leafV X hP hD hS d_Machine_forget_15
theorem d_Machine_outputAt_0 : decode b_Machine_outputAt 0 = .ok (.iload_n 1, 1) := by decide +kernel
theorem d_Machine_outputAt_1 : decode b_Machine_outputAt 1 = .ok (.ifCond .lt 20, 3) := by decide +kernel
theorem d_Machine_outputAt_4 : decode b_Machine_outputAt 4 = .ok (.iload_n 1, 1) := by decide +kernel
theorem d_Machine_outputAt_5 : decode b_Machine_outputAt 5 = .ok (.aload_n 0, 1) := by decide +kernel
theorem d_Machine_outputAt_6 : decode b_Machine_outputAt 6 = .ok (.getfield 43, 3) := by decide +kernel
theorem d_Machine_outputAt_9 : decode b_Machine_outputAt 9 = .ok (.if_icmp .ge 12, 3) := by decide +kernel
theorem d_Machine_outputAt_12 : decode b_Machine_outputAt 12 = .ok (.aload_n 0, 1) := by decide +kernel
theorem d_Machine_outputAt_13 : decode b_Machine_outputAt 13 = .ok (.getfield 24, 3) := by decide +kernel
theorem d_Machine_outputAt_16 : decode b_Machine_outputAt 16 = .ok (.iload_n 1, 1) := by decide +kernel
theorem d_Machine_outputAt_17 : decode b_Machine_outputAt 17 = .ok (.iaload, 1) := by decide +kernel
theorem d_Machine_outputAt_18 : decode b_Machine_outputAt 18 = .ok (.goto 4, 3) := by decide +kernel
theorem d_Machine_outputAt_21 : decode b_Machine_outputAt 21 = .ok (.iconst 0, 1) := by decide +kernel
theorem d_Machine_outputAt_22 : decode b_Machine_outputAt 22 = .ok (.ireturn, 1) := by decide +kernel
def tMachine_outputAt (σ : St) (a1 : Int32) : Option (Int32) := if a1 < 0 then some 0 else if (σ.1 22) ≤ a1 then some 0 else gd (inB a1 30) (some ((σ.2.2.1 14) a1.toNatClampNeg))
set_option maxHeartbeats 4000000 in
set_option maxRecDepth 100000 in
theorem ct_Machine_outputAt (l : Launch) (dC : Nat → ClassId) (dI : Nat → Nat → Nat) (ad : Nat → Nat) (cA : Nat → ClassId) (sz : Nat) {σ : St} {a1 : Int32} {r : Int32} (hF : tMachine_outputAt σ a1 = some r) : MI l y_Machine_outputAt b_Machine_outputAt 2 (some .int) { frames := 0, cells := 0, slots := 0, locals := 0 } (dC, dI) (ttys cA) ad (tcw ad cA) [.ref (ad 9), .int a1] σ sz r σ := by
  refine startM (own := "TinyForge$Machine") (Qc := fun A => QI (dC, dI) (ttys cA) (tcw ad cA) A r σ) rfl rfl (Nat.le_of_ble_eq_true rfl) ?_
  intro p e s m below meth c A H locs ls X hP hD hS hl
  have hl : lv_has ls 2 [(0, .ref (ad 9)), (1, .int a1)] := hl
  obtain ⟨hx, hb, hr, hml, hown, hlocks, hts, hA, hK, hZ⟩ := id X
  unfold tMachine_outputAt at hF
  refine lv_iload_n hx hb d_Machine_outputAt_0 rfl (lv_at hl 1 rfl) ?_
  refine lv_if_lt (tgt := 21) hx hb d_Machine_outputAt_1 (by decide) (fun c_1 => ?_) (fun c_1 => ?_)
  · have hF := ifp hF c_1
    refine lv_iconst (v := 0) hx hb d_Machine_outputAt_21 (by decide) ?_
    cases hF
    exact leafI X hP hD hS d_Machine_outputAt_22
  · have hF := ifn hF c_1
    refine lv_iload_n hx hb d_Machine_outputAt_4 rfl (lv_at hl 1 rfl) ?_
    refine lv_aload_n hx hb d_Machine_outputAt_5 rfl (lv_at hl 0 rfl) ?_
    refine va_get (D := (dC, dI)) (ci := 9) (v := .int (σ.1 22)) hx hb hts i_Machine hown hK hP 9 rfl rfl 12 (by decide) (hts _ w_e1c42edd65) (fun _ h9 => h9) rfl d_Machine_outputAt_6 ?_
    refine lv_icmp_ge (tgt := 21) hx hb d_Machine_outputAt_9 (by decide) (fun c_2 => ?_) (fun c_2 => ?_)
    · have hF := ifp hF c_2
      refine lv_iconst (v := 0) hx hb d_Machine_outputAt_21 (by decide) ?_
      cases hF
      exact leafI X hP hD hS d_Machine_outputAt_22
    · have hF := ifn hF c_2
      refine lv_aload_n hx hb d_Machine_outputAt_12 rfl (lv_at hl 0 rfl) ?_
      refine va_get (D := (dC, dI)) (ci := 9) (v := .ref (ad 29)) hx hb hts i_Machine hown hK hP 9 rfl rfl 6 (by decide) (hts _ w_e94adc8391) (fun _ h9 => h9) rfl d_Machine_outputAt_13 ?_
      refine lv_iload_n hx hb d_Machine_outputAt_16 rfl (lv_at hl 1 rfl) ?_
      obtain ⟨g_3, hF⟩ := gdE hF
      refine va_iald (f := (σ.2.2.1 14)) hx hb hK hP 29 0 rfl rfl (inE g_3) d_Machine_outputAt_17 ?_
      refine lv_goto (tgt := 22) hx hb d_Machine_outputAt_18 (by decide) ?_
      cases hF
      exact leafI X hP hD hS d_Machine_outputAt_22
theorem d_Machine_tick_0 : decode b_Machine_tick 0 = .ok (.aload_n 0, 1) := by decide +kernel
theorem d_Machine_tick_1 : decode b_Machine_tick 1 = .ok (.getfield 46, 3) := by decide +kernel
theorem d_Machine_tick_4 : decode b_Machine_tick 4 = .ok (.sipush 400, 3) := by decide +kernel
theorem d_Machine_tick_7 : decode b_Machine_tick 7 = .ok (.if_icmp .lt 11, 3) := by decide +kernel
theorem d_Machine_tick_10 : decode b_Machine_tick 10 = .ok (.aload_n 0, 1) := by decide +kernel
theorem d_Machine_tick_11 : decode b_Machine_tick 11 = .ok (.iconst 2, 1) := by decide +kernel
theorem d_Machine_tick_12 : decode b_Machine_tick 12 = .ok (.putfield 40, 3) := by decide +kernel
theorem d_Machine_tick_15 : decode b_Machine_tick 15 = .ok (.goto 13, 3) := by decide +kernel
theorem d_Machine_tick_18 : decode b_Machine_tick 18 = .ok (.aload_n 0, 1) := by decide +kernel
theorem d_Machine_tick_19 : decode b_Machine_tick 19 = .ok (.dup, 1) := by decide +kernel
theorem d_Machine_tick_20 : decode b_Machine_tick 20 = .ok (.getfield 46, 3) := by decide +kernel
theorem d_Machine_tick_23 : decode b_Machine_tick 23 = .ok (.iconst 1, 1) := by decide +kernel
theorem d_Machine_tick_24 : decode b_Machine_tick 24 = .ok (.iadd, 1) := by decide +kernel
theorem d_Machine_tick_25 : decode b_Machine_tick 25 = .ok (.putfield 46, 3) := by decide +kernel
theorem d_Machine_tick_28 : decode b_Machine_tick 28 = .ok (.return_, 1) := by decide +kernel
def tMachine_tick (σ : St) : Option (St) := if (σ.1 23) < 400 then some (sI σ 23 ((σ.1 23) + 1)) else some (sI σ 21 2)
set_option maxHeartbeats 4000000 in
set_option maxRecDepth 100000 in
theorem ct_Machine_tick (l : Launch) (dC : Nat → ClassId) (dI : Nat → Nat → Nat) (ad : Nat → Nat) (cA : Nat → ClassId) (sz : Nat) {σ : St} {σ' : St} (hF : tMachine_tick σ = some σ') : MV l y_Machine_tick b_Machine_tick 1 none { frames := 0, cells := 0, slots := 0, locals := 0 } (dC, dI) (ttys cA) ad (tcw ad cA) [.ref (ad 9)] σ sz σ' := by
  refine startM (own := "TinyForge$Machine") (Qc := fun A => QV (dC, dI) (ttys cA) (tcw ad cA) A σ') rfl rfl (Nat.le_of_ble_eq_true rfl) ?_
  intro p e s m below meth c A H locs ls X hP hD hS hl
  have hl : lv_has ls 1 [(0, .ref (ad 9))] := hl
  obtain ⟨hx, hb, hr, hml, hown, hlocks, hts, hA, hK, hZ⟩ := id X
  unfold tMachine_tick at hF
  refine lv_aload_n hx hb d_Machine_tick_0 rfl (lv_at hl 0 rfl) ?_
  refine va_get (D := (dC, dI)) (ci := 9) (v := .int (σ.1 23)) hx hb hts i_Machine hown hK hP 9 rfl rfl 13 (by decide) (hts _ w_e212a5d1e0) (fun _ h9 => h9) rfl d_Machine_tick_1 ?_
  refine lv_sipush (v := 400) hx hb d_Machine_tick_4 (by decide) ?_
  refine lv_icmp_lt (tgt := 18) hx hb d_Machine_tick_7 (by decide) (fun c_1 => ?_) (fun c_1 => ?_)
  · have hF := ifp hF c_1
    refine lv_aload_n hx hb d_Machine_tick_18 rfl (lv_at hl 0 rfl) ?_
    refine lv_dup hx hb d_Machine_tick_19 rfl ?_
    refine va_get (D := (dC, dI)) (ci := 9) (v := .int (σ.1 23)) hx hb hts i_Machine hown hK hP 9 rfl rfl 13 (by decide) (hts _ w_e212a5d1e0) (fun _ h9 => h9) rfl d_Machine_tick_20 ?_
    refine lv_iconst (v := 1) hx hb d_Machine_tick_23 (by decide) ?_
    refine lv_iadd hx hb d_Machine_tick_24 ?_
    refine va_put (D := (dC, dI)) (ci := 9) (v := .int ((σ.1 23) + 1)) (ty := .int) hx hb hts i_Machine t_Machine t_Machine_ok n_Machine hown hK hP hD hS 9 rfl rfl 13 (by decide) (hts _ w_e212a5d1e0) (fun _ h9 => h9) rfl (by decide +kernel) rfl rfl (Nat.le_of_ble_eq_true rfl) d_Machine_tick_25 (fun H locs hP hD hS => ?_)
    have hP : va_P (dC, dI) vwCl (tcw ad cA (sI σ 23 ((σ.1 23) + 1))) H := hP
    have hD : va_D A (tcw ad cA (sI σ 23 ((σ.1 23) + 1))) := hD
    cases hF
    exact leafV X hP hD hS d_Machine_tick_28
  · have hF := ifn hF c_1
    refine lv_aload_n hx hb d_Machine_tick_10 rfl (lv_at hl 0 rfl) ?_
    refine lv_iconst (v := 2) hx hb d_Machine_tick_11 (by decide) ?_
    refine va_put (D := (dC, dI)) (ci := 9) (v := .int 2) (ty := .int) hx hb hts i_Machine t_Machine t_Machine_ok n_Machine hown hK hP hD hS 9 rfl rfl 11 (by decide) (hts _ w_de4404caec) (fun _ h9 => h9) rfl (by decide +kernel) rfl rfl (Nat.le_of_ble_eq_true rfl) d_Machine_tick_12 (fun H locs hP hD hS => ?_)
    have hP : va_P (dC, dI) vwCl (tcw ad cA (sI σ 21 2)) H := hP
    have hD : va_D A (tcw ad cA (sI σ 21 2)) := hD
    refine lv_goto (tgt := 28) hx hb d_Machine_tick_15 (by decide) ?_
    cases hF
    exact leafV X hP hD hS d_Machine_tick_28
theorem d_Machine_call_0 : decode b_Machine_call 0 = .ok (.aload_n 0, 1) := by decide +kernel
theorem d_Machine_call_1 : decode b_Machine_call 1 = .ok (.getfield 34, 3) := by decide +kernel
theorem d_Machine_call_4 : decode b_Machine_call 4 = .ok (.bipush 12, 2) := by decide +kernel
theorem d_Machine_call_6 : decode b_Machine_call 6 = .ok (.if_icmp .lt 9, 3) := by decide +kernel
theorem d_Machine_call_9 : decode b_Machine_call 9 = .ok (.aload_n 0, 1) := by decide +kernel
theorem d_Machine_call_10 : decode b_Machine_call 10 = .ok (.iconst 2, 1) := by decide +kernel
theorem d_Machine_call_11 : decode b_Machine_call 11 = .ok (.putfield 40, 3) := by decide +kernel
theorem d_Machine_call_14 : decode b_Machine_call 14 = .ok (.return_, 1) := by decide +kernel
theorem d_Machine_call_15 : decode b_Machine_call 15 = .ok (.aload_n 0, 1) := by decide +kernel
theorem d_Machine_call_16 : decode b_Machine_call 16 = .ok (.invokevirtual 105, 3) := by decide +kernel
theorem d_Machine_call_19 : decode b_Machine_call 19 = .ok (.aload_n 0, 1) := by decide +kernel
theorem d_Machine_call_20 : decode b_Machine_call 20 = .ok (.getfield 18, 3) := by decide +kernel
theorem d_Machine_call_23 : decode b_Machine_call 23 = .ok (.aload_n 0, 1) := by decide +kernel
theorem d_Machine_call_24 : decode b_Machine_call 24 = .ok (.getfield 34, 3) := by decide +kernel
theorem d_Machine_call_27 : decode b_Machine_call 27 = .ok (.aload_n 0, 1) := by decide +kernel
theorem d_Machine_call_28 : decode b_Machine_call 28 = .ok (.getfield 37, 3) := by decide +kernel
theorem d_Machine_call_31 : decode b_Machine_call 31 = .ok (.iastore, 1) := by decide +kernel
theorem d_Machine_call_32 : decode b_Machine_call 32 = .ok (.aload_n 0, 1) := by decide +kernel
theorem d_Machine_call_33 : decode b_Machine_call 33 = .ok (.getfield 21, 3) := by decide +kernel
theorem d_Machine_call_36 : decode b_Machine_call 36 = .ok (.aload_n 0, 1) := by decide +kernel
theorem d_Machine_call_37 : decode b_Machine_call 37 = .ok (.getfield 34, 3) := by decide +kernel
theorem d_Machine_call_40 : decode b_Machine_call 40 = .ok (.aload_n 0, 1) := by decide +kernel
theorem d_Machine_call_41 : decode b_Machine_call 41 = .ok (.getfield 31, 3) := by decide +kernel
theorem d_Machine_call_44 : decode b_Machine_call 44 = .ok (.iastore, 1) := by decide +kernel
theorem d_Machine_call_45 : decode b_Machine_call 45 = .ok (.aload_n 0, 1) := by decide +kernel
theorem d_Machine_call_46 : decode b_Machine_call 46 = .ok (.dup, 1) := by decide +kernel
theorem d_Machine_call_47 : decode b_Machine_call 47 = .ok (.getfield 34, 3) := by decide +kernel
theorem d_Machine_call_50 : decode b_Machine_call 50 = .ok (.iconst 1, 1) := by decide +kernel
theorem d_Machine_call_51 : decode b_Machine_call 51 = .ok (.iadd, 1) := by decide +kernel
theorem d_Machine_call_52 : decode b_Machine_call 52 = .ok (.putfield 34, 3) := by decide +kernel
theorem d_Machine_call_55 : decode b_Machine_call 55 = .ok (.aload_n 0, 1) := by decide +kernel
theorem d_Machine_call_56 : decode b_Machine_call 56 = .ok (.aload_n 0, 1) := by decide +kernel
theorem d_Machine_call_57 : decode b_Machine_call 57 = .ok (.getfield 27, 3) := by decide +kernel
theorem d_Machine_call_60 : decode b_Machine_call 60 = .ok (.iload_n 2, 1) := by decide +kernel
theorem d_Machine_call_61 : decode b_Machine_call 61 = .ok (.isub, 1) := by decide +kernel
theorem d_Machine_call_62 : decode b_Machine_call 62 = .ok (.putfield 31, 3) := by decide +kernel
theorem d_Machine_call_65 : decode b_Machine_call 65 = .ok (.aload_n 0, 1) := by decide +kernel
theorem d_Machine_call_66 : decode b_Machine_call 66 = .ok (.aload_n 0, 1) := by decide +kernel
theorem d_Machine_call_67 : decode b_Machine_call 67 = .ok (.getfield 31, 3) := by decide +kernel
theorem d_Machine_call_70 : decode b_Machine_call 70 = .ok (.bipush 12, 2) := by decide +kernel
theorem d_Machine_call_72 : decode b_Machine_call 72 = .ok (.iadd, 1) := by decide +kernel
theorem d_Machine_call_73 : decode b_Machine_call 73 = .ok (.putfield 27, 3) := by decide +kernel
theorem d_Machine_call_76 : decode b_Machine_call 76 = .ok (.aload_n 0, 1) := by decide +kernel
theorem d_Machine_call_77 : decode b_Machine_call 77 = .ok (.iload_n 1, 1) := by decide +kernel
theorem d_Machine_call_78 : decode b_Machine_call 78 = .ok (.putfield 37, 3) := by decide +kernel
theorem d_Machine_call_81 : decode b_Machine_call 81 = .ok (.return_, 1) := by decide +kernel
def tMachine_call (σ : St) (a1 : Int32) (a2 : Int32) : Option (St) := if (σ.1 19) < 12 then b1 (tMachine_tick σ) (fun u2 => gd (inB (u2.1 19) 12) (gd (inB (u2.1 19) 12) (some (sI (sI (sI (sI (sA (sA u2 12 (upd (u2.2.2.1 12) (u2.1 19).toNatClampNeg (u2.1 20))) 13 (upd (u2.2.2.1 13) (u2.1 19).toNatClampNeg (u2.1 18))) 19 ((u2.1 19) + 1)) 18 ((u2.1 17) - a2)) 17 (((u2.1 17) - a2) + 12)) 20 a1)))) else some (sI σ 21 2)
set_option maxHeartbeats 4000000 in
set_option maxRecDepth 100000 in
theorem ct_Machine_call (l : Launch) (dC : Nat → ClassId) (dI : Nat → Nat → Nat) (ad : Nat → Nat) (cA : Nat → ClassId) (sz : Nat) {σ : St} {a1 : Int32} {a2 : Int32} {σ' : St} (hF : tMachine_call σ a1 a2 = some σ') : MV l y_Machine_call b_Machine_call 3 none { frames := 1, cells := 0, slots := 0, locals := 20 } (dC, dI) (ttys cA) ad (tcw ad cA) [.ref (ad 9), .int a1, .int a2] σ sz σ' := by
  refine startM (own := "TinyForge$Machine") (Qc := fun A => QV (dC, dI) (ttys cA) (tcw ad cA) A σ') rfl rfl (Nat.le_of_ble_eq_true rfl) ?_
  intro p e s m below meth c A H locs ls X hP hD hS hl
  have hl : lv_has ls 3 [(0, .ref (ad 9)), (1, .int a1), (2, .int a2)] := hl
  obtain ⟨hx, hb, hr, hml, hown, hlocks, hts, hA, hK, hZ⟩ := id X
  unfold tMachine_call at hF
  refine lv_aload_n hx hb d_Machine_call_0 rfl (lv_at hl 0 rfl) ?_
  refine va_get (D := (dC, dI)) (ci := 9) (v := .int (σ.1 19)) hx hb hts i_Machine hown hK hP 9 rfl rfl 9 (by decide) (hts _ w_bac89a80ba) (fun _ h9 => h9) rfl d_Machine_call_1 ?_
  refine lv_bipush (v := 12) hx hb d_Machine_call_4 (by decide) ?_
  refine lv_icmp_lt (tgt := 15) hx hb d_Machine_call_6 (by decide) (fun c_1 => ?_) (fun c_1 => ?_)
  · have hF := ifp hF c_1
    refine lv_aload_n hx hb d_Machine_call_15 rfl (lv_at hl 0 rfl) ?_
    obtain ⟨u2, h2, hF⟩ := b1E hF
    refine callVV (As := []) X (ct_Machine_tick l dC dI ad cA H.size h2) lk_Machine_105 ⟨rfl, rfl, by decide, by decide⟩ 9 rfl rfl hP hD hS hl.1 rfl rfl (Nat.le_of_ble_eq_true rfl) d_Machine_call_16 (fun H locs hP hD hS => ?_)
    refine lv_aload_n hx hb d_Machine_call_19 rfl (lv_at hl 0 rfl) ?_
    refine va_get (D := (dC, dI)) (ci := 9) (v := .ref (ad 27)) hx hb hts i_Machine hown hK hP 9 rfl rfl 4 (by decide) (hts _ w_1a4af3dd09) (fun _ h9 => h9) rfl d_Machine_call_20 ?_
    refine lv_aload_n hx hb d_Machine_call_23 rfl (lv_at hl 0 rfl) ?_
    refine va_get (D := (dC, dI)) (ci := 9) (v := .int (u2.1 19)) hx hb hts i_Machine hown hK hP 9 rfl rfl 9 (by decide) (hts _ w_bac89a80ba) (fun _ h9 => h9) rfl d_Machine_call_24 ?_
    refine lv_aload_n hx hb d_Machine_call_27 rfl (lv_at hl 0 rfl) ?_
    refine va_get (D := (dC, dI)) (ci := 9) (v := .int (u2.1 20)) hx hb hts i_Machine hown hK hP 9 rfl rfl 10 (by decide) (hts _ w_2e3703c8c3) (fun _ h9 => h9) rfl d_Machine_call_28 ?_
    obtain ⟨g_3, hF⟩ := gdE hF
    refine va_iast (f := (u2.2.2.1 12)) hx hb hK hP hD hS 27 0 rfl rfl (inE g_3) d_Machine_call_31 (fun H locs hP hD hS => ?_)
    have hP : va_P (dC, dI) vwCl (tcw ad cA (sA u2 12 (upd (u2.2.2.1 12) (u2.1 19).toNatClampNeg (u2.1 20)))) H := hP
    have hD : va_D A (tcw ad cA (sA u2 12 (upd (u2.2.2.1 12) (u2.1 19).toNatClampNeg (u2.1 20)))) := hD
    refine lv_aload_n hx hb d_Machine_call_32 rfl (lv_at hl 0 rfl) ?_
    refine va_get (D := (dC, dI)) (ci := 9) (v := .ref (ad 28)) hx hb hts i_Machine hown hK hP 9 rfl rfl 5 (by decide) (hts _ w_2af776c817) (fun _ h9 => h9) rfl d_Machine_call_33 ?_
    refine lv_aload_n hx hb d_Machine_call_36 rfl (lv_at hl 0 rfl) ?_
    refine va_get (D := (dC, dI)) (ci := 9) (v := .int (u2.1 19)) hx hb hts i_Machine hown hK hP 9 rfl rfl 9 (by decide) (hts _ w_bac89a80ba) (fun _ h9 => h9) rfl d_Machine_call_37 ?_
    refine lv_aload_n hx hb d_Machine_call_40 rfl (lv_at hl 0 rfl) ?_
    refine va_get (D := (dC, dI)) (ci := 9) (v := .int (u2.1 18)) hx hb hts i_Machine hown hK hP 9 rfl rfl 8 (by decide) (hts _ w_b523296ea4) (fun _ h9 => h9) rfl d_Machine_call_41 ?_
    obtain ⟨g_4, hF⟩ := gdE hF
    refine va_iast (f := (u2.2.2.1 13)) hx hb hK hP hD hS 28 0 rfl rfl (inE g_4) d_Machine_call_44 (fun H locs hP hD hS => ?_)
    have hP : va_P (dC, dI) vwCl (tcw ad cA (sA (sA u2 12 (upd (u2.2.2.1 12) (u2.1 19).toNatClampNeg (u2.1 20))) 13 (upd (u2.2.2.1 13) (u2.1 19).toNatClampNeg (u2.1 18)))) H := hP
    have hD : va_D A (tcw ad cA (sA (sA u2 12 (upd (u2.2.2.1 12) (u2.1 19).toNatClampNeg (u2.1 20))) 13 (upd (u2.2.2.1 13) (u2.1 19).toNatClampNeg (u2.1 18)))) := hD
    refine lv_aload_n hx hb d_Machine_call_45 rfl (lv_at hl 0 rfl) ?_
    refine lv_dup hx hb d_Machine_call_46 rfl ?_
    refine va_get (D := (dC, dI)) (ci := 9) (v := .int (u2.1 19)) hx hb hts i_Machine hown hK hP 9 rfl rfl 9 (by decide) (hts _ w_bac89a80ba) (fun _ h9 => h9) rfl d_Machine_call_47 ?_
    refine lv_iconst (v := 1) hx hb d_Machine_call_50 (by decide) ?_
    refine lv_iadd hx hb d_Machine_call_51 ?_
    refine va_put (D := (dC, dI)) (ci := 9) (v := .int ((u2.1 19) + 1)) (ty := .int) hx hb hts i_Machine t_Machine t_Machine_ok n_Machine hown hK hP hD hS 9 rfl rfl 9 (by decide) (hts _ w_bac89a80ba) (fun _ h9 => h9) rfl (by decide +kernel) rfl rfl (Nat.le_of_ble_eq_true rfl) d_Machine_call_52 (fun H locs hP hD hS => ?_)
    have hP : va_P (dC, dI) vwCl (tcw ad cA (sI (sA (sA u2 12 (upd (u2.2.2.1 12) (u2.1 19).toNatClampNeg (u2.1 20))) 13 (upd (u2.2.2.1 13) (u2.1 19).toNatClampNeg (u2.1 18))) 19 ((u2.1 19) + 1))) H := hP
    have hD : va_D A (tcw ad cA (sI (sA (sA u2 12 (upd (u2.2.2.1 12) (u2.1 19).toNatClampNeg (u2.1 20))) 13 (upd (u2.2.2.1 13) (u2.1 19).toNatClampNeg (u2.1 18))) 19 ((u2.1 19) + 1))) := hD
    refine lv_aload_n hx hb d_Machine_call_55 rfl (lv_at hl 0 rfl) ?_
    refine lv_aload_n hx hb d_Machine_call_56 rfl (lv_at hl 0 rfl) ?_
    refine va_get (D := (dC, dI)) (ci := 9) (v := .int (u2.1 17)) hx hb hts i_Machine hown hK hP 9 rfl rfl 7 (by decide) (hts _ w_aa5f3dbc94) (fun _ h9 => h9) rfl d_Machine_call_57 ?_
    refine lv_iload_n hx hb d_Machine_call_60 rfl (lv_at hl 2 rfl) ?_
    refine lv_isub hx hb d_Machine_call_61 ?_
    refine va_put (D := (dC, dI)) (ci := 9) (v := .int ((u2.1 17) - a2)) (ty := .int) hx hb hts i_Machine t_Machine t_Machine_ok n_Machine hown hK hP hD hS 9 rfl rfl 8 (by decide) (hts _ w_b523296ea4) (fun _ h9 => h9) rfl (by decide +kernel) rfl rfl (Nat.le_of_ble_eq_true rfl) d_Machine_call_62 (fun H locs hP hD hS => ?_)
    have hP : va_P (dC, dI) vwCl (tcw ad cA (sI (sI (sA (sA u2 12 (upd (u2.2.2.1 12) (u2.1 19).toNatClampNeg (u2.1 20))) 13 (upd (u2.2.2.1 13) (u2.1 19).toNatClampNeg (u2.1 18))) 19 ((u2.1 19) + 1)) 18 ((u2.1 17) - a2))) H := hP
    have hD : va_D A (tcw ad cA (sI (sI (sA (sA u2 12 (upd (u2.2.2.1 12) (u2.1 19).toNatClampNeg (u2.1 20))) 13 (upd (u2.2.2.1 13) (u2.1 19).toNatClampNeg (u2.1 18))) 19 ((u2.1 19) + 1)) 18 ((u2.1 17) - a2))) := hD
    refine lv_aload_n hx hb d_Machine_call_65 rfl (lv_at hl 0 rfl) ?_
    refine lv_aload_n hx hb d_Machine_call_66 rfl (lv_at hl 0 rfl) ?_
    refine va_get (D := (dC, dI)) (ci := 9) (v := .int ((u2.1 17) - a2)) hx hb hts i_Machine hown hK hP 9 rfl rfl 8 (by decide) (hts _ w_b523296ea4) (fun _ h9 => h9) rfl d_Machine_call_67 ?_
    refine lv_bipush (v := 12) hx hb d_Machine_call_70 (by decide) ?_
    refine lv_iadd hx hb d_Machine_call_72 ?_
    refine va_put (D := (dC, dI)) (ci := 9) (v := .int (((u2.1 17) - a2) + 12)) (ty := .int) hx hb hts i_Machine t_Machine t_Machine_ok n_Machine hown hK hP hD hS 9 rfl rfl 7 (by decide) (hts _ w_aa5f3dbc94) (fun _ h9 => h9) rfl (by decide +kernel) rfl rfl (Nat.le_of_ble_eq_true rfl) d_Machine_call_73 (fun H locs hP hD hS => ?_)
    have hP : va_P (dC, dI) vwCl (tcw ad cA (sI (sI (sI (sA (sA u2 12 (upd (u2.2.2.1 12) (u2.1 19).toNatClampNeg (u2.1 20))) 13 (upd (u2.2.2.1 13) (u2.1 19).toNatClampNeg (u2.1 18))) 19 ((u2.1 19) + 1)) 18 ((u2.1 17) - a2)) 17 (((u2.1 17) - a2) + 12))) H := hP
    have hD : va_D A (tcw ad cA (sI (sI (sI (sA (sA u2 12 (upd (u2.2.2.1 12) (u2.1 19).toNatClampNeg (u2.1 20))) 13 (upd (u2.2.2.1 13) (u2.1 19).toNatClampNeg (u2.1 18))) 19 ((u2.1 19) + 1)) 18 ((u2.1 17) - a2)) 17 (((u2.1 17) - a2) + 12))) := hD
    refine lv_aload_n hx hb d_Machine_call_76 rfl (lv_at hl 0 rfl) ?_
    refine lv_iload_n hx hb d_Machine_call_77 rfl (lv_at hl 1 rfl) ?_
    refine va_put (D := (dC, dI)) (ci := 9) (v := .int a1) (ty := .int) hx hb hts i_Machine t_Machine t_Machine_ok n_Machine hown hK hP hD hS 9 rfl rfl 10 (by decide) (hts _ w_2e3703c8c3) (fun _ h9 => h9) rfl (by decide +kernel) rfl rfl (Nat.le_of_ble_eq_true rfl) d_Machine_call_78 (fun H locs hP hD hS => ?_)
    have hP : va_P (dC, dI) vwCl (tcw ad cA (sI (sI (sI (sI (sA (sA u2 12 (upd (u2.2.2.1 12) (u2.1 19).toNatClampNeg (u2.1 20))) 13 (upd (u2.2.2.1 13) (u2.1 19).toNatClampNeg (u2.1 18))) 19 ((u2.1 19) + 1)) 18 ((u2.1 17) - a2)) 17 (((u2.1 17) - a2) + 12)) 20 a1)) H := hP
    have hD : va_D A (tcw ad cA (sI (sI (sI (sI (sA (sA u2 12 (upd (u2.2.2.1 12) (u2.1 19).toNatClampNeg (u2.1 20))) 13 (upd (u2.2.2.1 13) (u2.1 19).toNatClampNeg (u2.1 18))) 19 ((u2.1 19) + 1)) 18 ((u2.1 17) - a2)) 17 (((u2.1 17) - a2) + 12)) 20 a1)) := hD
    cases hF
    exact leafV X hP hD hS d_Machine_call_81
  · have hF := ifn hF c_1
    refine lv_aload_n hx hb d_Machine_call_9 rfl (lv_at hl 0 rfl) ?_
    refine lv_iconst (v := 2) hx hb d_Machine_call_10 (by decide) ?_
    refine va_put (D := (dC, dI)) (ci := 9) (v := .int 2) (ty := .int) hx hb hts i_Machine t_Machine t_Machine_ok n_Machine hown hK hP hD hS 9 rfl rfl 11 (by decide) (hts _ w_de4404caec) (fun _ h9 => h9) rfl (by decide +kernel) rfl rfl (Nat.le_of_ble_eq_true rfl) d_Machine_call_11 (fun H locs hP hD hS => ?_)
    have hP : va_P (dC, dI) vwCl (tcw ad cA (sI σ 21 2)) H := hP
    have hD : va_D A (tcw ad cA (sI σ 21 2)) := hD
    cases hF
    exact leafV X hP hD hS d_Machine_call_14
theorem d_Machine_cell_0 : decode b_Machine_cell 0 = .ok (.iload_n 1, 1) := by decide +kernel
theorem d_Machine_cell_1 : decode b_Machine_cell 1 = .ok (.ifCond .lt 21, 3) := by decide +kernel
theorem d_Machine_cell_4 : decode b_Machine_cell 4 = .ok (.iload_n 1, 1) := by decide +kernel
theorem d_Machine_cell_5 : decode b_Machine_cell 5 = .ok (.aload_n 0, 1) := by decide +kernel
theorem d_Machine_cell_6 : decode b_Machine_cell 6 = .ok (.getfield 9, 3) := by decide +kernel
theorem d_Machine_cell_9 : decode b_Machine_cell 9 = .ok (.arraylength, 1) := by decide +kernel
theorem d_Machine_cell_10 : decode b_Machine_cell 10 = .ok (.if_icmp .ge 12, 3) := by decide +kernel
theorem d_Machine_cell_13 : decode b_Machine_cell 13 = .ok (.aload_n 0, 1) := by decide +kernel
theorem d_Machine_cell_14 : decode b_Machine_cell 14 = .ok (.getfield 9, 3) := by decide +kernel
theorem d_Machine_cell_17 : decode b_Machine_cell 17 = .ok (.iload_n 1, 1) := by decide +kernel
theorem d_Machine_cell_18 : decode b_Machine_cell 18 = .ok (.iaload, 1) := by decide +kernel
theorem d_Machine_cell_19 : decode b_Machine_cell 19 = .ok (.goto 4, 3) := by decide +kernel
theorem d_Machine_cell_22 : decode b_Machine_cell 22 = .ok (.iconst 0, 1) := by decide +kernel
theorem d_Machine_cell_23 : decode b_Machine_cell 23 = .ok (.ireturn, 1) := by decide +kernel
def tMachine_cell (σ : St) (a1 : Int32) : Option (Int32) := if a1 < 0 then some 0 else if (576 : Int32) ≤ a1 then some 0 else gd (inB a1 576) (some ((σ.2.2.1 10) a1.toNatClampNeg))
set_option maxHeartbeats 4000000 in
set_option maxRecDepth 100000 in
theorem ct_Machine_cell (l : Launch) (dC : Nat → ClassId) (dI : Nat → Nat → Nat) (ad : Nat → Nat) (cA : Nat → ClassId) (sz : Nat) {σ : St} {a1 : Int32} {r : Int32} (hF : tMachine_cell σ a1 = some r) : MI l y_Machine_cell b_Machine_cell 2 (some .int) { frames := 0, cells := 0, slots := 0, locals := 0 } (dC, dI) (ttys cA) ad (tcw ad cA) [.ref (ad 9), .int a1] σ sz r σ := by
  refine startM (own := "TinyForge$Machine") (Qc := fun A => QI (dC, dI) (ttys cA) (tcw ad cA) A r σ) rfl rfl (Nat.le_of_ble_eq_true rfl) ?_
  intro p e s m below meth c A H locs ls X hP hD hS hl
  have hl : lv_has ls 2 [(0, .ref (ad 9)), (1, .int a1)] := hl
  obtain ⟨hx, hb, hr, hml, hown, hlocks, hts, hA, hK, hZ⟩ := id X
  unfold tMachine_cell at hF
  refine lv_iload_n hx hb d_Machine_cell_0 rfl (lv_at hl 1 rfl) ?_
  refine lv_if_lt (tgt := 22) hx hb d_Machine_cell_1 (by decide) (fun c_1 => ?_) (fun c_1 => ?_)
  · have hF := ifp hF c_1
    refine lv_iconst (v := 0) hx hb d_Machine_cell_22 (by decide) ?_
    cases hF
    exact leafI X hP hD hS d_Machine_cell_23
  · have hF := ifn hF c_1
    refine lv_iload_n hx hb d_Machine_cell_4 rfl (lv_at hl 1 rfl) ?_
    refine lv_aload_n hx hb d_Machine_cell_5 rfl (lv_at hl 0 rfl) ?_
    refine va_get (D := (dC, dI)) (ci := 9) (v := .ref (ad 25)) hx hb hts i_Machine hown hK hP 9 rfl rfl 2 (by decide) (hts _ w_623def8131) (fun _ h9 => h9) rfl d_Machine_cell_6 ?_
    refine va_alen (v := 576) hx hb hK hP 25 0 rfl rfl rfl d_Machine_cell_9 ?_
    refine lv_icmp_ge (tgt := 22) hx hb d_Machine_cell_10 (by decide) (fun c_2 => ?_) (fun c_2 => ?_)
    · have hF := ifp hF c_2
      refine lv_iconst (v := 0) hx hb d_Machine_cell_22 (by decide) ?_
      cases hF
      exact leafI X hP hD hS d_Machine_cell_23
    · have hF := ifn hF c_2
      refine lv_aload_n hx hb d_Machine_cell_13 rfl (lv_at hl 0 rfl) ?_
      refine va_get (D := (dC, dI)) (ci := 9) (v := .ref (ad 25)) hx hb hts i_Machine hown hK hP 9 rfl rfl 2 (by decide) (hts _ w_623def8131) (fun _ h9 => h9) rfl d_Machine_cell_14 ?_
      refine lv_iload_n hx hb d_Machine_cell_17 rfl (lv_at hl 1 rfl) ?_
      obtain ⟨g_3, hF⟩ := gdE hF
      refine va_iald (f := (σ.2.2.1 10)) hx hb hK hP 25 0 rfl rfl (inE g_3) d_Machine_cell_18 ?_
      refine lv_goto (tgt := 23) hx hb d_Machine_cell_19 (by decide) ?_
      cases hF
      exact leafI X hP hD hS d_Machine_cell_23
theorem d_Machine_pop_0 : decode b_Machine_pop 0 = .ok (.aload_n 0, 1) := by decide +kernel
theorem d_Machine_pop_1 : decode b_Machine_pop 1 = .ok (.dup, 1) := by decide +kernel
theorem d_Machine_pop_2 : decode b_Machine_pop 2 = .ok (.getfield 27, 3) := by decide +kernel
theorem d_Machine_pop_5 : decode b_Machine_pop 5 = .ok (.iconst 1, 1) := by decide +kernel
theorem d_Machine_pop_6 : decode b_Machine_pop 6 = .ok (.isub, 1) := by decide +kernel
theorem d_Machine_pop_7 : decode b_Machine_pop 7 = .ok (.putfield 27, 3) := by decide +kernel
theorem d_Machine_pop_10 : decode b_Machine_pop 10 = .ok (.aload_n 0, 1) := by decide +kernel
theorem d_Machine_pop_11 : decode b_Machine_pop 11 = .ok (.aload_n 0, 1) := by decide +kernel
theorem d_Machine_pop_12 : decode b_Machine_pop 12 = .ok (.getfield 27, 3) := by decide +kernel
theorem d_Machine_pop_15 : decode b_Machine_pop 15 = .ok (.invokevirtual 123, 3) := by decide +kernel
theorem d_Machine_pop_18 : decode b_Machine_pop 18 = .ok (.ireturn, 1) := by decide +kernel
def tMachine_pop (σ : St) : Option (Int32 × St) := b1 (tMachine_cell (sI σ 17 ((σ.1 17) - 1)) ((σ.1 17) - 1)) (fun r1 => some (r1, (sI σ 17 ((σ.1 17) - 1))))
set_option maxHeartbeats 4000000 in
set_option maxRecDepth 100000 in
theorem ct_Machine_pop (l : Launch) (dC : Nat → ClassId) (dI : Nat → Nat → Nat) (ad : Nat → Nat) (cA : Nat → ClassId) (sz : Nat) {σ : St} {r : Int32} {σ' : St} (hF : tMachine_pop σ = some (r, σ')) : MI l y_Machine_pop b_Machine_pop 1 (some .int) { frames := 1, cells := 0, slots := 0, locals := 21 } (dC, dI) (ttys cA) ad (tcw ad cA) [.ref (ad 9)] σ sz r σ' := by
  refine startM (own := "TinyForge$Machine") (Qc := fun A => QI (dC, dI) (ttys cA) (tcw ad cA) A r σ') rfl rfl (Nat.le_of_ble_eq_true rfl) ?_
  intro p e s m below meth c A H locs ls X hP hD hS hl
  have hl : lv_has ls 1 [(0, .ref (ad 9))] := hl
  obtain ⟨hx, hb, hr, hml, hown, hlocks, hts, hA, hK, hZ⟩ := id X
  unfold tMachine_pop at hF
  refine lv_aload_n hx hb d_Machine_pop_0 rfl (lv_at hl 0 rfl) ?_
  refine lv_dup hx hb d_Machine_pop_1 rfl ?_
  refine va_get (D := (dC, dI)) (ci := 9) (v := .int (σ.1 17)) hx hb hts i_Machine hown hK hP 9 rfl rfl 7 (by decide) (hts _ w_aa5f3dbc94) (fun _ h9 => h9) rfl d_Machine_pop_2 ?_
  refine lv_iconst (v := 1) hx hb d_Machine_pop_5 (by decide) ?_
  refine lv_isub hx hb d_Machine_pop_6 ?_
  refine va_put (D := (dC, dI)) (ci := 9) (v := .int ((σ.1 17) - 1)) (ty := .int) hx hb hts i_Machine t_Machine t_Machine_ok n_Machine hown hK hP hD hS 9 rfl rfl 7 (by decide) (hts _ w_aa5f3dbc94) (fun _ h9 => h9) rfl (by decide +kernel) rfl rfl (Nat.le_of_ble_eq_true rfl) d_Machine_pop_7 (fun H locs hP hD hS => ?_)
  have hP : va_P (dC, dI) vwCl (tcw ad cA (sI σ 17 ((σ.1 17) - 1))) H := hP
  have hD : va_D A (tcw ad cA (sI σ 17 ((σ.1 17) - 1))) := hD
  refine lv_aload_n hx hb d_Machine_pop_10 rfl (lv_at hl 0 rfl) ?_
  refine lv_aload_n hx hb d_Machine_pop_11 rfl (lv_at hl 0 rfl) ?_
  refine va_get (D := (dC, dI)) (ci := 9) (v := .int ((σ.1 17) - 1)) hx hb hts i_Machine hown hK hP 9 rfl rfl 7 (by decide) (hts _ w_aa5f3dbc94) (fun _ h9 => h9) rfl d_Machine_pop_12 ?_
  obtain ⟨r1, h1, hF⟩ := b1E hF
  refine callVI (As := [.int ((σ.1 17) - 1)]) X (ct_Machine_cell l dC dI ad cA H.size h1) lk_Machine_123 ⟨rfl, rfl, by decide, by decide⟩ 9 rfl rfl hP hD hS hl.1 rfl rfl (Nat.le_of_ble_eq_true rfl) d_Machine_pop_15 (fun H locs hP hD hS => ?_)
  cases hF
  exact leafI X hP hD hS d_Machine_pop_18
theorem d_Machine_setCell_0 : decode b_Machine_setCell 0 = .ok (.iload_n 1, 1) := by decide +kernel
theorem d_Machine_setCell_1 : decode b_Machine_setCell 1 = .ok (.ifCond .lt 19, 3) := by decide +kernel
theorem d_Machine_setCell_4 : decode b_Machine_setCell 4 = .ok (.iload_n 1, 1) := by decide +kernel
theorem d_Machine_setCell_5 : decode b_Machine_setCell 5 = .ok (.aload_n 0, 1) := by decide +kernel
theorem d_Machine_setCell_6 : decode b_Machine_setCell 6 = .ok (.getfield 9, 3) := by decide +kernel
theorem d_Machine_setCell_9 : decode b_Machine_setCell 9 = .ok (.arraylength, 1) := by decide +kernel
theorem d_Machine_setCell_10 : decode b_Machine_setCell 10 = .ok (.if_icmp .ge 10, 3) := by decide +kernel
theorem d_Machine_setCell_13 : decode b_Machine_setCell 13 = .ok (.aload_n 0, 1) := by decide +kernel
theorem d_Machine_setCell_14 : decode b_Machine_setCell 14 = .ok (.getfield 9, 3) := by decide +kernel
theorem d_Machine_setCell_17 : decode b_Machine_setCell 17 = .ok (.iload_n 1, 1) := by decide +kernel
theorem d_Machine_setCell_18 : decode b_Machine_setCell 18 = .ok (.iload_n 2, 1) := by decide +kernel
theorem d_Machine_setCell_19 : decode b_Machine_setCell 19 = .ok (.iastore, 1) := by decide +kernel
theorem d_Machine_setCell_20 : decode b_Machine_setCell 20 = .ok (.return_, 1) := by decide +kernel
def tMachine_setCell (σ : St) (a1 : Int32) (a2 : Int32) : Option (St) := if a1 < 0 then some σ else if (576 : Int32) ≤ a1 then some σ else gd (inB a1 576) (some (sA σ 10 (upd (σ.2.2.1 10) a1.toNatClampNeg a2)))
set_option maxHeartbeats 4000000 in
set_option maxRecDepth 100000 in
theorem ct_Machine_setCell (l : Launch) (dC : Nat → ClassId) (dI : Nat → Nat → Nat) (ad : Nat → Nat) (cA : Nat → ClassId) (sz : Nat) {σ : St} {a1 : Int32} {a2 : Int32} {σ' : St} (hF : tMachine_setCell σ a1 a2 = some σ') : MV l y_Machine_setCell b_Machine_setCell 3 none { frames := 0, cells := 0, slots := 0, locals := 0 } (dC, dI) (ttys cA) ad (tcw ad cA) [.ref (ad 9), .int a1, .int a2] σ sz σ' := by
  refine startM (own := "TinyForge$Machine") (Qc := fun A => QV (dC, dI) (ttys cA) (tcw ad cA) A σ') rfl rfl (Nat.le_of_ble_eq_true rfl) ?_
  intro p e s m below meth c A H locs ls X hP hD hS hl
  have hl : lv_has ls 3 [(0, .ref (ad 9)), (1, .int a1), (2, .int a2)] := hl
  obtain ⟨hx, hb, hr, hml, hown, hlocks, hts, hA, hK, hZ⟩ := id X
  unfold tMachine_setCell at hF
  refine lv_iload_n hx hb d_Machine_setCell_0 rfl (lv_at hl 1 rfl) ?_
  refine lv_if_lt (tgt := 20) hx hb d_Machine_setCell_1 (by decide) (fun c_1 => ?_) (fun c_1 => ?_)
  · have hF := ifp hF c_1
    cases hF
    exact leafV X hP hD hS d_Machine_setCell_20
  · have hF := ifn hF c_1
    refine lv_iload_n hx hb d_Machine_setCell_4 rfl (lv_at hl 1 rfl) ?_
    refine lv_aload_n hx hb d_Machine_setCell_5 rfl (lv_at hl 0 rfl) ?_
    refine va_get (D := (dC, dI)) (ci := 9) (v := .ref (ad 25)) hx hb hts i_Machine hown hK hP 9 rfl rfl 2 (by decide) (hts _ w_623def8131) (fun _ h9 => h9) rfl d_Machine_setCell_6 ?_
    refine va_alen (v := 576) hx hb hK hP 25 0 rfl rfl rfl d_Machine_setCell_9 ?_
    refine lv_icmp_ge (tgt := 20) hx hb d_Machine_setCell_10 (by decide) (fun c_2 => ?_) (fun c_2 => ?_)
    · have hF := ifp hF c_2
      cases hF
      exact leafV X hP hD hS d_Machine_setCell_20
    · have hF := ifn hF c_2
      refine lv_aload_n hx hb d_Machine_setCell_13 rfl (lv_at hl 0 rfl) ?_
      refine va_get (D := (dC, dI)) (ci := 9) (v := .ref (ad 25)) hx hb hts i_Machine hown hK hP 9 rfl rfl 2 (by decide) (hts _ w_623def8131) (fun _ h9 => h9) rfl d_Machine_setCell_14 ?_
      refine lv_iload_n hx hb d_Machine_setCell_17 rfl (lv_at hl 1 rfl) ?_
      refine lv_iload_n hx hb d_Machine_setCell_18 rfl (lv_at hl 2 rfl) ?_
      obtain ⟨g_3, hF⟩ := gdE hF
      refine va_iast (f := (σ.2.2.1 10)) hx hb hK hP hD hS 25 0 rfl rfl (inE g_3) d_Machine_setCell_19 (fun H locs hP hD hS => ?_)
      have hP : va_P (dC, dI) vwCl (tcw ad cA (sA σ 10 (upd (σ.2.2.1 10) a1.toNatClampNeg a2))) H := hP
      have hD : va_D A (tcw ad cA (sA σ 10 (upd (σ.2.2.1 10) a1.toNatClampNeg a2))) := hD
      cases hF
      exact leafV X hP hD hS d_Machine_setCell_20
theorem d_Machine_push_0 : decode b_Machine_push 0 = .ok (.aload_n 0, 1) := by decide +kernel
theorem d_Machine_push_1 : decode b_Machine_push 1 = .ok (.aload_n 0, 1) := by decide +kernel
theorem d_Machine_push_2 : decode b_Machine_push 2 = .ok (.getfield 27, 3) := by decide +kernel
theorem d_Machine_push_5 : decode b_Machine_push 5 = .ok (.iload_n 1, 1) := by decide +kernel
theorem d_Machine_push_6 : decode b_Machine_push 6 = .ok (.invokevirtual 127, 3) := by decide +kernel
theorem d_Machine_push_9 : decode b_Machine_push 9 = .ok (.aload_n 0, 1) := by decide +kernel
theorem d_Machine_push_10 : decode b_Machine_push 10 = .ok (.dup, 1) := by decide +kernel
theorem d_Machine_push_11 : decode b_Machine_push 11 = .ok (.getfield 27, 3) := by decide +kernel
theorem d_Machine_push_14 : decode b_Machine_push 14 = .ok (.iconst 1, 1) := by decide +kernel
theorem d_Machine_push_15 : decode b_Machine_push 15 = .ok (.iadd, 1) := by decide +kernel
theorem d_Machine_push_16 : decode b_Machine_push 16 = .ok (.putfield 27, 3) := by decide +kernel
theorem d_Machine_push_19 : decode b_Machine_push 19 = .ok (.return_, 1) := by decide +kernel
def tMachine_push (σ : St) (a1 : Int32) : Option (St) := b1 (tMachine_setCell σ (σ.1 17) a1) (fun u1 => some (sI u1 17 ((u1.1 17) + 1)))
set_option maxHeartbeats 4000000 in
set_option maxRecDepth 100000 in
theorem ct_Machine_push (l : Launch) (dC : Nat → ClassId) (dI : Nat → Nat → Nat) (ad : Nat → Nat) (cA : Nat → ClassId) (sz : Nat) {σ : St} {a1 : Int32} {σ' : St} (hF : tMachine_push σ a1 = some σ') : MV l y_Machine_push b_Machine_push 2 none { frames := 1, cells := 0, slots := 0, locals := 22 } (dC, dI) (ttys cA) ad (tcw ad cA) [.ref (ad 9), .int a1] σ sz σ' := by
  refine startM (own := "TinyForge$Machine") (Qc := fun A => QV (dC, dI) (ttys cA) (tcw ad cA) A σ') rfl rfl (Nat.le_of_ble_eq_true rfl) ?_
  intro p e s m below meth c A H locs ls X hP hD hS hl
  have hl : lv_has ls 2 [(0, .ref (ad 9)), (1, .int a1)] := hl
  obtain ⟨hx, hb, hr, hml, hown, hlocks, hts, hA, hK, hZ⟩ := id X
  unfold tMachine_push at hF
  refine lv_aload_n hx hb d_Machine_push_0 rfl (lv_at hl 0 rfl) ?_
  refine lv_aload_n hx hb d_Machine_push_1 rfl (lv_at hl 0 rfl) ?_
  refine va_get (D := (dC, dI)) (ci := 9) (v := .int (σ.1 17)) hx hb hts i_Machine hown hK hP 9 rfl rfl 7 (by decide) (hts _ w_aa5f3dbc94) (fun _ h9 => h9) rfl d_Machine_push_2 ?_
  refine lv_iload_n hx hb d_Machine_push_5 rfl (lv_at hl 1 rfl) ?_
  obtain ⟨u1, h1, hF⟩ := b1E hF
  refine callVV (As := [.int (σ.1 17), .int a1]) X (ct_Machine_setCell l dC dI ad cA H.size h1) lk_Machine_127 ⟨rfl, rfl, by decide, by decide⟩ 9 rfl rfl hP hD hS hl.1 rfl rfl (Nat.le_of_ble_eq_true rfl) d_Machine_push_6 (fun H locs hP hD hS => ?_)
  refine lv_aload_n hx hb d_Machine_push_9 rfl (lv_at hl 0 rfl) ?_
  refine lv_dup hx hb d_Machine_push_10 rfl ?_
  refine va_get (D := (dC, dI)) (ci := 9) (v := .int (u1.1 17)) hx hb hts i_Machine hown hK hP 9 rfl rfl 7 (by decide) (hts _ w_aa5f3dbc94) (fun _ h9 => h9) rfl d_Machine_push_11 ?_
  refine lv_iconst (v := 1) hx hb d_Machine_push_14 (by decide) ?_
  refine lv_iadd hx hb d_Machine_push_15 ?_
  refine va_put (D := (dC, dI)) (ci := 9) (v := .int ((u1.1 17) + 1)) (ty := .int) hx hb hts i_Machine t_Machine t_Machine_ok n_Machine hown hK hP hD hS 9 rfl rfl 7 (by decide) (hts _ w_aa5f3dbc94) (fun _ h9 => h9) rfl (by decide +kernel) rfl rfl (Nat.le_of_ble_eq_true rfl) d_Machine_push_16 (fun H locs hP hD hS => ?_)
  have hP : va_P (dC, dI) vwCl (tcw ad cA (sI u1 17 ((u1.1 17) + 1))) H := hP
  have hD : va_D A (tcw ad cA (sI u1 17 ((u1.1 17) + 1))) := hD
  cases hF
  exact leafV X hP hD hS d_Machine_push_19
theorem d_Machine_truth_0 : decode b_Machine_truth 0 = .ok (.iload_n 0, 1) := by decide +kernel
theorem d_Machine_truth_1 : decode b_Machine_truth 1 = .ok (.ifCond .eq 7, 3) := by decide +kernel
theorem d_Machine_truth_4 : decode b_Machine_truth 4 = .ok (.iconst 1, 1) := by decide +kernel
theorem d_Machine_truth_5 : decode b_Machine_truth 5 = .ok (.goto 4, 3) := by decide +kernel
theorem d_Machine_truth_8 : decode b_Machine_truth 8 = .ok (.iconst 0, 1) := by decide +kernel
theorem d_Machine_truth_9 : decode b_Machine_truth 9 = .ok (.ireturn, 1) := by decide +kernel
def tMachine_truth (σ : St) (a1 : Int32) : Option (Int32) := if a1 = 0 then some 0 else some 1
set_option maxHeartbeats 4000000 in
set_option maxRecDepth 100000 in
theorem ct_Machine_truth (l : Launch) (dC : Nat → ClassId) (dI : Nat → Nat → Nat) (ad : Nat → Nat) (cA : Nat → ClassId) (sz : Nat) {σ : St} {a1 : Int32} {r : Int32} (hF : tMachine_truth σ a1 = some r) : MI l y_Machine_truth b_Machine_truth 1 (some .int) { frames := 0, cells := 0, slots := 0, locals := 0 } (dC, dI) (ttys cA) ad (tcw ad cA) [.int a1] σ sz r σ := by
  refine startM (own := "TinyForge$Machine") (Qc := fun A => QI (dC, dI) (ttys cA) (tcw ad cA) A r σ) rfl rfl (Nat.le_of_ble_eq_true rfl) ?_
  intro p e s m below meth c A H locs ls X hP hD hS hl
  have hl : lv_has ls 1 [(0, .int a1)] := hl
  obtain ⟨hx, hb, hr, hml, hown, hlocks, hts, hA, hK, hZ⟩ := id X
  unfold tMachine_truth at hF
  refine lv_iload_n hx hb d_Machine_truth_0 rfl (lv_at hl 0 rfl) ?_
  refine lv_if_eq (tgt := 8) hx hb d_Machine_truth_1 (by decide) (fun c_1 => ?_) (fun c_1 => ?_)
  · have hF := ifp hF c_1
    refine lv_iconst (v := 0) hx hb d_Machine_truth_8 (by decide) ?_
    cases hF
    exact leafI X hP hD hS d_Machine_truth_9
  · have hF := ifn hF c_1
    refine lv_iconst (v := 1) hx hb d_Machine_truth_4 (by decide) ?_
    refine lv_goto (tgt := 9) hx hb d_Machine_truth_5 (by decide) ?_
    cases hF
    exact leafI X hP hD hS d_Machine_truth_9
theorem d_Machine_decide_0 : decode b_Machine_decide 0 = .ok (.aload_n 0, 1) := by decide +kernel
theorem d_Machine_decide_1 : decode b_Machine_decide 1 = .ok (.invokevirtual 93, 3) := by decide +kernel
theorem d_Machine_decide_4 : decode b_Machine_decide 4 = .ok (.ifCond .eq 7, 3) := by decide +kernel
theorem d_Machine_decide_7 : decode b_Machine_decide 7 = .ok (.iconst 1, 1) := by decide +kernel
theorem d_Machine_decide_8 : decode b_Machine_decide 8 = .ok (.goto 4, 3) := by decide +kernel
theorem d_Machine_decide_11 : decode b_Machine_decide 11 = .ok (.iconst 0, 1) := by decide +kernel
theorem d_Machine_decide_12 : decode b_Machine_decide 12 = .ok (.istore_n 3, 1) := by decide +kernel
theorem d_Machine_decide_13 : decode b_Machine_decide 13 = .ok (.iload_n 3, 1) := by decide +kernel
theorem d_Machine_decide_14 : decode b_Machine_decide 14 = .ok (.iload_n 1, 1) := by decide +kernel
theorem d_Machine_decide_15 : decode b_Machine_decide 15 = .ok (.if_icmp .ne 16, 3) := by decide +kernel
theorem d_Machine_decide_18 : decode b_Machine_decide 18 = .ok (.aload_n 0, 1) := by decide +kernel
theorem d_Machine_decide_19 : decode b_Machine_decide 19 = .ok (.iload_n 3, 1) := by decide +kernel
theorem d_Machine_decide_20 : decode b_Machine_decide 20 = .ok (.invokestatic 133, 3) := by decide +kernel
theorem d_Machine_decide_23 : decode b_Machine_decide 23 = .ok (.invokevirtual 120, 3) := by decide +kernel
theorem d_Machine_decide_26 : decode b_Machine_decide 26 = .ok (.aload_n 0, 1) := by decide +kernel
theorem d_Machine_decide_27 : decode b_Machine_decide 27 = .ok (.iload_n 2, 1) := by decide +kernel
theorem d_Machine_decide_28 : decode b_Machine_decide 28 = .ok (.putfield 37, 3) := by decide +kernel
theorem d_Machine_decide_31 : decode b_Machine_decide 31 = .ok (.return_, 1) := by decide +kernel
def tMachine_decide_b1 (k : Nat → St → Int32 → Int32 → Int32 → Option (St)) (σ : St) (x1 : Int32) (x2 : Int32) (x3 : Int32) : Option (St) := if x3 = x1 then b1 (tMachine_truth σ x3) (fun r4 => b1 (tMachine_push σ r4) (fun u5 => some (sI u5 20 x2))) else some σ
def tMachine_decide_L : Nat → Nat → St → Int32 → Int32 → Int32 → Option (St)
  | 0, _, _, _, _, _ => none
  | n + 1, lab, σ, x1, x2, x3 => match lab with
    | 1 => tMachine_decide_b1 (tMachine_decide_L n) σ x1 x2 x3
    | _ => none
def tMachine_decide (σ : St) (a1 : Int32) (a2 : Int32) : Option (St) := b2 (tMachine_pop σ) (fun r1 u1 => if r1 = 0 then tMachine_decide_L 2000 1 u1 a1 a2 0 else tMachine_decide_L 2000 1 u1 a1 a2 1)
set_option maxHeartbeats 4000000 in
set_option maxRecDepth 100000 in
theorem tMachine_decide_blk {p : Program} {e : Env} {s : State} {m : MethodId} {args : Array Value} {below : List Frame} {meth : Method} {c : Code} {A : Nat → Prop} (l : Launch) (dC : Nat → ClassId) (dI : Nat → Nat → Nat) (ad : Nat → Nat) (cA : Nat → ClassId) {σ' : St} (X : Cx p s m args meth c b_Machine_decide 4 none "TinyForge$Machine" (dC, dI) (ttys cA) ad A) : ∀ n : Nat, (∀ (σ : St) (x1 : Int32) (x2 : Int32) (x3 : Int32) (H : Heap) (locs : List Loc) (ls : Array Slot), tMachine_decide_L n 1 σ x1 x2 x3 = some σ' → va_P (dC, dI) vwCl (tcw ad cA σ) H → va_D A (tcw ad cA σ) → va_S A s.heap H locs → lv_has ls 4 [(0, .ref (ad 9)), (1, .int x1), (2, .int x2)] → W p l e { frames := 2, cells := 0, slots := 0, locals := 43 } s m args below meth c H locs 0 0 (MQ below (QV (dC, dI) (ttys cA) (tcw ad cA) A σ') args s 0 0 A) (F0 m 12 ls [.int x3])) := by
  obtain ⟨hx, hb, hr, hml, hown, hlocks, hts, hA, hK, hZ⟩ := id X
  intro n
  induction n with
  | zero => exact (fun σ x1 x2 x3 H locs ls hF => by cases hF)
  | succ n ihn =>
    refine fun σ x1 x2 x3 H locs ls hF hP hD hS hl => ?_
    · have hF : tMachine_decide_b1 (tMachine_decide_L n) σ x1 x2 x3 = some σ' := hF
      unfold tMachine_decide_b1 at hF
      refine lv_istore_n (lv' := [(3, .int x3), (0, .ref (ad 9)), (1, .int x1), (2, .int x2)]) hx hb d_Machine_decide_12 rfl hl (by decide) rfl (fun ls hl => ?_)
      refine lv_iload_n hx hb d_Machine_decide_13 rfl (lv_at hl 0 rfl) ?_
      refine lv_iload_n hx hb d_Machine_decide_14 rfl (lv_at hl 2 rfl) ?_
      refine lv_icmp_ne (tgt := 31) hx hb d_Machine_decide_15 (by decide) (fun c_3 => ?_) (fun c_3 => ?_)
      · have hF := ifn hF c_3
        cases hF
        exact leafV X hP hD hS d_Machine_decide_31
      · have hF := ifp hF c_3
        refine lv_aload_n hx hb d_Machine_decide_18 rfl (lv_at hl 1 rfl) ?_
        refine lv_iload_n hx hb d_Machine_decide_19 rfl (lv_at hl 0 rfl) ?_
        obtain ⟨r4, h4, hF⟩ := b1E hF
        refine callSI (As := [.int x3]) X (ct_Machine_truth l dC dI ad cA H.size h4) lk_Machine_133 ⟨rfl, rfl, by decide, by decide⟩ hP hD hS hl.1 rfl rfl (Nat.le_of_ble_eq_true rfl) d_Machine_decide_20 (fun H locs hP hD hS => ?_)
        obtain ⟨u5, h5, hF⟩ := b1E hF
        refine callVV (As := [.int r4]) X (ct_Machine_push l dC dI ad cA H.size h5) lk_Machine_120 ⟨rfl, rfl, by decide, by decide⟩ 9 rfl rfl hP hD hS hl.1 rfl rfl (Nat.le_of_ble_eq_true rfl) d_Machine_decide_23 (fun H locs hP hD hS => ?_)
        refine lv_aload_n hx hb d_Machine_decide_26 rfl (lv_at hl 1 rfl) ?_
        refine lv_iload_n hx hb d_Machine_decide_27 rfl (lv_at hl 3 rfl) ?_
        refine va_put (D := (dC, dI)) (ci := 9) (v := .int x2) (ty := .int) hx hb hts i_Machine t_Machine t_Machine_ok n_Machine hown hK hP hD hS 9 rfl rfl 10 (by decide) (hts _ w_2e3703c8c3) (fun _ h9 => h9) rfl (by decide +kernel) rfl rfl (Nat.le_of_ble_eq_true rfl) d_Machine_decide_28 (fun H locs hP hD hS => ?_)
        have hP : va_P (dC, dI) vwCl (tcw ad cA (sI u5 20 x2)) H := hP
        have hD : va_D A (tcw ad cA (sI u5 20 x2)) := hD
        cases hF
        exact leafV X hP hD hS d_Machine_decide_31
set_option maxHeartbeats 4000000 in
set_option maxRecDepth 100000 in
theorem ct_Machine_decide (l : Launch) (dC : Nat → ClassId) (dI : Nat → Nat → Nat) (ad : Nat → Nat) (cA : Nat → ClassId) (sz : Nat) {σ : St} {a1 : Int32} {a2 : Int32} {σ' : St} (hF : tMachine_decide σ a1 a2 = some σ') : MV l y_Machine_decide b_Machine_decide 4 none { frames := 2, cells := 0, slots := 0, locals := 43 } (dC, dI) (ttys cA) ad (tcw ad cA) [.ref (ad 9), .int a1, .int a2] σ sz σ' := by
  refine startM (own := "TinyForge$Machine") (Qc := fun A => QV (dC, dI) (ttys cA) (tcw ad cA) A σ') rfl rfl (Nat.le_of_ble_eq_true rfl) ?_
  intro p e s m below meth c A H locs ls X hP hD hS hl
  have hl : lv_has ls 4 [(0, .ref (ad 9)), (1, .int a1), (2, .int a2)] := hl
  obtain ⟨hx, hb, hr, hml, hown, hlocks, hts, hA, hK, hZ⟩ := id X
  unfold tMachine_decide at hF
  refine lv_aload_n hx hb d_Machine_decide_0 rfl (lv_at hl 0 rfl) ?_
  obtain ⟨r1, u1, h1, hF⟩ := b2E hF
  refine callVI (As := []) X (ct_Machine_pop l dC dI ad cA H.size h1) lk_Machine_93 ⟨rfl, rfl, by decide, by decide⟩ 9 rfl rfl hP hD hS hl.1 rfl rfl (Nat.le_of_ble_eq_true rfl) d_Machine_decide_1 (fun H locs hP hD hS => ?_)
  refine lv_if_eq (tgt := 11) hx hb d_Machine_decide_4 (by decide) (fun c_2 => ?_) (fun c_2 => ?_)
  · have hF := ifp hF c_2
    refine lv_iconst (v := 0) hx hb d_Machine_decide_11 (by decide) ?_
    exact (tMachine_decide_blk l dC dI ad cA X 2000) u1 a1 a2 0 H locs ls hF hP hD hS (lv_sub hl [0, 1, 2] rfl)
  · have hF := ifn hF c_2
    refine lv_iconst (v := 1) hx hb d_Machine_decide_7 (by decide) ?_
    refine lv_goto (tgt := 12) hx hb d_Machine_decide_8 (by decide) ?_
    exact (tMachine_decide_blk l dC dI ad cA X 2000) u1 a1 a2 1 H locs ls hF hP hD hS (lv_sub hl [0, 1, 2] rfl)
theorem d_Machine_fetchElement_0 : decode b_Machine_fetchElement 0 = .ok (.aload_n 0, 1) := by decide +kernel
theorem d_Machine_fetchElement_1 : decode b_Machine_fetchElement 1 = .ok (.invokevirtual 93, 3) := by decide +kernel
theorem d_Machine_fetchElement_4 : decode b_Machine_fetchElement 4 = .ok (.istore_n 3, 1) := by decide +kernel
theorem d_Machine_fetchElement_5 : decode b_Machine_fetchElement 5 = .ok (.iload_n 3, 1) := by decide +kernel
theorem d_Machine_fetchElement_6 : decode b_Machine_fetchElement 6 = .ok (.ifCond .lt 8, 3) := by decide +kernel
theorem d_Machine_fetchElement_9 : decode b_Machine_fetchElement 9 = .ok (.iload_n 3, 1) := by decide +kernel
theorem d_Machine_fetchElement_10 : decode b_Machine_fetchElement 10 = .ok (.iload_n 2, 1) := by decide +kernel
theorem d_Machine_fetchElement_11 : decode b_Machine_fetchElement 11 = .ok (.if_icmp .lt 11, 3) := by decide +kernel
theorem d_Machine_fetchElement_14 : decode b_Machine_fetchElement 14 = .ok (.aload_n 0, 1) := by decide +kernel
theorem d_Machine_fetchElement_15 : decode b_Machine_fetchElement 15 = .ok (.iconst 1, 1) := by decide +kernel
theorem d_Machine_fetchElement_16 : decode b_Machine_fetchElement 16 = .ok (.putfield 40, 3) := by decide +kernel
theorem d_Machine_fetchElement_19 : decode b_Machine_fetchElement 19 = .ok (.goto 15, 3) := by decide +kernel
theorem d_Machine_fetchElement_22 : decode b_Machine_fetchElement 22 = .ok (.aload_n 0, 1) := by decide +kernel
theorem d_Machine_fetchElement_23 : decode b_Machine_fetchElement 23 = .ok (.aload_n 0, 1) := by decide +kernel
theorem d_Machine_fetchElement_24 : decode b_Machine_fetchElement 24 = .ok (.getfield 15, 3) := by decide +kernel
theorem d_Machine_fetchElement_27 : decode b_Machine_fetchElement 27 = .ok (.iload_n 1, 1) := by decide +kernel
theorem d_Machine_fetchElement_28 : decode b_Machine_fetchElement 28 = .ok (.iload_n 3, 1) := by decide +kernel
theorem d_Machine_fetchElement_29 : decode b_Machine_fetchElement 29 = .ok (.iadd, 1) := by decide +kernel
theorem d_Machine_fetchElement_30 : decode b_Machine_fetchElement 30 = .ok (.iaload, 1) := by decide +kernel
theorem d_Machine_fetchElement_31 : decode b_Machine_fetchElement 31 = .ok (.invokevirtual 120, 3) := by decide +kernel
theorem d_Machine_fetchElement_34 : decode b_Machine_fetchElement 34 = .ok (.return_, 1) := by decide +kernel
def tMachine_fetchElement (σ : St) (a1 : Int32) (a2 : Int32) : Option (St) := b2 (tMachine_pop σ) (fun r1 u1 => if r1 < 0 then some (sI u1 21 1) else if r1 < a2 then gd (inB (a1 + r1) 64) (b1 (tMachine_push u1 ((u1.2.2.1 11) (a1 + r1).toNatClampNeg)) (fun u5 => some u5)) else some (sI u1 21 1))
set_option maxHeartbeats 4000000 in
set_option maxRecDepth 100000 in
theorem ct_Machine_fetchElement (l : Launch) (dC : Nat → ClassId) (dI : Nat → Nat → Nat) (ad : Nat → Nat) (cA : Nat → ClassId) (sz : Nat) {σ : St} {a1 : Int32} {a2 : Int32} {σ' : St} (hF : tMachine_fetchElement σ a1 a2 = some σ') : MV l y_Machine_fetchElement b_Machine_fetchElement 4 none { frames := 2, cells := 0, slots := 0, locals := 43 } (dC, dI) (ttys cA) ad (tcw ad cA) [.ref (ad 9), .int a1, .int a2] σ sz σ' := by
  refine startM (own := "TinyForge$Machine") (Qc := fun A => QV (dC, dI) (ttys cA) (tcw ad cA) A σ') rfl rfl (Nat.le_of_ble_eq_true rfl) ?_
  intro p e s m below meth c A H locs ls X hP hD hS hl
  have hl : lv_has ls 4 [(0, .ref (ad 9)), (1, .int a1), (2, .int a2)] := hl
  obtain ⟨hx, hb, hr, hml, hown, hlocks, hts, hA, hK, hZ⟩ := id X
  unfold tMachine_fetchElement at hF
  refine lv_aload_n hx hb d_Machine_fetchElement_0 rfl (lv_at hl 0 rfl) ?_
  obtain ⟨r1, u1, h1, hF⟩ := b2E hF
  refine callVI (As := []) X (ct_Machine_pop l dC dI ad cA H.size h1) lk_Machine_93 ⟨rfl, rfl, by decide, by decide⟩ 9 rfl rfl hP hD hS hl.1 rfl rfl (Nat.le_of_ble_eq_true rfl) d_Machine_fetchElement_1 (fun H locs hP hD hS => ?_)
  refine lv_istore_n (lv' := [(3, .int r1), (0, .ref (ad 9)), (1, .int a1), (2, .int a2)]) hx hb d_Machine_fetchElement_4 rfl hl (by decide) rfl (fun ls hl => ?_)
  refine lv_iload_n hx hb d_Machine_fetchElement_5 rfl (lv_at hl 0 rfl) ?_
  refine lv_if_lt (tgt := 14) hx hb d_Machine_fetchElement_6 (by decide) (fun c_2 => ?_) (fun c_2 => ?_)
  · have hF := ifp hF c_2
    refine lv_aload_n hx hb d_Machine_fetchElement_14 rfl (lv_at hl 1 rfl) ?_
    refine lv_iconst (v := 1) hx hb d_Machine_fetchElement_15 (by decide) ?_
    refine va_put (D := (dC, dI)) (ci := 9) (v := .int 1) (ty := .int) hx hb hts i_Machine t_Machine t_Machine_ok n_Machine hown hK hP hD hS 9 rfl rfl 11 (by decide) (hts _ w_de4404caec) (fun _ h9 => h9) rfl (by decide +kernel) rfl rfl (Nat.le_of_ble_eq_true rfl) d_Machine_fetchElement_16 (fun H locs hP hD hS => ?_)
    have hP : va_P (dC, dI) vwCl (tcw ad cA (sI u1 21 1)) H := hP
    have hD : va_D A (tcw ad cA (sI u1 21 1)) := hD
    refine lv_goto (tgt := 34) hx hb d_Machine_fetchElement_19 (by decide) ?_
    cases hF
    exact leafV X hP hD hS d_Machine_fetchElement_34
  · have hF := ifn hF c_2
    refine lv_iload_n hx hb d_Machine_fetchElement_9 rfl (lv_at hl 0 rfl) ?_
    refine lv_iload_n hx hb d_Machine_fetchElement_10 rfl (lv_at hl 3 rfl) ?_
    refine lv_icmp_lt (tgt := 22) hx hb d_Machine_fetchElement_11 (by decide) (fun c_3 => ?_) (fun c_3 => ?_)
    · have hF := ifp hF c_3
      refine lv_aload_n hx hb d_Machine_fetchElement_22 rfl (lv_at hl 1 rfl) ?_
      refine lv_aload_n hx hb d_Machine_fetchElement_23 rfl (lv_at hl 1 rfl) ?_
      refine va_get (D := (dC, dI)) (ci := 9) (v := .ref (ad 26)) hx hb hts i_Machine hown hK hP 9 rfl rfl 3 (by decide) (hts _ w_577718637b) (fun _ h9 => h9) rfl d_Machine_fetchElement_24 ?_
      refine lv_iload_n hx hb d_Machine_fetchElement_27 rfl (lv_at hl 2 rfl) ?_
      refine lv_iload_n hx hb d_Machine_fetchElement_28 rfl (lv_at hl 0 rfl) ?_
      refine lv_iadd hx hb d_Machine_fetchElement_29 ?_
      obtain ⟨g_4, hF⟩ := gdE hF
      refine va_iald (f := (u1.2.2.1 11)) hx hb hK hP 26 0 rfl rfl (inE g_4) d_Machine_fetchElement_30 ?_
      obtain ⟨u5, h5, hF⟩ := b1E hF
      refine callVV (As := [.int ((u1.2.2.1 11) (a1 + r1).toNatClampNeg)]) X (ct_Machine_push l dC dI ad cA H.size h5) lk_Machine_120 ⟨rfl, rfl, by decide, by decide⟩ 9 rfl rfl hP hD hS hl.1 rfl rfl (Nat.le_of_ble_eq_true rfl) d_Machine_fetchElement_31 (fun H locs hP hD hS => ?_)
      cases hF
      exact leafV X hP hD hS d_Machine_fetchElement_34
    · have hF := ifn hF c_3
      refine lv_aload_n hx hb d_Machine_fetchElement_14 rfl (lv_at hl 1 rfl) ?_
      refine lv_iconst (v := 1) hx hb d_Machine_fetchElement_15 (by decide) ?_
      refine va_put (D := (dC, dI)) (ci := 9) (v := .int 1) (ty := .int) hx hb hts i_Machine t_Machine t_Machine_ok n_Machine hown hK hP hD hS 9 rfl rfl 11 (by decide) (hts _ w_de4404caec) (fun _ h9 => h9) rfl (by decide +kernel) rfl rfl (Nat.le_of_ble_eq_true rfl) d_Machine_fetchElement_16 (fun H locs hP hD hS => ?_)
      have hP : va_P (dC, dI) vwCl (tcw ad cA (sI u1 21 1)) H := hP
      have hD : va_D A (tcw ad cA (sI u1 21 1)) := hD
      refine lv_goto (tgt := 34) hx hb d_Machine_fetchElement_19 (by decide) ?_
      cases hF
      exact leafV X hP hD hS d_Machine_fetchElement_34
theorem d_Machine_leave_0 : decode b_Machine_leave 0 = .ok (.aload_n 0, 1) := by decide +kernel
theorem d_Machine_leave_1 : decode b_Machine_leave 1 = .ok (.getfield 34, 3) := by decide +kernel
theorem d_Machine_leave_4 : decode b_Machine_leave 4 = .ok (.iconst 1, 1) := by decide +kernel
theorem d_Machine_leave_5 : decode b_Machine_leave 5 = .ok (.if_icmp .gt 14, 3) := by decide +kernel
theorem d_Machine_leave_8 : decode b_Machine_leave 8 = .ok (.aload_n 0, 1) := by decide +kernel
theorem d_Machine_leave_9 : decode b_Machine_leave 9 = .ok (.iload_n 1, 1) := by decide +kernel
theorem d_Machine_leave_10 : decode b_Machine_leave 10 = .ok (.putfield 49, 3) := by decide +kernel
theorem d_Machine_leave_13 : decode b_Machine_leave 13 = .ok (.aload_n 0, 1) := by decide +kernel
theorem d_Machine_leave_14 : decode b_Machine_leave 14 = .ok (.iconst 0, 1) := by decide +kernel
theorem d_Machine_leave_15 : decode b_Machine_leave 15 = .ok (.putfield 40, 3) := by decide +kernel
theorem d_Machine_leave_18 : decode b_Machine_leave 18 = .ok (.return_, 1) := by decide +kernel
theorem d_Machine_leave_19 : decode b_Machine_leave 19 = .ok (.aload_n 0, 1) := by decide +kernel
theorem d_Machine_leave_20 : decode b_Machine_leave 20 = .ok (.dup, 1) := by decide +kernel
theorem d_Machine_leave_21 : decode b_Machine_leave 21 = .ok (.getfield 34, 3) := by decide +kernel
theorem d_Machine_leave_24 : decode b_Machine_leave 24 = .ok (.iconst 1, 1) := by decide +kernel
theorem d_Machine_leave_25 : decode b_Machine_leave 25 = .ok (.isub, 1) := by decide +kernel
theorem d_Machine_leave_26 : decode b_Machine_leave 26 = .ok (.putfield 34, 3) := by decide +kernel
theorem d_Machine_leave_29 : decode b_Machine_leave 29 = .ok (.aload_n 0, 1) := by decide +kernel
theorem d_Machine_leave_30 : decode b_Machine_leave 30 = .ok (.aload_n 0, 1) := by decide +kernel
theorem d_Machine_leave_31 : decode b_Machine_leave 31 = .ok (.getfield 31, 3) := by decide +kernel
theorem d_Machine_leave_34 : decode b_Machine_leave 34 = .ok (.putfield 27, 3) := by decide +kernel
theorem d_Machine_leave_37 : decode b_Machine_leave 37 = .ok (.aload_n 0, 1) := by decide +kernel
theorem d_Machine_leave_38 : decode b_Machine_leave 38 = .ok (.aload_n 0, 1) := by decide +kernel
theorem d_Machine_leave_39 : decode b_Machine_leave 39 = .ok (.getfield 21, 3) := by decide +kernel
theorem d_Machine_leave_42 : decode b_Machine_leave 42 = .ok (.aload_n 0, 1) := by decide +kernel
theorem d_Machine_leave_43 : decode b_Machine_leave 43 = .ok (.getfield 34, 3) := by decide +kernel
theorem d_Machine_leave_46 : decode b_Machine_leave 46 = .ok (.iaload, 1) := by decide +kernel
theorem d_Machine_leave_47 : decode b_Machine_leave 47 = .ok (.putfield 31, 3) := by decide +kernel
theorem d_Machine_leave_50 : decode b_Machine_leave 50 = .ok (.aload_n 0, 1) := by decide +kernel
theorem d_Machine_leave_51 : decode b_Machine_leave 51 = .ok (.aload_n 0, 1) := by decide +kernel
theorem d_Machine_leave_52 : decode b_Machine_leave 52 = .ok (.getfield 18, 3) := by decide +kernel
theorem d_Machine_leave_55 : decode b_Machine_leave 55 = .ok (.aload_n 0, 1) := by decide +kernel
theorem d_Machine_leave_56 : decode b_Machine_leave 56 = .ok (.getfield 34, 3) := by decide +kernel
theorem d_Machine_leave_59 : decode b_Machine_leave 59 = .ok (.iaload, 1) := by decide +kernel
theorem d_Machine_leave_60 : decode b_Machine_leave 60 = .ok (.putfield 37, 3) := by decide +kernel
theorem d_Machine_leave_63 : decode b_Machine_leave 63 = .ok (.aload_n 0, 1) := by decide +kernel
theorem d_Machine_leave_64 : decode b_Machine_leave 64 = .ok (.iload_n 1, 1) := by decide +kernel
theorem d_Machine_leave_65 : decode b_Machine_leave 65 = .ok (.invokevirtual 120, 3) := by decide +kernel
theorem d_Machine_leave_68 : decode b_Machine_leave 68 = .ok (.return_, 1) := by decide +kernel
def tMachine_leave (σ : St) (a1 : Int32) : Option (St) := if (1 : Int32) < (σ.1 19) then gd (inB ((σ.1 19) - 1) 12) (gd (inB ((σ.1 19) - 1) 12) (b1 (tMachine_push (sI (sI (sI (sI σ 19 ((σ.1 19) - 1)) 17 (σ.1 18)) 18 ((σ.2.2.1 13) ((σ.1 19) - 1).toNatClampNeg)) 20 ((σ.2.2.1 12) ((σ.1 19) - 1).toNatClampNeg)) a1) (fun u4 => some u4))) else some (sI (sI σ 24 a1) 21 0)
set_option maxHeartbeats 4000000 in
set_option maxRecDepth 100000 in
theorem ct_Machine_leave (l : Launch) (dC : Nat → ClassId) (dI : Nat → Nat → Nat) (ad : Nat → Nat) (cA : Nat → ClassId) (sz : Nat) {σ : St} {a1 : Int32} {σ' : St} (hF : tMachine_leave σ a1 = some σ') : MV l y_Machine_leave b_Machine_leave 2 none { frames := 2, cells := 0, slots := 0, locals := 43 } (dC, dI) (ttys cA) ad (tcw ad cA) [.ref (ad 9), .int a1] σ sz σ' := by
  refine startM (own := "TinyForge$Machine") (Qc := fun A => QV (dC, dI) (ttys cA) (tcw ad cA) A σ') rfl rfl (Nat.le_of_ble_eq_true rfl) ?_
  intro p e s m below meth c A H locs ls X hP hD hS hl
  have hl : lv_has ls 2 [(0, .ref (ad 9)), (1, .int a1)] := hl
  obtain ⟨hx, hb, hr, hml, hown, hlocks, hts, hA, hK, hZ⟩ := id X
  unfold tMachine_leave at hF
  refine lv_aload_n hx hb d_Machine_leave_0 rfl (lv_at hl 0 rfl) ?_
  refine va_get (D := (dC, dI)) (ci := 9) (v := .int (σ.1 19)) hx hb hts i_Machine hown hK hP 9 rfl rfl 9 (by decide) (hts _ w_bac89a80ba) (fun _ h9 => h9) rfl d_Machine_leave_1 ?_
  refine lv_iconst (v := 1) hx hb d_Machine_leave_4 (by decide) ?_
  refine lv_icmp_gt (tgt := 19) hx hb d_Machine_leave_5 (by decide) (fun c_1 => ?_) (fun c_1 => ?_)
  · have hF := ifp hF c_1
    refine lv_aload_n hx hb d_Machine_leave_19 rfl (lv_at hl 0 rfl) ?_
    refine lv_dup hx hb d_Machine_leave_20 rfl ?_
    refine va_get (D := (dC, dI)) (ci := 9) (v := .int (σ.1 19)) hx hb hts i_Machine hown hK hP 9 rfl rfl 9 (by decide) (hts _ w_bac89a80ba) (fun _ h9 => h9) rfl d_Machine_leave_21 ?_
    refine lv_iconst (v := 1) hx hb d_Machine_leave_24 (by decide) ?_
    refine lv_isub hx hb d_Machine_leave_25 ?_
    refine va_put (D := (dC, dI)) (ci := 9) (v := .int ((σ.1 19) - 1)) (ty := .int) hx hb hts i_Machine t_Machine t_Machine_ok n_Machine hown hK hP hD hS 9 rfl rfl 9 (by decide) (hts _ w_bac89a80ba) (fun _ h9 => h9) rfl (by decide +kernel) rfl rfl (Nat.le_of_ble_eq_true rfl) d_Machine_leave_26 (fun H locs hP hD hS => ?_)
    have hP : va_P (dC, dI) vwCl (tcw ad cA (sI σ 19 ((σ.1 19) - 1))) H := hP
    have hD : va_D A (tcw ad cA (sI σ 19 ((σ.1 19) - 1))) := hD
    refine lv_aload_n hx hb d_Machine_leave_29 rfl (lv_at hl 0 rfl) ?_
    refine lv_aload_n hx hb d_Machine_leave_30 rfl (lv_at hl 0 rfl) ?_
    refine va_get (D := (dC, dI)) (ci := 9) (v := .int (σ.1 18)) hx hb hts i_Machine hown hK hP 9 rfl rfl 8 (by decide) (hts _ w_b523296ea4) (fun _ h9 => h9) rfl d_Machine_leave_31 ?_
    refine va_put (D := (dC, dI)) (ci := 9) (v := .int (σ.1 18)) (ty := .int) hx hb hts i_Machine t_Machine t_Machine_ok n_Machine hown hK hP hD hS 9 rfl rfl 7 (by decide) (hts _ w_aa5f3dbc94) (fun _ h9 => h9) rfl (by decide +kernel) rfl rfl (Nat.le_of_ble_eq_true rfl) d_Machine_leave_34 (fun H locs hP hD hS => ?_)
    have hP : va_P (dC, dI) vwCl (tcw ad cA (sI (sI σ 19 ((σ.1 19) - 1)) 17 (σ.1 18))) H := hP
    have hD : va_D A (tcw ad cA (sI (sI σ 19 ((σ.1 19) - 1)) 17 (σ.1 18))) := hD
    refine lv_aload_n hx hb d_Machine_leave_37 rfl (lv_at hl 0 rfl) ?_
    refine lv_aload_n hx hb d_Machine_leave_38 rfl (lv_at hl 0 rfl) ?_
    refine va_get (D := (dC, dI)) (ci := 9) (v := .ref (ad 28)) hx hb hts i_Machine hown hK hP 9 rfl rfl 5 (by decide) (hts _ w_2af776c817) (fun _ h9 => h9) rfl d_Machine_leave_39 ?_
    refine lv_aload_n hx hb d_Machine_leave_42 rfl (lv_at hl 0 rfl) ?_
    refine va_get (D := (dC, dI)) (ci := 9) (v := .int ((σ.1 19) - 1)) hx hb hts i_Machine hown hK hP 9 rfl rfl 9 (by decide) (hts _ w_bac89a80ba) (fun _ h9 => h9) rfl d_Machine_leave_43 ?_
    obtain ⟨g_2, hF⟩ := gdE hF
    refine va_iald (f := (σ.2.2.1 13)) hx hb hK hP 28 0 rfl rfl (inE g_2) d_Machine_leave_46 ?_
    refine va_put (D := (dC, dI)) (ci := 9) (v := .int ((σ.2.2.1 13) ((σ.1 19) - 1).toNatClampNeg)) (ty := .int) hx hb hts i_Machine t_Machine t_Machine_ok n_Machine hown hK hP hD hS 9 rfl rfl 8 (by decide) (hts _ w_b523296ea4) (fun _ h9 => h9) rfl (by decide +kernel) rfl rfl (Nat.le_of_ble_eq_true rfl) d_Machine_leave_47 (fun H locs hP hD hS => ?_)
    have hP : va_P (dC, dI) vwCl (tcw ad cA (sI (sI (sI σ 19 ((σ.1 19) - 1)) 17 (σ.1 18)) 18 ((σ.2.2.1 13) ((σ.1 19) - 1).toNatClampNeg))) H := hP
    have hD : va_D A (tcw ad cA (sI (sI (sI σ 19 ((σ.1 19) - 1)) 17 (σ.1 18)) 18 ((σ.2.2.1 13) ((σ.1 19) - 1).toNatClampNeg))) := hD
    refine lv_aload_n hx hb d_Machine_leave_50 rfl (lv_at hl 0 rfl) ?_
    refine lv_aload_n hx hb d_Machine_leave_51 rfl (lv_at hl 0 rfl) ?_
    refine va_get (D := (dC, dI)) (ci := 9) (v := .ref (ad 27)) hx hb hts i_Machine hown hK hP 9 rfl rfl 4 (by decide) (hts _ w_1a4af3dd09) (fun _ h9 => h9) rfl d_Machine_leave_52 ?_
    refine lv_aload_n hx hb d_Machine_leave_55 rfl (lv_at hl 0 rfl) ?_
    refine va_get (D := (dC, dI)) (ci := 9) (v := .int ((σ.1 19) - 1)) hx hb hts i_Machine hown hK hP 9 rfl rfl 9 (by decide) (hts _ w_bac89a80ba) (fun _ h9 => h9) rfl d_Machine_leave_56 ?_
    obtain ⟨g_3, hF⟩ := gdE hF
    refine va_iald (f := (σ.2.2.1 12)) hx hb hK hP 27 0 rfl rfl (inE g_3) d_Machine_leave_59 ?_
    refine va_put (D := (dC, dI)) (ci := 9) (v := .int ((σ.2.2.1 12) ((σ.1 19) - 1).toNatClampNeg)) (ty := .int) hx hb hts i_Machine t_Machine t_Machine_ok n_Machine hown hK hP hD hS 9 rfl rfl 10 (by decide) (hts _ w_2e3703c8c3) (fun _ h9 => h9) rfl (by decide +kernel) rfl rfl (Nat.le_of_ble_eq_true rfl) d_Machine_leave_60 (fun H locs hP hD hS => ?_)
    have hP : va_P (dC, dI) vwCl (tcw ad cA (sI (sI (sI (sI σ 19 ((σ.1 19) - 1)) 17 (σ.1 18)) 18 ((σ.2.2.1 13) ((σ.1 19) - 1).toNatClampNeg)) 20 ((σ.2.2.1 12) ((σ.1 19) - 1).toNatClampNeg))) H := hP
    have hD : va_D A (tcw ad cA (sI (sI (sI (sI σ 19 ((σ.1 19) - 1)) 17 (σ.1 18)) 18 ((σ.2.2.1 13) ((σ.1 19) - 1).toNatClampNeg)) 20 ((σ.2.2.1 12) ((σ.1 19) - 1).toNatClampNeg))) := hD
    refine lv_aload_n hx hb d_Machine_leave_63 rfl (lv_at hl 0 rfl) ?_
    refine lv_iload_n hx hb d_Machine_leave_64 rfl (lv_at hl 1 rfl) ?_
    obtain ⟨u4, h4, hF⟩ := b1E hF
    refine callVV (As := [.int a1]) X (ct_Machine_push l dC dI ad cA H.size h4) lk_Machine_120 ⟨rfl, rfl, by decide, by decide⟩ 9 rfl rfl hP hD hS hl.1 rfl rfl (Nat.le_of_ble_eq_true rfl) d_Machine_leave_65 (fun H locs hP hD hS => ?_)
    cases hF
    exact leafV X hP hD hS d_Machine_leave_68
  · have hF := ifn hF c_1
    refine lv_aload_n hx hb d_Machine_leave_8 rfl (lv_at hl 0 rfl) ?_
    refine lv_iload_n hx hb d_Machine_leave_9 rfl (lv_at hl 1 rfl) ?_
    refine va_put (D := (dC, dI)) (ci := 9) (v := .int a1) (ty := .int) hx hb hts i_Machine t_Machine t_Machine_ok n_Machine hown hK hP hD hS 9 rfl rfl 14 (by decide) (hts _ w_de0635e65e) (fun _ h9 => h9) rfl (by decide +kernel) rfl rfl (Nat.le_of_ble_eq_true rfl) d_Machine_leave_10 (fun H locs hP hD hS => ?_)
    have hP : va_P (dC, dI) vwCl (tcw ad cA (sI σ 24 a1)) H := hP
    have hD : va_D A (tcw ad cA (sI σ 24 a1)) := hD
    refine lv_aload_n hx hb d_Machine_leave_13 rfl (lv_at hl 0 rfl) ?_
    refine lv_iconst (v := 0) hx hb d_Machine_leave_14 (by decide) ?_
    refine va_put (D := (dC, dI)) (ci := 9) (v := .int 0) (ty := .int) hx hb hts i_Machine t_Machine t_Machine_ok n_Machine hown hK hP hD hS 9 rfl rfl 11 (by decide) (hts _ w_de4404caec) (fun _ h9 => h9) rfl (by decide +kernel) rfl rfl (Nat.le_of_ble_eq_true rfl) d_Machine_leave_15 (fun H locs hP hD hS => ?_)
    have hP : va_P (dC, dI) vwCl (tcw ad cA (sI (sI σ 24 a1) 21 0)) H := hP
    have hD : va_D A (tcw ad cA (sI (sI σ 24 a1) 21 0)) := hD
    cases hF
    exact leafV X hP hD hS d_Machine_leave_18
theorem d_Machine_workedOut_0 : decode b_Machine_workedOut 0 = .ok (.iload_n 0, 1) := by decide +kernel
theorem d_Machine_workedOut_1 : decode b_Machine_workedOut 1 = .ok (.lookupswitch 197 #[(37, 115), (42, 99), (43, 91), (45, 95), (47, 103), (60, 127), (62, 141), (316, 155), (317, 183), (318, 169)], 91) := by decide +kernel
theorem d_Machine_workedOut_92 : decode b_Machine_workedOut 92 = .ok (.iload_n 1, 1) := by decide +kernel
theorem d_Machine_workedOut_93 : decode b_Machine_workedOut 93 = .ok (.iload_n 2, 1) := by decide +kernel
theorem d_Machine_workedOut_94 : decode b_Machine_workedOut 94 = .ok (.iadd, 1) := by decide +kernel
theorem d_Machine_workedOut_95 : decode b_Machine_workedOut 95 = .ok (.ireturn, 1) := by decide +kernel
theorem d_Machine_workedOut_96 : decode b_Machine_workedOut 96 = .ok (.iload_n 1, 1) := by decide +kernel
theorem d_Machine_workedOut_97 : decode b_Machine_workedOut 97 = .ok (.iload_n 2, 1) := by decide +kernel
theorem d_Machine_workedOut_98 : decode b_Machine_workedOut 98 = .ok (.isub, 1) := by decide +kernel
theorem d_Machine_workedOut_99 : decode b_Machine_workedOut 99 = .ok (.ireturn, 1) := by decide +kernel
theorem d_Machine_workedOut_100 : decode b_Machine_workedOut 100 = .ok (.iload_n 1, 1) := by decide +kernel
theorem d_Machine_workedOut_101 : decode b_Machine_workedOut 101 = .ok (.iload_n 2, 1) := by decide +kernel
theorem d_Machine_workedOut_102 : decode b_Machine_workedOut 102 = .ok (.imul, 1) := by decide +kernel
theorem d_Machine_workedOut_103 : decode b_Machine_workedOut 103 = .ok (.ireturn, 1) := by decide +kernel
theorem d_Machine_workedOut_104 : decode b_Machine_workedOut 104 = .ok (.iload_n 2, 1) := by decide +kernel
theorem d_Machine_workedOut_105 : decode b_Machine_workedOut 105 = .ok (.ifCond .ne 7, 3) := by decide +kernel
theorem d_Machine_workedOut_108 : decode b_Machine_workedOut 108 = .ok (.iconst (-1), 1) := by decide +kernel
theorem d_Machine_workedOut_109 : decode b_Machine_workedOut 109 = .ok (.goto 6, 3) := by decide +kernel
theorem d_Machine_workedOut_112 : decode b_Machine_workedOut 112 = .ok (.iload_n 1, 1) := by decide +kernel
theorem d_Machine_workedOut_113 : decode b_Machine_workedOut 113 = .ok (.iload_n 2, 1) := by decide +kernel
theorem d_Machine_workedOut_114 : decode b_Machine_workedOut 114 = .ok (.idiv, 1) := by decide +kernel
theorem d_Machine_workedOut_115 : decode b_Machine_workedOut 115 = .ok (.ireturn, 1) := by decide +kernel
theorem d_Machine_workedOut_116 : decode b_Machine_workedOut 116 = .ok (.iload_n 2, 1) := by decide +kernel
theorem d_Machine_workedOut_117 : decode b_Machine_workedOut 117 = .ok (.ifCond .ne 7, 3) := by decide +kernel
theorem d_Machine_workedOut_120 : decode b_Machine_workedOut 120 = .ok (.iload_n 1, 1) := by decide +kernel
theorem d_Machine_workedOut_121 : decode b_Machine_workedOut 121 = .ok (.goto 6, 3) := by decide +kernel
theorem d_Machine_workedOut_124 : decode b_Machine_workedOut 124 = .ok (.iload_n 1, 1) := by decide +kernel
theorem d_Machine_workedOut_125 : decode b_Machine_workedOut 125 = .ok (.iload_n 2, 1) := by decide +kernel
theorem d_Machine_workedOut_126 : decode b_Machine_workedOut 126 = .ok (.irem, 1) := by decide +kernel
theorem d_Machine_workedOut_127 : decode b_Machine_workedOut 127 = .ok (.ireturn, 1) := by decide +kernel
theorem d_Machine_workedOut_128 : decode b_Machine_workedOut 128 = .ok (.iload_n 1, 1) := by decide +kernel
theorem d_Machine_workedOut_129 : decode b_Machine_workedOut 129 = .ok (.iload_n 2, 1) := by decide +kernel
theorem d_Machine_workedOut_130 : decode b_Machine_workedOut 130 = .ok (.if_icmp .ge 7, 3) := by decide +kernel
theorem d_Machine_workedOut_133 : decode b_Machine_workedOut 133 = .ok (.iconst 1, 1) := by decide +kernel
theorem d_Machine_workedOut_134 : decode b_Machine_workedOut 134 = .ok (.goto 4, 3) := by decide +kernel
theorem d_Machine_workedOut_137 : decode b_Machine_workedOut 137 = .ok (.iconst 0, 1) := by decide +kernel
theorem d_Machine_workedOut_138 : decode b_Machine_workedOut 138 = .ok (.invokestatic 133, 3) := by decide +kernel
theorem d_Machine_workedOut_141 : decode b_Machine_workedOut 141 = .ok (.ireturn, 1) := by decide +kernel
theorem d_Machine_workedOut_142 : decode b_Machine_workedOut 142 = .ok (.iload_n 1, 1) := by decide +kernel
theorem d_Machine_workedOut_143 : decode b_Machine_workedOut 143 = .ok (.iload_n 2, 1) := by decide +kernel
theorem d_Machine_workedOut_144 : decode b_Machine_workedOut 144 = .ok (.if_icmp .le 7, 3) := by decide +kernel
theorem d_Machine_workedOut_147 : decode b_Machine_workedOut 147 = .ok (.iconst 1, 1) := by decide +kernel
theorem d_Machine_workedOut_148 : decode b_Machine_workedOut 148 = .ok (.goto 4, 3) := by decide +kernel
theorem d_Machine_workedOut_151 : decode b_Machine_workedOut 151 = .ok (.iconst 0, 1) := by decide +kernel
theorem d_Machine_workedOut_152 : decode b_Machine_workedOut 152 = .ok (.invokestatic 133, 3) := by decide +kernel
theorem d_Machine_workedOut_155 : decode b_Machine_workedOut 155 = .ok (.ireturn, 1) := by decide +kernel
theorem d_Machine_workedOut_156 : decode b_Machine_workedOut 156 = .ok (.iload_n 1, 1) := by decide +kernel
theorem d_Machine_workedOut_157 : decode b_Machine_workedOut 157 = .ok (.iload_n 2, 1) := by decide +kernel
theorem d_Machine_workedOut_158 : decode b_Machine_workedOut 158 = .ok (.if_icmp .gt 7, 3) := by decide +kernel
theorem d_Machine_workedOut_161 : decode b_Machine_workedOut 161 = .ok (.iconst 1, 1) := by decide +kernel
theorem d_Machine_workedOut_162 : decode b_Machine_workedOut 162 = .ok (.goto 4, 3) := by decide +kernel
theorem d_Machine_workedOut_165 : decode b_Machine_workedOut 165 = .ok (.iconst 0, 1) := by decide +kernel
theorem d_Machine_workedOut_166 : decode b_Machine_workedOut 166 = .ok (.invokestatic 133, 3) := by decide +kernel
theorem d_Machine_workedOut_169 : decode b_Machine_workedOut 169 = .ok (.ireturn, 1) := by decide +kernel
theorem d_Machine_workedOut_170 : decode b_Machine_workedOut 170 = .ok (.iload_n 1, 1) := by decide +kernel
theorem d_Machine_workedOut_171 : decode b_Machine_workedOut 171 = .ok (.iload_n 2, 1) := by decide +kernel
theorem d_Machine_workedOut_172 : decode b_Machine_workedOut 172 = .ok (.if_icmp .lt 7, 3) := by decide +kernel
theorem d_Machine_workedOut_175 : decode b_Machine_workedOut 175 = .ok (.iconst 1, 1) := by decide +kernel
theorem d_Machine_workedOut_176 : decode b_Machine_workedOut 176 = .ok (.goto 4, 3) := by decide +kernel
theorem d_Machine_workedOut_179 : decode b_Machine_workedOut 179 = .ok (.iconst 0, 1) := by decide +kernel
theorem d_Machine_workedOut_180 : decode b_Machine_workedOut 180 = .ok (.invokestatic 133, 3) := by decide +kernel
theorem d_Machine_workedOut_183 : decode b_Machine_workedOut 183 = .ok (.ireturn, 1) := by decide +kernel
theorem d_Machine_workedOut_184 : decode b_Machine_workedOut 184 = .ok (.iload_n 1, 1) := by decide +kernel
theorem d_Machine_workedOut_185 : decode b_Machine_workedOut 185 = .ok (.iload_n 2, 1) := by decide +kernel
theorem d_Machine_workedOut_186 : decode b_Machine_workedOut 186 = .ok (.if_icmp .ne 7, 3) := by decide +kernel
theorem d_Machine_workedOut_189 : decode b_Machine_workedOut 189 = .ok (.iconst 1, 1) := by decide +kernel
theorem d_Machine_workedOut_190 : decode b_Machine_workedOut 190 = .ok (.goto 4, 3) := by decide +kernel
theorem d_Machine_workedOut_193 : decode b_Machine_workedOut 193 = .ok (.iconst 0, 1) := by decide +kernel
theorem d_Machine_workedOut_194 : decode b_Machine_workedOut 194 = .ok (.invokestatic 133, 3) := by decide +kernel
theorem d_Machine_workedOut_197 : decode b_Machine_workedOut 197 = .ok (.ireturn, 1) := by decide +kernel
theorem d_Machine_workedOut_198 : decode b_Machine_workedOut 198 = .ok (.iload_n 1, 1) := by decide +kernel
theorem d_Machine_workedOut_199 : decode b_Machine_workedOut 199 = .ok (.iload_n 2, 1) := by decide +kernel
theorem d_Machine_workedOut_200 : decode b_Machine_workedOut 200 = .ok (.if_icmp .eq 7, 3) := by decide +kernel
theorem d_Machine_workedOut_203 : decode b_Machine_workedOut 203 = .ok (.iconst 1, 1) := by decide +kernel
theorem d_Machine_workedOut_204 : decode b_Machine_workedOut 204 = .ok (.goto 4, 3) := by decide +kernel
theorem d_Machine_workedOut_207 : decode b_Machine_workedOut 207 = .ok (.iconst 0, 1) := by decide +kernel
theorem d_Machine_workedOut_208 : decode b_Machine_workedOut 208 = .ok (.invokestatic 133, 3) := by decide +kernel
theorem d_Machine_workedOut_211 : decode b_Machine_workedOut 211 = .ok (.ireturn, 1) := by decide +kernel
def tMachine_workedOut (σ : St) (a1 : Int32) (a2 : Int32) (a3 : Int32) : Option (Int32) := if a1 = 37 then if a3 = 0 then some a2 else gd (nz0 a3) (some (a2 - a2 / a3 * a3)) else if a1 = 42 then some (a2 * a3) else if a1 = 43 then some (a2 + a3) else if a1 = 45 then some (a2 - a3) else if a1 = 47 then if a3 = 0 then some (-1) else gd (nz0 a3) (some (a2 / a3)) else if a1 = 60 then if a3 ≤ a2 then b1 (tMachine_truth σ 0) (fun r12 => some r12) else b1 (tMachine_truth σ 1) (fun r13 => some r13) else if a1 = 62 then if a2 ≤ a3 then b1 (tMachine_truth σ 0) (fun r16 => some r16) else b1 (tMachine_truth σ 1) (fun r17 => some r17) else if a1 = 316 then if a3 < a2 then b1 (tMachine_truth σ 0) (fun r20 => some r20) else b1 (tMachine_truth σ 1) (fun r21 => some r21) else if a1 = 317 then if a2 = a3 then b1 (tMachine_truth σ 1) (fun r25 => some r25) else b1 (tMachine_truth σ 0) (fun r24 => some r24) else if a1 = 318 then if a2 < a3 then b1 (tMachine_truth σ 0) (fun r28 => some r28) else b1 (tMachine_truth σ 1) (fun r29 => some r29) else if a2 = a3 then b1 (tMachine_truth σ 0) (fun r31 => some r31) else b1 (tMachine_truth σ 1) (fun r32 => some r32)
set_option maxHeartbeats 4000000 in
set_option maxRecDepth 100000 in
theorem ct_Machine_workedOut (l : Launch) (dC : Nat → ClassId) (dI : Nat → Nat → Nat) (ad : Nat → Nat) (cA : Nat → ClassId) (sz : Nat) {σ : St} {a1 : Int32} {a2 : Int32} {a3 : Int32} {r : Int32} (hF : tMachine_workedOut σ a1 a2 a3 = some r) : MI l y_Machine_workedOut b_Machine_workedOut 3 (some .int) { frames := 1, cells := 0, slots := 0, locals := 20 } (dC, dI) (ttys cA) ad (tcw ad cA) [.int a1, .int a2, .int a3] σ sz r σ := by
  refine startM (own := "TinyForge$Machine") (Qc := fun A => QI (dC, dI) (ttys cA) (tcw ad cA) A r σ) rfl rfl (Nat.le_of_ble_eq_true rfl) ?_
  intro p e s m below meth c A H locs ls X hP hD hS hl
  have hl : lv_has ls 3 [(0, .int a1), (1, .int a2), (2, .int a3)] := hl
  obtain ⟨hx, hb, hr, hml, hown, hlocks, hts, hA, hK, hZ⟩ := id X
  unfold tMachine_workedOut at hF
  refine lv_iload_n hx hb d_Machine_workedOut_0 rfl (lv_at hl 0 rfl) ?_
  by_cases c_1 : a1 = 37
  · have hF := ifp hF c_1
    refine lv_lookup (tgt := 116) (off := 115) hx hb d_Machine_workedOut_1 (by decide) (by rw [c_1]; rfl) (by decide) ?_
    refine lv_iload_n hx hb d_Machine_workedOut_116 rfl (lv_at hl 2 rfl) ?_
    refine lv_if_ne (tgt := 124) hx hb d_Machine_workedOut_117 (by decide) (fun c_2 => ?_) (fun c_2 => ?_)
    · have hF := ifn hF c_2
      refine lv_iload_n hx hb d_Machine_workedOut_124 rfl (lv_at hl 1 rfl) ?_
      refine lv_iload_n hx hb d_Machine_workedOut_125 rfl (lv_at hl 2 rfl) ?_
      obtain ⟨g_3, hF⟩ := gdE hF
      refine lv_irem hx hb d_Machine_workedOut_126 (nz0E g_3) ?_
      cases hF
      exact leafI X hP hD hS d_Machine_workedOut_127
    · have hF := ifp hF c_2
      refine lv_iload_n hx hb d_Machine_workedOut_120 rfl (lv_at hl 1 rfl) ?_
      refine lv_goto (tgt := 127) hx hb d_Machine_workedOut_121 (by decide) ?_
      cases hF
      exact leafI X hP hD hS d_Machine_workedOut_127
  · have hF := ifn hF c_1
    by_cases c_4 : a1 = 42
    · have hF := ifp hF c_4
      refine lv_lookup (tgt := 100) (off := 99) hx hb d_Machine_workedOut_1 (by decide) (by rw [c_4]; rfl) (by decide) ?_
      refine lv_iload_n hx hb d_Machine_workedOut_100 rfl (lv_at hl 1 rfl) ?_
      refine lv_iload_n hx hb d_Machine_workedOut_101 rfl (lv_at hl 2 rfl) ?_
      refine lv_imul hx hb d_Machine_workedOut_102 ?_
      cases hF
      exact leafI X hP hD hS d_Machine_workedOut_103
    · have hF := ifn hF c_4
      by_cases c_5 : a1 = 43
      · have hF := ifp hF c_5
        refine lv_lookup (tgt := 92) (off := 91) hx hb d_Machine_workedOut_1 (by decide) (by rw [c_5]; rfl) (by decide) ?_
        refine lv_iload_n hx hb d_Machine_workedOut_92 rfl (lv_at hl 1 rfl) ?_
        refine lv_iload_n hx hb d_Machine_workedOut_93 rfl (lv_at hl 2 rfl) ?_
        refine lv_iadd hx hb d_Machine_workedOut_94 ?_
        cases hF
        exact leafI X hP hD hS d_Machine_workedOut_95
      · have hF := ifn hF c_5
        by_cases c_6 : a1 = 45
        · have hF := ifp hF c_6
          refine lv_lookup (tgt := 96) (off := 95) hx hb d_Machine_workedOut_1 (by decide) (by rw [c_6]; rfl) (by decide) ?_
          refine lv_iload_n hx hb d_Machine_workedOut_96 rfl (lv_at hl 1 rfl) ?_
          refine lv_iload_n hx hb d_Machine_workedOut_97 rfl (lv_at hl 2 rfl) ?_
          refine lv_isub hx hb d_Machine_workedOut_98 ?_
          cases hF
          exact leafI X hP hD hS d_Machine_workedOut_99
        · have hF := ifn hF c_6
          by_cases c_7 : a1 = 47
          · have hF := ifp hF c_7
            refine lv_lookup (tgt := 104) (off := 103) hx hb d_Machine_workedOut_1 (by decide) (by rw [c_7]; rfl) (by decide) ?_
            refine lv_iload_n hx hb d_Machine_workedOut_104 rfl (lv_at hl 2 rfl) ?_
            refine lv_if_ne (tgt := 112) hx hb d_Machine_workedOut_105 (by decide) (fun c_8 => ?_) (fun c_8 => ?_)
            · have hF := ifn hF c_8
              refine lv_iload_n hx hb d_Machine_workedOut_112 rfl (lv_at hl 1 rfl) ?_
              refine lv_iload_n hx hb d_Machine_workedOut_113 rfl (lv_at hl 2 rfl) ?_
              obtain ⟨g_9, hF⟩ := gdE hF
              refine lv_idiv hx hb d_Machine_workedOut_114 (nz0E g_9) ?_
              cases hF
              exact leafI X hP hD hS d_Machine_workedOut_115
            · have hF := ifp hF c_8
              refine lv_iconst (v := (-1)) hx hb d_Machine_workedOut_108 (by decide) ?_
              refine lv_goto (tgt := 115) hx hb d_Machine_workedOut_109 (by decide) ?_
              cases hF
              exact leafI X hP hD hS d_Machine_workedOut_115
          · have hF := ifn hF c_7
            by_cases c_10 : a1 = 60
            · have hF := ifp hF c_10
              refine lv_lookup (tgt := 128) (off := 127) hx hb d_Machine_workedOut_1 (by decide) (by rw [c_10]; rfl) (by decide) ?_
              refine lv_iload_n hx hb d_Machine_workedOut_128 rfl (lv_at hl 1 rfl) ?_
              refine lv_iload_n hx hb d_Machine_workedOut_129 rfl (lv_at hl 2 rfl) ?_
              refine lv_icmp_ge (tgt := 137) hx hb d_Machine_workedOut_130 (by decide) (fun c_11 => ?_) (fun c_11 => ?_)
              · have hF := ifp hF c_11
                refine lv_iconst (v := 0) hx hb d_Machine_workedOut_137 (by decide) ?_
                obtain ⟨r12, h12, hF⟩ := b1E hF
                refine callSI (As := [.int 0]) X (ct_Machine_truth l dC dI ad cA H.size h12) lk_Machine_133 ⟨rfl, rfl, by decide, by decide⟩ hP hD hS hl.1 rfl rfl (Nat.le_of_ble_eq_true rfl) d_Machine_workedOut_138 (fun H locs hP hD hS => ?_)
                cases hF
                exact leafI X hP hD hS d_Machine_workedOut_141
              · have hF := ifn hF c_11
                refine lv_iconst (v := 1) hx hb d_Machine_workedOut_133 (by decide) ?_
                refine lv_goto (tgt := 138) hx hb d_Machine_workedOut_134 (by decide) ?_
                obtain ⟨r13, h13, hF⟩ := b1E hF
                refine callSI (As := [.int 1]) X (ct_Machine_truth l dC dI ad cA H.size h13) lk_Machine_133 ⟨rfl, rfl, by decide, by decide⟩ hP hD hS hl.1 rfl rfl (Nat.le_of_ble_eq_true rfl) d_Machine_workedOut_138 (fun H locs hP hD hS => ?_)
                cases hF
                exact leafI X hP hD hS d_Machine_workedOut_141
            · have hF := ifn hF c_10
              by_cases c_14 : a1 = 62
              · have hF := ifp hF c_14
                refine lv_lookup (tgt := 142) (off := 141) hx hb d_Machine_workedOut_1 (by decide) (by rw [c_14]; rfl) (by decide) ?_
                refine lv_iload_n hx hb d_Machine_workedOut_142 rfl (lv_at hl 1 rfl) ?_
                refine lv_iload_n hx hb d_Machine_workedOut_143 rfl (lv_at hl 2 rfl) ?_
                refine lv_icmp_le (tgt := 151) hx hb d_Machine_workedOut_144 (by decide) (fun c_15 => ?_) (fun c_15 => ?_)
                · have hF := ifp hF c_15
                  refine lv_iconst (v := 0) hx hb d_Machine_workedOut_151 (by decide) ?_
                  obtain ⟨r16, h16, hF⟩ := b1E hF
                  refine callSI (As := [.int 0]) X (ct_Machine_truth l dC dI ad cA H.size h16) lk_Machine_133 ⟨rfl, rfl, by decide, by decide⟩ hP hD hS hl.1 rfl rfl (Nat.le_of_ble_eq_true rfl) d_Machine_workedOut_152 (fun H locs hP hD hS => ?_)
                  cases hF
                  exact leafI X hP hD hS d_Machine_workedOut_155
                · have hF := ifn hF c_15
                  refine lv_iconst (v := 1) hx hb d_Machine_workedOut_147 (by decide) ?_
                  refine lv_goto (tgt := 152) hx hb d_Machine_workedOut_148 (by decide) ?_
                  obtain ⟨r17, h17, hF⟩ := b1E hF
                  refine callSI (As := [.int 1]) X (ct_Machine_truth l dC dI ad cA H.size h17) lk_Machine_133 ⟨rfl, rfl, by decide, by decide⟩ hP hD hS hl.1 rfl rfl (Nat.le_of_ble_eq_true rfl) d_Machine_workedOut_152 (fun H locs hP hD hS => ?_)
                  cases hF
                  exact leafI X hP hD hS d_Machine_workedOut_155
              · have hF := ifn hF c_14
                by_cases c_18 : a1 = 316
                · have hF := ifp hF c_18
                  refine lv_lookup (tgt := 156) (off := 155) hx hb d_Machine_workedOut_1 (by decide) (by rw [c_18]; rfl) (by decide) ?_
                  refine lv_iload_n hx hb d_Machine_workedOut_156 rfl (lv_at hl 1 rfl) ?_
                  refine lv_iload_n hx hb d_Machine_workedOut_157 rfl (lv_at hl 2 rfl) ?_
                  refine lv_icmp_gt (tgt := 165) hx hb d_Machine_workedOut_158 (by decide) (fun c_19 => ?_) (fun c_19 => ?_)
                  · have hF := ifp hF c_19
                    refine lv_iconst (v := 0) hx hb d_Machine_workedOut_165 (by decide) ?_
                    obtain ⟨r20, h20, hF⟩ := b1E hF
                    refine callSI (As := [.int 0]) X (ct_Machine_truth l dC dI ad cA H.size h20) lk_Machine_133 ⟨rfl, rfl, by decide, by decide⟩ hP hD hS hl.1 rfl rfl (Nat.le_of_ble_eq_true rfl) d_Machine_workedOut_166 (fun H locs hP hD hS => ?_)
                    cases hF
                    exact leafI X hP hD hS d_Machine_workedOut_169
                  · have hF := ifn hF c_19
                    refine lv_iconst (v := 1) hx hb d_Machine_workedOut_161 (by decide) ?_
                    refine lv_goto (tgt := 166) hx hb d_Machine_workedOut_162 (by decide) ?_
                    obtain ⟨r21, h21, hF⟩ := b1E hF
                    refine callSI (As := [.int 1]) X (ct_Machine_truth l dC dI ad cA H.size h21) lk_Machine_133 ⟨rfl, rfl, by decide, by decide⟩ hP hD hS hl.1 rfl rfl (Nat.le_of_ble_eq_true rfl) d_Machine_workedOut_166 (fun H locs hP hD hS => ?_)
                    cases hF
                    exact leafI X hP hD hS d_Machine_workedOut_169
                · have hF := ifn hF c_18
                  by_cases c_22 : a1 = 317
                  · have hF := ifp hF c_22
                    refine lv_lookup (tgt := 184) (off := 183) hx hb d_Machine_workedOut_1 (by decide) (by rw [c_22]; rfl) (by decide) ?_
                    refine lv_iload_n hx hb d_Machine_workedOut_184 rfl (lv_at hl 1 rfl) ?_
                    refine lv_iload_n hx hb d_Machine_workedOut_185 rfl (lv_at hl 2 rfl) ?_
                    refine lv_icmp_ne (tgt := 193) hx hb d_Machine_workedOut_186 (by decide) (fun c_23 => ?_) (fun c_23 => ?_)
                    · have hF := ifn hF c_23
                      refine lv_iconst (v := 0) hx hb d_Machine_workedOut_193 (by decide) ?_
                      obtain ⟨r24, h24, hF⟩ := b1E hF
                      refine callSI (As := [.int 0]) X (ct_Machine_truth l dC dI ad cA H.size h24) lk_Machine_133 ⟨rfl, rfl, by decide, by decide⟩ hP hD hS hl.1 rfl rfl (Nat.le_of_ble_eq_true rfl) d_Machine_workedOut_194 (fun H locs hP hD hS => ?_)
                      cases hF
                      exact leafI X hP hD hS d_Machine_workedOut_197
                    · have hF := ifp hF c_23
                      refine lv_iconst (v := 1) hx hb d_Machine_workedOut_189 (by decide) ?_
                      refine lv_goto (tgt := 194) hx hb d_Machine_workedOut_190 (by decide) ?_
                      obtain ⟨r25, h25, hF⟩ := b1E hF
                      refine callSI (As := [.int 1]) X (ct_Machine_truth l dC dI ad cA H.size h25) lk_Machine_133 ⟨rfl, rfl, by decide, by decide⟩ hP hD hS hl.1 rfl rfl (Nat.le_of_ble_eq_true rfl) d_Machine_workedOut_194 (fun H locs hP hD hS => ?_)
                      cases hF
                      exact leafI X hP hD hS d_Machine_workedOut_197
                  · have hF := ifn hF c_22
                    by_cases c_26 : a1 = 318
                    · have hF := ifp hF c_26
                      refine lv_lookup (tgt := 170) (off := 169) hx hb d_Machine_workedOut_1 (by decide) (by rw [c_26]; rfl) (by decide) ?_
                      refine lv_iload_n hx hb d_Machine_workedOut_170 rfl (lv_at hl 1 rfl) ?_
                      refine lv_iload_n hx hb d_Machine_workedOut_171 rfl (lv_at hl 2 rfl) ?_
                      refine lv_icmp_lt (tgt := 179) hx hb d_Machine_workedOut_172 (by decide) (fun c_27 => ?_) (fun c_27 => ?_)
                      · have hF := ifp hF c_27
                        refine lv_iconst (v := 0) hx hb d_Machine_workedOut_179 (by decide) ?_
                        obtain ⟨r28, h28, hF⟩ := b1E hF
                        refine callSI (As := [.int 0]) X (ct_Machine_truth l dC dI ad cA H.size h28) lk_Machine_133 ⟨rfl, rfl, by decide, by decide⟩ hP hD hS hl.1 rfl rfl (Nat.le_of_ble_eq_true rfl) d_Machine_workedOut_180 (fun H locs hP hD hS => ?_)
                        cases hF
                        exact leafI X hP hD hS d_Machine_workedOut_183
                      · have hF := ifn hF c_27
                        refine lv_iconst (v := 1) hx hb d_Machine_workedOut_175 (by decide) ?_
                        refine lv_goto (tgt := 180) hx hb d_Machine_workedOut_176 (by decide) ?_
                        obtain ⟨r29, h29, hF⟩ := b1E hF
                        refine callSI (As := [.int 1]) X (ct_Machine_truth l dC dI ad cA H.size h29) lk_Machine_133 ⟨rfl, rfl, by decide, by decide⟩ hP hD hS hl.1 rfl rfl (Nat.le_of_ble_eq_true rfl) d_Machine_workedOut_180 (fun H locs hP hD hS => ?_)
                        cases hF
                        exact leafI X hP hD hS d_Machine_workedOut_183
                    · have hF := ifn hF c_26
                      refine lv_lookup (tgt := 198) (off := 197) hx hb d_Machine_workedOut_1 (by decide) (by show Op.lookupswitch.offset [(37, 115), (42, 99), (43, 91), (45, 95), (47, 103), (60, 127), (62, 141), (316, 155), (317, 183), (318, 169)] 197 _ = _; rw [lv_osw (a := 37) c_1 (by decide), lv_osw (a := 42) c_4 (by decide), lv_osw (a := 43) c_5 (by decide), lv_osw (a := 45) c_6 (by decide), lv_osw (a := 47) c_7 (by decide), lv_osw (a := 60) c_10 (by decide), lv_osw (a := 62) c_14 (by decide), lv_osw (a := 316) c_18 (by decide), lv_osw (a := 317) c_22 (by decide), lv_osw (a := 318) c_26 (by decide)]; rfl) (by decide) ?_
                      refine lv_iload_n hx hb d_Machine_workedOut_198 rfl (lv_at hl 1 rfl) ?_
                      refine lv_iload_n hx hb d_Machine_workedOut_199 rfl (lv_at hl 2 rfl) ?_
                      refine lv_icmp_eq (tgt := 207) hx hb d_Machine_workedOut_200 (by decide) (fun c_30 => ?_) (fun c_30 => ?_)
                      · have hF := ifp hF c_30
                        refine lv_iconst (v := 0) hx hb d_Machine_workedOut_207 (by decide) ?_
                        obtain ⟨r31, h31, hF⟩ := b1E hF
                        refine callSI (As := [.int 0]) X (ct_Machine_truth l dC dI ad cA H.size h31) lk_Machine_133 ⟨rfl, rfl, by decide, by decide⟩ hP hD hS hl.1 rfl rfl (Nat.le_of_ble_eq_true rfl) d_Machine_workedOut_208 (fun H locs hP hD hS => ?_)
                        cases hF
                        exact leafI X hP hD hS d_Machine_workedOut_211
                      · have hF := ifn hF c_30
                        refine lv_iconst (v := 1) hx hb d_Machine_workedOut_203 (by decide) ?_
                        refine lv_goto (tgt := 208) hx hb d_Machine_workedOut_204 (by decide) ?_
                        obtain ⟨r32, h32, hF⟩ := b1E hF
                        refine callSI (As := [.int 1]) X (ct_Machine_truth l dC dI ad cA H.size h32) lk_Machine_133 ⟨rfl, rfl, by decide, by decide⟩ hP hD hS hl.1 rfl rfl (Nat.le_of_ble_eq_true rfl) d_Machine_workedOut_208 (fun H locs hP hD hS => ?_)
                        cases hF
                        exact leafI X hP hD hS d_Machine_workedOut_211
theorem d_Machine_move_0 : decode b_Machine_move 0 = .ok (.iload_n 1, 1) := by decide +kernel
theorem d_Machine_move_1 : decode b_Machine_move 1 = .ok (.lookupswitch 216 #[(8, 125), (10, 83), (11, 91), (12, 108), (18, 147), (19, 169), (21, 139), (33, 181), (126, 203)], 83) := by decide +kernel
theorem d_Machine_move_84 : decode b_Machine_move 84 = .ok (.aload_n 0, 1) := by decide +kernel
theorem d_Machine_move_85 : decode b_Machine_move 85 = .ok (.iload_n 2, 1) := by decide +kernel
theorem d_Machine_move_86 : decode b_Machine_move 86 = .ok (.invokevirtual 120, 3) := by decide +kernel
theorem d_Machine_move_89 : decode b_Machine_move 89 = .ok (.goto 146, 3) := by decide +kernel
theorem d_Machine_move_92 : decode b_Machine_move 92 = .ok (.aload_n 0, 1) := by decide +kernel
theorem d_Machine_move_93 : decode b_Machine_move 93 = .ok (.aload_n 0, 1) := by decide +kernel
theorem d_Machine_move_94 : decode b_Machine_move 94 = .ok (.aload_n 0, 1) := by decide +kernel
theorem d_Machine_move_95 : decode b_Machine_move 95 = .ok (.getfield 31, 3) := by decide +kernel
theorem d_Machine_move_98 : decode b_Machine_move 98 = .ok (.iload_n 2, 1) := by decide +kernel
theorem d_Machine_move_99 : decode b_Machine_move 99 = .ok (.iadd, 1) := by decide +kernel
theorem d_Machine_move_100 : decode b_Machine_move 100 = .ok (.invokevirtual 123, 3) := by decide +kernel
theorem d_Machine_move_103 : decode b_Machine_move 103 = .ok (.invokevirtual 120, 3) := by decide +kernel
theorem d_Machine_move_106 : decode b_Machine_move 106 = .ok (.goto 129, 3) := by decide +kernel
theorem d_Machine_move_109 : decode b_Machine_move 109 = .ok (.aload_n 0, 1) := by decide +kernel
theorem d_Machine_move_110 : decode b_Machine_move 110 = .ok (.aload_n 0, 1) := by decide +kernel
theorem d_Machine_move_111 : decode b_Machine_move 111 = .ok (.getfield 31, 3) := by decide +kernel
theorem d_Machine_move_114 : decode b_Machine_move 114 = .ok (.iload_n 2, 1) := by decide +kernel
theorem d_Machine_move_115 : decode b_Machine_move 115 = .ok (.iadd, 1) := by decide +kernel
theorem d_Machine_move_116 : decode b_Machine_move 116 = .ok (.aload_n 0, 1) := by decide +kernel
theorem d_Machine_move_117 : decode b_Machine_move 117 = .ok (.invokevirtual 93, 3) := by decide +kernel
theorem d_Machine_move_120 : decode b_Machine_move 120 = .ok (.invokevirtual 127, 3) := by decide +kernel
theorem d_Machine_move_123 : decode b_Machine_move 123 = .ok (.goto 112, 3) := by decide +kernel
theorem d_Machine_move_126 : decode b_Machine_move 126 = .ok (.aload_n 0, 1) := by decide +kernel
theorem d_Machine_move_127 : decode b_Machine_move 127 = .ok (.aload_n 0, 1) := by decide +kernel
theorem d_Machine_move_128 : decode b_Machine_move 128 = .ok (.getfield 56, 3) := by decide +kernel
theorem d_Machine_move_131 : decode b_Machine_move 131 = .ok (.invokevirtual 130, 3) := by decide +kernel
theorem d_Machine_move_134 : decode b_Machine_move 134 = .ok (.invokevirtual 120, 3) := by decide +kernel
theorem d_Machine_move_137 : decode b_Machine_move 137 = .ok (.goto 98, 3) := by decide +kernel
theorem d_Machine_move_140 : decode b_Machine_move 140 = .ok (.aload_n 0, 1) := by decide +kernel
theorem d_Machine_move_141 : decode b_Machine_move 141 = .ok (.invokevirtual 93, 3) := by decide +kernel
theorem d_Machine_move_144 : decode b_Machine_move 144 = .ok (.pop, 1) := by decide +kernel
theorem d_Machine_move_145 : decode b_Machine_move 145 = .ok (.goto 90, 3) := by decide +kernel
theorem d_Machine_move_148 : decode b_Machine_move 148 = .ok (.aload_n 0, 1) := by decide +kernel
theorem d_Machine_move_149 : decode b_Machine_move 149 = .ok (.aload_n 0, 1) := by decide +kernel
theorem d_Machine_move_150 : decode b_Machine_move 150 = .ok (.invokevirtual 93, 3) := by decide +kernel
theorem d_Machine_move_153 : decode b_Machine_move 153 = .ok (.ifCond .eq 7, 3) := by decide +kernel
theorem d_Machine_move_156 : decode b_Machine_move 156 = .ok (.iconst 1, 1) := by decide +kernel
theorem d_Machine_move_157 : decode b_Machine_move 157 = .ok (.goto 4, 3) := by decide +kernel
theorem d_Machine_move_160 : decode b_Machine_move 160 = .ok (.iconst 0, 1) := by decide +kernel
theorem d_Machine_move_161 : decode b_Machine_move 161 = .ok (.invokestatic 133, 3) := by decide +kernel
theorem d_Machine_move_164 : decode b_Machine_move 164 = .ok (.invokevirtual 120, 3) := by decide +kernel
theorem d_Machine_move_167 : decode b_Machine_move 167 = .ok (.goto 68, 3) := by decide +kernel
theorem d_Machine_move_170 : decode b_Machine_move 170 = .ok (.aload_n 0, 1) := by decide +kernel
theorem d_Machine_move_171 : decode b_Machine_move 171 = .ok (.aload_n 0, 1) := by decide +kernel
theorem d_Machine_move_172 : decode b_Machine_move 172 = .ok (.invokevirtual 93, 3) := by decide +kernel
theorem d_Machine_move_175 : decode b_Machine_move 175 = .ok (.ineg, 1) := by decide +kernel
theorem d_Machine_move_176 : decode b_Machine_move 176 = .ok (.invokevirtual 120, 3) := by decide +kernel
theorem d_Machine_move_179 : decode b_Machine_move 179 = .ok (.goto 56, 3) := by decide +kernel
theorem d_Machine_move_182 : decode b_Machine_move 182 = .ok (.aload_n 0, 1) := by decide +kernel
theorem d_Machine_move_183 : decode b_Machine_move 183 = .ok (.aload_n 0, 1) := by decide +kernel
theorem d_Machine_move_184 : decode b_Machine_move 184 = .ok (.invokevirtual 93, 3) := by decide +kernel
theorem d_Machine_move_187 : decode b_Machine_move 187 = .ok (.ifCond .ne 7, 3) := by decide +kernel
theorem d_Machine_move_190 : decode b_Machine_move 190 = .ok (.iconst 1, 1) := by decide +kernel
theorem d_Machine_move_191 : decode b_Machine_move 191 = .ok (.goto 4, 3) := by decide +kernel
theorem d_Machine_move_194 : decode b_Machine_move 194 = .ok (.iconst 0, 1) := by decide +kernel
theorem d_Machine_move_195 : decode b_Machine_move 195 = .ok (.invokestatic 133, 3) := by decide +kernel
theorem d_Machine_move_198 : decode b_Machine_move 198 = .ok (.invokevirtual 120, 3) := by decide +kernel
theorem d_Machine_move_201 : decode b_Machine_move 201 = .ok (.goto 34, 3) := by decide +kernel
theorem d_Machine_move_204 : decode b_Machine_move 204 = .ok (.aload_n 0, 1) := by decide +kernel
theorem d_Machine_move_205 : decode b_Machine_move 205 = .ok (.aload_n 0, 1) := by decide +kernel
theorem d_Machine_move_206 : decode b_Machine_move 206 = .ok (.invokevirtual 93, 3) := by decide +kernel
theorem d_Machine_move_209 : decode b_Machine_move 209 = .ok (.iconst (-1), 1) := by decide +kernel
theorem d_Machine_move_210 : decode b_Machine_move 210 = .ok (.ixor, 1) := by decide +kernel
theorem d_Machine_move_211 : decode b_Machine_move 211 = .ok (.invokevirtual 120, 3) := by decide +kernel
theorem d_Machine_move_214 : decode b_Machine_move 214 = .ok (.goto 21, 3) := by decide +kernel
theorem d_Machine_move_217 : decode b_Machine_move 217 = .ok (.aload_n 0, 1) := by decide +kernel
theorem d_Machine_move_218 : decode b_Machine_move 218 = .ok (.invokevirtual 93, 3) := by decide +kernel
theorem d_Machine_move_221 : decode b_Machine_move 221 = .ok (.istore_n 3, 1) := by decide +kernel
theorem d_Machine_move_222 : decode b_Machine_move 222 = .ok (.aload_n 0, 1) := by decide +kernel
theorem d_Machine_move_223 : decode b_Machine_move 223 = .ok (.iload_n 1, 1) := by decide +kernel
theorem d_Machine_move_224 : decode b_Machine_move 224 = .ok (.aload_n 0, 1) := by decide +kernel
theorem d_Machine_move_225 : decode b_Machine_move 225 = .ok (.invokevirtual 93, 3) := by decide +kernel
theorem d_Machine_move_228 : decode b_Machine_move 228 = .ok (.iload_n 3, 1) := by decide +kernel
theorem d_Machine_move_229 : decode b_Machine_move 229 = .ok (.invokestatic 137, 3) := by decide +kernel
theorem d_Machine_move_232 : decode b_Machine_move 232 = .ok (.invokevirtual 120, 3) := by decide +kernel
theorem d_Machine_move_235 : decode b_Machine_move 235 = .ok (.return_, 1) := by decide +kernel
def tMachine_move (σ : St) (a1 : Int32) (a2 : Int32) : Option (St) := if a1 = 8 then b2 (tInput_take σ) (fun r2 u2 => b1 (tMachine_push u2 r2) (fun u3 => some u3)) else if a1 = 10 then b1 (tMachine_push σ a2) (fun u5 => some u5) else if a1 = 11 then b1 (tMachine_cell σ ((σ.1 18) + a2)) (fun r7 => b1 (tMachine_push σ r7) (fun u8 => some u8)) else if a1 = 12 then b2 (tMachine_pop σ) (fun r10 u10 => b1 (tMachine_setCell u10 ((σ.1 18) + a2) r10) (fun u11 => some u11)) else if a1 = 18 then b2 (tMachine_pop σ) (fun r13 u13 => if r13 = 0 then b1 (tMachine_truth u13 0) (fun r15 => b1 (tMachine_push u13 r15) (fun u16 => some u16)) else b1 (tMachine_truth u13 1) (fun r17 => b1 (tMachine_push u13 r17) (fun u18 => some u18))) else if a1 = 19 then b2 (tMachine_pop σ) (fun r20 u20 => b1 (tMachine_push u20 (-r20)) (fun u21 => some u21)) else if a1 = 21 then b2 (tMachine_pop σ) (fun r23 u23 => some u23) else if a1 = 33 then b2 (tMachine_pop σ) (fun r25 u25 => if r25 = 0 then b1 (tMachine_truth u25 1) (fun r29 => b1 (tMachine_push u25 r29) (fun u30 => some u30)) else b1 (tMachine_truth u25 0) (fun r27 => b1 (tMachine_push u25 r27) (fun u28 => some u28))) else if a1 = 126 then b2 (tMachine_pop σ) (fun r32 u32 => b1 (tMachine_push u32 (r32 ^^^ (-1))) (fun u33 => some u33)) else b2 (tMachine_pop σ) (fun r34 u34 => b2 (tMachine_pop u34) (fun r35 u35 => b1 (tMachine_workedOut u35 a1 r35 r34) (fun r36 => b1 (tMachine_push u35 r36) (fun u37 => some u37))))
set_option maxHeartbeats 4000000 in
set_option maxRecDepth 100000 in
theorem ct_Machine_move (l : Launch) (dC : Nat → ClassId) (dI : Nat → Nat → Nat) (ad : Nat → Nat) (cA : Nat → ClassId) (sz : Nat) {σ : St} {a1 : Int32} {a2 : Int32} {σ' : St} (hF : tMachine_move σ a1 a2 = some σ') : MV l y_Machine_move b_Machine_move 4 none { frames := 2, cells := 0, slots := 0, locals := 43 } (dC, dI) (ttys cA) ad (tcw ad cA) [.ref (ad 9), .int a1, .int a2] σ sz σ' := by
  refine startM (own := "TinyForge$Machine") (Qc := fun A => QV (dC, dI) (ttys cA) (tcw ad cA) A σ') rfl rfl (Nat.le_of_ble_eq_true rfl) ?_
  intro p e s m below meth c A H locs ls X hP hD hS hl
  have hl : lv_has ls 4 [(0, .ref (ad 9)), (1, .int a1), (2, .int a2)] := hl
  obtain ⟨hx, hb, hr, hml, hown, hlocks, hts, hA, hK, hZ⟩ := id X
  unfold tMachine_move at hF
  refine lv_iload_n hx hb d_Machine_move_0 rfl (lv_at hl 1 rfl) ?_
  by_cases c_1 : a1 = 8
  · have hF := ifp hF c_1
    refine lv_lookup (tgt := 126) (off := 125) hx hb d_Machine_move_1 (by decide) (by rw [c_1]; rfl) (by decide) ?_
    refine lv_aload_n hx hb d_Machine_move_126 rfl (lv_at hl 0 rfl) ?_
    refine lv_aload_n hx hb d_Machine_move_127 rfl (lv_at hl 0 rfl) ?_
    refine va_get (D := (dC, dI)) (ci := 9) (v := .ref (ad 8)) hx hb hts i_Machine hown hK hP 9 rfl rfl 1 (by decide) (hts _ w_b9aac34b79) (fun _ h9 => h9) rfl d_Machine_move_128 ?_
    obtain ⟨r2, u2, h2, hF⟩ := b2E hF
    refine callVI (As := []) X (ct_Input_take l dC dI ad cA H.size h2) lk_Machine_130 ⟨rfl, rfl, by decide, by decide⟩ 8 rfl rfl hP hD hS hl.1 rfl rfl (Nat.le_of_ble_eq_true rfl) d_Machine_move_131 (fun H locs hP hD hS => ?_)
    obtain ⟨u3, h3, hF⟩ := b1E hF
    refine callVV (As := [.int r2]) X (ct_Machine_push l dC dI ad cA H.size h3) lk_Machine_120 ⟨rfl, rfl, by decide, by decide⟩ 9 rfl rfl hP hD hS hl.1 rfl rfl (Nat.le_of_ble_eq_true rfl) d_Machine_move_134 (fun H locs hP hD hS => ?_)
    refine lv_goto (tgt := 235) hx hb d_Machine_move_137 (by decide) ?_
    cases hF
    exact leafV X hP hD hS d_Machine_move_235
  · have hF := ifn hF c_1
    by_cases c_4 : a1 = 10
    · have hF := ifp hF c_4
      refine lv_lookup (tgt := 84) (off := 83) hx hb d_Machine_move_1 (by decide) (by rw [c_4]; rfl) (by decide) ?_
      refine lv_aload_n hx hb d_Machine_move_84 rfl (lv_at hl 0 rfl) ?_
      refine lv_iload_n hx hb d_Machine_move_85 rfl (lv_at hl 2 rfl) ?_
      obtain ⟨u5, h5, hF⟩ := b1E hF
      refine callVV (As := [.int a2]) X (ct_Machine_push l dC dI ad cA H.size h5) lk_Machine_120 ⟨rfl, rfl, by decide, by decide⟩ 9 rfl rfl hP hD hS hl.1 rfl rfl (Nat.le_of_ble_eq_true rfl) d_Machine_move_86 (fun H locs hP hD hS => ?_)
      refine lv_goto (tgt := 235) hx hb d_Machine_move_89 (by decide) ?_
      cases hF
      exact leafV X hP hD hS d_Machine_move_235
    · have hF := ifn hF c_4
      by_cases c_6 : a1 = 11
      · have hF := ifp hF c_6
        refine lv_lookup (tgt := 92) (off := 91) hx hb d_Machine_move_1 (by decide) (by rw [c_6]; rfl) (by decide) ?_
        refine lv_aload_n hx hb d_Machine_move_92 rfl (lv_at hl 0 rfl) ?_
        refine lv_aload_n hx hb d_Machine_move_93 rfl (lv_at hl 0 rfl) ?_
        refine lv_aload_n hx hb d_Machine_move_94 rfl (lv_at hl 0 rfl) ?_
        refine va_get (D := (dC, dI)) (ci := 9) (v := .int (σ.1 18)) hx hb hts i_Machine hown hK hP 9 rfl rfl 8 (by decide) (hts _ w_b523296ea4) (fun _ h9 => h9) rfl d_Machine_move_95 ?_
        refine lv_iload_n hx hb d_Machine_move_98 rfl (lv_at hl 2 rfl) ?_
        refine lv_iadd hx hb d_Machine_move_99 ?_
        obtain ⟨r7, h7, hF⟩ := b1E hF
        refine callVI (As := [.int ((σ.1 18) + a2)]) X (ct_Machine_cell l dC dI ad cA H.size h7) lk_Machine_123 ⟨rfl, rfl, by decide, by decide⟩ 9 rfl rfl hP hD hS hl.1 rfl rfl (Nat.le_of_ble_eq_true rfl) d_Machine_move_100 (fun H locs hP hD hS => ?_)
        obtain ⟨u8, h8, hF⟩ := b1E hF
        refine callVV (As := [.int r7]) X (ct_Machine_push l dC dI ad cA H.size h8) lk_Machine_120 ⟨rfl, rfl, by decide, by decide⟩ 9 rfl rfl hP hD hS hl.1 rfl rfl (Nat.le_of_ble_eq_true rfl) d_Machine_move_103 (fun H locs hP hD hS => ?_)
        refine lv_goto (tgt := 235) hx hb d_Machine_move_106 (by decide) ?_
        cases hF
        exact leafV X hP hD hS d_Machine_move_235
      · have hF := ifn hF c_6
        by_cases c_9 : a1 = 12
        · have hF := ifp hF c_9
          refine lv_lookup (tgt := 109) (off := 108) hx hb d_Machine_move_1 (by decide) (by rw [c_9]; rfl) (by decide) ?_
          refine lv_aload_n hx hb d_Machine_move_109 rfl (lv_at hl 0 rfl) ?_
          refine lv_aload_n hx hb d_Machine_move_110 rfl (lv_at hl 0 rfl) ?_
          refine va_get (D := (dC, dI)) (ci := 9) (v := .int (σ.1 18)) hx hb hts i_Machine hown hK hP 9 rfl rfl 8 (by decide) (hts _ w_b523296ea4) (fun _ h9 => h9) rfl d_Machine_move_111 ?_
          refine lv_iload_n hx hb d_Machine_move_114 rfl (lv_at hl 2 rfl) ?_
          refine lv_iadd hx hb d_Machine_move_115 ?_
          refine lv_aload_n hx hb d_Machine_move_116 rfl (lv_at hl 0 rfl) ?_
          obtain ⟨r10, u10, h10, hF⟩ := b2E hF
          refine callVI (As := []) X (ct_Machine_pop l dC dI ad cA H.size h10) lk_Machine_93 ⟨rfl, rfl, by decide, by decide⟩ 9 rfl rfl hP hD hS hl.1 rfl rfl (Nat.le_of_ble_eq_true rfl) d_Machine_move_117 (fun H locs hP hD hS => ?_)
          obtain ⟨u11, h11, hF⟩ := b1E hF
          refine callVV (As := [.int ((σ.1 18) + a2), .int r10]) X (ct_Machine_setCell l dC dI ad cA H.size h11) lk_Machine_127 ⟨rfl, rfl, by decide, by decide⟩ 9 rfl rfl hP hD hS hl.1 rfl rfl (Nat.le_of_ble_eq_true rfl) d_Machine_move_120 (fun H locs hP hD hS => ?_)
          refine lv_goto (tgt := 235) hx hb d_Machine_move_123 (by decide) ?_
          cases hF
          exact leafV X hP hD hS d_Machine_move_235
        · have hF := ifn hF c_9
          by_cases c_12 : a1 = 18
          · have hF := ifp hF c_12
            refine lv_lookup (tgt := 148) (off := 147) hx hb d_Machine_move_1 (by decide) (by rw [c_12]; rfl) (by decide) ?_
            refine lv_aload_n hx hb d_Machine_move_148 rfl (lv_at hl 0 rfl) ?_
            refine lv_aload_n hx hb d_Machine_move_149 rfl (lv_at hl 0 rfl) ?_
            obtain ⟨r13, u13, h13, hF⟩ := b2E hF
            refine callVI (As := []) X (ct_Machine_pop l dC dI ad cA H.size h13) lk_Machine_93 ⟨rfl, rfl, by decide, by decide⟩ 9 rfl rfl hP hD hS hl.1 rfl rfl (Nat.le_of_ble_eq_true rfl) d_Machine_move_150 (fun H locs hP hD hS => ?_)
            refine lv_if_eq (tgt := 160) hx hb d_Machine_move_153 (by decide) (fun c_14 => ?_) (fun c_14 => ?_)
            · have hF := ifp hF c_14
              refine lv_iconst (v := 0) hx hb d_Machine_move_160 (by decide) ?_
              obtain ⟨r15, h15, hF⟩ := b1E hF
              refine callSI (As := [.int 0]) X (ct_Machine_truth l dC dI ad cA H.size h15) lk_Machine_133 ⟨rfl, rfl, by decide, by decide⟩ hP hD hS hl.1 rfl rfl (Nat.le_of_ble_eq_true rfl) d_Machine_move_161 (fun H locs hP hD hS => ?_)
              obtain ⟨u16, h16, hF⟩ := b1E hF
              refine callVV (As := [.int r15]) X (ct_Machine_push l dC dI ad cA H.size h16) lk_Machine_120 ⟨rfl, rfl, by decide, by decide⟩ 9 rfl rfl hP hD hS hl.1 rfl rfl (Nat.le_of_ble_eq_true rfl) d_Machine_move_164 (fun H locs hP hD hS => ?_)
              refine lv_goto (tgt := 235) hx hb d_Machine_move_167 (by decide) ?_
              cases hF
              exact leafV X hP hD hS d_Machine_move_235
            · have hF := ifn hF c_14
              refine lv_iconst (v := 1) hx hb d_Machine_move_156 (by decide) ?_
              refine lv_goto (tgt := 161) hx hb d_Machine_move_157 (by decide) ?_
              obtain ⟨r17, h17, hF⟩ := b1E hF
              refine callSI (As := [.int 1]) X (ct_Machine_truth l dC dI ad cA H.size h17) lk_Machine_133 ⟨rfl, rfl, by decide, by decide⟩ hP hD hS hl.1 rfl rfl (Nat.le_of_ble_eq_true rfl) d_Machine_move_161 (fun H locs hP hD hS => ?_)
              obtain ⟨u18, h18, hF⟩ := b1E hF
              refine callVV (As := [.int r17]) X (ct_Machine_push l dC dI ad cA H.size h18) lk_Machine_120 ⟨rfl, rfl, by decide, by decide⟩ 9 rfl rfl hP hD hS hl.1 rfl rfl (Nat.le_of_ble_eq_true rfl) d_Machine_move_164 (fun H locs hP hD hS => ?_)
              refine lv_goto (tgt := 235) hx hb d_Machine_move_167 (by decide) ?_
              cases hF
              exact leafV X hP hD hS d_Machine_move_235
          · have hF := ifn hF c_12
            by_cases c_19 : a1 = 19
            · have hF := ifp hF c_19
              refine lv_lookup (tgt := 170) (off := 169) hx hb d_Machine_move_1 (by decide) (by rw [c_19]; rfl) (by decide) ?_
              refine lv_aload_n hx hb d_Machine_move_170 rfl (lv_at hl 0 rfl) ?_
              refine lv_aload_n hx hb d_Machine_move_171 rfl (lv_at hl 0 rfl) ?_
              obtain ⟨r20, u20, h20, hF⟩ := b2E hF
              refine callVI (As := []) X (ct_Machine_pop l dC dI ad cA H.size h20) lk_Machine_93 ⟨rfl, rfl, by decide, by decide⟩ 9 rfl rfl hP hD hS hl.1 rfl rfl (Nat.le_of_ble_eq_true rfl) d_Machine_move_172 (fun H locs hP hD hS => ?_)
              refine lv_ineg hx hb d_Machine_move_175 ?_
              obtain ⟨u21, h21, hF⟩ := b1E hF
              refine callVV (As := [.int (-r20)]) X (ct_Machine_push l dC dI ad cA H.size h21) lk_Machine_120 ⟨rfl, rfl, by decide, by decide⟩ 9 rfl rfl hP hD hS hl.1 rfl rfl (Nat.le_of_ble_eq_true rfl) d_Machine_move_176 (fun H locs hP hD hS => ?_)
              refine lv_goto (tgt := 235) hx hb d_Machine_move_179 (by decide) ?_
              cases hF
              exact leafV X hP hD hS d_Machine_move_235
            · have hF := ifn hF c_19
              by_cases c_22 : a1 = 21
              · have hF := ifp hF c_22
                refine lv_lookup (tgt := 140) (off := 139) hx hb d_Machine_move_1 (by decide) (by rw [c_22]; rfl) (by decide) ?_
                refine lv_aload_n hx hb d_Machine_move_140 rfl (lv_at hl 0 rfl) ?_
                obtain ⟨r23, u23, h23, hF⟩ := b2E hF
                refine callVI (As := []) X (ct_Machine_pop l dC dI ad cA H.size h23) lk_Machine_93 ⟨rfl, rfl, by decide, by decide⟩ 9 rfl rfl hP hD hS hl.1 rfl rfl (Nat.le_of_ble_eq_true rfl) d_Machine_move_141 (fun H locs hP hD hS => ?_)
                refine lv_pop hx hb d_Machine_move_144 rfl ?_
                refine lv_goto (tgt := 235) hx hb d_Machine_move_145 (by decide) ?_
                cases hF
                exact leafV X hP hD hS d_Machine_move_235
              · have hF := ifn hF c_22
                by_cases c_24 : a1 = 33
                · have hF := ifp hF c_24
                  refine lv_lookup (tgt := 182) (off := 181) hx hb d_Machine_move_1 (by decide) (by rw [c_24]; rfl) (by decide) ?_
                  refine lv_aload_n hx hb d_Machine_move_182 rfl (lv_at hl 0 rfl) ?_
                  refine lv_aload_n hx hb d_Machine_move_183 rfl (lv_at hl 0 rfl) ?_
                  obtain ⟨r25, u25, h25, hF⟩ := b2E hF
                  refine callVI (As := []) X (ct_Machine_pop l dC dI ad cA H.size h25) lk_Machine_93 ⟨rfl, rfl, by decide, by decide⟩ 9 rfl rfl hP hD hS hl.1 rfl rfl (Nat.le_of_ble_eq_true rfl) d_Machine_move_184 (fun H locs hP hD hS => ?_)
                  refine lv_if_ne (tgt := 194) hx hb d_Machine_move_187 (by decide) (fun c_26 => ?_) (fun c_26 => ?_)
                  · have hF := ifn hF c_26
                    refine lv_iconst (v := 0) hx hb d_Machine_move_194 (by decide) ?_
                    obtain ⟨r27, h27, hF⟩ := b1E hF
                    refine callSI (As := [.int 0]) X (ct_Machine_truth l dC dI ad cA H.size h27) lk_Machine_133 ⟨rfl, rfl, by decide, by decide⟩ hP hD hS hl.1 rfl rfl (Nat.le_of_ble_eq_true rfl) d_Machine_move_195 (fun H locs hP hD hS => ?_)
                    obtain ⟨u28, h28, hF⟩ := b1E hF
                    refine callVV (As := [.int r27]) X (ct_Machine_push l dC dI ad cA H.size h28) lk_Machine_120 ⟨rfl, rfl, by decide, by decide⟩ 9 rfl rfl hP hD hS hl.1 rfl rfl (Nat.le_of_ble_eq_true rfl) d_Machine_move_198 (fun H locs hP hD hS => ?_)
                    refine lv_goto (tgt := 235) hx hb d_Machine_move_201 (by decide) ?_
                    cases hF
                    exact leafV X hP hD hS d_Machine_move_235
                  · have hF := ifp hF c_26
                    refine lv_iconst (v := 1) hx hb d_Machine_move_190 (by decide) ?_
                    refine lv_goto (tgt := 195) hx hb d_Machine_move_191 (by decide) ?_
                    obtain ⟨r29, h29, hF⟩ := b1E hF
                    refine callSI (As := [.int 1]) X (ct_Machine_truth l dC dI ad cA H.size h29) lk_Machine_133 ⟨rfl, rfl, by decide, by decide⟩ hP hD hS hl.1 rfl rfl (Nat.le_of_ble_eq_true rfl) d_Machine_move_195 (fun H locs hP hD hS => ?_)
                    obtain ⟨u30, h30, hF⟩ := b1E hF
                    refine callVV (As := [.int r29]) X (ct_Machine_push l dC dI ad cA H.size h30) lk_Machine_120 ⟨rfl, rfl, by decide, by decide⟩ 9 rfl rfl hP hD hS hl.1 rfl rfl (Nat.le_of_ble_eq_true rfl) d_Machine_move_198 (fun H locs hP hD hS => ?_)
                    refine lv_goto (tgt := 235) hx hb d_Machine_move_201 (by decide) ?_
                    cases hF
                    exact leafV X hP hD hS d_Machine_move_235
                · have hF := ifn hF c_24
                  by_cases c_31 : a1 = 126
                  · have hF := ifp hF c_31
                    refine lv_lookup (tgt := 204) (off := 203) hx hb d_Machine_move_1 (by decide) (by rw [c_31]; rfl) (by decide) ?_
                    refine lv_aload_n hx hb d_Machine_move_204 rfl (lv_at hl 0 rfl) ?_
                    refine lv_aload_n hx hb d_Machine_move_205 rfl (lv_at hl 0 rfl) ?_
                    obtain ⟨r32, u32, h32, hF⟩ := b2E hF
                    refine callVI (As := []) X (ct_Machine_pop l dC dI ad cA H.size h32) lk_Machine_93 ⟨rfl, rfl, by decide, by decide⟩ 9 rfl rfl hP hD hS hl.1 rfl rfl (Nat.le_of_ble_eq_true rfl) d_Machine_move_206 (fun H locs hP hD hS => ?_)
                    refine lv_iconst (v := (-1)) hx hb d_Machine_move_209 (by decide) ?_
                    refine lv_ixor hx hb d_Machine_move_210 ?_
                    obtain ⟨u33, h33, hF⟩ := b1E hF
                    refine callVV (As := [.int (r32 ^^^ (-1))]) X (ct_Machine_push l dC dI ad cA H.size h33) lk_Machine_120 ⟨rfl, rfl, by decide, by decide⟩ 9 rfl rfl hP hD hS hl.1 rfl rfl (Nat.le_of_ble_eq_true rfl) d_Machine_move_211 (fun H locs hP hD hS => ?_)
                    refine lv_goto (tgt := 235) hx hb d_Machine_move_214 (by decide) ?_
                    cases hF
                    exact leafV X hP hD hS d_Machine_move_235
                  · have hF := ifn hF c_31
                    refine lv_lookup (tgt := 217) (off := 216) hx hb d_Machine_move_1 (by decide) (by show Op.lookupswitch.offset [(8, 125), (10, 83), (11, 91), (12, 108), (18, 147), (19, 169), (21, 139), (33, 181), (126, 203)] 216 _ = _; rw [lv_osw (a := 8) c_1 (by decide), lv_osw (a := 10) c_4 (by decide), lv_osw (a := 11) c_6 (by decide), lv_osw (a := 12) c_9 (by decide), lv_osw (a := 18) c_12 (by decide), lv_osw (a := 19) c_19 (by decide), lv_osw (a := 21) c_22 (by decide), lv_osw (a := 33) c_24 (by decide), lv_osw (a := 126) c_31 (by decide)]; rfl) (by decide) ?_
                    refine lv_aload_n hx hb d_Machine_move_217 rfl (lv_at hl 0 rfl) ?_
                    obtain ⟨r34, u34, h34, hF⟩ := b2E hF
                    refine callVI (As := []) X (ct_Machine_pop l dC dI ad cA H.size h34) lk_Machine_93 ⟨rfl, rfl, by decide, by decide⟩ 9 rfl rfl hP hD hS hl.1 rfl rfl (Nat.le_of_ble_eq_true rfl) d_Machine_move_218 (fun H locs hP hD hS => ?_)
                    refine lv_istore_n (lv' := [(3, .int r34), (0, .ref (ad 9)), (1, .int a1), (2, .int a2)]) hx hb d_Machine_move_221 rfl hl (by decide) rfl (fun ls hl => ?_)
                    refine lv_aload_n hx hb d_Machine_move_222 rfl (lv_at hl 1 rfl) ?_
                    refine lv_iload_n hx hb d_Machine_move_223 rfl (lv_at hl 2 rfl) ?_
                    refine lv_aload_n hx hb d_Machine_move_224 rfl (lv_at hl 1 rfl) ?_
                    obtain ⟨r35, u35, h35, hF⟩ := b2E hF
                    refine callVI (As := []) X (ct_Machine_pop l dC dI ad cA H.size h35) lk_Machine_93 ⟨rfl, rfl, by decide, by decide⟩ 9 rfl rfl hP hD hS hl.1 rfl rfl (Nat.le_of_ble_eq_true rfl) d_Machine_move_225 (fun H locs hP hD hS => ?_)
                    refine lv_iload_n hx hb d_Machine_move_228 rfl (lv_at hl 0 rfl) ?_
                    obtain ⟨r36, h36, hF⟩ := b1E hF
                    refine callSI (As := [.int a1, .int r35, .int r34]) X (ct_Machine_workedOut l dC dI ad cA H.size h36) lk_Machine_137 ⟨rfl, rfl, by decide, by decide⟩ hP hD hS hl.1 rfl rfl (Nat.le_of_ble_eq_true rfl) d_Machine_move_229 (fun H locs hP hD hS => ?_)
                    obtain ⟨u37, h37, hF⟩ := b1E hF
                    refine callVV (As := [.int r36]) X (ct_Machine_push l dC dI ad cA H.size h37) lk_Machine_120 ⟨rfl, rfl, by decide, by decide⟩ 9 rfl rfl hP hD hS hl.1 rfl rfl (Nat.le_of_ble_eq_true rfl) d_Machine_move_232 (fun H locs hP hD hS => ?_)
                    cases hF
                    exact leafV X hP hD hS d_Machine_move_235
theorem d_Machine_put_0 : decode b_Machine_put 0 = .ok (.aload_n 0, 1) := by decide +kernel
theorem d_Machine_put_1 : decode b_Machine_put 1 = .ok (.getfield 43, 3) := by decide +kernel
theorem d_Machine_put_4 : decode b_Machine_put 4 = .ok (.bipush 30, 2) := by decide +kernel
theorem d_Machine_put_6 : decode b_Machine_put 6 = .ok (.if_icmp .lt 11, 3) := by decide +kernel
theorem d_Machine_put_9 : decode b_Machine_put 9 = .ok (.aload_n 0, 1) := by decide +kernel
theorem d_Machine_put_10 : decode b_Machine_put 10 = .ok (.iconst 1, 1) := by decide +kernel
theorem d_Machine_put_11 : decode b_Machine_put 11 = .ok (.putfield 40, 3) := by decide +kernel
theorem d_Machine_put_14 : decode b_Machine_put 14 = .ok (.goto 23, 3) := by decide +kernel
theorem d_Machine_put_17 : decode b_Machine_put 17 = .ok (.aload_n 0, 1) := by decide +kernel
theorem d_Machine_put_18 : decode b_Machine_put 18 = .ok (.getfield 24, 3) := by decide +kernel
theorem d_Machine_put_21 : decode b_Machine_put 21 = .ok (.aload_n 0, 1) := by decide +kernel
theorem d_Machine_put_22 : decode b_Machine_put 22 = .ok (.getfield 43, 3) := by decide +kernel
theorem d_Machine_put_25 : decode b_Machine_put 25 = .ok (.iload_n 1, 1) := by decide +kernel
theorem d_Machine_put_26 : decode b_Machine_put 26 = .ok (.iastore, 1) := by decide +kernel
theorem d_Machine_put_27 : decode b_Machine_put 27 = .ok (.aload_n 0, 1) := by decide +kernel
theorem d_Machine_put_28 : decode b_Machine_put 28 = .ok (.dup, 1) := by decide +kernel
theorem d_Machine_put_29 : decode b_Machine_put 29 = .ok (.getfield 43, 3) := by decide +kernel
theorem d_Machine_put_32 : decode b_Machine_put 32 = .ok (.iconst 1, 1) := by decide +kernel
theorem d_Machine_put_33 : decode b_Machine_put 33 = .ok (.iadd, 1) := by decide +kernel
theorem d_Machine_put_34 : decode b_Machine_put 34 = .ok (.putfield 43, 3) := by decide +kernel
theorem d_Machine_put_37 : decode b_Machine_put 37 = .ok (.return_, 1) := by decide +kernel
def tMachine_put (σ : St) (a1 : Int32) : Option (St) := if (σ.1 22) < 30 then gd (inB (σ.1 22) 30) (some (sI (sA σ 14 (upd (σ.2.2.1 14) (σ.1 22).toNatClampNeg a1)) 22 ((σ.1 22) + 1))) else some (sI σ 21 1)
set_option maxHeartbeats 4000000 in
set_option maxRecDepth 100000 in
theorem ct_Machine_put (l : Launch) (dC : Nat → ClassId) (dI : Nat → Nat → Nat) (ad : Nat → Nat) (cA : Nat → ClassId) (sz : Nat) {σ : St} {a1 : Int32} {σ' : St} (hF : tMachine_put σ a1 = some σ') : MV l y_Machine_put b_Machine_put 2 none { frames := 0, cells := 0, slots := 0, locals := 0 } (dC, dI) (ttys cA) ad (tcw ad cA) [.ref (ad 9), .int a1] σ sz σ' := by
  refine startM (own := "TinyForge$Machine") (Qc := fun A => QV (dC, dI) (ttys cA) (tcw ad cA) A σ') rfl rfl (Nat.le_of_ble_eq_true rfl) ?_
  intro p e s m below meth c A H locs ls X hP hD hS hl
  have hl : lv_has ls 2 [(0, .ref (ad 9)), (1, .int a1)] := hl
  obtain ⟨hx, hb, hr, hml, hown, hlocks, hts, hA, hK, hZ⟩ := id X
  unfold tMachine_put at hF
  refine lv_aload_n hx hb d_Machine_put_0 rfl (lv_at hl 0 rfl) ?_
  refine va_get (D := (dC, dI)) (ci := 9) (v := .int (σ.1 22)) hx hb hts i_Machine hown hK hP 9 rfl rfl 12 (by decide) (hts _ w_e1c42edd65) (fun _ h9 => h9) rfl d_Machine_put_1 ?_
  refine lv_bipush (v := 30) hx hb d_Machine_put_4 (by decide) ?_
  refine lv_icmp_lt (tgt := 17) hx hb d_Machine_put_6 (by decide) (fun c_1 => ?_) (fun c_1 => ?_)
  · have hF := ifp hF c_1
    refine lv_aload_n hx hb d_Machine_put_17 rfl (lv_at hl 0 rfl) ?_
    refine va_get (D := (dC, dI)) (ci := 9) (v := .ref (ad 29)) hx hb hts i_Machine hown hK hP 9 rfl rfl 6 (by decide) (hts _ w_e94adc8391) (fun _ h9 => h9) rfl d_Machine_put_18 ?_
    refine lv_aload_n hx hb d_Machine_put_21 rfl (lv_at hl 0 rfl) ?_
    refine va_get (D := (dC, dI)) (ci := 9) (v := .int (σ.1 22)) hx hb hts i_Machine hown hK hP 9 rfl rfl 12 (by decide) (hts _ w_e1c42edd65) (fun _ h9 => h9) rfl d_Machine_put_22 ?_
    refine lv_iload_n hx hb d_Machine_put_25 rfl (lv_at hl 1 rfl) ?_
    obtain ⟨g_2, hF⟩ := gdE hF
    refine va_iast (f := (σ.2.2.1 14)) hx hb hK hP hD hS 29 0 rfl rfl (inE g_2) d_Machine_put_26 (fun H locs hP hD hS => ?_)
    have hP : va_P (dC, dI) vwCl (tcw ad cA (sA σ 14 (upd (σ.2.2.1 14) (σ.1 22).toNatClampNeg a1))) H := hP
    have hD : va_D A (tcw ad cA (sA σ 14 (upd (σ.2.2.1 14) (σ.1 22).toNatClampNeg a1))) := hD
    refine lv_aload_n hx hb d_Machine_put_27 rfl (lv_at hl 0 rfl) ?_
    refine lv_dup hx hb d_Machine_put_28 rfl ?_
    refine va_get (D := (dC, dI)) (ci := 9) (v := .int (σ.1 22)) hx hb hts i_Machine hown hK hP 9 rfl rfl 12 (by decide) (hts _ w_e1c42edd65) (fun _ h9 => h9) rfl d_Machine_put_29 ?_
    refine lv_iconst (v := 1) hx hb d_Machine_put_32 (by decide) ?_
    refine lv_iadd hx hb d_Machine_put_33 ?_
    refine va_put (D := (dC, dI)) (ci := 9) (v := .int ((σ.1 22) + 1)) (ty := .int) hx hb hts i_Machine t_Machine t_Machine_ok n_Machine hown hK hP hD hS 9 rfl rfl 12 (by decide) (hts _ w_e1c42edd65) (fun _ h9 => h9) rfl (by decide +kernel) rfl rfl (Nat.le_of_ble_eq_true rfl) d_Machine_put_34 (fun H locs hP hD hS => ?_)
    have hP : va_P (dC, dI) vwCl (tcw ad cA (sI (sA σ 14 (upd (σ.2.2.1 14) (σ.1 22).toNatClampNeg a1)) 22 ((σ.1 22) + 1))) H := hP
    have hD : va_D A (tcw ad cA (sI (sA σ 14 (upd (σ.2.2.1 14) (σ.1 22).toNatClampNeg a1)) 22 ((σ.1 22) + 1))) := hD
    cases hF
    exact leafV X hP hD hS d_Machine_put_37
  · have hF := ifn hF c_1
    refine lv_aload_n hx hb d_Machine_put_9 rfl (lv_at hl 0 rfl) ?_
    refine lv_iconst (v := 1) hx hb d_Machine_put_10 (by decide) ?_
    refine va_put (D := (dC, dI)) (ci := 9) (v := .int 1) (ty := .int) hx hb hts i_Machine t_Machine t_Machine_ok n_Machine hown hK hP hD hS 9 rfl rfl 11 (by decide) (hts _ w_de4404caec) (fun _ h9 => h9) rfl (by decide +kernel) rfl rfl (Nat.le_of_ble_eq_true rfl) d_Machine_put_11 (fun H locs hP hD hS => ?_)
    have hP : va_P (dC, dI) vwCl (tcw ad cA (sI σ 21 1)) H := hP
    have hD : va_D A (tcw ad cA (sI σ 21 1)) := hD
    refine lv_goto (tgt := 37) hx hb d_Machine_put_14 (by decide) ?_
    cases hF
    exact leafV X hP hD hS d_Machine_put_37
theorem d_Machine_setElement_0 : decode b_Machine_setElement 0 = .ok (.aload_n 0, 1) := by decide +kernel
theorem d_Machine_setElement_1 : decode b_Machine_setElement 1 = .ok (.invokevirtual 93, 3) := by decide +kernel
theorem d_Machine_setElement_4 : decode b_Machine_setElement 4 = .ok (.istore_n 3, 1) := by decide +kernel
theorem d_Machine_setElement_5 : decode b_Machine_setElement 5 = .ok (.aload_n 0, 1) := by decide +kernel
theorem d_Machine_setElement_6 : decode b_Machine_setElement 6 = .ok (.invokevirtual 93, 3) := by decide +kernel
theorem d_Machine_setElement_9 : decode b_Machine_setElement 9 = .ok (.istore 4, 2) := by decide +kernel
theorem d_Machine_setElement_11 : decode b_Machine_setElement 11 = .ok (.iload 4, 2) := by decide +kernel
theorem d_Machine_setElement_13 : decode b_Machine_setElement 13 = .ok (.ifCond .lt 9, 3) := by decide +kernel
theorem d_Machine_setElement_16 : decode b_Machine_setElement 16 = .ok (.iload 4, 2) := by decide +kernel
theorem d_Machine_setElement_18 : decode b_Machine_setElement 18 = .ok (.iload_n 2, 1) := by decide +kernel
theorem d_Machine_setElement_19 : decode b_Machine_setElement 19 = .ok (.if_icmp .lt 11, 3) := by decide +kernel
theorem d_Machine_setElement_22 : decode b_Machine_setElement 22 = .ok (.aload_n 0, 1) := by decide +kernel
theorem d_Machine_setElement_23 : decode b_Machine_setElement 23 = .ok (.iconst 1, 1) := by decide +kernel
theorem d_Machine_setElement_24 : decode b_Machine_setElement 24 = .ok (.putfield 40, 3) := by decide +kernel
theorem d_Machine_setElement_27 : decode b_Machine_setElement 27 = .ok (.goto 13, 3) := by decide +kernel
theorem d_Machine_setElement_30 : decode b_Machine_setElement 30 = .ok (.aload_n 0, 1) := by decide +kernel
theorem d_Machine_setElement_31 : decode b_Machine_setElement 31 = .ok (.getfield 15, 3) := by decide +kernel
theorem d_Machine_setElement_34 : decode b_Machine_setElement 34 = .ok (.iload_n 1, 1) := by decide +kernel
theorem d_Machine_setElement_35 : decode b_Machine_setElement 35 = .ok (.iload 4, 2) := by decide +kernel
theorem d_Machine_setElement_37 : decode b_Machine_setElement 37 = .ok (.iadd, 1) := by decide +kernel
theorem d_Machine_setElement_38 : decode b_Machine_setElement 38 = .ok (.iload_n 3, 1) := by decide +kernel
theorem d_Machine_setElement_39 : decode b_Machine_setElement 39 = .ok (.iastore, 1) := by decide +kernel
theorem d_Machine_setElement_40 : decode b_Machine_setElement 40 = .ok (.return_, 1) := by decide +kernel
def tMachine_setElement (σ : St) (a1 : Int32) (a2 : Int32) : Option (St) := b2 (tMachine_pop σ) (fun r1 u1 => b2 (tMachine_pop u1) (fun r2 u2 => if r2 < 0 then some (sI u2 21 1) else if r2 < a2 then gd (inB (a1 + r2) 64) (some (sA u2 11 (upd (u2.2.2.1 11) (a1 + r2).toNatClampNeg r1))) else some (sI u2 21 1)))
set_option maxHeartbeats 4000000 in
set_option maxRecDepth 100000 in
theorem ct_Machine_setElement (l : Launch) (dC : Nat → ClassId) (dI : Nat → Nat → Nat) (ad : Nat → Nat) (cA : Nat → ClassId) (sz : Nat) {σ : St} {a1 : Int32} {a2 : Int32} {σ' : St} (hF : tMachine_setElement σ a1 a2 = some σ') : MV l y_Machine_setElement b_Machine_setElement 5 none { frames := 2, cells := 0, slots := 0, locals := 41 } (dC, dI) (ttys cA) ad (tcw ad cA) [.ref (ad 9), .int a1, .int a2] σ sz σ' := by
  refine startM (own := "TinyForge$Machine") (Qc := fun A => QV (dC, dI) (ttys cA) (tcw ad cA) A σ') rfl rfl (Nat.le_of_ble_eq_true rfl) ?_
  intro p e s m below meth c A H locs ls X hP hD hS hl
  have hl : lv_has ls 5 [(0, .ref (ad 9)), (1, .int a1), (2, .int a2)] := hl
  obtain ⟨hx, hb, hr, hml, hown, hlocks, hts, hA, hK, hZ⟩ := id X
  unfold tMachine_setElement at hF
  refine lv_aload_n hx hb d_Machine_setElement_0 rfl (lv_at hl 0 rfl) ?_
  obtain ⟨r1, u1, h1, hF⟩ := b2E hF
  refine callVI (As := []) X (ct_Machine_pop l dC dI ad cA H.size h1) lk_Machine_93 ⟨rfl, rfl, by decide, by decide⟩ 9 rfl rfl hP hD hS hl.1 rfl rfl (Nat.le_of_ble_eq_true rfl) d_Machine_setElement_1 (fun H locs hP hD hS => ?_)
  refine lv_istore_n (lv' := [(3, .int r1), (0, .ref (ad 9)), (1, .int a1), (2, .int a2)]) hx hb d_Machine_setElement_4 rfl hl (by decide) rfl (fun ls hl => ?_)
  refine lv_aload_n hx hb d_Machine_setElement_5 rfl (lv_at hl 1 rfl) ?_
  obtain ⟨r2, u2, h2, hF⟩ := b2E hF
  refine callVI (As := []) X (ct_Machine_pop l dC dI ad cA H.size h2) lk_Machine_93 ⟨rfl, rfl, by decide, by decide⟩ 9 rfl rfl hP hD hS hl.1 rfl rfl (Nat.le_of_ble_eq_true rfl) d_Machine_setElement_6 (fun H locs hP hD hS => ?_)
  refine lv_istore (lv' := [(4, .int r2), (3, .int r1), (0, .ref (ad 9)), (1, .int a1), (2, .int a2)]) hx hb d_Machine_setElement_9 hl (by decide) rfl (fun ls hl => ?_)
  refine lv_iload hx hb d_Machine_setElement_11 (lv_at hl 0 rfl) ?_
  refine lv_if_lt (tgt := 22) hx hb d_Machine_setElement_13 (by decide) (fun c_3 => ?_) (fun c_3 => ?_)
  · have hF := ifp hF c_3
    refine lv_aload_n hx hb d_Machine_setElement_22 rfl (lv_at hl 2 rfl) ?_
    refine lv_iconst (v := 1) hx hb d_Machine_setElement_23 (by decide) ?_
    refine va_put (D := (dC, dI)) (ci := 9) (v := .int 1) (ty := .int) hx hb hts i_Machine t_Machine t_Machine_ok n_Machine hown hK hP hD hS 9 rfl rfl 11 (by decide) (hts _ w_de4404caec) (fun _ h9 => h9) rfl (by decide +kernel) rfl rfl (Nat.le_of_ble_eq_true rfl) d_Machine_setElement_24 (fun H locs hP hD hS => ?_)
    have hP : va_P (dC, dI) vwCl (tcw ad cA (sI u2 21 1)) H := hP
    have hD : va_D A (tcw ad cA (sI u2 21 1)) := hD
    refine lv_goto (tgt := 40) hx hb d_Machine_setElement_27 (by decide) ?_
    cases hF
    exact leafV X hP hD hS d_Machine_setElement_40
  · have hF := ifn hF c_3
    refine lv_iload hx hb d_Machine_setElement_16 (lv_at hl 0 rfl) ?_
    refine lv_iload_n hx hb d_Machine_setElement_18 rfl (lv_at hl 4 rfl) ?_
    refine lv_icmp_lt (tgt := 30) hx hb d_Machine_setElement_19 (by decide) (fun c_4 => ?_) (fun c_4 => ?_)
    · have hF := ifp hF c_4
      refine lv_aload_n hx hb d_Machine_setElement_30 rfl (lv_at hl 2 rfl) ?_
      refine va_get (D := (dC, dI)) (ci := 9) (v := .ref (ad 26)) hx hb hts i_Machine hown hK hP 9 rfl rfl 3 (by decide) (hts _ w_577718637b) (fun _ h9 => h9) rfl d_Machine_setElement_31 ?_
      refine lv_iload_n hx hb d_Machine_setElement_34 rfl (lv_at hl 3 rfl) ?_
      refine lv_iload hx hb d_Machine_setElement_35 (lv_at hl 0 rfl) ?_
      refine lv_iadd hx hb d_Machine_setElement_37 ?_
      refine lv_iload_n hx hb d_Machine_setElement_38 rfl (lv_at hl 1 rfl) ?_
      obtain ⟨g_5, hF⟩ := gdE hF
      refine va_iast (f := (u2.2.2.1 11)) hx hb hK hP hD hS 26 0 rfl rfl (inE g_5) d_Machine_setElement_39 (fun H locs hP hD hS => ?_)
      have hP : va_P (dC, dI) vwCl (tcw ad cA (sA u2 11 (upd (u2.2.2.1 11) (a1 + r2).toNatClampNeg r1))) H := hP
      have hD : va_D A (tcw ad cA (sA u2 11 (upd (u2.2.2.1 11) (a1 + r2).toNatClampNeg r1))) := hD
      cases hF
      exact leafV X hP hD hS d_Machine_setElement_40
    · have hF := ifn hF c_4
      refine lv_aload_n hx hb d_Machine_setElement_22 rfl (lv_at hl 2 rfl) ?_
      refine lv_iconst (v := 1) hx hb d_Machine_setElement_23 (by decide) ?_
      refine va_put (D := (dC, dI)) (ci := 9) (v := .int 1) (ty := .int) hx hb hts i_Machine t_Machine t_Machine_ok n_Machine hown hK hP hD hS 9 rfl rfl 11 (by decide) (hts _ w_de4404caec) (fun _ h9 => h9) rfl (by decide +kernel) rfl rfl (Nat.le_of_ble_eq_true rfl) d_Machine_setElement_24 (fun H locs hP hD hS => ?_)
      have hP : va_P (dC, dI) vwCl (tcw ad cA (sI u2 21 1)) H := hP
      have hD : va_D A (tcw ad cA (sI u2 21 1)) := hD
      refine lv_goto (tgt := 40) hx hb d_Machine_setElement_27 (by decide) ?_
      cases hF
      exact leafV X hP hD hS d_Machine_setElement_40
theorem d_Machine_step_0 : decode b_Machine_step 0 = .ok (.aload_n 0, 1) := by decide +kernel
theorem d_Machine_step_1 : decode b_Machine_step 1 = .ok (.getfield 37, 3) := by decide +kernel
theorem d_Machine_step_4 : decode b_Machine_step 4 = .ok (.ifCond .lt 17, 3) := by decide +kernel
theorem d_Machine_step_7 : decode b_Machine_step 7 = .ok (.aload_n 0, 1) := by decide +kernel
theorem d_Machine_step_8 : decode b_Machine_step 8 = .ok (.getfield 37, 3) := by decide +kernel
theorem d_Machine_step_11 : decode b_Machine_step 11 = .ok (.aload_n 0, 1) := by decide +kernel
theorem d_Machine_step_12 : decode b_Machine_step 12 = .ok (.getfield 52, 3) := by decide +kernel
theorem d_Machine_step_15 : decode b_Machine_step 15 = .ok (.getfield 81, 3) := by decide +kernel
theorem d_Machine_step_18 : decode b_Machine_step 18 = .ok (.if_icmp .lt 9, 3) := by decide +kernel
theorem d_Machine_step_21 : decode b_Machine_step 21 = .ok (.aload_n 0, 1) := by decide +kernel
theorem d_Machine_step_22 : decode b_Machine_step 22 = .ok (.iconst 1, 1) := by decide +kernel
theorem d_Machine_step_23 : decode b_Machine_step 23 = .ok (.putfield 40, 3) := by decide +kernel
theorem d_Machine_step_26 : decode b_Machine_step 26 = .ok (.return_, 1) := by decide +kernel
theorem d_Machine_step_27 : decode b_Machine_step 27 = .ok (.aload_n 0, 1) := by decide +kernel
theorem d_Machine_step_28 : decode b_Machine_step 28 = .ok (.getfield 52, 3) := by decide +kernel
theorem d_Machine_step_31 : decode b_Machine_step 31 = .ok (.getfield 84, 3) := by decide +kernel
theorem d_Machine_step_34 : decode b_Machine_step 34 = .ok (.aload_n 0, 1) := by decide +kernel
theorem d_Machine_step_35 : decode b_Machine_step 35 = .ok (.getfield 37, 3) := by decide +kernel
theorem d_Machine_step_38 : decode b_Machine_step 38 = .ok (.iaload, 1) := by decide +kernel
theorem d_Machine_step_39 : decode b_Machine_step 39 = .ok (.istore_n 1, 1) := by decide +kernel
theorem d_Machine_step_40 : decode b_Machine_step 40 = .ok (.aload_n 0, 1) := by decide +kernel
theorem d_Machine_step_41 : decode b_Machine_step 41 = .ok (.getfield 52, 3) := by decide +kernel
theorem d_Machine_step_44 : decode b_Machine_step 44 = .ok (.getfield 87, 3) := by decide +kernel
theorem d_Machine_step_47 : decode b_Machine_step 47 = .ok (.aload_n 0, 1) := by decide +kernel
theorem d_Machine_step_48 : decode b_Machine_step 48 = .ok (.getfield 37, 3) := by decide +kernel
theorem d_Machine_step_51 : decode b_Machine_step 51 = .ok (.iaload, 1) := by decide +kernel
theorem d_Machine_step_52 : decode b_Machine_step 52 = .ok (.istore_n 2, 1) := by decide +kernel
theorem d_Machine_step_53 : decode b_Machine_step 53 = .ok (.aload_n 0, 1) := by decide +kernel
theorem d_Machine_step_54 : decode b_Machine_step 54 = .ok (.getfield 52, 3) := by decide +kernel
theorem d_Machine_step_57 : decode b_Machine_step 57 = .ok (.getfield 90, 3) := by decide +kernel
theorem d_Machine_step_60 : decode b_Machine_step 60 = .ok (.aload_n 0, 1) := by decide +kernel
theorem d_Machine_step_61 : decode b_Machine_step 61 = .ok (.getfield 37, 3) := by decide +kernel
theorem d_Machine_step_64 : decode b_Machine_step 64 = .ok (.iaload, 1) := by decide +kernel
theorem d_Machine_step_65 : decode b_Machine_step 65 = .ok (.istore_n 3, 1) := by decide +kernel
theorem d_Machine_step_66 : decode b_Machine_step 66 = .ok (.aload_n 0, 1) := by decide +kernel
theorem d_Machine_step_67 : decode b_Machine_step 67 = .ok (.dup, 1) := by decide +kernel
theorem d_Machine_step_68 : decode b_Machine_step 68 = .ok (.getfield 37, 3) := by decide +kernel
theorem d_Machine_step_71 : decode b_Machine_step 71 = .ok (.iconst 1, 1) := by decide +kernel
theorem d_Machine_step_72 : decode b_Machine_step 72 = .ok (.iadd, 1) := by decide +kernel
theorem d_Machine_step_73 : decode b_Machine_step 73 = .ok (.putfield 37, 3) := by decide +kernel
theorem d_Machine_step_76 : decode b_Machine_step 76 = .ok (.iload_n 1, 1) := by decide +kernel
theorem d_Machine_step_77 : decode b_Machine_step 77 = .ok (.lookupswitch 190 #[(7, 100), (9, 179), (13, 161), (14, 170), (15, 91), (16, 111), (17, 119), (20, 154), (294, 134), (380, 134)], 91) := by decide +kernel
theorem d_Machine_step_168 : decode b_Machine_step 168 = .ok (.aload_n 0, 1) := by decide +kernel
theorem d_Machine_step_169 : decode b_Machine_step 169 = .ok (.iload_n 2, 1) := by decide +kernel
theorem d_Machine_step_170 : decode b_Machine_step 170 = .ok (.iload_n 3, 1) := by decide +kernel
theorem d_Machine_step_171 : decode b_Machine_step 171 = .ok (.invokevirtual 73, 3) := by decide +kernel
theorem d_Machine_step_174 : decode b_Machine_step 174 = .ok (.goto 99, 3) := by decide +kernel
theorem d_Machine_step_177 : decode b_Machine_step 177 = .ok (.aload_n 0, 1) := by decide +kernel
theorem d_Machine_step_178 : decode b_Machine_step 178 = .ok (.aload_n 0, 1) := by decide +kernel
theorem d_Machine_step_179 : decode b_Machine_step 179 = .ok (.invokevirtual 93, 3) := by decide +kernel
theorem d_Machine_step_182 : decode b_Machine_step 182 = .ok (.invokevirtual 97, 3) := by decide +kernel
theorem d_Machine_step_185 : decode b_Machine_step 185 = .ok (.goto 88, 3) := by decide +kernel
theorem d_Machine_step_188 : decode b_Machine_step 188 = .ok (.aload_n 0, 1) := by decide +kernel
theorem d_Machine_step_189 : decode b_Machine_step 189 = .ok (.iload_n 2, 1) := by decide +kernel
theorem d_Machine_step_190 : decode b_Machine_step 190 = .ok (.putfield 37, 3) := by decide +kernel
theorem d_Machine_step_193 : decode b_Machine_step 193 = .ok (.goto 80, 3) := by decide +kernel
theorem d_Machine_step_196 : decode b_Machine_step 196 = .ok (.aload_n 0, 1) := by decide +kernel
theorem d_Machine_step_197 : decode b_Machine_step 197 = .ok (.invokevirtual 93, 3) := by decide +kernel
theorem d_Machine_step_200 : decode b_Machine_step 200 = .ok (.ifCond .ne 73, 3) := by decide +kernel
theorem d_Machine_step_203 : decode b_Machine_step 203 = .ok (.aload_n 0, 1) := by decide +kernel
theorem d_Machine_step_204 : decode b_Machine_step 204 = .ok (.iload_n 2, 1) := by decide +kernel
theorem d_Machine_step_205 : decode b_Machine_step 205 = .ok (.putfield 37, 3) := by decide +kernel
theorem d_Machine_step_208 : decode b_Machine_step 208 = .ok (.goto 65, 3) := by decide +kernel
theorem d_Machine_step_211 : decode b_Machine_step 211 = .ok (.aload_n 0, 1) := by decide +kernel
theorem d_Machine_step_212 : decode b_Machine_step 212 = .ok (.iload_n 1, 1) := by decide +kernel
theorem d_Machine_step_213 : decode b_Machine_step 213 = .ok (.sipush 380, 3) := by decide +kernel
theorem d_Machine_step_216 : decode b_Machine_step 216 = .ok (.if_icmp .ne 7, 3) := by decide +kernel
theorem d_Machine_step_219 : decode b_Machine_step 219 = .ok (.iconst 1, 1) := by decide +kernel
theorem d_Machine_step_220 : decode b_Machine_step 220 = .ok (.goto 4, 3) := by decide +kernel
theorem d_Machine_step_223 : decode b_Machine_step 223 = .ok (.iconst 0, 1) := by decide +kernel
theorem d_Machine_step_224 : decode b_Machine_step 224 = .ok (.iload_n 2, 1) := by decide +kernel
theorem d_Machine_step_225 : decode b_Machine_step 225 = .ok (.invokevirtual 101, 3) := by decide +kernel
theorem d_Machine_step_228 : decode b_Machine_step 228 = .ok (.goto 45, 3) := by decide +kernel
theorem d_Machine_step_231 : decode b_Machine_step 231 = .ok (.aload_n 0, 1) := by decide +kernel
theorem d_Machine_step_232 : decode b_Machine_step 232 = .ok (.invokevirtual 105, 3) := by decide +kernel
theorem d_Machine_step_235 : decode b_Machine_step 235 = .ok (.goto 38, 3) := by decide +kernel
theorem d_Machine_step_238 : decode b_Machine_step 238 = .ok (.aload_n 0, 1) := by decide +kernel
theorem d_Machine_step_239 : decode b_Machine_step 239 = .ok (.iload_n 2, 1) := by decide +kernel
theorem d_Machine_step_240 : decode b_Machine_step 240 = .ok (.iload_n 3, 1) := by decide +kernel
theorem d_Machine_step_241 : decode b_Machine_step 241 = .ok (.invokevirtual 108, 3) := by decide +kernel
theorem d_Machine_step_244 : decode b_Machine_step 244 = .ok (.goto 29, 3) := by decide +kernel
theorem d_Machine_step_247 : decode b_Machine_step 247 = .ok (.aload_n 0, 1) := by decide +kernel
theorem d_Machine_step_248 : decode b_Machine_step 248 = .ok (.iload_n 2, 1) := by decide +kernel
theorem d_Machine_step_249 : decode b_Machine_step 249 = .ok (.iload_n 3, 1) := by decide +kernel
theorem d_Machine_step_250 : decode b_Machine_step 250 = .ok (.invokevirtual 111, 3) := by decide +kernel
theorem d_Machine_step_253 : decode b_Machine_step 253 = .ok (.goto 20, 3) := by decide +kernel
theorem d_Machine_step_256 : decode b_Machine_step 256 = .ok (.aload_n 0, 1) := by decide +kernel
theorem d_Machine_step_257 : decode b_Machine_step 257 = .ok (.aload_n 0, 1) := by decide +kernel
theorem d_Machine_step_258 : decode b_Machine_step 258 = .ok (.invokevirtual 93, 3) := by decide +kernel
theorem d_Machine_step_261 : decode b_Machine_step 261 = .ok (.invokevirtual 114, 3) := by decide +kernel
theorem d_Machine_step_264 : decode b_Machine_step 264 = .ok (.goto 9, 3) := by decide +kernel
theorem d_Machine_step_267 : decode b_Machine_step 267 = .ok (.aload_n 0, 1) := by decide +kernel
theorem d_Machine_step_268 : decode b_Machine_step 268 = .ok (.iload_n 1, 1) := by decide +kernel
theorem d_Machine_step_269 : decode b_Machine_step 269 = .ok (.iload_n 2, 1) := by decide +kernel
theorem d_Machine_step_270 : decode b_Machine_step 270 = .ok (.invokevirtual 117, 3) := by decide +kernel
theorem d_Machine_step_273 : decode b_Machine_step 273 = .ok (.return_, 1) := by decide +kernel
def tMachine_step (σ : St) : Option (St) := if (σ.1 20) < 0 then some (sI σ 21 1) else if (σ.1 20) < (σ.1 13) then gd (inB (σ.1 20) 440) (gd (inB (σ.1 20) 440) (gd (inB (σ.1 20) 440) (if ((σ.2.2.1 6) (σ.1 20).toNatClampNeg) = 7 then b2 (tMachine_pop (sI σ 20 ((σ.1 20) + 1))) (fun r7 u7 => b1 (tMachine_leave u7 r7) (fun u8 => some u8)) else if ((σ.2.2.1 6) (σ.1 20).toNatClampNeg) = 9 then b2 (tMachine_pop (sI σ 20 ((σ.1 20) + 1))) (fun r10 u10 => b1 (tMachine_put u10 r10) (fun u11 => some u11)) else if ((σ.2.2.1 6) (σ.1 20).toNatClampNeg) = 13 then b1 (tMachine_fetchElement (sI σ 20 ((σ.1 20) + 1)) ((σ.2.2.1 7) (σ.1 20).toNatClampNeg) ((σ.2.2.1 8) (σ.1 20).toNatClampNeg)) (fun u13 => some u13) else if ((σ.2.2.1 6) (σ.1 20).toNatClampNeg) = 14 then b1 (tMachine_setElement (sI σ 20 ((σ.1 20) + 1)) ((σ.2.2.1 7) (σ.1 20).toNatClampNeg) ((σ.2.2.1 8) (σ.1 20).toNatClampNeg)) (fun u15 => some u15) else if ((σ.2.2.1 6) (σ.1 20).toNatClampNeg) = 15 then b1 (tMachine_call (sI σ 20 ((σ.1 20) + 1)) ((σ.2.2.1 7) (σ.1 20).toNatClampNeg) ((σ.2.2.1 8) (σ.1 20).toNatClampNeg)) (fun u17 => some u17) else if ((σ.2.2.1 6) (σ.1 20).toNatClampNeg) = 16 then some (sI (sI σ 20 ((σ.1 20) + 1)) 20 ((σ.2.2.1 7) (σ.1 20).toNatClampNeg)) else if ((σ.2.2.1 6) (σ.1 20).toNatClampNeg) = 17 then b2 (tMachine_pop (sI σ 20 ((σ.1 20) + 1))) (fun r20 u20 => if r20 = 0 then some (sI u20 20 ((σ.2.2.1 7) (σ.1 20).toNatClampNeg)) else some u20) else if ((σ.2.2.1 6) (σ.1 20).toNatClampNeg) = 20 then b1 (tMachine_tick (sI σ 20 ((σ.1 20) + 1))) (fun u23 => some u23) else if ((σ.2.2.1 6) (σ.1 20).toNatClampNeg) = 294 then if ((σ.2.2.1 6) (σ.1 20).toNatClampNeg) = 380 then b1 (tMachine_decide (sI σ 20 ((σ.1 20) + 1)) 1 ((σ.2.2.1 7) (σ.1 20).toNatClampNeg)) (fun u27 => some u27) else b1 (tMachine_decide (sI σ 20 ((σ.1 20) + 1)) 0 ((σ.2.2.1 7) (σ.1 20).toNatClampNeg)) (fun u26 => some u26) else if ((σ.2.2.1 6) (σ.1 20).toNatClampNeg) = 380 then if ((σ.2.2.1 6) (σ.1 20).toNatClampNeg) = 380 then b1 (tMachine_decide (sI σ 20 ((σ.1 20) + 1)) 1 ((σ.2.2.1 7) (σ.1 20).toNatClampNeg)) (fun u31 => some u31) else b1 (tMachine_decide (sI σ 20 ((σ.1 20) + 1)) 0 ((σ.2.2.1 7) (σ.1 20).toNatClampNeg)) (fun u30 => some u30) else b1 (tMachine_move (sI σ 20 ((σ.1 20) + 1)) ((σ.2.2.1 6) (σ.1 20).toNatClampNeg) ((σ.2.2.1 7) (σ.1 20).toNatClampNeg)) (fun u32 => some u32)))) else some (sI σ 21 1)
set_option maxHeartbeats 4000000 in
set_option maxRecDepth 100000 in
theorem ct_Machine_step (l : Launch) (dC : Nat → ClassId) (dI : Nat → Nat → Nat) (ad : Nat → Nat) (cA : Nat → ClassId) (sz : Nat) {σ : St} {σ' : St} (hF : tMachine_step σ = some σ') : MV l y_Machine_step b_Machine_step 4 none { frames := 3, cells := 0, slots := 0, locals := 66 } (dC, dI) (ttys cA) ad (tcw ad cA) [.ref (ad 9)] σ sz σ' := by
  refine startM (own := "TinyForge$Machine") (Qc := fun A => QV (dC, dI) (ttys cA) (tcw ad cA) A σ') rfl rfl (Nat.le_of_ble_eq_true rfl) ?_
  intro p e s m below meth c A H locs ls X hP hD hS hl
  have hl : lv_has ls 4 [(0, .ref (ad 9))] := hl
  obtain ⟨hx, hb, hr, hml, hown, hlocks, hts, hA, hK, hZ⟩ := id X
  unfold tMachine_step at hF
  refine lv_aload_n hx hb d_Machine_step_0 rfl (lv_at hl 0 rfl) ?_
  refine va_get (D := (dC, dI)) (ci := 9) (v := .int (σ.1 20)) hx hb hts i_Machine hown hK hP 9 rfl rfl 10 (by decide) (hts _ w_2e3703c8c3) (fun _ h9 => h9) rfl d_Machine_step_1 ?_
  refine lv_if_lt (tgt := 21) hx hb d_Machine_step_4 (by decide) (fun c_1 => ?_) (fun c_1 => ?_)
  · have hF := ifp hF c_1
    refine lv_aload_n hx hb d_Machine_step_21 rfl (lv_at hl 0 rfl) ?_
    refine lv_iconst (v := 1) hx hb d_Machine_step_22 (by decide) ?_
    refine va_put (D := (dC, dI)) (ci := 9) (v := .int 1) (ty := .int) hx hb hts i_Machine t_Machine t_Machine_ok n_Machine hown hK hP hD hS 9 rfl rfl 11 (by decide) (hts _ w_de4404caec) (fun _ h9 => h9) rfl (by decide +kernel) rfl rfl (Nat.le_of_ble_eq_true rfl) d_Machine_step_23 (fun H locs hP hD hS => ?_)
    have hP : va_P (dC, dI) vwCl (tcw ad cA (sI σ 21 1)) H := hP
    have hD : va_D A (tcw ad cA (sI σ 21 1)) := hD
    cases hF
    exact leafV X hP hD hS d_Machine_step_26
  · have hF := ifn hF c_1
    refine lv_aload_n hx hb d_Machine_step_7 rfl (lv_at hl 0 rfl) ?_
    refine va_get (D := (dC, dI)) (ci := 9) (v := .int (σ.1 20)) hx hb hts i_Machine hown hK hP 9 rfl rfl 10 (by decide) (hts _ w_2e3703c8c3) (fun _ h9 => h9) rfl d_Machine_step_8 ?_
    refine lv_aload_n hx hb d_Machine_step_11 rfl (lv_at hl 0 rfl) ?_
    refine va_get (D := (dC, dI)) (ci := 9) (v := .ref (ad 6)) hx hb hts i_Machine hown hK hP 9 rfl rfl 0 (by decide) (hts _ w_f21147986e) (fun _ h9 => h9) rfl d_Machine_step_12 ?_
    refine va_get (D := (dC, dI)) (ci := 6) (v := .int (σ.1 13)) hx hb hts i_Program hown hK hP 6 rfl rfl 3 (by decide) (hts _ w_ef986810e8) (fun _ h9 => h9) rfl d_Machine_step_15 ?_
    refine lv_icmp_lt (tgt := 27) hx hb d_Machine_step_18 (by decide) (fun c_2 => ?_) (fun c_2 => ?_)
    · have hF := ifp hF c_2
      refine lv_aload_n hx hb d_Machine_step_27 rfl (lv_at hl 0 rfl) ?_
      refine va_get (D := (dC, dI)) (ci := 9) (v := .ref (ad 6)) hx hb hts i_Machine hown hK hP 9 rfl rfl 0 (by decide) (hts _ w_f21147986e) (fun _ h9 => h9) rfl d_Machine_step_28 ?_
      refine va_get (D := (dC, dI)) (ci := 6) (v := .ref (ad 21)) hx hb hts i_Program hown hK hP 6 rfl rfl 0 (by decide) (hts _ w_96b3babf65) (fun _ h9 => h9) rfl d_Machine_step_31 ?_
      refine lv_aload_n hx hb d_Machine_step_34 rfl (lv_at hl 0 rfl) ?_
      refine va_get (D := (dC, dI)) (ci := 9) (v := .int (σ.1 20)) hx hb hts i_Machine hown hK hP 9 rfl rfl 10 (by decide) (hts _ w_2e3703c8c3) (fun _ h9 => h9) rfl d_Machine_step_35 ?_
      obtain ⟨g_3, hF⟩ := gdE hF
      refine va_iald (f := (σ.2.2.1 6)) hx hb hK hP 21 0 rfl rfl (inE g_3) d_Machine_step_38 ?_
      refine lv_istore_n (lv' := [(1, .int ((σ.2.2.1 6) (σ.1 20).toNatClampNeg)), (0, .ref (ad 9))]) hx hb d_Machine_step_39 rfl hl (by decide) rfl (fun ls hl => ?_)
      refine lv_aload_n hx hb d_Machine_step_40 rfl (lv_at hl 1 rfl) ?_
      refine va_get (D := (dC, dI)) (ci := 9) (v := .ref (ad 6)) hx hb hts i_Machine hown hK hP 9 rfl rfl 0 (by decide) (hts _ w_f21147986e) (fun _ h9 => h9) rfl d_Machine_step_41 ?_
      refine va_get (D := (dC, dI)) (ci := 6) (v := .ref (ad 22)) hx hb hts i_Program hown hK hP 6 rfl rfl 1 (by decide) (hts _ w_a6f4417a88) (fun _ h9 => h9) rfl d_Machine_step_44 ?_
      refine lv_aload_n hx hb d_Machine_step_47 rfl (lv_at hl 1 rfl) ?_
      refine va_get (D := (dC, dI)) (ci := 9) (v := .int (σ.1 20)) hx hb hts i_Machine hown hK hP 9 rfl rfl 10 (by decide) (hts _ w_2e3703c8c3) (fun _ h9 => h9) rfl d_Machine_step_48 ?_
      obtain ⟨g_4, hF⟩ := gdE hF
      refine va_iald (f := (σ.2.2.1 7)) hx hb hK hP 22 0 rfl rfl (inE g_4) d_Machine_step_51 ?_
      refine lv_istore_n (lv' := [(2, .int ((σ.2.2.1 7) (σ.1 20).toNatClampNeg)), (1, .int ((σ.2.2.1 6) (σ.1 20).toNatClampNeg)), (0, .ref (ad 9))]) hx hb d_Machine_step_52 rfl hl (by decide) rfl (fun ls hl => ?_)
      refine lv_aload_n hx hb d_Machine_step_53 rfl (lv_at hl 2 rfl) ?_
      refine va_get (D := (dC, dI)) (ci := 9) (v := .ref (ad 6)) hx hb hts i_Machine hown hK hP 9 rfl rfl 0 (by decide) (hts _ w_f21147986e) (fun _ h9 => h9) rfl d_Machine_step_54 ?_
      refine va_get (D := (dC, dI)) (ci := 6) (v := .ref (ad 23)) hx hb hts i_Program hown hK hP 6 rfl rfl 2 (by decide) (hts _ w_fbc60e991b) (fun _ h9 => h9) rfl d_Machine_step_57 ?_
      refine lv_aload_n hx hb d_Machine_step_60 rfl (lv_at hl 2 rfl) ?_
      refine va_get (D := (dC, dI)) (ci := 9) (v := .int (σ.1 20)) hx hb hts i_Machine hown hK hP 9 rfl rfl 10 (by decide) (hts _ w_2e3703c8c3) (fun _ h9 => h9) rfl d_Machine_step_61 ?_
      obtain ⟨g_5, hF⟩ := gdE hF
      refine va_iald (f := (σ.2.2.1 8)) hx hb hK hP 23 0 rfl rfl (inE g_5) d_Machine_step_64 ?_
      refine lv_istore_n (lv' := [(3, .int ((σ.2.2.1 8) (σ.1 20).toNatClampNeg)), (2, .int ((σ.2.2.1 7) (σ.1 20).toNatClampNeg)), (1, .int ((σ.2.2.1 6) (σ.1 20).toNatClampNeg)), (0, .ref (ad 9))]) hx hb d_Machine_step_65 rfl hl (by decide) rfl (fun ls hl => ?_)
      refine lv_aload_n hx hb d_Machine_step_66 rfl (lv_at hl 3 rfl) ?_
      refine lv_dup hx hb d_Machine_step_67 rfl ?_
      refine va_get (D := (dC, dI)) (ci := 9) (v := .int (σ.1 20)) hx hb hts i_Machine hown hK hP 9 rfl rfl 10 (by decide) (hts _ w_2e3703c8c3) (fun _ h9 => h9) rfl d_Machine_step_68 ?_
      refine lv_iconst (v := 1) hx hb d_Machine_step_71 (by decide) ?_
      refine lv_iadd hx hb d_Machine_step_72 ?_
      refine va_put (D := (dC, dI)) (ci := 9) (v := .int ((σ.1 20) + 1)) (ty := .int) hx hb hts i_Machine t_Machine t_Machine_ok n_Machine hown hK hP hD hS 9 rfl rfl 10 (by decide) (hts _ w_2e3703c8c3) (fun _ h9 => h9) rfl (by decide +kernel) rfl rfl (Nat.le_of_ble_eq_true rfl) d_Machine_step_73 (fun H locs hP hD hS => ?_)
      have hP : va_P (dC, dI) vwCl (tcw ad cA (sI σ 20 ((σ.1 20) + 1))) H := hP
      have hD : va_D A (tcw ad cA (sI σ 20 ((σ.1 20) + 1))) := hD
      refine lv_iload_n hx hb d_Machine_step_76 rfl (lv_at hl 2 rfl) ?_
      by_cases c_6 : ((σ.2.2.1 6) (σ.1 20).toNatClampNeg) = 7
      · have hF := ifp hF c_6
        refine lv_lookup (tgt := 177) (off := 100) hx hb d_Machine_step_77 (by decide) (by rw [c_6]; rfl) (by decide) ?_
        refine lv_aload_n hx hb d_Machine_step_177 rfl (lv_at hl 3 rfl) ?_
        refine lv_aload_n hx hb d_Machine_step_178 rfl (lv_at hl 3 rfl) ?_
        obtain ⟨r7, u7, h7, hF⟩ := b2E hF
        refine callVI (As := []) X (ct_Machine_pop l dC dI ad cA H.size h7) lk_Machine_93 ⟨rfl, rfl, by decide, by decide⟩ 9 rfl rfl hP hD hS hl.1 rfl rfl (Nat.le_of_ble_eq_true rfl) d_Machine_step_179 (fun H locs hP hD hS => ?_)
        obtain ⟨u8, h8, hF⟩ := b1E hF
        refine callVV (As := [.int r7]) X (ct_Machine_leave l dC dI ad cA H.size h8) lk_Machine_97 ⟨rfl, rfl, by decide, by decide⟩ 9 rfl rfl hP hD hS hl.1 rfl rfl (Nat.le_of_ble_eq_true rfl) d_Machine_step_182 (fun H locs hP hD hS => ?_)
        refine lv_goto (tgt := 273) hx hb d_Machine_step_185 (by decide) ?_
        cases hF
        exact leafV X hP hD hS d_Machine_step_273
      · have hF := ifn hF c_6
        by_cases c_9 : ((σ.2.2.1 6) (σ.1 20).toNatClampNeg) = 9
        · have hF := ifp hF c_9
          refine lv_lookup (tgt := 256) (off := 179) hx hb d_Machine_step_77 (by decide) (by rw [c_9]; rfl) (by decide) ?_
          refine lv_aload_n hx hb d_Machine_step_256 rfl (lv_at hl 3 rfl) ?_
          refine lv_aload_n hx hb d_Machine_step_257 rfl (lv_at hl 3 rfl) ?_
          obtain ⟨r10, u10, h10, hF⟩ := b2E hF
          refine callVI (As := []) X (ct_Machine_pop l dC dI ad cA H.size h10) lk_Machine_93 ⟨rfl, rfl, by decide, by decide⟩ 9 rfl rfl hP hD hS hl.1 rfl rfl (Nat.le_of_ble_eq_true rfl) d_Machine_step_258 (fun H locs hP hD hS => ?_)
          obtain ⟨u11, h11, hF⟩ := b1E hF
          refine callVV (As := [.int r10]) X (ct_Machine_put l dC dI ad cA H.size h11) lk_Machine_114 ⟨rfl, rfl, by decide, by decide⟩ 9 rfl rfl hP hD hS hl.1 rfl rfl (Nat.le_of_ble_eq_true rfl) d_Machine_step_261 (fun H locs hP hD hS => ?_)
          refine lv_goto (tgt := 273) hx hb d_Machine_step_264 (by decide) ?_
          cases hF
          exact leafV X hP hD hS d_Machine_step_273
        · have hF := ifn hF c_9
          by_cases c_12 : ((σ.2.2.1 6) (σ.1 20).toNatClampNeg) = 13
          · have hF := ifp hF c_12
            refine lv_lookup (tgt := 238) (off := 161) hx hb d_Machine_step_77 (by decide) (by rw [c_12]; rfl) (by decide) ?_
            refine lv_aload_n hx hb d_Machine_step_238 rfl (lv_at hl 3 rfl) ?_
            refine lv_iload_n hx hb d_Machine_step_239 rfl (lv_at hl 1 rfl) ?_
            refine lv_iload_n hx hb d_Machine_step_240 rfl (lv_at hl 0 rfl) ?_
            obtain ⟨u13, h13, hF⟩ := b1E hF
            refine callVV (As := [.int ((σ.2.2.1 7) (σ.1 20).toNatClampNeg), .int ((σ.2.2.1 8) (σ.1 20).toNatClampNeg)]) X (ct_Machine_fetchElement l dC dI ad cA H.size h13) lk_Machine_108 ⟨rfl, rfl, by decide, by decide⟩ 9 rfl rfl hP hD hS hl.1 rfl rfl (Nat.le_of_ble_eq_true rfl) d_Machine_step_241 (fun H locs hP hD hS => ?_)
            refine lv_goto (tgt := 273) hx hb d_Machine_step_244 (by decide) ?_
            cases hF
            exact leafV X hP hD hS d_Machine_step_273
          · have hF := ifn hF c_12
            by_cases c_14 : ((σ.2.2.1 6) (σ.1 20).toNatClampNeg) = 14
            · have hF := ifp hF c_14
              refine lv_lookup (tgt := 247) (off := 170) hx hb d_Machine_step_77 (by decide) (by rw [c_14]; rfl) (by decide) ?_
              refine lv_aload_n hx hb d_Machine_step_247 rfl (lv_at hl 3 rfl) ?_
              refine lv_iload_n hx hb d_Machine_step_248 rfl (lv_at hl 1 rfl) ?_
              refine lv_iload_n hx hb d_Machine_step_249 rfl (lv_at hl 0 rfl) ?_
              obtain ⟨u15, h15, hF⟩ := b1E hF
              refine callVV (As := [.int ((σ.2.2.1 7) (σ.1 20).toNatClampNeg), .int ((σ.2.2.1 8) (σ.1 20).toNatClampNeg)]) X (ct_Machine_setElement l dC dI ad cA H.size h15) lk_Machine_111 ⟨rfl, rfl, by decide, by decide⟩ 9 rfl rfl hP hD hS hl.1 rfl rfl (Nat.le_of_ble_eq_true rfl) d_Machine_step_250 (fun H locs hP hD hS => ?_)
              refine lv_goto (tgt := 273) hx hb d_Machine_step_253 (by decide) ?_
              cases hF
              exact leafV X hP hD hS d_Machine_step_273
            · have hF := ifn hF c_14
              by_cases c_16 : ((σ.2.2.1 6) (σ.1 20).toNatClampNeg) = 15
              · have hF := ifp hF c_16
                refine lv_lookup (tgt := 168) (off := 91) hx hb d_Machine_step_77 (by decide) (by rw [c_16]; rfl) (by decide) ?_
                refine lv_aload_n hx hb d_Machine_step_168 rfl (lv_at hl 3 rfl) ?_
                refine lv_iload_n hx hb d_Machine_step_169 rfl (lv_at hl 1 rfl) ?_
                refine lv_iload_n hx hb d_Machine_step_170 rfl (lv_at hl 0 rfl) ?_
                obtain ⟨u17, h17, hF⟩ := b1E hF
                refine callVV (As := [.int ((σ.2.2.1 7) (σ.1 20).toNatClampNeg), .int ((σ.2.2.1 8) (σ.1 20).toNatClampNeg)]) X (ct_Machine_call l dC dI ad cA H.size h17) lk_Machine_73 ⟨rfl, rfl, by decide, by decide⟩ 9 rfl rfl hP hD hS hl.1 rfl rfl (Nat.le_of_ble_eq_true rfl) d_Machine_step_171 (fun H locs hP hD hS => ?_)
                refine lv_goto (tgt := 273) hx hb d_Machine_step_174 (by decide) ?_
                cases hF
                exact leafV X hP hD hS d_Machine_step_273
              · have hF := ifn hF c_16
                by_cases c_18 : ((σ.2.2.1 6) (σ.1 20).toNatClampNeg) = 16
                · have hF := ifp hF c_18
                  refine lv_lookup (tgt := 188) (off := 111) hx hb d_Machine_step_77 (by decide) (by rw [c_18]; rfl) (by decide) ?_
                  refine lv_aload_n hx hb d_Machine_step_188 rfl (lv_at hl 3 rfl) ?_
                  refine lv_iload_n hx hb d_Machine_step_189 rfl (lv_at hl 1 rfl) ?_
                  refine va_put (D := (dC, dI)) (ci := 9) (v := .int ((σ.2.2.1 7) (σ.1 20).toNatClampNeg)) (ty := .int) hx hb hts i_Machine t_Machine t_Machine_ok n_Machine hown hK hP hD hS 9 rfl rfl 10 (by decide) (hts _ w_2e3703c8c3) (fun _ h9 => h9) rfl (by decide +kernel) rfl rfl (Nat.le_of_ble_eq_true rfl) d_Machine_step_190 (fun H locs hP hD hS => ?_)
                  have hP : va_P (dC, dI) vwCl (tcw ad cA (sI (sI σ 20 ((σ.1 20) + 1)) 20 ((σ.2.2.1 7) (σ.1 20).toNatClampNeg))) H := hP
                  have hD : va_D A (tcw ad cA (sI (sI σ 20 ((σ.1 20) + 1)) 20 ((σ.2.2.1 7) (σ.1 20).toNatClampNeg))) := hD
                  refine lv_goto (tgt := 273) hx hb d_Machine_step_193 (by decide) ?_
                  cases hF
                  exact leafV X hP hD hS d_Machine_step_273
                · have hF := ifn hF c_18
                  by_cases c_19 : ((σ.2.2.1 6) (σ.1 20).toNatClampNeg) = 17
                  · have hF := ifp hF c_19
                    refine lv_lookup (tgt := 196) (off := 119) hx hb d_Machine_step_77 (by decide) (by rw [c_19]; rfl) (by decide) ?_
                    refine lv_aload_n hx hb d_Machine_step_196 rfl (lv_at hl 3 rfl) ?_
                    obtain ⟨r20, u20, h20, hF⟩ := b2E hF
                    refine callVI (As := []) X (ct_Machine_pop l dC dI ad cA H.size h20) lk_Machine_93 ⟨rfl, rfl, by decide, by decide⟩ 9 rfl rfl hP hD hS hl.1 rfl rfl (Nat.le_of_ble_eq_true rfl) d_Machine_step_197 (fun H locs hP hD hS => ?_)
                    refine lv_if_ne (tgt := 273) hx hb d_Machine_step_200 (by decide) (fun c_21 => ?_) (fun c_21 => ?_)
                    · have hF := ifn hF c_21
                      cases hF
                      exact leafV X hP hD hS d_Machine_step_273
                    · have hF := ifp hF c_21
                      refine lv_aload_n hx hb d_Machine_step_203 rfl (lv_at hl 3 rfl) ?_
                      refine lv_iload_n hx hb d_Machine_step_204 rfl (lv_at hl 1 rfl) ?_
                      refine va_put (D := (dC, dI)) (ci := 9) (v := .int ((σ.2.2.1 7) (σ.1 20).toNatClampNeg)) (ty := .int) hx hb hts i_Machine t_Machine t_Machine_ok n_Machine hown hK hP hD hS 9 rfl rfl 10 (by decide) (hts _ w_2e3703c8c3) (fun _ h9 => h9) rfl (by decide +kernel) rfl rfl (Nat.le_of_ble_eq_true rfl) d_Machine_step_205 (fun H locs hP hD hS => ?_)
                      have hP : va_P (dC, dI) vwCl (tcw ad cA (sI u20 20 ((σ.2.2.1 7) (σ.1 20).toNatClampNeg))) H := hP
                      have hD : va_D A (tcw ad cA (sI u20 20 ((σ.2.2.1 7) (σ.1 20).toNatClampNeg))) := hD
                      refine lv_goto (tgt := 273) hx hb d_Machine_step_208 (by decide) ?_
                      cases hF
                      exact leafV X hP hD hS d_Machine_step_273
                  · have hF := ifn hF c_19
                    by_cases c_22 : ((σ.2.2.1 6) (σ.1 20).toNatClampNeg) = 20
                    · have hF := ifp hF c_22
                      refine lv_lookup (tgt := 231) (off := 154) hx hb d_Machine_step_77 (by decide) (by rw [c_22]; rfl) (by decide) ?_
                      refine lv_aload_n hx hb d_Machine_step_231 rfl (lv_at hl 3 rfl) ?_
                      obtain ⟨u23, h23, hF⟩ := b1E hF
                      refine callVV (As := []) X (ct_Machine_tick l dC dI ad cA H.size h23) lk_Machine_105 ⟨rfl, rfl, by decide, by decide⟩ 9 rfl rfl hP hD hS hl.1 rfl rfl (Nat.le_of_ble_eq_true rfl) d_Machine_step_232 (fun H locs hP hD hS => ?_)
                      refine lv_goto (tgt := 273) hx hb d_Machine_step_235 (by decide) ?_
                      cases hF
                      exact leafV X hP hD hS d_Machine_step_273
                    · have hF := ifn hF c_22
                      by_cases c_24 : ((σ.2.2.1 6) (σ.1 20).toNatClampNeg) = 294
                      · have hF := ifp hF c_24
                        refine lv_lookup (tgt := 211) (off := 134) hx hb d_Machine_step_77 (by decide) (by rw [c_24]; rfl) (by decide) ?_
                        refine lv_aload_n hx hb d_Machine_step_211 rfl (lv_at hl 3 rfl) ?_
                        refine lv_iload_n hx hb d_Machine_step_212 rfl (lv_at hl 2 rfl) ?_
                        refine lv_sipush (v := 380) hx hb d_Machine_step_213 (by decide) ?_
                        refine lv_icmp_ne (tgt := 223) hx hb d_Machine_step_216 (by decide) (fun c_25 => ?_) (fun c_25 => ?_)
                        · have hF := ifn hF c_25
                          refine lv_iconst (v := 0) hx hb d_Machine_step_223 (by decide) ?_
                          refine lv_iload_n hx hb d_Machine_step_224 rfl (lv_at hl 1 rfl) ?_
                          obtain ⟨u26, h26, hF⟩ := b1E hF
                          refine callVV (As := [.int 0, .int ((σ.2.2.1 7) (σ.1 20).toNatClampNeg)]) X (ct_Machine_decide l dC dI ad cA H.size h26) lk_Machine_101 ⟨rfl, rfl, by decide, by decide⟩ 9 rfl rfl hP hD hS hl.1 rfl rfl (Nat.le_of_ble_eq_true rfl) d_Machine_step_225 (fun H locs hP hD hS => ?_)
                          refine lv_goto (tgt := 273) hx hb d_Machine_step_228 (by decide) ?_
                          cases hF
                          exact leafV X hP hD hS d_Machine_step_273
                        · have hF := ifp hF c_25
                          refine lv_iconst (v := 1) hx hb d_Machine_step_219 (by decide) ?_
                          refine lv_goto (tgt := 224) hx hb d_Machine_step_220 (by decide) ?_
                          refine lv_iload_n hx hb d_Machine_step_224 rfl (lv_at hl 1 rfl) ?_
                          obtain ⟨u27, h27, hF⟩ := b1E hF
                          refine callVV (As := [.int 1, .int ((σ.2.2.1 7) (σ.1 20).toNatClampNeg)]) X (ct_Machine_decide l dC dI ad cA H.size h27) lk_Machine_101 ⟨rfl, rfl, by decide, by decide⟩ 9 rfl rfl hP hD hS hl.1 rfl rfl (Nat.le_of_ble_eq_true rfl) d_Machine_step_225 (fun H locs hP hD hS => ?_)
                          refine lv_goto (tgt := 273) hx hb d_Machine_step_228 (by decide) ?_
                          cases hF
                          exact leafV X hP hD hS d_Machine_step_273
                      · have hF := ifn hF c_24
                        by_cases c_28 : ((σ.2.2.1 6) (σ.1 20).toNatClampNeg) = 380
                        · have hF := ifp hF c_28
                          refine lv_lookup (tgt := 211) (off := 134) hx hb d_Machine_step_77 (by decide) (by rw [c_28]; rfl) (by decide) ?_
                          refine lv_aload_n hx hb d_Machine_step_211 rfl (lv_at hl 3 rfl) ?_
                          refine lv_iload_n hx hb d_Machine_step_212 rfl (lv_at hl 2 rfl) ?_
                          refine lv_sipush (v := 380) hx hb d_Machine_step_213 (by decide) ?_
                          refine lv_icmp_ne (tgt := 223) hx hb d_Machine_step_216 (by decide) (fun c_29 => ?_) (fun c_29 => ?_)
                          · have hF := ifn hF c_29
                            refine lv_iconst (v := 0) hx hb d_Machine_step_223 (by decide) ?_
                            refine lv_iload_n hx hb d_Machine_step_224 rfl (lv_at hl 1 rfl) ?_
                            obtain ⟨u30, h30, hF⟩ := b1E hF
                            refine callVV (As := [.int 0, .int ((σ.2.2.1 7) (σ.1 20).toNatClampNeg)]) X (ct_Machine_decide l dC dI ad cA H.size h30) lk_Machine_101 ⟨rfl, rfl, by decide, by decide⟩ 9 rfl rfl hP hD hS hl.1 rfl rfl (Nat.le_of_ble_eq_true rfl) d_Machine_step_225 (fun H locs hP hD hS => ?_)
                            refine lv_goto (tgt := 273) hx hb d_Machine_step_228 (by decide) ?_
                            cases hF
                            exact leafV X hP hD hS d_Machine_step_273
                          · have hF := ifp hF c_29
                            refine lv_iconst (v := 1) hx hb d_Machine_step_219 (by decide) ?_
                            refine lv_goto (tgt := 224) hx hb d_Machine_step_220 (by decide) ?_
                            refine lv_iload_n hx hb d_Machine_step_224 rfl (lv_at hl 1 rfl) ?_
                            obtain ⟨u31, h31, hF⟩ := b1E hF
                            refine callVV (As := [.int 1, .int ((σ.2.2.1 7) (σ.1 20).toNatClampNeg)]) X (ct_Machine_decide l dC dI ad cA H.size h31) lk_Machine_101 ⟨rfl, rfl, by decide, by decide⟩ 9 rfl rfl hP hD hS hl.1 rfl rfl (Nat.le_of_ble_eq_true rfl) d_Machine_step_225 (fun H locs hP hD hS => ?_)
                            refine lv_goto (tgt := 273) hx hb d_Machine_step_228 (by decide) ?_
                            cases hF
                            exact leafV X hP hD hS d_Machine_step_273
                        · have hF := ifn hF c_28
                          refine lv_lookup (tgt := 267) (off := 190) hx hb d_Machine_step_77 (by decide) (by show Op.lookupswitch.offset [(7, 100), (9, 179), (13, 161), (14, 170), (15, 91), (16, 111), (17, 119), (20, 154), (294, 134), (380, 134)] 190 _ = _; rw [lv_osw (a := 7) c_6 (by decide), lv_osw (a := 9) c_9 (by decide), lv_osw (a := 13) c_12 (by decide), lv_osw (a := 14) c_14 (by decide), lv_osw (a := 15) c_16 (by decide), lv_osw (a := 16) c_18 (by decide), lv_osw (a := 17) c_19 (by decide), lv_osw (a := 20) c_22 (by decide), lv_osw (a := 294) c_24 (by decide), lv_osw (a := 380) c_28 (by decide)]; rfl) (by decide) ?_
                          refine lv_aload_n hx hb d_Machine_step_267 rfl (lv_at hl 3 rfl) ?_
                          refine lv_iload_n hx hb d_Machine_step_268 rfl (lv_at hl 2 rfl) ?_
                          refine lv_iload_n hx hb d_Machine_step_269 rfl (lv_at hl 1 rfl) ?_
                          obtain ⟨u32, h32, hF⟩ := b1E hF
                          refine callVV (As := [.int ((σ.2.2.1 6) (σ.1 20).toNatClampNeg), .int ((σ.2.2.1 7) (σ.1 20).toNatClampNeg)]) X (ct_Machine_move l dC dI ad cA H.size h32) lk_Machine_117 ⟨rfl, rfl, by decide, by decide⟩ 9 rfl rfl hP hD hS hl.1 rfl rfl (Nat.le_of_ble_eq_true rfl) d_Machine_step_270 (fun H locs hP hD hS => ?_)
                          cases hF
                          exact leafV X hP hD hS d_Machine_step_273
    · have hF := ifn hF c_2
      refine lv_aload_n hx hb d_Machine_step_21 rfl (lv_at hl 0 rfl) ?_
      refine lv_iconst (v := 1) hx hb d_Machine_step_22 (by decide) ?_
      refine va_put (D := (dC, dI)) (ci := 9) (v := .int 1) (ty := .int) hx hb hts i_Machine t_Machine t_Machine_ok n_Machine hown hK hP hD hS 9 rfl rfl 11 (by decide) (hts _ w_de4404caec) (fun _ h9 => h9) rfl (by decide +kernel) rfl rfl (Nat.le_of_ble_eq_true rfl) d_Machine_step_23 (fun H locs hP hD hS => ?_)
      have hP : va_P (dC, dI) vwCl (tcw ad cA (sI σ 21 1)) H := hP
      have hD : va_D A (tcw ad cA (sI σ 21 1)) := hD
      cases hF
      exact leafV X hP hD hS d_Machine_step_26
theorem d_Machine_work_0 : decode b_Machine_work 0 = .ok (.aload_n 0, 1) := by decide +kernel
theorem d_Machine_work_1 : decode b_Machine_work 1 = .ok (.invokevirtual 60, 3) := by decide +kernel
theorem d_Machine_work_4 : decode b_Machine_work 4 = .ok (.aload_n 0, 1) := by decide +kernel
theorem d_Machine_work_5 : decode b_Machine_work 5 = .ok (.iconst 0, 1) := by decide +kernel
theorem d_Machine_work_6 : decode b_Machine_work 6 = .ok (.putfield 27, 3) := by decide +kernel
theorem d_Machine_work_9 : decode b_Machine_work 9 = .ok (.aload_n 0, 1) := by decide +kernel
theorem d_Machine_work_10 : decode b_Machine_work 10 = .ok (.iconst 0, 1) := by decide +kernel
theorem d_Machine_work_11 : decode b_Machine_work 11 = .ok (.putfield 31, 3) := by decide +kernel
theorem d_Machine_work_14 : decode b_Machine_work 14 = .ok (.aload_n 0, 1) := by decide +kernel
theorem d_Machine_work_15 : decode b_Machine_work 15 = .ok (.iconst 0, 1) := by decide +kernel
theorem d_Machine_work_16 : decode b_Machine_work 16 = .ok (.putfield 34, 3) := by decide +kernel
theorem d_Machine_work_19 : decode b_Machine_work 19 = .ok (.aload_n 0, 1) := by decide +kernel
theorem d_Machine_work_20 : decode b_Machine_work 20 = .ok (.getfield 56, 3) := by decide +kernel
theorem d_Machine_work_23 : decode b_Machine_work 23 = .ok (.iconst 0, 1) := by decide +kernel
theorem d_Machine_work_24 : decode b_Machine_work 24 = .ok (.putfield 63, 3) := by decide +kernel
theorem d_Machine_work_27 : decode b_Machine_work 27 = .ok (.iconst 0, 1) := by decide +kernel
theorem d_Machine_work_28 : decode b_Machine_work 28 = .ok (.istore_n 1, 1) := by decide +kernel
theorem d_Machine_work_29 : decode b_Machine_work 29 = .ok (.iload_n 1, 1) := by decide +kernel
theorem d_Machine_work_30 : decode b_Machine_work 30 = .ok (.aload_n 0, 1) := by decide +kernel
theorem d_Machine_work_31 : decode b_Machine_work 31 = .ok (.getfield 15, 3) := by decide +kernel
theorem d_Machine_work_34 : decode b_Machine_work 34 = .ok (.arraylength, 1) := by decide +kernel
theorem d_Machine_work_35 : decode b_Machine_work 35 = .ok (.if_icmp .ge 16, 3) := by decide +kernel
theorem d_Machine_work_38 : decode b_Machine_work 38 = .ok (.aload_n 0, 1) := by decide +kernel
theorem d_Machine_work_39 : decode b_Machine_work 39 = .ok (.getfield 15, 3) := by decide +kernel
theorem d_Machine_work_42 : decode b_Machine_work 42 = .ok (.iload_n 1, 1) := by decide +kernel
theorem d_Machine_work_43 : decode b_Machine_work 43 = .ok (.iconst 0, 1) := by decide +kernel
theorem d_Machine_work_44 : decode b_Machine_work 44 = .ok (.iastore, 1) := by decide +kernel
theorem d_Machine_work_45 : decode b_Machine_work 45 = .ok (.iinc 1 1, 3) := by decide +kernel
theorem d_Machine_work_48 : decode b_Machine_work 48 = .ok (.goto (-19), 3) := by decide +kernel
theorem d_Machine_work_51 : decode b_Machine_work 51 = .ok (.aload_n 0, 1) := by decide +kernel
theorem d_Machine_work_52 : decode b_Machine_work 52 = .ok (.iconst 3, 1) := by decide +kernel
theorem d_Machine_work_53 : decode b_Machine_work 53 = .ok (.putfield 40, 3) := by decide +kernel
theorem d_Machine_work_56 : decode b_Machine_work 56 = .ok (.aload_n 0, 1) := by decide +kernel
theorem d_Machine_work_57 : decode b_Machine_work 57 = .ok (.aload_n 0, 1) := by decide +kernel
theorem d_Machine_work_58 : decode b_Machine_work 58 = .ok (.getfield 52, 3) := by decide +kernel
theorem d_Machine_work_61 : decode b_Machine_work 61 = .ok (.getfield 68, 3) := by decide +kernel
theorem d_Machine_work_64 : decode b_Machine_work 64 = .ok (.iconst 0, 1) := by decide +kernel
theorem d_Machine_work_65 : decode b_Machine_work 65 = .ok (.invokevirtual 73, 3) := by decide +kernel
theorem d_Machine_work_68 : decode b_Machine_work 68 = .ok (.iconst 0, 1) := by decide +kernel
theorem d_Machine_work_69 : decode b_Machine_work 69 = .ok (.istore_n 1, 1) := by decide +kernel
theorem d_Machine_work_70 : decode b_Machine_work 70 = .ok (.iload_n 1, 1) := by decide +kernel
theorem d_Machine_work_71 : decode b_Machine_work 71 = .ok (.ldc 77, 2) := by decide +kernel
theorem d_Machine_work_73 : decode b_Machine_work 73 = .ok (.if_icmp .ge 21, 3) := by decide +kernel
theorem d_Machine_work_76 : decode b_Machine_work 76 = .ok (.aload_n 0, 1) := by decide +kernel
theorem d_Machine_work_77 : decode b_Machine_work 77 = .ok (.getfield 40, 3) := by decide +kernel
theorem d_Machine_work_80 : decode b_Machine_work 80 = .ok (.iconst 3, 1) := by decide +kernel
theorem d_Machine_work_81 : decode b_Machine_work 81 = .ok (.if_icmp .ne 13, 3) := by decide +kernel
theorem d_Machine_work_84 : decode b_Machine_work 84 = .ok (.aload_n 0, 1) := by decide +kernel
theorem d_Machine_work_85 : decode b_Machine_work 85 = .ok (.invokevirtual 78, 3) := by decide +kernel
theorem d_Machine_work_88 : decode b_Machine_work 88 = .ok (.iinc 1 1, 3) := by decide +kernel
theorem d_Machine_work_91 : decode b_Machine_work 91 = .ok (.goto (-21), 3) := by decide +kernel
theorem d_Machine_work_94 : decode b_Machine_work 94 = .ok (.aload_n 0, 1) := by decide +kernel
theorem d_Machine_work_95 : decode b_Machine_work 95 = .ok (.getfield 40, 3) := by decide +kernel
theorem d_Machine_work_98 : decode b_Machine_work 98 = .ok (.iconst 3, 1) := by decide +kernel
theorem d_Machine_work_99 : decode b_Machine_work 99 = .ok (.if_icmp .ne 7, 3) := by decide +kernel
theorem d_Machine_work_102 : decode b_Machine_work 102 = .ok (.iconst 2, 1) := by decide +kernel
theorem d_Machine_work_103 : decode b_Machine_work 103 = .ok (.goto 7, 3) := by decide +kernel
theorem d_Machine_work_106 : decode b_Machine_work 106 = .ok (.aload_n 0, 1) := by decide +kernel
theorem d_Machine_work_107 : decode b_Machine_work 107 = .ok (.getfield 40, 3) := by decide +kernel
theorem d_Machine_work_110 : decode b_Machine_work 110 = .ok (.ireturn, 1) := by decide +kernel
def tMachine_work_b1 (k : Nat → St → Int32 → Option (Int32 × St)) (σ : St) (x1 : Int32) : Option (Int32 × St) := if (64 : Int32) ≤ x1 then b1 (tMachine_call (sI σ 21 3) (σ.1 14) 0) (fun u3 => k 2 u3 0) else gd (inB x1 64) (k 1 (sA σ 11 (upd (σ.2.2.1 11) x1.toNatClampNeg 0)) (x1 + 1))
def tMachine_work_b2 (k : Nat → St → Int32 → Option (Int32 × St)) (σ : St) (x1 : Int32) : Option (Int32 × St) := if (1000000 : Int32) ≤ x1 then k 3 σ 0 else if (σ.1 21) = 3 then b1 (tMachine_step σ) (fun u7 => k 2 u7 (x1 + 1)) else k 3 σ 0
def tMachine_work_b3 (k : Nat → St → Int32 → Option (Int32 × St)) (σ : St) (x1 : Int32) : Option (Int32 × St) := if (σ.1 21) = 3 then some (2, σ) else some ((σ.1 21), σ)
def tMachine_work_L : Nat → Nat → St → Int32 → Option (Int32 × St)
  | 0, _, _, _ => none
  | n + 1, lab, σ, x1 => match lab with
    | 1 => tMachine_work_b1 (tMachine_work_L n) σ x1
    | 2 => tMachine_work_b2 (tMachine_work_L n) σ x1
    | 3 => tMachine_work_b3 (tMachine_work_L n) σ x1
    | _ => none
def tMachine_work (σ : St) : Option (Int32 × St) := b1 (tMachine_forget σ) (fun u1 => tMachine_work_L 3000000 1 (sI (sI (sI (sI u1 17 0) 18 0) 19 0) 16 0) 0)
set_option maxHeartbeats 4000000 in
set_option maxRecDepth 100000 in
theorem tMachine_work_blk {p : Program} {e : Env} {s : State} {m : MethodId} {args : Array Value} {below : List Frame} {meth : Method} {c : Code} {A : Nat → Prop} (l : Launch) (dC : Nat → ClassId) (dI : Nat → Nat → Nat) (ad : Nat → Nat) (cA : Nat → ClassId) {r : Int32} {σ' : St} (X : Cx p s m args meth c b_Machine_work 2 (some .int) "TinyForge$Machine" (dC, dI) (ttys cA) ad A) : ∀ n : Nat, (∀ (σ : St) (x1 : Int32) (H : Heap) (locs : List Loc) (ls : Array Slot), tMachine_work_L n 1 σ x1 = some (r, σ') → va_P (dC, dI) vwCl (tcw ad cA σ) H → va_D A (tcw ad cA σ) → va_S A s.heap H locs → lv_has ls 2 [(0, .ref (ad 9)), (1, .int x1)] → W p l e { frames := 4, cells := 0, slots := 0, locals := 89 } s m args below meth c H locs 0 0 (MQ below (QI (dC, dI) (ttys cA) (tcw ad cA) A r σ') args s 0 0 A) (F0 m 29 ls [])) ∧ (∀ (σ : St) (x1 : Int32) (H : Heap) (locs : List Loc) (ls : Array Slot), tMachine_work_L n 2 σ x1 = some (r, σ') → va_P (dC, dI) vwCl (tcw ad cA σ) H → va_D A (tcw ad cA σ) → va_S A s.heap H locs → lv_has ls 2 [(0, .ref (ad 9)), (1, .int x1)] → W p l e { frames := 4, cells := 0, slots := 0, locals := 89 } s m args below meth c H locs 0 0 (MQ below (QI (dC, dI) (ttys cA) (tcw ad cA) A r σ') args s 0 0 A) (F0 m 70 ls [])) ∧ (∀ (σ : St) (x1 : Int32) (H : Heap) (locs : List Loc) (ls : Array Slot), tMachine_work_L n 3 σ x1 = some (r, σ') → va_P (dC, dI) vwCl (tcw ad cA σ) H → va_D A (tcw ad cA σ) → va_S A s.heap H locs → lv_has ls 2 [(0, .ref (ad 9))] → W p l e { frames := 4, cells := 0, slots := 0, locals := 89 } s m args below meth c H locs 0 0 (MQ below (QI (dC, dI) (ttys cA) (tcw ad cA) A r σ') args s 0 0 A) (F0 m 94 ls [])) := by
  obtain ⟨hx, hb, hr, hml, hown, hlocks, hts, hA, hK, hZ⟩ := id X
  intro n
  induction n with
  | zero => exact ⟨(fun σ x1 H locs ls hF => by cases hF), (fun σ x1 H locs ls hF => by cases hF), (fun σ x1 H locs ls hF => by cases hF)⟩
  | succ n ihn =>
    refine ⟨fun σ x1 H locs ls hF hP hD hS hl => ?_, fun σ x1 H locs ls hF hP hD hS hl => ?_, fun σ x1 H locs ls hF hP hD hS hl => ?_⟩
    · have hF : tMachine_work_b1 (tMachine_work_L n) σ x1 = some (r, σ') := hF
      unfold tMachine_work_b1 at hF
      refine lv_iload_n hx hb d_Machine_work_29 rfl (lv_at hl 1 rfl) ?_
      refine lv_aload_n hx hb d_Machine_work_30 rfl (lv_at hl 0 rfl) ?_
      refine va_get (D := (dC, dI)) (ci := 9) (v := .ref (ad 26)) hx hb hts i_Machine hown hK hP 9 rfl rfl 3 (by decide) (hts _ w_577718637b) (fun _ h9 => h9) rfl d_Machine_work_31 ?_
      refine va_alen (v := 64) hx hb hK hP 26 0 rfl rfl rfl d_Machine_work_34 ?_
      refine lv_icmp_ge (tgt := 51) hx hb d_Machine_work_35 (by decide) (fun c_2 => ?_) (fun c_2 => ?_)
      · have hF := ifp hF c_2
        refine lv_aload_n hx hb d_Machine_work_51 rfl (lv_at hl 0 rfl) ?_
        refine lv_iconst (v := 3) hx hb d_Machine_work_52 (by decide) ?_
        refine va_put (D := (dC, dI)) (ci := 9) (v := .int 3) (ty := .int) hx hb hts i_Machine t_Machine t_Machine_ok n_Machine hown hK hP hD hS 9 rfl rfl 11 (by decide) (hts _ w_de4404caec) (fun _ h9 => h9) rfl (by decide +kernel) rfl rfl (Nat.le_of_ble_eq_true rfl) d_Machine_work_53 (fun H locs hP hD hS => ?_)
        have hP : va_P (dC, dI) vwCl (tcw ad cA (sI σ 21 3)) H := hP
        have hD : va_D A (tcw ad cA (sI σ 21 3)) := hD
        refine lv_aload_n hx hb d_Machine_work_56 rfl (lv_at hl 0 rfl) ?_
        refine lv_aload_n hx hb d_Machine_work_57 rfl (lv_at hl 0 rfl) ?_
        refine va_get (D := (dC, dI)) (ci := 9) (v := .ref (ad 6)) hx hb hts i_Machine hown hK hP 9 rfl rfl 0 (by decide) (hts _ w_f21147986e) (fun _ h9 => h9) rfl d_Machine_work_58 ?_
        refine va_get (D := (dC, dI)) (ci := 6) (v := .int (σ.1 14)) hx hb hts i_Program hown hK hP 6 rfl rfl 4 (by decide) (hts _ w_dc221f82a3) (fun _ h9 => h9) rfl d_Machine_work_61 ?_
        refine lv_iconst (v := 0) hx hb d_Machine_work_64 (by decide) ?_
        obtain ⟨u3, h3, hF⟩ := b1E hF
        refine callVV (As := [.int (σ.1 14), .int 0]) X (ct_Machine_call l dC dI ad cA H.size h3) lk_Machine_73 ⟨rfl, rfl, by decide, by decide⟩ 9 rfl rfl hP hD hS hl.1 rfl rfl (Nat.le_of_ble_eq_true rfl) d_Machine_work_65 (fun H locs hP hD hS => ?_)
        refine lv_iconst (v := 0) hx hb d_Machine_work_68 (by decide) ?_
        refine lv_istore_n (lv' := [(1, .int 0), (0, .ref (ad 9))]) hx hb d_Machine_work_69 rfl hl (by decide) rfl (fun ls hl => ?_)
        exact ihn.2.1 u3 0 H locs ls hF hP hD hS (lv_sub hl [1, 0] rfl)
      · have hF := ifn hF c_2
        refine lv_aload_n hx hb d_Machine_work_38 rfl (lv_at hl 0 rfl) ?_
        refine va_get (D := (dC, dI)) (ci := 9) (v := .ref (ad 26)) hx hb hts i_Machine hown hK hP 9 rfl rfl 3 (by decide) (hts _ w_577718637b) (fun _ h9 => h9) rfl d_Machine_work_39 ?_
        refine lv_iload_n hx hb d_Machine_work_42 rfl (lv_at hl 1 rfl) ?_
        refine lv_iconst (v := 0) hx hb d_Machine_work_43 (by decide) ?_
        obtain ⟨g_4, hF⟩ := gdE hF
        refine va_iast (f := (σ.2.2.1 11)) hx hb hK hP hD hS 26 0 rfl rfl (inE g_4) d_Machine_work_44 (fun H locs hP hD hS => ?_)
        have hP : va_P (dC, dI) vwCl (tcw ad cA (sA σ 11 (upd (σ.2.2.1 11) x1.toNatClampNeg 0))) H := hP
        have hD : va_D A (tcw ad cA (sA σ 11 (upd (σ.2.2.1 11) x1.toNatClampNeg 0))) := hD
        refine lv_iinc (v := (x1 + 1)) (lv' := [(1, .int (x1 + 1)), (0, .ref (ad 9))]) hx hb d_Machine_work_45 hl (k := 1) rfl rfl (by decide) rfl (fun ls hl => ?_)
        refine lv_goto (tgt := 29) hx hb d_Machine_work_48 (by decide) ?_
        exact ihn.1 (sA σ 11 (upd (σ.2.2.1 11) x1.toNatClampNeg 0)) (x1 + 1) H locs ls hF hP hD hS (lv_sub hl [1, 0] rfl)
    · have hF : tMachine_work_b2 (tMachine_work_L n) σ x1 = some (r, σ') := hF
      unfold tMachine_work_b2 at hF
      refine lv_iload_n hx hb d_Machine_work_70 rfl (lv_at hl 1 rfl) ?_
      refine lv_ldc (v := 1000000) hx hb hown (hts _ w_f3e0b3eb9b) d_Machine_work_71 ?_
      refine lv_icmp_ge (tgt := 94) hx hb d_Machine_work_73 (by decide) (fun c_5 => ?_) (fun c_5 => ?_)
      · have hF := ifp hF c_5
        exact ihn.2.2 σ 0 H locs ls hF hP hD hS (lv_sub hl [0] rfl)
      · have hF := ifn hF c_5
        refine lv_aload_n hx hb d_Machine_work_76 rfl (lv_at hl 0 rfl) ?_
        refine va_get (D := (dC, dI)) (ci := 9) (v := .int (σ.1 21)) hx hb hts i_Machine hown hK hP 9 rfl rfl 11 (by decide) (hts _ w_de4404caec) (fun _ h9 => h9) rfl d_Machine_work_77 ?_
        refine lv_iconst (v := 3) hx hb d_Machine_work_80 (by decide) ?_
        refine lv_icmp_ne (tgt := 94) hx hb d_Machine_work_81 (by decide) (fun c_6 => ?_) (fun c_6 => ?_)
        · have hF := ifn hF c_6
          exact ihn.2.2 σ 0 H locs ls hF hP hD hS (lv_sub hl [0] rfl)
        · have hF := ifp hF c_6
          refine lv_aload_n hx hb d_Machine_work_84 rfl (lv_at hl 0 rfl) ?_
          obtain ⟨u7, h7, hF⟩ := b1E hF
          refine callVV (As := []) X (ct_Machine_step l dC dI ad cA H.size h7) lk_Machine_78 ⟨rfl, rfl, by decide, by decide⟩ 9 rfl rfl hP hD hS hl.1 rfl rfl (Nat.le_of_ble_eq_true rfl) d_Machine_work_85 (fun H locs hP hD hS => ?_)
          refine lv_iinc (v := (x1 + 1)) (lv' := [(1, .int (x1 + 1)), (0, .ref (ad 9))]) hx hb d_Machine_work_88 hl (k := 1) rfl rfl (by decide) rfl (fun ls hl => ?_)
          refine lv_goto (tgt := 70) hx hb d_Machine_work_91 (by decide) ?_
          exact ihn.2.1 u7 (x1 + 1) H locs ls hF hP hD hS (lv_sub hl [1, 0] rfl)
    · have hF : tMachine_work_b3 (tMachine_work_L n) σ x1 = some (r, σ') := hF
      unfold tMachine_work_b3 at hF
      refine lv_aload_n hx hb d_Machine_work_94 rfl (lv_at hl 0 rfl) ?_
      refine va_get (D := (dC, dI)) (ci := 9) (v := .int (σ.1 21)) hx hb hts i_Machine hown hK hP 9 rfl rfl 11 (by decide) (hts _ w_de4404caec) (fun _ h9 => h9) rfl d_Machine_work_95 ?_
      refine lv_iconst (v := 3) hx hb d_Machine_work_98 (by decide) ?_
      refine lv_icmp_ne (tgt := 106) hx hb d_Machine_work_99 (by decide) (fun c_8 => ?_) (fun c_8 => ?_)
      · have hF := ifn hF c_8
        refine lv_aload_n hx hb d_Machine_work_106 rfl (lv_at hl 0 rfl) ?_
        refine va_get (D := (dC, dI)) (ci := 9) (v := .int (σ.1 21)) hx hb hts i_Machine hown hK hP 9 rfl rfl 11 (by decide) (hts _ w_de4404caec) (fun _ h9 => h9) rfl d_Machine_work_107 ?_
        cases hF
        exact leafI X hP hD hS d_Machine_work_110
      · have hF := ifp hF c_8
        refine lv_iconst (v := 2) hx hb d_Machine_work_102 (by decide) ?_
        refine lv_goto (tgt := 110) hx hb d_Machine_work_103 (by decide) ?_
        cases hF
        exact leafI X hP hD hS d_Machine_work_110
set_option maxHeartbeats 4000000 in
set_option maxRecDepth 100000 in
theorem ct_Machine_work (l : Launch) (dC : Nat → ClassId) (dI : Nat → Nat → Nat) (ad : Nat → Nat) (cA : Nat → ClassId) (sz : Nat) {σ : St} {r : Int32} {σ' : St} (hF : tMachine_work σ = some (r, σ')) : MI l y_Machine_work b_Machine_work 2 (some .int) { frames := 4, cells := 0, slots := 0, locals := 89 } (dC, dI) (ttys cA) ad (tcw ad cA) [.ref (ad 9)] σ sz r σ' := by
  refine startM (own := "TinyForge$Machine") (Qc := fun A => QI (dC, dI) (ttys cA) (tcw ad cA) A r σ') rfl rfl (Nat.le_of_ble_eq_true rfl) ?_
  intro p e s m below meth c A H locs ls X hP hD hS hl
  have hl : lv_has ls 2 [(0, .ref (ad 9))] := hl
  obtain ⟨hx, hb, hr, hml, hown, hlocks, hts, hA, hK, hZ⟩ := id X
  unfold tMachine_work at hF
  refine lv_aload_n hx hb d_Machine_work_0 rfl (lv_at hl 0 rfl) ?_
  obtain ⟨u1, h1, hF⟩ := b1E hF
  refine callVV (As := []) X (ct_Machine_forget l dC dI ad cA H.size h1) lk_Machine_60 ⟨rfl, rfl, by decide, by decide⟩ 9 rfl rfl hP hD hS hl.1 rfl rfl (Nat.le_of_ble_eq_true rfl) d_Machine_work_1 (fun H locs hP hD hS => ?_)
  refine lv_aload_n hx hb d_Machine_work_4 rfl (lv_at hl 0 rfl) ?_
  refine lv_iconst (v := 0) hx hb d_Machine_work_5 (by decide) ?_
  refine va_put (D := (dC, dI)) (ci := 9) (v := .int 0) (ty := .int) hx hb hts i_Machine t_Machine t_Machine_ok n_Machine hown hK hP hD hS 9 rfl rfl 7 (by decide) (hts _ w_aa5f3dbc94) (fun _ h9 => h9) rfl (by decide +kernel) rfl rfl (Nat.le_of_ble_eq_true rfl) d_Machine_work_6 (fun H locs hP hD hS => ?_)
  have hP : va_P (dC, dI) vwCl (tcw ad cA (sI u1 17 0)) H := hP
  have hD : va_D A (tcw ad cA (sI u1 17 0)) := hD
  refine lv_aload_n hx hb d_Machine_work_9 rfl (lv_at hl 0 rfl) ?_
  refine lv_iconst (v := 0) hx hb d_Machine_work_10 (by decide) ?_
  refine va_put (D := (dC, dI)) (ci := 9) (v := .int 0) (ty := .int) hx hb hts i_Machine t_Machine t_Machine_ok n_Machine hown hK hP hD hS 9 rfl rfl 8 (by decide) (hts _ w_b523296ea4) (fun _ h9 => h9) rfl (by decide +kernel) rfl rfl (Nat.le_of_ble_eq_true rfl) d_Machine_work_11 (fun H locs hP hD hS => ?_)
  have hP : va_P (dC, dI) vwCl (tcw ad cA (sI (sI u1 17 0) 18 0)) H := hP
  have hD : va_D A (tcw ad cA (sI (sI u1 17 0) 18 0)) := hD
  refine lv_aload_n hx hb d_Machine_work_14 rfl (lv_at hl 0 rfl) ?_
  refine lv_iconst (v := 0) hx hb d_Machine_work_15 (by decide) ?_
  refine va_put (D := (dC, dI)) (ci := 9) (v := .int 0) (ty := .int) hx hb hts i_Machine t_Machine t_Machine_ok n_Machine hown hK hP hD hS 9 rfl rfl 9 (by decide) (hts _ w_bac89a80ba) (fun _ h9 => h9) rfl (by decide +kernel) rfl rfl (Nat.le_of_ble_eq_true rfl) d_Machine_work_16 (fun H locs hP hD hS => ?_)
  have hP : va_P (dC, dI) vwCl (tcw ad cA (sI (sI (sI u1 17 0) 18 0) 19 0)) H := hP
  have hD : va_D A (tcw ad cA (sI (sI (sI u1 17 0) 18 0) 19 0)) := hD
  refine lv_aload_n hx hb d_Machine_work_19 rfl (lv_at hl 0 rfl) ?_
  refine va_get (D := (dC, dI)) (ci := 9) (v := .ref (ad 8)) hx hb hts i_Machine hown hK hP 9 rfl rfl 1 (by decide) (hts _ w_b9aac34b79) (fun _ h9 => h9) rfl d_Machine_work_20 ?_
  refine lv_iconst (v := 0) hx hb d_Machine_work_23 (by decide) ?_
  refine va_put (D := (dC, dI)) (ci := 8) (v := .int 0) (ty := .int) hx hb hts i_Input t_Input t_Input_ok n_Input hown hK hP hD hS 8 rfl rfl 2 (by decide) (hts _ w_31ebb98f6d) (fun _ h9 => h9) rfl (by decide +kernel) rfl rfl (Nat.le_of_ble_eq_true rfl) d_Machine_work_24 (fun H locs hP hD hS => ?_)
  have hP : va_P (dC, dI) vwCl (tcw ad cA (sI (sI (sI (sI u1 17 0) 18 0) 19 0) 16 0)) H := hP
  have hD : va_D A (tcw ad cA (sI (sI (sI (sI u1 17 0) 18 0) 19 0) 16 0)) := hD
  refine lv_iconst (v := 0) hx hb d_Machine_work_27 (by decide) ?_
  refine lv_istore_n (lv' := [(1, .int 0), (0, .ref (ad 9))]) hx hb d_Machine_work_28 rfl hl (by decide) rfl (fun ls hl => ?_)
  exact (tMachine_work_blk l dC dI ad cA X 3000000).1 (sI (sI (sI (sI u1 17 0) 18 0) 19 0) 16 0) 0 H locs ls hF hP hD hS (lv_sub hl [1, 0] rfl)
