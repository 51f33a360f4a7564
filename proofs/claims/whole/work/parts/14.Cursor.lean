theorem d_Cursor_close_0 : decode b_Cursor_close 0 = .ok (.aload_n 0, 1) := by decide +kernel
theorem d_Cursor_close_1 : decode b_Cursor_close 1 = .ok (.dup, 1) := by decide +kernel
theorem d_Cursor_close_2 : decode b_Cursor_close 2 = .ok (.getfield 15, 3) := by decide +kernel
theorem d_Cursor_close_5 : decode b_Cursor_close 5 = .ok (.iconst 1, 1) := by decide +kernel
theorem d_Cursor_close_6 : decode b_Cursor_close 6 = .ok (.isub, 1) := by decide +kernel
theorem d_Cursor_close_7 : decode b_Cursor_close 7 = .ok (.putfield 15, 3) := by decide +kernel
theorem d_Cursor_close_10 : decode b_Cursor_close 10 = .ok (.return_, 1) := by decide +kernel
def tCursor_close (σ : St) : Option (St) := some (sI σ 7 ((σ.1 7) - 1))
set_option maxHeartbeats 4000000 in
set_option maxRecDepth 100000 in
theorem ct_Cursor_close (l : Launch) (dC : Nat → ClassId) (dI : Nat → Nat → Nat) (ad : Nat → Nat) (cA : Nat → ClassId) (sz : Nat) {σ : St} {σ' : St} (hF : tCursor_close σ = some σ') : MV l y_Cursor_close b_Cursor_close 1 none { frames := 0, cells := 0, slots := 0, locals := 0 } (dC, dI) (ttys cA) ad (tcw ad cA) [.ref (ad 3)] σ sz σ' := by
  refine startM (own := "TinyForge$Cursor") (Qc := fun A => QV (dC, dI) (ttys cA) (tcw ad cA) A σ') rfl rfl (Nat.le_of_ble_eq_true rfl) ?_
  intro p e s m below meth c A H locs ls X hP hD hS hl
  have hl : lv_has ls 1 [(0, .ref (ad 3))] := hl
  obtain ⟨hx, hb, hr, hml, hown, hlocks, hts, hA, hK, hZ⟩ := id X
  unfold tCursor_close at hF
  refine lv_aload_n hx hb d_Cursor_close_0 rfl (lv_at hl 0 rfl) ?_
  refine lv_dup hx hb d_Cursor_close_1 rfl ?_
  refine va_get (D := (dC, dI)) (ci := 3) (v := .int (σ.1 7)) hx hb hts i_Cursor hown hK hP 3 rfl rfl 3 (by decide) (hts _ w_34851d5df2) (fun _ h9 => h9) rfl d_Cursor_close_2 ?_
  refine lv_iconst (v := 1) hx hb d_Cursor_close_5 (by decide) ?_
  refine lv_isub hx hb d_Cursor_close_6 ?_
  refine va_put (D := (dC, dI)) (ci := 3) (v := .int ((σ.1 7) - 1)) (ty := .int) hx hb hts i_Cursor t_Cursor t_Cursor_ok n_Cursor hown hK hP hD hS 3 rfl rfl 3 (by decide) (hts _ w_34851d5df2) (fun _ h9 => h9) rfl (by decide +kernel) rfl rfl (Nat.le_of_ble_eq_true rfl) d_Cursor_close_7 (fun H locs hP hD hS => ?_)
  have hP : va_P (dC, dI) vwCl (tcw ad cA (sI σ 7 ((σ.1 7) - 1))) H := hP
  have hD : va_D A (tcw ad cA (sI σ 7 ((σ.1 7) - 1))) := hD
  cases hF
  exact leafV X hP hD hS d_Cursor_close_10
theorem d_Cursor_kind_0 : decode b_Cursor_kind 0 = .ok (.aload_n 0, 1) := by decide +kernel
theorem d_Cursor_kind_1 : decode b_Cursor_kind 1 = .ok (.getfield 22, 3) := by decide +kernel
theorem d_Cursor_kind_4 : decode b_Cursor_kind 4 = .ok (.invokevirtual 26, 3) := by decide +kernel
theorem d_Cursor_kind_7 : decode b_Cursor_kind 7 = .ok (.ifCond .eq 17, 3) := by decide +kernel
theorem d_Cursor_kind_10 : decode b_Cursor_kind 10 = .ok (.aload_n 0, 1) := by decide +kernel
theorem d_Cursor_kind_11 : decode b_Cursor_kind 11 = .ok (.getfield 18, 3) := by decide +kernel
theorem d_Cursor_kind_14 : decode b_Cursor_kind 14 = .ok (.aload_n 0, 1) := by decide +kernel
theorem d_Cursor_kind_15 : decode b_Cursor_kind 15 = .ok (.getfield 9, 3) := by decide +kernel
theorem d_Cursor_kind_18 : decode b_Cursor_kind 18 = .ok (.invokevirtual 32, 3) := by decide +kernel
theorem d_Cursor_kind_21 : decode b_Cursor_kind 21 = .ok (.goto 4, 3) := by decide +kernel
theorem d_Cursor_kind_24 : decode b_Cursor_kind 24 = .ok (.iconst 0, 1) := by decide +kernel
theorem d_Cursor_kind_25 : decode b_Cursor_kind 25 = .ok (.ireturn, 1) := by decide +kernel
def tCursor_kind (σ : St) : Option (Int32) := b1 (tRefusal_isNone σ) (fun r1 => if r1 = 0 then some 0 else b1 (tTokens_kindOf σ (σ.1 6)) (fun r3 => some r3))
set_option maxHeartbeats 4000000 in
set_option maxRecDepth 100000 in
theorem ct_Cursor_kind (l : Launch) (dC : Nat → ClassId) (dI : Nat → Nat → Nat) (ad : Nat → Nat) (cA : Nat → ClassId) (sz : Nat) {σ : St} {r : Int32} (hF : tCursor_kind σ = some r) : MI l y_Cursor_kind b_Cursor_kind 1 (some .int) { frames := 1, cells := 0, slots := 0, locals := 21 } (dC, dI) (ttys cA) ad (tcw ad cA) [.ref (ad 3)] σ sz r σ := by
  refine startM (own := "TinyForge$Cursor") (Qc := fun A => QI (dC, dI) (ttys cA) (tcw ad cA) A r σ) rfl rfl (Nat.le_of_ble_eq_true rfl) ?_
  intro p e s m below meth c A H locs ls X hP hD hS hl
  have hl : lv_has ls 1 [(0, .ref (ad 3))] := hl
  obtain ⟨hx, hb, hr, hml, hown, hlocks, hts, hA, hK, hZ⟩ := id X
  unfold tCursor_kind at hF
  refine lv_aload_n hx hb d_Cursor_kind_0 rfl (lv_at hl 0 rfl) ?_
  refine va_get (D := (dC, dI)) (ci := 3) (v := .ref (ad 1)) hx hb hts i_Cursor hown hK hP 3 rfl rfl 1 (by decide) (hts _ w_3761caf48e) (fun _ h9 => h9) rfl d_Cursor_kind_1 ?_
  obtain ⟨r1, h1, hF⟩ := b1E hF
  refine callVI (As := []) X (ct_Refusal_isNone l dC dI ad cA H.size h1) lk_Cursor_26 ⟨rfl, rfl, by decide, by decide⟩ 1 rfl rfl hP hD hS hl.1 rfl rfl (Nat.le_of_ble_eq_true rfl) d_Cursor_kind_4 (fun H locs hP hD hS => ?_)
  refine lv_if_eq (tgt := 24) hx hb d_Cursor_kind_7 (by decide) (fun c_2 => ?_) (fun c_2 => ?_)
  · have hF := ifp hF c_2
    refine lv_iconst (v := 0) hx hb d_Cursor_kind_24 (by decide) ?_
    cases hF
    exact leafI X hP hD hS d_Cursor_kind_25
  · have hF := ifn hF c_2
    refine lv_aload_n hx hb d_Cursor_kind_10 rfl (lv_at hl 0 rfl) ?_
    refine va_get (D := (dC, dI)) (ci := 3) (v := .ref (ad 2)) hx hb hts i_Cursor hown hK hP 3 rfl rfl 0 (by decide) (hts _ w_5c74bf5519) (fun _ h9 => h9) rfl d_Cursor_kind_11 ?_
    refine lv_aload_n hx hb d_Cursor_kind_14 rfl (lv_at hl 0 rfl) ?_
    refine va_get (D := (dC, dI)) (ci := 3) (v := .int (σ.1 6)) hx hb hts i_Cursor hown hK hP 3 rfl rfl 2 (by decide) (hts _ w_56b47feb12) (fun _ h9 => h9) rfl d_Cursor_kind_15 ?_
    obtain ⟨r3, h3, hF⟩ := b1E hF
    refine callVI (As := [.int (σ.1 6)]) X (ct_Tokens_kindOf l dC dI ad cA H.size h3) lk_Cursor_32 ⟨rfl, rfl, by decide, by decide⟩ 2 rfl rfl hP hD hS hl.1 rfl rfl (Nat.le_of_ble_eq_true rfl) d_Cursor_kind_18 (fun H locs hP hD hS => ?_)
    refine lv_goto (tgt := 25) hx hb d_Cursor_kind_21 (by decide) ?_
    cases hF
    exact leafI X hP hD hS d_Cursor_kind_25
theorem d_Cursor_nextKind_0 : decode b_Cursor_nextKind 0 = .ok (.aload_n 0, 1) := by decide +kernel
theorem d_Cursor_nextKind_1 : decode b_Cursor_nextKind 1 = .ok (.getfield 22, 3) := by decide +kernel
theorem d_Cursor_nextKind_4 : decode b_Cursor_nextKind 4 = .ok (.invokevirtual 26, 3) := by decide +kernel
theorem d_Cursor_nextKind_7 : decode b_Cursor_nextKind 7 = .ok (.ifCond .eq 19, 3) := by decide +kernel
theorem d_Cursor_nextKind_10 : decode b_Cursor_nextKind 10 = .ok (.aload_n 0, 1) := by decide +kernel
theorem d_Cursor_nextKind_11 : decode b_Cursor_nextKind 11 = .ok (.getfield 18, 3) := by decide +kernel
theorem d_Cursor_nextKind_14 : decode b_Cursor_nextKind 14 = .ok (.aload_n 0, 1) := by decide +kernel
theorem d_Cursor_nextKind_15 : decode b_Cursor_nextKind 15 = .ok (.getfield 9, 3) := by decide +kernel
theorem d_Cursor_nextKind_18 : decode b_Cursor_nextKind 18 = .ok (.iconst 1, 1) := by decide +kernel
theorem d_Cursor_nextKind_19 : decode b_Cursor_nextKind 19 = .ok (.iadd, 1) := by decide +kernel
theorem d_Cursor_nextKind_20 : decode b_Cursor_nextKind 20 = .ok (.invokevirtual 32, 3) := by decide +kernel
theorem d_Cursor_nextKind_23 : decode b_Cursor_nextKind 23 = .ok (.goto 4, 3) := by decide +kernel
theorem d_Cursor_nextKind_26 : decode b_Cursor_nextKind 26 = .ok (.iconst 0, 1) := by decide +kernel
theorem d_Cursor_nextKind_27 : decode b_Cursor_nextKind 27 = .ok (.ireturn, 1) := by decide +kernel
def tCursor_nextKind (σ : St) : Option (Int32) := b1 (tRefusal_isNone σ) (fun r1 => if r1 = 0 then some 0 else b1 (tTokens_kindOf σ ((σ.1 6) + 1)) (fun r3 => some r3))
set_option maxHeartbeats 4000000 in
set_option maxRecDepth 100000 in
theorem ct_Cursor_nextKind (l : Launch) (dC : Nat → ClassId) (dI : Nat → Nat → Nat) (ad : Nat → Nat) (cA : Nat → ClassId) (sz : Nat) {σ : St} {r : Int32} (hF : tCursor_nextKind σ = some r) : MI l y_Cursor_nextKind b_Cursor_nextKind 1 (some .int) { frames := 1, cells := 0, slots := 0, locals := 21 } (dC, dI) (ttys cA) ad (tcw ad cA) [.ref (ad 3)] σ sz r σ := by
  refine startM (own := "TinyForge$Cursor") (Qc := fun A => QI (dC, dI) (ttys cA) (tcw ad cA) A r σ) rfl rfl (Nat.le_of_ble_eq_true rfl) ?_
  intro p e s m below meth c A H locs ls X hP hD hS hl
  have hl : lv_has ls 1 [(0, .ref (ad 3))] := hl
  obtain ⟨hx, hb, hr, hml, hown, hlocks, hts, hA, hK, hZ⟩ := id X
  unfold tCursor_nextKind at hF
  refine lv_aload_n hx hb d_Cursor_nextKind_0 rfl (lv_at hl 0 rfl) ?_
  refine va_get (D := (dC, dI)) (ci := 3) (v := .ref (ad 1)) hx hb hts i_Cursor hown hK hP 3 rfl rfl 1 (by decide) (hts _ w_3761caf48e) (fun _ h9 => h9) rfl d_Cursor_nextKind_1 ?_
  obtain ⟨r1, h1, hF⟩ := b1E hF
  refine callVI (As := []) X (ct_Refusal_isNone l dC dI ad cA H.size h1) lk_Cursor_26 ⟨rfl, rfl, by decide, by decide⟩ 1 rfl rfl hP hD hS hl.1 rfl rfl (Nat.le_of_ble_eq_true rfl) d_Cursor_nextKind_4 (fun H locs hP hD hS => ?_)
  refine lv_if_eq (tgt := 26) hx hb d_Cursor_nextKind_7 (by decide) (fun c_2 => ?_) (fun c_2 => ?_)
  · have hF := ifp hF c_2
    refine lv_iconst (v := 0) hx hb d_Cursor_nextKind_26 (by decide) ?_
    cases hF
    exact leafI X hP hD hS d_Cursor_nextKind_27
  · have hF := ifn hF c_2
    refine lv_aload_n hx hb d_Cursor_nextKind_10 rfl (lv_at hl 0 rfl) ?_
    refine va_get (D := (dC, dI)) (ci := 3) (v := .ref (ad 2)) hx hb hts i_Cursor hown hK hP 3 rfl rfl 0 (by decide) (hts _ w_5c74bf5519) (fun _ h9 => h9) rfl d_Cursor_nextKind_11 ?_
    refine lv_aload_n hx hb d_Cursor_nextKind_14 rfl (lv_at hl 0 rfl) ?_
    refine va_get (D := (dC, dI)) (ci := 3) (v := .int (σ.1 6)) hx hb hts i_Cursor hown hK hP 3 rfl rfl 2 (by decide) (hts _ w_56b47feb12) (fun _ h9 => h9) rfl d_Cursor_nextKind_15 ?_
    refine lv_iconst (v := 1) hx hb d_Cursor_nextKind_18 (by decide) ?_
    refine lv_iadd hx hb d_Cursor_nextKind_19 ?_
    obtain ⟨r3, h3, hF⟩ := b1E hF
    refine callVI (As := [.int ((σ.1 6) + 1)]) X (ct_Tokens_kindOf l dC dI ad cA H.size h3) lk_Cursor_32 ⟨rfl, rfl, by decide, by decide⟩ 2 rfl rfl hP hD hS hl.1 rfl rfl (Nat.le_of_ble_eq_true rfl) d_Cursor_nextKind_20 (fun H locs hP hD hS => ?_)
    refine lv_goto (tgt := 27) hx hb d_Cursor_nextKind_23 (by decide) ?_
    cases hF
    exact leafI X hP hD hS d_Cursor_nextKind_27
theorem d_Cursor_number_0 : decode b_Cursor_number 0 = .ok (.aload_n 0, 1) := by decide +kernel
theorem d_Cursor_number_1 : decode b_Cursor_number 1 = .ok (.getfield 18, 3) := by decide +kernel
theorem d_Cursor_number_4 : decode b_Cursor_number 4 = .ok (.aload_n 0, 1) := by decide +kernel
theorem d_Cursor_number_5 : decode b_Cursor_number 5 = .ok (.getfield 9, 3) := by decide +kernel
theorem d_Cursor_number_8 : decode b_Cursor_number 8 = .ok (.invokevirtual 38, 3) := by decide +kernel
theorem d_Cursor_number_11 : decode b_Cursor_number 11 = .ok (.l2i, 1) := by decide +kernel
theorem d_Cursor_number_12 : decode b_Cursor_number 12 = .ok (.ireturn, 1) := by decide +kernel
def tCursor_number (σ : St) : Option (Int32) := b1 (tTokens_valueOf σ (σ.1 6)) (fun r1 => some ((r1 : Int64).toInt32))
set_option maxHeartbeats 4000000 in
set_option maxRecDepth 100000 in
theorem ct_Cursor_number (l : Launch) (dC : Nat → ClassId) (dI : Nat → Nat → Nat) (ad : Nat → Nat) (cA : Nat → ClassId) (sz : Nat) {σ : St} {r : Int32} (hF : tCursor_number σ = some r) : MI l y_Cursor_number b_Cursor_number 1 (some .int) { frames := 1, cells := 0, slots := 0, locals := 21 } (dC, dI) (ttys cA) ad (tcw ad cA) [.ref (ad 3)] σ sz r σ := by
  refine startM (own := "TinyForge$Cursor") (Qc := fun A => QI (dC, dI) (ttys cA) (tcw ad cA) A r σ) rfl rfl (Nat.le_of_ble_eq_true rfl) ?_
  intro p e s m below meth c A H locs ls X hP hD hS hl
  have hl : lv_has ls 1 [(0, .ref (ad 3))] := hl
  obtain ⟨hx, hb, hr, hml, hown, hlocks, hts, hA, hK, hZ⟩ := id X
  unfold tCursor_number at hF
  refine lv_aload_n hx hb d_Cursor_number_0 rfl (lv_at hl 0 rfl) ?_
  refine va_get (D := (dC, dI)) (ci := 3) (v := .ref (ad 2)) hx hb hts i_Cursor hown hK hP 3 rfl rfl 0 (by decide) (hts _ w_5c74bf5519) (fun _ h9 => h9) rfl d_Cursor_number_1 ?_
  refine lv_aload_n hx hb d_Cursor_number_4 rfl (lv_at hl 0 rfl) ?_
  refine va_get (D := (dC, dI)) (ci := 3) (v := .int (σ.1 6)) hx hb hts i_Cursor hown hK hP 3 rfl rfl 2 (by decide) (hts _ w_56b47feb12) (fun _ h9 => h9) rfl d_Cursor_number_5 ?_
  obtain ⟨r1, h1, hF⟩ := b1E hF
  refine callVJ (As := [.int (σ.1 6)]) X (ct_Tokens_valueOf l dC dI ad cA H.size h1) lk_Cursor_38 ⟨rfl, rfl, by decide, by decide⟩ 2 rfl rfl hP hD hS hl.1 rfl rfl (Nat.le_of_ble_eq_true rfl) d_Cursor_number_8 (fun H locs hP hD hS => ?_)
  refine lv_l2i (v := (r1 : Int64).toInt32) hx hb d_Cursor_number_11 rfl ?_
  cases hF
  exact leafI X hP hD hS d_Cursor_number_12
theorem d_Cursor_pass_0 : decode b_Cursor_pass 0 = .ok (.aload_n 0, 1) := by decide +kernel
theorem d_Cursor_pass_1 : decode b_Cursor_pass 1 = .ok (.invokevirtual 42, 3) := by decide +kernel
theorem d_Cursor_pass_4 : decode b_Cursor_pass 4 = .ok (.iload_n 1, 1) := by decide +kernel
theorem d_Cursor_pass_5 : decode b_Cursor_pass 5 = .ok (.if_icmp .ne 16, 3) := by decide +kernel
theorem d_Cursor_pass_8 : decode b_Cursor_pass 8 = .ok (.aload_n 0, 1) := by decide +kernel
theorem d_Cursor_pass_9 : decode b_Cursor_pass 9 = .ok (.dup, 1) := by decide +kernel
theorem d_Cursor_pass_10 : decode b_Cursor_pass 10 = .ok (.getfield 9, 3) := by decide +kernel
theorem d_Cursor_pass_13 : decode b_Cursor_pass 13 = .ok (.iconst 1, 1) := by decide +kernel
theorem d_Cursor_pass_14 : decode b_Cursor_pass 14 = .ok (.iadd, 1) := by decide +kernel
theorem d_Cursor_pass_15 : decode b_Cursor_pass 15 = .ok (.putfield 9, 3) := by decide +kernel
theorem d_Cursor_pass_18 : decode b_Cursor_pass 18 = .ok (.goto 22, 3) := by decide +kernel
theorem d_Cursor_pass_21 : decode b_Cursor_pass 21 = .ok (.aload_n 0, 1) := by decide +kernel
theorem d_Cursor_pass_22 : decode b_Cursor_pass 22 = .ok (.getfield 22, 3) := by decide +kernel
theorem d_Cursor_pass_25 : decode b_Cursor_pass 25 = .ok (.iconst 3, 1) := by decide +kernel
theorem d_Cursor_pass_26 : decode b_Cursor_pass 26 = .ok (.aload_n 0, 1) := by decide +kernel
theorem d_Cursor_pass_27 : decode b_Cursor_pass 27 = .ok (.getfield 18, 3) := by decide +kernel
theorem d_Cursor_pass_30 : decode b_Cursor_pass 30 = .ok (.aload_n 0, 1) := by decide +kernel
theorem d_Cursor_pass_31 : decode b_Cursor_pass 31 = .ok (.getfield 9, 3) := by decide +kernel
theorem d_Cursor_pass_34 : decode b_Cursor_pass 34 = .ok (.invokevirtual 46, 3) := by decide +kernel
theorem d_Cursor_pass_37 : decode b_Cursor_pass 37 = .ok (.invokevirtual 49, 3) := by decide +kernel
theorem d_Cursor_pass_40 : decode b_Cursor_pass 40 = .ok (.return_, 1) := by decide +kernel
def tCursor_pass (σ : St) (a1 : Int32) : Option (St) := b1 (tCursor_kind σ) (fun r1 => if r1 = a1 then some (sI σ 6 ((σ.1 6) + 1)) else b1 (tTokens_placeOf σ (σ.1 6)) (fun r3 => b1 (tRefusal_refuse σ 3 r3) (fun u4 => some u4)))
set_option maxHeartbeats 4000000 in
set_option maxRecDepth 100000 in
theorem ct_Cursor_pass (l : Launch) (dC : Nat → ClassId) (dI : Nat → Nat → Nat) (ad : Nat → Nat) (cA : Nat → ClassId) (sz : Nat) {σ : St} {a1 : Int32} {σ' : St} (hF : tCursor_pass σ a1 = some σ') : MV l y_Cursor_pass b_Cursor_pass 2 none { frames := 2, cells := 0, slots := 0, locals := 41 } (dC, dI) (ttys cA) ad (tcw ad cA) [.ref (ad 3), .int a1] σ sz σ' := by
  refine startM (own := "TinyForge$Cursor") (Qc := fun A => QV (dC, dI) (ttys cA) (tcw ad cA) A σ') rfl rfl (Nat.le_of_ble_eq_true rfl) ?_
  intro p e s m below meth c A H locs ls X hP hD hS hl
  have hl : lv_has ls 2 [(0, .ref (ad 3)), (1, .int a1)] := hl
  obtain ⟨hx, hb, hr, hml, hown, hlocks, hts, hA, hK, hZ⟩ := id X
  unfold tCursor_pass at hF
  refine lv_aload_n hx hb d_Cursor_pass_0 rfl (lv_at hl 0 rfl) ?_
  obtain ⟨r1, h1, hF⟩ := b1E hF
  refine callVI (As := []) X (ct_Cursor_kind l dC dI ad cA H.size h1) lk_Cursor_42 ⟨rfl, rfl, by decide, by decide⟩ 3 rfl rfl hP hD hS hl.1 rfl rfl (Nat.le_of_ble_eq_true rfl) d_Cursor_pass_1 (fun H locs hP hD hS => ?_)
  refine lv_iload_n hx hb d_Cursor_pass_4 rfl (lv_at hl 1 rfl) ?_
  refine lv_icmp_ne (tgt := 21) hx hb d_Cursor_pass_5 (by decide) (fun c_2 => ?_) (fun c_2 => ?_)
  · have hF := ifn hF c_2
    refine lv_aload_n hx hb d_Cursor_pass_21 rfl (lv_at hl 0 rfl) ?_
    refine va_get (D := (dC, dI)) (ci := 3) (v := .ref (ad 1)) hx hb hts i_Cursor hown hK hP 3 rfl rfl 1 (by decide) (hts _ w_3761caf48e) (fun _ h9 => h9) rfl d_Cursor_pass_22 ?_
    refine lv_iconst (v := 3) hx hb d_Cursor_pass_25 (by decide) ?_
    refine lv_aload_n hx hb d_Cursor_pass_26 rfl (lv_at hl 0 rfl) ?_
    refine va_get (D := (dC, dI)) (ci := 3) (v := .ref (ad 2)) hx hb hts i_Cursor hown hK hP 3 rfl rfl 0 (by decide) (hts _ w_5c74bf5519) (fun _ h9 => h9) rfl d_Cursor_pass_27 ?_
    refine lv_aload_n hx hb d_Cursor_pass_30 rfl (lv_at hl 0 rfl) ?_
    refine va_get (D := (dC, dI)) (ci := 3) (v := .int (σ.1 6)) hx hb hts i_Cursor hown hK hP 3 rfl rfl 2 (by decide) (hts _ w_56b47feb12) (fun _ h9 => h9) rfl d_Cursor_pass_31 ?_
    obtain ⟨r3, h3, hF⟩ := b1E hF
    refine callVI (As := [.int (σ.1 6)]) X (ct_Tokens_placeOf l dC dI ad cA H.size h3) lk_Cursor_46 ⟨rfl, rfl, by decide, by decide⟩ 2 rfl rfl hP hD hS hl.1 rfl rfl (Nat.le_of_ble_eq_true rfl) d_Cursor_pass_34 (fun H locs hP hD hS => ?_)
    obtain ⟨u4, h4, hF⟩ := b1E hF
    refine callVV (As := [.int 3, .int r3]) X (ct_Refusal_refuse l dC dI ad cA H.size h4) lk_Cursor_49 ⟨rfl, rfl, by decide, by decide⟩ 1 rfl rfl hP hD hS hl.1 rfl rfl (Nat.le_of_ble_eq_true rfl) d_Cursor_pass_37 (fun H locs hP hD hS => ?_)
    cases hF
    exact leafV X hP hD hS d_Cursor_pass_40
  · have hF := ifp hF c_2
    refine lv_aload_n hx hb d_Cursor_pass_8 rfl (lv_at hl 0 rfl) ?_
    refine lv_dup hx hb d_Cursor_pass_9 rfl ?_
    refine va_get (D := (dC, dI)) (ci := 3) (v := .int (σ.1 6)) hx hb hts i_Cursor hown hK hP 3 rfl rfl 2 (by decide) (hts _ w_56b47feb12) (fun _ h9 => h9) rfl d_Cursor_pass_10 ?_
    refine lv_iconst (v := 1) hx hb d_Cursor_pass_13 (by decide) ?_
    refine lv_iadd hx hb d_Cursor_pass_14 ?_
    refine va_put (D := (dC, dI)) (ci := 3) (v := .int ((σ.1 6) + 1)) (ty := .int) hx hb hts i_Cursor t_Cursor t_Cursor_ok n_Cursor hown hK hP hD hS 3 rfl rfl 2 (by decide) (hts _ w_56b47feb12) (fun _ h9 => h9) rfl (by decide +kernel) rfl rfl (Nat.le_of_ble_eq_true rfl) d_Cursor_pass_15 (fun H locs hP hD hS => ?_)
    have hP : va_P (dC, dI) vwCl (tcw ad cA (sI σ 6 ((σ.1 6) + 1))) H := hP
    have hD : va_D A (tcw ad cA (sI σ 6 ((σ.1 6) + 1))) := hD
    refine lv_goto (tgt := 40) hx hb d_Cursor_pass_18 (by decide) ?_
    cases hF
    exact leafV X hP hD hS d_Cursor_pass_40
theorem d_Cursor_passClosing_0 : decode b_Cursor_passClosing 0 = .ok (.aload_n 0, 1) := by decide +kernel
theorem d_Cursor_passClosing_1 : decode b_Cursor_passClosing 1 = .ok (.iload_n 1, 1) := by decide +kernel
theorem d_Cursor_passClosing_2 : decode b_Cursor_passClosing 2 = .ok (.invokevirtual 53, 3) := by decide +kernel
theorem d_Cursor_passClosing_5 : decode b_Cursor_passClosing 5 = .ok (.aload_n 0, 1) := by decide +kernel
theorem d_Cursor_passClosing_6 : decode b_Cursor_passClosing 6 = .ok (.dup, 1) := by decide +kernel
theorem d_Cursor_passClosing_7 : decode b_Cursor_passClosing 7 = .ok (.getfield 15, 3) := by decide +kernel
theorem d_Cursor_passClosing_10 : decode b_Cursor_passClosing 10 = .ok (.iconst 1, 1) := by decide +kernel
theorem d_Cursor_passClosing_11 : decode b_Cursor_passClosing 11 = .ok (.isub, 1) := by decide +kernel
theorem d_Cursor_passClosing_12 : decode b_Cursor_passClosing 12 = .ok (.putfield 15, 3) := by decide +kernel
theorem d_Cursor_passClosing_15 : decode b_Cursor_passClosing 15 = .ok (.return_, 1) := by decide +kernel
def tCursor_passClosing (σ : St) (a1 : Int32) : Option (St) := b1 (tCursor_pass σ a1) (fun u1 => some (sI u1 7 ((u1.1 7) - 1)))
set_option maxHeartbeats 4000000 in
set_option maxRecDepth 100000 in
theorem ct_Cursor_passClosing (l : Launch) (dC : Nat → ClassId) (dI : Nat → Nat → Nat) (ad : Nat → Nat) (cA : Nat → ClassId) (sz : Nat) {σ : St} {a1 : Int32} {σ' : St} (hF : tCursor_passClosing σ a1 = some σ') : MV l y_Cursor_passClosing b_Cursor_passClosing 2 none { frames := 3, cells := 0, slots := 0, locals := 62 } (dC, dI) (ttys cA) ad (tcw ad cA) [.ref (ad 3), .int a1] σ sz σ' := by
  refine startM (own := "TinyForge$Cursor") (Qc := fun A => QV (dC, dI) (ttys cA) (tcw ad cA) A σ') rfl rfl (Nat.le_of_ble_eq_true rfl) ?_
  intro p e s m below meth c A H locs ls X hP hD hS hl
  have hl : lv_has ls 2 [(0, .ref (ad 3)), (1, .int a1)] := hl
  obtain ⟨hx, hb, hr, hml, hown, hlocks, hts, hA, hK, hZ⟩ := id X
  unfold tCursor_passClosing at hF
  refine lv_aload_n hx hb d_Cursor_passClosing_0 rfl (lv_at hl 0 rfl) ?_
  refine lv_iload_n hx hb d_Cursor_passClosing_1 rfl (lv_at hl 1 rfl) ?_
  obtain ⟨u1, h1, hF⟩ := b1E hF
  refine callVV (As := [.int a1]) X (ct_Cursor_pass l dC dI ad cA H.size h1) lk_Cursor_53 ⟨rfl, rfl, by decide, by decide⟩ 3 rfl rfl hP hD hS hl.1 rfl rfl (Nat.le_of_ble_eq_true rfl) d_Cursor_passClosing_2 (fun H locs hP hD hS => ?_)
  refine lv_aload_n hx hb d_Cursor_passClosing_5 rfl (lv_at hl 0 rfl) ?_
  refine lv_dup hx hb d_Cursor_passClosing_6 rfl ?_
  refine va_get (D := (dC, dI)) (ci := 3) (v := .int (u1.1 7)) hx hb hts i_Cursor hown hK hP 3 rfl rfl 3 (by decide) (hts _ w_34851d5df2) (fun _ h9 => h9) rfl d_Cursor_passClosing_7 ?_
  refine lv_iconst (v := 1) hx hb d_Cursor_passClosing_10 (by decide) ?_
  refine lv_isub hx hb d_Cursor_passClosing_11 ?_
  refine va_put (D := (dC, dI)) (ci := 3) (v := .int ((u1.1 7) - 1)) (ty := .int) hx hb hts i_Cursor t_Cursor t_Cursor_ok n_Cursor hown hK hP hD hS 3 rfl rfl 3 (by decide) (hts _ w_34851d5df2) (fun _ h9 => h9) rfl (by decide +kernel) rfl rfl (Nat.le_of_ble_eq_true rfl) d_Cursor_passClosing_12 (fun H locs hP hD hS => ?_)
  have hP : va_P (dC, dI) vwCl (tcw ad cA (sI u1 7 ((u1.1 7) - 1))) H := hP
  have hD : va_D A (tcw ad cA (sI u1 7 ((u1.1 7) - 1))) := hD
  cases hF
  exact leafV X hP hD hS d_Cursor_passClosing_15
theorem d_Cursor_passOpening_0 : decode b_Cursor_passOpening 0 = .ok (.aload_n 0, 1) := by decide +kernel
theorem d_Cursor_passOpening_1 : decode b_Cursor_passOpening 1 = .ok (.invokevirtual 42, 3) := by decide +kernel
theorem d_Cursor_passOpening_4 : decode b_Cursor_passOpening 4 = .ok (.iload_n 1, 1) := by decide +kernel
theorem d_Cursor_passOpening_5 : decode b_Cursor_passOpening 5 = .ok (.if_icmp .eq 25, 3) := by decide +kernel
theorem d_Cursor_passOpening_8 : decode b_Cursor_passOpening 8 = .ok (.aload_n 0, 1) := by decide +kernel
theorem d_Cursor_passOpening_9 : decode b_Cursor_passOpening 9 = .ok (.getfield 22, 3) := by decide +kernel
theorem d_Cursor_passOpening_12 : decode b_Cursor_passOpening 12 = .ok (.iconst 3, 1) := by decide +kernel
theorem d_Cursor_passOpening_13 : decode b_Cursor_passOpening 13 = .ok (.aload_n 0, 1) := by decide +kernel
theorem d_Cursor_passOpening_14 : decode b_Cursor_passOpening 14 = .ok (.getfield 18, 3) := by decide +kernel
theorem d_Cursor_passOpening_17 : decode b_Cursor_passOpening 17 = .ok (.aload_n 0, 1) := by decide +kernel
theorem d_Cursor_passOpening_18 : decode b_Cursor_passOpening 18 = .ok (.getfield 9, 3) := by decide +kernel
theorem d_Cursor_passOpening_21 : decode b_Cursor_passOpening 21 = .ok (.invokevirtual 46, 3) := by decide +kernel
theorem d_Cursor_passOpening_24 : decode b_Cursor_passOpening 24 = .ok (.invokevirtual 49, 3) := by decide +kernel
theorem d_Cursor_passOpening_27 : decode b_Cursor_passOpening 27 = .ok (.goto 54, 3) := by decide +kernel
theorem d_Cursor_passOpening_30 : decode b_Cursor_passOpening 30 = .ok (.aload_n 0, 1) := by decide +kernel
theorem d_Cursor_passOpening_31 : decode b_Cursor_passOpening 31 = .ok (.getfield 15, 3) := by decide +kernel
theorem d_Cursor_passOpening_34 : decode b_Cursor_passOpening 34 = .ok (.bipush 12, 2) := by decide +kernel
theorem d_Cursor_passOpening_36 : decode b_Cursor_passOpening 36 = .ok (.if_icmp .lt 25, 3) := by decide +kernel
theorem d_Cursor_passOpening_39 : decode b_Cursor_passOpening 39 = .ok (.aload_n 0, 1) := by decide +kernel
theorem d_Cursor_passOpening_40 : decode b_Cursor_passOpening 40 = .ok (.getfield 22, 3) := by decide +kernel
theorem d_Cursor_passOpening_43 : decode b_Cursor_passOpening 43 = .ok (.iconst 2, 1) := by decide +kernel
theorem d_Cursor_passOpening_44 : decode b_Cursor_passOpening 44 = .ok (.aload_n 0, 1) := by decide +kernel
theorem d_Cursor_passOpening_45 : decode b_Cursor_passOpening 45 = .ok (.getfield 18, 3) := by decide +kernel
theorem d_Cursor_passOpening_48 : decode b_Cursor_passOpening 48 = .ok (.aload_n 0, 1) := by decide +kernel
theorem d_Cursor_passOpening_49 : decode b_Cursor_passOpening 49 = .ok (.getfield 9, 3) := by decide +kernel
theorem d_Cursor_passOpening_52 : decode b_Cursor_passOpening 52 = .ok (.invokevirtual 46, 3) := by decide +kernel
theorem d_Cursor_passOpening_55 : decode b_Cursor_passOpening 55 = .ok (.invokevirtual 49, 3) := by decide +kernel
theorem d_Cursor_passOpening_58 : decode b_Cursor_passOpening 58 = .ok (.goto 23, 3) := by decide +kernel
theorem d_Cursor_passOpening_61 : decode b_Cursor_passOpening 61 = .ok (.aload_n 0, 1) := by decide +kernel
theorem d_Cursor_passOpening_62 : decode b_Cursor_passOpening 62 = .ok (.dup, 1) := by decide +kernel
theorem d_Cursor_passOpening_63 : decode b_Cursor_passOpening 63 = .ok (.getfield 9, 3) := by decide +kernel
theorem d_Cursor_passOpening_66 : decode b_Cursor_passOpening 66 = .ok (.iconst 1, 1) := by decide +kernel
theorem d_Cursor_passOpening_67 : decode b_Cursor_passOpening 67 = .ok (.iadd, 1) := by decide +kernel
theorem d_Cursor_passOpening_68 : decode b_Cursor_passOpening 68 = .ok (.putfield 9, 3) := by decide +kernel
theorem d_Cursor_passOpening_71 : decode b_Cursor_passOpening 71 = .ok (.aload_n 0, 1) := by decide +kernel
theorem d_Cursor_passOpening_72 : decode b_Cursor_passOpening 72 = .ok (.dup, 1) := by decide +kernel
theorem d_Cursor_passOpening_73 : decode b_Cursor_passOpening 73 = .ok (.getfield 15, 3) := by decide +kernel
theorem d_Cursor_passOpening_76 : decode b_Cursor_passOpening 76 = .ok (.iconst 1, 1) := by decide +kernel
theorem d_Cursor_passOpening_77 : decode b_Cursor_passOpening 77 = .ok (.iadd, 1) := by decide +kernel
theorem d_Cursor_passOpening_78 : decode b_Cursor_passOpening 78 = .ok (.putfield 15, 3) := by decide +kernel
theorem d_Cursor_passOpening_81 : decode b_Cursor_passOpening 81 = .ok (.return_, 1) := by decide +kernel
def tCursor_passOpening (σ : St) (a1 : Int32) : Option (St) := b1 (tCursor_kind σ) (fun r1 => if r1 = a1 then if (σ.1 7) < 12 then some (sI (sI σ 6 ((σ.1 6) + 1)) 7 ((σ.1 7) + 1)) else b1 (tTokens_placeOf σ (σ.1 6)) (fun r4 => b1 (tRefusal_refuse σ 2 r4) (fun u5 => some u5)) else b1 (tTokens_placeOf σ (σ.1 6)) (fun r6 => b1 (tRefusal_refuse σ 3 r6) (fun u7 => some u7)))
set_option maxHeartbeats 4000000 in
set_option maxRecDepth 100000 in
theorem ct_Cursor_passOpening (l : Launch) (dC : Nat → ClassId) (dI : Nat → Nat → Nat) (ad : Nat → Nat) (cA : Nat → ClassId) (sz : Nat) {σ : St} {a1 : Int32} {σ' : St} (hF : tCursor_passOpening σ a1 = some σ') : MV l y_Cursor_passOpening b_Cursor_passOpening 2 none { frames := 2, cells := 0, slots := 0, locals := 41 } (dC, dI) (ttys cA) ad (tcw ad cA) [.ref (ad 3), .int a1] σ sz σ' := by
  refine startM (own := "TinyForge$Cursor") (Qc := fun A => QV (dC, dI) (ttys cA) (tcw ad cA) A σ') rfl rfl (Nat.le_of_ble_eq_true rfl) ?_
  intro p e s m below meth c A H locs ls X hP hD hS hl
  have hl : lv_has ls 2 [(0, .ref (ad 3)), (1, .int a1)] := hl
  obtain ⟨hx, hb, hr, hml, hown, hlocks, hts, hA, hK, hZ⟩ := id X
  unfold tCursor_passOpening at hF
  refine lv_aload_n hx hb d_Cursor_passOpening_0 rfl (lv_at hl 0 rfl) ?_
  obtain ⟨r1, h1, hF⟩ := b1E hF
  refine callVI (As := []) X (ct_Cursor_kind l dC dI ad cA H.size h1) lk_Cursor_42 ⟨rfl, rfl, by decide, by decide⟩ 3 rfl rfl hP hD hS hl.1 rfl rfl (Nat.le_of_ble_eq_true rfl) d_Cursor_passOpening_1 (fun H locs hP hD hS => ?_)
  refine lv_iload_n hx hb d_Cursor_passOpening_4 rfl (lv_at hl 1 rfl) ?_
  refine lv_icmp_eq (tgt := 30) hx hb d_Cursor_passOpening_5 (by decide) (fun c_2 => ?_) (fun c_2 => ?_)
  · have hF := ifp hF c_2
    refine lv_aload_n hx hb d_Cursor_passOpening_30 rfl (lv_at hl 0 rfl) ?_
    refine va_get (D := (dC, dI)) (ci := 3) (v := .int (σ.1 7)) hx hb hts i_Cursor hown hK hP 3 rfl rfl 3 (by decide) (hts _ w_34851d5df2) (fun _ h9 => h9) rfl d_Cursor_passOpening_31 ?_
    refine lv_bipush (v := 12) hx hb d_Cursor_passOpening_34 (by decide) ?_
    refine lv_icmp_lt (tgt := 61) hx hb d_Cursor_passOpening_36 (by decide) (fun c_3 => ?_) (fun c_3 => ?_)
    · have hF := ifp hF c_3
      refine lv_aload_n hx hb d_Cursor_passOpening_61 rfl (lv_at hl 0 rfl) ?_
      refine lv_dup hx hb d_Cursor_passOpening_62 rfl ?_
      refine va_get (D := (dC, dI)) (ci := 3) (v := .int (σ.1 6)) hx hb hts i_Cursor hown hK hP 3 rfl rfl 2 (by decide) (hts _ w_56b47feb12) (fun _ h9 => h9) rfl d_Cursor_passOpening_63 ?_
      refine lv_iconst (v := 1) hx hb d_Cursor_passOpening_66 (by decide) ?_
      refine lv_iadd hx hb d_Cursor_passOpening_67 ?_
      refine va_put (D := (dC, dI)) (ci := 3) (v := .int ((σ.1 6) + 1)) (ty := .int) hx hb hts i_Cursor t_Cursor t_Cursor_ok n_Cursor hown hK hP hD hS 3 rfl rfl 2 (by decide) (hts _ w_56b47feb12) (fun _ h9 => h9) rfl (by decide +kernel) rfl rfl (Nat.le_of_ble_eq_true rfl) d_Cursor_passOpening_68 (fun H locs hP hD hS => ?_)
      have hP : va_P (dC, dI) vwCl (tcw ad cA (sI σ 6 ((σ.1 6) + 1))) H := hP
      have hD : va_D A (tcw ad cA (sI σ 6 ((σ.1 6) + 1))) := hD
      refine lv_aload_n hx hb d_Cursor_passOpening_71 rfl (lv_at hl 0 rfl) ?_
      refine lv_dup hx hb d_Cursor_passOpening_72 rfl ?_
      refine va_get (D := (dC, dI)) (ci := 3) (v := .int (σ.1 7)) hx hb hts i_Cursor hown hK hP 3 rfl rfl 3 (by decide) (hts _ w_34851d5df2) (fun _ h9 => h9) rfl d_Cursor_passOpening_73 ?_
      refine lv_iconst (v := 1) hx hb d_Cursor_passOpening_76 (by decide) ?_
      refine lv_iadd hx hb d_Cursor_passOpening_77 ?_
      refine va_put (D := (dC, dI)) (ci := 3) (v := .int ((σ.1 7) + 1)) (ty := .int) hx hb hts i_Cursor t_Cursor t_Cursor_ok n_Cursor hown hK hP hD hS 3 rfl rfl 3 (by decide) (hts _ w_34851d5df2) (fun _ h9 => h9) rfl (by decide +kernel) rfl rfl (Nat.le_of_ble_eq_true rfl) d_Cursor_passOpening_78 (fun H locs hP hD hS => ?_)
      have hP : va_P (dC, dI) vwCl (tcw ad cA (sI (sI σ 6 ((σ.1 6) + 1)) 7 ((σ.1 7) + 1))) H := hP
      have hD : va_D A (tcw ad cA (sI (sI σ 6 ((σ.1 6) + 1)) 7 ((σ.1 7) + 1))) := hD
      cases hF
      exact leafV X hP hD hS d_Cursor_passOpening_81
    · have hF := ifn hF c_3
      refine lv_aload_n hx hb d_Cursor_passOpening_39 rfl (lv_at hl 0 rfl) ?_
      refine va_get (D := (dC, dI)) (ci := 3) (v := .ref (ad 1)) hx hb hts i_Cursor hown hK hP 3 rfl rfl 1 (by decide) (hts _ w_3761caf48e) (fun _ h9 => h9) rfl d_Cursor_passOpening_40 ?_
      refine lv_iconst (v := 2) hx hb d_Cursor_passOpening_43 (by decide) ?_
      refine lv_aload_n hx hb d_Cursor_passOpening_44 rfl (lv_at hl 0 rfl) ?_
      refine va_get (D := (dC, dI)) (ci := 3) (v := .ref (ad 2)) hx hb hts i_Cursor hown hK hP 3 rfl rfl 0 (by decide) (hts _ w_5c74bf5519) (fun _ h9 => h9) rfl d_Cursor_passOpening_45 ?_
      refine lv_aload_n hx hb d_Cursor_passOpening_48 rfl (lv_at hl 0 rfl) ?_
      refine va_get (D := (dC, dI)) (ci := 3) (v := .int (σ.1 6)) hx hb hts i_Cursor hown hK hP 3 rfl rfl 2 (by decide) (hts _ w_56b47feb12) (fun _ h9 => h9) rfl d_Cursor_passOpening_49 ?_
      obtain ⟨r4, h4, hF⟩ := b1E hF
      refine callVI (As := [.int (σ.1 6)]) X (ct_Tokens_placeOf l dC dI ad cA H.size h4) lk_Cursor_46 ⟨rfl, rfl, by decide, by decide⟩ 2 rfl rfl hP hD hS hl.1 rfl rfl (Nat.le_of_ble_eq_true rfl) d_Cursor_passOpening_52 (fun H locs hP hD hS => ?_)
      obtain ⟨u5, h5, hF⟩ := b1E hF
      refine callVV (As := [.int 2, .int r4]) X (ct_Refusal_refuse l dC dI ad cA H.size h5) lk_Cursor_49 ⟨rfl, rfl, by decide, by decide⟩ 1 rfl rfl hP hD hS hl.1 rfl rfl (Nat.le_of_ble_eq_true rfl) d_Cursor_passOpening_55 (fun H locs hP hD hS => ?_)
      refine lv_goto (tgt := 81) hx hb d_Cursor_passOpening_58 (by decide) ?_
      cases hF
      exact leafV X hP hD hS d_Cursor_passOpening_81
  · have hF := ifn hF c_2
    refine lv_aload_n hx hb d_Cursor_passOpening_8 rfl (lv_at hl 0 rfl) ?_
    refine va_get (D := (dC, dI)) (ci := 3) (v := .ref (ad 1)) hx hb hts i_Cursor hown hK hP 3 rfl rfl 1 (by decide) (hts _ w_3761caf48e) (fun _ h9 => h9) rfl d_Cursor_passOpening_9 ?_
    refine lv_iconst (v := 3) hx hb d_Cursor_passOpening_12 (by decide) ?_
    refine lv_aload_n hx hb d_Cursor_passOpening_13 rfl (lv_at hl 0 rfl) ?_
    refine va_get (D := (dC, dI)) (ci := 3) (v := .ref (ad 2)) hx hb hts i_Cursor hown hK hP 3 rfl rfl 0 (by decide) (hts _ w_5c74bf5519) (fun _ h9 => h9) rfl d_Cursor_passOpening_14 ?_
    refine lv_aload_n hx hb d_Cursor_passOpening_17 rfl (lv_at hl 0 rfl) ?_
    refine va_get (D := (dC, dI)) (ci := 3) (v := .int (σ.1 6)) hx hb hts i_Cursor hown hK hP 3 rfl rfl 2 (by decide) (hts _ w_56b47feb12) (fun _ h9 => h9) rfl d_Cursor_passOpening_18 ?_
    obtain ⟨r6, h6, hF⟩ := b1E hF
    refine callVI (As := [.int (σ.1 6)]) X (ct_Tokens_placeOf l dC dI ad cA H.size h6) lk_Cursor_46 ⟨rfl, rfl, by decide, by decide⟩ 2 rfl rfl hP hD hS hl.1 rfl rfl (Nat.le_of_ble_eq_true rfl) d_Cursor_passOpening_21 (fun H locs hP hD hS => ?_)
    obtain ⟨u7, h7, hF⟩ := b1E hF
    refine callVV (As := [.int 3, .int r6]) X (ct_Refusal_refuse l dC dI ad cA H.size h7) lk_Cursor_49 ⟨rfl, rfl, by decide, by decide⟩ 1 rfl rfl hP hD hS hl.1 rfl rfl (Nat.le_of_ble_eq_true rfl) d_Cursor_passOpening_24 (fun H locs hP hD hS => ?_)
    refine lv_goto (tgt := 81) hx hb d_Cursor_passOpening_27 (by decide) ?_
    cases hF
    exact leafV X hP hD hS d_Cursor_passOpening_81
theorem d_Cursor_start_0 : decode b_Cursor_start 0 = .ok (.aload_n 0, 1) := by decide +kernel
theorem d_Cursor_start_1 : decode b_Cursor_start 1 = .ok (.iconst 0, 1) := by decide +kernel
theorem d_Cursor_start_2 : decode b_Cursor_start 2 = .ok (.putfield 9, 3) := by decide +kernel
theorem d_Cursor_start_5 : decode b_Cursor_start 5 = .ok (.aload_n 0, 1) := by decide +kernel
theorem d_Cursor_start_6 : decode b_Cursor_start 6 = .ok (.iconst 0, 1) := by decide +kernel
theorem d_Cursor_start_7 : decode b_Cursor_start 7 = .ok (.putfield 15, 3) := by decide +kernel
theorem d_Cursor_start_10 : decode b_Cursor_start 10 = .ok (.return_, 1) := by decide +kernel
def tCursor_start (σ : St) : Option (St) := some (sI (sI σ 6 0) 7 0)
set_option maxHeartbeats 4000000 in
set_option maxRecDepth 100000 in
theorem ct_Cursor_start (l : Launch) (dC : Nat → ClassId) (dI : Nat → Nat → Nat) (ad : Nat → Nat) (cA : Nat → ClassId) (sz : Nat) {σ : St} {σ' : St} (hF : tCursor_start σ = some σ') : MV l y_Cursor_start b_Cursor_start 1 none { frames := 0, cells := 0, slots := 0, locals := 0 } (dC, dI) (ttys cA) ad (tcw ad cA) [.ref (ad 3)] σ sz σ' := by
  refine startM (own := "TinyForge$Cursor") (Qc := fun A => QV (dC, dI) (ttys cA) (tcw ad cA) A σ') rfl rfl (Nat.le_of_ble_eq_true rfl) ?_
  intro p e s m below meth c A H locs ls X hP hD hS hl
  have hl : lv_has ls 1 [(0, .ref (ad 3))] := hl
  obtain ⟨hx, hb, hr, hml, hown, hlocks, hts, hA, hK, hZ⟩ := id X
  unfold tCursor_start at hF
  refine lv_aload_n hx hb d_Cursor_start_0 rfl (lv_at hl 0 rfl) ?_
  refine lv_iconst (v := 0) hx hb d_Cursor_start_1 (by decide) ?_
  refine va_put (D := (dC, dI)) (ci := 3) (v := .int 0) (ty := .int) hx hb hts i_Cursor t_Cursor t_Cursor_ok n_Cursor hown hK hP hD hS 3 rfl rfl 2 (by decide) (hts _ w_56b47feb12) (fun _ h9 => h9) rfl (by decide +kernel) rfl rfl (Nat.le_of_ble_eq_true rfl) d_Cursor_start_2 (fun H locs hP hD hS => ?_)
  have hP : va_P (dC, dI) vwCl (tcw ad cA (sI σ 6 0)) H := hP
  have hD : va_D A (tcw ad cA (sI σ 6 0)) := hD
  refine lv_aload_n hx hb d_Cursor_start_5 rfl (lv_at hl 0 rfl) ?_
  refine lv_iconst (v := 0) hx hb d_Cursor_start_6 (by decide) ?_
  refine va_put (D := (dC, dI)) (ci := 3) (v := .int 0) (ty := .int) hx hb hts i_Cursor t_Cursor t_Cursor_ok n_Cursor hown hK hP hD hS 3 rfl rfl 3 (by decide) (hts _ w_34851d5df2) (fun _ h9 => h9) rfl (by decide +kernel) rfl rfl (Nat.le_of_ble_eq_true rfl) d_Cursor_start_7 (fun H locs hP hD hS => ?_)
  have hP : va_P (dC, dI) vwCl (tcw ad cA (sI (sI σ 6 0) 7 0)) H := hP
  have hD : va_D A (tcw ad cA (sI (sI σ 6 0) 7 0)) := hD
  cases hF
  exact leafV X hP hD hS d_Cursor_start_10
theorem d_Variables_find_0 : decode b_Variables_find 0 = .ok (.aload_n 0, 1) := by decide +kernel
theorem d_Variables_find_1 : decode b_Variables_find 1 = .ok (.getfield 15, 3) := by decide +kernel
theorem d_Variables_find_4 : decode b_Variables_find 4 = .ok (.iconst 1, 1) := by decide +kernel
theorem d_Variables_find_5 : decode b_Variables_find 5 = .ok (.isub, 1) := by decide +kernel
theorem d_Variables_find_6 : decode b_Variables_find 6 = .ok (.istore_n 3, 1) := by decide +kernel
theorem d_Variables_find_7 : decode b_Variables_find 7 = .ok (.iload_n 3, 1) := by decide +kernel
theorem d_Variables_find_8 : decode b_Variables_find 8 = .ok (.ifCond .lt 22, 3) := by decide +kernel
theorem d_Variables_find_11 : decode b_Variables_find 11 = .ok (.aload_n 0, 1) := by decide +kernel
theorem d_Variables_find_12 : decode b_Variables_find 12 = .ok (.getfield 9, 3) := by decide +kernel
theorem d_Variables_find_15 : decode b_Variables_find 15 = .ok (.iload_n 3, 1) := by decide +kernel
theorem d_Variables_find_16 : decode b_Variables_find 16 = .ok (.laload, 1) := by decide +kernel
theorem d_Variables_find_17 : decode b_Variables_find 17 = .ok (.lload_n 1, 1) := by decide +kernel
theorem d_Variables_find_18 : decode b_Variables_find 18 = .ok (.lcmp, 1) := by decide +kernel
theorem d_Variables_find_19 : decode b_Variables_find 19 = .ok (.ifCond .ne 5, 3) := by decide +kernel
theorem d_Variables_find_22 : decode b_Variables_find 22 = .ok (.iload_n 3, 1) := by decide +kernel
theorem d_Variables_find_23 : decode b_Variables_find 23 = .ok (.ireturn, 1) := by decide +kernel
theorem d_Variables_find_24 : decode b_Variables_find 24 = .ok (.iinc 3 (-1), 3) := by decide +kernel
theorem d_Variables_find_27 : decode b_Variables_find 27 = .ok (.goto (-20), 3) := by decide +kernel
theorem d_Variables_find_30 : decode b_Variables_find 30 = .ok (.iconst (-1), 1) := by decide +kernel
theorem d_Variables_find_31 : decode b_Variables_find 31 = .ok (.ireturn, 1) := by decide +kernel
def tVariables_find_b1 (k : Nat → St → Int32 → Int64 → Option (Int32)) (σ : St) (x1 : Int32) (y1 : Int64) : Option (Int32) := if x1 < 0 then some (-1) else gd (inB x1 12) (if (lg_cmp ((σ.2.2.2 1) x1.toNatClampNeg) y1) = 0 then some x1 else k 1 σ (x1 + (-1)) y1)
def tVariables_find_L : Nat → Nat → St → Int32 → Int64 → Option (Int32)
  | 0, _, _, _, _ => none
  | n + 1, lab, σ, x1, y1 => match lab with
    | 1 => tVariables_find_b1 (tVariables_find_L n) σ x1 y1
    | _ => none
def tVariables_find (σ : St) (a1 : Int64) : Option (Int32) := tVariables_find_L 2000 1 σ ((σ.1 8) - 1) a1
set_option maxHeartbeats 4000000 in
set_option maxRecDepth 100000 in
theorem tVariables_find_blk {p : Program} {e : Env} {s : State} {m : MethodId} {args : Array Value} {below : List Frame} {meth : Method} {c : Code} {A : Nat → Prop} (l : Launch) (dC : Nat → ClassId) (dI : Nat → Nat → Nat) (ad : Nat → Nat) (cA : Nat → ClassId) {r : Int32} (X : Cx p s m args meth c b_Variables_find 4 (some .int) "TinyForge$Variables" (dC, dI) (ttys cA) ad A) : ∀ n : Nat, (∀ (σ : St) (x1 : Int32) (y1 : Int64) (H : Heap) (locs : List Loc) (ls : Array Slot), tVariables_find_L n 1 σ x1 y1 = some r → va_P (dC, dI) vwCl (tcw ad cA σ) H → va_D A (tcw ad cA σ) → va_S A s.heap H locs → lv_has ls 4 [(0, .ref (ad 4)), (1, .long y1), (3, .int x1)] → W p l e { frames := 0, cells := 0, slots := 0, locals := 0 } s m args below meth c H locs 0 0 (MQ below (QI (dC, dI) (ttys cA) (tcw ad cA) A r σ) args s 0 0 A) (F0 m 7 ls [])) := by
  obtain ⟨hx, hb, hr, hml, hown, hlocks, hts, hA, hK, hZ⟩ := id X
  intro n
  induction n with
  | zero => exact (fun σ x1 y1 H locs ls hF => by cases hF)
  | succ n ihn =>
    refine fun σ x1 y1 H locs ls hF hP hD hS hl => ?_
    · have hF : tVariables_find_b1 (tVariables_find_L n) σ x1 y1 = some r := hF
      unfold tVariables_find_b1 at hF
      refine lv_iload_n hx hb d_Variables_find_7 rfl (lv_at hl 2 rfl) ?_
      refine lv_if_lt (tgt := 30) hx hb d_Variables_find_8 (by decide) (fun c_1 => ?_) (fun c_1 => ?_)
      · have hF := ifp hF c_1
        refine lv_iconst (v := (-1)) hx hb d_Variables_find_30 (by decide) ?_
        cases hF
        exact leafI X hP hD hS d_Variables_find_31
      · have hF := ifn hF c_1
        refine lv_aload_n hx hb d_Variables_find_11 rfl (lv_at hl 0 rfl) ?_
        refine va_get (D := (dC, dI)) (ci := 4) (v := .ref (ad 16)) hx hb hts i_Variables hown hK hP 4 rfl rfl 2 (by decide) (hts _ w_8fbb046fbf) (fun _ h9 => h9) rfl d_Variables_find_12 ?_
        refine lv_iload_n hx hb d_Variables_find_15 rfl (lv_at hl 2 rfl) ?_
        obtain ⟨g_2, hF⟩ := gdE hF
        refine va_lald (f := (σ.2.2.2 1)) hx hb hK hP 16 1 rfl rfl (inE g_2) d_Variables_find_16 ?_
        refine lv_lload_n hx hb d_Variables_find_17 rfl (lv_at hl 1 rfl) ?_
        refine W.lcmp hx hb d_Variables_find_18 ?_
        refine lv_if_ne (tgt := 24) hx hb d_Variables_find_19 (by decide) (fun c_3 => ?_) (fun c_3 => ?_)
        · have hF := ifn hF c_3
          refine lv_iinc (v := (x1 + (-1))) (lv' := [(3, .int (x1 + (-1))), (0, .ref (ad 4)), (1, .long y1)]) hx hb d_Variables_find_24 hl (k := 2) rfl rfl (by decide) rfl (fun ls hl => ?_)
          refine lv_goto (tgt := 7) hx hb d_Variables_find_27 (by decide) ?_
          exact ihn σ (x1 + (-1)) y1 H locs ls hF hP hD hS (lv_sub hl [1, 2, 0] rfl)
        · have hF := ifp hF c_3
          refine lv_iload_n hx hb d_Variables_find_22 rfl (lv_at hl 2 rfl) ?_
          cases hF
          exact leafI X hP hD hS d_Variables_find_23
set_option maxHeartbeats 4000000 in
set_option maxRecDepth 100000 in
theorem ct_Variables_find (l : Launch) (dC : Nat → ClassId) (dI : Nat → Nat → Nat) (ad : Nat → Nat) (cA : Nat → ClassId) (sz : Nat) {σ : St} {a1 : Int64} {r : Int32} (hF : tVariables_find σ a1 = some r) : MI l y_Variables_find b_Variables_find 4 (some .int) { frames := 0, cells := 0, slots := 0, locals := 0 } (dC, dI) (ttys cA) ad (tcw ad cA) [.ref (ad 4), .long a1] σ sz r σ := by
  refine startM (own := "TinyForge$Variables") (Qc := fun A => QI (dC, dI) (ttys cA) (tcw ad cA) A r σ) rfl rfl (Nat.le_of_ble_eq_true rfl) ?_
  intro p e s m below meth c A H locs ls X hP hD hS hl
  have hl : lv_has ls 4 [(0, .ref (ad 4)), (1, .long a1)] := hl
  obtain ⟨hx, hb, hr, hml, hown, hlocks, hts, hA, hK, hZ⟩ := id X
  unfold tVariables_find at hF
  refine lv_aload_n hx hb d_Variables_find_0 rfl (lv_at hl 0 rfl) ?_
  refine va_get (D := (dC, dI)) (ci := 4) (v := .int (σ.1 8)) hx hb hts i_Variables hown hK hP 4 rfl rfl 3 (by decide) (hts _ w_c69438b43b) (fun _ h9 => h9) rfl d_Variables_find_1 ?_
  refine lv_iconst (v := 1) hx hb d_Variables_find_4 (by decide) ?_
  refine lv_isub hx hb d_Variables_find_5 ?_
  refine lv_istore_n (lv' := [(3, .int ((σ.1 8) - 1)), (0, .ref (ad 4)), (1, .long a1)]) hx hb d_Variables_find_6 rfl hl (by decide) rfl (fun ls hl => ?_)
  exact (tVariables_find_blk l dC dI ad cA X 2000) σ ((σ.1 8) - 1) a1 H locs ls hF hP hD hS (lv_sub hl [1, 2, 0] rfl)
theorem d_Variables_make_0 : decode b_Variables_make 0 = .ok (.aload_n 0, 1) := by decide +kernel
theorem d_Variables_make_1 : decode b_Variables_make 1 = .ok (.getfield 22, 3) := by decide +kernel
theorem d_Variables_make_4 : decode b_Variables_make 4 = .ok (.iload_n 1, 1) := by decide +kernel
theorem d_Variables_make_5 : decode b_Variables_make 5 = .ok (.invokevirtual 30, 3) := by decide +kernel
theorem d_Variables_make_8 : decode b_Variables_make 8 = .ok (.lstore_n 2, 1) := by decide +kernel
theorem d_Variables_make_9 : decode b_Variables_make 9 = .ok (.aload_n 0, 1) := by decide +kernel
theorem d_Variables_make_10 : decode b_Variables_make 10 = .ok (.getfield 15, 3) := by decide +kernel
theorem d_Variables_make_13 : decode b_Variables_make 13 = .ok (.bipush 12, 2) := by decide +kernel
theorem d_Variables_make_15 : decode b_Variables_make 15 = .ok (.if_icmp .ge 15, 3) := by decide +kernel
theorem d_Variables_make_18 : decode b_Variables_make 18 = .ok (.aload_n 0, 1) := by decide +kernel
theorem d_Variables_make_19 : decode b_Variables_make 19 = .ok (.lload_n 2, 1) := by decide +kernel
theorem d_Variables_make_20 : decode b_Variables_make 20 = .ok (.invokevirtual 36, 3) := by decide +kernel
theorem d_Variables_make_23 : decode b_Variables_make 23 = .ok (.aload_n 0, 1) := by decide +kernel
theorem d_Variables_make_24 : decode b_Variables_make 24 = .ok (.getfield 19, 3) := by decide +kernel
theorem d_Variables_make_27 : decode b_Variables_make 27 = .ok (.if_icmp .lt 20, 3) := by decide +kernel
theorem d_Variables_make_30 : decode b_Variables_make 30 = .ok (.aload_n 0, 1) := by decide +kernel
theorem d_Variables_make_31 : decode b_Variables_make 31 = .ok (.getfield 26, 3) := by decide +kernel
theorem d_Variables_make_34 : decode b_Variables_make 34 = .ok (.aload_n 0, 1) := by decide +kernel
theorem d_Variables_make_35 : decode b_Variables_make 35 = .ok (.getfield 22, 3) := by decide +kernel
theorem d_Variables_make_38 : decode b_Variables_make 38 = .ok (.iload_n 1, 1) := by decide +kernel
theorem d_Variables_make_39 : decode b_Variables_make 39 = .ok (.invokevirtual 40, 3) := by decide +kernel
theorem d_Variables_make_42 : decode b_Variables_make 42 = .ok (.invokevirtual 44, 3) := by decide +kernel
theorem d_Variables_make_45 : decode b_Variables_make 45 = .ok (.iconst 0, 1) := by decide +kernel
theorem d_Variables_make_46 : decode b_Variables_make 46 = .ok (.ireturn, 1) := by decide +kernel
theorem d_Variables_make_47 : decode b_Variables_make 47 = .ok (.aload_n 0, 1) := by decide +kernel
theorem d_Variables_make_48 : decode b_Variables_make 48 = .ok (.getfield 9, 3) := by decide +kernel
theorem d_Variables_make_51 : decode b_Variables_make 51 = .ok (.aload_n 0, 1) := by decide +kernel
theorem d_Variables_make_52 : decode b_Variables_make 52 = .ok (.getfield 15, 3) := by decide +kernel
theorem d_Variables_make_55 : decode b_Variables_make 55 = .ok (.lload_n 2, 1) := by decide +kernel
theorem d_Variables_make_56 : decode b_Variables_make 56 = .ok (.lastore, 1) := by decide +kernel
theorem d_Variables_make_57 : decode b_Variables_make 57 = .ok (.aload_n 0, 1) := by decide +kernel
theorem d_Variables_make_58 : decode b_Variables_make 58 = .ok (.dup, 1) := by decide +kernel
theorem d_Variables_make_59 : decode b_Variables_make 59 = .ok (.getfield 15, 3) := by decide +kernel
theorem d_Variables_make_62 : decode b_Variables_make 62 = .ok (.iconst 1, 1) := by decide +kernel
theorem d_Variables_make_63 : decode b_Variables_make 63 = .ok (.iadd, 1) := by decide +kernel
theorem d_Variables_make_64 : decode b_Variables_make 64 = .ok (.putfield 15, 3) := by decide +kernel
theorem d_Variables_make_67 : decode b_Variables_make 67 = .ok (.aload_n 0, 1) := by decide +kernel
theorem d_Variables_make_68 : decode b_Variables_make 68 = .ok (.getfield 15, 3) := by decide +kernel
theorem d_Variables_make_71 : decode b_Variables_make 71 = .ok (.iconst 1, 1) := by decide +kernel
theorem d_Variables_make_72 : decode b_Variables_make 72 = .ok (.isub, 1) := by decide +kernel
theorem d_Variables_make_73 : decode b_Variables_make 73 = .ok (.ireturn, 1) := by decide +kernel
def tVariables_make_b1 (k : Nat → St → Int32 → Option (Int32 × St)) (σ : St) (x1 : Int32) : Option (Int32 × St) := b1 (tTokens_placeOf σ x1) (fun r6 => b1 (tRefusal_blameName σ r6) (fun u7 => some (0, u7)))
def tVariables_make_L : Nat → Nat → St → Int32 → Option (Int32 × St)
  | 0, _, _, _ => none
  | n + 1, lab, σ, x1 => match lab with
    | 1 => tVariables_make_b1 (tVariables_make_L n) σ x1
    | _ => none
def tVariables_make (σ : St) (a1 : Int32) : Option (Int32 × St) := b1 (tTokens_valueOf σ a1) (fun r1 => if (12 : Int32) ≤ (σ.1 8) then tVariables_make_L 2000 1 σ a1 else b1 (tVariables_find σ r1) (fun r3 => if r3 < (σ.1 9) then gd (inB (σ.1 8) 12) (some ((((σ.1 8) + 1) - 1), (sI (sL σ 1 (vp_updL (σ.2.2.2 1) (σ.1 8).toNatClampNeg r1)) 8 ((σ.1 8) + 1)))) else tVariables_make_L 2000 1 σ a1))
set_option maxHeartbeats 4000000 in
set_option maxRecDepth 100000 in
theorem tVariables_make_blk {p : Program} {e : Env} {s : State} {m : MethodId} {args : Array Value} {below : List Frame} {meth : Method} {c : Code} {A : Nat → Prop} (l : Launch) (dC : Nat → ClassId) (dI : Nat → Nat → Nat) (ad : Nat → Nat) (cA : Nat → ClassId) {r : Int32} {σ' : St} (X : Cx p s m args meth c b_Variables_make 4 (some .int) "TinyForge$Variables" (dC, dI) (ttys cA) ad A) : ∀ n : Nat, (∀ (σ : St) (x1 : Int32) (H : Heap) (locs : List Loc) (ls : Array Slot), tVariables_make_L n 1 σ x1 = some (r, σ') → va_P (dC, dI) vwCl (tcw ad cA σ) H → va_D A (tcw ad cA σ) → va_S A s.heap H locs → lv_has ls 4 [(0, .ref (ad 4)), (1, .int x1)] → W p l e { frames := 1, cells := 0, slots := 0, locals := 23 } s m args below meth c H locs 0 0 (MQ below (QI (dC, dI) (ttys cA) (tcw ad cA) A r σ') args s 0 0 A) (F0 m 30 ls [])) := by
  obtain ⟨hx, hb, hr, hml, hown, hlocks, hts, hA, hK, hZ⟩ := id X
  intro n
  induction n with
  | zero => exact (fun σ x1 H locs ls hF => by cases hF)
  | succ n ihn =>
    refine fun σ x1 H locs ls hF hP hD hS hl => ?_
    · have hF : tVariables_make_b1 (tVariables_make_L n) σ x1 = some (r, σ') := hF
      unfold tVariables_make_b1 at hF
      refine lv_aload_n hx hb d_Variables_make_30 rfl (lv_at hl 0 rfl) ?_
      refine va_get (D := (dC, dI)) (ci := 4) (v := .ref (ad 1)) hx hb hts i_Variables hown hK hP 4 rfl rfl 1 (by decide) (hts _ w_050468739d) (fun _ h9 => h9) rfl d_Variables_make_31 ?_
      refine lv_aload_n hx hb d_Variables_make_34 rfl (lv_at hl 0 rfl) ?_
      refine va_get (D := (dC, dI)) (ci := 4) (v := .ref (ad 2)) hx hb hts i_Variables hown hK hP 4 rfl rfl 0 (by decide) (hts _ w_a799fe2caf) (fun _ h9 => h9) rfl d_Variables_make_35 ?_
      refine lv_iload_n hx hb d_Variables_make_38 rfl (lv_at hl 1 rfl) ?_
      obtain ⟨r6, h6, hF⟩ := b1E hF
      refine callVI (As := [.int x1]) X (ct_Tokens_placeOf l dC dI ad cA H.size h6) lk_Variables_40 ⟨rfl, rfl, by decide, by decide⟩ 2 rfl rfl hP hD hS hl.1 rfl rfl (Nat.le_of_ble_eq_true rfl) d_Variables_make_39 (fun H locs hP hD hS => ?_)
      obtain ⟨u7, h7, hF⟩ := b1E hF
      refine callVV (As := [.int r6]) X (ct_Refusal_blameName l dC dI ad cA H.size h7) lk_Variables_44 ⟨rfl, rfl, by decide, by decide⟩ 1 rfl rfl hP hD hS hl.1 rfl rfl (Nat.le_of_ble_eq_true rfl) d_Variables_make_42 (fun H locs hP hD hS => ?_)
      refine lv_iconst (v := 0) hx hb d_Variables_make_45 (by decide) ?_
      cases hF
      exact leafI X hP hD hS d_Variables_make_46
set_option maxHeartbeats 4000000 in
set_option maxRecDepth 100000 in
theorem ct_Variables_make (l : Launch) (dC : Nat → ClassId) (dI : Nat → Nat → Nat) (ad : Nat → Nat) (cA : Nat → ClassId) (sz : Nat) {σ : St} {a1 : Int32} {r : Int32} {σ' : St} (hF : tVariables_make σ a1 = some (r, σ')) : MI l y_Variables_make b_Variables_make 4 (some .int) { frames := 1, cells := 0, slots := 0, locals := 23 } (dC, dI) (ttys cA) ad (tcw ad cA) [.ref (ad 4), .int a1] σ sz r σ' := by
  refine startM (own := "TinyForge$Variables") (Qc := fun A => QI (dC, dI) (ttys cA) (tcw ad cA) A r σ') rfl rfl (Nat.le_of_ble_eq_true rfl) ?_
  intro p e s m below meth c A H locs ls X hP hD hS hl
  have hl : lv_has ls 4 [(0, .ref (ad 4)), (1, .int a1)] := hl
  obtain ⟨hx, hb, hr, hml, hown, hlocks, hts, hA, hK, hZ⟩ := id X
  unfold tVariables_make at hF
  refine lv_aload_n hx hb d_Variables_make_0 rfl (lv_at hl 0 rfl) ?_
  refine va_get (D := (dC, dI)) (ci := 4) (v := .ref (ad 2)) hx hb hts i_Variables hown hK hP 4 rfl rfl 0 (by decide) (hts _ w_a799fe2caf) (fun _ h9 => h9) rfl d_Variables_make_1 ?_
  refine lv_iload_n hx hb d_Variables_make_4 rfl (lv_at hl 1 rfl) ?_
  obtain ⟨r1, h1, hF⟩ := b1E hF
  refine callVJ (As := [.int a1]) X (ct_Tokens_valueOf l dC dI ad cA H.size h1) lk_Variables_30 ⟨rfl, rfl, by decide, by decide⟩ 2 rfl rfl hP hD hS hl.1 rfl rfl (Nat.le_of_ble_eq_true rfl) d_Variables_make_5 (fun H locs hP hD hS => ?_)
  refine lv_lstore_n (lv' := [(2, .long r1), (0, .ref (ad 4)), (1, .int a1)]) hx hb d_Variables_make_8 rfl hl (by decide) rfl (fun ls hl => ?_)
  refine lv_aload_n hx hb d_Variables_make_9 rfl (lv_at hl 1 rfl) ?_
  refine va_get (D := (dC, dI)) (ci := 4) (v := .int (σ.1 8)) hx hb hts i_Variables hown hK hP 4 rfl rfl 3 (by decide) (hts _ w_c69438b43b) (fun _ h9 => h9) rfl d_Variables_make_10 ?_
  refine lv_bipush (v := 12) hx hb d_Variables_make_13 (by decide) ?_
  refine lv_icmp_ge (tgt := 30) hx hb d_Variables_make_15 (by decide) (fun c_2 => ?_) (fun c_2 => ?_)
  · have hF := ifp hF c_2
    exact (tVariables_make_blk l dC dI ad cA X 2000) σ a1 H locs ls hF hP hD hS (lv_sub hl [1, 2] rfl)
  · have hF := ifn hF c_2
    refine lv_aload_n hx hb d_Variables_make_18 rfl (lv_at hl 1 rfl) ?_
    refine lv_lload_n hx hb d_Variables_make_19 rfl (lv_at hl 0 rfl) ?_
    obtain ⟨r3, h3, hF⟩ := b1E hF
    refine callVI (As := [.long r1]) X (ct_Variables_find l dC dI ad cA H.size h3) lk_Variables_36 ⟨rfl, rfl, by decide, by decide⟩ 4 rfl rfl hP hD hS hl.1 rfl rfl (Nat.le_of_ble_eq_true rfl) d_Variables_make_20 (fun H locs hP hD hS => ?_)
    refine lv_aload_n hx hb d_Variables_make_23 rfl (lv_at hl 1 rfl) ?_
    refine va_get (D := (dC, dI)) (ci := 4) (v := .int (σ.1 9)) hx hb hts i_Variables hown hK hP 4 rfl rfl 4 (by decide) (hts _ w_f0c684baf8) (fun _ h9 => h9) rfl d_Variables_make_24 ?_
    refine lv_icmp_lt (tgt := 47) hx hb d_Variables_make_27 (by decide) (fun c_4 => ?_) (fun c_4 => ?_)
    · have hF := ifp hF c_4
      refine lv_aload_n hx hb d_Variables_make_47 rfl (lv_at hl 1 rfl) ?_
      refine va_get (D := (dC, dI)) (ci := 4) (v := .ref (ad 16)) hx hb hts i_Variables hown hK hP 4 rfl rfl 2 (by decide) (hts _ w_8fbb046fbf) (fun _ h9 => h9) rfl d_Variables_make_48 ?_
      refine lv_aload_n hx hb d_Variables_make_51 rfl (lv_at hl 1 rfl) ?_
      refine va_get (D := (dC, dI)) (ci := 4) (v := .int (σ.1 8)) hx hb hts i_Variables hown hK hP 4 rfl rfl 3 (by decide) (hts _ w_c69438b43b) (fun _ h9 => h9) rfl d_Variables_make_52 ?_
      refine lv_lload_n hx hb d_Variables_make_55 rfl (lv_at hl 0 rfl) ?_
      obtain ⟨g_5, hF⟩ := gdE hF
      refine va_last (f := (σ.2.2.2 1)) hx hb hK hP hD hS 16 1 rfl rfl (inE g_5) d_Variables_make_56 (fun H locs hP hD hS => ?_)
      have hP : va_P (dC, dI) vwCl (tcw ad cA (sL σ 1 (vp_updL (σ.2.2.2 1) (σ.1 8).toNatClampNeg r1))) H := hP
      have hD : va_D A (tcw ad cA (sL σ 1 (vp_updL (σ.2.2.2 1) (σ.1 8).toNatClampNeg r1))) := hD
      refine lv_aload_n hx hb d_Variables_make_57 rfl (lv_at hl 1 rfl) ?_
      refine lv_dup hx hb d_Variables_make_58 rfl ?_
      refine va_get (D := (dC, dI)) (ci := 4) (v := .int (σ.1 8)) hx hb hts i_Variables hown hK hP 4 rfl rfl 3 (by decide) (hts _ w_c69438b43b) (fun _ h9 => h9) rfl d_Variables_make_59 ?_
      refine lv_iconst (v := 1) hx hb d_Variables_make_62 (by decide) ?_
      refine lv_iadd hx hb d_Variables_make_63 ?_
      refine va_put (D := (dC, dI)) (ci := 4) (v := .int ((σ.1 8) + 1)) (ty := .int) hx hb hts i_Variables t_Variables t_Variables_ok n_Variables hown hK hP hD hS 4 rfl rfl 3 (by decide) (hts _ w_c69438b43b) (fun _ h9 => h9) rfl (by decide +kernel) rfl rfl (Nat.le_of_ble_eq_true rfl) d_Variables_make_64 (fun H locs hP hD hS => ?_)
      have hP : va_P (dC, dI) vwCl (tcw ad cA (sI (sL σ 1 (vp_updL (σ.2.2.2 1) (σ.1 8).toNatClampNeg r1)) 8 ((σ.1 8) + 1))) H := hP
      have hD : va_D A (tcw ad cA (sI (sL σ 1 (vp_updL (σ.2.2.2 1) (σ.1 8).toNatClampNeg r1)) 8 ((σ.1 8) + 1))) := hD
      refine lv_aload_n hx hb d_Variables_make_67 rfl (lv_at hl 1 rfl) ?_
      refine va_get (D := (dC, dI)) (ci := 4) (v := .int ((σ.1 8) + 1)) hx hb hts i_Variables hown hK hP 4 rfl rfl 3 (by decide) (hts _ w_c69438b43b) (fun _ h9 => h9) rfl d_Variables_make_68 ?_
      refine lv_iconst (v := 1) hx hb d_Variables_make_71 (by decide) ?_
      refine lv_isub hx hb d_Variables_make_72 ?_
      cases hF
      exact leafI X hP hD hS d_Variables_make_73
    · have hF := ifn hF c_4
      exact (tVariables_make_blk l dC dI ad cA X 2000) σ a1 H locs ls hF hP hD hS (lv_sub hl [1, 2] rfl)
theorem d_Variables_mustNotMake_0 : decode b_Variables_mustNotMake 0 = .ok (.aload_n 0, 1) := by decide +kernel
theorem d_Variables_mustNotMake_1 : decode b_Variables_mustNotMake 1 = .ok (.getfield 26, 3) := by decide +kernel
theorem d_Variables_mustNotMake_4 : decode b_Variables_mustNotMake 4 = .ok (.aload_n 0, 1) := by decide +kernel
theorem d_Variables_mustNotMake_5 : decode b_Variables_mustNotMake 5 = .ok (.getfield 22, 3) := by decide +kernel
theorem d_Variables_mustNotMake_8 : decode b_Variables_mustNotMake 8 = .ok (.iload_n 1, 1) := by decide +kernel
theorem d_Variables_mustNotMake_9 : decode b_Variables_mustNotMake 9 = .ok (.invokevirtual 40, 3) := by decide +kernel
theorem d_Variables_mustNotMake_12 : decode b_Variables_mustNotMake 12 = .ok (.invokevirtual 44, 3) := by decide +kernel
theorem d_Variables_mustNotMake_15 : decode b_Variables_mustNotMake 15 = .ok (.return_, 1) := by decide +kernel
def tVariables_mustNotMake (σ : St) (a1 : Int32) : Option (St) := b1 (tTokens_placeOf σ a1) (fun r1 => b1 (tRefusal_blameName σ r1) (fun u2 => some u2))
set_option maxHeartbeats 4000000 in
set_option maxRecDepth 100000 in
theorem ct_Variables_mustNotMake (l : Launch) (dC : Nat → ClassId) (dI : Nat → Nat → Nat) (ad : Nat → Nat) (cA : Nat → ClassId) (sz : Nat) {σ : St} {a1 : Int32} {σ' : St} (hF : tVariables_mustNotMake σ a1 = some σ') : MV l y_Variables_mustNotMake b_Variables_mustNotMake 2 none { frames := 1, cells := 0, slots := 0, locals := 21 } (dC, dI) (ttys cA) ad (tcw ad cA) [.ref (ad 4), .int a1] σ sz σ' := by
  refine startM (own := "TinyForge$Variables") (Qc := fun A => QV (dC, dI) (ttys cA) (tcw ad cA) A σ') rfl rfl (Nat.le_of_ble_eq_true rfl) ?_
  intro p e s m below meth c A H locs ls X hP hD hS hl
  have hl : lv_has ls 2 [(0, .ref (ad 4)), (1, .int a1)] := hl
  obtain ⟨hx, hb, hr, hml, hown, hlocks, hts, hA, hK, hZ⟩ := id X
  unfold tVariables_mustNotMake at hF
  refine lv_aload_n hx hb d_Variables_mustNotMake_0 rfl (lv_at hl 0 rfl) ?_
  refine va_get (D := (dC, dI)) (ci := 4) (v := .ref (ad 1)) hx hb hts i_Variables hown hK hP 4 rfl rfl 1 (by decide) (hts _ w_050468739d) (fun _ h9 => h9) rfl d_Variables_mustNotMake_1 ?_
  refine lv_aload_n hx hb d_Variables_mustNotMake_4 rfl (lv_at hl 0 rfl) ?_
  refine va_get (D := (dC, dI)) (ci := 4) (v := .ref (ad 2)) hx hb hts i_Variables hown hK hP 4 rfl rfl 0 (by decide) (hts _ w_a799fe2caf) (fun _ h9 => h9) rfl d_Variables_mustNotMake_5 ?_
  refine lv_iload_n hx hb d_Variables_mustNotMake_8 rfl (lv_at hl 1 rfl) ?_
  obtain ⟨r1, h1, hF⟩ := b1E hF
  refine callVI (As := [.int a1]) X (ct_Tokens_placeOf l dC dI ad cA H.size h1) lk_Variables_40 ⟨rfl, rfl, by decide, by decide⟩ 2 rfl rfl hP hD hS hl.1 rfl rfl (Nat.le_of_ble_eq_true rfl) d_Variables_mustNotMake_9 (fun H locs hP hD hS => ?_)
  obtain ⟨u2, h2, hF⟩ := b1E hF
  refine callVV (As := [.int r1]) X (ct_Refusal_blameName l dC dI ad cA H.size h2) lk_Variables_44 ⟨rfl, rfl, by decide, by decide⟩ 1 rfl rfl hP hD hS hl.1 rfl rfl (Nat.le_of_ble_eq_true rfl) d_Variables_mustNotMake_12 (fun H locs hP hD hS => ?_)
  cases hF
  exact leafV X hP hD hS d_Variables_mustNotMake_15
theorem d_Variables_startFunction_0 : decode b_Variables_startFunction 0 = .ok (.aload_n 0, 1) := by decide +kernel
theorem d_Variables_startFunction_1 : decode b_Variables_startFunction 1 = .ok (.iconst 0, 1) := by decide +kernel
theorem d_Variables_startFunction_2 : decode b_Variables_startFunction 2 = .ok (.putfield 15, 3) := by decide +kernel
theorem d_Variables_startFunction_5 : decode b_Variables_startFunction 5 = .ok (.aload_n 0, 1) := by decide +kernel
theorem d_Variables_startFunction_6 : decode b_Variables_startFunction 6 = .ok (.iconst 0, 1) := by decide +kernel
theorem d_Variables_startFunction_7 : decode b_Variables_startFunction 7 = .ok (.putfield 19, 3) := by decide +kernel
theorem d_Variables_startFunction_10 : decode b_Variables_startFunction 10 = .ok (.return_, 1) := by decide +kernel
def tVariables_startFunction (σ : St) : Option (St) := some (sI (sI σ 8 0) 9 0)
set_option maxHeartbeats 4000000 in
set_option maxRecDepth 100000 in
theorem ct_Variables_startFunction (l : Launch) (dC : Nat → ClassId) (dI : Nat → Nat → Nat) (ad : Nat → Nat) (cA : Nat → ClassId) (sz : Nat) {σ : St} {σ' : St} (hF : tVariables_startFunction σ = some σ') : MV l y_Variables_startFunction b_Variables_startFunction 1 none { frames := 0, cells := 0, slots := 0, locals := 0 } (dC, dI) (ttys cA) ad (tcw ad cA) [.ref (ad 4)] σ sz σ' := by
  refine startM (own := "TinyForge$Variables") (Qc := fun A => QV (dC, dI) (ttys cA) (tcw ad cA) A σ') rfl rfl (Nat.le_of_ble_eq_true rfl) ?_
  intro p e s m below meth c A H locs ls X hP hD hS hl
  have hl : lv_has ls 1 [(0, .ref (ad 4))] := hl
  obtain ⟨hx, hb, hr, hml, hown, hlocks, hts, hA, hK, hZ⟩ := id X
  unfold tVariables_startFunction at hF
  refine lv_aload_n hx hb d_Variables_startFunction_0 rfl (lv_at hl 0 rfl) ?_
  refine lv_iconst (v := 0) hx hb d_Variables_startFunction_1 (by decide) ?_
  refine va_put (D := (dC, dI)) (ci := 4) (v := .int 0) (ty := .int) hx hb hts i_Variables t_Variables t_Variables_ok n_Variables hown hK hP hD hS 4 rfl rfl 3 (by decide) (hts _ w_c69438b43b) (fun _ h9 => h9) rfl (by decide +kernel) rfl rfl (Nat.le_of_ble_eq_true rfl) d_Variables_startFunction_2 (fun H locs hP hD hS => ?_)
  have hP : va_P (dC, dI) vwCl (tcw ad cA (sI σ 8 0)) H := hP
  have hD : va_D A (tcw ad cA (sI σ 8 0)) := hD
  refine lv_aload_n hx hb d_Variables_startFunction_5 rfl (lv_at hl 0 rfl) ?_
  refine lv_iconst (v := 0) hx hb d_Variables_startFunction_6 (by decide) ?_
  refine va_put (D := (dC, dI)) (ci := 4) (v := .int 0) (ty := .int) hx hb hts i_Variables t_Variables t_Variables_ok n_Variables hown hK hP hD hS 4 rfl rfl 4 (by decide) (hts _ w_f0c684baf8) (fun _ h9 => h9) rfl (by decide +kernel) rfl rfl (Nat.le_of_ble_eq_true rfl) d_Variables_startFunction_7 (fun H locs hP hD hS => ?_)
  have hP : va_P (dC, dI) vwCl (tcw ad cA (sI (sI σ 8 0) 9 0)) H := hP
  have hD : va_D A (tcw ad cA (sI (sI σ 8 0) 9 0)) := hD
  cases hF
  exact leafV X hP hD hS d_Variables_startFunction_10
theorem d_Variables_endBlock_0 : decode b_Variables_endBlock 0 = .ok (.aload_n 0, 1) := by decide +kernel
theorem d_Variables_endBlock_1 : decode b_Variables_endBlock 1 = .ok (.aload_n 0, 1) := by decide +kernel
theorem d_Variables_endBlock_2 : decode b_Variables_endBlock 2 = .ok (.getfield 19, 3) := by decide +kernel
theorem d_Variables_endBlock_5 : decode b_Variables_endBlock 5 = .ok (.putfield 15, 3) := by decide +kernel
theorem d_Variables_endBlock_8 : decode b_Variables_endBlock 8 = .ok (.aload_n 0, 1) := by decide +kernel
theorem d_Variables_endBlock_9 : decode b_Variables_endBlock 9 = .ok (.iload_n 1, 1) := by decide +kernel
theorem d_Variables_endBlock_10 : decode b_Variables_endBlock 10 = .ok (.putfield 19, 3) := by decide +kernel
theorem d_Variables_endBlock_13 : decode b_Variables_endBlock 13 = .ok (.return_, 1) := by decide +kernel
def tVariables_endBlock (σ : St) (a1 : Int32) : Option (St) := some (sI (sI σ 8 (σ.1 9)) 9 a1)
set_option maxHeartbeats 4000000 in
set_option maxRecDepth 100000 in
theorem ct_Variables_endBlock (l : Launch) (dC : Nat → ClassId) (dI : Nat → Nat → Nat) (ad : Nat → Nat) (cA : Nat → ClassId) (sz : Nat) {σ : St} {a1 : Int32} {σ' : St} (hF : tVariables_endBlock σ a1 = some σ') : MV l y_Variables_endBlock b_Variables_endBlock 2 none { frames := 0, cells := 0, slots := 0, locals := 0 } (dC, dI) (ttys cA) ad (tcw ad cA) [.ref (ad 4), .int a1] σ sz σ' := by
  refine startM (own := "TinyForge$Variables") (Qc := fun A => QV (dC, dI) (ttys cA) (tcw ad cA) A σ') rfl rfl (Nat.le_of_ble_eq_true rfl) ?_
  intro p e s m below meth c A H locs ls X hP hD hS hl
  have hl : lv_has ls 2 [(0, .ref (ad 4)), (1, .int a1)] := hl
  obtain ⟨hx, hb, hr, hml, hown, hlocks, hts, hA, hK, hZ⟩ := id X
  unfold tVariables_endBlock at hF
  refine lv_aload_n hx hb d_Variables_endBlock_0 rfl (lv_at hl 0 rfl) ?_
  refine lv_aload_n hx hb d_Variables_endBlock_1 rfl (lv_at hl 0 rfl) ?_
  refine va_get (D := (dC, dI)) (ci := 4) (v := .int (σ.1 9)) hx hb hts i_Variables hown hK hP 4 rfl rfl 4 (by decide) (hts _ w_f0c684baf8) (fun _ h9 => h9) rfl d_Variables_endBlock_2 ?_
  refine va_put (D := (dC, dI)) (ci := 4) (v := .int (σ.1 9)) (ty := .int) hx hb hts i_Variables t_Variables t_Variables_ok n_Variables hown hK hP hD hS 4 rfl rfl 3 (by decide) (hts _ w_c69438b43b) (fun _ h9 => h9) rfl (by decide +kernel) rfl rfl (Nat.le_of_ble_eq_true rfl) d_Variables_endBlock_5 (fun H locs hP hD hS => ?_)
  have hP : va_P (dC, dI) vwCl (tcw ad cA (sI σ 8 (σ.1 9))) H := hP
  have hD : va_D A (tcw ad cA (sI σ 8 (σ.1 9))) := hD
  refine lv_aload_n hx hb d_Variables_endBlock_8 rfl (lv_at hl 0 rfl) ?_
  refine lv_iload_n hx hb d_Variables_endBlock_9 rfl (lv_at hl 1 rfl) ?_
  refine va_put (D := (dC, dI)) (ci := 4) (v := .int a1) (ty := .int) hx hb hts i_Variables t_Variables t_Variables_ok n_Variables hown hK hP hD hS 4 rfl rfl 4 (by decide) (hts _ w_f0c684baf8) (fun _ h9 => h9) rfl (by decide +kernel) rfl rfl (Nat.le_of_ble_eq_true rfl) d_Variables_endBlock_10 (fun H locs hP hD hS => ?_)
  have hP : va_P (dC, dI) vwCl (tcw ad cA (sI (sI σ 8 (σ.1 9)) 9 a1)) H := hP
  have hD : va_D A (tcw ad cA (sI (sI σ 8 (σ.1 9)) 9 a1)) := hD
  cases hF
  exact leafV X hP hD hS d_Variables_endBlock_13
theorem d_Variables_startBlock_0 : decode b_Variables_startBlock 0 = .ok (.aload_n 0, 1) := by decide +kernel
theorem d_Variables_startBlock_1 : decode b_Variables_startBlock 1 = .ok (.getfield 19, 3) := by decide +kernel
theorem d_Variables_startBlock_4 : decode b_Variables_startBlock 4 = .ok (.istore_n 1, 1) := by decide +kernel
theorem d_Variables_startBlock_5 : decode b_Variables_startBlock 5 = .ok (.aload_n 0, 1) := by decide +kernel
theorem d_Variables_startBlock_6 : decode b_Variables_startBlock 6 = .ok (.aload_n 0, 1) := by decide +kernel
theorem d_Variables_startBlock_7 : decode b_Variables_startBlock 7 = .ok (.getfield 15, 3) := by decide +kernel
theorem d_Variables_startBlock_10 : decode b_Variables_startBlock 10 = .ok (.putfield 19, 3) := by decide +kernel
theorem d_Variables_startBlock_13 : decode b_Variables_startBlock 13 = .ok (.iload_n 1, 1) := by decide +kernel
theorem d_Variables_startBlock_14 : decode b_Variables_startBlock 14 = .ok (.ireturn, 1) := by decide +kernel
def tVariables_startBlock (σ : St) : Option (Int32 × St) := some ((σ.1 9), (sI σ 9 (σ.1 8)))
set_option maxHeartbeats 4000000 in
set_option maxRecDepth 100000 in
theorem ct_Variables_startBlock (l : Launch) (dC : Nat → ClassId) (dI : Nat → Nat → Nat) (ad : Nat → Nat) (cA : Nat → ClassId) (sz : Nat) {σ : St} {r : Int32} {σ' : St} (hF : tVariables_startBlock σ = some (r, σ')) : MI l y_Variables_startBlock b_Variables_startBlock 2 (some .int) { frames := 0, cells := 0, slots := 0, locals := 0 } (dC, dI) (ttys cA) ad (tcw ad cA) [.ref (ad 4)] σ sz r σ' := by
  refine startM (own := "TinyForge$Variables") (Qc := fun A => QI (dC, dI) (ttys cA) (tcw ad cA) A r σ') rfl rfl (Nat.le_of_ble_eq_true rfl) ?_
  intro p e s m below meth c A H locs ls X hP hD hS hl
  have hl : lv_has ls 2 [(0, .ref (ad 4))] := hl
  obtain ⟨hx, hb, hr, hml, hown, hlocks, hts, hA, hK, hZ⟩ := id X
  unfold tVariables_startBlock at hF
  refine lv_aload_n hx hb d_Variables_startBlock_0 rfl (lv_at hl 0 rfl) ?_
  refine va_get (D := (dC, dI)) (ci := 4) (v := .int (σ.1 9)) hx hb hts i_Variables hown hK hP 4 rfl rfl 4 (by decide) (hts _ w_f0c684baf8) (fun _ h9 => h9) rfl d_Variables_startBlock_1 ?_
  refine lv_istore_n (lv' := [(1, .int (σ.1 9)), (0, .ref (ad 4))]) hx hb d_Variables_startBlock_4 rfl hl (by decide) rfl (fun ls hl => ?_)
  refine lv_aload_n hx hb d_Variables_startBlock_5 rfl (lv_at hl 1 rfl) ?_
  refine lv_aload_n hx hb d_Variables_startBlock_6 rfl (lv_at hl 1 rfl) ?_
  refine va_get (D := (dC, dI)) (ci := 4) (v := .int (σ.1 8)) hx hb hts i_Variables hown hK hP 4 rfl rfl 3 (by decide) (hts _ w_c69438b43b) (fun _ h9 => h9) rfl d_Variables_startBlock_7 ?_
  refine va_put (D := (dC, dI)) (ci := 4) (v := .int (σ.1 8)) (ty := .int) hx hb hts i_Variables t_Variables t_Variables_ok n_Variables hown hK hP hD hS 4 rfl rfl 4 (by decide) (hts _ w_f0c684baf8) (fun _ h9 => h9) rfl (by decide +kernel) rfl rfl (Nat.le_of_ble_eq_true rfl) d_Variables_startBlock_10 (fun H locs hP hD hS => ?_)
  have hP : va_P (dC, dI) vwCl (tcw ad cA (sI σ 9 (σ.1 8))) H := hP
  have hD : va_D A (tcw ad cA (sI σ 9 (σ.1 8))) := hD
  refine lv_iload_n hx hb d_Variables_startBlock_13 rfl (lv_at hl 0 rfl) ?_
  cases hF
  exact leafI X hP hD hS d_Variables_startBlock_14
theorem d_Variables_mustNotHide_0 : decode b_Variables_mustNotHide 0 = .ok (.aload_n 0, 1) := by decide +kernel
theorem d_Variables_mustNotHide_1 : decode b_Variables_mustNotHide 1 = .ok (.aload_n 0, 1) := by decide +kernel
theorem d_Variables_mustNotHide_2 : decode b_Variables_mustNotHide 2 = .ok (.getfield 22, 3) := by decide +kernel
theorem d_Variables_mustNotHide_5 : decode b_Variables_mustNotHide 5 = .ok (.iload_n 1, 1) := by decide +kernel
theorem d_Variables_mustNotHide_6 : decode b_Variables_mustNotHide 6 = .ok (.invokevirtual 30, 3) := by decide +kernel
theorem d_Variables_mustNotHide_9 : decode b_Variables_mustNotHide 9 = .ok (.invokevirtual 36, 3) := by decide +kernel
theorem d_Variables_mustNotHide_12 : decode b_Variables_mustNotHide 12 = .ok (.ifCond .lt 18, 3) := by decide +kernel
theorem d_Variables_mustNotHide_15 : decode b_Variables_mustNotHide 15 = .ok (.aload_n 0, 1) := by decide +kernel
theorem d_Variables_mustNotHide_16 : decode b_Variables_mustNotHide 16 = .ok (.getfield 26, 3) := by decide +kernel
theorem d_Variables_mustNotHide_19 : decode b_Variables_mustNotHide 19 = .ok (.aload_n 0, 1) := by decide +kernel
theorem d_Variables_mustNotHide_20 : decode b_Variables_mustNotHide 20 = .ok (.getfield 22, 3) := by decide +kernel
theorem d_Variables_mustNotHide_23 : decode b_Variables_mustNotHide 23 = .ok (.iload_n 1, 1) := by decide +kernel
theorem d_Variables_mustNotHide_24 : decode b_Variables_mustNotHide 24 = .ok (.invokevirtual 40, 3) := by decide +kernel
theorem d_Variables_mustNotHide_27 : decode b_Variables_mustNotHide 27 = .ok (.invokevirtual 44, 3) := by decide +kernel
theorem d_Variables_mustNotHide_30 : decode b_Variables_mustNotHide 30 = .ok (.return_, 1) := by decide +kernel
def tVariables_mustNotHide (σ : St) (a1 : Int32) : Option (St) := b1 (tTokens_valueOf σ a1) (fun r1 => b1 (tVariables_find σ r1) (fun r2 => if r2 < 0 then some σ else b1 (tTokens_placeOf σ a1) (fun r4 => b1 (tRefusal_blameName σ r4) (fun u5 => some u5))))
set_option maxHeartbeats 4000000 in
set_option maxRecDepth 100000 in
theorem ct_Variables_mustNotHide (l : Launch) (dC : Nat → ClassId) (dI : Nat → Nat → Nat) (ad : Nat → Nat) (cA : Nat → ClassId) (sz : Nat) {σ : St} {a1 : Int32} {σ' : St} (hF : tVariables_mustNotHide σ a1 = some σ') : MV l y_Variables_mustNotHide b_Variables_mustNotHide 2 none { frames := 1, cells := 0, slots := 0, locals := 23 } (dC, dI) (ttys cA) ad (tcw ad cA) [.ref (ad 4), .int a1] σ sz σ' := by
  refine startM (own := "TinyForge$Variables") (Qc := fun A => QV (dC, dI) (ttys cA) (tcw ad cA) A σ') rfl rfl (Nat.le_of_ble_eq_true rfl) ?_
  intro p e s m below meth c A H locs ls X hP hD hS hl
  have hl : lv_has ls 2 [(0, .ref (ad 4)), (1, .int a1)] := hl
  obtain ⟨hx, hb, hr, hml, hown, hlocks, hts, hA, hK, hZ⟩ := id X
  unfold tVariables_mustNotHide at hF
  refine lv_aload_n hx hb d_Variables_mustNotHide_0 rfl (lv_at hl 0 rfl) ?_
  refine lv_aload_n hx hb d_Variables_mustNotHide_1 rfl (lv_at hl 0 rfl) ?_
  refine va_get (D := (dC, dI)) (ci := 4) (v := .ref (ad 2)) hx hb hts i_Variables hown hK hP 4 rfl rfl 0 (by decide) (hts _ w_a799fe2caf) (fun _ h9 => h9) rfl d_Variables_mustNotHide_2 ?_
  refine lv_iload_n hx hb d_Variables_mustNotHide_5 rfl (lv_at hl 1 rfl) ?_
  obtain ⟨r1, h1, hF⟩ := b1E hF
  refine callVJ (As := [.int a1]) X (ct_Tokens_valueOf l dC dI ad cA H.size h1) lk_Variables_30 ⟨rfl, rfl, by decide, by decide⟩ 2 rfl rfl hP hD hS hl.1 rfl rfl (Nat.le_of_ble_eq_true rfl) d_Variables_mustNotHide_6 (fun H locs hP hD hS => ?_)
  obtain ⟨r2, h2, hF⟩ := b1E hF
  refine callVI (As := [.long r1]) X (ct_Variables_find l dC dI ad cA H.size h2) lk_Variables_36 ⟨rfl, rfl, by decide, by decide⟩ 4 rfl rfl hP hD hS hl.1 rfl rfl (Nat.le_of_ble_eq_true rfl) d_Variables_mustNotHide_9 (fun H locs hP hD hS => ?_)
  refine lv_if_lt (tgt := 30) hx hb d_Variables_mustNotHide_12 (by decide) (fun c_3 => ?_) (fun c_3 => ?_)
  · have hF := ifp hF c_3
    cases hF
    exact leafV X hP hD hS d_Variables_mustNotHide_30
  · have hF := ifn hF c_3
    refine lv_aload_n hx hb d_Variables_mustNotHide_15 rfl (lv_at hl 0 rfl) ?_
    refine va_get (D := (dC, dI)) (ci := 4) (v := .ref (ad 1)) hx hb hts i_Variables hown hK hP 4 rfl rfl 1 (by decide) (hts _ w_050468739d) (fun _ h9 => h9) rfl d_Variables_mustNotHide_16 ?_
    refine lv_aload_n hx hb d_Variables_mustNotHide_19 rfl (lv_at hl 0 rfl) ?_
    refine va_get (D := (dC, dI)) (ci := 4) (v := .ref (ad 2)) hx hb hts i_Variables hown hK hP 4 rfl rfl 0 (by decide) (hts _ w_a799fe2caf) (fun _ h9 => h9) rfl d_Variables_mustNotHide_20 ?_
    refine lv_iload_n hx hb d_Variables_mustNotHide_23 rfl (lv_at hl 1 rfl) ?_
    obtain ⟨r4, h4, hF⟩ := b1E hF
    refine callVI (As := [.int a1]) X (ct_Tokens_placeOf l dC dI ad cA H.size h4) lk_Variables_40 ⟨rfl, rfl, by decide, by decide⟩ 2 rfl rfl hP hD hS hl.1 rfl rfl (Nat.le_of_ble_eq_true rfl) d_Variables_mustNotHide_24 (fun H locs hP hD hS => ?_)
    obtain ⟨u5, h5, hF⟩ := b1E hF
    refine callVV (As := [.int r4]) X (ct_Refusal_blameName l dC dI ad cA H.size h5) lk_Variables_44 ⟨rfl, rfl, by decide, by decide⟩ 1 rfl rfl hP hD hS hl.1 rfl rfl (Nat.le_of_ble_eq_true rfl) d_Variables_mustNotHide_27 (fun H locs hP hD hS => ?_)
    cases hF
    exact leafV X hP hD hS d_Variables_mustNotHide_30
theorem d_Variables_use_0 : decode b_Variables_use 0 = .ok (.aload_n 0, 1) := by decide +kernel
theorem d_Variables_use_1 : decode b_Variables_use 1 = .ok (.aload_n 0, 1) := by decide +kernel
theorem d_Variables_use_2 : decode b_Variables_use 2 = .ok (.getfield 22, 3) := by decide +kernel
theorem d_Variables_use_5 : decode b_Variables_use 5 = .ok (.iload_n 1, 1) := by decide +kernel
theorem d_Variables_use_6 : decode b_Variables_use 6 = .ok (.invokevirtual 30, 3) := by decide +kernel
theorem d_Variables_use_9 : decode b_Variables_use 9 = .ok (.invokevirtual 36, 3) := by decide +kernel
theorem d_Variables_use_12 : decode b_Variables_use 12 = .ok (.istore_n 2, 1) := by decide +kernel
theorem d_Variables_use_13 : decode b_Variables_use 13 = .ok (.iload_n 2, 1) := by decide +kernel
theorem d_Variables_use_14 : decode b_Variables_use 14 = .ok (.ifCond .ge 20, 3) := by decide +kernel
theorem d_Variables_use_17 : decode b_Variables_use 17 = .ok (.aload_n 0, 1) := by decide +kernel
theorem d_Variables_use_18 : decode b_Variables_use 18 = .ok (.getfield 26, 3) := by decide +kernel
theorem d_Variables_use_21 : decode b_Variables_use 21 = .ok (.aload_n 0, 1) := by decide +kernel
theorem d_Variables_use_22 : decode b_Variables_use 22 = .ok (.getfield 22, 3) := by decide +kernel
theorem d_Variables_use_25 : decode b_Variables_use 25 = .ok (.iload_n 1, 1) := by decide +kernel
theorem d_Variables_use_26 : decode b_Variables_use 26 = .ok (.invokevirtual 40, 3) := by decide +kernel
theorem d_Variables_use_29 : decode b_Variables_use 29 = .ok (.invokevirtual 44, 3) := by decide +kernel
theorem d_Variables_use_32 : decode b_Variables_use 32 = .ok (.iconst 0, 1) := by decide +kernel
theorem d_Variables_use_33 : decode b_Variables_use 33 = .ok (.ireturn, 1) := by decide +kernel
theorem d_Variables_use_34 : decode b_Variables_use 34 = .ok (.iload_n 2, 1) := by decide +kernel
theorem d_Variables_use_35 : decode b_Variables_use 35 = .ok (.ireturn, 1) := by decide +kernel
def tVariables_use (σ : St) (a1 : Int32) : Option (Int32 × St) := b1 (tTokens_valueOf σ a1) (fun r1 => b1 (tVariables_find σ r1) (fun r2 => if (0 : Int32) ≤ r2 then some (r2, σ) else b1 (tTokens_placeOf σ a1) (fun r4 => b1 (tRefusal_blameName σ r4) (fun u5 => some (0, u5)))))
set_option maxHeartbeats 4000000 in
set_option maxRecDepth 100000 in
theorem ct_Variables_use (l : Launch) (dC : Nat → ClassId) (dI : Nat → Nat → Nat) (ad : Nat → Nat) (cA : Nat → ClassId) (sz : Nat) {σ : St} {a1 : Int32} {r : Int32} {σ' : St} (hF : tVariables_use σ a1 = some (r, σ')) : MI l y_Variables_use b_Variables_use 3 (some .int) { frames := 1, cells := 0, slots := 0, locals := 23 } (dC, dI) (ttys cA) ad (tcw ad cA) [.ref (ad 4), .int a1] σ sz r σ' := by
  refine startM (own := "TinyForge$Variables") (Qc := fun A => QI (dC, dI) (ttys cA) (tcw ad cA) A r σ') rfl rfl (Nat.le_of_ble_eq_true rfl) ?_
  intro p e s m below meth c A H locs ls X hP hD hS hl
  have hl : lv_has ls 3 [(0, .ref (ad 4)), (1, .int a1)] := hl
  obtain ⟨hx, hb, hr, hml, hown, hlocks, hts, hA, hK, hZ⟩ := id X
  unfold tVariables_use at hF
  refine lv_aload_n hx hb d_Variables_use_0 rfl (lv_at hl 0 rfl) ?_
  refine lv_aload_n hx hb d_Variables_use_1 rfl (lv_at hl 0 rfl) ?_
  refine va_get (D := (dC, dI)) (ci := 4) (v := .ref (ad 2)) hx hb hts i_Variables hown hK hP 4 rfl rfl 0 (by decide) (hts _ w_a799fe2caf) (fun _ h9 => h9) rfl d_Variables_use_2 ?_
  refine lv_iload_n hx hb d_Variables_use_5 rfl (lv_at hl 1 rfl) ?_
  obtain ⟨r1, h1, hF⟩ := b1E hF
  refine callVJ (As := [.int a1]) X (ct_Tokens_valueOf l dC dI ad cA H.size h1) lk_Variables_30 ⟨rfl, rfl, by decide, by decide⟩ 2 rfl rfl hP hD hS hl.1 rfl rfl (Nat.le_of_ble_eq_true rfl) d_Variables_use_6 (fun H locs hP hD hS => ?_)
  obtain ⟨r2, h2, hF⟩ := b1E hF
  refine callVI (As := [.long r1]) X (ct_Variables_find l dC dI ad cA H.size h2) lk_Variables_36 ⟨rfl, rfl, by decide, by decide⟩ 4 rfl rfl hP hD hS hl.1 rfl rfl (Nat.le_of_ble_eq_true rfl) d_Variables_use_9 (fun H locs hP hD hS => ?_)
  refine lv_istore_n (lv' := [(2, .int r2), (0, .ref (ad 4)), (1, .int a1)]) hx hb d_Variables_use_12 rfl hl (by decide) rfl (fun ls hl => ?_)
  refine lv_iload_n hx hb d_Variables_use_13 rfl (lv_at hl 0 rfl) ?_
  refine lv_if_ge (tgt := 34) hx hb d_Variables_use_14 (by decide) (fun c_3 => ?_) (fun c_3 => ?_)
  · have hF := ifp hF c_3
    refine lv_iload_n hx hb d_Variables_use_34 rfl (lv_at hl 0 rfl) ?_
    cases hF
    exact leafI X hP hD hS d_Variables_use_35
  · have hF := ifn hF c_3
    refine lv_aload_n hx hb d_Variables_use_17 rfl (lv_at hl 1 rfl) ?_
    refine va_get (D := (dC, dI)) (ci := 4) (v := .ref (ad 1)) hx hb hts i_Variables hown hK hP 4 rfl rfl 1 (by decide) (hts _ w_050468739d) (fun _ h9 => h9) rfl d_Variables_use_18 ?_
    refine lv_aload_n hx hb d_Variables_use_21 rfl (lv_at hl 1 rfl) ?_
    refine va_get (D := (dC, dI)) (ci := 4) (v := .ref (ad 2)) hx hb hts i_Variables hown hK hP 4 rfl rfl 0 (by decide) (hts _ w_a799fe2caf) (fun _ h9 => h9) rfl d_Variables_use_22 ?_
    refine lv_iload_n hx hb d_Variables_use_25 rfl (lv_at hl 2 rfl) ?_
    obtain ⟨r4, h4, hF⟩ := b1E hF
    refine callVI (As := [.int a1]) X (ct_Tokens_placeOf l dC dI ad cA H.size h4) lk_Variables_40 ⟨rfl, rfl, by decide, by decide⟩ 2 rfl rfl hP hD hS hl.1 rfl rfl (Nat.le_of_ble_eq_true rfl) d_Variables_use_26 (fun H locs hP hD hS => ?_)
    obtain ⟨u5, h5, hF⟩ := b1E hF
    refine callVV (As := [.int r4]) X (ct_Refusal_blameName l dC dI ad cA H.size h5) lk_Variables_44 ⟨rfl, rfl, by decide, by decide⟩ 1 rfl rfl hP hD hS hl.1 rfl rfl (Nat.le_of_ble_eq_true rfl) d_Variables_use_29 (fun H locs hP hD hS => ?_)
    refine lv_iconst (v := 0) hx hb d_Variables_use_32 (by decide) ?_
    cases hF
    exact leafI X hP hD hS d_Variables_use_33
