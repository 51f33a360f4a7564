theorem d_Refusal_isNone_0 : decode b_Refusal_isNone 0 = .ok (.aload_n 0, 1) := by decide +kernel
theorem d_Refusal_isNone_1 : decode b_Refusal_isNone 1 = .ok (.getfield 9, 3) := by decide +kernel
theorem d_Refusal_isNone_4 : decode b_Refusal_isNone 4 = .ok (.ifCond .ne 7, 3) := by decide +kernel
theorem d_Refusal_isNone_7 : decode b_Refusal_isNone 7 = .ok (.iconst 1, 1) := by decide +kernel
theorem d_Refusal_isNone_8 : decode b_Refusal_isNone 8 = .ok (.goto 4, 3) := by decide +kernel
theorem d_Refusal_isNone_11 : decode b_Refusal_isNone 11 = .ok (.iconst 0, 1) := by decide +kernel
theorem d_Refusal_isNone_12 : decode b_Refusal_isNone 12 = .ok (.ireturn, 1) := by decide +kernel
def tRefusal_isNone (σ : St) : Option (Int32) := if (σ.1 1) = 0 then some 1 else some 0
set_option maxHeartbeats 4000000 in
set_option maxRecDepth 100000 in
theorem ct_Refusal_isNone (l : Launch) (dC : Nat → ClassId) (dI : Nat → Nat → Nat) (ad : Nat → Nat) (cA : Nat → ClassId) (sz : Nat) {σ : St} {r : Int32} (hF : tRefusal_isNone σ = some r) : MI l y_Refusal_isNone b_Refusal_isNone 1 (some .boolean) { frames := 0, cells := 0, slots := 0, locals := 0 } (dC, dI) (ttys cA) ad (tcw ad cA) [.ref (ad 1)] σ sz r σ := by
  refine startM (own := "TinyForge$Refusal") (Qc := fun A => QI (dC, dI) (ttys cA) (tcw ad cA) A r σ) rfl rfl (Nat.le_of_ble_eq_true rfl) ?_
  intro p e s m below meth c A H locs ls X hP hD hS hl
  have hl : lv_has ls 1 [(0, .ref (ad 1))] := hl
  obtain ⟨hx, hb, hr, hml, hown, hlocks, hts, hA, hK, hZ⟩ := id X
  unfold tRefusal_isNone at hF
  refine lv_aload_n hx hb d_Refusal_isNone_0 rfl (lv_at hl 0 rfl) ?_
  refine va_get (D := (dC, dI)) (ci := 1) (v := .int (σ.1 1)) hx hb hts i_Refusal hown hK hP 1 rfl rfl 0 (by decide) (hts _ w_7c7f1f863a) (fun _ h9 => h9) rfl d_Refusal_isNone_1 ?_
  refine lv_if_ne (tgt := 11) hx hb d_Refusal_isNone_4 (by decide) (fun c_1 => ?_) (fun c_1 => ?_)
  · have hF := ifn hF c_1
    refine lv_iconst (v := 0) hx hb d_Refusal_isNone_11 (by decide) ?_
    cases hF
    exact leafZ X hP hD hS (by decide) d_Refusal_isNone_12
  · have hF := ifp hF c_1
    refine lv_iconst (v := 1) hx hb d_Refusal_isNone_7 (by decide) ?_
    refine lv_goto (tgt := 12) hx hb d_Refusal_isNone_8 (by decide) ?_
    cases hF
    exact leafZ X hP hD hS (by decide) d_Refusal_isNone_12
theorem d_Refusal_refuse_0 : decode b_Refusal_refuse 0 = .ok (.aload_n 0, 1) := by decide +kernel
theorem d_Refusal_refuse_1 : decode b_Refusal_refuse 1 = .ok (.getfield 9, 3) := by decide +kernel
theorem d_Refusal_refuse_4 : decode b_Refusal_refuse 4 = .ok (.ifCond .ne 13, 3) := by decide +kernel
theorem d_Refusal_refuse_7 : decode b_Refusal_refuse 7 = .ok (.aload_n 0, 1) := by decide +kernel
theorem d_Refusal_refuse_8 : decode b_Refusal_refuse 8 = .ok (.iload_n 1, 1) := by decide +kernel
theorem d_Refusal_refuse_9 : decode b_Refusal_refuse 9 = .ok (.putfield 9, 3) := by decide +kernel
theorem d_Refusal_refuse_12 : decode b_Refusal_refuse 12 = .ok (.aload_n 0, 1) := by decide +kernel
theorem d_Refusal_refuse_13 : decode b_Refusal_refuse 13 = .ok (.iload_n 2, 1) := by decide +kernel
theorem d_Refusal_refuse_14 : decode b_Refusal_refuse 14 = .ok (.putfield 15, 3) := by decide +kernel
theorem d_Refusal_refuse_17 : decode b_Refusal_refuse 17 = .ok (.return_, 1) := by decide +kernel
def tRefusal_refuse (σ : St) (a1 : Int32) (a2 : Int32) : Option (St) := if (σ.1 1) = 0 then some (sI (sI σ 1 a1) 2 a2) else some σ
set_option maxHeartbeats 4000000 in
set_option maxRecDepth 100000 in
theorem ct_Refusal_refuse (l : Launch) (dC : Nat → ClassId) (dI : Nat → Nat → Nat) (ad : Nat → Nat) (cA : Nat → ClassId) (sz : Nat) {σ : St} {a1 : Int32} {a2 : Int32} {σ' : St} (hF : tRefusal_refuse σ a1 a2 = some σ') : MV l y_Refusal_refuse b_Refusal_refuse 3 none { frames := 0, cells := 0, slots := 0, locals := 0 } (dC, dI) (ttys cA) ad (tcw ad cA) [.ref (ad 1), .int a1, .int a2] σ sz σ' := by
  refine startM (own := "TinyForge$Refusal") (Qc := fun A => QV (dC, dI) (ttys cA) (tcw ad cA) A σ') rfl rfl (Nat.le_of_ble_eq_true rfl) ?_
  intro p e s m below meth c A H locs ls X hP hD hS hl
  have hl : lv_has ls 3 [(0, .ref (ad 1)), (1, .int a1), (2, .int a2)] := hl
  obtain ⟨hx, hb, hr, hml, hown, hlocks, hts, hA, hK, hZ⟩ := id X
  unfold tRefusal_refuse at hF
  refine lv_aload_n hx hb d_Refusal_refuse_0 rfl (lv_at hl 0 rfl) ?_
  refine va_get (D := (dC, dI)) (ci := 1) (v := .int (σ.1 1)) hx hb hts i_Refusal hown hK hP 1 rfl rfl 0 (by decide) (hts _ w_7c7f1f863a) (fun _ h9 => h9) rfl d_Refusal_refuse_1 ?_
  refine lv_if_ne (tgt := 17) hx hb d_Refusal_refuse_4 (by decide) (fun c_1 => ?_) (fun c_1 => ?_)
  · have hF := ifn hF c_1
    cases hF
    exact leafV X hP hD hS d_Refusal_refuse_17
  · have hF := ifp hF c_1
    refine lv_aload_n hx hb d_Refusal_refuse_7 rfl (lv_at hl 0 rfl) ?_
    refine lv_iload_n hx hb d_Refusal_refuse_8 rfl (lv_at hl 1 rfl) ?_
    refine va_put (D := (dC, dI)) (ci := 1) (v := .int a1) (ty := .int) hx hb hts i_Refusal t_Refusal t_Refusal_ok n_Refusal hown hK hP hD hS 1 rfl rfl 0 (by decide) (hts _ w_7c7f1f863a) (fun _ h9 => h9) rfl (by decide +kernel) rfl rfl (Nat.le_of_ble_eq_true rfl) d_Refusal_refuse_9 (fun H locs hP hD hS => ?_)
    have hP : va_P (dC, dI) vwCl (tcw ad cA (sI σ 1 a1)) H := hP
    have hD : va_D A (tcw ad cA (sI σ 1 a1)) := hD
    refine lv_aload_n hx hb d_Refusal_refuse_12 rfl (lv_at hl 0 rfl) ?_
    refine lv_iload_n hx hb d_Refusal_refuse_13 rfl (lv_at hl 2 rfl) ?_
    refine va_put (D := (dC, dI)) (ci := 1) (v := .int a2) (ty := .int) hx hb hts i_Refusal t_Refusal t_Refusal_ok n_Refusal hown hK hP hD hS 1 rfl rfl 1 (by decide) (hts _ w_951d72655d) (fun _ h9 => h9) rfl (by decide +kernel) rfl rfl (Nat.le_of_ble_eq_true rfl) d_Refusal_refuse_14 (fun H locs hP hD hS => ?_)
    have hP : va_P (dC, dI) vwCl (tcw ad cA (sI (sI σ 1 a1) 2 a2)) H := hP
    have hD : va_D A (tcw ad cA (sI (sI σ 1 a1) 2 a2)) := hD
    cases hF
    exact leafV X hP hD hS d_Refusal_refuse_17
theorem d_Refusal_blameName_0 : decode b_Refusal_blameName 0 = .ok (.aload_n 0, 1) := by decide +kernel
theorem d_Refusal_blameName_1 : decode b_Refusal_blameName 1 = .ok (.getfield 18, 3) := by decide +kernel
theorem d_Refusal_blameName_4 : decode b_Refusal_blameName 4 = .ok (.ifCond .lt 11, 3) := by decide +kernel
theorem d_Refusal_blameName_7 : decode b_Refusal_blameName 7 = .ok (.iload_n 1, 1) := by decide +kernel
theorem d_Refusal_blameName_8 : decode b_Refusal_blameName 8 = .ok (.aload_n 0, 1) := by decide +kernel
theorem d_Refusal_blameName_9 : decode b_Refusal_blameName 9 = .ok (.getfield 18, 3) := by decide +kernel
theorem d_Refusal_blameName_12 : decode b_Refusal_blameName 12 = .ok (.if_icmp .ge 8, 3) := by decide +kernel
theorem d_Refusal_blameName_15 : decode b_Refusal_blameName 15 = .ok (.aload_n 0, 1) := by decide +kernel
theorem d_Refusal_blameName_16 : decode b_Refusal_blameName 16 = .ok (.iload_n 1, 1) := by decide +kernel
theorem d_Refusal_blameName_17 : decode b_Refusal_blameName 17 = .ok (.putfield 18, 3) := by decide +kernel
theorem d_Refusal_blameName_20 : decode b_Refusal_blameName 20 = .ok (.return_, 1) := by decide +kernel
def tRefusal_blameName (σ : St) (a1 : Int32) : Option (St) := if (σ.1 3) < 0 then some (sI σ 3 a1) else if (σ.1 3) ≤ a1 then some σ else some (sI σ 3 a1)
set_option maxHeartbeats 4000000 in
set_option maxRecDepth 100000 in
theorem ct_Refusal_blameName (l : Launch) (dC : Nat → ClassId) (dI : Nat → Nat → Nat) (ad : Nat → Nat) (cA : Nat → ClassId) (sz : Nat) {σ : St} {a1 : Int32} {σ' : St} (hF : tRefusal_blameName σ a1 = some σ') : MV l y_Refusal_blameName b_Refusal_blameName 2 none { frames := 0, cells := 0, slots := 0, locals := 0 } (dC, dI) (ttys cA) ad (tcw ad cA) [.ref (ad 1), .int a1] σ sz σ' := by
  refine startM (own := "TinyForge$Refusal") (Qc := fun A => QV (dC, dI) (ttys cA) (tcw ad cA) A σ') rfl rfl (Nat.le_of_ble_eq_true rfl) ?_
  intro p e s m below meth c A H locs ls X hP hD hS hl
  have hl : lv_has ls 2 [(0, .ref (ad 1)), (1, .int a1)] := hl
  obtain ⟨hx, hb, hr, hml, hown, hlocks, hts, hA, hK, hZ⟩ := id X
  unfold tRefusal_blameName at hF
  refine lv_aload_n hx hb d_Refusal_blameName_0 rfl (lv_at hl 0 rfl) ?_
  refine va_get (D := (dC, dI)) (ci := 1) (v := .int (σ.1 3)) hx hb hts i_Refusal hown hK hP 1 rfl rfl 2 (by decide) (hts _ w_3920c5da97) (fun _ h9 => h9) rfl d_Refusal_blameName_1 ?_
  refine lv_if_lt (tgt := 15) hx hb d_Refusal_blameName_4 (by decide) (fun c_1 => ?_) (fun c_1 => ?_)
  · have hF := ifp hF c_1
    refine lv_aload_n hx hb d_Refusal_blameName_15 rfl (lv_at hl 0 rfl) ?_
    refine lv_iload_n hx hb d_Refusal_blameName_16 rfl (lv_at hl 1 rfl) ?_
    refine va_put (D := (dC, dI)) (ci := 1) (v := .int a1) (ty := .int) hx hb hts i_Refusal t_Refusal t_Refusal_ok n_Refusal hown hK hP hD hS 1 rfl rfl 2 (by decide) (hts _ w_3920c5da97) (fun _ h9 => h9) rfl (by decide +kernel) rfl rfl (Nat.le_of_ble_eq_true rfl) d_Refusal_blameName_17 (fun H locs hP hD hS => ?_)
    have hP : va_P (dC, dI) vwCl (tcw ad cA (sI σ 3 a1)) H := hP
    have hD : va_D A (tcw ad cA (sI σ 3 a1)) := hD
    cases hF
    exact leafV X hP hD hS d_Refusal_blameName_20
  · have hF := ifn hF c_1
    refine lv_iload_n hx hb d_Refusal_blameName_7 rfl (lv_at hl 1 rfl) ?_
    refine lv_aload_n hx hb d_Refusal_blameName_8 rfl (lv_at hl 0 rfl) ?_
    refine va_get (D := (dC, dI)) (ci := 1) (v := .int (σ.1 3)) hx hb hts i_Refusal hown hK hP 1 rfl rfl 2 (by decide) (hts _ w_3920c5da97) (fun _ h9 => h9) rfl d_Refusal_blameName_9 ?_
    refine lv_icmp_ge (tgt := 20) hx hb d_Refusal_blameName_12 (by decide) (fun c_2 => ?_) (fun c_2 => ?_)
    · have hF := ifp hF c_2
      cases hF
      exact leafV X hP hD hS d_Refusal_blameName_20
    · have hF := ifn hF c_2
      refine lv_aload_n hx hb d_Refusal_blameName_15 rfl (lv_at hl 0 rfl) ?_
      refine lv_iload_n hx hb d_Refusal_blameName_16 rfl (lv_at hl 1 rfl) ?_
      refine va_put (D := (dC, dI)) (ci := 1) (v := .int a1) (ty := .int) hx hb hts i_Refusal t_Refusal t_Refusal_ok n_Refusal hown hK hP hD hS 1 rfl rfl 2 (by decide) (hts _ w_3920c5da97) (fun _ h9 => h9) rfl (by decide +kernel) rfl rfl (Nat.le_of_ble_eq_true rfl) d_Refusal_blameName_17 (fun H locs hP hD hS => ?_)
      have hP : va_P (dC, dI) vwCl (tcw ad cA (sI σ 3 a1)) H := hP
      have hD : va_D A (tcw ad cA (sI σ 3 a1)) := hD
      cases hF
      exact leafV X hP hD hS d_Refusal_blameName_20
theorem d_Text_packed_0 : decode b_Text_packed 0 = .ok (.lconst 0, 1) := by decide +kernel
theorem d_Text_packed_1 : decode b_Text_packed 1 = .ok (.lstore_n 1, 1) := by decide +kernel
theorem d_Text_packed_2 : decode b_Text_packed 2 = .ok (.iconst 0, 1) := by decide +kernel
theorem d_Text_packed_3 : decode b_Text_packed 3 = .ok (.istore_n 3, 1) := by decide +kernel
theorem d_Text_packed_4 : decode b_Text_packed 4 = .ok (.iload_n 3, 1) := by decide +kernel
theorem d_Text_packed_5 : decode b_Text_packed 5 = .ok (.aload_n 0, 1) := by decide +kernel
theorem d_Text_packed_6 : decode b_Text_packed 6 = .ok (.invokevirtual 23, 3) := by decide +kernel
theorem d_Text_packed_9 : decode b_Text_packed 9 = .ok (.if_icmp .ge 21, 3) := by decide +kernel
theorem d_Text_packed_12 : decode b_Text_packed 12 = .ok (.lload_n 1, 1) := by decide +kernel
theorem d_Text_packed_13 : decode b_Text_packed 13 = .ok (.bipush 8, 2) := by decide +kernel
theorem d_Text_packed_15 : decode b_Text_packed 15 = .ok (.lshl, 1) := by decide +kernel
theorem d_Text_packed_16 : decode b_Text_packed 16 = .ok (.aload_n 0, 1) := by decide +kernel
theorem d_Text_packed_17 : decode b_Text_packed 17 = .ok (.iload_n 3, 1) := by decide +kernel
theorem d_Text_packed_18 : decode b_Text_packed 18 = .ok (.invokevirtual 28, 3) := by decide +kernel
theorem d_Text_packed_21 : decode b_Text_packed 21 = .ok (.i2l, 1) := by decide +kernel
theorem d_Text_packed_22 : decode b_Text_packed 22 = .ok (.lor, 1) := by decide +kernel
theorem d_Text_packed_23 : decode b_Text_packed 23 = .ok (.lstore_n 1, 1) := by decide +kernel
theorem d_Text_packed_24 : decode b_Text_packed 24 = .ok (.iinc 3 1, 3) := by decide +kernel
theorem d_Text_packed_27 : decode b_Text_packed 27 = .ok (.goto (-23), 3) := by decide +kernel
theorem d_Text_packed_30 : decode b_Text_packed 30 = .ok (.lload_n 1, 1) := by decide +kernel
theorem d_Text_packed_31 : decode b_Text_packed 31 = .ok (.lreturn, 1) := by decide +kernel
def tText_packed_b1 (k : Nat → St → Int32 → Int64 → Nat → Option (Int64)) (σ : St) (x1 : Int32) (y1 : Int64) (z1 : Nat) : Option (Int64) := gd (sB z1) (b1 (tString_length σ z1) (fun r1 => if r1 ≤ x1 then some y1 else b1 (tString_charAt σ z1 x1) (fun r3 => k 1 σ (x1 + 1) ((y1 <<< ((8 : Int32).toInt64 &&& 63)) ||| ((r3 : Int32).toInt64)) z1)))
def tText_packed_L : Nat → Nat → St → Int32 → Int64 → Nat → Option (Int64)
  | 0, _, _, _, _, _ => none
  | n + 1, lab, σ, x1, y1, z1 => match lab with
    | 1 => tText_packed_b1 (tText_packed_L n) σ x1 y1 z1
    | _ => none
def tText_packed (σ : St) (a1 : Nat) : Option (Int64) := gd (sB a1) (tText_packed_L 2000 1 σ 0 0 a1)
set_option maxHeartbeats 4000000 in
set_option maxRecDepth 100000 in
theorem tText_packed_blk {p : Program} {e : Env} {s : State} {m : MethodId} {args : Array Value} {below : List Frame} {meth : Method} {c : Code} {A : Nat → Prop} (l : Launch) (dC : Nat → ClassId) (dI : Nat → Nat → Nat) (ad : Nat → Nat) (cA : Nat → ClassId) {r : Int64} (X : Cx p s m args meth c b_Text_packed 4 (some .long) "TinyForge$Text" (dC, dI) (ttys cA) ad A) : ∀ n : Nat, (∀ (σ : St) (x1 : Int32) (y1 : Int64) (z1 : Nat) (H : Heap) (locs : List Loc) (ls : Array Slot), tText_packed_L n 1 σ x1 y1 z1 = some r → va_P (dC, dI) vwCl (tcw ad cA σ) H → va_D A (tcw ad cA σ) → va_S A s.heap H locs → lv_has ls 4 [(0, .ref (ad (100 + z1))), (1, .long y1), (3, .int x1)] → W p l e { frames := 4, cells := 0, slots := 0, locals := 85 } s m args below meth c H locs 0 0 (MQ below (QJ (dC, dI) (ttys cA) (tcw ad cA) A r σ) args s 0 0 A) (F0 m 4 ls [])) := by
  obtain ⟨hx, hb, hr, hml, hown, hlocks, hts, hA, hK, hZ⟩ := id X
  intro n
  induction n with
  | zero => exact (fun σ x1 y1 z1 H locs ls hF => by cases hF)
  | succ n ihn =>
    refine fun σ x1 y1 z1 H locs ls hF hP hD hS hl => ?_
    · have hF : tText_packed_b1 (tText_packed_L n) σ x1 y1 z1 = some r := hF
      unfold tText_packed_b1 at hF
      obtain ⟨hs_z1, hF⟩ := gdE hF
      refine lv_iload_n hx hb d_Text_packed_4 rfl (lv_at hl 2 rfl) ?_
      refine lv_aload_n hx hb d_Text_packed_5 rfl (lv_at hl 0 rfl) ?_
      obtain ⟨r1, h1, hF⟩ := b1E hF
      refine callZI (As := []) X (ct_String_length l dC dI ad cA H.size h1) lk_Text_23 ⟨rfl, rfl, by decide, by decide⟩ (sBE hs_z1) hP hD hS hl.1 rfl rfl (Nat.le_of_ble_eq_true rfl) d_Text_packed_6 (fun H locs hP hD hS => ?_)
      refine lv_icmp_ge (tgt := 30) hx hb d_Text_packed_9 (by decide) (fun c_2 => ?_) (fun c_2 => ?_)
      · have hF := ifp hF c_2
        refine lv_lload_n hx hb d_Text_packed_30 rfl (lv_at hl 1 rfl) ?_
        cases hF
        exact leafJ X hP hD hS d_Text_packed_31
      · have hF := ifn hF c_2
        refine lv_lload_n hx hb d_Text_packed_12 rfl (lv_at hl 1 rfl) ?_
        refine lv_bipush (v := 8) hx hb d_Text_packed_13 (by decide) ?_
        refine lv_lshl (v := (y1 <<< ((8 : Int32).toInt64 &&& 63))) hx hb d_Text_packed_15 rfl ?_
        refine lv_aload_n hx hb d_Text_packed_16 rfl (lv_at hl 0 rfl) ?_
        refine lv_iload_n hx hb d_Text_packed_17 rfl (lv_at hl 2 rfl) ?_
        obtain ⟨r3, h3, hF⟩ := b1E hF
        refine callZI (As := [.int x1]) X (ct_String_charAt l dC dI ad cA H.size h3) lk_Text_28 ⟨rfl, rfl, by decide, by decide⟩ (sBE hs_z1) hP hD hS hl.1 rfl rfl (Nat.le_of_ble_eq_true rfl) d_Text_packed_18 (fun H locs hP hD hS => ?_)
        refine lv_i2l (v := (r3 : Int32).toInt64) hx hb d_Text_packed_21 rfl ?_
        refine lv_lor hx hb d_Text_packed_22 ?_
        refine lv_lstore_n (lv' := [(1, .long ((y1 <<< ((8 : Int32).toInt64 &&& 63)) ||| ((r3 : Int32).toInt64))), (0, .ref (ad (100 + z1))), (3, .int x1)]) hx hb d_Text_packed_23 rfl hl (by decide) rfl (fun ls hl => ?_)
        refine lv_iinc (v := (x1 + 1)) (lv' := [(3, .int (x1 + 1)), (1, .long ((y1 <<< ((8 : Int32).toInt64 &&& 63)) ||| ((r3 : Int32).toInt64))), (0, .ref (ad (100 + z1)))]) hx hb d_Text_packed_24 hl (k := 2) rfl rfl (by decide) rfl (fun ls hl => ?_)
        refine lv_goto (tgt := 4) hx hb d_Text_packed_27 (by decide) ?_
        exact ihn σ (x1 + 1) ((y1 <<< ((8 : Int32).toInt64 &&& 63)) ||| ((r3 : Int32).toInt64)) z1 H locs ls hF hP hD hS (lv_sub hl [2, 1, 0] rfl)
set_option maxHeartbeats 4000000 in
set_option maxRecDepth 100000 in
theorem ct_Text_packed (l : Launch) (dC : Nat → ClassId) (dI : Nat → Nat → Nat) (ad : Nat → Nat) (cA : Nat → ClassId) (sz : Nat) {σ : St} {a1 : Nat} {r : Int64} (hF : tText_packed σ a1 = some r) : MJ l y_Text_packed b_Text_packed 4 (some .long) { frames := 4, cells := 0, slots := 0, locals := 85 } (dC, dI) (ttys cA) ad (tcw ad cA) [.ref (ad (100 + a1))] σ sz r σ := by
  refine startM (own := "TinyForge$Text") (Qc := fun A => QJ (dC, dI) (ttys cA) (tcw ad cA) A r σ) rfl rfl (Nat.le_of_ble_eq_true rfl) ?_
  intro p e s m below meth c A H locs ls X hP hD hS hl
  have hl : lv_has ls 4 [(0, .ref (ad (100 + a1)))] := hl
  obtain ⟨hx, hb, hr, hml, hown, hlocks, hts, hA, hK, hZ⟩ := id X
  unfold tText_packed at hF
  obtain ⟨hs_a1, hF⟩ := gdE hF
  refine lv_lconst (v := 0) hx hb d_Text_packed_0 (by decide) ?_
  refine lv_lstore_n (lv' := [(1, .long 0), (0, .ref (ad (100 + a1)))]) hx hb d_Text_packed_1 rfl hl (by decide) rfl (fun ls hl => ?_)
  refine lv_iconst (v := 0) hx hb d_Text_packed_2 (by decide) ?_
  refine lv_istore_n (lv' := [(3, .int 0), (1, .long 0), (0, .ref (ad (100 + a1)))]) hx hb d_Text_packed_3 rfl hl (by decide) rfl (fun ls hl => ?_)
  exact (tText_packed_blk l dC dI ad cA X 2000) σ 0 0 a1 H locs ls hF hP hD hS (lv_sub hl [2, 1, 0] rfl)
theorem d_Refusal_refuseWrongName_0 : decode b_Refusal_refuseWrongName 0 = .ok (.aload_n 0, 1) := by decide +kernel
theorem d_Refusal_refuseWrongName_1 : decode b_Refusal_refuseWrongName 1 = .ok (.getfield 18, 3) := by decide +kernel
theorem d_Refusal_refuseWrongName_4 : decode b_Refusal_refuseWrongName 4 = .ok (.ifCond .lt 12, 3) := by decide +kernel
theorem d_Refusal_refuseWrongName_7 : decode b_Refusal_refuseWrongName 7 = .ok (.aload_n 0, 1) := by decide +kernel
theorem d_Refusal_refuseWrongName_8 : decode b_Refusal_refuseWrongName 8 = .ok (.iconst 4, 1) := by decide +kernel
theorem d_Refusal_refuseWrongName_9 : decode b_Refusal_refuseWrongName 9 = .ok (.aload_n 0, 1) := by decide +kernel
theorem d_Refusal_refuseWrongName_10 : decode b_Refusal_refuseWrongName 10 = .ok (.getfield 18, 3) := by decide +kernel
theorem d_Refusal_refuseWrongName_13 : decode b_Refusal_refuseWrongName 13 = .ok (.invokevirtual 21, 3) := by decide +kernel
theorem d_Refusal_refuseWrongName_16 : decode b_Refusal_refuseWrongName 16 = .ok (.return_, 1) := by decide +kernel
def tRefusal_refuseWrongName (σ : St) : Option (St) := if (σ.1 3) < 0 then some σ else b1 (tRefusal_refuse σ 4 (σ.1 3)) (fun u2 => some u2)
set_option maxHeartbeats 4000000 in
set_option maxRecDepth 100000 in
theorem ct_Refusal_refuseWrongName (l : Launch) (dC : Nat → ClassId) (dI : Nat → Nat → Nat) (ad : Nat → Nat) (cA : Nat → ClassId) (sz : Nat) {σ : St} {σ' : St} (hF : tRefusal_refuseWrongName σ = some σ') : MV l y_Refusal_refuseWrongName b_Refusal_refuseWrongName 1 none { frames := 1, cells := 0, slots := 0, locals := 22 } (dC, dI) (ttys cA) ad (tcw ad cA) [.ref (ad 1)] σ sz σ' := by
  refine startM (own := "TinyForge$Refusal") (Qc := fun A => QV (dC, dI) (ttys cA) (tcw ad cA) A σ') rfl rfl (Nat.le_of_ble_eq_true rfl) ?_
  intro p e s m below meth c A H locs ls X hP hD hS hl
  have hl : lv_has ls 1 [(0, .ref (ad 1))] := hl
  obtain ⟨hx, hb, hr, hml, hown, hlocks, hts, hA, hK, hZ⟩ := id X
  unfold tRefusal_refuseWrongName at hF
  refine lv_aload_n hx hb d_Refusal_refuseWrongName_0 rfl (lv_at hl 0 rfl) ?_
  refine va_get (D := (dC, dI)) (ci := 1) (v := .int (σ.1 3)) hx hb hts i_Refusal hown hK hP 1 rfl rfl 2 (by decide) (hts _ w_3920c5da97) (fun _ h9 => h9) rfl d_Refusal_refuseWrongName_1 ?_
  refine lv_if_lt (tgt := 16) hx hb d_Refusal_refuseWrongName_4 (by decide) (fun c_1 => ?_) (fun c_1 => ?_)
  · have hF := ifp hF c_1
    cases hF
    exact leafV X hP hD hS d_Refusal_refuseWrongName_16
  · have hF := ifn hF c_1
    refine lv_aload_n hx hb d_Refusal_refuseWrongName_7 rfl (lv_at hl 0 rfl) ?_
    refine lv_iconst (v := 4) hx hb d_Refusal_refuseWrongName_8 (by decide) ?_
    refine lv_aload_n hx hb d_Refusal_refuseWrongName_9 rfl (lv_at hl 0 rfl) ?_
    refine va_get (D := (dC, dI)) (ci := 1) (v := .int (σ.1 3)) hx hb hts i_Refusal hown hK hP 1 rfl rfl 2 (by decide) (hts _ w_3920c5da97) (fun _ h9 => h9) rfl d_Refusal_refuseWrongName_10 ?_
    obtain ⟨u2, h2, hF⟩ := b1E hF
    refine callVV (As := [.int 4, .int (σ.1 3)]) X (ct_Refusal_refuse l dC dI ad cA H.size h2) lk_Refusal_21 ⟨rfl, rfl, by decide, by decide⟩ 1 rfl rfl hP hD hS hl.1 rfl rfl (Nat.le_of_ble_eq_true rfl) d_Refusal_refuseWrongName_13 (fun H locs hP hD hS => ?_)
    cases hF
    exact leafV X hP hD hS d_Refusal_refuseWrongName_16
theorem d_Program_add_0 : decode b_Program_add 0 = .ok (.aload_n 0, 1) := by decide +kernel
theorem d_Program_add_1 : decode b_Program_add 1 = .ok (.getfield 21, 3) := by decide +kernel
theorem d_Program_add_4 : decode b_Program_add 4 = .ok (.sipush 440, 3) := by decide +kernel
theorem d_Program_add_7 : decode b_Program_add 7 = .ok (.if_icmp .ge 43, 3) := by decide +kernel
theorem d_Program_add_10 : decode b_Program_add 10 = .ok (.aload_n 0, 1) := by decide +kernel
theorem d_Program_add_11 : decode b_Program_add 11 = .ok (.getfield 9, 3) := by decide +kernel
theorem d_Program_add_14 : decode b_Program_add 14 = .ok (.aload_n 0, 1) := by decide +kernel
theorem d_Program_add_15 : decode b_Program_add 15 = .ok (.getfield 21, 3) := by decide +kernel
theorem d_Program_add_18 : decode b_Program_add 18 = .ok (.iload_n 1, 1) := by decide +kernel
theorem d_Program_add_19 : decode b_Program_add 19 = .ok (.iastore, 1) := by decide +kernel
theorem d_Program_add_20 : decode b_Program_add 20 = .ok (.aload_n 0, 1) := by decide +kernel
theorem d_Program_add_21 : decode b_Program_add 21 = .ok (.getfield 15, 3) := by decide +kernel
theorem d_Program_add_24 : decode b_Program_add 24 = .ok (.aload_n 0, 1) := by decide +kernel
theorem d_Program_add_25 : decode b_Program_add 25 = .ok (.getfield 21, 3) := by decide +kernel
theorem d_Program_add_28 : decode b_Program_add 28 = .ok (.iload_n 2, 1) := by decide +kernel
theorem d_Program_add_29 : decode b_Program_add 29 = .ok (.iastore, 1) := by decide +kernel
theorem d_Program_add_30 : decode b_Program_add 30 = .ok (.aload_n 0, 1) := by decide +kernel
theorem d_Program_add_31 : decode b_Program_add 31 = .ok (.getfield 18, 3) := by decide +kernel
theorem d_Program_add_34 : decode b_Program_add 34 = .ok (.aload_n 0, 1) := by decide +kernel
theorem d_Program_add_35 : decode b_Program_add 35 = .ok (.getfield 21, 3) := by decide +kernel
theorem d_Program_add_38 : decode b_Program_add 38 = .ok (.iload_n 3, 1) := by decide +kernel
theorem d_Program_add_39 : decode b_Program_add 39 = .ok (.iastore, 1) := by decide +kernel
theorem d_Program_add_40 : decode b_Program_add 40 = .ok (.aload_n 0, 1) := by decide +kernel
theorem d_Program_add_41 : decode b_Program_add 41 = .ok (.dup, 1) := by decide +kernel
theorem d_Program_add_42 : decode b_Program_add 42 = .ok (.getfield 21, 3) := by decide +kernel
theorem d_Program_add_45 : decode b_Program_add 45 = .ok (.iconst 1, 1) := by decide +kernel
theorem d_Program_add_46 : decode b_Program_add 46 = .ok (.iadd, 1) := by decide +kernel
theorem d_Program_add_47 : decode b_Program_add 47 = .ok (.putfield 21, 3) := by decide +kernel
theorem d_Program_add_50 : decode b_Program_add 50 = .ok (.return_, 1) := by decide +kernel
def tProgram_add (σ : St) (a1 : Int32) (a2 : Int32) (a3 : Int32) : Option (St) := if (440 : Int32) ≤ (σ.1 13) then some σ else gd (inB (σ.1 13) 440) (gd (inB (σ.1 13) 440) (gd (inB (σ.1 13) 440) (some (sI (sA (sA (sA σ 6 (upd (σ.2.2.1 6) (σ.1 13).toNatClampNeg a1)) 7 (upd (σ.2.2.1 7) (σ.1 13).toNatClampNeg a2)) 8 (upd (σ.2.2.1 8) (σ.1 13).toNatClampNeg a3)) 13 ((σ.1 13) + 1)))))
set_option maxHeartbeats 4000000 in
set_option maxRecDepth 100000 in
theorem ct_Program_add (l : Launch) (dC : Nat → ClassId) (dI : Nat → Nat → Nat) (ad : Nat → Nat) (cA : Nat → ClassId) (sz : Nat) {σ : St} {a1 : Int32} {a2 : Int32} {a3 : Int32} {σ' : St} (hF : tProgram_add σ a1 a2 a3 = some σ') : MV l y_Program_add b_Program_add 4 none { frames := 0, cells := 0, slots := 0, locals := 0 } (dC, dI) (ttys cA) ad (tcw ad cA) [.ref (ad 6), .int a1, .int a2, .int a3] σ sz σ' := by
  refine startM (own := "TinyForge$Program") (Qc := fun A => QV (dC, dI) (ttys cA) (tcw ad cA) A σ') rfl rfl (Nat.le_of_ble_eq_true rfl) ?_
  intro p e s m below meth c A H locs ls X hP hD hS hl
  have hl : lv_has ls 4 [(0, .ref (ad 6)), (1, .int a1), (2, .int a2), (3, .int a3)] := hl
  obtain ⟨hx, hb, hr, hml, hown, hlocks, hts, hA, hK, hZ⟩ := id X
  unfold tProgram_add at hF
  refine lv_aload_n hx hb d_Program_add_0 rfl (lv_at hl 0 rfl) ?_
  refine va_get (D := (dC, dI)) (ci := 6) (v := .int (σ.1 13)) hx hb hts i_Program hown hK hP 6 rfl rfl 3 (by decide) (hts _ w_a328c70ad6) (fun _ h9 => h9) rfl d_Program_add_1 ?_
  refine lv_sipush (v := 440) hx hb d_Program_add_4 (by decide) ?_
  refine lv_icmp_ge (tgt := 50) hx hb d_Program_add_7 (by decide) (fun c_1 => ?_) (fun c_1 => ?_)
  · have hF := ifp hF c_1
    cases hF
    exact leafV X hP hD hS d_Program_add_50
  · have hF := ifn hF c_1
    refine lv_aload_n hx hb d_Program_add_10 rfl (lv_at hl 0 rfl) ?_
    refine va_get (D := (dC, dI)) (ci := 6) (v := .ref (ad 21)) hx hb hts i_Program hown hK hP 6 rfl rfl 0 (by decide) (hts _ w_c2c4f36bd9) (fun _ h9 => h9) rfl d_Program_add_11 ?_
    refine lv_aload_n hx hb d_Program_add_14 rfl (lv_at hl 0 rfl) ?_
    refine va_get (D := (dC, dI)) (ci := 6) (v := .int (σ.1 13)) hx hb hts i_Program hown hK hP 6 rfl rfl 3 (by decide) (hts _ w_a328c70ad6) (fun _ h9 => h9) rfl d_Program_add_15 ?_
    refine lv_iload_n hx hb d_Program_add_18 rfl (lv_at hl 1 rfl) ?_
    obtain ⟨g_2, hF⟩ := gdE hF
    refine va_iast (f := (σ.2.2.1 6)) hx hb hK hP hD hS 21 0 rfl rfl (inE g_2) d_Program_add_19 (fun H locs hP hD hS => ?_)
    have hP : va_P (dC, dI) vwCl (tcw ad cA (sA σ 6 (upd (σ.2.2.1 6) (σ.1 13).toNatClampNeg a1))) H := hP
    have hD : va_D A (tcw ad cA (sA σ 6 (upd (σ.2.2.1 6) (σ.1 13).toNatClampNeg a1))) := hD
    refine lv_aload_n hx hb d_Program_add_20 rfl (lv_at hl 0 rfl) ?_
    refine va_get (D := (dC, dI)) (ci := 6) (v := .ref (ad 22)) hx hb hts i_Program hown hK hP 6 rfl rfl 1 (by decide) (hts _ w_30891a08d5) (fun _ h9 => h9) rfl d_Program_add_21 ?_
    refine lv_aload_n hx hb d_Program_add_24 rfl (lv_at hl 0 rfl) ?_
    refine va_get (D := (dC, dI)) (ci := 6) (v := .int (σ.1 13)) hx hb hts i_Program hown hK hP 6 rfl rfl 3 (by decide) (hts _ w_a328c70ad6) (fun _ h9 => h9) rfl d_Program_add_25 ?_
    refine lv_iload_n hx hb d_Program_add_28 rfl (lv_at hl 2 rfl) ?_
    obtain ⟨g_3, hF⟩ := gdE hF
    refine va_iast (f := (σ.2.2.1 7)) hx hb hK hP hD hS 22 0 rfl rfl (inE g_3) d_Program_add_29 (fun H locs hP hD hS => ?_)
    have hP : va_P (dC, dI) vwCl (tcw ad cA (sA (sA σ 6 (upd (σ.2.2.1 6) (σ.1 13).toNatClampNeg a1)) 7 (upd (σ.2.2.1 7) (σ.1 13).toNatClampNeg a2))) H := hP
    have hD : va_D A (tcw ad cA (sA (sA σ 6 (upd (σ.2.2.1 6) (σ.1 13).toNatClampNeg a1)) 7 (upd (σ.2.2.1 7) (σ.1 13).toNatClampNeg a2))) := hD
    refine lv_aload_n hx hb d_Program_add_30 rfl (lv_at hl 0 rfl) ?_
    refine va_get (D := (dC, dI)) (ci := 6) (v := .ref (ad 23)) hx hb hts i_Program hown hK hP 6 rfl rfl 2 (by decide) (hts _ w_f18bd65478) (fun _ h9 => h9) rfl d_Program_add_31 ?_
    refine lv_aload_n hx hb d_Program_add_34 rfl (lv_at hl 0 rfl) ?_
    refine va_get (D := (dC, dI)) (ci := 6) (v := .int (σ.1 13)) hx hb hts i_Program hown hK hP 6 rfl rfl 3 (by decide) (hts _ w_a328c70ad6) (fun _ h9 => h9) rfl d_Program_add_35 ?_
    refine lv_iload_n hx hb d_Program_add_38 rfl (lv_at hl 3 rfl) ?_
    obtain ⟨g_4, hF⟩ := gdE hF
    refine va_iast (f := (σ.2.2.1 8)) hx hb hK hP hD hS 23 0 rfl rfl (inE g_4) d_Program_add_39 (fun H locs hP hD hS => ?_)
    have hP : va_P (dC, dI) vwCl (tcw ad cA (sA (sA (sA σ 6 (upd (σ.2.2.1 6) (σ.1 13).toNatClampNeg a1)) 7 (upd (σ.2.2.1 7) (σ.1 13).toNatClampNeg a2)) 8 (upd (σ.2.2.1 8) (σ.1 13).toNatClampNeg a3))) H := hP
    have hD : va_D A (tcw ad cA (sA (sA (sA σ 6 (upd (σ.2.2.1 6) (σ.1 13).toNatClampNeg a1)) 7 (upd (σ.2.2.1 7) (σ.1 13).toNatClampNeg a2)) 8 (upd (σ.2.2.1 8) (σ.1 13).toNatClampNeg a3))) := hD
    refine lv_aload_n hx hb d_Program_add_40 rfl (lv_at hl 0 rfl) ?_
    refine lv_dup hx hb d_Program_add_41 rfl ?_
    refine va_get (D := (dC, dI)) (ci := 6) (v := .int (σ.1 13)) hx hb hts i_Program hown hK hP 6 rfl rfl 3 (by decide) (hts _ w_a328c70ad6) (fun _ h9 => h9) rfl d_Program_add_42 ?_
    refine lv_iconst (v := 1) hx hb d_Program_add_45 (by decide) ?_
    refine lv_iadd hx hb d_Program_add_46 ?_
    refine va_put (D := (dC, dI)) (ci := 6) (v := .int ((σ.1 13) + 1)) (ty := .int) hx hb hts i_Program t_Program t_Program_ok n_Program hown hK hP hD hS 6 rfl rfl 3 (by decide) (hts _ w_a328c70ad6) (fun _ h9 => h9) rfl (by decide +kernel) rfl rfl (Nat.le_of_ble_eq_true rfl) d_Program_add_47 (fun H locs hP hD hS => ?_)
    have hP : va_P (dC, dI) vwCl (tcw ad cA (sI (sA (sA (sA σ 6 (upd (σ.2.2.1 6) (σ.1 13).toNatClampNeg a1)) 7 (upd (σ.2.2.1 7) (σ.1 13).toNatClampNeg a2)) 8 (upd (σ.2.2.1 8) (σ.1 13).toNatClampNeg a3)) 13 ((σ.1 13) + 1))) H := hP
    have hD : va_D A (tcw ad cA (sI (sA (sA (sA σ 6 (upd (σ.2.2.1 6) (σ.1 13).toNatClampNeg a1)) 7 (upd (σ.2.2.1 7) (σ.1 13).toNatClampNeg a2)) 8 (upd (σ.2.2.1 8) (σ.1 13).toNatClampNeg a3)) 13 ((σ.1 13) + 1))) := hD
    cases hF
    exact leafV X hP hD hS d_Program_add_50
theorem d_Refusal_forget_0 : decode b_Refusal_forget 0 = .ok (.aload_n 0, 1) := by decide +kernel
theorem d_Refusal_forget_1 : decode b_Refusal_forget 1 = .ok (.iconst 0, 1) := by decide +kernel
theorem d_Refusal_forget_2 : decode b_Refusal_forget 2 = .ok (.putfield 9, 3) := by decide +kernel
theorem d_Refusal_forget_5 : decode b_Refusal_forget 5 = .ok (.aload_n 0, 1) := by decide +kernel
theorem d_Refusal_forget_6 : decode b_Refusal_forget 6 = .ok (.iconst (-1), 1) := by decide +kernel
theorem d_Refusal_forget_7 : decode b_Refusal_forget 7 = .ok (.putfield 15, 3) := by decide +kernel
theorem d_Refusal_forget_10 : decode b_Refusal_forget 10 = .ok (.aload_n 0, 1) := by decide +kernel
theorem d_Refusal_forget_11 : decode b_Refusal_forget 11 = .ok (.iconst (-1), 1) := by decide +kernel
theorem d_Refusal_forget_12 : decode b_Refusal_forget 12 = .ok (.putfield 18, 3) := by decide +kernel
theorem d_Refusal_forget_15 : decode b_Refusal_forget 15 = .ok (.return_, 1) := by decide +kernel
def tRefusal_forget (σ : St) : Option (St) := some (sI (sI (sI σ 1 0) 2 (-1)) 3 (-1))
set_option maxHeartbeats 4000000 in
set_option maxRecDepth 100000 in
theorem ct_Refusal_forget (l : Launch) (dC : Nat → ClassId) (dI : Nat → Nat → Nat) (ad : Nat → Nat) (cA : Nat → ClassId) (sz : Nat) {σ : St} {σ' : St} (hF : tRefusal_forget σ = some σ') : MV l y_Refusal_forget b_Refusal_forget 1 none { frames := 0, cells := 0, slots := 0, locals := 0 } (dC, dI) (ttys cA) ad (tcw ad cA) [.ref (ad 1)] σ sz σ' := by
  refine startM (own := "TinyForge$Refusal") (Qc := fun A => QV (dC, dI) (ttys cA) (tcw ad cA) A σ') rfl rfl (Nat.le_of_ble_eq_true rfl) ?_
  intro p e s m below meth c A H locs ls X hP hD hS hl
  have hl : lv_has ls 1 [(0, .ref (ad 1))] := hl
  obtain ⟨hx, hb, hr, hml, hown, hlocks, hts, hA, hK, hZ⟩ := id X
  unfold tRefusal_forget at hF
  refine lv_aload_n hx hb d_Refusal_forget_0 rfl (lv_at hl 0 rfl) ?_
  refine lv_iconst (v := 0) hx hb d_Refusal_forget_1 (by decide) ?_
  refine va_put (D := (dC, dI)) (ci := 1) (v := .int 0) (ty := .int) hx hb hts i_Refusal t_Refusal t_Refusal_ok n_Refusal hown hK hP hD hS 1 rfl rfl 0 (by decide) (hts _ w_7c7f1f863a) (fun _ h9 => h9) rfl (by decide +kernel) rfl rfl (Nat.le_of_ble_eq_true rfl) d_Refusal_forget_2 (fun H locs hP hD hS => ?_)
  have hP : va_P (dC, dI) vwCl (tcw ad cA (sI σ 1 0)) H := hP
  have hD : va_D A (tcw ad cA (sI σ 1 0)) := hD
  refine lv_aload_n hx hb d_Refusal_forget_5 rfl (lv_at hl 0 rfl) ?_
  refine lv_iconst (v := (-1)) hx hb d_Refusal_forget_6 (by decide) ?_
  refine va_put (D := (dC, dI)) (ci := 1) (v := .int (-1)) (ty := .int) hx hb hts i_Refusal t_Refusal t_Refusal_ok n_Refusal hown hK hP hD hS 1 rfl rfl 1 (by decide) (hts _ w_951d72655d) (fun _ h9 => h9) rfl (by decide +kernel) rfl rfl (Nat.le_of_ble_eq_true rfl) d_Refusal_forget_7 (fun H locs hP hD hS => ?_)
  have hP : va_P (dC, dI) vwCl (tcw ad cA (sI (sI σ 1 0) 2 (-1))) H := hP
  have hD : va_D A (tcw ad cA (sI (sI σ 1 0) 2 (-1))) := hD
  refine lv_aload_n hx hb d_Refusal_forget_10 rfl (lv_at hl 0 rfl) ?_
  refine lv_iconst (v := (-1)) hx hb d_Refusal_forget_11 (by decide) ?_
  refine va_put (D := (dC, dI)) (ci := 1) (v := .int (-1)) (ty := .int) hx hb hts i_Refusal t_Refusal t_Refusal_ok n_Refusal hown hK hP hD hS 1 rfl rfl 2 (by decide) (hts _ w_3920c5da97) (fun _ h9 => h9) rfl (by decide +kernel) rfl rfl (Nat.le_of_ble_eq_true rfl) d_Refusal_forget_12 (fun H locs hP hD hS => ?_)
  have hP : va_P (dC, dI) vwCl (tcw ad cA (sI (sI (sI σ 1 0) 2 (-1)) 3 (-1))) H := hP
  have hD : va_D A (tcw ad cA (sI (sI (sI σ 1 0) 2 (-1)) 3 (-1))) := hD
  cases hF
  exact leafV X hP hD hS d_Refusal_forget_15
theorem d_Text_at_0 : decode b_Text_at 0 = .ok (.iload_n 1, 1) := by decide +kernel
theorem d_Text_at_1 : decode b_Text_at 1 = .ok (.ifCond .lt 20, 3) := by decide +kernel
theorem d_Text_at_4 : decode b_Text_at 4 = .ok (.iload_n 1, 1) := by decide +kernel
theorem d_Text_at_5 : decode b_Text_at 5 = .ok (.aload_n 0, 1) := by decide +kernel
theorem d_Text_at_6 : decode b_Text_at 6 = .ok (.getfield 15, 3) := by decide +kernel
theorem d_Text_at_9 : decode b_Text_at 9 = .ok (.if_icmp .ge 12, 3) := by decide +kernel
theorem d_Text_at_12 : decode b_Text_at 12 = .ok (.aload_n 0, 1) := by decide +kernel
theorem d_Text_at_13 : decode b_Text_at 13 = .ok (.getfield 9, 3) := by decide +kernel
theorem d_Text_at_16 : decode b_Text_at 16 = .ok (.iload_n 1, 1) := by decide +kernel
theorem d_Text_at_17 : decode b_Text_at 17 = .ok (.caload, 1) := by decide +kernel
theorem d_Text_at_18 : decode b_Text_at 18 = .ok (.goto 5, 3) := by decide +kernel
theorem d_Text_at_21 : decode b_Text_at 21 = .ok (.bipush 32, 2) := by decide +kernel
theorem d_Text_at_23 : decode b_Text_at 23 = .ok (.ireturn, 1) := by decide +kernel
def tText_at (σ : St) (a1 : Int32) : Option (Int32) := if a1 < 0 then some 32 else if (σ.1 0) ≤ a1 then some 32 else gd (inB a1 480) (gd (nC ((σ.2.2.1 0) a1.toNatClampNeg)) (some ((σ.2.2.1 0) a1.toNatClampNeg)))
set_option maxHeartbeats 4000000 in
set_option maxRecDepth 100000 in
theorem ct_Text_at (l : Launch) (dC : Nat → ClassId) (dI : Nat → Nat → Nat) (ad : Nat → Nat) (cA : Nat → ClassId) (sz : Nat) {σ : St} {a1 : Int32} {r : Int32} (hF : tText_at σ a1 = some r) : MI l y_Text_at b_Text_at 2 (some .char) { frames := 0, cells := 0, slots := 0, locals := 0 } (dC, dI) (ttys cA) ad (tcw ad cA) [.ref (ad 0), .int a1] σ sz r σ := by
  refine startM (own := "TinyForge$Text") (Qc := fun A => QI (dC, dI) (ttys cA) (tcw ad cA) A r σ) rfl rfl (Nat.le_of_ble_eq_true rfl) ?_
  intro p e s m below meth c A H locs ls X hP hD hS hl
  have hl : lv_has ls 2 [(0, .ref (ad 0)), (1, .int a1)] := hl
  obtain ⟨hx, hb, hr, hml, hown, hlocks, hts, hA, hK, hZ⟩ := id X
  unfold tText_at at hF
  refine lv_iload_n hx hb d_Text_at_0 rfl (lv_at hl 1 rfl) ?_
  refine lv_if_lt (tgt := 21) hx hb d_Text_at_1 (by decide) (fun c_1 => ?_) (fun c_1 => ?_)
  · have hF := ifp hF c_1
    refine lv_bipush (v := 32) hx hb d_Text_at_21 (by decide) ?_
    cases hF
    exact leafZ X hP hD hS (by decide) d_Text_at_23
  · have hF := ifn hF c_1
    refine lv_iload_n hx hb d_Text_at_4 rfl (lv_at hl 1 rfl) ?_
    refine lv_aload_n hx hb d_Text_at_5 rfl (lv_at hl 0 rfl) ?_
    refine va_get (D := (dC, dI)) (ci := 0) (v := .int (σ.1 0)) hx hb hts i_Text hown hK hP 0 rfl rfl 1 (by decide) (hts _ w_7879a7e969) (fun _ h9 => h9) rfl d_Text_at_6 ?_
    refine lv_icmp_ge (tgt := 21) hx hb d_Text_at_9 (by decide) (fun c_2 => ?_) (fun c_2 => ?_)
    · have hF := ifp hF c_2
      refine lv_bipush (v := 32) hx hb d_Text_at_21 (by decide) ?_
      cases hF
      exact leafZ X hP hD hS (by decide) d_Text_at_23
    · have hF := ifn hF c_2
      refine lv_aload_n hx hb d_Text_at_12 rfl (lv_at hl 0 rfl) ?_
      refine va_get (D := (dC, dI)) (ci := 0) (v := .ref (ad 12)) hx hb hts i_Text hown hK hP 0 rfl rfl 0 (by decide) (hts _ w_9acb6713a2) (fun _ h9 => h9) rfl d_Text_at_13 ?_
      refine lv_iload_n hx hb d_Text_at_16 rfl (lv_at hl 1 rfl) ?_
      obtain ⟨g_3, hF⟩ := gdE hF
      refine va_cald (f := (σ.2.2.1 0)) hx hb hK hP 12 2 rfl rfl (inE g_3) d_Text_at_17 ?_
      refine lv_goto (tgt := 23) hx hb d_Text_at_18 (by decide) ?_
      obtain ⟨g_4, hF⟩ := gdE hF
      cases hF
      exact leafZ X hP hD hS (nCN g_4) d_Text_at_23
theorem d_Text_isBlank_0 : decode b_Text_isBlank 0 = .ok (.aload_n 0, 1) := by decide +kernel
theorem d_Text_isBlank_1 : decode b_Text_isBlank 1 = .ok (.iload_n 1, 1) := by decide +kernel
theorem d_Text_isBlank_2 : decode b_Text_isBlank 2 = .ok (.invokevirtual 32, 3) := by decide +kernel
theorem d_Text_isBlank_5 : decode b_Text_isBlank 5 = .ok (.bipush 32, 2) := by decide +kernel
theorem d_Text_isBlank_7 : decode b_Text_isBlank 7 = .ok (.if_icmp .eq 13, 3) := by decide +kernel
theorem d_Text_isBlank_10 : decode b_Text_isBlank 10 = .ok (.aload_n 0, 1) := by decide +kernel
theorem d_Text_isBlank_11 : decode b_Text_isBlank 11 = .ok (.iload_n 1, 1) := by decide +kernel
theorem d_Text_isBlank_12 : decode b_Text_isBlank 12 = .ok (.invokevirtual 32, 3) := by decide +kernel
theorem d_Text_isBlank_15 : decode b_Text_isBlank 15 = .ok (.bipush 10, 2) := by decide +kernel
theorem d_Text_isBlank_17 : decode b_Text_isBlank 17 = .ok (.if_icmp .ne 7, 3) := by decide +kernel
theorem d_Text_isBlank_20 : decode b_Text_isBlank 20 = .ok (.iconst 1, 1) := by decide +kernel
theorem d_Text_isBlank_21 : decode b_Text_isBlank 21 = .ok (.goto 4, 3) := by decide +kernel
theorem d_Text_isBlank_24 : decode b_Text_isBlank 24 = .ok (.iconst 0, 1) := by decide +kernel
theorem d_Text_isBlank_25 : decode b_Text_isBlank 25 = .ok (.ireturn, 1) := by decide +kernel
def tText_isBlank (σ : St) (a1 : Int32) : Option (Int32) := b1 (tText_at σ a1) (fun r1 => if r1 = 32 then some 1 else b1 (tText_at σ a1) (fun r3 => if r3 = 10 then some 1 else some 0))
set_option maxHeartbeats 4000000 in
set_option maxRecDepth 100000 in
theorem ct_Text_isBlank (l : Launch) (dC : Nat → ClassId) (dI : Nat → Nat → Nat) (ad : Nat → Nat) (cA : Nat → ClassId) (sz : Nat) {σ : St} {a1 : Int32} {r : Int32} (hF : tText_isBlank σ a1 = some r) : MI l y_Text_isBlank b_Text_isBlank 2 (some .boolean) { frames := 1, cells := 0, slots := 0, locals := 21 } (dC, dI) (ttys cA) ad (tcw ad cA) [.ref (ad 0), .int a1] σ sz r σ := by
  refine startM (own := "TinyForge$Text") (Qc := fun A => QI (dC, dI) (ttys cA) (tcw ad cA) A r σ) rfl rfl (Nat.le_of_ble_eq_true rfl) ?_
  intro p e s m below meth c A H locs ls X hP hD hS hl
  have hl : lv_has ls 2 [(0, .ref (ad 0)), (1, .int a1)] := hl
  obtain ⟨hx, hb, hr, hml, hown, hlocks, hts, hA, hK, hZ⟩ := id X
  unfold tText_isBlank at hF
  refine lv_aload_n hx hb d_Text_isBlank_0 rfl (lv_at hl 0 rfl) ?_
  refine lv_iload_n hx hb d_Text_isBlank_1 rfl (lv_at hl 1 rfl) ?_
  obtain ⟨r1, h1, hF⟩ := b1E hF
  refine callVI (As := [.int a1]) X (ct_Text_at l dC dI ad cA H.size h1) lk_Text_32 ⟨rfl, rfl, by decide, by decide⟩ 0 rfl rfl hP hD hS hl.1 rfl rfl (Nat.le_of_ble_eq_true rfl) d_Text_isBlank_2 (fun H locs hP hD hS => ?_)
  refine lv_bipush (v := 32) hx hb d_Text_isBlank_5 (by decide) ?_
  refine lv_icmp_eq (tgt := 20) hx hb d_Text_isBlank_7 (by decide) (fun c_2 => ?_) (fun c_2 => ?_)
  · have hF := ifp hF c_2
    refine lv_iconst (v := 1) hx hb d_Text_isBlank_20 (by decide) ?_
    refine lv_goto (tgt := 25) hx hb d_Text_isBlank_21 (by decide) ?_
    cases hF
    exact leafZ X hP hD hS (by decide) d_Text_isBlank_25
  · have hF := ifn hF c_2
    refine lv_aload_n hx hb d_Text_isBlank_10 rfl (lv_at hl 0 rfl) ?_
    refine lv_iload_n hx hb d_Text_isBlank_11 rfl (lv_at hl 1 rfl) ?_
    obtain ⟨r3, h3, hF⟩ := b1E hF
    refine callVI (As := [.int a1]) X (ct_Text_at l dC dI ad cA H.size h3) lk_Text_32 ⟨rfl, rfl, by decide, by decide⟩ 0 rfl rfl hP hD hS hl.1 rfl rfl (Nat.le_of_ble_eq_true rfl) d_Text_isBlank_12 (fun H locs hP hD hS => ?_)
    refine lv_bipush (v := 10) hx hb d_Text_isBlank_15 (by decide) ?_
    refine lv_icmp_ne (tgt := 24) hx hb d_Text_isBlank_17 (by decide) (fun c_4 => ?_) (fun c_4 => ?_)
    · have hF := ifn hF c_4
      refine lv_iconst (v := 0) hx hb d_Text_isBlank_24 (by decide) ?_
      cases hF
      exact leafZ X hP hD hS (by decide) d_Text_isBlank_25
    · have hF := ifp hF c_4
      refine lv_iconst (v := 1) hx hb d_Text_isBlank_20 (by decide) ?_
      refine lv_goto (tgt := 25) hx hb d_Text_isBlank_21 (by decide) ?_
      cases hF
      exact leafZ X hP hD hS (by decide) d_Text_isBlank_25
theorem d_Text_isDigit_0 : decode b_Text_isDigit 0 = .ok (.aload_n 0, 1) := by decide +kernel
theorem d_Text_isDigit_1 : decode b_Text_isDigit 1 = .ok (.iload_n 1, 1) := by decide +kernel
theorem d_Text_isDigit_2 : decode b_Text_isDigit 2 = .ok (.invokevirtual 32, 3) := by decide +kernel
theorem d_Text_isDigit_5 : decode b_Text_isDigit 5 = .ok (.bipush 48, 2) := by decide +kernel
theorem d_Text_isDigit_7 : decode b_Text_isDigit 7 = .ok (.if_icmp .lt 17, 3) := by decide +kernel
theorem d_Text_isDigit_10 : decode b_Text_isDigit 10 = .ok (.aload_n 0, 1) := by decide +kernel
theorem d_Text_isDigit_11 : decode b_Text_isDigit 11 = .ok (.iload_n 1, 1) := by decide +kernel
theorem d_Text_isDigit_12 : decode b_Text_isDigit 12 = .ok (.invokevirtual 32, 3) := by decide +kernel
theorem d_Text_isDigit_15 : decode b_Text_isDigit 15 = .ok (.bipush 57, 2) := by decide +kernel
theorem d_Text_isDigit_17 : decode b_Text_isDigit 17 = .ok (.if_icmp .gt 7, 3) := by decide +kernel
theorem d_Text_isDigit_20 : decode b_Text_isDigit 20 = .ok (.iconst 1, 1) := by decide +kernel
theorem d_Text_isDigit_21 : decode b_Text_isDigit 21 = .ok (.goto 4, 3) := by decide +kernel
theorem d_Text_isDigit_24 : decode b_Text_isDigit 24 = .ok (.iconst 0, 1) := by decide +kernel
theorem d_Text_isDigit_25 : decode b_Text_isDigit 25 = .ok (.ireturn, 1) := by decide +kernel
def tText_isDigit (σ : St) (a1 : Int32) : Option (Int32) := b1 (tText_at σ a1) (fun r1 => if r1 < 48 then some 0 else b1 (tText_at σ a1) (fun r3 => if (57 : Int32) < r3 then some 0 else some 1))
set_option maxHeartbeats 4000000 in
set_option maxRecDepth 100000 in
theorem ct_Text_isDigit (l : Launch) (dC : Nat → ClassId) (dI : Nat → Nat → Nat) (ad : Nat → Nat) (cA : Nat → ClassId) (sz : Nat) {σ : St} {a1 : Int32} {r : Int32} (hF : tText_isDigit σ a1 = some r) : MI l y_Text_isDigit b_Text_isDigit 2 (some .boolean) { frames := 1, cells := 0, slots := 0, locals := 21 } (dC, dI) (ttys cA) ad (tcw ad cA) [.ref (ad 0), .int a1] σ sz r σ := by
  refine startM (own := "TinyForge$Text") (Qc := fun A => QI (dC, dI) (ttys cA) (tcw ad cA) A r σ) rfl rfl (Nat.le_of_ble_eq_true rfl) ?_
  intro p e s m below meth c A H locs ls X hP hD hS hl
  have hl : lv_has ls 2 [(0, .ref (ad 0)), (1, .int a1)] := hl
  obtain ⟨hx, hb, hr, hml, hown, hlocks, hts, hA, hK, hZ⟩ := id X
  unfold tText_isDigit at hF
  refine lv_aload_n hx hb d_Text_isDigit_0 rfl (lv_at hl 0 rfl) ?_
  refine lv_iload_n hx hb d_Text_isDigit_1 rfl (lv_at hl 1 rfl) ?_
  obtain ⟨r1, h1, hF⟩ := b1E hF
  refine callVI (As := [.int a1]) X (ct_Text_at l dC dI ad cA H.size h1) lk_Text_32 ⟨rfl, rfl, by decide, by decide⟩ 0 rfl rfl hP hD hS hl.1 rfl rfl (Nat.le_of_ble_eq_true rfl) d_Text_isDigit_2 (fun H locs hP hD hS => ?_)
  refine lv_bipush (v := 48) hx hb d_Text_isDigit_5 (by decide) ?_
  refine lv_icmp_lt (tgt := 24) hx hb d_Text_isDigit_7 (by decide) (fun c_2 => ?_) (fun c_2 => ?_)
  · have hF := ifp hF c_2
    refine lv_iconst (v := 0) hx hb d_Text_isDigit_24 (by decide) ?_
    cases hF
    exact leafZ X hP hD hS (by decide) d_Text_isDigit_25
  · have hF := ifn hF c_2
    refine lv_aload_n hx hb d_Text_isDigit_10 rfl (lv_at hl 0 rfl) ?_
    refine lv_iload_n hx hb d_Text_isDigit_11 rfl (lv_at hl 1 rfl) ?_
    obtain ⟨r3, h3, hF⟩ := b1E hF
    refine callVI (As := [.int a1]) X (ct_Text_at l dC dI ad cA H.size h3) lk_Text_32 ⟨rfl, rfl, by decide, by decide⟩ 0 rfl rfl hP hD hS hl.1 rfl rfl (Nat.le_of_ble_eq_true rfl) d_Text_isDigit_12 (fun H locs hP hD hS => ?_)
    refine lv_bipush (v := 57) hx hb d_Text_isDigit_15 (by decide) ?_
    refine lv_icmp_gt (tgt := 24) hx hb d_Text_isDigit_17 (by decide) (fun c_4 => ?_) (fun c_4 => ?_)
    · have hF := ifp hF c_4
      refine lv_iconst (v := 0) hx hb d_Text_isDigit_24 (by decide) ?_
      cases hF
      exact leafZ X hP hD hS (by decide) d_Text_isDigit_25
    · have hF := ifn hF c_4
      refine lv_iconst (v := 1) hx hb d_Text_isDigit_20 (by decide) ?_
      refine lv_goto (tgt := 25) hx hb d_Text_isDigit_21 (by decide) ?_
      cases hF
      exact leafZ X hP hD hS (by decide) d_Text_isDigit_25
theorem d_Text_isLetter_0 : decode b_Text_isLetter 0 = .ok (.aload_n 0, 1) := by decide +kernel
theorem d_Text_isLetter_1 : decode b_Text_isLetter 1 = .ok (.iload_n 1, 1) := by decide +kernel
theorem d_Text_isLetter_2 : decode b_Text_isLetter 2 = .ok (.invokevirtual 32, 3) := by decide +kernel
theorem d_Text_isLetter_5 : decode b_Text_isLetter 5 = .ok (.istore_n 2, 1) := by decide +kernel
theorem d_Text_isLetter_6 : decode b_Text_isLetter 6 = .ok (.iload_n 2, 1) := by decide +kernel
theorem d_Text_isLetter_7 : decode b_Text_isLetter 7 = .ok (.bipush 97, 2) := by decide +kernel
theorem d_Text_isLetter_9 : decode b_Text_isLetter 9 = .ok (.if_icmp .lt 9, 3) := by decide +kernel
theorem d_Text_isLetter_12 : decode b_Text_isLetter 12 = .ok (.iload_n 2, 1) := by decide +kernel
theorem d_Text_isLetter_13 : decode b_Text_isLetter 13 = .ok (.bipush 122, 2) := by decide +kernel
theorem d_Text_isLetter_15 : decode b_Text_isLetter 15 = .ok (.if_icmp .le 15, 3) := by decide +kernel
theorem d_Text_isLetter_18 : decode b_Text_isLetter 18 = .ok (.iload_n 2, 1) := by decide +kernel
theorem d_Text_isLetter_19 : decode b_Text_isLetter 19 = .ok (.bipush 65, 2) := by decide +kernel
theorem d_Text_isLetter_21 : decode b_Text_isLetter 21 = .ok (.if_icmp .lt 13, 3) := by decide +kernel
theorem d_Text_isLetter_24 : decode b_Text_isLetter 24 = .ok (.iload_n 2, 1) := by decide +kernel
theorem d_Text_isLetter_25 : decode b_Text_isLetter 25 = .ok (.bipush 90, 2) := by decide +kernel
theorem d_Text_isLetter_27 : decode b_Text_isLetter 27 = .ok (.if_icmp .gt 7, 3) := by decide +kernel
theorem d_Text_isLetter_30 : decode b_Text_isLetter 30 = .ok (.iconst 1, 1) := by decide +kernel
theorem d_Text_isLetter_31 : decode b_Text_isLetter 31 = .ok (.goto 4, 3) := by decide +kernel
theorem d_Text_isLetter_34 : decode b_Text_isLetter 34 = .ok (.iconst 0, 1) := by decide +kernel
theorem d_Text_isLetter_35 : decode b_Text_isLetter 35 = .ok (.ireturn, 1) := by decide +kernel
def tText_isLetter_b1 (k : Nat → St → Int32 → Option (Int32)) (σ : St) (x1 : Int32) : Option (Int32) := if x1 < 65 then some 0 else if (90 : Int32) < x1 then some 0 else some 1
def tText_isLetter_L : Nat → Nat → St → Int32 → Option (Int32)
  | 0, _, _, _ => none
  | n + 1, lab, σ, x1 => match lab with
    | 1 => tText_isLetter_b1 (tText_isLetter_L n) σ x1
    | _ => none
def tText_isLetter (σ : St) (a1 : Int32) : Option (Int32) := b1 (tText_at σ a1) (fun r1 => if r1 < 97 then tText_isLetter_L 2000 1 σ r1 else if r1 ≤ 122 then some 1 else tText_isLetter_L 2000 1 σ r1)
set_option maxHeartbeats 4000000 in
set_option maxRecDepth 100000 in
theorem tText_isLetter_blk {p : Program} {e : Env} {s : State} {m : MethodId} {args : Array Value} {below : List Frame} {meth : Method} {c : Code} {A : Nat → Prop} (l : Launch) (dC : Nat → ClassId) (dI : Nat → Nat → Nat) (ad : Nat → Nat) (cA : Nat → ClassId) {r : Int32} (X : Cx p s m args meth c b_Text_isLetter 3 (some .boolean) "TinyForge$Text" (dC, dI) (ttys cA) ad A) : ∀ n : Nat, (∀ (σ : St) (x1 : Int32) (H : Heap) (locs : List Loc) (ls : Array Slot), tText_isLetter_L n 1 σ x1 = some r → va_P (dC, dI) vwCl (tcw ad cA σ) H → va_D A (tcw ad cA σ) → va_S A s.heap H locs → lv_has ls 3 [(2, .int x1)] → W p l e { frames := 1, cells := 0, slots := 0, locals := 21 } s m args below meth c H locs 0 0 (MQ below (QI (dC, dI) (ttys cA) (tcw ad cA) A r σ) args s 0 0 A) (F0 m 18 ls [])) := by
  obtain ⟨hx, hb, hr, hml, hown, hlocks, hts, hA, hK, hZ⟩ := id X
  intro n
  induction n with
  | zero => exact (fun σ x1 H locs ls hF => by cases hF)
  | succ n ihn =>
    refine fun σ x1 H locs ls hF hP hD hS hl => ?_
    · have hF : tText_isLetter_b1 (tText_isLetter_L n) σ x1 = some r := hF
      unfold tText_isLetter_b1 at hF
      refine lv_iload_n hx hb d_Text_isLetter_18 rfl (lv_at hl 0 rfl) ?_
      refine lv_bipush (v := 65) hx hb d_Text_isLetter_19 (by decide) ?_
      refine lv_icmp_lt (tgt := 34) hx hb d_Text_isLetter_21 (by decide) (fun c_4 => ?_) (fun c_4 => ?_)
      · have hF := ifp hF c_4
        refine lv_iconst (v := 0) hx hb d_Text_isLetter_34 (by decide) ?_
        cases hF
        exact leafZ X hP hD hS (by decide) d_Text_isLetter_35
      · have hF := ifn hF c_4
        refine lv_iload_n hx hb d_Text_isLetter_24 rfl (lv_at hl 0 rfl) ?_
        refine lv_bipush (v := 90) hx hb d_Text_isLetter_25 (by decide) ?_
        refine lv_icmp_gt (tgt := 34) hx hb d_Text_isLetter_27 (by decide) (fun c_5 => ?_) (fun c_5 => ?_)
        · have hF := ifp hF c_5
          refine lv_iconst (v := 0) hx hb d_Text_isLetter_34 (by decide) ?_
          cases hF
          exact leafZ X hP hD hS (by decide) d_Text_isLetter_35
        · have hF := ifn hF c_5
          refine lv_iconst (v := 1) hx hb d_Text_isLetter_30 (by decide) ?_
          refine lv_goto (tgt := 35) hx hb d_Text_isLetter_31 (by decide) ?_
          cases hF
          exact leafZ X hP hD hS (by decide) d_Text_isLetter_35
set_option maxHeartbeats 4000000 in
set_option maxRecDepth 100000 in
theorem ct_Text_isLetter (l : Launch) (dC : Nat → ClassId) (dI : Nat → Nat → Nat) (ad : Nat → Nat) (cA : Nat → ClassId) (sz : Nat) {σ : St} {a1 : Int32} {r : Int32} (hF : tText_isLetter σ a1 = some r) : MI l y_Text_isLetter b_Text_isLetter 3 (some .boolean) { frames := 1, cells := 0, slots := 0, locals := 21 } (dC, dI) (ttys cA) ad (tcw ad cA) [.ref (ad 0), .int a1] σ sz r σ := by
  refine startM (own := "TinyForge$Text") (Qc := fun A => QI (dC, dI) (ttys cA) (tcw ad cA) A r σ) rfl rfl (Nat.le_of_ble_eq_true rfl) ?_
  intro p e s m below meth c A H locs ls X hP hD hS hl
  have hl : lv_has ls 3 [(0, .ref (ad 0)), (1, .int a1)] := hl
  obtain ⟨hx, hb, hr, hml, hown, hlocks, hts, hA, hK, hZ⟩ := id X
  unfold tText_isLetter at hF
  refine lv_aload_n hx hb d_Text_isLetter_0 rfl (lv_at hl 0 rfl) ?_
  refine lv_iload_n hx hb d_Text_isLetter_1 rfl (lv_at hl 1 rfl) ?_
  obtain ⟨r1, h1, hF⟩ := b1E hF
  refine callVI (As := [.int a1]) X (ct_Text_at l dC dI ad cA H.size h1) lk_Text_32 ⟨rfl, rfl, by decide, by decide⟩ 0 rfl rfl hP hD hS hl.1 rfl rfl (Nat.le_of_ble_eq_true rfl) d_Text_isLetter_2 (fun H locs hP hD hS => ?_)
  refine lv_istore_n (lv' := [(2, .int r1), (0, .ref (ad 0)), (1, .int a1)]) hx hb d_Text_isLetter_5 rfl hl (by decide) rfl (fun ls hl => ?_)
  refine lv_iload_n hx hb d_Text_isLetter_6 rfl (lv_at hl 0 rfl) ?_
  refine lv_bipush (v := 97) hx hb d_Text_isLetter_7 (by decide) ?_
  refine lv_icmp_lt (tgt := 18) hx hb d_Text_isLetter_9 (by decide) (fun c_2 => ?_) (fun c_2 => ?_)
  · have hF := ifp hF c_2
    exact (tText_isLetter_blk l dC dI ad cA X 2000) σ r1 H locs ls hF hP hD hS (lv_sub hl [0] rfl)
  · have hF := ifn hF c_2
    refine lv_iload_n hx hb d_Text_isLetter_12 rfl (lv_at hl 0 rfl) ?_
    refine lv_bipush (v := 122) hx hb d_Text_isLetter_13 (by decide) ?_
    refine lv_icmp_le (tgt := 30) hx hb d_Text_isLetter_15 (by decide) (fun c_3 => ?_) (fun c_3 => ?_)
    · have hF := ifp hF c_3
      refine lv_iconst (v := 1) hx hb d_Text_isLetter_30 (by decide) ?_
      refine lv_goto (tgt := 35) hx hb d_Text_isLetter_31 (by decide) ?_
      cases hF
      exact leafZ X hP hD hS (by decide) d_Text_isLetter_35
    · have hF := ifn hF c_3
      exact (tText_isLetter_blk l dC dI ad cA X 2000) σ r1 H locs ls hF hP hD hS (lv_sub hl [0] rfl)
theorem d_Text_spells_0 : decode b_Text_spells 0 = .ok (.iload_n 3, 1) := by decide +kernel
theorem d_Text_spells_1 : decode b_Text_spells 1 = .ok (.iload_n 2, 1) := by decide +kernel
theorem d_Text_spells_2 : decode b_Text_spells 2 = .ok (.isub, 1) := by decide +kernel
theorem d_Text_spells_3 : decode b_Text_spells 3 = .ok (.aload_n 1, 1) := by decide +kernel
theorem d_Text_spells_4 : decode b_Text_spells 4 = .ok (.invokevirtual 23, 3) := by decide +kernel
theorem d_Text_spells_7 : decode b_Text_spells 7 = .ok (.if_icmp .eq 5, 3) := by decide +kernel
theorem d_Text_spells_10 : decode b_Text_spells 10 = .ok (.iconst 0, 1) := by decide +kernel
theorem d_Text_spells_11 : decode b_Text_spells 11 = .ok (.ireturn, 1) := by decide +kernel
theorem d_Text_spells_12 : decode b_Text_spells 12 = .ok (.iconst 0, 1) := by decide +kernel
theorem d_Text_spells_13 : decode b_Text_spells 13 = .ok (.istore 4, 2) := by decide +kernel
theorem d_Text_spells_15 : decode b_Text_spells 15 = .ok (.iload 4, 2) := by decide +kernel
theorem d_Text_spells_17 : decode b_Text_spells 17 = .ok (.aload_n 1, 1) := by decide +kernel
theorem d_Text_spells_18 : decode b_Text_spells 18 = .ok (.invokevirtual 23, 3) := by decide +kernel
theorem d_Text_spells_21 : decode b_Text_spells 21 = .ok (.if_icmp .ge 28, 3) := by decide +kernel
theorem d_Text_spells_24 : decode b_Text_spells 24 = .ok (.aload_n 0, 1) := by decide +kernel
theorem d_Text_spells_25 : decode b_Text_spells 25 = .ok (.iload_n 2, 1) := by decide +kernel
theorem d_Text_spells_26 : decode b_Text_spells 26 = .ok (.iload 4, 2) := by decide +kernel
theorem d_Text_spells_28 : decode b_Text_spells 28 = .ok (.iadd, 1) := by decide +kernel
theorem d_Text_spells_29 : decode b_Text_spells 29 = .ok (.invokevirtual 32, 3) := by decide +kernel
theorem d_Text_spells_32 : decode b_Text_spells 32 = .ok (.aload_n 1, 1) := by decide +kernel
theorem d_Text_spells_33 : decode b_Text_spells 33 = .ok (.iload 4, 2) := by decide +kernel
theorem d_Text_spells_35 : decode b_Text_spells 35 = .ok (.invokevirtual 28, 3) := by decide +kernel
theorem d_Text_spells_38 : decode b_Text_spells 38 = .ok (.if_icmp .eq 5, 3) := by decide +kernel
theorem d_Text_spells_41 : decode b_Text_spells 41 = .ok (.iconst 0, 1) := by decide +kernel
theorem d_Text_spells_42 : decode b_Text_spells 42 = .ok (.ireturn, 1) := by decide +kernel
theorem d_Text_spells_43 : decode b_Text_spells 43 = .ok (.iinc 4 1, 3) := by decide +kernel
theorem d_Text_spells_46 : decode b_Text_spells 46 = .ok (.goto (-31), 3) := by decide +kernel
theorem d_Text_spells_49 : decode b_Text_spells 49 = .ok (.iconst 1, 1) := by decide +kernel
theorem d_Text_spells_50 : decode b_Text_spells 50 = .ok (.ireturn, 1) := by decide +kernel
def tText_spells_b1 (k : Nat → St → Int32 → Int32 → Nat → Option (Int32)) (σ : St) (x1 : Int32) (x2 : Int32) (z1 : Nat) : Option (Int32) := gd (sB z1) (b1 (tString_length σ z1) (fun r3 => if r3 ≤ x2 then some 1 else b1 (tText_at σ (x1 + x2)) (fun r5 => b1 (tString_charAt σ z1 x2) (fun r6 => if r5 = r6 then k 1 σ x1 (x2 + 1) z1 else some 0))))
def tText_spells_L : Nat → Nat → St → Int32 → Int32 → Nat → Option (Int32)
  | 0, _, _, _, _, _ => none
  | n + 1, lab, σ, x1, x2, z1 => match lab with
    | 1 => tText_spells_b1 (tText_spells_L n) σ x1 x2 z1
    | _ => none
def tText_spells (σ : St) (a1 : Nat) (a2 : Int32) (a3 : Int32) : Option (Int32) := gd (sB a1) (b1 (tString_length σ a1) (fun r1 => if (a3 - a2) = r1 then tText_spells_L 2000 1 σ a2 0 a1 else some 0))
set_option maxHeartbeats 4000000 in
set_option maxRecDepth 100000 in
theorem tText_spells_blk {p : Program} {e : Env} {s : State} {m : MethodId} {args : Array Value} {below : List Frame} {meth : Method} {c : Code} {A : Nat → Prop} (l : Launch) (dC : Nat → ClassId) (dI : Nat → Nat → Nat) (ad : Nat → Nat) (cA : Nat → ClassId) {r : Int32} (X : Cx p s m args meth c b_Text_spells 5 (some .boolean) "TinyForge$Text" (dC, dI) (ttys cA) ad A) : ∀ n : Nat, (∀ (σ : St) (x1 : Int32) (x2 : Int32) (z1 : Nat) (H : Heap) (locs : List Loc) (ls : Array Slot), tText_spells_L n 1 σ x1 x2 z1 = some r → va_P (dC, dI) vwCl (tcw ad cA σ) H → va_D A (tcw ad cA σ) → va_S A s.heap H locs → lv_has ls 5 [(0, .ref (ad 0)), (1, .ref (ad (100 + z1))), (2, .int x1), (4, .int x2)] → W p l e { frames := 4, cells := 0, slots := 0, locals := 85 } s m args below meth c H locs 0 0 (MQ below (QI (dC, dI) (ttys cA) (tcw ad cA) A r σ) args s 0 0 A) (F0 m 15 ls [])) := by
  obtain ⟨hx, hb, hr, hml, hown, hlocks, hts, hA, hK, hZ⟩ := id X
  intro n
  induction n with
  | zero => exact (fun σ x1 x2 z1 H locs ls hF => by cases hF)
  | succ n ihn =>
    refine fun σ x1 x2 z1 H locs ls hF hP hD hS hl => ?_
    · have hF : tText_spells_b1 (tText_spells_L n) σ x1 x2 z1 = some r := hF
      unfold tText_spells_b1 at hF
      obtain ⟨hs_z1, hF⟩ := gdE hF
      refine lv_iload hx hb d_Text_spells_15 (lv_at hl 3 rfl) ?_
      refine lv_aload_n hx hb d_Text_spells_17 rfl (lv_at hl 1 rfl) ?_
      obtain ⟨r3, h3, hF⟩ := b1E hF
      refine callZI (As := []) X (ct_String_length l dC dI ad cA H.size h3) lk_Text_23 ⟨rfl, rfl, by decide, by decide⟩ (sBE hs_z1) hP hD hS hl.1 rfl rfl (Nat.le_of_ble_eq_true rfl) d_Text_spells_18 (fun H locs hP hD hS => ?_)
      refine lv_icmp_ge (tgt := 49) hx hb d_Text_spells_21 (by decide) (fun c_4 => ?_) (fun c_4 => ?_)
      · have hF := ifp hF c_4
        refine lv_iconst (v := 1) hx hb d_Text_spells_49 (by decide) ?_
        cases hF
        exact leafZ X hP hD hS (by decide) d_Text_spells_50
      · have hF := ifn hF c_4
        refine lv_aload_n hx hb d_Text_spells_24 rfl (lv_at hl 0 rfl) ?_
        refine lv_iload_n hx hb d_Text_spells_25 rfl (lv_at hl 2 rfl) ?_
        refine lv_iload hx hb d_Text_spells_26 (lv_at hl 3 rfl) ?_
        refine lv_iadd hx hb d_Text_spells_28 ?_
        obtain ⟨r5, h5, hF⟩ := b1E hF
        refine callVI (As := [.int (x1 + x2)]) X (ct_Text_at l dC dI ad cA H.size h5) lk_Text_32 ⟨rfl, rfl, by decide, by decide⟩ 0 rfl rfl hP hD hS hl.1 rfl rfl (Nat.le_of_ble_eq_true rfl) d_Text_spells_29 (fun H locs hP hD hS => ?_)
        refine lv_aload_n hx hb d_Text_spells_32 rfl (lv_at hl 1 rfl) ?_
        refine lv_iload hx hb d_Text_spells_33 (lv_at hl 3 rfl) ?_
        obtain ⟨r6, h6, hF⟩ := b1E hF
        refine callZI (As := [.int x2]) X (ct_String_charAt l dC dI ad cA H.size h6) lk_Text_28 ⟨rfl, rfl, by decide, by decide⟩ (sBE hs_z1) hP hD hS hl.1 rfl rfl (Nat.le_of_ble_eq_true rfl) d_Text_spells_35 (fun H locs hP hD hS => ?_)
        refine lv_icmp_eq (tgt := 43) hx hb d_Text_spells_38 (by decide) (fun c_7 => ?_) (fun c_7 => ?_)
        · have hF := ifp hF c_7
          refine lv_iinc (v := (x2 + 1)) (lv' := [(4, .int (x2 + 1)), (0, .ref (ad 0)), (1, .ref (ad (100 + z1))), (2, .int x1)]) hx hb d_Text_spells_43 hl (k := 3) rfl rfl (by decide) rfl (fun ls hl => ?_)
          refine lv_goto (tgt := 15) hx hb d_Text_spells_46 (by decide) ?_
          exact ihn σ x1 (x2 + 1) z1 H locs ls hF hP hD hS (lv_sub hl [1, 2, 3, 0] rfl)
        · have hF := ifn hF c_7
          refine lv_iconst (v := 0) hx hb d_Text_spells_41 (by decide) ?_
          cases hF
          exact leafZ X hP hD hS (by decide) d_Text_spells_42
set_option maxHeartbeats 4000000 in
set_option maxRecDepth 100000 in
theorem ct_Text_spells (l : Launch) (dC : Nat → ClassId) (dI : Nat → Nat → Nat) (ad : Nat → Nat) (cA : Nat → ClassId) (sz : Nat) {σ : St} {a1 : Nat} {a2 : Int32} {a3 : Int32} {r : Int32} (hF : tText_spells σ a1 a2 a3 = some r) : MI l y_Text_spells b_Text_spells 5 (some .boolean) { frames := 4, cells := 0, slots := 0, locals := 85 } (dC, dI) (ttys cA) ad (tcw ad cA) [.ref (ad 0), .ref (ad (100 + a1)), .int a2, .int a3] σ sz r σ := by
  refine startM (own := "TinyForge$Text") (Qc := fun A => QI (dC, dI) (ttys cA) (tcw ad cA) A r σ) rfl rfl (Nat.le_of_ble_eq_true rfl) ?_
  intro p e s m below meth c A H locs ls X hP hD hS hl
  have hl : lv_has ls 5 [(0, .ref (ad 0)), (1, .ref (ad (100 + a1))), (2, .int a2), (3, .int a3)] := hl
  obtain ⟨hx, hb, hr, hml, hown, hlocks, hts, hA, hK, hZ⟩ := id X
  unfold tText_spells at hF
  obtain ⟨hs_a1, hF⟩ := gdE hF
  refine lv_iload_n hx hb d_Text_spells_0 rfl (lv_at hl 3 rfl) ?_
  refine lv_iload_n hx hb d_Text_spells_1 rfl (lv_at hl 2 rfl) ?_
  refine lv_isub hx hb d_Text_spells_2 ?_
  refine lv_aload_n hx hb d_Text_spells_3 rfl (lv_at hl 1 rfl) ?_
  obtain ⟨r1, h1, hF⟩ := b1E hF
  refine callZI (As := []) X (ct_String_length l dC dI ad cA H.size h1) lk_Text_23 ⟨rfl, rfl, by decide, by decide⟩ (sBE hs_a1) hP hD hS hl.1 rfl rfl (Nat.le_of_ble_eq_true rfl) d_Text_spells_4 (fun H locs hP hD hS => ?_)
  refine lv_icmp_eq (tgt := 12) hx hb d_Text_spells_7 (by decide) (fun c_2 => ?_) (fun c_2 => ?_)
  · have hF := ifp hF c_2
    refine lv_iconst (v := 0) hx hb d_Text_spells_12 (by decide) ?_
    refine lv_istore (lv' := [(4, .int 0), (0, .ref (ad 0)), (1, .ref (ad (100 + a1))), (2, .int a2), (3, .int a3)]) hx hb d_Text_spells_13 hl (by decide) rfl (fun ls hl => ?_)
    exact (tText_spells_blk l dC dI ad cA X 2000) σ a2 0 a1 H locs ls hF hP hD hS (lv_sub hl [1, 2, 3, 0] rfl)
  · have hF := ifn hF c_2
    refine lv_iconst (v := 0) hx hb d_Text_spells_10 (by decide) ?_
    cases hF
    exact leafZ X hP hD hS (by decide) d_Text_spells_11
theorem d_Input_add_0 : decode b_Input_add 0 = .ok (.aload_n 0, 1) := by decide +kernel
theorem d_Input_add_1 : decode b_Input_add 1 = .ok (.getfield 15, 3) := by decide +kernel
theorem d_Input_add_4 : decode b_Input_add 4 = .ok (.bipush 20, 2) := by decide +kernel
theorem d_Input_add_6 : decode b_Input_add 6 = .ok (.if_icmp .ge 23, 3) := by decide +kernel
theorem d_Input_add_9 : decode b_Input_add 9 = .ok (.aload_n 0, 1) := by decide +kernel
theorem d_Input_add_10 : decode b_Input_add 10 = .ok (.getfield 9, 3) := by decide +kernel
theorem d_Input_add_13 : decode b_Input_add 13 = .ok (.aload_n 0, 1) := by decide +kernel
theorem d_Input_add_14 : decode b_Input_add 14 = .ok (.getfield 15, 3) := by decide +kernel
theorem d_Input_add_17 : decode b_Input_add 17 = .ok (.iload_n 1, 1) := by decide +kernel
theorem d_Input_add_18 : decode b_Input_add 18 = .ok (.iastore, 1) := by decide +kernel
theorem d_Input_add_19 : decode b_Input_add 19 = .ok (.aload_n 0, 1) := by decide +kernel
theorem d_Input_add_20 : decode b_Input_add 20 = .ok (.dup, 1) := by decide +kernel
theorem d_Input_add_21 : decode b_Input_add 21 = .ok (.getfield 15, 3) := by decide +kernel
theorem d_Input_add_24 : decode b_Input_add 24 = .ok (.iconst 1, 1) := by decide +kernel
theorem d_Input_add_25 : decode b_Input_add 25 = .ok (.iadd, 1) := by decide +kernel
theorem d_Input_add_26 : decode b_Input_add 26 = .ok (.putfield 15, 3) := by decide +kernel
theorem d_Input_add_29 : decode b_Input_add 29 = .ok (.return_, 1) := by decide +kernel
def tInput_add (σ : St) (a1 : Int32) : Option (St) := if (20 : Int32) ≤ (σ.1 15) then some σ else gd (inB (σ.1 15) 20) (some (sI (sA σ 9 (upd (σ.2.2.1 9) (σ.1 15).toNatClampNeg a1)) 15 ((σ.1 15) + 1)))
set_option maxHeartbeats 4000000 in
set_option maxRecDepth 100000 in
theorem ct_Input_add (l : Launch) (dC : Nat → ClassId) (dI : Nat → Nat → Nat) (ad : Nat → Nat) (cA : Nat → ClassId) (sz : Nat) {σ : St} {a1 : Int32} {σ' : St} (hF : tInput_add σ a1 = some σ') : MV l y_Input_add b_Input_add 2 none { frames := 0, cells := 0, slots := 0, locals := 0 } (dC, dI) (ttys cA) ad (tcw ad cA) [.ref (ad 8), .int a1] σ sz σ' := by
  refine startM (own := "TinyForge$Input") (Qc := fun A => QV (dC, dI) (ttys cA) (tcw ad cA) A σ') rfl rfl (Nat.le_of_ble_eq_true rfl) ?_
  intro p e s m below meth c A H locs ls X hP hD hS hl
  have hl : lv_has ls 2 [(0, .ref (ad 8)), (1, .int a1)] := hl
  obtain ⟨hx, hb, hr, hml, hown, hlocks, hts, hA, hK, hZ⟩ := id X
  unfold tInput_add at hF
  refine lv_aload_n hx hb d_Input_add_0 rfl (lv_at hl 0 rfl) ?_
  refine va_get (D := (dC, dI)) (ci := 8) (v := .int (σ.1 15)) hx hb hts i_Input hown hK hP 8 rfl rfl 1 (by decide) (hts _ w_61ccb63e64) (fun _ h9 => h9) rfl d_Input_add_1 ?_
  refine lv_bipush (v := 20) hx hb d_Input_add_4 (by decide) ?_
  refine lv_icmp_ge (tgt := 29) hx hb d_Input_add_6 (by decide) (fun c_1 => ?_) (fun c_1 => ?_)
  · have hF := ifp hF c_1
    cases hF
    exact leafV X hP hD hS d_Input_add_29
  · have hF := ifn hF c_1
    refine lv_aload_n hx hb d_Input_add_9 rfl (lv_at hl 0 rfl) ?_
    refine va_get (D := (dC, dI)) (ci := 8) (v := .ref (ad 24)) hx hb hts i_Input hown hK hP 8 rfl rfl 0 (by decide) (hts _ w_dadc8f78fa) (fun _ h9 => h9) rfl d_Input_add_10 ?_
    refine lv_aload_n hx hb d_Input_add_13 rfl (lv_at hl 0 rfl) ?_
    refine va_get (D := (dC, dI)) (ci := 8) (v := .int (σ.1 15)) hx hb hts i_Input hown hK hP 8 rfl rfl 1 (by decide) (hts _ w_61ccb63e64) (fun _ h9 => h9) rfl d_Input_add_14 ?_
    refine lv_iload_n hx hb d_Input_add_17 rfl (lv_at hl 1 rfl) ?_
    obtain ⟨g_2, hF⟩ := gdE hF
    refine va_iast (f := (σ.2.2.1 9)) hx hb hK hP hD hS 24 0 rfl rfl (inE g_2) d_Input_add_18 (fun H locs hP hD hS => ?_)
    have hP : va_P (dC, dI) vwCl (tcw ad cA (sA σ 9 (upd (σ.2.2.1 9) (σ.1 15).toNatClampNeg a1))) H := hP
    have hD : va_D A (tcw ad cA (sA σ 9 (upd (σ.2.2.1 9) (σ.1 15).toNatClampNeg a1))) := hD
    refine lv_aload_n hx hb d_Input_add_19 rfl (lv_at hl 0 rfl) ?_
    refine lv_dup hx hb d_Input_add_20 rfl ?_
    refine va_get (D := (dC, dI)) (ci := 8) (v := .int (σ.1 15)) hx hb hts i_Input hown hK hP 8 rfl rfl 1 (by decide) (hts _ w_61ccb63e64) (fun _ h9 => h9) rfl d_Input_add_21 ?_
    refine lv_iconst (v := 1) hx hb d_Input_add_24 (by decide) ?_
    refine lv_iadd hx hb d_Input_add_25 ?_
    refine va_put (D := (dC, dI)) (ci := 8) (v := .int ((σ.1 15) + 1)) (ty := .int) hx hb hts i_Input t_Input t_Input_ok n_Input hown hK hP hD hS 8 rfl rfl 1 (by decide) (hts _ w_61ccb63e64) (fun _ h9 => h9) rfl (by decide +kernel) rfl rfl (Nat.le_of_ble_eq_true rfl) d_Input_add_26 (fun H locs hP hD hS => ?_)
    have hP : va_P (dC, dI) vwCl (tcw ad cA (sI (sA σ 9 (upd (σ.2.2.1 9) (σ.1 15).toNatClampNeg a1)) 15 ((σ.1 15) + 1))) H := hP
    have hD : va_D A (tcw ad cA (sI (sA σ 9 (upd (σ.2.2.1 9) (σ.1 15).toNatClampNeg a1)) 15 ((σ.1 15) + 1))) := hD
    cases hF
    exact leafV X hP hD hS d_Input_add_29
theorem d_Input_take_0 : decode b_Input_take 0 = .ok (.aload_n 0, 1) := by decide +kernel
theorem d_Input_take_1 : decode b_Input_take 1 = .ok (.getfield 19, 3) := by decide +kernel
theorem d_Input_take_4 : decode b_Input_take 4 = .ok (.aload_n 0, 1) := by decide +kernel
theorem d_Input_take_5 : decode b_Input_take 5 = .ok (.getfield 15, 3) := by decide +kernel
theorem d_Input_take_8 : decode b_Input_take 8 = .ok (.if_icmp .lt 5, 3) := by decide +kernel
theorem d_Input_take_11 : decode b_Input_take 11 = .ok (.iconst 0, 1) := by decide +kernel
theorem d_Input_take_12 : decode b_Input_take 12 = .ok (.ireturn, 1) := by decide +kernel
theorem d_Input_take_13 : decode b_Input_take 13 = .ok (.aload_n 0, 1) := by decide +kernel
theorem d_Input_take_14 : decode b_Input_take 14 = .ok (.dup, 1) := by decide +kernel
theorem d_Input_take_15 : decode b_Input_take 15 = .ok (.getfield 19, 3) := by decide +kernel
theorem d_Input_take_18 : decode b_Input_take 18 = .ok (.iconst 1, 1) := by decide +kernel
theorem d_Input_take_19 : decode b_Input_take 19 = .ok (.iadd, 1) := by decide +kernel
theorem d_Input_take_20 : decode b_Input_take 20 = .ok (.putfield 19, 3) := by decide +kernel
theorem d_Input_take_23 : decode b_Input_take 23 = .ok (.aload_n 0, 1) := by decide +kernel
theorem d_Input_take_24 : decode b_Input_take 24 = .ok (.getfield 9, 3) := by decide +kernel
theorem d_Input_take_27 : decode b_Input_take 27 = .ok (.aload_n 0, 1) := by decide +kernel
theorem d_Input_take_28 : decode b_Input_take 28 = .ok (.getfield 19, 3) := by decide +kernel
theorem d_Input_take_31 : decode b_Input_take 31 = .ok (.iconst 1, 1) := by decide +kernel
theorem d_Input_take_32 : decode b_Input_take 32 = .ok (.isub, 1) := by decide +kernel
theorem d_Input_take_33 : decode b_Input_take 33 = .ok (.iaload, 1) := by decide +kernel
theorem d_Input_take_34 : decode b_Input_take 34 = .ok (.ireturn, 1) := by decide +kernel
def tInput_take (σ : St) : Option (Int32 × St) := if (σ.1 16) < (σ.1 15) then gd (inB (((σ.1 16) + 1) - 1) 20) (some (((σ.2.2.1 9) (((σ.1 16) + 1) - 1).toNatClampNeg), (sI σ 16 ((σ.1 16) + 1)))) else some (0, σ)
set_option maxHeartbeats 4000000 in
set_option maxRecDepth 100000 in
theorem ct_Input_take (l : Launch) (dC : Nat → ClassId) (dI : Nat → Nat → Nat) (ad : Nat → Nat) (cA : Nat → ClassId) (sz : Nat) {σ : St} {r : Int32} {σ' : St} (hF : tInput_take σ = some (r, σ')) : MI l y_Input_take b_Input_take 1 (some .int) { frames := 0, cells := 0, slots := 0, locals := 0 } (dC, dI) (ttys cA) ad (tcw ad cA) [.ref (ad 8)] σ sz r σ' := by
  refine startM (own := "TinyForge$Input") (Qc := fun A => QI (dC, dI) (ttys cA) (tcw ad cA) A r σ') rfl rfl (Nat.le_of_ble_eq_true rfl) ?_
  intro p e s m below meth c A H locs ls X hP hD hS hl
  have hl : lv_has ls 1 [(0, .ref (ad 8))] := hl
  obtain ⟨hx, hb, hr, hml, hown, hlocks, hts, hA, hK, hZ⟩ := id X
  unfold tInput_take at hF
  refine lv_aload_n hx hb d_Input_take_0 rfl (lv_at hl 0 rfl) ?_
  refine va_get (D := (dC, dI)) (ci := 8) (v := .int (σ.1 16)) hx hb hts i_Input hown hK hP 8 rfl rfl 2 (by decide) (hts _ w_cb146ba846) (fun _ h9 => h9) rfl d_Input_take_1 ?_
  refine lv_aload_n hx hb d_Input_take_4 rfl (lv_at hl 0 rfl) ?_
  refine va_get (D := (dC, dI)) (ci := 8) (v := .int (σ.1 15)) hx hb hts i_Input hown hK hP 8 rfl rfl 1 (by decide) (hts _ w_61ccb63e64) (fun _ h9 => h9) rfl d_Input_take_5 ?_
  refine lv_icmp_lt (tgt := 13) hx hb d_Input_take_8 (by decide) (fun c_1 => ?_) (fun c_1 => ?_)
  · have hF := ifp hF c_1
    refine lv_aload_n hx hb d_Input_take_13 rfl (lv_at hl 0 rfl) ?_
    refine lv_dup hx hb d_Input_take_14 rfl ?_
    refine va_get (D := (dC, dI)) (ci := 8) (v := .int (σ.1 16)) hx hb hts i_Input hown hK hP 8 rfl rfl 2 (by decide) (hts _ w_cb146ba846) (fun _ h9 => h9) rfl d_Input_take_15 ?_
    refine lv_iconst (v := 1) hx hb d_Input_take_18 (by decide) ?_
    refine lv_iadd hx hb d_Input_take_19 ?_
    refine va_put (D := (dC, dI)) (ci := 8) (v := .int ((σ.1 16) + 1)) (ty := .int) hx hb hts i_Input t_Input t_Input_ok n_Input hown hK hP hD hS 8 rfl rfl 2 (by decide) (hts _ w_cb146ba846) (fun _ h9 => h9) rfl (by decide +kernel) rfl rfl (Nat.le_of_ble_eq_true rfl) d_Input_take_20 (fun H locs hP hD hS => ?_)
    have hP : va_P (dC, dI) vwCl (tcw ad cA (sI σ 16 ((σ.1 16) + 1))) H := hP
    have hD : va_D A (tcw ad cA (sI σ 16 ((σ.1 16) + 1))) := hD
    refine lv_aload_n hx hb d_Input_take_23 rfl (lv_at hl 0 rfl) ?_
    refine va_get (D := (dC, dI)) (ci := 8) (v := .ref (ad 24)) hx hb hts i_Input hown hK hP 8 rfl rfl 0 (by decide) (hts _ w_dadc8f78fa) (fun _ h9 => h9) rfl d_Input_take_24 ?_
    refine lv_aload_n hx hb d_Input_take_27 rfl (lv_at hl 0 rfl) ?_
    refine va_get (D := (dC, dI)) (ci := 8) (v := .int ((σ.1 16) + 1)) hx hb hts i_Input hown hK hP 8 rfl rfl 2 (by decide) (hts _ w_cb146ba846) (fun _ h9 => h9) rfl d_Input_take_28 ?_
    refine lv_iconst (v := 1) hx hb d_Input_take_31 (by decide) ?_
    refine lv_isub hx hb d_Input_take_32 ?_
    obtain ⟨g_2, hF⟩ := gdE hF
    refine va_iald (f := (σ.2.2.1 9)) hx hb hK hP 24 0 rfl rfl (inE g_2) d_Input_take_33 ?_
    cases hF
    exact leafI X hP hD hS d_Input_take_34
  · have hF := ifn hF c_1
    refine lv_iconst (v := 0) hx hb d_Input_take_11 (by decide) ?_
    cases hF
    exact leafI X hP hD hS d_Input_take_12
theorem d_Text_byteOf_0 : decode b_Text_byteOf 0 = .ok (.lload_n 0, 1) := by decide +kernel
theorem d_Text_byteOf_1 : decode b_Text_byteOf 1 = .ok (.bipush 8, 2) := by decide +kernel
theorem d_Text_byteOf_3 : decode b_Text_byteOf 3 = .ok (.iload_n 2, 1) := by decide +kernel
theorem d_Text_byteOf_4 : decode b_Text_byteOf 4 = .ok (.imul, 1) := by decide +kernel
theorem d_Text_byteOf_5 : decode b_Text_byteOf 5 = .ok (.lushr, 1) := by decide +kernel
theorem d_Text_byteOf_6 : decode b_Text_byteOf 6 = .ok (.l2i, 1) := by decide +kernel
theorem d_Text_byteOf_7 : decode b_Text_byteOf 7 = .ok (.sipush 255, 3) := by decide +kernel
theorem d_Text_byteOf_10 : decode b_Text_byteOf 10 = .ok (.iand, 1) := by decide +kernel
theorem d_Text_byteOf_11 : decode b_Text_byteOf 11 = .ok (.ireturn, 1) := by decide +kernel
def tText_byteOf (σ : St) (a1 : Int64) (a2 : Int32) : Option (Int32) := some ((((a1.toUInt64 >>> (((8 * a2) : Int32).toInt64.toUInt64 &&& Int64.toUInt64 63)).toInt64 : Int64).toInt32) &&& 255)
set_option maxHeartbeats 4000000 in
set_option maxRecDepth 100000 in
theorem ct_Text_byteOf (l : Launch) (dC : Nat → ClassId) (dI : Nat → Nat → Nat) (ad : Nat → Nat) (cA : Nat → ClassId) (sz : Nat) {σ : St} {a1 : Int64} {a2 : Int32} {r : Int32} (hF : tText_byteOf σ a1 a2 = some r) : MI l y_Text_byteOf b_Text_byteOf 3 (some .int) { frames := 0, cells := 0, slots := 0, locals := 0 } (dC, dI) (ttys cA) ad (tcw ad cA) [.long a1, .int a2] σ sz r σ := by
  refine startM (own := "TinyForge$Text") (Qc := fun A => QI (dC, dI) (ttys cA) (tcw ad cA) A r σ) rfl rfl (Nat.le_of_ble_eq_true rfl) ?_
  intro p e s m below meth c A H locs ls X hP hD hS hl
  have hl : lv_has ls 3 [(0, .long a1), (2, .int a2)] := hl
  obtain ⟨hx, hb, hr, hml, hown, hlocks, hts, hA, hK, hZ⟩ := id X
  unfold tText_byteOf at hF
  refine lv_lload_n hx hb d_Text_byteOf_0 rfl (lv_at hl 0 rfl) ?_
  refine lv_bipush (v := 8) hx hb d_Text_byteOf_1 (by decide) ?_
  refine lv_iload_n hx hb d_Text_byteOf_3 rfl (lv_at hl 1 rfl) ?_
  refine lv_imul hx hb d_Text_byteOf_4 ?_
  refine lv_lushr (v := (a1.toUInt64 >>> (((8 * a2) : Int32).toInt64.toUInt64 &&& Int64.toUInt64 63)).toInt64) hx hb d_Text_byteOf_5 rfl ?_
  refine lv_l2i (v := ((a1.toUInt64 >>> (((8 * a2) : Int32).toInt64.toUInt64 &&& Int64.toUInt64 63)).toInt64 : Int64).toInt32) hx hb d_Text_byteOf_6 rfl ?_
  refine lv_sipush (v := 255) hx hb d_Text_byteOf_7 (by decide) ?_
  refine lv_iand hx hb d_Text_byteOf_10 ?_
  cases hF
  exact leafI X hP hD hS d_Text_byteOf_11
theorem d_Text_add_0 : decode b_Text_add 0 = .ok (.iconst 0, 1) := by decide +kernel
theorem d_Text_add_1 : decode b_Text_add 1 = .ok (.istore 4, 2) := by decide +kernel
theorem d_Text_add_3 : decode b_Text_add 3 = .ok (.iload 4, 2) := by decide +kernel
theorem d_Text_add_5 : decode b_Text_add 5 = .ok (.iload_n 3, 1) := by decide +kernel
theorem d_Text_add_6 : decode b_Text_add 6 = .ok (.if_icmp .ge 45, 3) := by decide +kernel
theorem d_Text_add_9 : decode b_Text_add 9 = .ok (.aload_n 0, 1) := by decide +kernel
theorem d_Text_add_10 : decode b_Text_add 10 = .ok (.getfield 15, 3) := by decide +kernel
theorem d_Text_add_13 : decode b_Text_add 13 = .ok (.sipush 480, 3) := by decide +kernel
theorem d_Text_add_16 : decode b_Text_add 16 = .ok (.if_icmp .ge 35, 3) := by decide +kernel
theorem d_Text_add_19 : decode b_Text_add 19 = .ok (.aload_n 0, 1) := by decide +kernel
theorem d_Text_add_20 : decode b_Text_add 20 = .ok (.getfield 9, 3) := by decide +kernel
theorem d_Text_add_23 : decode b_Text_add 23 = .ok (.aload_n 0, 1) := by decide +kernel
theorem d_Text_add_24 : decode b_Text_add 24 = .ok (.getfield 15, 3) := by decide +kernel
theorem d_Text_add_27 : decode b_Text_add 27 = .ok (.lload_n 1, 1) := by decide +kernel
theorem d_Text_add_28 : decode b_Text_add 28 = .ok (.iload 4, 2) := by decide +kernel
theorem d_Text_add_30 : decode b_Text_add 30 = .ok (.invokestatic 19, 3) := by decide +kernel
theorem d_Text_add_33 : decode b_Text_add 33 = .ok (.i2c, 1) := by decide +kernel
theorem d_Text_add_34 : decode b_Text_add 34 = .ok (.castore, 1) := by decide +kernel
theorem d_Text_add_35 : decode b_Text_add 35 = .ok (.aload_n 0, 1) := by decide +kernel
theorem d_Text_add_36 : decode b_Text_add 36 = .ok (.dup, 1) := by decide +kernel
theorem d_Text_add_37 : decode b_Text_add 37 = .ok (.getfield 15, 3) := by decide +kernel
theorem d_Text_add_40 : decode b_Text_add 40 = .ok (.iconst 1, 1) := by decide +kernel
theorem d_Text_add_41 : decode b_Text_add 41 = .ok (.iadd, 1) := by decide +kernel
theorem d_Text_add_42 : decode b_Text_add 42 = .ok (.putfield 15, 3) := by decide +kernel
theorem d_Text_add_45 : decode b_Text_add 45 = .ok (.iinc 4 1, 3) := by decide +kernel
theorem d_Text_add_48 : decode b_Text_add 48 = .ok (.goto (-45), 3) := by decide +kernel
theorem d_Text_add_51 : decode b_Text_add 51 = .ok (.return_, 1) := by decide +kernel
def tText_add_b1 (k : Nat → St → Int32 → Int32 → Int64 → Option (St)) (σ : St) (x1 : Int32) (x2 : Int32) (y1 : Int64) : Option (St) := if x1 ≤ x2 then some σ else if (480 : Int32) ≤ (σ.1 0) then some σ else b1 (tText_byteOf σ y1 x2) (fun r3 => gd (inB (σ.1 0) 480) (k 1 (sI (sA σ 0 (upd (σ.2.2.1 0) (σ.1 0).toNatClampNeg (vp_nar .char (((r3 : Int32).toUInt32 % 65536).toInt32)))) 0 ((σ.1 0) + 1)) x1 (x2 + 1) y1))
def tText_add_L : Nat → Nat → St → Int32 → Int32 → Int64 → Option (St)
  | 0, _, _, _, _, _ => none
  | n + 1, lab, σ, x1, x2, y1 => match lab with
    | 1 => tText_add_b1 (tText_add_L n) σ x1 x2 y1
    | _ => none
def tText_add (σ : St) (a1 : Int64) (a2 : Int32) : Option (St) := tText_add_L 2000 1 σ a2 0 a1
set_option maxHeartbeats 4000000 in
set_option maxRecDepth 100000 in
theorem tText_add_blk {p : Program} {e : Env} {s : State} {m : MethodId} {args : Array Value} {below : List Frame} {meth : Method} {c : Code} {A : Nat → Prop} (l : Launch) (dC : Nat → ClassId) (dI : Nat → Nat → Nat) (ad : Nat → Nat) (cA : Nat → ClassId) {σ' : St} (X : Cx p s m args meth c b_Text_add 5 none "TinyForge$Text" (dC, dI) (ttys cA) ad A) : ∀ n : Nat, (∀ (σ : St) (x1 : Int32) (x2 : Int32) (y1 : Int64) (H : Heap) (locs : List Loc) (ls : Array Slot), tText_add_L n 1 σ x1 x2 y1 = some σ' → va_P (dC, dI) vwCl (tcw ad cA σ) H → va_D A (tcw ad cA σ) → va_S A s.heap H locs → lv_has ls 5 [(0, .ref (ad 0)), (1, .long y1), (3, .int x1), (4, .int x2)] → W p l e { frames := 1, cells := 0, slots := 0, locals := 22 } s m args below meth c H locs 0 0 (MQ below (QV (dC, dI) (ttys cA) (tcw ad cA) A σ') args s 0 0 A) (F0 m 3 ls [])) := by
  obtain ⟨hx, hb, hr, hml, hown, hlocks, hts, hA, hK, hZ⟩ := id X
  intro n
  induction n with
  | zero => exact (fun σ x1 x2 y1 H locs ls hF => by cases hF)
  | succ n ihn =>
    refine fun σ x1 x2 y1 H locs ls hF hP hD hS hl => ?_
    · have hF : tText_add_b1 (tText_add_L n) σ x1 x2 y1 = some σ' := hF
      unfold tText_add_b1 at hF
      refine lv_iload hx hb d_Text_add_3 (lv_at hl 3 rfl) ?_
      refine lv_iload_n hx hb d_Text_add_5 rfl (lv_at hl 2 rfl) ?_
      refine lv_icmp_ge (tgt := 51) hx hb d_Text_add_6 (by decide) (fun c_1 => ?_) (fun c_1 => ?_)
      · have hF := ifp hF c_1
        cases hF
        exact leafV X hP hD hS d_Text_add_51
      · have hF := ifn hF c_1
        refine lv_aload_n hx hb d_Text_add_9 rfl (lv_at hl 0 rfl) ?_
        refine va_get (D := (dC, dI)) (ci := 0) (v := .int (σ.1 0)) hx hb hts i_Text hown hK hP 0 rfl rfl 1 (by decide) (hts _ w_7879a7e969) (fun _ h9 => h9) rfl d_Text_add_10 ?_
        refine lv_sipush (v := 480) hx hb d_Text_add_13 (by decide) ?_
        refine lv_icmp_ge (tgt := 51) hx hb d_Text_add_16 (by decide) (fun c_2 => ?_) (fun c_2 => ?_)
        · have hF := ifp hF c_2
          cases hF
          exact leafV X hP hD hS d_Text_add_51
        · have hF := ifn hF c_2
          refine lv_aload_n hx hb d_Text_add_19 rfl (lv_at hl 0 rfl) ?_
          refine va_get (D := (dC, dI)) (ci := 0) (v := .ref (ad 12)) hx hb hts i_Text hown hK hP 0 rfl rfl 0 (by decide) (hts _ w_9acb6713a2) (fun _ h9 => h9) rfl d_Text_add_20 ?_
          refine lv_aload_n hx hb d_Text_add_23 rfl (lv_at hl 0 rfl) ?_
          refine va_get (D := (dC, dI)) (ci := 0) (v := .int (σ.1 0)) hx hb hts i_Text hown hK hP 0 rfl rfl 1 (by decide) (hts _ w_7879a7e969) (fun _ h9 => h9) rfl d_Text_add_24 ?_
          refine lv_lload_n hx hb d_Text_add_27 rfl (lv_at hl 1 rfl) ?_
          refine lv_iload hx hb d_Text_add_28 (lv_at hl 3 rfl) ?_
          obtain ⟨r3, h3, hF⟩ := b1E hF
          refine callSI (As := [.long y1, .int x2]) X (ct_Text_byteOf l dC dI ad cA H.size h3) lk_Text_19 ⟨rfl, rfl, by decide, by decide⟩ hP hD hS hl.1 rfl rfl (Nat.le_of_ble_eq_true rfl) d_Text_add_30 (fun H locs hP hD hS => ?_)
          refine lv_i2c (v := ((r3 : Int32).toUInt32 % 65536).toInt32) hx hb d_Text_add_33 rfl ?_
          obtain ⟨g_4, hF⟩ := gdE hF
          refine va_cast (f := (σ.2.2.1 0)) hx hb hK hP hD hS 12 2 rfl rfl (inE g_4) d_Text_add_34 (fun H locs hP hD hS => ?_)
          have hP : va_P (dC, dI) vwCl (tcw ad cA (sA σ 0 (upd (σ.2.2.1 0) (σ.1 0).toNatClampNeg (vp_nar .char (((r3 : Int32).toUInt32 % 65536).toInt32))))) H := hP
          have hD : va_D A (tcw ad cA (sA σ 0 (upd (σ.2.2.1 0) (σ.1 0).toNatClampNeg (vp_nar .char (((r3 : Int32).toUInt32 % 65536).toInt32))))) := hD
          refine lv_aload_n hx hb d_Text_add_35 rfl (lv_at hl 0 rfl) ?_
          refine lv_dup hx hb d_Text_add_36 rfl ?_
          refine va_get (D := (dC, dI)) (ci := 0) (v := .int (σ.1 0)) hx hb hts i_Text hown hK hP 0 rfl rfl 1 (by decide) (hts _ w_7879a7e969) (fun _ h9 => h9) rfl d_Text_add_37 ?_
          refine lv_iconst (v := 1) hx hb d_Text_add_40 (by decide) ?_
          refine lv_iadd hx hb d_Text_add_41 ?_
          refine va_put (D := (dC, dI)) (ci := 0) (v := .int ((σ.1 0) + 1)) (ty := .int) hx hb hts i_Text t_Text t_Text_ok n_Text hown hK hP hD hS 0 rfl rfl 1 (by decide) (hts _ w_7879a7e969) (fun _ h9 => h9) rfl (by decide +kernel) rfl rfl (Nat.le_of_ble_eq_true rfl) d_Text_add_42 (fun H locs hP hD hS => ?_)
          have hP : va_P (dC, dI) vwCl (tcw ad cA (sI (sA σ 0 (upd (σ.2.2.1 0) (σ.1 0).toNatClampNeg (vp_nar .char (((r3 : Int32).toUInt32 % 65536).toInt32)))) 0 ((σ.1 0) + 1))) H := hP
          have hD : va_D A (tcw ad cA (sI (sA σ 0 (upd (σ.2.2.1 0) (σ.1 0).toNatClampNeg (vp_nar .char (((r3 : Int32).toUInt32 % 65536).toInt32)))) 0 ((σ.1 0) + 1))) := hD
          refine lv_iinc (v := (x2 + 1)) (lv' := [(4, .int (x2 + 1)), (0, .ref (ad 0)), (1, .long y1), (3, .int x1)]) hx hb d_Text_add_45 hl (k := 3) rfl rfl (by decide) rfl (fun ls hl => ?_)
          refine lv_goto (tgt := 3) hx hb d_Text_add_48 (by decide) ?_
          exact ihn (sI (sA σ 0 (upd (σ.2.2.1 0) (σ.1 0).toNatClampNeg (vp_nar .char (((r3 : Int32).toUInt32 % 65536).toInt32)))) 0 ((σ.1 0) + 1)) x1 (x2 + 1) y1 H locs ls hF hP hD hS (lv_sub hl [1, 2, 3, 0] rfl)
set_option maxHeartbeats 4000000 in
set_option maxRecDepth 100000 in
theorem ct_Text_add (l : Launch) (dC : Nat → ClassId) (dI : Nat → Nat → Nat) (ad : Nat → Nat) (cA : Nat → ClassId) (sz : Nat) {σ : St} {a1 : Int64} {a2 : Int32} {σ' : St} (hF : tText_add σ a1 a2 = some σ') : MV l y_Text_add b_Text_add 5 none { frames := 1, cells := 0, slots := 0, locals := 22 } (dC, dI) (ttys cA) ad (tcw ad cA) [.ref (ad 0), .long a1, .int a2] σ sz σ' := by
  refine startM (own := "TinyForge$Text") (Qc := fun A => QV (dC, dI) (ttys cA) (tcw ad cA) A σ') rfl rfl (Nat.le_of_ble_eq_true rfl) ?_
  intro p e s m below meth c A H locs ls X hP hD hS hl
  have hl : lv_has ls 5 [(0, .ref (ad 0)), (1, .long a1), (3, .int a2)] := hl
  obtain ⟨hx, hb, hr, hml, hown, hlocks, hts, hA, hK, hZ⟩ := id X
  unfold tText_add at hF
  refine lv_iconst (v := 0) hx hb d_Text_add_0 (by decide) ?_
  refine lv_istore (lv' := [(4, .int 0), (0, .ref (ad 0)), (1, .long a1), (3, .int a2)]) hx hb d_Text_add_1 hl (by decide) rfl (fun ls hl => ?_)
  exact (tText_add_blk l dC dI ad cA X 2000) σ a2 0 a1 H locs ls hF hP hD hS (lv_sub hl [1, 2, 3, 0] rfl)
theorem d_Text_areCharacters_0 : decode b_Text_areCharacters 0 = .ok (.iconst 0, 1) := by decide +kernel
theorem d_Text_areCharacters_1 : decode b_Text_areCharacters 1 = .ok (.istore_n 3, 1) := by decide +kernel
theorem d_Text_areCharacters_2 : decode b_Text_areCharacters 2 = .ok (.iload_n 3, 1) := by decide +kernel
theorem d_Text_areCharacters_3 : decode b_Text_areCharacters 3 = .ok (.iload_n 2, 1) := by decide +kernel
theorem d_Text_areCharacters_4 : decode b_Text_areCharacters 4 = .ok (.if_icmp .ge 39, 3) := by decide +kernel
theorem d_Text_areCharacters_7 : decode b_Text_areCharacters 7 = .ok (.lload_n 0, 1) := by decide +kernel
theorem d_Text_areCharacters_8 : decode b_Text_areCharacters 8 = .ok (.iload_n 3, 1) := by decide +kernel
theorem d_Text_areCharacters_9 : decode b_Text_areCharacters 9 = .ok (.invokestatic 19, 3) := by decide +kernel
theorem d_Text_areCharacters_12 : decode b_Text_areCharacters 12 = .ok (.istore 4, 2) := by decide +kernel
theorem d_Text_areCharacters_14 : decode b_Text_areCharacters 14 = .ok (.iload 4, 2) := by decide +kernel
theorem d_Text_areCharacters_16 : decode b_Text_areCharacters 16 = .ok (.bipush 10, 2) := by decide +kernel
theorem d_Text_areCharacters_18 : decode b_Text_areCharacters 18 = .ok (.if_icmp .eq 19, 3) := by decide +kernel
theorem d_Text_areCharacters_21 : decode b_Text_areCharacters 21 = .ok (.iload 4, 2) := by decide +kernel
theorem d_Text_areCharacters_23 : decode b_Text_areCharacters 23 = .ok (.bipush 32, 2) := by decide +kernel
theorem d_Text_areCharacters_25 : decode b_Text_areCharacters 25 = .ok (.if_icmp .lt 10, 3) := by decide +kernel
theorem d_Text_areCharacters_28 : decode b_Text_areCharacters 28 = .ok (.iload 4, 2) := by decide +kernel
theorem d_Text_areCharacters_30 : decode b_Text_areCharacters 30 = .ok (.bipush 126, 2) := by decide +kernel
theorem d_Text_areCharacters_32 : decode b_Text_areCharacters 32 = .ok (.if_icmp .le 5, 3) := by decide +kernel
theorem d_Text_areCharacters_35 : decode b_Text_areCharacters 35 = .ok (.iconst 0, 1) := by decide +kernel
theorem d_Text_areCharacters_36 : decode b_Text_areCharacters 36 = .ok (.ireturn, 1) := by decide +kernel
theorem d_Text_areCharacters_37 : decode b_Text_areCharacters 37 = .ok (.iinc 3 1, 3) := by decide +kernel
theorem d_Text_areCharacters_40 : decode b_Text_areCharacters 40 = .ok (.goto (-38), 3) := by decide +kernel
theorem d_Text_areCharacters_43 : decode b_Text_areCharacters 43 = .ok (.iconst 1, 1) := by decide +kernel
theorem d_Text_areCharacters_44 : decode b_Text_areCharacters 44 = .ok (.ireturn, 1) := by decide +kernel
def tText_areCharacters_b1 (k : Nat → St → Int32 → Int32 → Int64 → Option (Int32)) (σ : St) (x1 : Int32) (x2 : Int32) (y1 : Int64) : Option (Int32) := if x1 ≤ x2 then some 1 else b1 (tText_byteOf σ y1 x2) (fun r2 => if r2 = 10 then k 2 σ x1 x2 y1 else if r2 < 32 then some 0 else if r2 ≤ 126 then k 2 σ x1 x2 y1 else some 0)
def tText_areCharacters_b2 (k : Nat → St → Int32 → Int32 → Int64 → Option (Int32)) (σ : St) (x1 : Int32) (x2 : Int32) (y1 : Int64) : Option (Int32) := k 1 σ x1 (x2 + 1) y1
def tText_areCharacters_L : Nat → Nat → St → Int32 → Int32 → Int64 → Option (Int32)
  | 0, _, _, _, _, _ => none
  | n + 1, lab, σ, x1, x2, y1 => match lab with
    | 1 => tText_areCharacters_b1 (tText_areCharacters_L n) σ x1 x2 y1
    | 2 => tText_areCharacters_b2 (tText_areCharacters_L n) σ x1 x2 y1
    | _ => none
def tText_areCharacters (σ : St) (a1 : Int64) (a2 : Int32) : Option (Int32) := tText_areCharacters_L 2000 1 σ a2 0 a1
set_option maxHeartbeats 4000000 in
set_option maxRecDepth 100000 in
theorem tText_areCharacters_blk {p : Program} {e : Env} {s : State} {m : MethodId} {args : Array Value} {below : List Frame} {meth : Method} {c : Code} {A : Nat → Prop} (l : Launch) (dC : Nat → ClassId) (dI : Nat → Nat → Nat) (ad : Nat → Nat) (cA : Nat → ClassId) {r : Int32} (X : Cx p s m args meth c b_Text_areCharacters 5 (some .boolean) "TinyForge$Text" (dC, dI) (ttys cA) ad A) : ∀ n : Nat, (∀ (σ : St) (x1 : Int32) (x2 : Int32) (y1 : Int64) (H : Heap) (locs : List Loc) (ls : Array Slot), tText_areCharacters_L n 1 σ x1 x2 y1 = some r → va_P (dC, dI) vwCl (tcw ad cA σ) H → va_D A (tcw ad cA σ) → va_S A s.heap H locs → lv_has ls 5 [(0, .long y1), (2, .int x1), (3, .int x2)] → W p l e { frames := 1, cells := 0, slots := 0, locals := 22 } s m args below meth c H locs 0 0 (MQ below (QI (dC, dI) (ttys cA) (tcw ad cA) A r σ) args s 0 0 A) (F0 m 2 ls [])) ∧ (∀ (σ : St) (x1 : Int32) (x2 : Int32) (y1 : Int64) (H : Heap) (locs : List Loc) (ls : Array Slot), tText_areCharacters_L n 2 σ x1 x2 y1 = some r → va_P (dC, dI) vwCl (tcw ad cA σ) H → va_D A (tcw ad cA σ) → va_S A s.heap H locs → lv_has ls 5 [(0, .long y1), (2, .int x1), (3, .int x2)] → W p l e { frames := 1, cells := 0, slots := 0, locals := 22 } s m args below meth c H locs 0 0 (MQ below (QI (dC, dI) (ttys cA) (tcw ad cA) A r σ) args s 0 0 A) (F0 m 37 ls [])) := by
  obtain ⟨hx, hb, hr, hml, hown, hlocks, hts, hA, hK, hZ⟩ := id X
  intro n
  induction n with
  | zero => exact ⟨(fun σ x1 x2 y1 H locs ls hF => by cases hF), (fun σ x1 x2 y1 H locs ls hF => by cases hF)⟩
  | succ n ihn =>
    refine ⟨fun σ x1 x2 y1 H locs ls hF hP hD hS hl => ?_, fun σ x1 x2 y1 H locs ls hF hP hD hS hl => ?_⟩
    · have hF : tText_areCharacters_b1 (tText_areCharacters_L n) σ x1 x2 y1 = some r := hF
      unfold tText_areCharacters_b1 at hF
      refine lv_iload_n hx hb d_Text_areCharacters_2 rfl (lv_at hl 2 rfl) ?_
      refine lv_iload_n hx hb d_Text_areCharacters_3 rfl (lv_at hl 1 rfl) ?_
      refine lv_icmp_ge (tgt := 43) hx hb d_Text_areCharacters_4 (by decide) (fun c_1 => ?_) (fun c_1 => ?_)
      · have hF := ifp hF c_1
        refine lv_iconst (v := 1) hx hb d_Text_areCharacters_43 (by decide) ?_
        cases hF
        exact leafZ X hP hD hS (by decide) d_Text_areCharacters_44
      · have hF := ifn hF c_1
        refine lv_lload_n hx hb d_Text_areCharacters_7 rfl (lv_at hl 0 rfl) ?_
        refine lv_iload_n hx hb d_Text_areCharacters_8 rfl (lv_at hl 2 rfl) ?_
        obtain ⟨r2, h2, hF⟩ := b1E hF
        refine callSI (As := [.long y1, .int x2]) X (ct_Text_byteOf l dC dI ad cA H.size h2) lk_Text_19 ⟨rfl, rfl, by decide, by decide⟩ hP hD hS hl.1 rfl rfl (Nat.le_of_ble_eq_true rfl) d_Text_areCharacters_9 (fun H locs hP hD hS => ?_)
        refine lv_istore (lv' := [(4, .int r2), (0, .long y1), (2, .int x1), (3, .int x2)]) hx hb d_Text_areCharacters_12 hl (by decide) rfl (fun ls hl => ?_)
        refine lv_iload hx hb d_Text_areCharacters_14 (lv_at hl 0 rfl) ?_
        refine lv_bipush (v := 10) hx hb d_Text_areCharacters_16 (by decide) ?_
        refine lv_icmp_eq (tgt := 37) hx hb d_Text_areCharacters_18 (by decide) (fun c_3 => ?_) (fun c_3 => ?_)
        · have hF := ifp hF c_3
          exact ihn.2 σ x1 x2 y1 H locs ls hF hP hD hS (lv_sub hl [1, 2, 3] rfl)
        · have hF := ifn hF c_3
          refine lv_iload hx hb d_Text_areCharacters_21 (lv_at hl 0 rfl) ?_
          refine lv_bipush (v := 32) hx hb d_Text_areCharacters_23 (by decide) ?_
          refine lv_icmp_lt (tgt := 35) hx hb d_Text_areCharacters_25 (by decide) (fun c_4 => ?_) (fun c_4 => ?_)
          · have hF := ifp hF c_4
            refine lv_iconst (v := 0) hx hb d_Text_areCharacters_35 (by decide) ?_
            cases hF
            exact leafZ X hP hD hS (by decide) d_Text_areCharacters_36
          · have hF := ifn hF c_4
            refine lv_iload hx hb d_Text_areCharacters_28 (lv_at hl 0 rfl) ?_
            refine lv_bipush (v := 126) hx hb d_Text_areCharacters_30 (by decide) ?_
            refine lv_icmp_le (tgt := 37) hx hb d_Text_areCharacters_32 (by decide) (fun c_5 => ?_) (fun c_5 => ?_)
            · have hF := ifp hF c_5
              exact ihn.2 σ x1 x2 y1 H locs ls hF hP hD hS (lv_sub hl [1, 2, 3] rfl)
            · have hF := ifn hF c_5
              refine lv_iconst (v := 0) hx hb d_Text_areCharacters_35 (by decide) ?_
              cases hF
              exact leafZ X hP hD hS (by decide) d_Text_areCharacters_36
    · have hF : tText_areCharacters_b2 (tText_areCharacters_L n) σ x1 x2 y1 = some r := hF
      unfold tText_areCharacters_b2 at hF
      refine lv_iinc (v := (x2 + 1)) (lv' := [(3, .int (x2 + 1)), (0, .long y1), (2, .int x1)]) hx hb d_Text_areCharacters_37 hl (k := 2) rfl rfl (by decide) rfl (fun ls hl => ?_)
      refine lv_goto (tgt := 2) hx hb d_Text_areCharacters_40 (by decide) ?_
      exact ihn.1 σ x1 (x2 + 1) y1 H locs ls hF hP hD hS (lv_sub hl [1, 2, 0] rfl)
set_option maxHeartbeats 4000000 in
set_option maxRecDepth 100000 in
theorem ct_Text_areCharacters (l : Launch) (dC : Nat → ClassId) (dI : Nat → Nat → Nat) (ad : Nat → Nat) (cA : Nat → ClassId) (sz : Nat) {σ : St} {a1 : Int64} {a2 : Int32} {r : Int32} (hF : tText_areCharacters σ a1 a2 = some r) : MI l y_Text_areCharacters b_Text_areCharacters 5 (some .boolean) { frames := 1, cells := 0, slots := 0, locals := 22 } (dC, dI) (ttys cA) ad (tcw ad cA) [.long a1, .int a2] σ sz r σ := by
  refine startM (own := "TinyForge$Text") (Qc := fun A => QI (dC, dI) (ttys cA) (tcw ad cA) A r σ) rfl rfl (Nat.le_of_ble_eq_true rfl) ?_
  intro p e s m below meth c A H locs ls X hP hD hS hl
  have hl : lv_has ls 5 [(0, .long a1), (2, .int a2)] := hl
  obtain ⟨hx, hb, hr, hml, hown, hlocks, hts, hA, hK, hZ⟩ := id X
  unfold tText_areCharacters at hF
  refine lv_iconst (v := 0) hx hb d_Text_areCharacters_0 (by decide) ?_
  refine lv_istore_n (lv' := [(3, .int 0), (0, .long a1), (2, .int a2)]) hx hb d_Text_areCharacters_1 rfl hl (by decide) rfl (fun ls hl => ?_)
  exact (tText_areCharacters_blk l dC dI ad cA X 2000).1 σ a2 0 a1 H locs ls hF hP hD hS (lv_sub hl [1, 2, 0] rfl)
theorem d_Text_hasRoomFor_0 : decode b_Text_hasRoomFor 0 = .ok (.iload_n 1, 1) := by decide +kernel
theorem d_Text_hasRoomFor_1 : decode b_Text_hasRoomFor 1 = .ok (.sipush 480, 3) := by decide +kernel
theorem d_Text_hasRoomFor_4 : decode b_Text_hasRoomFor 4 = .ok (.aload_n 0, 1) := by decide +kernel
theorem d_Text_hasRoomFor_5 : decode b_Text_hasRoomFor 5 = .ok (.getfield 15, 3) := by decide +kernel
theorem d_Text_hasRoomFor_8 : decode b_Text_hasRoomFor 8 = .ok (.isub, 1) := by decide +kernel
theorem d_Text_hasRoomFor_9 : decode b_Text_hasRoomFor 9 = .ok (.if_icmp .gt 7, 3) := by decide +kernel
theorem d_Text_hasRoomFor_12 : decode b_Text_hasRoomFor 12 = .ok (.iconst 1, 1) := by decide +kernel
theorem d_Text_hasRoomFor_13 : decode b_Text_hasRoomFor 13 = .ok (.goto 4, 3) := by decide +kernel
theorem d_Text_hasRoomFor_16 : decode b_Text_hasRoomFor 16 = .ok (.iconst 0, 1) := by decide +kernel
theorem d_Text_hasRoomFor_17 : decode b_Text_hasRoomFor 17 = .ok (.ireturn, 1) := by decide +kernel
def tText_hasRoomFor (σ : St) (a1 : Int32) : Option (Int32) := if (480 - (σ.1 0)) < a1 then some 0 else some 1
set_option maxHeartbeats 4000000 in
set_option maxRecDepth 100000 in
theorem ct_Text_hasRoomFor (l : Launch) (dC : Nat → ClassId) (dI : Nat → Nat → Nat) (ad : Nat → Nat) (cA : Nat → ClassId) (sz : Nat) {σ : St} {a1 : Int32} {r : Int32} (hF : tText_hasRoomFor σ a1 = some r) : MI l y_Text_hasRoomFor b_Text_hasRoomFor 2 (some .boolean) { frames := 0, cells := 0, slots := 0, locals := 0 } (dC, dI) (ttys cA) ad (tcw ad cA) [.ref (ad 0), .int a1] σ sz r σ := by
  refine startM (own := "TinyForge$Text") (Qc := fun A => QI (dC, dI) (ttys cA) (tcw ad cA) A r σ) rfl rfl (Nat.le_of_ble_eq_true rfl) ?_
  intro p e s m below meth c A H locs ls X hP hD hS hl
  have hl : lv_has ls 2 [(0, .ref (ad 0)), (1, .int a1)] := hl
  obtain ⟨hx, hb, hr, hml, hown, hlocks, hts, hA, hK, hZ⟩ := id X
  unfold tText_hasRoomFor at hF
  refine lv_iload_n hx hb d_Text_hasRoomFor_0 rfl (lv_at hl 1 rfl) ?_
  refine lv_sipush (v := 480) hx hb d_Text_hasRoomFor_1 (by decide) ?_
  refine lv_aload_n hx hb d_Text_hasRoomFor_4 rfl (lv_at hl 0 rfl) ?_
  refine va_get (D := (dC, dI)) (ci := 0) (v := .int (σ.1 0)) hx hb hts i_Text hown hK hP 0 rfl rfl 1 (by decide) (hts _ w_7879a7e969) (fun _ h9 => h9) rfl d_Text_hasRoomFor_5 ?_
  refine lv_isub hx hb d_Text_hasRoomFor_8 ?_
  refine lv_icmp_gt (tgt := 16) hx hb d_Text_hasRoomFor_9 (by decide) (fun c_1 => ?_) (fun c_1 => ?_)
  · have hF := ifp hF c_1
    refine lv_iconst (v := 0) hx hb d_Text_hasRoomFor_16 (by decide) ?_
    cases hF
    exact leafZ X hP hD hS (by decide) d_Text_hasRoomFor_17
  · have hF := ifn hF c_1
    refine lv_iconst (v := 1) hx hb d_Text_hasRoomFor_12 (by decide) ?_
    refine lv_goto (tgt := 17) hx hb d_Text_hasRoomFor_13 (by decide) ?_
    cases hF
    exact leafZ X hP hD hS (by decide) d_Text_hasRoomFor_17
theorem d_Program_addJump_0 : decode b_Program_addJump 0 = .ok (.aload_n 0, 1) := by decide +kernel
theorem d_Program_addJump_1 : decode b_Program_addJump 1 = .ok (.iload_n 1, 1) := by decide +kernel
theorem d_Program_addJump_2 : decode b_Program_addJump 2 = .ok (.iconst 0, 1) := by decide +kernel
theorem d_Program_addJump_3 : decode b_Program_addJump 3 = .ok (.iconst 0, 1) := by decide +kernel
theorem d_Program_addJump_4 : decode b_Program_addJump 4 = .ok (.invokevirtual 28, 3) := by decide +kernel
theorem d_Program_addJump_7 : decode b_Program_addJump 7 = .ok (.aload_n 0, 1) := by decide +kernel
theorem d_Program_addJump_8 : decode b_Program_addJump 8 = .ok (.getfield 21, 3) := by decide +kernel
theorem d_Program_addJump_11 : decode b_Program_addJump 11 = .ok (.iconst 1, 1) := by decide +kernel
theorem d_Program_addJump_12 : decode b_Program_addJump 12 = .ok (.isub, 1) := by decide +kernel
theorem d_Program_addJump_13 : decode b_Program_addJump 13 = .ok (.ireturn, 1) := by decide +kernel
def tProgram_addJump (σ : St) (a1 : Int32) : Option (Int32 × St) := b1 (tProgram_add σ a1 0 0) (fun u1 => some (((u1.1 13) - 1), u1))
set_option maxHeartbeats 4000000 in
set_option maxRecDepth 100000 in
theorem ct_Program_addJump (l : Launch) (dC : Nat → ClassId) (dI : Nat → Nat → Nat) (ad : Nat → Nat) (cA : Nat → ClassId) (sz : Nat) {σ : St} {a1 : Int32} {r : Int32} {σ' : St} (hF : tProgram_addJump σ a1 = some (r, σ')) : MI l y_Program_addJump b_Program_addJump 2 (some .int) { frames := 1, cells := 0, slots := 0, locals := 23 } (dC, dI) (ttys cA) ad (tcw ad cA) [.ref (ad 6), .int a1] σ sz r σ' := by
  refine startM (own := "TinyForge$Program") (Qc := fun A => QI (dC, dI) (ttys cA) (tcw ad cA) A r σ') rfl rfl (Nat.le_of_ble_eq_true rfl) ?_
  intro p e s m below meth c A H locs ls X hP hD hS hl
  have hl : lv_has ls 2 [(0, .ref (ad 6)), (1, .int a1)] := hl
  obtain ⟨hx, hb, hr, hml, hown, hlocks, hts, hA, hK, hZ⟩ := id X
  unfold tProgram_addJump at hF
  refine lv_aload_n hx hb d_Program_addJump_0 rfl (lv_at hl 0 rfl) ?_
  refine lv_iload_n hx hb d_Program_addJump_1 rfl (lv_at hl 1 rfl) ?_
  refine lv_iconst (v := 0) hx hb d_Program_addJump_2 (by decide) ?_
  refine lv_iconst (v := 0) hx hb d_Program_addJump_3 (by decide) ?_
  obtain ⟨u1, h1, hF⟩ := b1E hF
  refine callVV (As := [.int a1, .int 0, .int 0]) X (ct_Program_add l dC dI ad cA H.size h1) lk_Program_28 ⟨rfl, rfl, by decide, by decide⟩ 6 rfl rfl hP hD hS hl.1 rfl rfl (Nat.le_of_ble_eq_true rfl) d_Program_addJump_4 (fun H locs hP hD hS => ?_)
  refine lv_aload_n hx hb d_Program_addJump_7 rfl (lv_at hl 0 rfl) ?_
  refine va_get (D := (dC, dI)) (ci := 6) (v := .int (u1.1 13)) hx hb hts i_Program hown hK hP 6 rfl rfl 3 (by decide) (hts _ w_a328c70ad6) (fun _ h9 => h9) rfl d_Program_addJump_8 ?_
  refine lv_iconst (v := 1) hx hb d_Program_addJump_11 (by decide) ?_
  refine lv_isub hx hb d_Program_addJump_12 ?_
  cases hF
  exact leafI X hP hD hS d_Program_addJump_13
theorem d_Program_land_0 : decode b_Program_land 0 = .ok (.iload_n 1, 1) := by decide +kernel
theorem d_Program_land_1 : decode b_Program_land 1 = .ok (.ifCond .lt 21, 3) := by decide +kernel
theorem d_Program_land_4 : decode b_Program_land 4 = .ok (.iload_n 1, 1) := by decide +kernel
theorem d_Program_land_5 : decode b_Program_land 5 = .ok (.aload_n 0, 1) := by decide +kernel
theorem d_Program_land_6 : decode b_Program_land 6 = .ok (.getfield 21, 3) := by decide +kernel
theorem d_Program_land_9 : decode b_Program_land 9 = .ok (.if_icmp .ge 13, 3) := by decide +kernel
theorem d_Program_land_12 : decode b_Program_land 12 = .ok (.aload_n 0, 1) := by decide +kernel
theorem d_Program_land_13 : decode b_Program_land 13 = .ok (.getfield 15, 3) := by decide +kernel
theorem d_Program_land_16 : decode b_Program_land 16 = .ok (.iload_n 1, 1) := by decide +kernel
theorem d_Program_land_17 : decode b_Program_land 17 = .ok (.aload_n 0, 1) := by decide +kernel
theorem d_Program_land_18 : decode b_Program_land 18 = .ok (.getfield 21, 3) := by decide +kernel
theorem d_Program_land_21 : decode b_Program_land 21 = .ok (.iastore, 1) := by decide +kernel
theorem d_Program_land_22 : decode b_Program_land 22 = .ok (.return_, 1) := by decide +kernel
def tProgram_land (σ : St) (a1 : Int32) : Option (St) := if a1 < 0 then some σ else if (σ.1 13) ≤ a1 then some σ else gd (inB a1 440) (some (sA σ 7 (upd (σ.2.2.1 7) a1.toNatClampNeg (σ.1 13))))
set_option maxHeartbeats 4000000 in
set_option maxRecDepth 100000 in
theorem ct_Program_land (l : Launch) (dC : Nat → ClassId) (dI : Nat → Nat → Nat) (ad : Nat → Nat) (cA : Nat → ClassId) (sz : Nat) {σ : St} {a1 : Int32} {σ' : St} (hF : tProgram_land σ a1 = some σ') : MV l y_Program_land b_Program_land 2 none { frames := 0, cells := 0, slots := 0, locals := 0 } (dC, dI) (ttys cA) ad (tcw ad cA) [.ref (ad 6), .int a1] σ sz σ' := by
  refine startM (own := "TinyForge$Program") (Qc := fun A => QV (dC, dI) (ttys cA) (tcw ad cA) A σ') rfl rfl (Nat.le_of_ble_eq_true rfl) ?_
  intro p e s m below meth c A H locs ls X hP hD hS hl
  have hl : lv_has ls 2 [(0, .ref (ad 6)), (1, .int a1)] := hl
  obtain ⟨hx, hb, hr, hml, hown, hlocks, hts, hA, hK, hZ⟩ := id X
  unfold tProgram_land at hF
  refine lv_iload_n hx hb d_Program_land_0 rfl (lv_at hl 1 rfl) ?_
  refine lv_if_lt (tgt := 22) hx hb d_Program_land_1 (by decide) (fun c_1 => ?_) (fun c_1 => ?_)
  · have hF := ifp hF c_1
    cases hF
    exact leafV X hP hD hS d_Program_land_22
  · have hF := ifn hF c_1
    refine lv_iload_n hx hb d_Program_land_4 rfl (lv_at hl 1 rfl) ?_
    refine lv_aload_n hx hb d_Program_land_5 rfl (lv_at hl 0 rfl) ?_
    refine va_get (D := (dC, dI)) (ci := 6) (v := .int (σ.1 13)) hx hb hts i_Program hown hK hP 6 rfl rfl 3 (by decide) (hts _ w_a328c70ad6) (fun _ h9 => h9) rfl d_Program_land_6 ?_
    refine lv_icmp_ge (tgt := 22) hx hb d_Program_land_9 (by decide) (fun c_2 => ?_) (fun c_2 => ?_)
    · have hF := ifp hF c_2
      cases hF
      exact leafV X hP hD hS d_Program_land_22
    · have hF := ifn hF c_2
      refine lv_aload_n hx hb d_Program_land_12 rfl (lv_at hl 0 rfl) ?_
      refine va_get (D := (dC, dI)) (ci := 6) (v := .ref (ad 22)) hx hb hts i_Program hown hK hP 6 rfl rfl 1 (by decide) (hts _ w_30891a08d5) (fun _ h9 => h9) rfl d_Program_land_13 ?_
      refine lv_iload_n hx hb d_Program_land_16 rfl (lv_at hl 1 rfl) ?_
      refine lv_aload_n hx hb d_Program_land_17 rfl (lv_at hl 0 rfl) ?_
      refine va_get (D := (dC, dI)) (ci := 6) (v := .int (σ.1 13)) hx hb hts i_Program hown hK hP 6 rfl rfl 3 (by decide) (hts _ w_a328c70ad6) (fun _ h9 => h9) rfl d_Program_land_18 ?_
      obtain ⟨g_3, hF⟩ := gdE hF
      refine va_iast (f := (σ.2.2.1 7)) hx hb hK hP hD hS 22 0 rfl rfl (inE g_3) d_Program_land_21 (fun H locs hP hD hS => ?_)
      have hP : va_P (dC, dI) vwCl (tcw ad cA (sA σ 7 (upd (σ.2.2.1 7) a1.toNatClampNeg (σ.1 13)))) H := hP
      have hD : va_D A (tcw ad cA (sA σ 7 (upd (σ.2.2.1 7) a1.toNatClampNeg (σ.1 13)))) := hD
      cases hF
      exact leafV X hP hD hS d_Program_land_22
