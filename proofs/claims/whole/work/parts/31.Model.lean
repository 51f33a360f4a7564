theorem d_Model_begin_0 : decode b_Model_begin 0 = .ok (.aload_n 0, 1) := by decide +kernel
theorem d_Model_begin_1 : decode b_Model_begin 1 = .ok (.getfield 79, 3) := by decide +kernel
theorem d_Model_begin_4 : decode b_Model_begin 4 = .ok (.aload_n 0, 1) := by decide +kernel
theorem d_Model_begin_5 : decode b_Model_begin 5 = .ok (.getfield 290, 3) := by decide +kernel
theorem d_Model_begin_8 : decode b_Model_begin 8 = .ok (.iload_n 1, 1) := by decide +kernel
theorem d_Model_begin_9 : decode b_Model_begin 9 = .ok (.iastore, 1) := by decide +kernel
theorem d_Model_begin_10 : decode b_Model_begin 10 = .ok (.aload_n 0, 1) := by decide +kernel
theorem d_Model_begin_11 : decode b_Model_begin 11 = .ok (.dup, 1) := by decide +kernel
theorem d_Model_begin_12 : decode b_Model_begin 12 = .ok (.getfield 290, 3) := by decide +kernel
theorem d_Model_begin_15 : decode b_Model_begin 15 = .ok (.iconst 1, 1) := by decide +kernel
theorem d_Model_begin_16 : decode b_Model_begin 16 = .ok (.iadd, 1) := by decide +kernel
theorem d_Model_begin_17 : decode b_Model_begin 17 = .ok (.putfield 290, 3) := by decide +kernel
theorem d_Model_begin_20 : decode b_Model_begin 20 = .ok (.return_, 1) := by decide +kernel
def tModel_begin (σ : St) (a1 : Int32) : Option (St) := gd (inB (σ.1 42) 60) (some (sI (sA σ 36 (upd (σ.2.2.1 36) (σ.1 42).toNatClampNeg a1)) 42 ((σ.1 42) + 1)))
set_option maxHeartbeats 4000000 in
set_option maxRecDepth 100000 in
theorem ct_Model_begin (l : Launch) (dC : Nat → ClassId) (dI : Nat → Nat → Nat) (ad : Nat → Nat) (cA : Nat → ClassId) (sz : Nat) {σ : St} {a1 : Int32} {σ' : St} (hF : tModel_begin σ a1 = some σ') : MV l y_Model_begin b_Model_begin 2 none { frames := 0, cells := 0, slots := 0, locals := 0 } (dC, dI) (ttys cA) ad (tcw ad cA) [.ref (ad 11), .int a1] σ sz σ' := by
  refine startM (own := "TinyForgeModel") (Qc := fun A => QV (dC, dI) (ttys cA) (tcw ad cA) A σ') rfl rfl (Nat.le_of_ble_eq_true rfl) ?_
  intro p e s m below meth c A H locs ls X hP hD hS hl
  have hl : lv_has ls 2 [(0, .ref (ad 11)), (1, .int a1)] := hl
  obtain ⟨hx, hb, hr, hml, hown, hlocks, hts, hA, hK, hZ⟩ := id X
  unfold tModel_begin at hF
  refine lv_aload_n hx hb d_Model_begin_0 rfl (lv_at hl 0 rfl) ?_
  refine va_get (D := (dC, dI)) (ci := 11) (v := .ref (ad 51)) hx hb hts i_Model hown hK hP 11 rfl rfl 38 (by decide) (hts _ w_250ac790e4) (fun _ h9 => h9) rfl d_Model_begin_1 ?_
  refine lv_aload_n hx hb d_Model_begin_4 rfl (lv_at hl 0 rfl) ?_
  refine va_get (D := (dC, dI)) (ci := 11) (v := .int (σ.1 42)) hx hb hts i_Model hown hK hP 11 rfl rfl 35 (by decide) (hts _ w_d470deee69) (fun _ h9 => h9) rfl d_Model_begin_5 ?_
  refine lv_iload_n hx hb d_Model_begin_8 rfl (lv_at hl 1 rfl) ?_
  obtain ⟨g_1, hF⟩ := gdE hF
  refine va_iast (f := (σ.2.2.1 36)) hx hb hK hP hD hS 51 0 rfl rfl (inE g_1) d_Model_begin_9 (fun H locs hP hD hS => ?_)
  have hP : va_P (dC, dI) vwCl (tcw ad cA (sA σ 36 (upd (σ.2.2.1 36) (σ.1 42).toNatClampNeg a1))) H := hP
  have hD : va_D A (tcw ad cA (sA σ 36 (upd (σ.2.2.1 36) (σ.1 42).toNatClampNeg a1))) := hD
  refine lv_aload_n hx hb d_Model_begin_10 rfl (lv_at hl 0 rfl) ?_
  refine lv_dup hx hb d_Model_begin_11 rfl ?_
  refine va_get (D := (dC, dI)) (ci := 11) (v := .int (σ.1 42)) hx hb hts i_Model hown hK hP 11 rfl rfl 35 (by decide) (hts _ w_d470deee69) (fun _ h9 => h9) rfl d_Model_begin_12 ?_
  refine lv_iconst (v := 1) hx hb d_Model_begin_15 (by decide) ?_
  refine lv_iadd hx hb d_Model_begin_16 ?_
  refine va_put (D := (dC, dI)) (ci := 11) (v := .int ((σ.1 42) + 1)) (ty := .int) hx hb hts i_Model t_Model t_Model_ok n_Model hown hK hP hD hS 11 rfl rfl 35 (by decide) (hts _ w_d470deee69) (fun _ h9 => h9) rfl (by decide +kernel) rfl rfl (Nat.le_of_ble_eq_true rfl) d_Model_begin_17 (fun H locs hP hD hS => ?_)
  have hP : va_P (dC, dI) vwCl (tcw ad cA (sI (sA σ 36 (upd (σ.2.2.1 36) (σ.1 42).toNatClampNeg a1)) 42 ((σ.1 42) + 1))) H := hP
  have hD : va_D A (tcw ad cA (sI (sA σ 36 (upd (σ.2.2.1 36) (σ.1 42).toNatClampNeg a1)) 42 ((σ.1 42) + 1))) := hD
  cases hF
  exact leafV X hP hD hS d_Model_begin_20
theorem d_Model_node_0 : decode b_Model_node 0 = .ok (.aload_n 0, 1) := by decide +kernel
theorem d_Model_node_1 : decode b_Model_node 1 = .ok (.getfield 30, 3) := by decide +kernel
theorem d_Model_node_4 : decode b_Model_node 4 = .ok (.aload_n 0, 1) := by decide +kernel
theorem d_Model_node_5 : decode b_Model_node 5 = .ok (.getfield 187, 3) := by decide +kernel
theorem d_Model_node_8 : decode b_Model_node 8 = .ok (.iload_n 1, 1) := by decide +kernel
theorem d_Model_node_9 : decode b_Model_node 9 = .ok (.iastore, 1) := by decide +kernel
theorem d_Model_node_10 : decode b_Model_node 10 = .ok (.aload_n 0, 1) := by decide +kernel
theorem d_Model_node_11 : decode b_Model_node 11 = .ok (.getfield 33, 3) := by decide +kernel
theorem d_Model_node_14 : decode b_Model_node 14 = .ok (.aload_n 0, 1) := by decide +kernel
theorem d_Model_node_15 : decode b_Model_node 15 = .ok (.getfield 187, 3) := by decide +kernel
theorem d_Model_node_18 : decode b_Model_node 18 = .ok (.iload_n 2, 1) := by decide +kernel
theorem d_Model_node_19 : decode b_Model_node 19 = .ok (.iastore, 1) := by decide +kernel
theorem d_Model_node_20 : decode b_Model_node 20 = .ok (.aload_n 0, 1) := by decide +kernel
theorem d_Model_node_21 : decode b_Model_node 21 = .ok (.getfield 36, 3) := by decide +kernel
theorem d_Model_node_24 : decode b_Model_node 24 = .ok (.aload_n 0, 1) := by decide +kernel
theorem d_Model_node_25 : decode b_Model_node 25 = .ok (.getfield 187, 3) := by decide +kernel
theorem d_Model_node_28 : decode b_Model_node 28 = .ok (.iload_n 3, 1) := by decide +kernel
theorem d_Model_node_29 : decode b_Model_node 29 = .ok (.iastore, 1) := by decide +kernel
theorem d_Model_node_30 : decode b_Model_node 30 = .ok (.aload_n 0, 1) := by decide +kernel
theorem d_Model_node_31 : decode b_Model_node 31 = .ok (.getfield 39, 3) := by decide +kernel
theorem d_Model_node_34 : decode b_Model_node 34 = .ok (.aload_n 0, 1) := by decide +kernel
theorem d_Model_node_35 : decode b_Model_node 35 = .ok (.getfield 187, 3) := by decide +kernel
theorem d_Model_node_38 : decode b_Model_node 38 = .ok (.iload 4, 2) := by decide +kernel
theorem d_Model_node_40 : decode b_Model_node 40 = .ok (.iastore, 1) := by decide +kernel
theorem d_Model_node_41 : decode b_Model_node 41 = .ok (.aload_n 0, 1) := by decide +kernel
theorem d_Model_node_42 : decode b_Model_node 42 = .ok (.getfield 42, 3) := by decide +kernel
theorem d_Model_node_45 : decode b_Model_node 45 = .ok (.aload_n 0, 1) := by decide +kernel
theorem d_Model_node_46 : decode b_Model_node 46 = .ok (.getfield 187, 3) := by decide +kernel
theorem d_Model_node_49 : decode b_Model_node 49 = .ok (.iconst (-1), 1) := by decide +kernel
theorem d_Model_node_50 : decode b_Model_node 50 = .ok (.iastore, 1) := by decide +kernel
theorem d_Model_node_51 : decode b_Model_node 51 = .ok (.aload_n 0, 1) := by decide +kernel
theorem d_Model_node_52 : decode b_Model_node 52 = .ok (.getfield 45, 3) := by decide +kernel
theorem d_Model_node_55 : decode b_Model_node 55 = .ok (.aload_n 0, 1) := by decide +kernel
theorem d_Model_node_56 : decode b_Model_node 56 = .ok (.getfield 187, 3) := by decide +kernel
theorem d_Model_node_59 : decode b_Model_node 59 = .ok (.iconst (-1), 1) := by decide +kernel
theorem d_Model_node_60 : decode b_Model_node 60 = .ok (.iastore, 1) := by decide +kernel
theorem d_Model_node_61 : decode b_Model_node 61 = .ok (.aload_n 0, 1) := by decide +kernel
theorem d_Model_node_62 : decode b_Model_node 62 = .ok (.getfield 48, 3) := by decide +kernel
theorem d_Model_node_65 : decode b_Model_node 65 = .ok (.aload_n 0, 1) := by decide +kernel
theorem d_Model_node_66 : decode b_Model_node 66 = .ok (.getfield 187, 3) := by decide +kernel
theorem d_Model_node_69 : decode b_Model_node 69 = .ok (.aload_n 0, 1) := by decide +kernel
theorem d_Model_node_70 : decode b_Model_node 70 = .ok (.getfield 184, 3) := by decide +kernel
theorem d_Model_node_73 : decode b_Model_node 73 = .ok (.iastore, 1) := by decide +kernel
theorem d_Model_node_74 : decode b_Model_node 74 = .ok (.aload_n 0, 1) := by decide +kernel
theorem d_Model_node_75 : decode b_Model_node 75 = .ok (.dup, 1) := by decide +kernel
theorem d_Model_node_76 : decode b_Model_node 76 = .ok (.getfield 187, 3) := by decide +kernel
theorem d_Model_node_79 : decode b_Model_node 79 = .ok (.iconst 1, 1) := by decide +kernel
theorem d_Model_node_80 : decode b_Model_node 80 = .ok (.iadd, 1) := by decide +kernel
theorem d_Model_node_81 : decode b_Model_node 81 = .ok (.putfield 187, 3) := by decide +kernel
theorem d_Model_node_84 : decode b_Model_node 84 = .ok (.aload_n 0, 1) := by decide +kernel
theorem d_Model_node_85 : decode b_Model_node 85 = .ok (.getfield 187, 3) := by decide +kernel
theorem d_Model_node_88 : decode b_Model_node 88 = .ok (.iconst 1, 1) := by decide +kernel
theorem d_Model_node_89 : decode b_Model_node 89 = .ok (.isub, 1) := by decide +kernel
theorem d_Model_node_90 : decode b_Model_node 90 = .ok (.ireturn, 1) := by decide +kernel
def tModel_node (σ : St) (a1 : Int32) (a2 : Int32) (a3 : Int32) (a4 : Int32) : Option (Int32 × St) := gd (inB (σ.1 34) 500) (gd (inB (σ.1 34) 500) (gd (inB (σ.1 34) 500) (gd (inB (σ.1 34) 500) (gd (inB (σ.1 34) 500) (gd (inB (σ.1 34) 500) (gd (inB (σ.1 34) 500) (some ((((σ.1 34) + 1) - 1), (sI (sA (sA (sA (sA (sA (sA (sA σ 20 (upd (σ.2.2.1 20) (σ.1 34).toNatClampNeg a1)) 21 (upd (σ.2.2.1 21) (σ.1 34).toNatClampNeg a2)) 22 (upd (σ.2.2.1 22) (σ.1 34).toNatClampNeg a3)) 23 (upd (σ.2.2.1 23) (σ.1 34).toNatClampNeg a4)) 24 (upd (σ.2.2.1 24) (σ.1 34).toNatClampNeg (-1))) 25 (upd (σ.2.2.1 25) (σ.1 34).toNatClampNeg (-1))) 26 (upd (σ.2.2.1 26) (σ.1 34).toNatClampNeg (σ.1 31))) 34 ((σ.1 34) + 1))))))))))
set_option maxHeartbeats 4000000 in
set_option maxRecDepth 100000 in
theorem ct_Model_node (l : Launch) (dC : Nat → ClassId) (dI : Nat → Nat → Nat) (ad : Nat → Nat) (cA : Nat → ClassId) (sz : Nat) {σ : St} {a1 : Int32} {a2 : Int32} {a3 : Int32} {a4 : Int32} {r : Int32} {σ' : St} (hF : tModel_node σ a1 a2 a3 a4 = some (r, σ')) : MI l y_Model_node b_Model_node 5 (some .int) { frames := 0, cells := 0, slots := 0, locals := 0 } (dC, dI) (ttys cA) ad (tcw ad cA) [.ref (ad 11), .int a1, .int a2, .int a3, .int a4] σ sz r σ' := by
  refine startM (own := "TinyForgeModel") (Qc := fun A => QI (dC, dI) (ttys cA) (tcw ad cA) A r σ') rfl rfl (Nat.le_of_ble_eq_true rfl) ?_
  intro p e s m below meth c A H locs ls X hP hD hS hl
  have hl : lv_has ls 5 [(0, .ref (ad 11)), (1, .int a1), (2, .int a2), (3, .int a3), (4, .int a4)] := hl
  obtain ⟨hx, hb, hr, hml, hown, hlocks, hts, hA, hK, hZ⟩ := id X
  unfold tModel_node at hF
  refine lv_aload_n hx hb d_Model_node_0 rfl (lv_at hl 0 rfl) ?_
  refine va_get (D := (dC, dI)) (ci := 11) (v := .ref (ad 35)) hx hb hts i_Model hown hK hP 11 rfl rfl 14 (by decide) (hts _ w_0e6df3fb4c) (fun _ h9 => h9) rfl d_Model_node_1 ?_
  refine lv_aload_n hx hb d_Model_node_4 rfl (lv_at hl 0 rfl) ?_
  refine va_get (D := (dC, dI)) (ci := 11) (v := .int (σ.1 34)) hx hb hts i_Model hown hK hP 11 rfl rfl 13 (by decide) (hts _ w_1bd792ecf8) (fun _ h9 => h9) rfl d_Model_node_5 ?_
  refine lv_iload_n hx hb d_Model_node_8 rfl (lv_at hl 1 rfl) ?_
  obtain ⟨g_1, hF⟩ := gdE hF
  refine va_iast (f := (σ.2.2.1 20)) hx hb hK hP hD hS 35 0 rfl rfl (inE g_1) d_Model_node_9 (fun H locs hP hD hS => ?_)
  have hP : va_P (dC, dI) vwCl (tcw ad cA (sA σ 20 (upd (σ.2.2.1 20) (σ.1 34).toNatClampNeg a1))) H := hP
  have hD : va_D A (tcw ad cA (sA σ 20 (upd (σ.2.2.1 20) (σ.1 34).toNatClampNeg a1))) := hD
  refine lv_aload_n hx hb d_Model_node_10 rfl (lv_at hl 0 rfl) ?_
  refine va_get (D := (dC, dI)) (ci := 11) (v := .ref (ad 36)) hx hb hts i_Model hown hK hP 11 rfl rfl 15 (by decide) (hts _ w_70f5434828) (fun _ h9 => h9) rfl d_Model_node_11 ?_
  refine lv_aload_n hx hb d_Model_node_14 rfl (lv_at hl 0 rfl) ?_
  refine va_get (D := (dC, dI)) (ci := 11) (v := .int (σ.1 34)) hx hb hts i_Model hown hK hP 11 rfl rfl 13 (by decide) (hts _ w_1bd792ecf8) (fun _ h9 => h9) rfl d_Model_node_15 ?_
  refine lv_iload_n hx hb d_Model_node_18 rfl (lv_at hl 2 rfl) ?_
  obtain ⟨g_2, hF⟩ := gdE hF
  refine va_iast (f := (σ.2.2.1 21)) hx hb hK hP hD hS 36 0 rfl rfl (inE g_2) d_Model_node_19 (fun H locs hP hD hS => ?_)
  have hP : va_P (dC, dI) vwCl (tcw ad cA (sA (sA σ 20 (upd (σ.2.2.1 20) (σ.1 34).toNatClampNeg a1)) 21 (upd (σ.2.2.1 21) (σ.1 34).toNatClampNeg a2))) H := hP
  have hD : va_D A (tcw ad cA (sA (sA σ 20 (upd (σ.2.2.1 20) (σ.1 34).toNatClampNeg a1)) 21 (upd (σ.2.2.1 21) (σ.1 34).toNatClampNeg a2))) := hD
  refine lv_aload_n hx hb d_Model_node_20 rfl (lv_at hl 0 rfl) ?_
  refine va_get (D := (dC, dI)) (ci := 11) (v := .ref (ad 37)) hx hb hts i_Model hown hK hP 11 rfl rfl 16 (by decide) (hts _ w_b1c1a5a9de) (fun _ h9 => h9) rfl d_Model_node_21 ?_
  refine lv_aload_n hx hb d_Model_node_24 rfl (lv_at hl 0 rfl) ?_
  refine va_get (D := (dC, dI)) (ci := 11) (v := .int (σ.1 34)) hx hb hts i_Model hown hK hP 11 rfl rfl 13 (by decide) (hts _ w_1bd792ecf8) (fun _ h9 => h9) rfl d_Model_node_25 ?_
  refine lv_iload_n hx hb d_Model_node_28 rfl (lv_at hl 3 rfl) ?_
  obtain ⟨g_3, hF⟩ := gdE hF
  refine va_iast (f := (σ.2.2.1 22)) hx hb hK hP hD hS 37 0 rfl rfl (inE g_3) d_Model_node_29 (fun H locs hP hD hS => ?_)
  have hP : va_P (dC, dI) vwCl (tcw ad cA (sA (sA (sA σ 20 (upd (σ.2.2.1 20) (σ.1 34).toNatClampNeg a1)) 21 (upd (σ.2.2.1 21) (σ.1 34).toNatClampNeg a2)) 22 (upd (σ.2.2.1 22) (σ.1 34).toNatClampNeg a3))) H := hP
  have hD : va_D A (tcw ad cA (sA (sA (sA σ 20 (upd (σ.2.2.1 20) (σ.1 34).toNatClampNeg a1)) 21 (upd (σ.2.2.1 21) (σ.1 34).toNatClampNeg a2)) 22 (upd (σ.2.2.1 22) (σ.1 34).toNatClampNeg a3))) := hD
  refine lv_aload_n hx hb d_Model_node_30 rfl (lv_at hl 0 rfl) ?_
  refine va_get (D := (dC, dI)) (ci := 11) (v := .ref (ad 38)) hx hb hts i_Model hown hK hP 11 rfl rfl 17 (by decide) (hts _ w_d96db777d5) (fun _ h9 => h9) rfl d_Model_node_31 ?_
  refine lv_aload_n hx hb d_Model_node_34 rfl (lv_at hl 0 rfl) ?_
  refine va_get (D := (dC, dI)) (ci := 11) (v := .int (σ.1 34)) hx hb hts i_Model hown hK hP 11 rfl rfl 13 (by decide) (hts _ w_1bd792ecf8) (fun _ h9 => h9) rfl d_Model_node_35 ?_
  refine lv_iload hx hb d_Model_node_38 (lv_at hl 4 rfl) ?_
  obtain ⟨g_4, hF⟩ := gdE hF
  refine va_iast (f := (σ.2.2.1 23)) hx hb hK hP hD hS 38 0 rfl rfl (inE g_4) d_Model_node_40 (fun H locs hP hD hS => ?_)
  have hP : va_P (dC, dI) vwCl (tcw ad cA (sA (sA (sA (sA σ 20 (upd (σ.2.2.1 20) (σ.1 34).toNatClampNeg a1)) 21 (upd (σ.2.2.1 21) (σ.1 34).toNatClampNeg a2)) 22 (upd (σ.2.2.1 22) (σ.1 34).toNatClampNeg a3)) 23 (upd (σ.2.2.1 23) (σ.1 34).toNatClampNeg a4))) H := hP
  have hD : va_D A (tcw ad cA (sA (sA (sA (sA σ 20 (upd (σ.2.2.1 20) (σ.1 34).toNatClampNeg a1)) 21 (upd (σ.2.2.1 21) (σ.1 34).toNatClampNeg a2)) 22 (upd (σ.2.2.1 22) (σ.1 34).toNatClampNeg a3)) 23 (upd (σ.2.2.1 23) (σ.1 34).toNatClampNeg a4))) := hD
  refine lv_aload_n hx hb d_Model_node_41 rfl (lv_at hl 0 rfl) ?_
  refine va_get (D := (dC, dI)) (ci := 11) (v := .ref (ad 39)) hx hb hts i_Model hown hK hP 11 rfl rfl 18 (by decide) (hts _ w_7d7d4091fc) (fun _ h9 => h9) rfl d_Model_node_42 ?_
  refine lv_aload_n hx hb d_Model_node_45 rfl (lv_at hl 0 rfl) ?_
  refine va_get (D := (dC, dI)) (ci := 11) (v := .int (σ.1 34)) hx hb hts i_Model hown hK hP 11 rfl rfl 13 (by decide) (hts _ w_1bd792ecf8) (fun _ h9 => h9) rfl d_Model_node_46 ?_
  refine lv_iconst (v := (-1)) hx hb d_Model_node_49 (by decide) ?_
  obtain ⟨g_5, hF⟩ := gdE hF
  refine va_iast (f := (σ.2.2.1 24)) hx hb hK hP hD hS 39 0 rfl rfl (inE g_5) d_Model_node_50 (fun H locs hP hD hS => ?_)
  have hP : va_P (dC, dI) vwCl (tcw ad cA (sA (sA (sA (sA (sA σ 20 (upd (σ.2.2.1 20) (σ.1 34).toNatClampNeg a1)) 21 (upd (σ.2.2.1 21) (σ.1 34).toNatClampNeg a2)) 22 (upd (σ.2.2.1 22) (σ.1 34).toNatClampNeg a3)) 23 (upd (σ.2.2.1 23) (σ.1 34).toNatClampNeg a4)) 24 (upd (σ.2.2.1 24) (σ.1 34).toNatClampNeg (-1)))) H := hP
  have hD : va_D A (tcw ad cA (sA (sA (sA (sA (sA σ 20 (upd (σ.2.2.1 20) (σ.1 34).toNatClampNeg a1)) 21 (upd (σ.2.2.1 21) (σ.1 34).toNatClampNeg a2)) 22 (upd (σ.2.2.1 22) (σ.1 34).toNatClampNeg a3)) 23 (upd (σ.2.2.1 23) (σ.1 34).toNatClampNeg a4)) 24 (upd (σ.2.2.1 24) (σ.1 34).toNatClampNeg (-1)))) := hD
  refine lv_aload_n hx hb d_Model_node_51 rfl (lv_at hl 0 rfl) ?_
  refine va_get (D := (dC, dI)) (ci := 11) (v := .ref (ad 40)) hx hb hts i_Model hown hK hP 11 rfl rfl 19 (by decide) (hts _ w_90306bc83b) (fun _ h9 => h9) rfl d_Model_node_52 ?_
  refine lv_aload_n hx hb d_Model_node_55 rfl (lv_at hl 0 rfl) ?_
  refine va_get (D := (dC, dI)) (ci := 11) (v := .int (σ.1 34)) hx hb hts i_Model hown hK hP 11 rfl rfl 13 (by decide) (hts _ w_1bd792ecf8) (fun _ h9 => h9) rfl d_Model_node_56 ?_
  refine lv_iconst (v := (-1)) hx hb d_Model_node_59 (by decide) ?_
  obtain ⟨g_6, hF⟩ := gdE hF
  refine va_iast (f := (σ.2.2.1 25)) hx hb hK hP hD hS 40 0 rfl rfl (inE g_6) d_Model_node_60 (fun H locs hP hD hS => ?_)
  have hP : va_P (dC, dI) vwCl (tcw ad cA (sA (sA (sA (sA (sA (sA σ 20 (upd (σ.2.2.1 20) (σ.1 34).toNatClampNeg a1)) 21 (upd (σ.2.2.1 21) (σ.1 34).toNatClampNeg a2)) 22 (upd (σ.2.2.1 22) (σ.1 34).toNatClampNeg a3)) 23 (upd (σ.2.2.1 23) (σ.1 34).toNatClampNeg a4)) 24 (upd (σ.2.2.1 24) (σ.1 34).toNatClampNeg (-1))) 25 (upd (σ.2.2.1 25) (σ.1 34).toNatClampNeg (-1)))) H := hP
  have hD : va_D A (tcw ad cA (sA (sA (sA (sA (sA (sA σ 20 (upd (σ.2.2.1 20) (σ.1 34).toNatClampNeg a1)) 21 (upd (σ.2.2.1 21) (σ.1 34).toNatClampNeg a2)) 22 (upd (σ.2.2.1 22) (σ.1 34).toNatClampNeg a3)) 23 (upd (σ.2.2.1 23) (σ.1 34).toNatClampNeg a4)) 24 (upd (σ.2.2.1 24) (σ.1 34).toNatClampNeg (-1))) 25 (upd (σ.2.2.1 25) (σ.1 34).toNatClampNeg (-1)))) := hD
  refine lv_aload_n hx hb d_Model_node_61 rfl (lv_at hl 0 rfl) ?_
  refine va_get (D := (dC, dI)) (ci := 11) (v := .ref (ad 41)) hx hb hts i_Model hown hK hP 11 rfl rfl 20 (by decide) (hts _ w_a409c17ef6) (fun _ h9 => h9) rfl d_Model_node_62 ?_
  refine lv_aload_n hx hb d_Model_node_65 rfl (lv_at hl 0 rfl) ?_
  refine va_get (D := (dC, dI)) (ci := 11) (v := .int (σ.1 34)) hx hb hts i_Model hown hK hP 11 rfl rfl 13 (by decide) (hts _ w_1bd792ecf8) (fun _ h9 => h9) rfl d_Model_node_66 ?_
  refine lv_aload_n hx hb d_Model_node_69 rfl (lv_at hl 0 rfl) ?_
  refine va_get (D := (dC, dI)) (ci := 11) (v := .int (σ.1 31)) hx hb hts i_Model hown hK hP 11 rfl rfl 6 (by decide) (hts _ w_13cd8e7698) (fun _ h9 => h9) rfl d_Model_node_70 ?_
  obtain ⟨g_7, hF⟩ := gdE hF
  refine va_iast (f := (σ.2.2.1 26)) hx hb hK hP hD hS 41 0 rfl rfl (inE g_7) d_Model_node_73 (fun H locs hP hD hS => ?_)
  have hP : va_P (dC, dI) vwCl (tcw ad cA (sA (sA (sA (sA (sA (sA (sA σ 20 (upd (σ.2.2.1 20) (σ.1 34).toNatClampNeg a1)) 21 (upd (σ.2.2.1 21) (σ.1 34).toNatClampNeg a2)) 22 (upd (σ.2.2.1 22) (σ.1 34).toNatClampNeg a3)) 23 (upd (σ.2.2.1 23) (σ.1 34).toNatClampNeg a4)) 24 (upd (σ.2.2.1 24) (σ.1 34).toNatClampNeg (-1))) 25 (upd (σ.2.2.1 25) (σ.1 34).toNatClampNeg (-1))) 26 (upd (σ.2.2.1 26) (σ.1 34).toNatClampNeg (σ.1 31)))) H := hP
  have hD : va_D A (tcw ad cA (sA (sA (sA (sA (sA (sA (sA σ 20 (upd (σ.2.2.1 20) (σ.1 34).toNatClampNeg a1)) 21 (upd (σ.2.2.1 21) (σ.1 34).toNatClampNeg a2)) 22 (upd (σ.2.2.1 22) (σ.1 34).toNatClampNeg a3)) 23 (upd (σ.2.2.1 23) (σ.1 34).toNatClampNeg a4)) 24 (upd (σ.2.2.1 24) (σ.1 34).toNatClampNeg (-1))) 25 (upd (σ.2.2.1 25) (σ.1 34).toNatClampNeg (-1))) 26 (upd (σ.2.2.1 26) (σ.1 34).toNatClampNeg (σ.1 31)))) := hD
  refine lv_aload_n hx hb d_Model_node_74 rfl (lv_at hl 0 rfl) ?_
  refine lv_dup hx hb d_Model_node_75 rfl ?_
  refine va_get (D := (dC, dI)) (ci := 11) (v := .int (σ.1 34)) hx hb hts i_Model hown hK hP 11 rfl rfl 13 (by decide) (hts _ w_1bd792ecf8) (fun _ h9 => h9) rfl d_Model_node_76 ?_
  refine lv_iconst (v := 1) hx hb d_Model_node_79 (by decide) ?_
  refine lv_iadd hx hb d_Model_node_80 ?_
  refine va_put (D := (dC, dI)) (ci := 11) (v := .int ((σ.1 34) + 1)) (ty := .int) hx hb hts i_Model t_Model t_Model_ok n_Model hown hK hP hD hS 11 rfl rfl 13 (by decide) (hts _ w_1bd792ecf8) (fun _ h9 => h9) rfl (by decide +kernel) rfl rfl (Nat.le_of_ble_eq_true rfl) d_Model_node_81 (fun H locs hP hD hS => ?_)
  have hP : va_P (dC, dI) vwCl (tcw ad cA (sI (sA (sA (sA (sA (sA (sA (sA σ 20 (upd (σ.2.2.1 20) (σ.1 34).toNatClampNeg a1)) 21 (upd (σ.2.2.1 21) (σ.1 34).toNatClampNeg a2)) 22 (upd (σ.2.2.1 22) (σ.1 34).toNatClampNeg a3)) 23 (upd (σ.2.2.1 23) (σ.1 34).toNatClampNeg a4)) 24 (upd (σ.2.2.1 24) (σ.1 34).toNatClampNeg (-1))) 25 (upd (σ.2.2.1 25) (σ.1 34).toNatClampNeg (-1))) 26 (upd (σ.2.2.1 26) (σ.1 34).toNatClampNeg (σ.1 31))) 34 ((σ.1 34) + 1))) H := hP
  have hD : va_D A (tcw ad cA (sI (sA (sA (sA (sA (sA (sA (sA σ 20 (upd (σ.2.2.1 20) (σ.1 34).toNatClampNeg a1)) 21 (upd (σ.2.2.1 21) (σ.1 34).toNatClampNeg a2)) 22 (upd (σ.2.2.1 22) (σ.1 34).toNatClampNeg a3)) 23 (upd (σ.2.2.1 23) (σ.1 34).toNatClampNeg a4)) 24 (upd (σ.2.2.1 24) (σ.1 34).toNatClampNeg (-1))) 25 (upd (σ.2.2.1 25) (σ.1 34).toNatClampNeg (-1))) 26 (upd (σ.2.2.1 26) (σ.1 34).toNatClampNeg (σ.1 31))) 34 ((σ.1 34) + 1))) := hD
  refine lv_aload_n hx hb d_Model_node_84 rfl (lv_at hl 0 rfl) ?_
  refine va_get (D := (dC, dI)) (ci := 11) (v := .int ((σ.1 34) + 1)) hx hb hts i_Model hown hK hP 11 rfl rfl 13 (by decide) (hts _ w_1bd792ecf8) (fun _ h9 => h9) rfl d_Model_node_85 ?_
  refine lv_iconst (v := 1) hx hb d_Model_node_88 (by decide) ?_
  refine lv_isub hx hb d_Model_node_89 ?_
  cases hF
  exact leafI X hP hD hS d_Model_node_90
theorem d_Model_opens_0 : decode b_Model_opens 0 = .ok (.aload_n 0, 1) := by decide +kernel
theorem d_Model_opens_1 : decode b_Model_opens 1 = .ok (.getfield 197, 3) := by decide +kernel
theorem d_Model_opens_4 : decode b_Model_opens 4 = .ok (.bipush 12, 2) := by decide +kernel
theorem d_Model_opens_6 : decode b_Model_opens 6 = .ok (.if_icmp .ne 17, 3) := by decide +kernel
theorem d_Model_opens_9 : decode b_Model_opens 9 = .ok (.aload_n 0, 1) := by decide +kernel
theorem d_Model_opens_10 : decode b_Model_opens 10 = .ok (.iconst 2, 1) := by decide +kernel
theorem d_Model_opens_11 : decode b_Model_opens 11 = .ok (.aload_n 0, 1) := by decide +kernel
theorem d_Model_opens_12 : decode b_Model_opens 12 = .ok (.getfield 21, 3) := by decide +kernel
theorem d_Model_opens_15 : decode b_Model_opens 15 = .ok (.aload_n 0, 1) := by decide +kernel
theorem d_Model_opens_16 : decode b_Model_opens 16 = .ok (.getfield 184, 3) := by decide +kernel
theorem d_Model_opens_19 : decode b_Model_opens 19 = .ok (.iaload, 1) := by decide +kernel
theorem d_Model_opens_20 : decode b_Model_opens 20 = .ok (.invokevirtual 140, 3) := by decide +kernel
theorem d_Model_opens_23 : decode b_Model_opens 23 = .ok (.aload_n 0, 1) := by decide +kernel
theorem d_Model_opens_24 : decode b_Model_opens 24 = .ok (.dup, 1) := by decide +kernel
theorem d_Model_opens_25 : decode b_Model_opens 25 = .ok (.getfield 197, 3) := by decide +kernel
theorem d_Model_opens_28 : decode b_Model_opens 28 = .ok (.iconst 1, 1) := by decide +kernel
theorem d_Model_opens_29 : decode b_Model_opens 29 = .ok (.iadd, 1) := by decide +kernel
theorem d_Model_opens_30 : decode b_Model_opens 30 = .ok (.putfield 197, 3) := by decide +kernel
theorem d_Model_opens_33 : decode b_Model_opens 33 = .ok (.aload_n 0, 1) := by decide +kernel
theorem d_Model_opens_34 : decode b_Model_opens 34 = .ok (.getfield 121, 3) := by decide +kernel
theorem d_Model_opens_37 : decode b_Model_opens 37 = .ok (.ifCond .ne 13, 3) := by decide +kernel
theorem d_Model_opens_40 : decode b_Model_opens 40 = .ok (.aload_n 0, 1) := by decide +kernel
theorem d_Model_opens_41 : decode b_Model_opens 41 = .ok (.dup, 1) := by decide +kernel
theorem d_Model_opens_42 : decode b_Model_opens 42 = .ok (.getfield 184, 3) := by decide +kernel
theorem d_Model_opens_45 : decode b_Model_opens 45 = .ok (.iconst 1, 1) := by decide +kernel
theorem d_Model_opens_46 : decode b_Model_opens 46 = .ok (.iadd, 1) := by decide +kernel
theorem d_Model_opens_47 : decode b_Model_opens 47 = .ok (.putfield 184, 3) := by decide +kernel
theorem d_Model_opens_50 : decode b_Model_opens 50 = .ok (.return_, 1) := by decide +kernel
def tModel_opens_b1 (k : Nat → St → Option (St)) (σ : St) : Option (St) := if (σ.1 29) = 0 then some (sI (sI σ 32 ((σ.1 32) + 1)) 31 ((σ.1 31) + 1)) else some (sI σ 32 ((σ.1 32) + 1))
def tModel_opens_L : Nat → Nat → St → Option (St)
  | 0, _, _ => none
  | n + 1, lab, σ => match lab with
    | 1 => tModel_opens_b1 (tModel_opens_L n) σ 
    | _ => none
def tModel_opens (σ : St) : Option (St) := if (σ.1 32) = 12 then gd (inB (σ.1 31) 500) (b1 (tModel_blame σ 2 ((σ.2.2.1 17) (σ.1 31).toNatClampNeg)) (fun u3 => tModel_opens_L 2000 1 u3 )) else tModel_opens_L 2000 1 σ 
set_option maxHeartbeats 4000000 in
set_option maxRecDepth 100000 in
theorem tModel_opens_blk {p : Program} {e : Env} {s : State} {m : MethodId} {args : Array Value} {below : List Frame} {meth : Method} {c : Code} {A : Nat → Prop} (l : Launch) (dC : Nat → ClassId) (dI : Nat → Nat → Nat) (ad : Nat → Nat) (cA : Nat → ClassId) {σ' : St} (X : Cx p s m args meth c b_Model_opens 1 none "TinyForgeModel" (dC, dI) (ttys cA) ad A) : ∀ n : Nat, (∀ (σ : St) (H : Heap) (locs : List Loc) (ls : Array Slot), tModel_opens_L n 1 σ  = some σ' → va_P (dC, dI) vwCl (tcw ad cA σ) H → va_D A (tcw ad cA σ) → va_S A s.heap H locs → lv_has ls 1 [(0, .ref (ad 11))] → W p l e { frames := 1, cells := 0, slots := 0, locals := 22 } s m args below meth c H locs 0 0 (MQ below (QV (dC, dI) (ttys cA) (tcw ad cA) A σ') args s 0 0 A) (F0 m 23 ls [])) := by
  obtain ⟨hx, hb, hr, hml, hown, hlocks, hts, hA, hK, hZ⟩ := id X
  intro n
  induction n with
  | zero => exact (fun σ  H locs ls hF => by cases hF)
  | succ n ihn =>
    refine fun σ  H locs ls hF hP hD hS hl => ?_
    · have hF : tModel_opens_b1 (tModel_opens_L n) σ  = some σ' := hF
      unfold tModel_opens_b1 at hF
      refine lv_aload_n hx hb d_Model_opens_23 rfl (lv_at hl 0 rfl) ?_
      refine lv_dup hx hb d_Model_opens_24 rfl ?_
      refine va_get (D := (dC, dI)) (ci := 11) (v := .int (σ.1 32)) hx hb hts i_Model hown hK hP 11 rfl rfl 7 (by decide) (hts _ w_eb874fa0f0) (fun _ h9 => h9) rfl d_Model_opens_25 ?_
      refine lv_iconst (v := 1) hx hb d_Model_opens_28 (by decide) ?_
      refine lv_iadd hx hb d_Model_opens_29 ?_
      refine va_put (D := (dC, dI)) (ci := 11) (v := .int ((σ.1 32) + 1)) (ty := .int) hx hb hts i_Model t_Model t_Model_ok n_Model hown hK hP hD hS 11 rfl rfl 7 (by decide) (hts _ w_eb874fa0f0) (fun _ h9 => h9) rfl (by decide +kernel) rfl rfl (Nat.le_of_ble_eq_true rfl) d_Model_opens_30 (fun H locs hP hD hS => ?_)
      have hP : va_P (dC, dI) vwCl (tcw ad cA (sI σ 32 ((σ.1 32) + 1))) H := hP
      have hD : va_D A (tcw ad cA (sI σ 32 ((σ.1 32) + 1))) := hD
      refine lv_aload_n hx hb d_Model_opens_33 rfl (lv_at hl 0 rfl) ?_
      refine va_get (D := (dC, dI)) (ci := 11) (v := .int (σ.1 29)) hx hb hts i_Model hown hK hP 11 rfl rfl 4 (by decide) (hts _ w_0464dc4398) (fun _ h9 => h9) rfl d_Model_opens_34 ?_
      refine lv_if_ne (tgt := 50) hx hb d_Model_opens_37 (by decide) (fun c_4 => ?_) (fun c_4 => ?_)
      · have hF := ifn hF c_4
        cases hF
        exact leafV X hP hD hS d_Model_opens_50
      · have hF := ifp hF c_4
        refine lv_aload_n hx hb d_Model_opens_40 rfl (lv_at hl 0 rfl) ?_
        refine lv_dup hx hb d_Model_opens_41 rfl ?_
        refine va_get (D := (dC, dI)) (ci := 11) (v := .int (σ.1 31)) hx hb hts i_Model hown hK hP 11 rfl rfl 6 (by decide) (hts _ w_13cd8e7698) (fun _ h9 => h9) rfl d_Model_opens_42 ?_
        refine lv_iconst (v := 1) hx hb d_Model_opens_45 (by decide) ?_
        refine lv_iadd hx hb d_Model_opens_46 ?_
        refine va_put (D := (dC, dI)) (ci := 11) (v := .int ((σ.1 31) + 1)) (ty := .int) hx hb hts i_Model t_Model t_Model_ok n_Model hown hK hP hD hS 11 rfl rfl 6 (by decide) (hts _ w_13cd8e7698) (fun _ h9 => h9) rfl (by decide +kernel) rfl rfl (Nat.le_of_ble_eq_true rfl) d_Model_opens_47 (fun H locs hP hD hS => ?_)
        have hP : va_P (dC, dI) vwCl (tcw ad cA (sI (sI σ 32 ((σ.1 32) + 1)) 31 ((σ.1 31) + 1))) H := hP
        have hD : va_D A (tcw ad cA (sI (sI σ 32 ((σ.1 32) + 1)) 31 ((σ.1 31) + 1))) := hD
        cases hF
        exact leafV X hP hD hS d_Model_opens_50
set_option maxHeartbeats 4000000 in
set_option maxRecDepth 100000 in
theorem ct_Model_opens (l : Launch) (dC : Nat → ClassId) (dI : Nat → Nat → Nat) (ad : Nat → Nat) (cA : Nat → ClassId) (sz : Nat) {σ : St} {σ' : St} (hF : tModel_opens σ = some σ') : MV l y_Model_opens b_Model_opens 1 none { frames := 1, cells := 0, slots := 0, locals := 22 } (dC, dI) (ttys cA) ad (tcw ad cA) [.ref (ad 11)] σ sz σ' := by
  refine startM (own := "TinyForgeModel") (Qc := fun A => QV (dC, dI) (ttys cA) (tcw ad cA) A σ') rfl rfl (Nat.le_of_ble_eq_true rfl) ?_
  intro p e s m below meth c A H locs ls X hP hD hS hl
  have hl : lv_has ls 1 [(0, .ref (ad 11))] := hl
  obtain ⟨hx, hb, hr, hml, hown, hlocks, hts, hA, hK, hZ⟩ := id X
  unfold tModel_opens at hF
  refine lv_aload_n hx hb d_Model_opens_0 rfl (lv_at hl 0 rfl) ?_
  refine va_get (D := (dC, dI)) (ci := 11) (v := .int (σ.1 32)) hx hb hts i_Model hown hK hP 11 rfl rfl 7 (by decide) (hts _ w_eb874fa0f0) (fun _ h9 => h9) rfl d_Model_opens_1 ?_
  refine lv_bipush (v := 12) hx hb d_Model_opens_4 (by decide) ?_
  refine lv_icmp_ne (tgt := 23) hx hb d_Model_opens_6 (by decide) (fun c_1 => ?_) (fun c_1 => ?_)
  · have hF := ifn hF c_1
    exact (tModel_opens_blk l dC dI ad cA X 2000) σ  H locs ls hF hP hD hS (lv_sub hl [0] rfl)
  · have hF := ifp hF c_1
    refine lv_aload_n hx hb d_Model_opens_9 rfl (lv_at hl 0 rfl) ?_
    refine lv_iconst (v := 2) hx hb d_Model_opens_10 (by decide) ?_
    refine lv_aload_n hx hb d_Model_opens_11 rfl (lv_at hl 0 rfl) ?_
    refine va_get (D := (dC, dI)) (ci := 11) (v := .ref (ad 32)) hx hb hts i_Model hown hK hP 11 rfl rfl 10 (by decide) (hts _ w_58d30b60eb) (fun _ h9 => h9) rfl d_Model_opens_12 ?_
    refine lv_aload_n hx hb d_Model_opens_15 rfl (lv_at hl 0 rfl) ?_
    refine va_get (D := (dC, dI)) (ci := 11) (v := .int (σ.1 31)) hx hb hts i_Model hown hK hP 11 rfl rfl 6 (by decide) (hts _ w_13cd8e7698) (fun _ h9 => h9) rfl d_Model_opens_16 ?_
    obtain ⟨g_2, hF⟩ := gdE hF
    refine va_iald (f := (σ.2.2.1 17)) hx hb hK hP 32 0 rfl rfl (inE g_2) d_Model_opens_19 ?_
    obtain ⟨u3, h3, hF⟩ := b1E hF
    refine callVV (As := [.int 2, .int ((σ.2.2.1 17) (σ.1 31).toNatClampNeg)]) X (ct_Model_blame l dC dI ad cA H.size h3) lk_Model_140 ⟨rfl, rfl, by decide, by decide⟩ 11 rfl rfl hP hD hS hl.1 rfl rfl (Nat.le_of_ble_eq_true rfl) d_Model_opens_20 (fun H locs hP hD hS => ?_)
    exact (tModel_opens_blk l dC dI ad cA X 2000) u3  H locs ls hF hP hD hS (lv_sub hl [0] rfl)
theorem d_Model_beginBlock_0 : decode b_Model_beginBlock 0 = .ok (.aload_n 0, 1) := by decide +kernel
theorem d_Model_beginBlock_1 : decode b_Model_beginBlock 1 = .ok (.invokevirtual 233, 3) := by decide +kernel
theorem d_Model_beginBlock_4 : decode b_Model_beginBlock 4 = .ok (.aload_n 0, 1) := by decide +kernel
theorem d_Model_beginBlock_5 : decode b_Model_beginBlock 5 = .ok (.dup, 1) := by decide +kernel
theorem d_Model_beginBlock_6 : decode b_Model_beginBlock 6 = .ok (.getfield 287, 3) := by decide +kernel
theorem d_Model_beginBlock_9 : decode b_Model_beginBlock 9 = .ok (.iconst 1, 1) := by decide +kernel
theorem d_Model_beginBlock_10 : decode b_Model_beginBlock 10 = .ok (.iadd, 1) := by decide +kernel
theorem d_Model_beginBlock_11 : decode b_Model_beginBlock 11 = .ok (.putfield 287, 3) := by decide +kernel
theorem d_Model_beginBlock_14 : decode b_Model_beginBlock 14 = .ok (.aload_n 0, 1) := by decide +kernel
theorem d_Model_beginBlock_15 : decode b_Model_beginBlock 15 = .ok (.aload_n 0, 1) := by decide +kernel
theorem d_Model_beginBlock_16 : decode b_Model_beginBlock 16 = .ok (.bipush 10, 2) := by decide +kernel
theorem d_Model_beginBlock_18 : decode b_Model_beginBlock 18 = .ok (.iconst 0, 1) := by decide +kernel
theorem d_Model_beginBlock_19 : decode b_Model_beginBlock 19 = .ok (.iconst (-1), 1) := by decide +kernel
theorem d_Model_beginBlock_20 : decode b_Model_beginBlock 20 = .ok (.iconst (-1), 1) := by decide +kernel
theorem d_Model_beginBlock_21 : decode b_Model_beginBlock 21 = .ok (.invokevirtual 216, 3) := by decide +kernel
theorem d_Model_beginBlock_24 : decode b_Model_beginBlock 24 = .ok (.invokevirtual 293, 3) := by decide +kernel
theorem d_Model_beginBlock_27 : decode b_Model_beginBlock 27 = .ok (.return_, 1) := by decide +kernel
def tModel_beginBlock (σ : St) : Option (St) := b1 (tModel_opens σ) (fun u1 => b2 (tModel_node (sI u1 39 ((u1.1 39) + 1)) 10 0 (-1) (-1)) (fun r2 u2 => b1 (tModel_begin u2 r2) (fun u3 => some u3)))
set_option maxHeartbeats 4000000 in
set_option maxRecDepth 100000 in
theorem ct_Model_beginBlock (l : Launch) (dC : Nat → ClassId) (dI : Nat → Nat → Nat) (ad : Nat → Nat) (cA : Nat → ClassId) (sz : Nat) {σ : St} {σ' : St} (hF : tModel_beginBlock σ = some σ') : MV l y_Model_beginBlock b_Model_beginBlock 1 none { frames := 2, cells := 0, slots := 0, locals := 42 } (dC, dI) (ttys cA) ad (tcw ad cA) [.ref (ad 11)] σ sz σ' := by
  refine startM (own := "TinyForgeModel") (Qc := fun A => QV (dC, dI) (ttys cA) (tcw ad cA) A σ') rfl rfl (Nat.le_of_ble_eq_true rfl) ?_
  intro p e s m below meth c A H locs ls X hP hD hS hl
  have hl : lv_has ls 1 [(0, .ref (ad 11))] := hl
  obtain ⟨hx, hb, hr, hml, hown, hlocks, hts, hA, hK, hZ⟩ := id X
  unfold tModel_beginBlock at hF
  refine lv_aload_n hx hb d_Model_beginBlock_0 rfl (lv_at hl 0 rfl) ?_
  obtain ⟨u1, h1, hF⟩ := b1E hF
  refine callVV (As := []) X (ct_Model_opens l dC dI ad cA H.size h1) lk_Model_233 ⟨rfl, rfl, by decide, by decide⟩ 11 rfl rfl hP hD hS hl.1 rfl rfl (Nat.le_of_ble_eq_true rfl) d_Model_beginBlock_1 (fun H locs hP hD hS => ?_)
  refine lv_aload_n hx hb d_Model_beginBlock_4 rfl (lv_at hl 0 rfl) ?_
  refine lv_dup hx hb d_Model_beginBlock_5 rfl ?_
  refine va_get (D := (dC, dI)) (ci := 11) (v := .int (u1.1 39)) hx hb hts i_Model hown hK hP 11 rfl rfl 29 (by decide) (hts _ w_fd102d3787) (fun _ h9 => h9) rfl d_Model_beginBlock_6 ?_
  refine lv_iconst (v := 1) hx hb d_Model_beginBlock_9 (by decide) ?_
  refine lv_iadd hx hb d_Model_beginBlock_10 ?_
  refine va_put (D := (dC, dI)) (ci := 11) (v := .int ((u1.1 39) + 1)) (ty := .int) hx hb hts i_Model t_Model t_Model_ok n_Model hown hK hP hD hS 11 rfl rfl 29 (by decide) (hts _ w_fd102d3787) (fun _ h9 => h9) rfl (by decide +kernel) rfl rfl (Nat.le_of_ble_eq_true rfl) d_Model_beginBlock_11 (fun H locs hP hD hS => ?_)
  have hP : va_P (dC, dI) vwCl (tcw ad cA (sI u1 39 ((u1.1 39) + 1))) H := hP
  have hD : va_D A (tcw ad cA (sI u1 39 ((u1.1 39) + 1))) := hD
  refine lv_aload_n hx hb d_Model_beginBlock_14 rfl (lv_at hl 0 rfl) ?_
  refine lv_aload_n hx hb d_Model_beginBlock_15 rfl (lv_at hl 0 rfl) ?_
  refine lv_bipush (v := 10) hx hb d_Model_beginBlock_16 (by decide) ?_
  refine lv_iconst (v := 0) hx hb d_Model_beginBlock_18 (by decide) ?_
  refine lv_iconst (v := (-1)) hx hb d_Model_beginBlock_19 (by decide) ?_
  refine lv_iconst (v := (-1)) hx hb d_Model_beginBlock_20 (by decide) ?_
  obtain ⟨r2, u2, h2, hF⟩ := b2E hF
  refine callVI (As := [.int 10, .int 0, .int (-1), .int (-1)]) X (ct_Model_node l dC dI ad cA H.size h2) lk_Model_216 ⟨rfl, rfl, by decide, by decide⟩ 11 rfl rfl hP hD hS hl.1 rfl rfl (Nat.le_of_ble_eq_true rfl) d_Model_beginBlock_21 (fun H locs hP hD hS => ?_)
  obtain ⟨u3, h3, hF⟩ := b1E hF
  refine callVV (As := [.int r2]) X (ct_Model_begin l dC dI ad cA H.size h3) lk_Model_293 ⟨rfl, rfl, by decide, by decide⟩ 11 rfl rfl hP hD hS hl.1 rfl rfl (Nat.le_of_ble_eq_true rfl) d_Model_beginBlock_24 (fun H locs hP hD hS => ?_)
  cases hF
  exact leafV X hP hD hS d_Model_beginBlock_27
theorem d_Model_operand_0 : decode b_Model_operand 0 = .ok (.aload_n 0, 1) := by decide +kernel
theorem d_Model_operand_1 : decode b_Model_operand 1 = .ok (.getfield 70, 3) := by decide +kernel
theorem d_Model_operand_4 : decode b_Model_operand 4 = .ok (.aload_n 0, 1) := by decide +kernel
theorem d_Model_operand_5 : decode b_Model_operand 5 = .ok (.getfield 207, 3) := by decide +kernel
theorem d_Model_operand_8 : decode b_Model_operand 8 = .ok (.iload_n 1, 1) := by decide +kernel
theorem d_Model_operand_9 : decode b_Model_operand 9 = .ok (.iastore, 1) := by decide +kernel
theorem d_Model_operand_10 : decode b_Model_operand 10 = .ok (.aload_n 0, 1) := by decide +kernel
theorem d_Model_operand_11 : decode b_Model_operand 11 = .ok (.dup, 1) := by decide +kernel
theorem d_Model_operand_12 : decode b_Model_operand 12 = .ok (.getfield 207, 3) := by decide +kernel
theorem d_Model_operand_15 : decode b_Model_operand 15 = .ok (.iconst 1, 1) := by decide +kernel
theorem d_Model_operand_16 : decode b_Model_operand 16 = .ok (.iadd, 1) := by decide +kernel
theorem d_Model_operand_17 : decode b_Model_operand 17 = .ok (.putfield 207, 3) := by decide +kernel
theorem d_Model_operand_20 : decode b_Model_operand 20 = .ok (.return_, 1) := by decide +kernel
def tModel_operand (σ : St) (a1 : Int32) : Option (St) := gd (inB (σ.1 40) 60) (some (sI (sA σ 33 (upd (σ.2.2.1 33) (σ.1 40).toNatClampNeg a1)) 40 ((σ.1 40) + 1)))
set_option maxHeartbeats 4000000 in
set_option maxRecDepth 100000 in
theorem ct_Model_operand (l : Launch) (dC : Nat → ClassId) (dI : Nat → Nat → Nat) (ad : Nat → Nat) (cA : Nat → ClassId) (sz : Nat) {σ : St} {a1 : Int32} {σ' : St} (hF : tModel_operand σ a1 = some σ') : MV l y_Model_operand b_Model_operand 2 none { frames := 0, cells := 0, slots := 0, locals := 0 } (dC, dI) (ttys cA) ad (tcw ad cA) [.ref (ad 11), .int a1] σ sz σ' := by
  refine startM (own := "TinyForgeModel") (Qc := fun A => QV (dC, dI) (ttys cA) (tcw ad cA) A σ') rfl rfl (Nat.le_of_ble_eq_true rfl) ?_
  intro p e s m below meth c A H locs ls X hP hD hS hl
  have hl : lv_has ls 2 [(0, .ref (ad 11)), (1, .int a1)] := hl
  obtain ⟨hx, hb, hr, hml, hown, hlocks, hts, hA, hK, hZ⟩ := id X
  unfold tModel_operand at hF
  refine lv_aload_n hx hb d_Model_operand_0 rfl (lv_at hl 0 rfl) ?_
  refine va_get (D := (dC, dI)) (ci := 11) (v := .ref (ad 48)) hx hb hts i_Model hown hK hP 11 rfl rfl 32 (by decide) (hts _ w_231baed428) (fun _ h9 => h9) rfl d_Model_operand_1 ?_
  refine lv_aload_n hx hb d_Model_operand_4 rfl (lv_at hl 0 rfl) ?_
  refine va_get (D := (dC, dI)) (ci := 11) (v := .int (σ.1 40)) hx hb hts i_Model hown hK hP 11 rfl rfl 33 (by decide) (hts _ w_270be961d1) (fun _ h9 => h9) rfl d_Model_operand_5 ?_
  refine lv_iload_n hx hb d_Model_operand_8 rfl (lv_at hl 1 rfl) ?_
  obtain ⟨g_1, hF⟩ := gdE hF
  refine va_iast (f := (σ.2.2.1 33)) hx hb hK hP hD hS 48 0 rfl rfl (inE g_1) d_Model_operand_9 (fun H locs hP hD hS => ?_)
  have hP : va_P (dC, dI) vwCl (tcw ad cA (sA σ 33 (upd (σ.2.2.1 33) (σ.1 40).toNatClampNeg a1))) H := hP
  have hD : va_D A (tcw ad cA (sA σ 33 (upd (σ.2.2.1 33) (σ.1 40).toNatClampNeg a1))) := hD
  refine lv_aload_n hx hb d_Model_operand_10 rfl (lv_at hl 0 rfl) ?_
  refine lv_dup hx hb d_Model_operand_11 rfl ?_
  refine va_get (D := (dC, dI)) (ci := 11) (v := .int (σ.1 40)) hx hb hts i_Model hown hK hP 11 rfl rfl 33 (by decide) (hts _ w_270be961d1) (fun _ h9 => h9) rfl d_Model_operand_12 ?_
  refine lv_iconst (v := 1) hx hb d_Model_operand_15 (by decide) ?_
  refine lv_iadd hx hb d_Model_operand_16 ?_
  refine va_put (D := (dC, dI)) (ci := 11) (v := .int ((σ.1 40) + 1)) (ty := .int) hx hb hts i_Model t_Model t_Model_ok n_Model hown hK hP hD hS 11 rfl rfl 33 (by decide) (hts _ w_270be961d1) (fun _ h9 => h9) rfl (by decide +kernel) rfl rfl (Nat.le_of_ble_eq_true rfl) d_Model_operand_17 (fun H locs hP hD hS => ?_)
  have hP : va_P (dC, dI) vwCl (tcw ad cA (sI (sA σ 33 (upd (σ.2.2.1 33) (σ.1 40).toNatClampNeg a1)) 40 ((σ.1 40) + 1))) H := hP
  have hD : va_D A (tcw ad cA (sI (sA σ 33 (upd (σ.2.2.1 33) (σ.1 40).toNatClampNeg a1)) 40 ((σ.1 40) + 1))) := hD
  cases hF
  exact leafV X hP hD hS d_Model_operand_20
theorem d_Model_closeCall_0 : decode b_Model_closeCall 0 = .ok (.aload_n 0, 1) := by decide +kernel
theorem d_Model_closeCall_1 : decode b_Model_closeCall 1 = .ok (.dup, 1) := by decide +kernel
theorem d_Model_closeCall_2 : decode b_Model_closeCall 2 = .ok (.getfield 210, 3) := by decide +kernel
theorem d_Model_closeCall_5 : decode b_Model_closeCall 5 = .ok (.iconst 1, 1) := by decide +kernel
theorem d_Model_closeCall_6 : decode b_Model_closeCall 6 = .ok (.isub, 1) := by decide +kernel
theorem d_Model_closeCall_7 : decode b_Model_closeCall 7 = .ok (.putfield 210, 3) := by decide +kernel
theorem d_Model_closeCall_10 : decode b_Model_closeCall 10 = .ok (.aload_n 0, 1) := by decide +kernel
theorem d_Model_closeCall_11 : decode b_Model_closeCall 11 = .ok (.dup, 1) := by decide +kernel
theorem d_Model_closeCall_12 : decode b_Model_closeCall 12 = .ok (.getfield 197, 3) := by decide +kernel
theorem d_Model_closeCall_15 : decode b_Model_closeCall 15 = .ok (.iconst 1, 1) := by decide +kernel
theorem d_Model_closeCall_16 : decode b_Model_closeCall 16 = .ok (.isub, 1) := by decide +kernel
theorem d_Model_closeCall_17 : decode b_Model_closeCall 17 = .ok (.putfield 197, 3) := by decide +kernel
theorem d_Model_closeCall_20 : decode b_Model_closeCall 20 = .ok (.aload_n 0, 1) := by decide +kernel
theorem d_Model_closeCall_21 : decode b_Model_closeCall 21 = .ok (.aload_n 0, 1) := by decide +kernel
theorem d_Model_closeCall_22 : decode b_Model_closeCall 22 = .ok (.getfield 76, 3) := by decide +kernel
theorem d_Model_closeCall_25 : decode b_Model_closeCall 25 = .ok (.aload_n 0, 1) := by decide +kernel
theorem d_Model_closeCall_26 : decode b_Model_closeCall 26 = .ok (.getfield 210, 3) := by decide +kernel
theorem d_Model_closeCall_29 : decode b_Model_closeCall 29 = .ok (.iaload, 1) := by decide +kernel
theorem d_Model_closeCall_30 : decode b_Model_closeCall 30 = .ok (.invokevirtual 220, 3) := by decide +kernel
theorem d_Model_closeCall_33 : decode b_Model_closeCall 33 = .ok (.aload_n 0, 1) := by decide +kernel
theorem d_Model_closeCall_34 : decode b_Model_closeCall 34 = .ok (.dup, 1) := by decide +kernel
theorem d_Model_closeCall_35 : decode b_Model_closeCall 35 = .ok (.getfield 184, 3) := by decide +kernel
theorem d_Model_closeCall_38 : decode b_Model_closeCall 38 = .ok (.iconst 1, 1) := by decide +kernel
theorem d_Model_closeCall_39 : decode b_Model_closeCall 39 = .ok (.iadd, 1) := by decide +kernel
theorem d_Model_closeCall_40 : decode b_Model_closeCall 40 = .ok (.putfield 184, 3) := by decide +kernel
theorem d_Model_closeCall_43 : decode b_Model_closeCall 43 = .ok (.return_, 1) := by decide +kernel
def tModel_closeCall (σ : St) : Option (St) := gd (inB ((σ.1 41) - 1) 60) (b1 (tModel_operand (sI (sI σ 41 ((σ.1 41) - 1)) 32 ((σ.1 32) - 1)) ((σ.2.2.1 35) ((σ.1 41) - 1).toNatClampNeg)) (fun u2 => some (sI u2 31 ((u2.1 31) + 1))))
set_option maxHeartbeats 4000000 in
set_option maxRecDepth 100000 in
theorem ct_Model_closeCall (l : Launch) (dC : Nat → ClassId) (dI : Nat → Nat → Nat) (ad : Nat → Nat) (cA : Nat → ClassId) (sz : Nat) {σ : St} {σ' : St} (hF : tModel_closeCall σ = some σ') : MV l y_Model_closeCall b_Model_closeCall 1 none { frames := 1, cells := 0, slots := 0, locals := 21 } (dC, dI) (ttys cA) ad (tcw ad cA) [.ref (ad 11)] σ sz σ' := by
  refine startM (own := "TinyForgeModel") (Qc := fun A => QV (dC, dI) (ttys cA) (tcw ad cA) A σ') rfl rfl (Nat.le_of_ble_eq_true rfl) ?_
  intro p e s m below meth c A H locs ls X hP hD hS hl
  have hl : lv_has ls 1 [(0, .ref (ad 11))] := hl
  obtain ⟨hx, hb, hr, hml, hown, hlocks, hts, hA, hK, hZ⟩ := id X
  unfold tModel_closeCall at hF
  refine lv_aload_n hx hb d_Model_closeCall_0 rfl (lv_at hl 0 rfl) ?_
  refine lv_dup hx hb d_Model_closeCall_1 rfl ?_
  refine va_get (D := (dC, dI)) (ci := 11) (v := .int (σ.1 41)) hx hb hts i_Model hown hK hP 11 rfl rfl 34 (by decide) (hts _ w_98d35192b7) (fun _ h9 => h9) rfl d_Model_closeCall_2 ?_
  refine lv_iconst (v := 1) hx hb d_Model_closeCall_5 (by decide) ?_
  refine lv_isub hx hb d_Model_closeCall_6 ?_
  refine va_put (D := (dC, dI)) (ci := 11) (v := .int ((σ.1 41) - 1)) (ty := .int) hx hb hts i_Model t_Model t_Model_ok n_Model hown hK hP hD hS 11 rfl rfl 34 (by decide) (hts _ w_98d35192b7) (fun _ h9 => h9) rfl (by decide +kernel) rfl rfl (Nat.le_of_ble_eq_true rfl) d_Model_closeCall_7 (fun H locs hP hD hS => ?_)
  have hP : va_P (dC, dI) vwCl (tcw ad cA (sI σ 41 ((σ.1 41) - 1))) H := hP
  have hD : va_D A (tcw ad cA (sI σ 41 ((σ.1 41) - 1))) := hD
  refine lv_aload_n hx hb d_Model_closeCall_10 rfl (lv_at hl 0 rfl) ?_
  refine lv_dup hx hb d_Model_closeCall_11 rfl ?_
  refine va_get (D := (dC, dI)) (ci := 11) (v := .int (σ.1 32)) hx hb hts i_Model hown hK hP 11 rfl rfl 7 (by decide) (hts _ w_eb874fa0f0) (fun _ h9 => h9) rfl d_Model_closeCall_12 ?_
  refine lv_iconst (v := 1) hx hb d_Model_closeCall_15 (by decide) ?_
  refine lv_isub hx hb d_Model_closeCall_16 ?_
  refine va_put (D := (dC, dI)) (ci := 11) (v := .int ((σ.1 32) - 1)) (ty := .int) hx hb hts i_Model t_Model t_Model_ok n_Model hown hK hP hD hS 11 rfl rfl 7 (by decide) (hts _ w_eb874fa0f0) (fun _ h9 => h9) rfl (by decide +kernel) rfl rfl (Nat.le_of_ble_eq_true rfl) d_Model_closeCall_17 (fun H locs hP hD hS => ?_)
  have hP : va_P (dC, dI) vwCl (tcw ad cA (sI (sI σ 41 ((σ.1 41) - 1)) 32 ((σ.1 32) - 1))) H := hP
  have hD : va_D A (tcw ad cA (sI (sI σ 41 ((σ.1 41) - 1)) 32 ((σ.1 32) - 1))) := hD
  refine lv_aload_n hx hb d_Model_closeCall_20 rfl (lv_at hl 0 rfl) ?_
  refine lv_aload_n hx hb d_Model_closeCall_21 rfl (lv_at hl 0 rfl) ?_
  refine va_get (D := (dC, dI)) (ci := 11) (v := .ref (ad 50)) hx hb hts i_Model hown hK hP 11 rfl rfl 37 (by decide) (hts _ w_4d94d4f137) (fun _ h9 => h9) rfl d_Model_closeCall_22 ?_
  refine lv_aload_n hx hb d_Model_closeCall_25 rfl (lv_at hl 0 rfl) ?_
  refine va_get (D := (dC, dI)) (ci := 11) (v := .int ((σ.1 41) - 1)) hx hb hts i_Model hown hK hP 11 rfl rfl 34 (by decide) (hts _ w_98d35192b7) (fun _ h9 => h9) rfl d_Model_closeCall_26 ?_
  obtain ⟨g_1, hF⟩ := gdE hF
  refine va_iald (f := (σ.2.2.1 35)) hx hb hK hP 50 0 rfl rfl (inE g_1) d_Model_closeCall_29 ?_
  obtain ⟨u2, h2, hF⟩ := b1E hF
  refine callVV (As := [.int ((σ.2.2.1 35) ((σ.1 41) - 1).toNatClampNeg)]) X (ct_Model_operand l dC dI ad cA H.size h2) lk_Model_220 ⟨rfl, rfl, by decide, by decide⟩ 11 rfl rfl hP hD hS hl.1 rfl rfl (Nat.le_of_ble_eq_true rfl) d_Model_closeCall_30 (fun H locs hP hD hS => ?_)
  refine lv_aload_n hx hb d_Model_closeCall_33 rfl (lv_at hl 0 rfl) ?_
  refine lv_dup hx hb d_Model_closeCall_34 rfl ?_
  refine va_get (D := (dC, dI)) (ci := 11) (v := .int (u2.1 31)) hx hb hts i_Model hown hK hP 11 rfl rfl 6 (by decide) (hts _ w_13cd8e7698) (fun _ h9 => h9) rfl d_Model_closeCall_35 ?_
  refine lv_iconst (v := 1) hx hb d_Model_closeCall_38 (by decide) ?_
  refine lv_iadd hx hb d_Model_closeCall_39 ?_
  refine va_put (D := (dC, dI)) (ci := 11) (v := .int ((u2.1 31) + 1)) (ty := .int) hx hb hts i_Model t_Model t_Model_ok n_Model hown hK hP hD hS 11 rfl rfl 6 (by decide) (hts _ w_13cd8e7698) (fun _ h9 => h9) rfl (by decide +kernel) rfl rfl (Nat.le_of_ble_eq_true rfl) d_Model_closeCall_40 (fun H locs hP hD hS => ?_)
  have hP : va_P (dC, dI) vwCl (tcw ad cA (sI u2 31 ((u2.1 31) + 1))) H := hP
  have hD : va_D A (tcw ad cA (sI u2 31 ((u2.1 31) + 1))) := hD
  cases hF
  exact leafV X hP hD hS d_Model_closeCall_43
theorem d_Model_hold_0 : decode b_Model_hold 0 = .ok (.aload_n 0, 1) := by decide +kernel
theorem d_Model_hold_1 : decode b_Model_hold 1 = .ok (.getfield 73, 3) := by decide +kernel
theorem d_Model_hold_4 : decode b_Model_hold 4 = .ok (.aload_n 0, 1) := by decide +kernel
theorem d_Model_hold_5 : decode b_Model_hold 5 = .ok (.getfield 210, 3) := by decide +kernel
theorem d_Model_hold_8 : decode b_Model_hold 8 = .ok (.iload_n 1, 1) := by decide +kernel
theorem d_Model_hold_9 : decode b_Model_hold 9 = .ok (.iastore, 1) := by decide +kernel
theorem d_Model_hold_10 : decode b_Model_hold 10 = .ok (.aload_n 0, 1) := by decide +kernel
theorem d_Model_hold_11 : decode b_Model_hold 11 = .ok (.getfield 76, 3) := by decide +kernel
theorem d_Model_hold_14 : decode b_Model_hold 14 = .ok (.aload_n 0, 1) := by decide +kernel
theorem d_Model_hold_15 : decode b_Model_hold 15 = .ok (.getfield 210, 3) := by decide +kernel
theorem d_Model_hold_18 : decode b_Model_hold 18 = .ok (.iload_n 2, 1) := by decide +kernel
theorem d_Model_hold_19 : decode b_Model_hold 19 = .ok (.iastore, 1) := by decide +kernel
theorem d_Model_hold_20 : decode b_Model_hold 20 = .ok (.aload_n 0, 1) := by decide +kernel
theorem d_Model_hold_21 : decode b_Model_hold 21 = .ok (.dup, 1) := by decide +kernel
theorem d_Model_hold_22 : decode b_Model_hold 22 = .ok (.getfield 210, 3) := by decide +kernel
theorem d_Model_hold_25 : decode b_Model_hold 25 = .ok (.iconst 1, 1) := by decide +kernel
theorem d_Model_hold_26 : decode b_Model_hold 26 = .ok (.iadd, 1) := by decide +kernel
theorem d_Model_hold_27 : decode b_Model_hold 27 = .ok (.putfield 210, 3) := by decide +kernel
theorem d_Model_hold_30 : decode b_Model_hold 30 = .ok (.return_, 1) := by decide +kernel
def tModel_hold (σ : St) (a1 : Int32) (a2 : Int32) : Option (St) := gd (inB (σ.1 41) 60) (gd (inB (σ.1 41) 60) (some (sI (sA (sA σ 34 (upd (σ.2.2.1 34) (σ.1 41).toNatClampNeg a1)) 35 (upd (σ.2.2.1 35) (σ.1 41).toNatClampNeg a2)) 41 ((σ.1 41) + 1))))
set_option maxHeartbeats 4000000 in
set_option maxRecDepth 100000 in
theorem ct_Model_hold (l : Launch) (dC : Nat → ClassId) (dI : Nat → Nat → Nat) (ad : Nat → Nat) (cA : Nat → ClassId) (sz : Nat) {σ : St} {a1 : Int32} {a2 : Int32} {σ' : St} (hF : tModel_hold σ a1 a2 = some σ') : MV l y_Model_hold b_Model_hold 3 none { frames := 0, cells := 0, slots := 0, locals := 0 } (dC, dI) (ttys cA) ad (tcw ad cA) [.ref (ad 11), .int a1, .int a2] σ sz σ' := by
  refine startM (own := "TinyForgeModel") (Qc := fun A => QV (dC, dI) (ttys cA) (tcw ad cA) A σ') rfl rfl (Nat.le_of_ble_eq_true rfl) ?_
  intro p e s m below meth c A H locs ls X hP hD hS hl
  have hl : lv_has ls 3 [(0, .ref (ad 11)), (1, .int a1), (2, .int a2)] := hl
  obtain ⟨hx, hb, hr, hml, hown, hlocks, hts, hA, hK, hZ⟩ := id X
  unfold tModel_hold at hF
  refine lv_aload_n hx hb d_Model_hold_0 rfl (lv_at hl 0 rfl) ?_
  refine va_get (D := (dC, dI)) (ci := 11) (v := .ref (ad 49)) hx hb hts i_Model hown hK hP 11 rfl rfl 36 (by decide) (hts _ w_2d771b9611) (fun _ h9 => h9) rfl d_Model_hold_1 ?_
  refine lv_aload_n hx hb d_Model_hold_4 rfl (lv_at hl 0 rfl) ?_
  refine va_get (D := (dC, dI)) (ci := 11) (v := .int (σ.1 41)) hx hb hts i_Model hown hK hP 11 rfl rfl 34 (by decide) (hts _ w_98d35192b7) (fun _ h9 => h9) rfl d_Model_hold_5 ?_
  refine lv_iload_n hx hb d_Model_hold_8 rfl (lv_at hl 1 rfl) ?_
  obtain ⟨g_1, hF⟩ := gdE hF
  refine va_iast (f := (σ.2.2.1 34)) hx hb hK hP hD hS 49 0 rfl rfl (inE g_1) d_Model_hold_9 (fun H locs hP hD hS => ?_)
  have hP : va_P (dC, dI) vwCl (tcw ad cA (sA σ 34 (upd (σ.2.2.1 34) (σ.1 41).toNatClampNeg a1))) H := hP
  have hD : va_D A (tcw ad cA (sA σ 34 (upd (σ.2.2.1 34) (σ.1 41).toNatClampNeg a1))) := hD
  refine lv_aload_n hx hb d_Model_hold_10 rfl (lv_at hl 0 rfl) ?_
  refine va_get (D := (dC, dI)) (ci := 11) (v := .ref (ad 50)) hx hb hts i_Model hown hK hP 11 rfl rfl 37 (by decide) (hts _ w_4d94d4f137) (fun _ h9 => h9) rfl d_Model_hold_11 ?_
  refine lv_aload_n hx hb d_Model_hold_14 rfl (lv_at hl 0 rfl) ?_
  refine va_get (D := (dC, dI)) (ci := 11) (v := .int (σ.1 41)) hx hb hts i_Model hown hK hP 11 rfl rfl 34 (by decide) (hts _ w_98d35192b7) (fun _ h9 => h9) rfl d_Model_hold_15 ?_
  refine lv_iload_n hx hb d_Model_hold_18 rfl (lv_at hl 2 rfl) ?_
  obtain ⟨g_2, hF⟩ := gdE hF
  refine va_iast (f := (σ.2.2.1 35)) hx hb hK hP hD hS 50 0 rfl rfl (inE g_2) d_Model_hold_19 (fun H locs hP hD hS => ?_)
  have hP : va_P (dC, dI) vwCl (tcw ad cA (sA (sA σ 34 (upd (σ.2.2.1 34) (σ.1 41).toNatClampNeg a1)) 35 (upd (σ.2.2.1 35) (σ.1 41).toNatClampNeg a2))) H := hP
  have hD : va_D A (tcw ad cA (sA (sA σ 34 (upd (σ.2.2.1 34) (σ.1 41).toNatClampNeg a1)) 35 (upd (σ.2.2.1 35) (σ.1 41).toNatClampNeg a2))) := hD
  refine lv_aload_n hx hb d_Model_hold_20 rfl (lv_at hl 0 rfl) ?_
  refine lv_dup hx hb d_Model_hold_21 rfl ?_
  refine va_get (D := (dC, dI)) (ci := 11) (v := .int (σ.1 41)) hx hb hts i_Model hown hK hP 11 rfl rfl 34 (by decide) (hts _ w_98d35192b7) (fun _ h9 => h9) rfl d_Model_hold_22 ?_
  refine lv_iconst (v := 1) hx hb d_Model_hold_25 (by decide) ?_
  refine lv_iadd hx hb d_Model_hold_26 ?_
  refine va_put (D := (dC, dI)) (ci := 11) (v := .int ((σ.1 41) + 1)) (ty := .int) hx hb hts i_Model t_Model t_Model_ok n_Model hown hK hP hD hS 11 rfl rfl 34 (by decide) (hts _ w_98d35192b7) (fun _ h9 => h9) rfl (by decide +kernel) rfl rfl (Nat.le_of_ble_eq_true rfl) d_Model_hold_27 (fun H locs hP hD hS => ?_)
  have hP : va_P (dC, dI) vwCl (tcw ad cA (sI (sA (sA σ 34 (upd (σ.2.2.1 34) (σ.1 41).toNatClampNeg a1)) 35 (upd (σ.2.2.1 35) (σ.1 41).toNatClampNeg a2)) 41 ((σ.1 41) + 1))) H := hP
  have hD : va_D A (tcw ad cA (sI (sA (sA σ 34 (upd (σ.2.2.1 34) (σ.1 41).toNatClampNeg a1)) 35 (upd (σ.2.2.1 35) (σ.1 41).toNatClampNeg a2)) 41 ((σ.1 41) + 1))) := hD
  cases hF
  exact leafV X hP hD hS d_Model_hold_30
theorem d_Model_variable_0 : decode b_Model_variable 0 = .ok (.iconst (-1), 1) := by decide +kernel
theorem d_Model_variable_1 : decode b_Model_variable 1 = .ok (.istore_n 2, 1) := by decide +kernel
theorem d_Model_variable_2 : decode b_Model_variable 2 = .ok (.iconst 0, 1) := by decide +kernel
theorem d_Model_variable_3 : decode b_Model_variable 3 = .ok (.istore_n 3, 1) := by decide +kernel
theorem d_Model_variable_4 : decode b_Model_variable 4 = .ok (.iload_n 3, 1) := by decide +kernel
theorem d_Model_variable_5 : decode b_Model_variable 5 = .ok (.aload_n 0, 1) := by decide +kernel
theorem d_Model_variable_6 : decode b_Model_variable 6 = .ok (.getfield 224, 3) := by decide +kernel
theorem d_Model_variable_9 : decode b_Model_variable 9 = .ok (.if_icmp .ge 29, 3) := by decide +kernel
theorem d_Model_variable_12 : decode b_Model_variable 12 = .ok (.aload_n 0, 1) := by decide +kernel
theorem d_Model_variable_13 : decode b_Model_variable 13 = .ok (.aload_n 0, 1) := by decide +kernel
theorem d_Model_variable_14 : decode b_Model_variable 14 = .ok (.getfield 64, 3) := by decide +kernel
theorem d_Model_variable_17 : decode b_Model_variable 17 = .ok (.iload_n 3, 1) := by decide +kernel
theorem d_Model_variable_18 : decode b_Model_variable 18 = .ok (.iaload, 1) := by decide +kernel
theorem d_Model_variable_19 : decode b_Model_variable 19 = .ok (.iload_n 1, 1) := by decide +kernel
theorem d_Model_variable_20 : decode b_Model_variable 20 = .ok (.invokevirtual 227, 3) := by decide +kernel
theorem d_Model_variable_23 : decode b_Model_variable 23 = .ok (.ifCond .eq 7, 3) := by decide +kernel
theorem d_Model_variable_26 : decode b_Model_variable 26 = .ok (.iload_n 3, 1) := by decide +kernel
theorem d_Model_variable_27 : decode b_Model_variable 27 = .ok (.goto 4, 3) := by decide +kernel
theorem d_Model_variable_30 : decode b_Model_variable 30 = .ok (.iload_n 2, 1) := by decide +kernel
theorem d_Model_variable_31 : decode b_Model_variable 31 = .ok (.istore_n 2, 1) := by decide +kernel
theorem d_Model_variable_32 : decode b_Model_variable 32 = .ok (.iinc 3 1, 3) := by decide +kernel
theorem d_Model_variable_35 : decode b_Model_variable 35 = .ok (.goto (-31), 3) := by decide +kernel
theorem d_Model_variable_38 : decode b_Model_variable 38 = .ok (.iload_n 2, 1) := by decide +kernel
theorem d_Model_variable_39 : decode b_Model_variable 39 = .ok (.ireturn, 1) := by decide +kernel
def tModel_variable_b1 (k : Nat → St → Int32 → Int32 → Int32 → Option (Int32)) (σ : St) (x1 : Int32) (x2 : Int32) (x3 : Int32) : Option (Int32) := if (σ.1 38) ≤ x3 then some x2 else gd (inB x3 120) (b1 (tModel_areAlike σ ((σ.2.2.1 31) x3.toNatClampNeg) x1) (fun r3 => if r3 = 0 then k 2 σ x1 x3 x2 else k 2 σ x1 x3 x3))
def tModel_variable_b2 (k : Nat → St → Int32 → Int32 → Int32 → Option (Int32)) (σ : St) (x1 : Int32) (x2 : Int32) (x3 : Int32) : Option (Int32) := k 1 σ x1 x3 (x2 + 1)
def tModel_variable_L : Nat → Nat → St → Int32 → Int32 → Int32 → Option (Int32)
  | 0, _, _, _, _, _ => none
  | n + 1, lab, σ, x1, x2, x3 => match lab with
    | 1 => tModel_variable_b1 (tModel_variable_L n) σ x1 x2 x3
    | 2 => tModel_variable_b2 (tModel_variable_L n) σ x1 x2 x3
    | _ => none
def tModel_variable (σ : St) (a1 : Int32) : Option (Int32) := tModel_variable_L 2000 1 σ a1 (-1) 0
set_option maxHeartbeats 4000000 in
set_option maxRecDepth 100000 in
theorem tModel_variable_blk {p : Program} {e : Env} {s : State} {m : MethodId} {args : Array Value} {below : List Frame} {meth : Method} {c : Code} {A : Nat → Prop} (l : Launch) (dC : Nat → ClassId) (dI : Nat → Nat → Nat) (ad : Nat → Nat) (cA : Nat → ClassId) {r : Int32} (X : Cx p s m args meth c b_Model_variable 4 (some .int) "TinyForgeModel" (dC, dI) (ttys cA) ad A) : ∀ n : Nat, (∀ (σ : St) (x1 : Int32) (x2 : Int32) (x3 : Int32) (H : Heap) (locs : List Loc) (ls : Array Slot), tModel_variable_L n 1 σ x1 x2 x3 = some r → va_P (dC, dI) vwCl (tcw ad cA σ) H → va_D A (tcw ad cA σ) → va_S A s.heap H locs → lv_has ls 4 [(0, .ref (ad 11)), (1, .int x1), (2, .int x2), (3, .int x3)] → W p l e { frames := 1, cells := 0, slots := 0, locals := 24 } s m args below meth c H locs 0 0 (MQ below (QI (dC, dI) (ttys cA) (tcw ad cA) A r σ) args s 0 0 A) (F0 m 4 ls [])) ∧ (∀ (σ : St) (x1 : Int32) (x2 : Int32) (x3 : Int32) (H : Heap) (locs : List Loc) (ls : Array Slot), tModel_variable_L n 2 σ x1 x2 x3 = some r → va_P (dC, dI) vwCl (tcw ad cA σ) H → va_D A (tcw ad cA σ) → va_S A s.heap H locs → lv_has ls 4 [(0, .ref (ad 11)), (1, .int x1), (3, .int x2)] → W p l e { frames := 1, cells := 0, slots := 0, locals := 24 } s m args below meth c H locs 0 0 (MQ below (QI (dC, dI) (ttys cA) (tcw ad cA) A r σ) args s 0 0 A) (F0 m 31 ls [.int x3])) := by
  obtain ⟨hx, hb, hr, hml, hown, hlocks, hts, hA, hK, hZ⟩ := id X
  intro n
  induction n with
  | zero => exact ⟨(fun σ x1 x2 x3 H locs ls hF => by cases hF), (fun σ x1 x2 x3 H locs ls hF => by cases hF)⟩
  | succ n ihn =>
    refine ⟨fun σ x1 x2 x3 H locs ls hF hP hD hS hl => ?_, fun σ x1 x2 x3 H locs ls hF hP hD hS hl => ?_⟩
    · have hF : tModel_variable_b1 (tModel_variable_L n) σ x1 x2 x3 = some r := hF
      unfold tModel_variable_b1 at hF
      refine lv_iload_n hx hb d_Model_variable_4 rfl (lv_at hl 3 rfl) ?_
      refine lv_aload_n hx hb d_Model_variable_5 rfl (lv_at hl 0 rfl) ?_
      refine va_get (D := (dC, dI)) (ci := 11) (v := .int (σ.1 38)) hx hb hts i_Model hown hK hP 11 rfl rfl 28 (by decide) (hts _ w_805d5a2f41) (fun _ h9 => h9) rfl d_Model_variable_6 ?_
      refine lv_icmp_ge (tgt := 38) hx hb d_Model_variable_9 (by decide) (fun c_1 => ?_) (fun c_1 => ?_)
      · have hF := ifp hF c_1
        refine lv_iload_n hx hb d_Model_variable_38 rfl (lv_at hl 2 rfl) ?_
        cases hF
        exact leafI X hP hD hS d_Model_variable_39
      · have hF := ifn hF c_1
        refine lv_aload_n hx hb d_Model_variable_12 rfl (lv_at hl 0 rfl) ?_
        refine lv_aload_n hx hb d_Model_variable_13 rfl (lv_at hl 0 rfl) ?_
        refine va_get (D := (dC, dI)) (ci := 11) (v := .ref (ad 46)) hx hb hts i_Model hown hK hP 11 rfl rfl 30 (by decide) (hts _ w_c6f89adc81) (fun _ h9 => h9) rfl d_Model_variable_14 ?_
        refine lv_iload_n hx hb d_Model_variable_17 rfl (lv_at hl 3 rfl) ?_
        obtain ⟨g_2, hF⟩ := gdE hF
        refine va_iald (f := (σ.2.2.1 31)) hx hb hK hP 46 0 rfl rfl (inE g_2) d_Model_variable_18 ?_
        refine lv_iload_n hx hb d_Model_variable_19 rfl (lv_at hl 1 rfl) ?_
        obtain ⟨r3, h3, hF⟩ := b1E hF
        refine callVI (As := [.int ((σ.2.2.1 31) x3.toNatClampNeg), .int x1]) X (ct_Model_areAlike l dC dI ad cA H.size h3) lk_Model_227 ⟨rfl, rfl, by decide, by decide⟩ 11 rfl rfl hP hD hS hl.1 rfl rfl (Nat.le_of_ble_eq_true rfl) d_Model_variable_20 (fun H locs hP hD hS => ?_)
        refine lv_if_eq (tgt := 30) hx hb d_Model_variable_23 (by decide) (fun c_4 => ?_) (fun c_4 => ?_)
        · have hF := ifp hF c_4
          refine lv_iload_n hx hb d_Model_variable_30 rfl (lv_at hl 2 rfl) ?_
          exact ihn.2 σ x1 x3 x2 H locs ls hF hP hD hS (lv_sub hl [0, 1, 3] rfl)
        · have hF := ifn hF c_4
          refine lv_iload_n hx hb d_Model_variable_26 rfl (lv_at hl 3 rfl) ?_
          refine lv_goto (tgt := 31) hx hb d_Model_variable_27 (by decide) ?_
          exact ihn.2 σ x1 x3 x3 H locs ls hF hP hD hS (lv_sub hl [0, 1, 3] rfl)
    · have hF : tModel_variable_b2 (tModel_variable_L n) σ x1 x2 x3 = some r := hF
      unfold tModel_variable_b2 at hF
      refine lv_istore_n (lv' := [(2, .int x3), (0, .ref (ad 11)), (1, .int x1), (3, .int x2)]) hx hb d_Model_variable_31 rfl hl (by decide) rfl (fun ls hl => ?_)
      refine lv_iinc (v := (x2 + 1)) (lv' := [(3, .int (x2 + 1)), (2, .int x3), (0, .ref (ad 11)), (1, .int x1)]) hx hb d_Model_variable_32 hl (k := 3) rfl rfl (by decide) rfl (fun ls hl => ?_)
      refine lv_goto (tgt := 4) hx hb d_Model_variable_35 (by decide) ?_
      exact ihn.1 σ x1 x3 (x2 + 1) H locs ls hF hP hD hS (lv_sub hl [2, 3, 1, 0] rfl)
set_option maxHeartbeats 4000000 in
set_option maxRecDepth 100000 in
theorem ct_Model_variable (l : Launch) (dC : Nat → ClassId) (dI : Nat → Nat → Nat) (ad : Nat → Nat) (cA : Nat → ClassId) (sz : Nat) {σ : St} {a1 : Int32} {r : Int32} (hF : tModel_variable σ a1 = some r) : MI l y_Model_variable b_Model_variable 4 (some .int) { frames := 1, cells := 0, slots := 0, locals := 24 } (dC, dI) (ttys cA) ad (tcw ad cA) [.ref (ad 11), .int a1] σ sz r σ := by
  refine startM (own := "TinyForgeModel") (Qc := fun A => QI (dC, dI) (ttys cA) (tcw ad cA) A r σ) rfl rfl (Nat.le_of_ble_eq_true rfl) ?_
  intro p e s m below meth c A H locs ls X hP hD hS hl
  have hl : lv_has ls 4 [(0, .ref (ad 11)), (1, .int a1)] := hl
  obtain ⟨hx, hb, hr, hml, hown, hlocks, hts, hA, hK, hZ⟩ := id X
  unfold tModel_variable at hF
  refine lv_iconst (v := (-1)) hx hb d_Model_variable_0 (by decide) ?_
  refine lv_istore_n (lv' := [(2, .int (-1)), (0, .ref (ad 11)), (1, .int a1)]) hx hb d_Model_variable_1 rfl hl (by decide) rfl (fun ls hl => ?_)
  refine lv_iconst (v := 0) hx hb d_Model_variable_2 (by decide) ?_
  refine lv_istore_n (lv' := [(3, .int 0), (2, .int (-1)), (0, .ref (ad 11)), (1, .int a1)]) hx hb d_Model_variable_3 rfl hl (by decide) rfl (fun ls hl => ?_)
  exact (tModel_variable_blk l dC dI ad cA X 2000).1 σ a1 (-1) 0 H locs ls hF hP hD hS (lv_sub hl [2, 3, 1, 0] rfl)
theorem d_Model_beginName_0 : decode b_Model_beginName 0 = .ok (.aload_n 0, 1) := by decide +kernel
theorem d_Model_beginName_1 : decode b_Model_beginName 1 = .ok (.getfield 184, 3) := by decide +kernel
theorem d_Model_beginName_4 : decode b_Model_beginName 4 = .ok (.istore_n 1, 1) := by decide +kernel
theorem d_Model_beginName_5 : decode b_Model_beginName 5 = .ok (.aload_n 0, 1) := by decide +kernel
theorem d_Model_beginName_6 : decode b_Model_beginName 6 = .ok (.dup, 1) := by decide +kernel
theorem d_Model_beginName_7 : decode b_Model_beginName 7 = .ok (.getfield 184, 3) := by decide +kernel
theorem d_Model_beginName_10 : decode b_Model_beginName 10 = .ok (.iconst 1, 1) := by decide +kernel
theorem d_Model_beginName_11 : decode b_Model_beginName 11 = .ok (.iadd, 1) := by decide +kernel
theorem d_Model_beginName_12 : decode b_Model_beginName 12 = .ok (.putfield 184, 3) := by decide +kernel
theorem d_Model_beginName_15 : decode b_Model_beginName 15 = .ok (.aload_n 0, 1) := by decide +kernel
theorem d_Model_beginName_16 : decode b_Model_beginName 16 = .ok (.ldc2_w 231, 3) := by decide +kernel
theorem d_Model_beginName_19 : decode b_Model_beginName 19 = .ok (.invokevirtual 190, 3) := by decide +kernel
theorem d_Model_beginName_22 : decode b_Model_beginName 22 = .ok (.ifCond .eq 16, 3) := by decide +kernel
theorem d_Model_beginName_25 : decode b_Model_beginName 25 = .ok (.aload_n 0, 1) := by decide +kernel
theorem d_Model_beginName_26 : decode b_Model_beginName 26 = .ok (.invokevirtual 233, 3) := by decide +kernel
theorem d_Model_beginName_29 : decode b_Model_beginName 29 = .ok (.aload_n 0, 1) := by decide +kernel
theorem d_Model_beginName_30 : decode b_Model_beginName 30 = .ok (.bipush 33, 2) := by decide +kernel
theorem d_Model_beginName_32 : decode b_Model_beginName 32 = .ok (.iload_n 1, 1) := by decide +kernel
theorem d_Model_beginName_33 : decode b_Model_beginName 33 = .ok (.invokevirtual 236, 3) := by decide +kernel
theorem d_Model_beginName_36 : decode b_Model_beginName 36 = .ok (.iconst 1, 1) := by decide +kernel
theorem d_Model_beginName_37 : decode b_Model_beginName 37 = .ok (.ireturn, 1) := by decide +kernel
theorem d_Model_beginName_38 : decode b_Model_beginName 38 = .ok (.aload_n 0, 1) := by decide +kernel
theorem d_Model_beginName_39 : decode b_Model_beginName 39 = .ok (.ldc2_w 239, 3) := by decide +kernel
theorem d_Model_beginName_42 : decode b_Model_beginName 42 = .ok (.invokevirtual 190, 3) := by decide +kernel
theorem d_Model_beginName_45 : decode b_Model_beginName 45 = .ok (.ifCond .eq 59, 3) := by decide +kernel
theorem d_Model_beginName_48 : decode b_Model_beginName 48 = .ok (.aload_n 0, 1) := by decide +kernel
theorem d_Model_beginName_49 : decode b_Model_beginName 49 = .ok (.iconst 5, 1) := by decide +kernel
theorem d_Model_beginName_50 : decode b_Model_beginName 50 = .ok (.iconst 0, 1) := by decide +kernel
theorem d_Model_beginName_51 : decode b_Model_beginName 51 = .ok (.iconst (-1), 1) := by decide +kernel
theorem d_Model_beginName_52 : decode b_Model_beginName 52 = .ok (.iconst (-1), 1) := by decide +kernel
theorem d_Model_beginName_53 : decode b_Model_beginName 53 = .ok (.invokevirtual 216, 3) := by decide +kernel
theorem d_Model_beginName_56 : decode b_Model_beginName 56 = .ok (.istore_n 2, 1) := by decide +kernel
theorem d_Model_beginName_57 : decode b_Model_beginName 57 = .ok (.aload_n 0, 1) := by decide +kernel
theorem d_Model_beginName_58 : decode b_Model_beginName 58 = .ok (.getfield 48, 3) := by decide +kernel
theorem d_Model_beginName_61 : decode b_Model_beginName 61 = .ok (.iload_n 2, 1) := by decide +kernel
theorem d_Model_beginName_62 : decode b_Model_beginName 62 = .ok (.iload_n 1, 1) := by decide +kernel
theorem d_Model_beginName_63 : decode b_Model_beginName 63 = .ok (.iastore, 1) := by decide +kernel
theorem d_Model_beginName_64 : decode b_Model_beginName 64 = .ok (.aload_n 0, 1) := by decide +kernel
theorem d_Model_beginName_65 : decode b_Model_beginName 65 = .ok (.getfield 42, 3) := by decide +kernel
theorem d_Model_beginName_68 : decode b_Model_beginName 68 = .ok (.iload_n 2, 1) := by decide +kernel
theorem d_Model_beginName_69 : decode b_Model_beginName 69 = .ok (.aload_n 0, 1) := by decide +kernel
theorem d_Model_beginName_70 : decode b_Model_beginName 70 = .ok (.iload_n 1, 1) := by decide +kernel
theorem d_Model_beginName_71 : decode b_Model_beginName 71 = .ok (.invokevirtual 241, 3) := by decide +kernel
theorem d_Model_beginName_74 : decode b_Model_beginName 74 = .ok (.iastore, 1) := by decide +kernel
theorem d_Model_beginName_75 : decode b_Model_beginName 75 = .ok (.aload_n 0, 1) := by decide +kernel
theorem d_Model_beginName_76 : decode b_Model_beginName 76 = .ok (.invokevirtual 233, 3) := by decide +kernel
theorem d_Model_beginName_79 : decode b_Model_beginName 79 = .ok (.aload_n 0, 1) := by decide +kernel
theorem d_Model_beginName_80 : decode b_Model_beginName 80 = .ok (.bipush 34, 2) := by decide +kernel
theorem d_Model_beginName_82 : decode b_Model_beginName 82 = .ok (.iload_n 2, 1) := by decide +kernel
theorem d_Model_beginName_83 : decode b_Model_beginName 83 = .ok (.invokevirtual 236, 3) := by decide +kernel
theorem d_Model_beginName_86 : decode b_Model_beginName 86 = .ok (.aload_n 0, 1) := by decide +kernel
theorem d_Model_beginName_87 : decode b_Model_beginName 87 = .ok (.ldc2_w 244, 3) := by decide +kernel
theorem d_Model_beginName_90 : decode b_Model_beginName 90 = .ok (.invokevirtual 190, 3) := by decide +kernel
theorem d_Model_beginName_93 : decode b_Model_beginName 93 = .ok (.ifCond .ne 5, 3) := by decide +kernel
theorem d_Model_beginName_96 : decode b_Model_beginName 96 = .ok (.iconst 1, 1) := by decide +kernel
theorem d_Model_beginName_97 : decode b_Model_beginName 97 = .ok (.ireturn, 1) := by decide +kernel
theorem d_Model_beginName_98 : decode b_Model_beginName 98 = .ok (.aload_n 0, 1) := by decide +kernel
theorem d_Model_beginName_99 : decode b_Model_beginName 99 = .ok (.invokevirtual 246, 3) := by decide +kernel
theorem d_Model_beginName_102 : decode b_Model_beginName 102 = .ok (.iconst 0, 1) := by decide +kernel
theorem d_Model_beginName_103 : decode b_Model_beginName 103 = .ok (.ireturn, 1) := by decide +kernel
theorem d_Model_beginName_104 : decode b_Model_beginName 104 = .ok (.aload_n 0, 1) := by decide +kernel
theorem d_Model_beginName_105 : decode b_Model_beginName 105 = .ok (.iload_n 1, 1) := by decide +kernel
theorem d_Model_beginName_106 : decode b_Model_beginName 106 = .ok (.invokevirtual 241, 3) := by decide +kernel
theorem d_Model_beginName_109 : decode b_Model_beginName 109 = .ok (.istore_n 2, 1) := by decide +kernel
theorem d_Model_beginName_110 : decode b_Model_beginName 110 = .ok (.iload_n 2, 1) := by decide +kernel
theorem d_Model_beginName_111 : decode b_Model_beginName 111 = .ok (.ifCond .ge 8, 3) := by decide +kernel
theorem d_Model_beginName_114 : decode b_Model_beginName 114 = .ok (.aload_n 0, 1) := by decide +kernel
theorem d_Model_beginName_115 : decode b_Model_beginName 115 = .ok (.iload_n 1, 1) := by decide +kernel
theorem d_Model_beginName_116 : decode b_Model_beginName 116 = .ok (.invokevirtual 249, 3) := by decide +kernel
theorem d_Model_beginName_119 : decode b_Model_beginName 119 = .ok (.aload_n 0, 1) := by decide +kernel
theorem d_Model_beginName_120 : decode b_Model_beginName 120 = .ok (.aload_n 0, 1) := by decide +kernel
theorem d_Model_beginName_121 : decode b_Model_beginName 121 = .ok (.iconst 3, 1) := by decide +kernel
theorem d_Model_beginName_122 : decode b_Model_beginName 122 = .ok (.iload_n 2, 1) := by decide +kernel
theorem d_Model_beginName_123 : decode b_Model_beginName 123 = .ok (.iconst (-1), 1) := by decide +kernel
theorem d_Model_beginName_124 : decode b_Model_beginName 124 = .ok (.iconst (-1), 1) := by decide +kernel
theorem d_Model_beginName_125 : decode b_Model_beginName 125 = .ok (.invokevirtual 216, 3) := by decide +kernel
theorem d_Model_beginName_128 : decode b_Model_beginName 128 = .ok (.invokevirtual 220, 3) := by decide +kernel
theorem d_Model_beginName_131 : decode b_Model_beginName 131 = .ok (.iconst 0, 1) := by decide +kernel
theorem d_Model_beginName_132 : decode b_Model_beginName 132 = .ok (.ireturn, 1) := by decide +kernel
def tModel_beginName_b1 (k : Nat → St → Int32 → Option (Int32 × St)) (σ : St) (x1 : Int32) : Option (Int32 × St) := b2 (tModel_node σ 3 x1 (-1) (-1)) (fun r19 u19 => b1 (tModel_operand u19 r19) (fun u20 => some (0, u20)))
def tModel_beginName_L : Nat → Nat → St → Int32 → Option (Int32 × St)
  | 0, _, _, _ => none
  | n + 1, lab, σ, x1 => match lab with
    | 1 => tModel_beginName_b1 (tModel_beginName_L n) σ x1
    | _ => none
def tModel_beginName (σ : St) : Option (Int32 × St) := b1 (tModel_sees (sI σ 31 ((σ.1 31) + 1)) 91) (fun r1 => if r1 = 0 then b1 (tModel_sees (sI σ 31 ((σ.1 31) + 1)) 40) (fun r3 => if r3 = 0 then b1 (tModel_variable (sI σ 31 ((σ.1 31) + 1)) (σ.1 31)) (fun r5 => if (0 : Int32) ≤ r5 then tModel_beginName_L 2000 1 (sI σ 31 ((σ.1 31) + 1)) r5 else b1 (tModel_notName (sI σ 31 ((σ.1 31) + 1)) (σ.1 31)) (fun u7 => tModel_beginName_L 2000 1 u7 r5)) else b2 (tModel_node (sI σ 31 ((σ.1 31) + 1)) 5 0 (-1) (-1)) (fun r8 u8 => gd (inB r8 500) (b1 (tModel_variable (sA u8 26 (upd (u8.2.2.1 26) r8.toNatClampNeg (σ.1 31))) (σ.1 31)) (fun r10 => gd (inB r8 500) (b1 (tModel_opens (sA (sA u8 26 (upd (u8.2.2.1 26) r8.toNatClampNeg (σ.1 31))) 24 (upd (u8.2.2.1 24) r8.toNatClampNeg r10))) (fun u12 => b1 (tModel_hold u12 34 r8) (fun u13 => b1 (tModel_sees u13 41) (fun r14 => if r14 = 0 then some (1, u13) else b1 (tModel_closeCall u13) (fun u16 => some (0, u16)))))))))) else b1 (tModel_opens (sI σ 31 ((σ.1 31) + 1))) (fun u17 => b1 (tModel_hold u17 33 (σ.1 31)) (fun u18 => some (1, u18))))
set_option maxHeartbeats 4000000 in
set_option maxRecDepth 100000 in
theorem tModel_beginName_blk {p : Program} {e : Env} {s : State} {m : MethodId} {args : Array Value} {below : List Frame} {meth : Method} {c : Code} {A : Nat → Prop} (l : Launch) (dC : Nat → ClassId) (dI : Nat → Nat → Nat) (ad : Nat → Nat) (cA : Nat → ClassId) {r : Int32} {σ' : St} (X : Cx p s m args meth c b_Model_beginName 3 (some .boolean) "TinyForgeModel" (dC, dI) (ttys cA) ad A) : ∀ n : Nat, (∀ (σ : St) (x1 : Int32) (H : Heap) (locs : List Loc) (ls : Array Slot), tModel_beginName_L n 1 σ x1 = some (r, σ') → va_P (dC, dI) vwCl (tcw ad cA σ) H → va_D A (tcw ad cA σ) → va_S A s.heap H locs → lv_has ls 3 [(0, .ref (ad 11)), (2, .int x1)] → W p l e { frames := 2, cells := 0, slots := 0, locals := 48 } s m args below meth c H locs 0 0 (MQ below (QI (dC, dI) (ttys cA) (tcw ad cA) A r σ') args s 0 0 A) (F0 m 119 ls [])) := by
  obtain ⟨hx, hb, hr, hml, hown, hlocks, hts, hA, hK, hZ⟩ := id X
  intro n
  induction n with
  | zero => exact (fun σ x1 H locs ls hF => by cases hF)
  | succ n ihn =>
    refine fun σ x1 H locs ls hF hP hD hS hl => ?_
    · have hF : tModel_beginName_b1 (tModel_beginName_L n) σ x1 = some (r, σ') := hF
      unfold tModel_beginName_b1 at hF
      refine lv_aload_n hx hb d_Model_beginName_119 rfl (lv_at hl 0 rfl) ?_
      refine lv_aload_n hx hb d_Model_beginName_120 rfl (lv_at hl 0 rfl) ?_
      refine lv_iconst (v := 3) hx hb d_Model_beginName_121 (by decide) ?_
      refine lv_iload_n hx hb d_Model_beginName_122 rfl (lv_at hl 1 rfl) ?_
      refine lv_iconst (v := (-1)) hx hb d_Model_beginName_123 (by decide) ?_
      refine lv_iconst (v := (-1)) hx hb d_Model_beginName_124 (by decide) ?_
      obtain ⟨r19, u19, h19, hF⟩ := b2E hF
      refine callVI (As := [.int 3, .int x1, .int (-1), .int (-1)]) X (ct_Model_node l dC dI ad cA H.size h19) lk_Model_216 ⟨rfl, rfl, by decide, by decide⟩ 11 rfl rfl hP hD hS hl.1 rfl rfl (Nat.le_of_ble_eq_true rfl) d_Model_beginName_125 (fun H locs hP hD hS => ?_)
      obtain ⟨u20, h20, hF⟩ := b1E hF
      refine callVV (As := [.int r19]) X (ct_Model_operand l dC dI ad cA H.size h20) lk_Model_220 ⟨rfl, rfl, by decide, by decide⟩ 11 rfl rfl hP hD hS hl.1 rfl rfl (Nat.le_of_ble_eq_true rfl) d_Model_beginName_128 (fun H locs hP hD hS => ?_)
      refine lv_iconst (v := 0) hx hb d_Model_beginName_131 (by decide) ?_
      cases hF
      exact leafZ X hP hD hS (by decide) d_Model_beginName_132
set_option maxHeartbeats 4000000 in
set_option maxRecDepth 100000 in
theorem ct_Model_beginName (l : Launch) (dC : Nat → ClassId) (dI : Nat → Nat → Nat) (ad : Nat → Nat) (cA : Nat → ClassId) (sz : Nat) {σ : St} {r : Int32} {σ' : St} (hF : tModel_beginName σ = some (r, σ')) : MI l y_Model_beginName b_Model_beginName 3 (some .boolean) { frames := 2, cells := 0, slots := 0, locals := 48 } (dC, dI) (ttys cA) ad (tcw ad cA) [.ref (ad 11)] σ sz r σ' := by
  refine startM (own := "TinyForgeModel") (Qc := fun A => QI (dC, dI) (ttys cA) (tcw ad cA) A r σ') rfl rfl (Nat.le_of_ble_eq_true rfl) ?_
  intro p e s m below meth c A H locs ls X hP hD hS hl
  have hl : lv_has ls 3 [(0, .ref (ad 11))] := hl
  obtain ⟨hx, hb, hr, hml, hown, hlocks, hts, hA, hK, hZ⟩ := id X
  unfold tModel_beginName at hF
  refine lv_aload_n hx hb d_Model_beginName_0 rfl (lv_at hl 0 rfl) ?_
  refine va_get (D := (dC, dI)) (ci := 11) (v := .int (σ.1 31)) hx hb hts i_Model hown hK hP 11 rfl rfl 6 (by decide) (hts _ w_13cd8e7698) (fun _ h9 => h9) rfl d_Model_beginName_1 ?_
  refine lv_istore_n (lv' := [(1, .int (σ.1 31)), (0, .ref (ad 11))]) hx hb d_Model_beginName_4 rfl hl (by decide) rfl (fun ls hl => ?_)
  refine lv_aload_n hx hb d_Model_beginName_5 rfl (lv_at hl 1 rfl) ?_
  refine lv_dup hx hb d_Model_beginName_6 rfl ?_
  refine va_get (D := (dC, dI)) (ci := 11) (v := .int (σ.1 31)) hx hb hts i_Model hown hK hP 11 rfl rfl 6 (by decide) (hts _ w_13cd8e7698) (fun _ h9 => h9) rfl d_Model_beginName_7 ?_
  refine lv_iconst (v := 1) hx hb d_Model_beginName_10 (by decide) ?_
  refine lv_iadd hx hb d_Model_beginName_11 ?_
  refine va_put (D := (dC, dI)) (ci := 11) (v := .int ((σ.1 31) + 1)) (ty := .int) hx hb hts i_Model t_Model t_Model_ok n_Model hown hK hP hD hS 11 rfl rfl 6 (by decide) (hts _ w_13cd8e7698) (fun _ h9 => h9) rfl (by decide +kernel) rfl rfl (Nat.le_of_ble_eq_true rfl) d_Model_beginName_12 (fun H locs hP hD hS => ?_)
  have hP : va_P (dC, dI) vwCl (tcw ad cA (sI σ 31 ((σ.1 31) + 1))) H := hP
  have hD : va_D A (tcw ad cA (sI σ 31 ((σ.1 31) + 1))) := hD
  refine lv_aload_n hx hb d_Model_beginName_15 rfl (lv_at hl 1 rfl) ?_
  refine lv_ldc2 (v := 91) hx hb hown (hts _ w_6ea7e12f2f) d_Model_beginName_16 ?_
  obtain ⟨r1, h1, hF⟩ := b1E hF
  refine callVI (As := [.long 91]) X (ct_Model_sees l dC dI ad cA H.size h1) lk_Model_190 ⟨rfl, rfl, by decide, by decide⟩ 11 rfl rfl hP hD hS hl.1 rfl rfl (Nat.le_of_ble_eq_true rfl) d_Model_beginName_19 (fun H locs hP hD hS => ?_)
  refine lv_if_eq (tgt := 38) hx hb d_Model_beginName_22 (by decide) (fun c_2 => ?_) (fun c_2 => ?_)
  · have hF := ifp hF c_2
    refine lv_aload_n hx hb d_Model_beginName_38 rfl (lv_at hl 1 rfl) ?_
    refine lv_ldc2 (v := 40) hx hb hown (hts _ w_8030e055df) d_Model_beginName_39 ?_
    obtain ⟨r3, h3, hF⟩ := b1E hF
    refine callVI (As := [.long 40]) X (ct_Model_sees l dC dI ad cA H.size h3) lk_Model_190 ⟨rfl, rfl, by decide, by decide⟩ 11 rfl rfl hP hD hS hl.1 rfl rfl (Nat.le_of_ble_eq_true rfl) d_Model_beginName_42 (fun H locs hP hD hS => ?_)
    refine lv_if_eq (tgt := 104) hx hb d_Model_beginName_45 (by decide) (fun c_4 => ?_) (fun c_4 => ?_)
    · have hF := ifp hF c_4
      refine lv_aload_n hx hb d_Model_beginName_104 rfl (lv_at hl 1 rfl) ?_
      refine lv_iload_n hx hb d_Model_beginName_105 rfl (lv_at hl 0 rfl) ?_
      obtain ⟨r5, h5, hF⟩ := b1E hF
      refine callVI (As := [.int (σ.1 31)]) X (ct_Model_variable l dC dI ad cA H.size h5) lk_Model_241 ⟨rfl, rfl, by decide, by decide⟩ 11 rfl rfl hP hD hS hl.1 rfl rfl (Nat.le_of_ble_eq_true rfl) d_Model_beginName_106 (fun H locs hP hD hS => ?_)
      refine lv_istore_n (lv' := [(2, .int r5), (1, .int (σ.1 31)), (0, .ref (ad 11))]) hx hb d_Model_beginName_109 rfl hl (by decide) rfl (fun ls hl => ?_)
      refine lv_iload_n hx hb d_Model_beginName_110 rfl (lv_at hl 0 rfl) ?_
      refine lv_if_ge (tgt := 119) hx hb d_Model_beginName_111 (by decide) (fun c_6 => ?_) (fun c_6 => ?_)
      · have hF := ifp hF c_6
        exact (tModel_beginName_blk l dC dI ad cA X 2000) (sI σ 31 ((σ.1 31) + 1)) r5 H locs ls hF hP hD hS (lv_sub hl [2, 0] rfl)
      · have hF := ifn hF c_6
        refine lv_aload_n hx hb d_Model_beginName_114 rfl (lv_at hl 2 rfl) ?_
        refine lv_iload_n hx hb d_Model_beginName_115 rfl (lv_at hl 1 rfl) ?_
        obtain ⟨u7, h7, hF⟩ := b1E hF
        refine callVV (As := [.int (σ.1 31)]) X (ct_Model_notName l dC dI ad cA H.size h7) lk_Model_249 ⟨rfl, rfl, by decide, by decide⟩ 11 rfl rfl hP hD hS hl.1 rfl rfl (Nat.le_of_ble_eq_true rfl) d_Model_beginName_116 (fun H locs hP hD hS => ?_)
        exact (tModel_beginName_blk l dC dI ad cA X 2000) u7 r5 H locs ls hF hP hD hS (lv_sub hl [2, 0] rfl)
    · have hF := ifn hF c_4
      refine lv_aload_n hx hb d_Model_beginName_48 rfl (lv_at hl 1 rfl) ?_
      refine lv_iconst (v := 5) hx hb d_Model_beginName_49 (by decide) ?_
      refine lv_iconst (v := 0) hx hb d_Model_beginName_50 (by decide) ?_
      refine lv_iconst (v := (-1)) hx hb d_Model_beginName_51 (by decide) ?_
      refine lv_iconst (v := (-1)) hx hb d_Model_beginName_52 (by decide) ?_
      obtain ⟨r8, u8, h8, hF⟩ := b2E hF
      refine callVI (As := [.int 5, .int 0, .int (-1), .int (-1)]) X (ct_Model_node l dC dI ad cA H.size h8) lk_Model_216 ⟨rfl, rfl, by decide, by decide⟩ 11 rfl rfl hP hD hS hl.1 rfl rfl (Nat.le_of_ble_eq_true rfl) d_Model_beginName_53 (fun H locs hP hD hS => ?_)
      refine lv_istore_n (lv' := [(2, .int r8), (1, .int (σ.1 31)), (0, .ref (ad 11))]) hx hb d_Model_beginName_56 rfl hl (by decide) rfl (fun ls hl => ?_)
      refine lv_aload_n hx hb d_Model_beginName_57 rfl (lv_at hl 2 rfl) ?_
      refine va_get (D := (dC, dI)) (ci := 11) (v := .ref (ad 41)) hx hb hts i_Model hown hK hP 11 rfl rfl 20 (by decide) (hts _ w_a409c17ef6) (fun _ h9 => h9) rfl d_Model_beginName_58 ?_
      refine lv_iload_n hx hb d_Model_beginName_61 rfl (lv_at hl 0 rfl) ?_
      refine lv_iload_n hx hb d_Model_beginName_62 rfl (lv_at hl 1 rfl) ?_
      obtain ⟨g_9, hF⟩ := gdE hF
      refine va_iast (f := (u8.2.2.1 26)) hx hb hK hP hD hS 41 0 rfl rfl (inE g_9) d_Model_beginName_63 (fun H locs hP hD hS => ?_)
      have hP : va_P (dC, dI) vwCl (tcw ad cA (sA u8 26 (upd (u8.2.2.1 26) r8.toNatClampNeg (σ.1 31)))) H := hP
      have hD : va_D A (tcw ad cA (sA u8 26 (upd (u8.2.2.1 26) r8.toNatClampNeg (σ.1 31)))) := hD
      refine lv_aload_n hx hb d_Model_beginName_64 rfl (lv_at hl 2 rfl) ?_
      refine va_get (D := (dC, dI)) (ci := 11) (v := .ref (ad 39)) hx hb hts i_Model hown hK hP 11 rfl rfl 18 (by decide) (hts _ w_7d7d4091fc) (fun _ h9 => h9) rfl d_Model_beginName_65 ?_
      refine lv_iload_n hx hb d_Model_beginName_68 rfl (lv_at hl 0 rfl) ?_
      refine lv_aload_n hx hb d_Model_beginName_69 rfl (lv_at hl 2 rfl) ?_
      refine lv_iload_n hx hb d_Model_beginName_70 rfl (lv_at hl 1 rfl) ?_
      obtain ⟨r10, h10, hF⟩ := b1E hF
      refine callVI (As := [.int (σ.1 31)]) X (ct_Model_variable l dC dI ad cA H.size h10) lk_Model_241 ⟨rfl, rfl, by decide, by decide⟩ 11 rfl rfl hP hD hS hl.1 rfl rfl (Nat.le_of_ble_eq_true rfl) d_Model_beginName_71 (fun H locs hP hD hS => ?_)
      obtain ⟨g_11, hF⟩ := gdE hF
      refine va_iast (f := (u8.2.2.1 24)) hx hb hK hP hD hS 39 0 rfl rfl (inE g_11) d_Model_beginName_74 (fun H locs hP hD hS => ?_)
      have hP : va_P (dC, dI) vwCl (tcw ad cA (sA (sA u8 26 (upd (u8.2.2.1 26) r8.toNatClampNeg (σ.1 31))) 24 (upd (u8.2.2.1 24) r8.toNatClampNeg r10))) H := hP
      have hD : va_D A (tcw ad cA (sA (sA u8 26 (upd (u8.2.2.1 26) r8.toNatClampNeg (σ.1 31))) 24 (upd (u8.2.2.1 24) r8.toNatClampNeg r10))) := hD
      refine lv_aload_n hx hb d_Model_beginName_75 rfl (lv_at hl 2 rfl) ?_
      obtain ⟨u12, h12, hF⟩ := b1E hF
      refine callVV (As := []) X (ct_Model_opens l dC dI ad cA H.size h12) lk_Model_233 ⟨rfl, rfl, by decide, by decide⟩ 11 rfl rfl hP hD hS hl.1 rfl rfl (Nat.le_of_ble_eq_true rfl) d_Model_beginName_76 (fun H locs hP hD hS => ?_)
      refine lv_aload_n hx hb d_Model_beginName_79 rfl (lv_at hl 2 rfl) ?_
      refine lv_bipush (v := 34) hx hb d_Model_beginName_80 (by decide) ?_
      refine lv_iload_n hx hb d_Model_beginName_82 rfl (lv_at hl 0 rfl) ?_
      obtain ⟨u13, h13, hF⟩ := b1E hF
      refine callVV (As := [.int 34, .int r8]) X (ct_Model_hold l dC dI ad cA H.size h13) lk_Model_236 ⟨rfl, rfl, by decide, by decide⟩ 11 rfl rfl hP hD hS hl.1 rfl rfl (Nat.le_of_ble_eq_true rfl) d_Model_beginName_83 (fun H locs hP hD hS => ?_)
      refine lv_aload_n hx hb d_Model_beginName_86 rfl (lv_at hl 2 rfl) ?_
      refine lv_ldc2 (v := 41) hx hb hown (hts _ w_c6b9d4f3a9) d_Model_beginName_87 ?_
      obtain ⟨r14, h14, hF⟩ := b1E hF
      refine callVI (As := [.long 41]) X (ct_Model_sees l dC dI ad cA H.size h14) lk_Model_190 ⟨rfl, rfl, by decide, by decide⟩ 11 rfl rfl hP hD hS hl.1 rfl rfl (Nat.le_of_ble_eq_true rfl) d_Model_beginName_90 (fun H locs hP hD hS => ?_)
      refine lv_if_ne (tgt := 98) hx hb d_Model_beginName_93 (by decide) (fun c_15 => ?_) (fun c_15 => ?_)
      · have hF := ifn hF c_15
        refine lv_aload_n hx hb d_Model_beginName_98 rfl (lv_at hl 2 rfl) ?_
        obtain ⟨u16, h16, hF⟩ := b1E hF
        refine callVV (As := []) X (ct_Model_closeCall l dC dI ad cA H.size h16) lk_Model_246 ⟨rfl, rfl, by decide, by decide⟩ 11 rfl rfl hP hD hS hl.1 rfl rfl (Nat.le_of_ble_eq_true rfl) d_Model_beginName_99 (fun H locs hP hD hS => ?_)
        refine lv_iconst (v := 0) hx hb d_Model_beginName_102 (by decide) ?_
        cases hF
        exact leafZ X hP hD hS (by decide) d_Model_beginName_103
      · have hF := ifp hF c_15
        refine lv_iconst (v := 1) hx hb d_Model_beginName_96 (by decide) ?_
        cases hF
        exact leafZ X hP hD hS (by decide) d_Model_beginName_97
  · have hF := ifn hF c_2
    refine lv_aload_n hx hb d_Model_beginName_25 rfl (lv_at hl 1 rfl) ?_
    obtain ⟨u17, h17, hF⟩ := b1E hF
    refine callVV (As := []) X (ct_Model_opens l dC dI ad cA H.size h17) lk_Model_233 ⟨rfl, rfl, by decide, by decide⟩ 11 rfl rfl hP hD hS hl.1 rfl rfl (Nat.le_of_ble_eq_true rfl) d_Model_beginName_26 (fun H locs hP hD hS => ?_)
    refine lv_aload_n hx hb d_Model_beginName_29 rfl (lv_at hl 1 rfl) ?_
    refine lv_bipush (v := 33) hx hb d_Model_beginName_30 (by decide) ?_
    refine lv_iload_n hx hb d_Model_beginName_32 rfl (lv_at hl 0 rfl) ?_
    obtain ⟨u18, h18, hF⟩ := b1E hF
    refine callVV (As := [.int 33, .int (σ.1 31)]) X (ct_Model_hold l dC dI ad cA H.size h18) lk_Model_236 ⟨rfl, rfl, by decide, by decide⟩ 11 rfl rfl hP hD hS hl.1 rfl rfl (Nat.le_of_ble_eq_true rfl) d_Model_beginName_33 (fun H locs hP hD hS => ?_)
    refine lv_iconst (v := 1) hx hb d_Model_beginName_36 (by decide) ?_
    cases hF
    exact leafZ X hP hD hS (by decide) d_Model_beginName_37
theorem d_Model_readNumber_0 : decode b_Model_readNumber 0 = .ok (.aload_n 0, 1) := by decide +kernel
theorem d_Model_readNumber_1 : decode b_Model_readNumber 1 = .ok (.dup, 1) := by decide +kernel
theorem d_Model_readNumber_2 : decode b_Model_readNumber 2 = .ok (.getfield 184, 3) := by decide +kernel
theorem d_Model_readNumber_5 : decode b_Model_readNumber 5 = .ok (.iconst 1, 1) := by decide +kernel
theorem d_Model_readNumber_6 : decode b_Model_readNumber 6 = .ok (.iadd, 1) := by decide +kernel
theorem d_Model_readNumber_7 : decode b_Model_readNumber 7 = .ok (.putfield 184, 3) := by decide +kernel
theorem d_Model_readNumber_10 : decode b_Model_readNumber 10 = .ok (.aload_n 0, 1) := by decide +kernel
theorem d_Model_readNumber_11 : decode b_Model_readNumber 11 = .ok (.ldc2_w 239, 3) := by decide +kernel
theorem d_Model_readNumber_14 : decode b_Model_readNumber 14 = .ok (.invokevirtual 190, 3) := by decide +kernel
theorem d_Model_readNumber_17 : decode b_Model_readNumber 17 = .ok (.ifCond .eq 10, 3) := by decide +kernel
theorem d_Model_readNumber_20 : decode b_Model_readNumber 20 = .ok (.aload_n 0, 1) := by decide +kernel
theorem d_Model_readNumber_21 : decode b_Model_readNumber 21 = .ok (.invokevirtual 233, 3) := by decide +kernel
theorem d_Model_readNumber_24 : decode b_Model_readNumber 24 = .ok (.goto 7, 3) := by decide +kernel
theorem d_Model_readNumber_27 : decode b_Model_readNumber 27 = .ok (.aload_n 0, 1) := by decide +kernel
theorem d_Model_readNumber_28 : decode b_Model_readNumber 28 = .ok (.invokevirtual 194, 3) := by decide +kernel
theorem d_Model_readNumber_31 : decode b_Model_readNumber 31 = .ok (.aload_n 0, 1) := by decide +kernel
theorem d_Model_readNumber_32 : decode b_Model_readNumber 32 = .ok (.dup, 1) := by decide +kernel
theorem d_Model_readNumber_33 : decode b_Model_readNumber 33 = .ok (.getfield 197, 3) := by decide +kernel
theorem d_Model_readNumber_36 : decode b_Model_readNumber 36 = .ok (.iconst 1, 1) := by decide +kernel
theorem d_Model_readNumber_37 : decode b_Model_readNumber 37 = .ok (.isub, 1) := by decide +kernel
theorem d_Model_readNumber_38 : decode b_Model_readNumber 38 = .ok (.putfield 197, 3) := by decide +kernel
theorem d_Model_readNumber_41 : decode b_Model_readNumber 41 = .ok (.aload_n 0, 1) := by decide +kernel
theorem d_Model_readNumber_42 : decode b_Model_readNumber 42 = .ok (.ldc2_w 244, 3) := by decide +kernel
theorem d_Model_readNumber_45 : decode b_Model_readNumber 45 = .ok (.invokevirtual 252, 3) := by decide +kernel
theorem d_Model_readNumber_48 : decode b_Model_readNumber 48 = .ok (.aload_n 0, 1) := by decide +kernel
theorem d_Model_readNumber_49 : decode b_Model_readNumber 49 = .ok (.aload_n 0, 1) := by decide +kernel
theorem d_Model_readNumber_50 : decode b_Model_readNumber 50 = .ok (.iconst 2, 1) := by decide +kernel
theorem d_Model_readNumber_51 : decode b_Model_readNumber 51 = .ok (.iconst 0, 1) := by decide +kernel
theorem d_Model_readNumber_52 : decode b_Model_readNumber 52 = .ok (.iconst (-1), 1) := by decide +kernel
theorem d_Model_readNumber_53 : decode b_Model_readNumber 53 = .ok (.iconst (-1), 1) := by decide +kernel
theorem d_Model_readNumber_54 : decode b_Model_readNumber 54 = .ok (.invokevirtual 216, 3) := by decide +kernel
theorem d_Model_readNumber_57 : decode b_Model_readNumber 57 = .ok (.invokevirtual 220, 3) := by decide +kernel
theorem d_Model_readNumber_60 : decode b_Model_readNumber 60 = .ok (.iconst 0, 1) := by decide +kernel
theorem d_Model_readNumber_61 : decode b_Model_readNumber 61 = .ok (.ireturn, 1) := by decide +kernel
def tModel_readNumber_b1 (k : Nat → St → Option (Int32 × St)) (σ : St) : Option (Int32 × St) := b1 (tModel_need (sI σ 32 ((σ.1 32) - 1)) 41) (fun u5 => b2 (tModel_node u5 2 0 (-1) (-1)) (fun r6 u6 => b1 (tModel_operand u6 r6) (fun u7 => some (0, u7))))
def tModel_readNumber_L : Nat → Nat → St → Option (Int32 × St)
  | 0, _, _ => none
  | n + 1, lab, σ => match lab with
    | 1 => tModel_readNumber_b1 (tModel_readNumber_L n) σ 
    | _ => none
def tModel_readNumber (σ : St) : Option (Int32 × St) := b1 (tModel_sees (sI σ 31 ((σ.1 31) + 1)) 40) (fun r1 => if r1 = 0 then b1 (tModel_spoil (sI σ 31 ((σ.1 31) + 1))) (fun u3 => tModel_readNumber_L 2000 1 u3 ) else b1 (tModel_opens (sI σ 31 ((σ.1 31) + 1))) (fun u4 => tModel_readNumber_L 2000 1 u4 ))
set_option maxHeartbeats 4000000 in
set_option maxRecDepth 100000 in
theorem tModel_readNumber_blk {p : Program} {e : Env} {s : State} {m : MethodId} {args : Array Value} {below : List Frame} {meth : Method} {c : Code} {A : Nat → Prop} (l : Launch) (dC : Nat → ClassId) (dI : Nat → Nat → Nat) (ad : Nat → Nat) (cA : Nat → ClassId) {r : Int32} {σ' : St} (X : Cx p s m args meth c b_Model_readNumber 1 (some .boolean) "TinyForgeModel" (dC, dI) (ttys cA) ad A) : ∀ n : Nat, (∀ (σ : St) (H : Heap) (locs : List Loc) (ls : Array Slot), tModel_readNumber_L n 1 σ  = some (r, σ') → va_P (dC, dI) vwCl (tcw ad cA σ) H → va_D A (tcw ad cA σ) → va_S A s.heap H locs → lv_has ls 1 [(0, .ref (ad 11))] → W p l e { frames := 3, cells := 0, slots := 0, locals := 70 } s m args below meth c H locs 0 0 (MQ below (QI (dC, dI) (ttys cA) (tcw ad cA) A r σ') args s 0 0 A) (F0 m 31 ls [])) := by
  obtain ⟨hx, hb, hr, hml, hown, hlocks, hts, hA, hK, hZ⟩ := id X
  intro n
  induction n with
  | zero => exact (fun σ  H locs ls hF => by cases hF)
  | succ n ihn =>
    refine fun σ  H locs ls hF hP hD hS hl => ?_
    · have hF : tModel_readNumber_b1 (tModel_readNumber_L n) σ  = some (r, σ') := hF
      unfold tModel_readNumber_b1 at hF
      refine lv_aload_n hx hb d_Model_readNumber_31 rfl (lv_at hl 0 rfl) ?_
      refine lv_dup hx hb d_Model_readNumber_32 rfl ?_
      refine va_get (D := (dC, dI)) (ci := 11) (v := .int (σ.1 32)) hx hb hts i_Model hown hK hP 11 rfl rfl 7 (by decide) (hts _ w_eb874fa0f0) (fun _ h9 => h9) rfl d_Model_readNumber_33 ?_
      refine lv_iconst (v := 1) hx hb d_Model_readNumber_36 (by decide) ?_
      refine lv_isub hx hb d_Model_readNumber_37 ?_
      refine va_put (D := (dC, dI)) (ci := 11) (v := .int ((σ.1 32) - 1)) (ty := .int) hx hb hts i_Model t_Model t_Model_ok n_Model hown hK hP hD hS 11 rfl rfl 7 (by decide) (hts _ w_eb874fa0f0) (fun _ h9 => h9) rfl (by decide +kernel) rfl rfl (Nat.le_of_ble_eq_true rfl) d_Model_readNumber_38 (fun H locs hP hD hS => ?_)
      have hP : va_P (dC, dI) vwCl (tcw ad cA (sI σ 32 ((σ.1 32) - 1))) H := hP
      have hD : va_D A (tcw ad cA (sI σ 32 ((σ.1 32) - 1))) := hD
      refine lv_aload_n hx hb d_Model_readNumber_41 rfl (lv_at hl 0 rfl) ?_
      refine lv_ldc2 (v := 41) hx hb hown (hts _ w_c6b9d4f3a9) d_Model_readNumber_42 ?_
      obtain ⟨u5, h5, hF⟩ := b1E hF
      refine callVV (As := [.long 41]) X (ct_Model_need l dC dI ad cA H.size h5) lk_Model_252 ⟨rfl, rfl, by decide, by decide⟩ 11 rfl rfl hP hD hS hl.1 rfl rfl (Nat.le_of_ble_eq_true rfl) d_Model_readNumber_45 (fun H locs hP hD hS => ?_)
      refine lv_aload_n hx hb d_Model_readNumber_48 rfl (lv_at hl 0 rfl) ?_
      refine lv_aload_n hx hb d_Model_readNumber_49 rfl (lv_at hl 0 rfl) ?_
      refine lv_iconst (v := 2) hx hb d_Model_readNumber_50 (by decide) ?_
      refine lv_iconst (v := 0) hx hb d_Model_readNumber_51 (by decide) ?_
      refine lv_iconst (v := (-1)) hx hb d_Model_readNumber_52 (by decide) ?_
      refine lv_iconst (v := (-1)) hx hb d_Model_readNumber_53 (by decide) ?_
      obtain ⟨r6, u6, h6, hF⟩ := b2E hF
      refine callVI (As := [.int 2, .int 0, .int (-1), .int (-1)]) X (ct_Model_node l dC dI ad cA H.size h6) lk_Model_216 ⟨rfl, rfl, by decide, by decide⟩ 11 rfl rfl hP hD hS hl.1 rfl rfl (Nat.le_of_ble_eq_true rfl) d_Model_readNumber_54 (fun H locs hP hD hS => ?_)
      obtain ⟨u7, h7, hF⟩ := b1E hF
      refine callVV (As := [.int r6]) X (ct_Model_operand l dC dI ad cA H.size h7) lk_Model_220 ⟨rfl, rfl, by decide, by decide⟩ 11 rfl rfl hP hD hS hl.1 rfl rfl (Nat.le_of_ble_eq_true rfl) d_Model_readNumber_57 (fun H locs hP hD hS => ?_)
      refine lv_iconst (v := 0) hx hb d_Model_readNumber_60 (by decide) ?_
      cases hF
      exact leafZ X hP hD hS (by decide) d_Model_readNumber_61
set_option maxHeartbeats 4000000 in
set_option maxRecDepth 100000 in
theorem ct_Model_readNumber (l : Launch) (dC : Nat → ClassId) (dI : Nat → Nat → Nat) (ad : Nat → Nat) (cA : Nat → ClassId) (sz : Nat) {σ : St} {r : Int32} {σ' : St} (hF : tModel_readNumber σ = some (r, σ')) : MI l y_Model_readNumber b_Model_readNumber 1 (some .boolean) { frames := 3, cells := 0, slots := 0, locals := 70 } (dC, dI) (ttys cA) ad (tcw ad cA) [.ref (ad 11)] σ sz r σ' := by
  refine startM (own := "TinyForgeModel") (Qc := fun A => QI (dC, dI) (ttys cA) (tcw ad cA) A r σ') rfl rfl (Nat.le_of_ble_eq_true rfl) ?_
  intro p e s m below meth c A H locs ls X hP hD hS hl
  have hl : lv_has ls 1 [(0, .ref (ad 11))] := hl
  obtain ⟨hx, hb, hr, hml, hown, hlocks, hts, hA, hK, hZ⟩ := id X
  unfold tModel_readNumber at hF
  refine lv_aload_n hx hb d_Model_readNumber_0 rfl (lv_at hl 0 rfl) ?_
  refine lv_dup hx hb d_Model_readNumber_1 rfl ?_
  refine va_get (D := (dC, dI)) (ci := 11) (v := .int (σ.1 31)) hx hb hts i_Model hown hK hP 11 rfl rfl 6 (by decide) (hts _ w_13cd8e7698) (fun _ h9 => h9) rfl d_Model_readNumber_2 ?_
  refine lv_iconst (v := 1) hx hb d_Model_readNumber_5 (by decide) ?_
  refine lv_iadd hx hb d_Model_readNumber_6 ?_
  refine va_put (D := (dC, dI)) (ci := 11) (v := .int ((σ.1 31) + 1)) (ty := .int) hx hb hts i_Model t_Model t_Model_ok n_Model hown hK hP hD hS 11 rfl rfl 6 (by decide) (hts _ w_13cd8e7698) (fun _ h9 => h9) rfl (by decide +kernel) rfl rfl (Nat.le_of_ble_eq_true rfl) d_Model_readNumber_7 (fun H locs hP hD hS => ?_)
  have hP : va_P (dC, dI) vwCl (tcw ad cA (sI σ 31 ((σ.1 31) + 1))) H := hP
  have hD : va_D A (tcw ad cA (sI σ 31 ((σ.1 31) + 1))) := hD
  refine lv_aload_n hx hb d_Model_readNumber_10 rfl (lv_at hl 0 rfl) ?_
  refine lv_ldc2 (v := 40) hx hb hown (hts _ w_8030e055df) d_Model_readNumber_11 ?_
  obtain ⟨r1, h1, hF⟩ := b1E hF
  refine callVI (As := [.long 40]) X (ct_Model_sees l dC dI ad cA H.size h1) lk_Model_190 ⟨rfl, rfl, by decide, by decide⟩ 11 rfl rfl hP hD hS hl.1 rfl rfl (Nat.le_of_ble_eq_true rfl) d_Model_readNumber_14 (fun H locs hP hD hS => ?_)
  refine lv_if_eq (tgt := 27) hx hb d_Model_readNumber_17 (by decide) (fun c_2 => ?_) (fun c_2 => ?_)
  · have hF := ifp hF c_2
    refine lv_aload_n hx hb d_Model_readNumber_27 rfl (lv_at hl 0 rfl) ?_
    obtain ⟨u3, h3, hF⟩ := b1E hF
    refine callVV (As := []) X (ct_Model_spoil l dC dI ad cA H.size h3) lk_Model_194 ⟨rfl, rfl, by decide, by decide⟩ 11 rfl rfl hP hD hS hl.1 rfl rfl (Nat.le_of_ble_eq_true rfl) d_Model_readNumber_28 (fun H locs hP hD hS => ?_)
    exact (tModel_readNumber_blk l dC dI ad cA X 2000) u3  H locs ls hF hP hD hS (lv_sub hl [0] rfl)
  · have hF := ifn hF c_2
    refine lv_aload_n hx hb d_Model_readNumber_20 rfl (lv_at hl 0 rfl) ?_
    obtain ⟨u4, h4, hF⟩ := b1E hF
    refine callVV (As := []) X (ct_Model_opens l dC dI ad cA H.size h4) lk_Model_233 ⟨rfl, rfl, by decide, by decide⟩ 11 rfl rfl hP hD hS hl.1 rfl rfl (Nat.le_of_ble_eq_true rfl) d_Model_readNumber_21 (fun H locs hP hD hS => ?_)
    refine lv_goto (tgt := 31) hx hb d_Model_readNumber_24 (by decide) ?_
    exact (tModel_readNumber_blk l dC dI ad cA X 2000) u4  H locs ls hF hP hD hS (lv_sub hl [0] rfl)
theorem d_Model_beginValue_0 : decode b_Model_beginValue 0 = .ok (.aload_n 0, 1) := by decide +kernel
theorem d_Model_beginValue_1 : decode b_Model_beginValue 1 = .ok (.ldc2_w 256, 3) := by decide +kernel
theorem d_Model_beginValue_4 : decode b_Model_beginValue 4 = .ok (.invokevirtual 190, 3) := by decide +kernel
theorem d_Model_beginValue_7 : decode b_Model_beginValue 7 = .ok (.ifCond .ne 23, 3) := by decide +kernel
theorem d_Model_beginValue_10 : decode b_Model_beginValue 10 = .ok (.aload_n 0, 1) := by decide +kernel
theorem d_Model_beginValue_11 : decode b_Model_beginValue 11 = .ok (.ldc2_w 258, 3) := by decide +kernel
theorem d_Model_beginValue_14 : decode b_Model_beginValue 14 = .ok (.invokevirtual 190, 3) := by decide +kernel
theorem d_Model_beginValue_17 : decode b_Model_beginValue 17 = .ok (.ifCond .ne 13, 3) := by decide +kernel
theorem d_Model_beginValue_20 : decode b_Model_beginValue 20 = .ok (.aload_n 0, 1) := by decide +kernel
theorem d_Model_beginValue_21 : decode b_Model_beginValue 21 = .ok (.ldc2_w 116, 3) := by decide +kernel
theorem d_Model_beginValue_24 : decode b_Model_beginValue 24 = .ok (.invokevirtual 190, 3) := by decide +kernel
theorem d_Model_beginValue_27 : decode b_Model_beginValue 27 = .ok (.ifCond .eq 21, 3) := by decide +kernel
theorem d_Model_beginValue_30 : decode b_Model_beginValue 30 = .ok (.aload_n 0, 1) := by decide +kernel
theorem d_Model_beginValue_31 : decode b_Model_beginValue 31 = .ok (.getfield 184, 3) := by decide +kernel
theorem d_Model_beginValue_34 : decode b_Model_beginValue 34 = .ok (.istore_n 1, 1) := by decide +kernel
theorem d_Model_beginValue_35 : decode b_Model_beginValue 35 = .ok (.aload_n 0, 1) := by decide +kernel
theorem d_Model_beginValue_36 : decode b_Model_beginValue 36 = .ok (.invokevirtual 233, 3) := by decide +kernel
theorem d_Model_beginValue_39 : decode b_Model_beginValue 39 = .ok (.aload_n 0, 1) := by decide +kernel
theorem d_Model_beginValue_40 : decode b_Model_beginValue 40 = .ok (.bipush 31, 2) := by decide +kernel
theorem d_Model_beginValue_42 : decode b_Model_beginValue 42 = .ok (.iload_n 1, 1) := by decide +kernel
theorem d_Model_beginValue_43 : decode b_Model_beginValue 43 = .ok (.invokevirtual 236, 3) := by decide +kernel
theorem d_Model_beginValue_46 : decode b_Model_beginValue 46 = .ok (.iconst 1, 1) := by decide +kernel
theorem d_Model_beginValue_47 : decode b_Model_beginValue 47 = .ok (.ireturn, 1) := by decide +kernel
theorem d_Model_beginValue_48 : decode b_Model_beginValue 48 = .ok (.aload_n 0, 1) := by decide +kernel
theorem d_Model_beginValue_49 : decode b_Model_beginValue 49 = .ok (.ldc2_w 239, 3) := by decide +kernel
theorem d_Model_beginValue_52 : decode b_Model_beginValue 52 = .ok (.invokevirtual 190, 3) := by decide +kernel
theorem d_Model_beginValue_55 : decode b_Model_beginValue 55 = .ok (.ifCond .eq 16, 3) := by decide +kernel
theorem d_Model_beginValue_58 : decode b_Model_beginValue 58 = .ok (.aload_n 0, 1) := by decide +kernel
theorem d_Model_beginValue_59 : decode b_Model_beginValue 59 = .ok (.invokevirtual 233, 3) := by decide +kernel
theorem d_Model_beginValue_62 : decode b_Model_beginValue 62 = .ok (.aload_n 0, 1) := by decide +kernel
theorem d_Model_beginValue_63 : decode b_Model_beginValue 63 = .ok (.bipush 30, 2) := by decide +kernel
theorem d_Model_beginValue_65 : decode b_Model_beginValue 65 = .ok (.iconst 0, 1) := by decide +kernel
theorem d_Model_beginValue_66 : decode b_Model_beginValue 66 = .ok (.invokevirtual 236, 3) := by decide +kernel
theorem d_Model_beginValue_69 : decode b_Model_beginValue 69 = .ok (.iconst 1, 1) := by decide +kernel
theorem d_Model_beginValue_70 : decode b_Model_beginValue 70 = .ok (.ireturn, 1) := by decide +kernel
theorem d_Model_beginValue_71 : decode b_Model_beginValue 71 = .ok (.aload_n 0, 1) := by decide +kernel
theorem d_Model_beginValue_72 : decode b_Model_beginValue 72 = .ok (.getfield 17, 3) := by decide +kernel
theorem d_Model_beginValue_75 : decode b_Model_beginValue 75 = .ok (.aload_n 0, 1) := by decide +kernel
theorem d_Model_beginValue_76 : decode b_Model_beginValue 76 = .ok (.getfield 184, 3) := by decide +kernel
theorem d_Model_beginValue_79 : decode b_Model_beginValue 79 = .ok (.iaload, 1) := by decide +kernel
theorem d_Model_beginValue_80 : decode b_Model_beginValue 80 = .ok (.iconst 2, 1) := by decide +kernel
theorem d_Model_beginValue_81 : decode b_Model_beginValue 81 = .ok (.if_icmp .ne 35, 3) := by decide +kernel
theorem d_Model_beginValue_84 : decode b_Model_beginValue 84 = .ok (.aload_n 0, 1) := by decide +kernel
theorem d_Model_beginValue_85 : decode b_Model_beginValue 85 = .ok (.aload_n 0, 1) := by decide +kernel
theorem d_Model_beginValue_86 : decode b_Model_beginValue 86 = .ok (.iconst 1, 1) := by decide +kernel
theorem d_Model_beginValue_87 : decode b_Model_beginValue 87 = .ok (.aload_n 0, 1) := by decide +kernel
theorem d_Model_beginValue_88 : decode b_Model_beginValue 88 = .ok (.getfield 27, 3) := by decide +kernel
theorem d_Model_beginValue_91 : decode b_Model_beginValue 91 = .ok (.aload_n 0, 1) := by decide +kernel
theorem d_Model_beginValue_92 : decode b_Model_beginValue 92 = .ok (.getfield 184, 3) := by decide +kernel
theorem d_Model_beginValue_95 : decode b_Model_beginValue 95 = .ok (.iaload, 1) := by decide +kernel
theorem d_Model_beginValue_96 : decode b_Model_beginValue 96 = .ok (.iconst (-1), 1) := by decide +kernel
theorem d_Model_beginValue_97 : decode b_Model_beginValue 97 = .ok (.iconst (-1), 1) := by decide +kernel
theorem d_Model_beginValue_98 : decode b_Model_beginValue 98 = .ok (.invokevirtual 216, 3) := by decide +kernel
theorem d_Model_beginValue_101 : decode b_Model_beginValue 101 = .ok (.invokevirtual 220, 3) := by decide +kernel
theorem d_Model_beginValue_104 : decode b_Model_beginValue 104 = .ok (.aload_n 0, 1) := by decide +kernel
theorem d_Model_beginValue_105 : decode b_Model_beginValue 105 = .ok (.dup, 1) := by decide +kernel
theorem d_Model_beginValue_106 : decode b_Model_beginValue 106 = .ok (.getfield 184, 3) := by decide +kernel
theorem d_Model_beginValue_109 : decode b_Model_beginValue 109 = .ok (.iconst 1, 1) := by decide +kernel
theorem d_Model_beginValue_110 : decode b_Model_beginValue 110 = .ok (.iadd, 1) := by decide +kernel
theorem d_Model_beginValue_111 : decode b_Model_beginValue 111 = .ok (.putfield 184, 3) := by decide +kernel
theorem d_Model_beginValue_114 : decode b_Model_beginValue 114 = .ok (.iconst 0, 1) := by decide +kernel
theorem d_Model_beginValue_115 : decode b_Model_beginValue 115 = .ok (.ireturn, 1) := by decide +kernel
theorem d_Model_beginValue_116 : decode b_Model_beginValue 116 = .ok (.aload_n 0, 1) := by decide +kernel
theorem d_Model_beginValue_117 : decode b_Model_beginValue 117 = .ok (.ldc2_w 180, 3) := by decide +kernel
theorem d_Model_beginValue_120 : decode b_Model_beginValue 120 = .ok (.invokevirtual 190, 3) := by decide +kernel
theorem d_Model_beginValue_123 : decode b_Model_beginValue 123 = .ok (.ifCond .eq 8, 3) := by decide +kernel
theorem d_Model_beginValue_126 : decode b_Model_beginValue 126 = .ok (.aload_n 0, 1) := by decide +kernel
theorem d_Model_beginValue_127 : decode b_Model_beginValue 127 = .ok (.invokevirtual 260, 3) := by decide +kernel
theorem d_Model_beginValue_130 : decode b_Model_beginValue 130 = .ok (.ireturn, 1) := by decide +kernel
theorem d_Model_beginValue_131 : decode b_Model_beginValue 131 = .ok (.aload_n 0, 1) := by decide +kernel
theorem d_Model_beginValue_132 : decode b_Model_beginValue 132 = .ok (.getfield 17, 3) := by decide +kernel
theorem d_Model_beginValue_135 : decode b_Model_beginValue 135 = .ok (.aload_n 0, 1) := by decide +kernel
theorem d_Model_beginValue_136 : decode b_Model_beginValue 136 = .ok (.getfield 184, 3) := by decide +kernel
theorem d_Model_beginValue_139 : decode b_Model_beginValue 139 = .ok (.iaload, 1) := by decide +kernel
theorem d_Model_beginValue_140 : decode b_Model_beginValue 140 = .ok (.iconst 1, 1) := by decide +kernel
theorem d_Model_beginValue_141 : decode b_Model_beginValue 141 = .ok (.if_icmp .ne 8, 3) := by decide +kernel
theorem d_Model_beginValue_144 : decode b_Model_beginValue 144 = .ok (.aload_n 0, 1) := by decide +kernel
theorem d_Model_beginValue_145 : decode b_Model_beginValue 145 = .ok (.invokevirtual 264, 3) := by decide +kernel
theorem d_Model_beginValue_148 : decode b_Model_beginValue 148 = .ok (.ireturn, 1) := by decide +kernel
theorem d_Model_beginValue_149 : decode b_Model_beginValue 149 = .ok (.aload_n 0, 1) := by decide +kernel
theorem d_Model_beginValue_150 : decode b_Model_beginValue 150 = .ok (.invokevirtual 194, 3) := by decide +kernel
theorem d_Model_beginValue_153 : decode b_Model_beginValue 153 = .ok (.iconst 0, 1) := by decide +kernel
theorem d_Model_beginValue_154 : decode b_Model_beginValue 154 = .ok (.ireturn, 1) := by decide +kernel
def tModel_beginValue_b1 (k : Nat → St → Option (Int32 × St)) (σ : St) : Option (Int32 × St) := b1 (tModel_opens σ) (fun u25 => b1 (tModel_hold u25 31 (σ.1 31)) (fun u26 => some (1, u26)))
def tModel_beginValue_L : Nat → Nat → St → Option (Int32 × St)
  | 0, _, _ => none
  | n + 1, lab, σ => match lab with
    | 1 => tModel_beginValue_b1 (tModel_beginValue_L n) σ 
    | _ => none
def tModel_beginValue (σ : St) : Option (Int32 × St) := b1 (tModel_sees σ 45) (fun r1 => if r1 = 0 then b1 (tModel_sees σ 33) (fun r3 => if r3 = 0 then b1 (tModel_sees σ 126) (fun r5 => if r5 = 0 then b1 (tModel_sees σ 40) (fun r7 => if r7 = 0 then gd (inB (σ.1 31) 500) (if ((σ.2.2.1 16) (σ.1 31).toNatClampNeg) = 2 then gd (inB (σ.1 31) 500) (b2 (tModel_node σ 1 ((σ.2.2.1 19) (σ.1 31).toNatClampNeg) (-1) (-1)) (fun r21 u21 => b1 (tModel_operand u21 r21) (fun u22 => some (0, (sI u22 31 ((u22.1 31) + 1)))))) else b1 (tModel_sees σ 1684104562) (fun r11 => if r11 = 0 then gd (inB (σ.1 31) 500) (if ((σ.2.2.1 16) (σ.1 31).toNatClampNeg) = 1 then b2 (tModel_beginName σ) (fun r16 u16 => gd (nZ r16) (some (r16, u16))) else b1 (tModel_spoil σ) (fun u15 => some (0, u15))) else b2 (tModel_readNumber σ) (fun r18 u18 => gd (nZ r18) (some (r18, u18))))) else b1 (tModel_opens σ) (fun u23 => b1 (tModel_hold u23 30 0) (fun u24 => some (1, u24)))) else tModel_beginValue_L 2000 1 σ ) else tModel_beginValue_L 2000 1 σ ) else tModel_beginValue_L 2000 1 σ )
set_option maxHeartbeats 4000000 in
set_option maxRecDepth 100000 in
theorem tModel_beginValue_blk {p : Program} {e : Env} {s : State} {m : MethodId} {args : Array Value} {below : List Frame} {meth : Method} {c : Code} {A : Nat → Prop} (l : Launch) (dC : Nat → ClassId) (dI : Nat → Nat → Nat) (ad : Nat → Nat) (cA : Nat → ClassId) {r : Int32} {σ' : St} (X : Cx p s m args meth c b_Model_beginValue 2 (some .boolean) "TinyForgeModel" (dC, dI) (ttys cA) ad A) : ∀ n : Nat, (∀ (σ : St) (H : Heap) (locs : List Loc) (ls : Array Slot), tModel_beginValue_L n 1 σ  = some (r, σ') → va_P (dC, dI) vwCl (tcw ad cA σ) H → va_D A (tcw ad cA σ) → va_S A s.heap H locs → lv_has ls 2 [(0, .ref (ad 11))] → W p l e { frames := 4, cells := 0, slots := 0, locals := 90 } s m args below meth c H locs 0 0 (MQ below (QI (dC, dI) (ttys cA) (tcw ad cA) A r σ') args s 0 0 A) (F0 m 30 ls [])) := by
  obtain ⟨hx, hb, hr, hml, hown, hlocks, hts, hA, hK, hZ⟩ := id X
  intro n
  induction n with
  | zero => exact (fun σ  H locs ls hF => by cases hF)
  | succ n ihn =>
    refine fun σ  H locs ls hF hP hD hS hl => ?_
    · have hF : tModel_beginValue_b1 (tModel_beginValue_L n) σ  = some (r, σ') := hF
      unfold tModel_beginValue_b1 at hF
      refine lv_aload_n hx hb d_Model_beginValue_30 rfl (lv_at hl 0 rfl) ?_
      refine va_get (D := (dC, dI)) (ci := 11) (v := .int (σ.1 31)) hx hb hts i_Model hown hK hP 11 rfl rfl 6 (by decide) (hts _ w_13cd8e7698) (fun _ h9 => h9) rfl d_Model_beginValue_31 ?_
      refine lv_istore_n (lv' := [(1, .int (σ.1 31)), (0, .ref (ad 11))]) hx hb d_Model_beginValue_34 rfl hl (by decide) rfl (fun ls hl => ?_)
      refine lv_aload_n hx hb d_Model_beginValue_35 rfl (lv_at hl 1 rfl) ?_
      obtain ⟨u25, h25, hF⟩ := b1E hF
      refine callVV (As := []) X (ct_Model_opens l dC dI ad cA H.size h25) lk_Model_233 ⟨rfl, rfl, by decide, by decide⟩ 11 rfl rfl hP hD hS hl.1 rfl rfl (Nat.le_of_ble_eq_true rfl) d_Model_beginValue_36 (fun H locs hP hD hS => ?_)
      refine lv_aload_n hx hb d_Model_beginValue_39 rfl (lv_at hl 1 rfl) ?_
      refine lv_bipush (v := 31) hx hb d_Model_beginValue_40 (by decide) ?_
      refine lv_iload_n hx hb d_Model_beginValue_42 rfl (lv_at hl 0 rfl) ?_
      obtain ⟨u26, h26, hF⟩ := b1E hF
      refine callVV (As := [.int 31, .int (σ.1 31)]) X (ct_Model_hold l dC dI ad cA H.size h26) lk_Model_236 ⟨rfl, rfl, by decide, by decide⟩ 11 rfl rfl hP hD hS hl.1 rfl rfl (Nat.le_of_ble_eq_true rfl) d_Model_beginValue_43 (fun H locs hP hD hS => ?_)
      refine lv_iconst (v := 1) hx hb d_Model_beginValue_46 (by decide) ?_
      cases hF
      exact leafZ X hP hD hS (by decide) d_Model_beginValue_47
set_option maxHeartbeats 4000000 in
set_option maxRecDepth 100000 in
theorem ct_Model_beginValue (l : Launch) (dC : Nat → ClassId) (dI : Nat → Nat → Nat) (ad : Nat → Nat) (cA : Nat → ClassId) (sz : Nat) {σ : St} {r : Int32} {σ' : St} (hF : tModel_beginValue σ = some (r, σ')) : MI l y_Model_beginValue b_Model_beginValue 2 (some .boolean) { frames := 4, cells := 0, slots := 0, locals := 90 } (dC, dI) (ttys cA) ad (tcw ad cA) [.ref (ad 11)] σ sz r σ' := by
  refine startM (own := "TinyForgeModel") (Qc := fun A => QI (dC, dI) (ttys cA) (tcw ad cA) A r σ') rfl rfl (Nat.le_of_ble_eq_true rfl) ?_
  intro p e s m below meth c A H locs ls X hP hD hS hl
  have hl : lv_has ls 2 [(0, .ref (ad 11))] := hl
  obtain ⟨hx, hb, hr, hml, hown, hlocks, hts, hA, hK, hZ⟩ := id X
  unfold tModel_beginValue at hF
  refine lv_aload_n hx hb d_Model_beginValue_0 rfl (lv_at hl 0 rfl) ?_
  refine lv_ldc2 (v := 45) hx hb hown (hts _ w_2cac35f649) d_Model_beginValue_1 ?_
  obtain ⟨r1, h1, hF⟩ := b1E hF
  refine callVI (As := [.long 45]) X (ct_Model_sees l dC dI ad cA H.size h1) lk_Model_190 ⟨rfl, rfl, by decide, by decide⟩ 11 rfl rfl hP hD hS hl.1 rfl rfl (Nat.le_of_ble_eq_true rfl) d_Model_beginValue_4 (fun H locs hP hD hS => ?_)
  refine lv_if_ne (tgt := 30) hx hb d_Model_beginValue_7 (by decide) (fun c_2 => ?_) (fun c_2 => ?_)
  · have hF := ifn hF c_2
    exact (tModel_beginValue_blk l dC dI ad cA X 2000) σ  H locs ls hF hP hD hS (lv_sub hl [0] rfl)
  · have hF := ifp hF c_2
    refine lv_aload_n hx hb d_Model_beginValue_10 rfl (lv_at hl 0 rfl) ?_
    refine lv_ldc2 (v := 33) hx hb hown (hts _ w_b1998e2f80) d_Model_beginValue_11 ?_
    obtain ⟨r3, h3, hF⟩ := b1E hF
    refine callVI (As := [.long 33]) X (ct_Model_sees l dC dI ad cA H.size h3) lk_Model_190 ⟨rfl, rfl, by decide, by decide⟩ 11 rfl rfl hP hD hS hl.1 rfl rfl (Nat.le_of_ble_eq_true rfl) d_Model_beginValue_14 (fun H locs hP hD hS => ?_)
    refine lv_if_ne (tgt := 30) hx hb d_Model_beginValue_17 (by decide) (fun c_4 => ?_) (fun c_4 => ?_)
    · have hF := ifn hF c_4
      exact (tModel_beginValue_blk l dC dI ad cA X 2000) σ  H locs ls hF hP hD hS (lv_sub hl [0] rfl)
    · have hF := ifp hF c_4
      refine lv_aload_n hx hb d_Model_beginValue_20 rfl (lv_at hl 0 rfl) ?_
      refine lv_ldc2 (v := 126) hx hb hown (hts _ w_317890e411) d_Model_beginValue_21 ?_
      obtain ⟨r5, h5, hF⟩ := b1E hF
      refine callVI (As := [.long 126]) X (ct_Model_sees l dC dI ad cA H.size h5) lk_Model_190 ⟨rfl, rfl, by decide, by decide⟩ 11 rfl rfl hP hD hS hl.1 rfl rfl (Nat.le_of_ble_eq_true rfl) d_Model_beginValue_24 (fun H locs hP hD hS => ?_)
      refine lv_if_eq (tgt := 48) hx hb d_Model_beginValue_27 (by decide) (fun c_6 => ?_) (fun c_6 => ?_)
      · have hF := ifp hF c_6
        refine lv_aload_n hx hb d_Model_beginValue_48 rfl (lv_at hl 0 rfl) ?_
        refine lv_ldc2 (v := 40) hx hb hown (hts _ w_8030e055df) d_Model_beginValue_49 ?_
        obtain ⟨r7, h7, hF⟩ := b1E hF
        refine callVI (As := [.long 40]) X (ct_Model_sees l dC dI ad cA H.size h7) lk_Model_190 ⟨rfl, rfl, by decide, by decide⟩ 11 rfl rfl hP hD hS hl.1 rfl rfl (Nat.le_of_ble_eq_true rfl) d_Model_beginValue_52 (fun H locs hP hD hS => ?_)
        refine lv_if_eq (tgt := 71) hx hb d_Model_beginValue_55 (by decide) (fun c_8 => ?_) (fun c_8 => ?_)
        · have hF := ifp hF c_8
          refine lv_aload_n hx hb d_Model_beginValue_71 rfl (lv_at hl 0 rfl) ?_
          refine va_get (D := (dC, dI)) (ci := 11) (v := .ref (ad 31)) hx hb hts i_Model hown hK hP 11 rfl rfl 9 (by decide) (hts _ w_f071529ab8) (fun _ h9 => h9) rfl d_Model_beginValue_72 ?_
          refine lv_aload_n hx hb d_Model_beginValue_75 rfl (lv_at hl 0 rfl) ?_
          refine va_get (D := (dC, dI)) (ci := 11) (v := .int (σ.1 31)) hx hb hts i_Model hown hK hP 11 rfl rfl 6 (by decide) (hts _ w_13cd8e7698) (fun _ h9 => h9) rfl d_Model_beginValue_76 ?_
          obtain ⟨g_9, hF⟩ := gdE hF
          refine va_iald (f := (σ.2.2.1 16)) hx hb hK hP 31 0 rfl rfl (inE g_9) d_Model_beginValue_79 ?_
          refine lv_iconst (v := 2) hx hb d_Model_beginValue_80 (by decide) ?_
          refine lv_icmp_ne (tgt := 116) hx hb d_Model_beginValue_81 (by decide) (fun c_10 => ?_) (fun c_10 => ?_)
          · have hF := ifn hF c_10
            refine lv_aload_n hx hb d_Model_beginValue_116 rfl (lv_at hl 0 rfl) ?_
            refine lv_ldc2 (v := 1684104562) hx hb hown (hts _ w_756dd9a57a) d_Model_beginValue_117 ?_
            obtain ⟨r11, h11, hF⟩ := b1E hF
            refine callVI (As := [.long 1684104562]) X (ct_Model_sees l dC dI ad cA H.size h11) lk_Model_190 ⟨rfl, rfl, by decide, by decide⟩ 11 rfl rfl hP hD hS hl.1 rfl rfl (Nat.le_of_ble_eq_true rfl) d_Model_beginValue_120 (fun H locs hP hD hS => ?_)
            refine lv_if_eq (tgt := 131) hx hb d_Model_beginValue_123 (by decide) (fun c_12 => ?_) (fun c_12 => ?_)
            · have hF := ifp hF c_12
              refine lv_aload_n hx hb d_Model_beginValue_131 rfl (lv_at hl 0 rfl) ?_
              refine va_get (D := (dC, dI)) (ci := 11) (v := .ref (ad 31)) hx hb hts i_Model hown hK hP 11 rfl rfl 9 (by decide) (hts _ w_f071529ab8) (fun _ h9 => h9) rfl d_Model_beginValue_132 ?_
              refine lv_aload_n hx hb d_Model_beginValue_135 rfl (lv_at hl 0 rfl) ?_
              refine va_get (D := (dC, dI)) (ci := 11) (v := .int (σ.1 31)) hx hb hts i_Model hown hK hP 11 rfl rfl 6 (by decide) (hts _ w_13cd8e7698) (fun _ h9 => h9) rfl d_Model_beginValue_136 ?_
              obtain ⟨g_13, hF⟩ := gdE hF
              refine va_iald (f := (σ.2.2.1 16)) hx hb hK hP 31 0 rfl rfl (inE g_13) d_Model_beginValue_139 ?_
              refine lv_iconst (v := 1) hx hb d_Model_beginValue_140 (by decide) ?_
              refine lv_icmp_ne (tgt := 149) hx hb d_Model_beginValue_141 (by decide) (fun c_14 => ?_) (fun c_14 => ?_)
              · have hF := ifn hF c_14
                refine lv_aload_n hx hb d_Model_beginValue_149 rfl (lv_at hl 0 rfl) ?_
                obtain ⟨u15, h15, hF⟩ := b1E hF
                refine callVV (As := []) X (ct_Model_spoil l dC dI ad cA H.size h15) lk_Model_194 ⟨rfl, rfl, by decide, by decide⟩ 11 rfl rfl hP hD hS hl.1 rfl rfl (Nat.le_of_ble_eq_true rfl) d_Model_beginValue_150 (fun H locs hP hD hS => ?_)
                refine lv_iconst (v := 0) hx hb d_Model_beginValue_153 (by decide) ?_
                cases hF
                exact leafZ X hP hD hS (by decide) d_Model_beginValue_154
              · have hF := ifp hF c_14
                refine lv_aload_n hx hb d_Model_beginValue_144 rfl (lv_at hl 0 rfl) ?_
                obtain ⟨r16, u16, h16, hF⟩ := b2E hF
                refine callVI (As := []) X (ct_Model_beginName l dC dI ad cA H.size h16) lk_Model_264 ⟨rfl, rfl, by decide, by decide⟩ 11 rfl rfl hP hD hS hl.1 rfl rfl (Nat.le_of_ble_eq_true rfl) d_Model_beginValue_145 (fun H locs hP hD hS => ?_)
                obtain ⟨g_17, hF⟩ := gdE hF
                cases hF
                exact leafZ X hP hD hS (nZN g_17) d_Model_beginValue_148
            · have hF := ifn hF c_12
              refine lv_aload_n hx hb d_Model_beginValue_126 rfl (lv_at hl 0 rfl) ?_
              obtain ⟨r18, u18, h18, hF⟩ := b2E hF
              refine callVI (As := []) X (ct_Model_readNumber l dC dI ad cA H.size h18) lk_Model_260 ⟨rfl, rfl, by decide, by decide⟩ 11 rfl rfl hP hD hS hl.1 rfl rfl (Nat.le_of_ble_eq_true rfl) d_Model_beginValue_127 (fun H locs hP hD hS => ?_)
              obtain ⟨g_19, hF⟩ := gdE hF
              cases hF
              exact leafZ X hP hD hS (nZN g_19) d_Model_beginValue_130
          · have hF := ifp hF c_10
            refine lv_aload_n hx hb d_Model_beginValue_84 rfl (lv_at hl 0 rfl) ?_
            refine lv_aload_n hx hb d_Model_beginValue_85 rfl (lv_at hl 0 rfl) ?_
            refine lv_iconst (v := 1) hx hb d_Model_beginValue_86 (by decide) ?_
            refine lv_aload_n hx hb d_Model_beginValue_87 rfl (lv_at hl 0 rfl) ?_
            refine va_get (D := (dC, dI)) (ci := 11) (v := .ref (ad 34)) hx hb hts i_Model hown hK hP 11 rfl rfl 12 (by decide) (hts _ w_0d94ca7cfd) (fun _ h9 => h9) rfl d_Model_beginValue_88 ?_
            refine lv_aload_n hx hb d_Model_beginValue_91 rfl (lv_at hl 0 rfl) ?_
            refine va_get (D := (dC, dI)) (ci := 11) (v := .int (σ.1 31)) hx hb hts i_Model hown hK hP 11 rfl rfl 6 (by decide) (hts _ w_13cd8e7698) (fun _ h9 => h9) rfl d_Model_beginValue_92 ?_
            obtain ⟨g_20, hF⟩ := gdE hF
            refine va_iald (f := (σ.2.2.1 19)) hx hb hK hP 34 0 rfl rfl (inE g_20) d_Model_beginValue_95 ?_
            refine lv_iconst (v := (-1)) hx hb d_Model_beginValue_96 (by decide) ?_
            refine lv_iconst (v := (-1)) hx hb d_Model_beginValue_97 (by decide) ?_
            obtain ⟨r21, u21, h21, hF⟩ := b2E hF
            refine callVI (As := [.int 1, .int ((σ.2.2.1 19) (σ.1 31).toNatClampNeg), .int (-1), .int (-1)]) X (ct_Model_node l dC dI ad cA H.size h21) lk_Model_216 ⟨rfl, rfl, by decide, by decide⟩ 11 rfl rfl hP hD hS hl.1 rfl rfl (Nat.le_of_ble_eq_true rfl) d_Model_beginValue_98 (fun H locs hP hD hS => ?_)
            obtain ⟨u22, h22, hF⟩ := b1E hF
            refine callVV (As := [.int r21]) X (ct_Model_operand l dC dI ad cA H.size h22) lk_Model_220 ⟨rfl, rfl, by decide, by decide⟩ 11 rfl rfl hP hD hS hl.1 rfl rfl (Nat.le_of_ble_eq_true rfl) d_Model_beginValue_101 (fun H locs hP hD hS => ?_)
            refine lv_aload_n hx hb d_Model_beginValue_104 rfl (lv_at hl 0 rfl) ?_
            refine lv_dup hx hb d_Model_beginValue_105 rfl ?_
            refine va_get (D := (dC, dI)) (ci := 11) (v := .int (u22.1 31)) hx hb hts i_Model hown hK hP 11 rfl rfl 6 (by decide) (hts _ w_13cd8e7698) (fun _ h9 => h9) rfl d_Model_beginValue_106 ?_
            refine lv_iconst (v := 1) hx hb d_Model_beginValue_109 (by decide) ?_
            refine lv_iadd hx hb d_Model_beginValue_110 ?_
            refine va_put (D := (dC, dI)) (ci := 11) (v := .int ((u22.1 31) + 1)) (ty := .int) hx hb hts i_Model t_Model t_Model_ok n_Model hown hK hP hD hS 11 rfl rfl 6 (by decide) (hts _ w_13cd8e7698) (fun _ h9 => h9) rfl (by decide +kernel) rfl rfl (Nat.le_of_ble_eq_true rfl) d_Model_beginValue_111 (fun H locs hP hD hS => ?_)
            have hP : va_P (dC, dI) vwCl (tcw ad cA (sI u22 31 ((u22.1 31) + 1))) H := hP
            have hD : va_D A (tcw ad cA (sI u22 31 ((u22.1 31) + 1))) := hD
            refine lv_iconst (v := 0) hx hb d_Model_beginValue_114 (by decide) ?_
            cases hF
            exact leafZ X hP hD hS (by decide) d_Model_beginValue_115
        · have hF := ifn hF c_8
          refine lv_aload_n hx hb d_Model_beginValue_58 rfl (lv_at hl 0 rfl) ?_
          obtain ⟨u23, h23, hF⟩ := b1E hF
          refine callVV (As := []) X (ct_Model_opens l dC dI ad cA H.size h23) lk_Model_233 ⟨rfl, rfl, by decide, by decide⟩ 11 rfl rfl hP hD hS hl.1 rfl rfl (Nat.le_of_ble_eq_true rfl) d_Model_beginValue_59 (fun H locs hP hD hS => ?_)
          refine lv_aload_n hx hb d_Model_beginValue_62 rfl (lv_at hl 0 rfl) ?_
          refine lv_bipush (v := 30) hx hb d_Model_beginValue_63 (by decide) ?_
          refine lv_iconst (v := 0) hx hb d_Model_beginValue_65 (by decide) ?_
          obtain ⟨u24, h24, hF⟩ := b1E hF
          refine callVV (As := [.int 30, .int 0]) X (ct_Model_hold l dC dI ad cA H.size h24) lk_Model_236 ⟨rfl, rfl, by decide, by decide⟩ 11 rfl rfl hP hD hS hl.1 rfl rfl (Nat.le_of_ble_eq_true rfl) d_Model_beginValue_66 (fun H locs hP hD hS => ?_)
          refine lv_iconst (v := 1) hx hb d_Model_beginValue_69 (by decide) ?_
          cases hF
          exact leafZ X hP hD hS (by decide) d_Model_beginValue_70
      · have hF := ifn hF c_6
        exact (tModel_beginValue_blk l dC dI ad cA X 2000) σ  H locs ls hF hP hD hS (lv_sub hl [0] rfl)
theorem d_Model_hand_0 : decode b_Model_hand 0 = .ok (.aload_n 0, 1) := by decide +kernel
theorem d_Model_hand_1 : decode b_Model_hand 1 = .ok (.dup, 1) := by decide +kernel
theorem d_Model_hand_2 : decode b_Model_hand 2 = .ok (.getfield 401, 3) := by decide +kernel
theorem d_Model_hand_5 : decode b_Model_hand 5 = .ok (.iconst 1, 1) := by decide +kernel
theorem d_Model_hand_6 : decode b_Model_hand 6 = .ok (.isub, 1) := by decide +kernel
theorem d_Model_hand_7 : decode b_Model_hand 7 = .ok (.putfield 401, 3) := by decide +kernel
theorem d_Model_hand_10 : decode b_Model_hand 10 = .ok (.aload_n 0, 1) := by decide +kernel
theorem d_Model_hand_11 : decode b_Model_hand 11 = .ok (.getfield 100, 3) := by decide +kernel
theorem d_Model_hand_14 : decode b_Model_hand 14 = .ok (.aload_n 0, 1) := by decide +kernel
theorem d_Model_hand_15 : decode b_Model_hand 15 = .ok (.getfield 404, 3) := by decide +kernel
theorem d_Model_hand_18 : decode b_Model_hand 18 = .ok (.iload_n 1, 1) := by decide +kernel
theorem d_Model_hand_19 : decode b_Model_hand 19 = .ok (.iastore, 1) := by decide +kernel
theorem d_Model_hand_20 : decode b_Model_hand 20 = .ok (.aload_n 0, 1) := by decide +kernel
theorem d_Model_hand_21 : decode b_Model_hand 21 = .ok (.dup, 1) := by decide +kernel
theorem d_Model_hand_22 : decode b_Model_hand 22 = .ok (.getfield 404, 3) := by decide +kernel
theorem d_Model_hand_25 : decode b_Model_hand 25 = .ok (.iconst 1, 1) := by decide +kernel
theorem d_Model_hand_26 : decode b_Model_hand 26 = .ok (.iadd, 1) := by decide +kernel
theorem d_Model_hand_27 : decode b_Model_hand 27 = .ok (.putfield 404, 3) := by decide +kernel
theorem d_Model_hand_30 : decode b_Model_hand 30 = .ok (.return_, 1) := by decide +kernel
def tModel_hand (σ : St) (a1 : Int32) : Option (St) := gd (inB (σ.1 49) 400) (some (sI (sA (sI σ 48 ((σ.1 48) - 1)) 43 (upd (σ.2.2.1 43) (σ.1 49).toNatClampNeg a1)) 49 ((σ.1 49) + 1)))
set_option maxHeartbeats 4000000 in
set_option maxRecDepth 100000 in
theorem ct_Model_hand (l : Launch) (dC : Nat → ClassId) (dI : Nat → Nat → Nat) (ad : Nat → Nat) (cA : Nat → ClassId) (sz : Nat) {σ : St} {a1 : Int32} {σ' : St} (hF : tModel_hand σ a1 = some σ') : MV l y_Model_hand b_Model_hand 2 none { frames := 0, cells := 0, slots := 0, locals := 0 } (dC, dI) (ttys cA) ad (tcw ad cA) [.ref (ad 11), .int a1] σ sz σ' := by
  refine startM (own := "TinyForgeModel") (Qc := fun A => QV (dC, dI) (ttys cA) (tcw ad cA) A σ') rfl rfl (Nat.le_of_ble_eq_true rfl) ?_
  intro p e s m below meth c A H locs ls X hP hD hS hl
  have hl : lv_has ls 2 [(0, .ref (ad 11)), (1, .int a1)] := hl
  obtain ⟨hx, hb, hr, hml, hown, hlocks, hts, hA, hK, hZ⟩ := id X
  unfold tModel_hand at hF
  refine lv_aload_n hx hb d_Model_hand_0 rfl (lv_at hl 0 rfl) ?_
  refine lv_dup hx hb d_Model_hand_1 rfl ?_
  refine va_get (D := (dC, dI)) (ci := 11) (v := .int (σ.1 48)) hx hb hts i_Model hown hK hP 11 rfl rfl 44 (by decide) (hts _ w_0f4138ce03) (fun _ h9 => h9) rfl d_Model_hand_2 ?_
  refine lv_iconst (v := 1) hx hb d_Model_hand_5 (by decide) ?_
  refine lv_isub hx hb d_Model_hand_6 ?_
  refine va_put (D := (dC, dI)) (ci := 11) (v := .int ((σ.1 48) - 1)) (ty := .int) hx hb hts i_Model t_Model t_Model_ok n_Model hown hK hP hD hS 11 rfl rfl 44 (by decide) (hts _ w_0f4138ce03) (fun _ h9 => h9) rfl (by decide +kernel) rfl rfl (Nat.le_of_ble_eq_true rfl) d_Model_hand_7 (fun H locs hP hD hS => ?_)
  have hP : va_P (dC, dI) vwCl (tcw ad cA (sI σ 48 ((σ.1 48) - 1))) H := hP
  have hD : va_D A (tcw ad cA (sI σ 48 ((σ.1 48) - 1))) := hD
  refine lv_aload_n hx hb d_Model_hand_10 rfl (lv_at hl 0 rfl) ?_
  refine va_get (D := (dC, dI)) (ci := 11) (v := .ref (ad 58)) hx hb hts i_Model hown hK hP 11 rfl rfl 56 (by decide) (hts _ w_4a342e2c2d) (fun _ h9 => h9) rfl d_Model_hand_11 ?_
  refine lv_aload_n hx hb d_Model_hand_14 rfl (lv_at hl 0 rfl) ?_
  refine va_get (D := (dC, dI)) (ci := 11) (v := .int (σ.1 49)) hx hb hts i_Model hown hK hP 11 rfl rfl 45 (by decide) (hts _ w_4548f44b3d) (fun _ h9 => h9) rfl d_Model_hand_15 ?_
  refine lv_iload_n hx hb d_Model_hand_18 rfl (lv_at hl 1 rfl) ?_
  obtain ⟨g_1, hF⟩ := gdE hF
  refine va_iast (f := (σ.2.2.1 43)) hx hb hK hP hD hS 58 0 rfl rfl (inE g_1) d_Model_hand_19 (fun H locs hP hD hS => ?_)
  have hP : va_P (dC, dI) vwCl (tcw ad cA (sA (sI σ 48 ((σ.1 48) - 1)) 43 (upd (σ.2.2.1 43) (σ.1 49).toNatClampNeg a1))) H := hP
  have hD : va_D A (tcw ad cA (sA (sI σ 48 ((σ.1 48) - 1)) 43 (upd (σ.2.2.1 43) (σ.1 49).toNatClampNeg a1))) := hD
  refine lv_aload_n hx hb d_Model_hand_20 rfl (lv_at hl 0 rfl) ?_
  refine lv_dup hx hb d_Model_hand_21 rfl ?_
  refine va_get (D := (dC, dI)) (ci := 11) (v := .int (σ.1 49)) hx hb hts i_Model hown hK hP 11 rfl rfl 45 (by decide) (hts _ w_4548f44b3d) (fun _ h9 => h9) rfl d_Model_hand_22 ?_
  refine lv_iconst (v := 1) hx hb d_Model_hand_25 (by decide) ?_
  refine lv_iadd hx hb d_Model_hand_26 ?_
  refine va_put (D := (dC, dI)) (ci := 11) (v := .int ((σ.1 49) + 1)) (ty := .int) hx hb hts i_Model t_Model t_Model_ok n_Model hown hK hP hD hS 11 rfl rfl 45 (by decide) (hts _ w_4548f44b3d) (fun _ h9 => h9) rfl (by decide +kernel) rfl rfl (Nat.le_of_ble_eq_true rfl) d_Model_hand_27 (fun H locs hP hD hS => ?_)
  have hP : va_P (dC, dI) vwCl (tcw ad cA (sI (sA (sI σ 48 ((σ.1 48) - 1)) 43 (upd (σ.2.2.1 43) (σ.1 49).toNatClampNeg a1)) 49 ((σ.1 49) + 1))) H := hP
  have hD : va_D A (tcw ad cA (sI (sA (sI σ 48 ((σ.1 48) - 1)) 43 (upd (σ.2.2.1 43) (σ.1 49).toNatClampNeg a1)) 49 ((σ.1 49) + 1))) := hD
  cases hF
  exact leafV X hP hD hS d_Model_hand_30
