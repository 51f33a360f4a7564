theorem d_Model_addLast_0 : decode b_Model_addLast 0 = .ok (.aload_n 0, 1) := by decide +kernel
theorem d_Model_addLast_1 : decode b_Model_addLast 1 = .ok (.getfield 36, 3) := by decide +kernel
theorem d_Model_addLast_4 : decode b_Model_addLast 4 = .ok (.iload_n 1, 1) := by decide +kernel
theorem d_Model_addLast_5 : decode b_Model_addLast 5 = .ok (.iaload, 1) := by decide +kernel
theorem d_Model_addLast_6 : decode b_Model_addLast 6 = .ok (.ifCond .ge 13, 3) := by decide +kernel
theorem d_Model_addLast_9 : decode b_Model_addLast 9 = .ok (.aload_n 0, 1) := by decide +kernel
theorem d_Model_addLast_10 : decode b_Model_addLast 10 = .ok (.getfield 36, 3) := by decide +kernel
theorem d_Model_addLast_13 : decode b_Model_addLast 13 = .ok (.iload_n 1, 1) := by decide +kernel
theorem d_Model_addLast_14 : decode b_Model_addLast 14 = .ok (.iload_n 2, 1) := by decide +kernel
theorem d_Model_addLast_15 : decode b_Model_addLast 15 = .ok (.iastore, 1) := by decide +kernel
theorem d_Model_addLast_16 : decode b_Model_addLast 16 = .ok (.goto 15, 3) := by decide +kernel
theorem d_Model_addLast_19 : decode b_Model_addLast 19 = .ok (.aload_n 0, 1) := by decide +kernel
theorem d_Model_addLast_20 : decode b_Model_addLast 20 = .ok (.getfield 45, 3) := by decide +kernel
theorem d_Model_addLast_23 : decode b_Model_addLast 23 = .ok (.aload_n 0, 1) := by decide +kernel
theorem d_Model_addLast_24 : decode b_Model_addLast 24 = .ok (.getfield 39, 3) := by decide +kernel
theorem d_Model_addLast_27 : decode b_Model_addLast 27 = .ok (.iload_n 1, 1) := by decide +kernel
theorem d_Model_addLast_28 : decode b_Model_addLast 28 = .ok (.iaload, 1) := by decide +kernel
theorem d_Model_addLast_29 : decode b_Model_addLast 29 = .ok (.iload_n 2, 1) := by decide +kernel
theorem d_Model_addLast_30 : decode b_Model_addLast 30 = .ok (.iastore, 1) := by decide +kernel
theorem d_Model_addLast_31 : decode b_Model_addLast 31 = .ok (.aload_n 0, 1) := by decide +kernel
theorem d_Model_addLast_32 : decode b_Model_addLast 32 = .ok (.getfield 39, 3) := by decide +kernel
theorem d_Model_addLast_35 : decode b_Model_addLast 35 = .ok (.iload_n 1, 1) := by decide +kernel
theorem d_Model_addLast_36 : decode b_Model_addLast 36 = .ok (.iload_n 2, 1) := by decide +kernel
theorem d_Model_addLast_37 : decode b_Model_addLast 37 = .ok (.iastore, 1) := by decide +kernel
theorem d_Model_addLast_38 : decode b_Model_addLast 38 = .ok (.aload_n 0, 1) := by decide +kernel
theorem d_Model_addLast_39 : decode b_Model_addLast 39 = .ok (.getfield 33, 3) := by decide +kernel
theorem d_Model_addLast_42 : decode b_Model_addLast 42 = .ok (.iload_n 1, 1) := by decide +kernel
theorem d_Model_addLast_43 : decode b_Model_addLast 43 = .ok (.dup2, 1) := by decide +kernel
theorem d_Model_addLast_44 : decode b_Model_addLast 44 = .ok (.iaload, 1) := by decide +kernel
theorem d_Model_addLast_45 : decode b_Model_addLast 45 = .ok (.iconst 1, 1) := by decide +kernel
theorem d_Model_addLast_46 : decode b_Model_addLast 46 = .ok (.iadd, 1) := by decide +kernel
theorem d_Model_addLast_47 : decode b_Model_addLast 47 = .ok (.iastore, 1) := by decide +kernel
theorem d_Model_addLast_48 : decode b_Model_addLast 48 = .ok (.return_, 1) := by decide +kernel
def tModel_addLast_b1 (k : Nat → St → Int32 → Int32 → Option (St)) (σ : St) (x1 : Int32) (x2 : Int32) : Option (St) := gd (inB x1 500) (gd (inB x1 500) (gd (inB x1 500) (some (sA (sA σ 23 (upd (σ.2.2.1 23) x1.toNatClampNeg x2)) 21 (upd (σ.2.2.1 21) x1.toNatClampNeg (((σ.2.2.1 21) x1.toNatClampNeg) + 1))))))
def tModel_addLast_L : Nat → Nat → St → Int32 → Int32 → Option (St)
  | 0, _, _, _, _ => none
  | n + 1, lab, σ, x1, x2 => match lab with
    | 1 => tModel_addLast_b1 (tModel_addLast_L n) σ x1 x2
    | _ => none
def tModel_addLast (σ : St) (a1 : Int32) (a2 : Int32) : Option (St) := gd (inB a1 500) (if (0 : Int32) ≤ ((σ.2.2.1 22) a1.toNatClampNeg) then gd (inB a1 500) (gd (inB ((σ.2.2.1 23) a1.toNatClampNeg) 500) (tModel_addLast_L 2000 1 (sA σ 25 (upd (σ.2.2.1 25) ((σ.2.2.1 23) a1.toNatClampNeg).toNatClampNeg a2)) a1 a2)) else gd (inB a1 500) (tModel_addLast_L 2000 1 (sA σ 22 (upd (σ.2.2.1 22) a1.toNatClampNeg a2)) a1 a2))
set_option maxHeartbeats 4000000 in
set_option maxRecDepth 100000 in
theorem tModel_addLast_blk {p : Program} {e : Env} {s : State} {m : MethodId} {args : Array Value} {below : List Frame} {meth : Method} {c : Code} {A : Nat → Prop} (l : Launch) (dC : Nat → ClassId) (dI : Nat → Nat → Nat) (ad : Nat → Nat) (cA : Nat → ClassId) {σ' : St} (X : Cx p s m args meth c b_Model_addLast 3 none "TinyForgeModel" (dC, dI) (ttys cA) ad A) : ∀ n : Nat, (∀ (σ : St) (x1 : Int32) (x2 : Int32) (H : Heap) (locs : List Loc) (ls : Array Slot), tModel_addLast_L n 1 σ x1 x2 = some σ' → va_P (dC, dI) vwCl (tcw ad cA σ) H → va_D A (tcw ad cA σ) → va_S A s.heap H locs → lv_has ls 3 [(0, .ref (ad 11)), (1, .int x1), (2, .int x2)] → W p l e { frames := 0, cells := 0, slots := 0, locals := 0 } s m args below meth c H locs 0 0 (MQ below (QV (dC, dI) (ttys cA) (tcw ad cA) A σ') args s 0 0 A) (F0 m 31 ls [])) := by
  obtain ⟨hx, hb, hr, hml, hown, hlocks, hts, hA, hK, hZ⟩ := id X
  intro n
  induction n with
  | zero => exact (fun σ x1 x2 H locs ls hF => by cases hF)
  | succ n ihn =>
    refine fun σ x1 x2 H locs ls hF hP hD hS hl => ?_
    · have hF : tModel_addLast_b1 (tModel_addLast_L n) σ x1 x2 = some σ' := hF
      unfold tModel_addLast_b1 at hF
      refine lv_aload_n hx hb d_Model_addLast_31 rfl (lv_at hl 0 rfl) ?_
      refine va_get (D := (dC, dI)) (ci := 11) (v := .ref (ad 38)) hx hb hts i_Model hown hK hP 11 rfl rfl 17 (by decide) (hts _ w_d96db777d5) (fun _ h9 => h9) rfl d_Model_addLast_32 ?_
      refine lv_iload_n hx hb d_Model_addLast_35 rfl (lv_at hl 1 rfl) ?_
      refine lv_iload_n hx hb d_Model_addLast_36 rfl (lv_at hl 2 rfl) ?_
      obtain ⟨g_6, hF⟩ := gdE hF
      refine va_iast (f := (σ.2.2.1 23)) hx hb hK hP hD hS 38 0 rfl rfl (inE g_6) d_Model_addLast_37 (fun H locs hP hD hS => ?_)
      have hP : va_P (dC, dI) vwCl (tcw ad cA (sA σ 23 (upd (σ.2.2.1 23) x1.toNatClampNeg x2))) H := hP
      have hD : va_D A (tcw ad cA (sA σ 23 (upd (σ.2.2.1 23) x1.toNatClampNeg x2))) := hD
      refine lv_aload_n hx hb d_Model_addLast_38 rfl (lv_at hl 0 rfl) ?_
      refine va_get (D := (dC, dI)) (ci := 11) (v := .ref (ad 36)) hx hb hts i_Model hown hK hP 11 rfl rfl 15 (by decide) (hts _ w_70f5434828) (fun _ h9 => h9) rfl d_Model_addLast_39 ?_
      refine lv_iload_n hx hb d_Model_addLast_42 rfl (lv_at hl 1 rfl) ?_
      refine lv_dup2_11 hx hb d_Model_addLast_43 rfl rfl ?_
      obtain ⟨g_7, hF⟩ := gdE hF
      refine va_iald (f := (σ.2.2.1 21)) hx hb hK hP 36 0 rfl rfl (inE g_7) d_Model_addLast_44 ?_
      refine lv_iconst (v := 1) hx hb d_Model_addLast_45 (by decide) ?_
      refine lv_iadd hx hb d_Model_addLast_46 ?_
      obtain ⟨g_8, hF⟩ := gdE hF
      refine va_iast (f := (σ.2.2.1 21)) hx hb hK hP hD hS 36 0 rfl rfl (inE g_8) d_Model_addLast_47 (fun H locs hP hD hS => ?_)
      have hP : va_P (dC, dI) vwCl (tcw ad cA (sA (sA σ 23 (upd (σ.2.2.1 23) x1.toNatClampNeg x2)) 21 (upd (σ.2.2.1 21) x1.toNatClampNeg (((σ.2.2.1 21) x1.toNatClampNeg) + 1)))) H := hP
      have hD : va_D A (tcw ad cA (sA (sA σ 23 (upd (σ.2.2.1 23) x1.toNatClampNeg x2)) 21 (upd (σ.2.2.1 21) x1.toNatClampNeg (((σ.2.2.1 21) x1.toNatClampNeg) + 1)))) := hD
      cases hF
      exact leafV X hP hD hS d_Model_addLast_48
set_option maxHeartbeats 4000000 in
set_option maxRecDepth 100000 in
theorem ct_Model_addLast (l : Launch) (dC : Nat → ClassId) (dI : Nat → Nat → Nat) (ad : Nat → Nat) (cA : Nat → ClassId) (sz : Nat) {σ : St} {a1 : Int32} {a2 : Int32} {σ' : St} (hF : tModel_addLast σ a1 a2 = some σ') : MV l y_Model_addLast b_Model_addLast 3 none { frames := 0, cells := 0, slots := 0, locals := 0 } (dC, dI) (ttys cA) ad (tcw ad cA) [.ref (ad 11), .int a1, .int a2] σ sz σ' := by
  refine startM (own := "TinyForgeModel") (Qc := fun A => QV (dC, dI) (ttys cA) (tcw ad cA) A σ') rfl rfl (Nat.le_of_ble_eq_true rfl) ?_
  intro p e s m below meth c A H locs ls X hP hD hS hl
  have hl : lv_has ls 3 [(0, .ref (ad 11)), (1, .int a1), (2, .int a2)] := hl
  obtain ⟨hx, hb, hr, hml, hown, hlocks, hts, hA, hK, hZ⟩ := id X
  unfold tModel_addLast at hF
  refine lv_aload_n hx hb d_Model_addLast_0 rfl (lv_at hl 0 rfl) ?_
  refine va_get (D := (dC, dI)) (ci := 11) (v := .ref (ad 37)) hx hb hts i_Model hown hK hP 11 rfl rfl 16 (by decide) (hts _ w_b1c1a5a9de) (fun _ h9 => h9) rfl d_Model_addLast_1 ?_
  refine lv_iload_n hx hb d_Model_addLast_4 rfl (lv_at hl 1 rfl) ?_
  obtain ⟨g_1, hF⟩ := gdE hF
  refine va_iald (f := (σ.2.2.1 22)) hx hb hK hP 37 0 rfl rfl (inE g_1) d_Model_addLast_5 ?_
  refine lv_if_ge (tgt := 19) hx hb d_Model_addLast_6 (by decide) (fun c_2 => ?_) (fun c_2 => ?_)
  · have hF := ifp hF c_2
    refine lv_aload_n hx hb d_Model_addLast_19 rfl (lv_at hl 0 rfl) ?_
    refine va_get (D := (dC, dI)) (ci := 11) (v := .ref (ad 40)) hx hb hts i_Model hown hK hP 11 rfl rfl 19 (by decide) (hts _ w_90306bc83b) (fun _ h9 => h9) rfl d_Model_addLast_20 ?_
    refine lv_aload_n hx hb d_Model_addLast_23 rfl (lv_at hl 0 rfl) ?_
    refine va_get (D := (dC, dI)) (ci := 11) (v := .ref (ad 38)) hx hb hts i_Model hown hK hP 11 rfl rfl 17 (by decide) (hts _ w_d96db777d5) (fun _ h9 => h9) rfl d_Model_addLast_24 ?_
    refine lv_iload_n hx hb d_Model_addLast_27 rfl (lv_at hl 1 rfl) ?_
    obtain ⟨g_3, hF⟩ := gdE hF
    refine va_iald (f := (σ.2.2.1 23)) hx hb hK hP 38 0 rfl rfl (inE g_3) d_Model_addLast_28 ?_
    refine lv_iload_n hx hb d_Model_addLast_29 rfl (lv_at hl 2 rfl) ?_
    obtain ⟨g_4, hF⟩ := gdE hF
    refine va_iast (f := (σ.2.2.1 25)) hx hb hK hP hD hS 40 0 rfl rfl (inE g_4) d_Model_addLast_30 (fun H locs hP hD hS => ?_)
    have hP : va_P (dC, dI) vwCl (tcw ad cA (sA σ 25 (upd (σ.2.2.1 25) ((σ.2.2.1 23) a1.toNatClampNeg).toNatClampNeg a2))) H := hP
    have hD : va_D A (tcw ad cA (sA σ 25 (upd (σ.2.2.1 25) ((σ.2.2.1 23) a1.toNatClampNeg).toNatClampNeg a2))) := hD
    exact (tModel_addLast_blk l dC dI ad cA X 2000) (sA σ 25 (upd (σ.2.2.1 25) ((σ.2.2.1 23) a1.toNatClampNeg).toNatClampNeg a2)) a1 a2 H locs ls hF hP hD hS (lv_sub hl [0, 1, 2] rfl)
  · have hF := ifn hF c_2
    refine lv_aload_n hx hb d_Model_addLast_9 rfl (lv_at hl 0 rfl) ?_
    refine va_get (D := (dC, dI)) (ci := 11) (v := .ref (ad 37)) hx hb hts i_Model hown hK hP 11 rfl rfl 16 (by decide) (hts _ w_b1c1a5a9de) (fun _ h9 => h9) rfl d_Model_addLast_10 ?_
    refine lv_iload_n hx hb d_Model_addLast_13 rfl (lv_at hl 1 rfl) ?_
    refine lv_iload_n hx hb d_Model_addLast_14 rfl (lv_at hl 2 rfl) ?_
    obtain ⟨g_5, hF⟩ := gdE hF
    refine va_iast (f := (σ.2.2.1 22)) hx hb hK hP hD hS 37 0 rfl rfl (inE g_5) d_Model_addLast_15 (fun H locs hP hD hS => ?_)
    have hP : va_P (dC, dI) vwCl (tcw ad cA (sA σ 22 (upd (σ.2.2.1 22) a1.toNatClampNeg a2))) H := hP
    have hD : va_D A (tcw ad cA (sA σ 22 (upd (σ.2.2.1 22) a1.toNatClampNeg a2))) := hD
    refine lv_goto (tgt := 31) hx hb d_Model_addLast_16 (by decide) ?_
    exact (tModel_addLast_blk l dC dI ad cA X 2000) (sA σ 22 (upd (σ.2.2.1 22) a1.toNatClampNeg a2)) a1 a2 H locs ls hF hP hD hS (lv_sub hl [0, 1, 2] rfl)
theorem d_Model_addToken_0 : decode b_Model_addToken 0 = .ok (.aload_n 0, 1) := by decide +kernel
theorem d_Model_addToken_1 : decode b_Model_addToken 1 = .ok (.getfield 17, 3) := by decide +kernel
theorem d_Model_addToken_4 : decode b_Model_addToken 4 = .ok (.aload_n 0, 1) := by decide +kernel
theorem d_Model_addToken_5 : decode b_Model_addToken 5 = .ok (.getfield 131, 3) := by decide +kernel
theorem d_Model_addToken_8 : decode b_Model_addToken 8 = .ok (.iload_n 1, 1) := by decide +kernel
theorem d_Model_addToken_9 : decode b_Model_addToken 9 = .ok (.iastore, 1) := by decide +kernel
theorem d_Model_addToken_10 : decode b_Model_addToken 10 = .ok (.aload_n 0, 1) := by decide +kernel
theorem d_Model_addToken_11 : decode b_Model_addToken 11 = .ok (.getfield 21, 3) := by decide +kernel
theorem d_Model_addToken_14 : decode b_Model_addToken 14 = .ok (.aload_n 0, 1) := by decide +kernel
theorem d_Model_addToken_15 : decode b_Model_addToken 15 = .ok (.getfield 131, 3) := by decide +kernel
theorem d_Model_addToken_18 : decode b_Model_addToken 18 = .ok (.iload_n 2, 1) := by decide +kernel
theorem d_Model_addToken_19 : decode b_Model_addToken 19 = .ok (.iastore, 1) := by decide +kernel
theorem d_Model_addToken_20 : decode b_Model_addToken 20 = .ok (.aload_n 0, 1) := by decide +kernel
theorem d_Model_addToken_21 : decode b_Model_addToken 21 = .ok (.getfield 24, 3) := by decide +kernel
theorem d_Model_addToken_24 : decode b_Model_addToken 24 = .ok (.aload_n 0, 1) := by decide +kernel
theorem d_Model_addToken_25 : decode b_Model_addToken 25 = .ok (.getfield 131, 3) := by decide +kernel
theorem d_Model_addToken_28 : decode b_Model_addToken 28 = .ok (.iload_n 3, 1) := by decide +kernel
theorem d_Model_addToken_29 : decode b_Model_addToken 29 = .ok (.iastore, 1) := by decide +kernel
theorem d_Model_addToken_30 : decode b_Model_addToken 30 = .ok (.aload_n 0, 1) := by decide +kernel
theorem d_Model_addToken_31 : decode b_Model_addToken 31 = .ok (.getfield 27, 3) := by decide +kernel
theorem d_Model_addToken_34 : decode b_Model_addToken 34 = .ok (.aload_n 0, 1) := by decide +kernel
theorem d_Model_addToken_35 : decode b_Model_addToken 35 = .ok (.getfield 131, 3) := by decide +kernel
theorem d_Model_addToken_38 : decode b_Model_addToken 38 = .ok (.iload 4, 2) := by decide +kernel
theorem d_Model_addToken_40 : decode b_Model_addToken 40 = .ok (.iastore, 1) := by decide +kernel
theorem d_Model_addToken_41 : decode b_Model_addToken 41 = .ok (.aload_n 0, 1) := by decide +kernel
theorem d_Model_addToken_42 : decode b_Model_addToken 42 = .ok (.dup, 1) := by decide +kernel
theorem d_Model_addToken_43 : decode b_Model_addToken 43 = .ok (.getfield 131, 3) := by decide +kernel
theorem d_Model_addToken_46 : decode b_Model_addToken 46 = .ok (.iconst 1, 1) := by decide +kernel
theorem d_Model_addToken_47 : decode b_Model_addToken 47 = .ok (.iadd, 1) := by decide +kernel
theorem d_Model_addToken_48 : decode b_Model_addToken 48 = .ok (.putfield 131, 3) := by decide +kernel
theorem d_Model_addToken_51 : decode b_Model_addToken 51 = .ok (.return_, 1) := by decide +kernel
def tModel_addToken (σ : St) (a1 : Int32) (a2 : Int32) (a3 : Int32) (a4 : Int32) : Option (St) := gd (inB (σ.1 28) 500) (gd (inB (σ.1 28) 500) (gd (inB (σ.1 28) 500) (gd (inB (σ.1 28) 500) (some (sI (sA (sA (sA (sA σ 16 (upd (σ.2.2.1 16) (σ.1 28).toNatClampNeg a1)) 17 (upd (σ.2.2.1 17) (σ.1 28).toNatClampNeg a2)) 18 (upd (σ.2.2.1 18) (σ.1 28).toNatClampNeg a3)) 19 (upd (σ.2.2.1 19) (σ.1 28).toNatClampNeg a4)) 28 ((σ.1 28) + 1))))))
set_option maxHeartbeats 4000000 in
set_option maxRecDepth 100000 in
theorem ct_Model_addToken (l : Launch) (dC : Nat → ClassId) (dI : Nat → Nat → Nat) (ad : Nat → Nat) (cA : Nat → ClassId) (sz : Nat) {σ : St} {a1 : Int32} {a2 : Int32} {a3 : Int32} {a4 : Int32} {σ' : St} (hF : tModel_addToken σ a1 a2 a3 a4 = some σ') : MV l y_Model_addToken b_Model_addToken 5 none { frames := 0, cells := 0, slots := 0, locals := 0 } (dC, dI) (ttys cA) ad (tcw ad cA) [.ref (ad 11), .int a1, .int a2, .int a3, .int a4] σ sz σ' := by
  refine startM (own := "TinyForgeModel") (Qc := fun A => QV (dC, dI) (ttys cA) (tcw ad cA) A σ') rfl rfl (Nat.le_of_ble_eq_true rfl) ?_
  intro p e s m below meth c A H locs ls X hP hD hS hl
  have hl : lv_has ls 5 [(0, .ref (ad 11)), (1, .int a1), (2, .int a2), (3, .int a3), (4, .int a4)] := hl
  obtain ⟨hx, hb, hr, hml, hown, hlocks, hts, hA, hK, hZ⟩ := id X
  unfold tModel_addToken at hF
  refine lv_aload_n hx hb d_Model_addToken_0 rfl (lv_at hl 0 rfl) ?_
  refine va_get (D := (dC, dI)) (ci := 11) (v := .ref (ad 31)) hx hb hts i_Model hown hK hP 11 rfl rfl 9 (by decide) (hts _ w_f071529ab8) (fun _ h9 => h9) rfl d_Model_addToken_1 ?_
  refine lv_aload_n hx hb d_Model_addToken_4 rfl (lv_at hl 0 rfl) ?_
  refine va_get (D := (dC, dI)) (ci := 11) (v := .int (σ.1 28)) hx hb hts i_Model hown hK hP 11 rfl rfl 3 (by decide) (hts _ w_a747261a84) (fun _ h9 => h9) rfl d_Model_addToken_5 ?_
  refine lv_iload_n hx hb d_Model_addToken_8 rfl (lv_at hl 1 rfl) ?_
  obtain ⟨g_1, hF⟩ := gdE hF
  refine va_iast (f := (σ.2.2.1 16)) hx hb hK hP hD hS 31 0 rfl rfl (inE g_1) d_Model_addToken_9 (fun H locs hP hD hS => ?_)
  have hP : va_P (dC, dI) vwCl (tcw ad cA (sA σ 16 (upd (σ.2.2.1 16) (σ.1 28).toNatClampNeg a1))) H := hP
  have hD : va_D A (tcw ad cA (sA σ 16 (upd (σ.2.2.1 16) (σ.1 28).toNatClampNeg a1))) := hD
  refine lv_aload_n hx hb d_Model_addToken_10 rfl (lv_at hl 0 rfl) ?_
  refine va_get (D := (dC, dI)) (ci := 11) (v := .ref (ad 32)) hx hb hts i_Model hown hK hP 11 rfl rfl 10 (by decide) (hts _ w_58d30b60eb) (fun _ h9 => h9) rfl d_Model_addToken_11 ?_
  refine lv_aload_n hx hb d_Model_addToken_14 rfl (lv_at hl 0 rfl) ?_
  refine va_get (D := (dC, dI)) (ci := 11) (v := .int (σ.1 28)) hx hb hts i_Model hown hK hP 11 rfl rfl 3 (by decide) (hts _ w_a747261a84) (fun _ h9 => h9) rfl d_Model_addToken_15 ?_
  refine lv_iload_n hx hb d_Model_addToken_18 rfl (lv_at hl 2 rfl) ?_
  obtain ⟨g_2, hF⟩ := gdE hF
  refine va_iast (f := (σ.2.2.1 17)) hx hb hK hP hD hS 32 0 rfl rfl (inE g_2) d_Model_addToken_19 (fun H locs hP hD hS => ?_)
  have hP : va_P (dC, dI) vwCl (tcw ad cA (sA (sA σ 16 (upd (σ.2.2.1 16) (σ.1 28).toNatClampNeg a1)) 17 (upd (σ.2.2.1 17) (σ.1 28).toNatClampNeg a2))) H := hP
  have hD : va_D A (tcw ad cA (sA (sA σ 16 (upd (σ.2.2.1 16) (σ.1 28).toNatClampNeg a1)) 17 (upd (σ.2.2.1 17) (σ.1 28).toNatClampNeg a2))) := hD
  refine lv_aload_n hx hb d_Model_addToken_20 rfl (lv_at hl 0 rfl) ?_
  refine va_get (D := (dC, dI)) (ci := 11) (v := .ref (ad 33)) hx hb hts i_Model hown hK hP 11 rfl rfl 11 (by decide) (hts _ w_ba266638fe) (fun _ h9 => h9) rfl d_Model_addToken_21 ?_
  refine lv_aload_n hx hb d_Model_addToken_24 rfl (lv_at hl 0 rfl) ?_
  refine va_get (D := (dC, dI)) (ci := 11) (v := .int (σ.1 28)) hx hb hts i_Model hown hK hP 11 rfl rfl 3 (by decide) (hts _ w_a747261a84) (fun _ h9 => h9) rfl d_Model_addToken_25 ?_
  refine lv_iload_n hx hb d_Model_addToken_28 rfl (lv_at hl 3 rfl) ?_
  obtain ⟨g_3, hF⟩ := gdE hF
  refine va_iast (f := (σ.2.2.1 18)) hx hb hK hP hD hS 33 0 rfl rfl (inE g_3) d_Model_addToken_29 (fun H locs hP hD hS => ?_)
  have hP : va_P (dC, dI) vwCl (tcw ad cA (sA (sA (sA σ 16 (upd (σ.2.2.1 16) (σ.1 28).toNatClampNeg a1)) 17 (upd (σ.2.2.1 17) (σ.1 28).toNatClampNeg a2)) 18 (upd (σ.2.2.1 18) (σ.1 28).toNatClampNeg a3))) H := hP
  have hD : va_D A (tcw ad cA (sA (sA (sA σ 16 (upd (σ.2.2.1 16) (σ.1 28).toNatClampNeg a1)) 17 (upd (σ.2.2.1 17) (σ.1 28).toNatClampNeg a2)) 18 (upd (σ.2.2.1 18) (σ.1 28).toNatClampNeg a3))) := hD
  refine lv_aload_n hx hb d_Model_addToken_30 rfl (lv_at hl 0 rfl) ?_
  refine va_get (D := (dC, dI)) (ci := 11) (v := .ref (ad 34)) hx hb hts i_Model hown hK hP 11 rfl rfl 12 (by decide) (hts _ w_0d94ca7cfd) (fun _ h9 => h9) rfl d_Model_addToken_31 ?_
  refine lv_aload_n hx hb d_Model_addToken_34 rfl (lv_at hl 0 rfl) ?_
  refine va_get (D := (dC, dI)) (ci := 11) (v := .int (σ.1 28)) hx hb hts i_Model hown hK hP 11 rfl rfl 3 (by decide) (hts _ w_a747261a84) (fun _ h9 => h9) rfl d_Model_addToken_35 ?_
  refine lv_iload hx hb d_Model_addToken_38 (lv_at hl 4 rfl) ?_
  obtain ⟨g_4, hF⟩ := gdE hF
  refine va_iast (f := (σ.2.2.1 19)) hx hb hK hP hD hS 34 0 rfl rfl (inE g_4) d_Model_addToken_40 (fun H locs hP hD hS => ?_)
  have hP : va_P (dC, dI) vwCl (tcw ad cA (sA (sA (sA (sA σ 16 (upd (σ.2.2.1 16) (σ.1 28).toNatClampNeg a1)) 17 (upd (σ.2.2.1 17) (σ.1 28).toNatClampNeg a2)) 18 (upd (σ.2.2.1 18) (σ.1 28).toNatClampNeg a3)) 19 (upd (σ.2.2.1 19) (σ.1 28).toNatClampNeg a4))) H := hP
  have hD : va_D A (tcw ad cA (sA (sA (sA (sA σ 16 (upd (σ.2.2.1 16) (σ.1 28).toNatClampNeg a1)) 17 (upd (σ.2.2.1 17) (σ.1 28).toNatClampNeg a2)) 18 (upd (σ.2.2.1 18) (σ.1 28).toNatClampNeg a3)) 19 (upd (σ.2.2.1 19) (σ.1 28).toNatClampNeg a4))) := hD
  refine lv_aload_n hx hb d_Model_addToken_41 rfl (lv_at hl 0 rfl) ?_
  refine lv_dup hx hb d_Model_addToken_42 rfl ?_
  refine va_get (D := (dC, dI)) (ci := 11) (v := .int (σ.1 28)) hx hb hts i_Model hown hK hP 11 rfl rfl 3 (by decide) (hts _ w_a747261a84) (fun _ h9 => h9) rfl d_Model_addToken_43 ?_
  refine lv_iconst (v := 1) hx hb d_Model_addToken_46 (by decide) ?_
  refine lv_iadd hx hb d_Model_addToken_47 ?_
  refine va_put (D := (dC, dI)) (ci := 11) (v := .int ((σ.1 28) + 1)) (ty := .int) hx hb hts i_Model t_Model t_Model_ok n_Model hown hK hP hD hS 11 rfl rfl 3 (by decide) (hts _ w_a747261a84) (fun _ h9 => h9) rfl (by decide +kernel) rfl rfl (Nat.le_of_ble_eq_true rfl) d_Model_addToken_48 (fun H locs hP hD hS => ?_)
  have hP : va_P (dC, dI) vwCl (tcw ad cA (sI (sA (sA (sA (sA σ 16 (upd (σ.2.2.1 16) (σ.1 28).toNatClampNeg a1)) 17 (upd (σ.2.2.1 17) (σ.1 28).toNatClampNeg a2)) 18 (upd (σ.2.2.1 18) (σ.1 28).toNatClampNeg a3)) 19 (upd (σ.2.2.1 19) (σ.1 28).toNatClampNeg a4)) 28 ((σ.1 28) + 1))) H := hP
  have hD : va_D A (tcw ad cA (sI (sA (sA (sA (sA σ 16 (upd (σ.2.2.1 16) (σ.1 28).toNatClampNeg a1)) 17 (upd (σ.2.2.1 17) (σ.1 28).toNatClampNeg a2)) 18 (upd (σ.2.2.1 18) (σ.1 28).toNatClampNeg a3)) 19 (upd (σ.2.2.1 19) (σ.1 28).toNatClampNeg a4)) 28 ((σ.1 28) + 1))) := hD
  cases hF
  exact leafV X hP hD hS d_Model_addToken_51
theorem d_Model_areAlike_0 : decode b_Model_areAlike 0 = .ok (.aload_n 0, 1) := by decide +kernel
theorem d_Model_areAlike_1 : decode b_Model_areAlike 1 = .ok (.getfield 24, 3) := by decide +kernel
theorem d_Model_areAlike_4 : decode b_Model_areAlike 4 = .ok (.iload_n 1, 1) := by decide +kernel
theorem d_Model_areAlike_5 : decode b_Model_areAlike 5 = .ok (.iaload, 1) := by decide +kernel
theorem d_Model_areAlike_6 : decode b_Model_areAlike 6 = .ok (.aload_n 0, 1) := by decide +kernel
theorem d_Model_areAlike_7 : decode b_Model_areAlike 7 = .ok (.getfield 24, 3) := by decide +kernel
theorem d_Model_areAlike_10 : decode b_Model_areAlike 10 = .ok (.iload_n 2, 1) := by decide +kernel
theorem d_Model_areAlike_11 : decode b_Model_areAlike 11 = .ok (.iaload, 1) := by decide +kernel
theorem d_Model_areAlike_12 : decode b_Model_areAlike 12 = .ok (.if_icmp .ne 7, 3) := by decide +kernel
theorem d_Model_areAlike_15 : decode b_Model_areAlike 15 = .ok (.iconst 1, 1) := by decide +kernel
theorem d_Model_areAlike_16 : decode b_Model_areAlike 16 = .ok (.goto 4, 3) := by decide +kernel
theorem d_Model_areAlike_19 : decode b_Model_areAlike 19 = .ok (.iconst 0, 1) := by decide +kernel
theorem d_Model_areAlike_20 : decode b_Model_areAlike 20 = .ok (.istore_n 3, 1) := by decide +kernel
theorem d_Model_areAlike_21 : decode b_Model_areAlike 21 = .ok (.iconst 0, 1) := by decide +kernel
theorem d_Model_areAlike_22 : decode b_Model_areAlike 22 = .ok (.istore 4, 2) := by decide +kernel
theorem d_Model_areAlike_24 : decode b_Model_areAlike 24 = .ok (.iload 4, 2) := by decide +kernel
theorem d_Model_areAlike_26 : decode b_Model_areAlike 26 = .ok (.aload_n 0, 1) := by decide +kernel
theorem d_Model_areAlike_27 : decode b_Model_areAlike 27 = .ok (.getfield 24, 3) := by decide +kernel
theorem d_Model_areAlike_30 : decode b_Model_areAlike 30 = .ok (.iload_n 1, 1) := by decide +kernel
theorem d_Model_areAlike_31 : decode b_Model_areAlike 31 = .ok (.iaload, 1) := by decide +kernel
theorem d_Model_areAlike_32 : decode b_Model_areAlike 32 = .ok (.if_icmp .ge 50, 3) := by decide +kernel
theorem d_Model_areAlike_35 : decode b_Model_areAlike 35 = .ok (.iload_n 3, 1) := by decide +kernel
theorem d_Model_areAlike_36 : decode b_Model_areAlike 36 = .ok (.ifCond .eq 46, 3) := by decide +kernel
theorem d_Model_areAlike_39 : decode b_Model_areAlike 39 = .ok (.aload_n 0, 1) := by decide +kernel
theorem d_Model_areAlike_40 : decode b_Model_areAlike 40 = .ok (.getfield 7, 3) := by decide +kernel
theorem d_Model_areAlike_43 : decode b_Model_areAlike 43 = .ok (.aload_n 0, 1) := by decide +kernel
theorem d_Model_areAlike_44 : decode b_Model_areAlike 44 = .ok (.getfield 21, 3) := by decide +kernel
theorem d_Model_areAlike_47 : decode b_Model_areAlike 47 = .ok (.iload_n 1, 1) := by decide +kernel
theorem d_Model_areAlike_48 : decode b_Model_areAlike 48 = .ok (.iaload, 1) := by decide +kernel
theorem d_Model_areAlike_49 : decode b_Model_areAlike 49 = .ok (.iload 4, 2) := by decide +kernel
theorem d_Model_areAlike_51 : decode b_Model_areAlike 51 = .ok (.iadd, 1) := by decide +kernel
theorem d_Model_areAlike_52 : decode b_Model_areAlike 52 = .ok (.caload, 1) := by decide +kernel
theorem d_Model_areAlike_53 : decode b_Model_areAlike 53 = .ok (.aload_n 0, 1) := by decide +kernel
theorem d_Model_areAlike_54 : decode b_Model_areAlike 54 = .ok (.getfield 7, 3) := by decide +kernel
theorem d_Model_areAlike_57 : decode b_Model_areAlike 57 = .ok (.aload_n 0, 1) := by decide +kernel
theorem d_Model_areAlike_58 : decode b_Model_areAlike 58 = .ok (.getfield 21, 3) := by decide +kernel
theorem d_Model_areAlike_61 : decode b_Model_areAlike 61 = .ok (.iload_n 2, 1) := by decide +kernel
theorem d_Model_areAlike_62 : decode b_Model_areAlike 62 = .ok (.iaload, 1) := by decide +kernel
theorem d_Model_areAlike_63 : decode b_Model_areAlike 63 = .ok (.iload 4, 2) := by decide +kernel
theorem d_Model_areAlike_65 : decode b_Model_areAlike 65 = .ok (.iadd, 1) := by decide +kernel
theorem d_Model_areAlike_66 : decode b_Model_areAlike 66 = .ok (.caload, 1) := by decide +kernel
theorem d_Model_areAlike_67 : decode b_Model_areAlike 67 = .ok (.if_icmp .ne 7, 3) := by decide +kernel
theorem d_Model_areAlike_70 : decode b_Model_areAlike 70 = .ok (.iconst 1, 1) := by decide +kernel
theorem d_Model_areAlike_71 : decode b_Model_areAlike 71 = .ok (.goto 4, 3) := by decide +kernel
theorem d_Model_areAlike_74 : decode b_Model_areAlike 74 = .ok (.iconst 0, 1) := by decide +kernel
theorem d_Model_areAlike_75 : decode b_Model_areAlike 75 = .ok (.istore_n 3, 1) := by decide +kernel
theorem d_Model_areAlike_76 : decode b_Model_areAlike 76 = .ok (.iinc 4 1, 3) := by decide +kernel
theorem d_Model_areAlike_79 : decode b_Model_areAlike 79 = .ok (.goto (-55), 3) := by decide +kernel
theorem d_Model_areAlike_82 : decode b_Model_areAlike 82 = .ok (.iload_n 3, 1) := by decide +kernel
theorem d_Model_areAlike_83 : decode b_Model_areAlike 83 = .ok (.ireturn, 1) := by decide +kernel
def tModel_areAlike_b1 (k : Nat → St → Int32 → Int32 → Int32 → Int32 → Option (Int32)) (σ : St) (x1 : Int32) (x2 : Int32) (x3 : Int32) (x4 : Int32) : Option (Int32) := k 2 σ x1 x2 x3 0
def tModel_areAlike_b2 (k : Nat → St → Int32 → Int32 → Int32 → Int32 → Option (Int32)) (σ : St) (x1 : Int32) (x2 : Int32) (x3 : Int32) (x4 : Int32) : Option (Int32) := gd (inB x1 500) (if ((σ.2.2.1 18) x1.toNatClampNeg) ≤ x4 then gd (nZ x3) (some x3) else if x3 = 0 then gd (nZ x3) (some x3) else gd (inB x1 500) (gd (inB (((σ.2.2.1 17) x1.toNatClampNeg) + x4) 480) (gd (inB x2 500) (gd (inB (((σ.2.2.1 17) x2.toNatClampNeg) + x4) 480) (if ((σ.2.2.1 15) (((σ.2.2.1 17) x1.toNatClampNeg) + x4).toNatClampNeg) = ((σ.2.2.1 15) (((σ.2.2.1 17) x2.toNatClampNeg) + x4).toNatClampNeg) then k 3 σ x1 x2 x4 1 else k 3 σ x1 x2 x4 0)))))
def tModel_areAlike_b3 (k : Nat → St → Int32 → Int32 → Int32 → Int32 → Option (Int32)) (σ : St) (x1 : Int32) (x2 : Int32) (x3 : Int32) (x4 : Int32) : Option (Int32) := k 2 σ x1 x2 x4 (x3 + 1)
def tModel_areAlike_L : Nat → Nat → St → Int32 → Int32 → Int32 → Int32 → Option (Int32)
  | 0, _, _, _, _, _, _ => none
  | n + 1, lab, σ, x1, x2, x3, x4 => match lab with
    | 1 => tModel_areAlike_b1 (tModel_areAlike_L n) σ x1 x2 x3 x4
    | 2 => tModel_areAlike_b2 (tModel_areAlike_L n) σ x1 x2 x3 x4
    | 3 => tModel_areAlike_b3 (tModel_areAlike_L n) σ x1 x2 x3 x4
    | _ => none
def tModel_areAlike (σ : St) (a1 : Int32) (a2 : Int32) : Option (Int32) := gd (inB a1 500) (gd (inB a2 500) (if ((σ.2.2.1 18) a1.toNatClampNeg) = ((σ.2.2.1 18) a2.toNatClampNeg) then tModel_areAlike_L 2000 1 σ a1 a2 1 0 else tModel_areAlike_L 2000 1 σ a1 a2 0 0))
set_option maxHeartbeats 4000000 in
set_option maxRecDepth 100000 in
theorem tModel_areAlike_blk {p : Program} {e : Env} {s : State} {m : MethodId} {args : Array Value} {below : List Frame} {meth : Method} {c : Code} {A : Nat → Prop} (l : Launch) (dC : Nat → ClassId) (dI : Nat → Nat → Nat) (ad : Nat → Nat) (cA : Nat → ClassId) {r : Int32} (X : Cx p s m args meth c b_Model_areAlike 5 (some .boolean) "TinyForgeModel" (dC, dI) (ttys cA) ad A) : ∀ n : Nat, (∀ (σ : St) (x1 : Int32) (x2 : Int32) (x3 : Int32) (x4 : Int32) (H : Heap) (locs : List Loc) (ls : Array Slot), tModel_areAlike_L n 1 σ x1 x2 x3 x4 = some r → va_P (dC, dI) vwCl (tcw ad cA σ) H → va_D A (tcw ad cA σ) → va_S A s.heap H locs → lv_has ls 5 [(0, .ref (ad 11)), (1, .int x1), (2, .int x2)] → W p l e { frames := 0, cells := 0, slots := 0, locals := 0 } s m args below meth c H locs 0 0 (MQ below (QI (dC, dI) (ttys cA) (tcw ad cA) A r σ) args s 0 0 A) (F0 m 20 ls [.int x3])) ∧ (∀ (σ : St) (x1 : Int32) (x2 : Int32) (x3 : Int32) (x4 : Int32) (H : Heap) (locs : List Loc) (ls : Array Slot), tModel_areAlike_L n 2 σ x1 x2 x3 x4 = some r → va_P (dC, dI) vwCl (tcw ad cA σ) H → va_D A (tcw ad cA σ) → va_S A s.heap H locs → lv_has ls 5 [(0, .ref (ad 11)), (1, .int x1), (2, .int x2), (3, .int x3), (4, .int x4)] → W p l e { frames := 0, cells := 0, slots := 0, locals := 0 } s m args below meth c H locs 0 0 (MQ below (QI (dC, dI) (ttys cA) (tcw ad cA) A r σ) args s 0 0 A) (F0 m 24 ls [])) ∧ (∀ (σ : St) (x1 : Int32) (x2 : Int32) (x3 : Int32) (x4 : Int32) (H : Heap) (locs : List Loc) (ls : Array Slot), tModel_areAlike_L n 3 σ x1 x2 x3 x4 = some r → va_P (dC, dI) vwCl (tcw ad cA σ) H → va_D A (tcw ad cA σ) → va_S A s.heap H locs → lv_has ls 5 [(0, .ref (ad 11)), (1, .int x1), (2, .int x2), (4, .int x3)] → W p l e { frames := 0, cells := 0, slots := 0, locals := 0 } s m args below meth c H locs 0 0 (MQ below (QI (dC, dI) (ttys cA) (tcw ad cA) A r σ) args s 0 0 A) (F0 m 75 ls [.int x4])) := by
  obtain ⟨hx, hb, hr, hml, hown, hlocks, hts, hA, hK, hZ⟩ := id X
  intro n
  induction n with
  | zero => exact ⟨(fun σ x1 x2 x3 x4 H locs ls hF => by cases hF), (fun σ x1 x2 x3 x4 H locs ls hF => by cases hF), (fun σ x1 x2 x3 x4 H locs ls hF => by cases hF)⟩
  | succ n ihn =>
    refine ⟨fun σ x1 x2 x3 x4 H locs ls hF hP hD hS hl => ?_, fun σ x1 x2 x3 x4 H locs ls hF hP hD hS hl => ?_, fun σ x1 x2 x3 x4 H locs ls hF hP hD hS hl => ?_⟩
    · have hF : tModel_areAlike_b1 (tModel_areAlike_L n) σ x1 x2 x3 x4 = some r := hF
      unfold tModel_areAlike_b1 at hF
      refine lv_istore_n (lv' := [(3, .int x3), (0, .ref (ad 11)), (1, .int x1), (2, .int x2)]) hx hb d_Model_areAlike_20 rfl hl (by decide) rfl (fun ls hl => ?_)
      refine lv_iconst (v := 0) hx hb d_Model_areAlike_21 (by decide) ?_
      refine lv_istore (lv' := [(4, .int 0), (3, .int x3), (0, .ref (ad 11)), (1, .int x1), (2, .int x2)]) hx hb d_Model_areAlike_22 hl (by decide) rfl (fun ls hl => ?_)
      exact ihn.2.1 σ x1 x2 x3 0 H locs ls hF hP hD hS (lv_sub hl [2, 3, 4, 1, 0] rfl)
    · have hF : tModel_areAlike_b2 (tModel_areAlike_L n) σ x1 x2 x3 x4 = some r := hF
      unfold tModel_areAlike_b2 at hF
      refine lv_iload hx hb d_Model_areAlike_24 (lv_at hl 4 rfl) ?_
      refine lv_aload_n hx hb d_Model_areAlike_26 rfl (lv_at hl 0 rfl) ?_
      refine va_get (D := (dC, dI)) (ci := 11) (v := .ref (ad 33)) hx hb hts i_Model hown hK hP 11 rfl rfl 11 (by decide) (hts _ w_ba266638fe) (fun _ h9 => h9) rfl d_Model_areAlike_27 ?_
      refine lv_iload_n hx hb d_Model_areAlike_30 rfl (lv_at hl 1 rfl) ?_
      obtain ⟨g_4, hF⟩ := gdE hF
      refine va_iald (f := (σ.2.2.1 18)) hx hb hK hP 33 0 rfl rfl (inE g_4) d_Model_areAlike_31 ?_
      refine lv_icmp_ge (tgt := 82) hx hb d_Model_areAlike_32 (by decide) (fun c_5 => ?_) (fun c_5 => ?_)
      · have hF := ifp hF c_5
        refine lv_iload_n hx hb d_Model_areAlike_82 rfl (lv_at hl 3 rfl) ?_
        obtain ⟨g_6, hF⟩ := gdE hF
        cases hF
        exact leafZ X hP hD hS (nZN g_6) d_Model_areAlike_83
      · have hF := ifn hF c_5
        refine lv_iload_n hx hb d_Model_areAlike_35 rfl (lv_at hl 3 rfl) ?_
        refine lv_if_eq (tgt := 82) hx hb d_Model_areAlike_36 (by decide) (fun c_7 => ?_) (fun c_7 => ?_)
        · have hF := ifp hF c_7
          refine lv_iload_n hx hb d_Model_areAlike_82 rfl (lv_at hl 3 rfl) ?_
          obtain ⟨g_8, hF⟩ := gdE hF
          cases hF
          exact leafZ X hP hD hS (nZN g_8) d_Model_areAlike_83
        · have hF := ifn hF c_7
          refine lv_aload_n hx hb d_Model_areAlike_39 rfl (lv_at hl 0 rfl) ?_
          refine va_get (D := (dC, dI)) (ci := 11) (v := .ref (ad 30)) hx hb hts i_Model hown hK hP 11 rfl rfl 1 (by decide) (hts _ w_c45f734488) (fun _ h9 => h9) rfl d_Model_areAlike_40 ?_
          refine lv_aload_n hx hb d_Model_areAlike_43 rfl (lv_at hl 0 rfl) ?_
          refine va_get (D := (dC, dI)) (ci := 11) (v := .ref (ad 32)) hx hb hts i_Model hown hK hP 11 rfl rfl 10 (by decide) (hts _ w_58d30b60eb) (fun _ h9 => h9) rfl d_Model_areAlike_44 ?_
          refine lv_iload_n hx hb d_Model_areAlike_47 rfl (lv_at hl 1 rfl) ?_
          obtain ⟨g_9, hF⟩ := gdE hF
          refine va_iald (f := (σ.2.2.1 17)) hx hb hK hP 32 0 rfl rfl (inE g_9) d_Model_areAlike_48 ?_
          refine lv_iload hx hb d_Model_areAlike_49 (lv_at hl 4 rfl) ?_
          refine lv_iadd hx hb d_Model_areAlike_51 ?_
          obtain ⟨g_10, hF⟩ := gdE hF
          refine va_cald (f := (σ.2.2.1 15)) hx hb hK hP 30 2 rfl rfl (inE g_10) d_Model_areAlike_52 ?_
          refine lv_aload_n hx hb d_Model_areAlike_53 rfl (lv_at hl 0 rfl) ?_
          refine va_get (D := (dC, dI)) (ci := 11) (v := .ref (ad 30)) hx hb hts i_Model hown hK hP 11 rfl rfl 1 (by decide) (hts _ w_c45f734488) (fun _ h9 => h9) rfl d_Model_areAlike_54 ?_
          refine lv_aload_n hx hb d_Model_areAlike_57 rfl (lv_at hl 0 rfl) ?_
          refine va_get (D := (dC, dI)) (ci := 11) (v := .ref (ad 32)) hx hb hts i_Model hown hK hP 11 rfl rfl 10 (by decide) (hts _ w_58d30b60eb) (fun _ h9 => h9) rfl d_Model_areAlike_58 ?_
          refine lv_iload_n hx hb d_Model_areAlike_61 rfl (lv_at hl 2 rfl) ?_
          obtain ⟨g_11, hF⟩ := gdE hF
          refine va_iald (f := (σ.2.2.1 17)) hx hb hK hP 32 0 rfl rfl (inE g_11) d_Model_areAlike_62 ?_
          refine lv_iload hx hb d_Model_areAlike_63 (lv_at hl 4 rfl) ?_
          refine lv_iadd hx hb d_Model_areAlike_65 ?_
          obtain ⟨g_12, hF⟩ := gdE hF
          refine va_cald (f := (σ.2.2.1 15)) hx hb hK hP 30 2 rfl rfl (inE g_12) d_Model_areAlike_66 ?_
          refine lv_icmp_ne (tgt := 74) hx hb d_Model_areAlike_67 (by decide) (fun c_13 => ?_) (fun c_13 => ?_)
          · have hF := ifn hF c_13
            refine lv_iconst (v := 0) hx hb d_Model_areAlike_74 (by decide) ?_
            exact ihn.2.2 σ x1 x2 x4 0 H locs ls hF hP hD hS (lv_sub hl [0, 1, 2, 4] rfl)
          · have hF := ifp hF c_13
            refine lv_iconst (v := 1) hx hb d_Model_areAlike_70 (by decide) ?_
            refine lv_goto (tgt := 75) hx hb d_Model_areAlike_71 (by decide) ?_
            exact ihn.2.2 σ x1 x2 x4 1 H locs ls hF hP hD hS (lv_sub hl [0, 1, 2, 4] rfl)
    · have hF : tModel_areAlike_b3 (tModel_areAlike_L n) σ x1 x2 x3 x4 = some r := hF
      unfold tModel_areAlike_b3 at hF
      refine lv_istore_n (lv' := [(3, .int x4), (0, .ref (ad 11)), (1, .int x1), (2, .int x2), (4, .int x3)]) hx hb d_Model_areAlike_75 rfl hl (by decide) rfl (fun ls hl => ?_)
      refine lv_iinc (v := (x3 + 1)) (lv' := [(4, .int (x3 + 1)), (3, .int x4), (0, .ref (ad 11)), (1, .int x1), (2, .int x2)]) hx hb d_Model_areAlike_76 hl (k := 4) rfl rfl (by decide) rfl (fun ls hl => ?_)
      refine lv_goto (tgt := 24) hx hb d_Model_areAlike_79 (by decide) ?_
      exact ihn.2.1 σ x1 x2 x4 (x3 + 1) H locs ls hF hP hD hS (lv_sub hl [2, 3, 4, 1, 0] rfl)
set_option maxHeartbeats 4000000 in
set_option maxRecDepth 100000 in
theorem ct_Model_areAlike (l : Launch) (dC : Nat → ClassId) (dI : Nat → Nat → Nat) (ad : Nat → Nat) (cA : Nat → ClassId) (sz : Nat) {σ : St} {a1 : Int32} {a2 : Int32} {r : Int32} (hF : tModel_areAlike σ a1 a2 = some r) : MI l y_Model_areAlike b_Model_areAlike 5 (some .boolean) { frames := 0, cells := 0, slots := 0, locals := 0 } (dC, dI) (ttys cA) ad (tcw ad cA) [.ref (ad 11), .int a1, .int a2] σ sz r σ := by
  refine startM (own := "TinyForgeModel") (Qc := fun A => QI (dC, dI) (ttys cA) (tcw ad cA) A r σ) rfl rfl (Nat.le_of_ble_eq_true rfl) ?_
  intro p e s m below meth c A H locs ls X hP hD hS hl
  have hl : lv_has ls 5 [(0, .ref (ad 11)), (1, .int a1), (2, .int a2)] := hl
  obtain ⟨hx, hb, hr, hml, hown, hlocks, hts, hA, hK, hZ⟩ := id X
  unfold tModel_areAlike at hF
  refine lv_aload_n hx hb d_Model_areAlike_0 rfl (lv_at hl 0 rfl) ?_
  refine va_get (D := (dC, dI)) (ci := 11) (v := .ref (ad 33)) hx hb hts i_Model hown hK hP 11 rfl rfl 11 (by decide) (hts _ w_ba266638fe) (fun _ h9 => h9) rfl d_Model_areAlike_1 ?_
  refine lv_iload_n hx hb d_Model_areAlike_4 rfl (lv_at hl 1 rfl) ?_
  obtain ⟨g_1, hF⟩ := gdE hF
  refine va_iald (f := (σ.2.2.1 18)) hx hb hK hP 33 0 rfl rfl (inE g_1) d_Model_areAlike_5 ?_
  refine lv_aload_n hx hb d_Model_areAlike_6 rfl (lv_at hl 0 rfl) ?_
  refine va_get (D := (dC, dI)) (ci := 11) (v := .ref (ad 33)) hx hb hts i_Model hown hK hP 11 rfl rfl 11 (by decide) (hts _ w_ba266638fe) (fun _ h9 => h9) rfl d_Model_areAlike_7 ?_
  refine lv_iload_n hx hb d_Model_areAlike_10 rfl (lv_at hl 2 rfl) ?_
  obtain ⟨g_2, hF⟩ := gdE hF
  refine va_iald (f := (σ.2.2.1 18)) hx hb hK hP 33 0 rfl rfl (inE g_2) d_Model_areAlike_11 ?_
  refine lv_icmp_ne (tgt := 19) hx hb d_Model_areAlike_12 (by decide) (fun c_3 => ?_) (fun c_3 => ?_)
  · have hF := ifn hF c_3
    refine lv_iconst (v := 0) hx hb d_Model_areAlike_19 (by decide) ?_
    exact (tModel_areAlike_blk l dC dI ad cA X 2000).1 σ a1 a2 0 0 H locs ls hF hP hD hS (lv_sub hl [0, 1, 2] rfl)
  · have hF := ifp hF c_3
    refine lv_iconst (v := 1) hx hb d_Model_areAlike_15 (by decide) ?_
    refine lv_goto (tgt := 20) hx hb d_Model_areAlike_16 (by decide) ?_
    exact (tModel_areAlike_blk l dC dI ad cA X 2000).1 σ a1 a2 1 0 H locs ls hF hP hD hS (lv_sub hl [0, 1, 2] rfl)
theorem d_Model_global_0 : decode b_Model_global 0 = .ok (.iconst (-1), 1) := by decide +kernel
theorem d_Model_global_1 : decode b_Model_global 1 = .ok (.istore_n 2, 1) := by decide +kernel
theorem d_Model_global_2 : decode b_Model_global 2 = .ok (.aload_n 0, 1) := by decide +kernel
theorem d_Model_global_3 : decode b_Model_global 3 = .ok (.getfield 337, 3) := by decide +kernel
theorem d_Model_global_6 : decode b_Model_global 6 = .ok (.iconst 1, 1) := by decide +kernel
theorem d_Model_global_7 : decode b_Model_global 7 = .ok (.isub, 1) := by decide +kernel
theorem d_Model_global_8 : decode b_Model_global 8 = .ok (.istore_n 3, 1) := by decide +kernel
theorem d_Model_global_9 : decode b_Model_global 9 = .ok (.iload_n 3, 1) := by decide +kernel
theorem d_Model_global_10 : decode b_Model_global 10 = .ok (.ifCond .lt 29, 3) := by decide +kernel
theorem d_Model_global_13 : decode b_Model_global 13 = .ok (.aload_n 0, 1) := by decide +kernel
theorem d_Model_global_14 : decode b_Model_global 14 = .ok (.aload_n 0, 1) := by decide +kernel
theorem d_Model_global_15 : decode b_Model_global 15 = .ok (.getfield 51, 3) := by decide +kernel
theorem d_Model_global_18 : decode b_Model_global 18 = .ok (.iload_n 3, 1) := by decide +kernel
theorem d_Model_global_19 : decode b_Model_global 19 = .ok (.iaload, 1) := by decide +kernel
theorem d_Model_global_20 : decode b_Model_global 20 = .ok (.iload_n 1, 1) := by decide +kernel
theorem d_Model_global_21 : decode b_Model_global 21 = .ok (.invokevirtual 227, 3) := by decide +kernel
theorem d_Model_global_24 : decode b_Model_global 24 = .ok (.ifCond .eq 7, 3) := by decide +kernel
theorem d_Model_global_27 : decode b_Model_global 27 = .ok (.iload_n 3, 1) := by decide +kernel
theorem d_Model_global_28 : decode b_Model_global 28 = .ok (.goto 4, 3) := by decide +kernel
theorem d_Model_global_31 : decode b_Model_global 31 = .ok (.iload_n 2, 1) := by decide +kernel
theorem d_Model_global_32 : decode b_Model_global 32 = .ok (.istore_n 2, 1) := by decide +kernel
theorem d_Model_global_33 : decode b_Model_global 33 = .ok (.iinc 3 (-1), 3) := by decide +kernel
theorem d_Model_global_36 : decode b_Model_global 36 = .ok (.goto (-27), 3) := by decide +kernel
theorem d_Model_global_39 : decode b_Model_global 39 = .ok (.iload_n 2, 1) := by decide +kernel
theorem d_Model_global_40 : decode b_Model_global 40 = .ok (.ireturn, 1) := by decide +kernel
def tModel_global_b1 (k : Nat → St → Int32 → Int32 → Int32 → Option (Int32)) (σ : St) (x1 : Int32) (x2 : Int32) (x3 : Int32) : Option (Int32) := if x3 < 0 then some x2 else gd (inB x3 60) (b1 (tModel_areAlike σ ((σ.2.2.1 27) x3.toNatClampNeg) x1) (fun r3 => if r3 = 0 then k 2 σ x1 x3 x2 else k 2 σ x1 x3 x3))
def tModel_global_b2 (k : Nat → St → Int32 → Int32 → Int32 → Option (Int32)) (σ : St) (x1 : Int32) (x2 : Int32) (x3 : Int32) : Option (Int32) := k 1 σ x1 x3 (x2 + (-1))
def tModel_global_L : Nat → Nat → St → Int32 → Int32 → Int32 → Option (Int32)
  | 0, _, _, _, _, _ => none
  | n + 1, lab, σ, x1, x2, x3 => match lab with
    | 1 => tModel_global_b1 (tModel_global_L n) σ x1 x2 x3
    | 2 => tModel_global_b2 (tModel_global_L n) σ x1 x2 x3
    | _ => none
def tModel_global (σ : St) (a1 : Int32) : Option (Int32) := tModel_global_L 2000 1 σ a1 (-1) ((σ.1 35) - 1)
set_option maxHeartbeats 4000000 in
set_option maxRecDepth 100000 in
theorem tModel_global_blk {p : Program} {e : Env} {s : State} {m : MethodId} {args : Array Value} {below : List Frame} {meth : Method} {c : Code} {A : Nat → Prop} (l : Launch) (dC : Nat → ClassId) (dI : Nat → Nat → Nat) (ad : Nat → Nat) (cA : Nat → ClassId) {r : Int32} (X : Cx p s m args meth c b_Model_global 4 (some .int) "TinyForgeModel" (dC, dI) (ttys cA) ad A) : ∀ n : Nat, (∀ (σ : St) (x1 : Int32) (x2 : Int32) (x3 : Int32) (H : Heap) (locs : List Loc) (ls : Array Slot), tModel_global_L n 1 σ x1 x2 x3 = some r → va_P (dC, dI) vwCl (tcw ad cA σ) H → va_D A (tcw ad cA σ) → va_S A s.heap H locs → lv_has ls 4 [(0, .ref (ad 11)), (1, .int x1), (2, .int x2), (3, .int x3)] → W p l e { frames := 1, cells := 0, slots := 0, locals := 24 } s m args below meth c H locs 0 0 (MQ below (QI (dC, dI) (ttys cA) (tcw ad cA) A r σ) args s 0 0 A) (F0 m 9 ls [])) ∧ (∀ (σ : St) (x1 : Int32) (x2 : Int32) (x3 : Int32) (H : Heap) (locs : List Loc) (ls : Array Slot), tModel_global_L n 2 σ x1 x2 x3 = some r → va_P (dC, dI) vwCl (tcw ad cA σ) H → va_D A (tcw ad cA σ) → va_S A s.heap H locs → lv_has ls 4 [(0, .ref (ad 11)), (1, .int x1), (3, .int x2)] → W p l e { frames := 1, cells := 0, slots := 0, locals := 24 } s m args below meth c H locs 0 0 (MQ below (QI (dC, dI) (ttys cA) (tcw ad cA) A r σ) args s 0 0 A) (F0 m 32 ls [.int x3])) := by
  obtain ⟨hx, hb, hr, hml, hown, hlocks, hts, hA, hK, hZ⟩ := id X
  intro n
  induction n with
  | zero => exact ⟨(fun σ x1 x2 x3 H locs ls hF => by cases hF), (fun σ x1 x2 x3 H locs ls hF => by cases hF)⟩
  | succ n ihn =>
    refine ⟨fun σ x1 x2 x3 H locs ls hF hP hD hS hl => ?_, fun σ x1 x2 x3 H locs ls hF hP hD hS hl => ?_⟩
    · have hF : tModel_global_b1 (tModel_global_L n) σ x1 x2 x3 = some r := hF
      unfold tModel_global_b1 at hF
      refine lv_iload_n hx hb d_Model_global_9 rfl (lv_at hl 3 rfl) ?_
      refine lv_if_lt (tgt := 39) hx hb d_Model_global_10 (by decide) (fun c_1 => ?_) (fun c_1 => ?_)
      · have hF := ifp hF c_1
        refine lv_iload_n hx hb d_Model_global_39 rfl (lv_at hl 2 rfl) ?_
        cases hF
        exact leafI X hP hD hS d_Model_global_40
      · have hF := ifn hF c_1
        refine lv_aload_n hx hb d_Model_global_13 rfl (lv_at hl 0 rfl) ?_
        refine lv_aload_n hx hb d_Model_global_14 rfl (lv_at hl 0 rfl) ?_
        refine va_get (D := (dC, dI)) (ci := 11) (v := .ref (ad 42)) hx hb hts i_Model hown hK hP 11 rfl rfl 24 (by decide) (hts _ w_47dac5b7a5) (fun _ h9 => h9) rfl d_Model_global_15 ?_
        refine lv_iload_n hx hb d_Model_global_18 rfl (lv_at hl 3 rfl) ?_
        obtain ⟨g_2, hF⟩ := gdE hF
        refine va_iald (f := (σ.2.2.1 27)) hx hb hK hP 42 0 rfl rfl (inE g_2) d_Model_global_19 ?_
        refine lv_iload_n hx hb d_Model_global_20 rfl (lv_at hl 1 rfl) ?_
        obtain ⟨r3, h3, hF⟩ := b1E hF
        refine callVI (As := [.int ((σ.2.2.1 27) x3.toNatClampNeg), .int x1]) X (ct_Model_areAlike l dC dI ad cA H.size h3) lk_Model_227 ⟨rfl, rfl, by decide, by decide⟩ 11 rfl rfl hP hD hS hl.1 rfl rfl (Nat.le_of_ble_eq_true rfl) d_Model_global_21 (fun H locs hP hD hS => ?_)
        refine lv_if_eq (tgt := 31) hx hb d_Model_global_24 (by decide) (fun c_4 => ?_) (fun c_4 => ?_)
        · have hF := ifp hF c_4
          refine lv_iload_n hx hb d_Model_global_31 rfl (lv_at hl 2 rfl) ?_
          exact ihn.2 σ x1 x3 x2 H locs ls hF hP hD hS (lv_sub hl [0, 1, 3] rfl)
        · have hF := ifn hF c_4
          refine lv_iload_n hx hb d_Model_global_27 rfl (lv_at hl 3 rfl) ?_
          refine lv_goto (tgt := 32) hx hb d_Model_global_28 (by decide) ?_
          exact ihn.2 σ x1 x3 x3 H locs ls hF hP hD hS (lv_sub hl [0, 1, 3] rfl)
    · have hF : tModel_global_b2 (tModel_global_L n) σ x1 x2 x3 = some r := hF
      unfold tModel_global_b2 at hF
      refine lv_istore_n (lv' := [(2, .int x3), (0, .ref (ad 11)), (1, .int x1), (3, .int x2)]) hx hb d_Model_global_32 rfl hl (by decide) rfl (fun ls hl => ?_)
      refine lv_iinc (v := (x2 + (-1))) (lv' := [(3, .int (x2 + (-1))), (2, .int x3), (0, .ref (ad 11)), (1, .int x1)]) hx hb d_Model_global_33 hl (k := 3) rfl rfl (by decide) rfl (fun ls hl => ?_)
      refine lv_goto (tgt := 9) hx hb d_Model_global_36 (by decide) ?_
      exact ihn.1 σ x1 x3 (x2 + (-1)) H locs ls hF hP hD hS (lv_sub hl [2, 3, 1, 0] rfl)
set_option maxHeartbeats 4000000 in
set_option maxRecDepth 100000 in
theorem ct_Model_global (l : Launch) (dC : Nat → ClassId) (dI : Nat → Nat → Nat) (ad : Nat → Nat) (cA : Nat → ClassId) (sz : Nat) {σ : St} {a1 : Int32} {r : Int32} (hF : tModel_global σ a1 = some r) : MI l y_Model_global b_Model_global 4 (some .int) { frames := 1, cells := 0, slots := 0, locals := 24 } (dC, dI) (ttys cA) ad (tcw ad cA) [.ref (ad 11), .int a1] σ sz r σ := by
  refine startM (own := "TinyForgeModel") (Qc := fun A => QI (dC, dI) (ttys cA) (tcw ad cA) A r σ) rfl rfl (Nat.le_of_ble_eq_true rfl) ?_
  intro p e s m below meth c A H locs ls X hP hD hS hl
  have hl : lv_has ls 4 [(0, .ref (ad 11)), (1, .int a1)] := hl
  obtain ⟨hx, hb, hr, hml, hown, hlocks, hts, hA, hK, hZ⟩ := id X
  unfold tModel_global at hF
  refine lv_iconst (v := (-1)) hx hb d_Model_global_0 (by decide) ?_
  refine lv_istore_n (lv' := [(2, .int (-1)), (0, .ref (ad 11)), (1, .int a1)]) hx hb d_Model_global_1 rfl hl (by decide) rfl (fun ls hl => ?_)
  refine lv_aload_n hx hb d_Model_global_2 rfl (lv_at hl 1 rfl) ?_
  refine va_get (D := (dC, dI)) (ci := 11) (v := .int (σ.1 35)) hx hb hts i_Model hown hK hP 11 rfl rfl 21 (by decide) (hts _ w_c69217944e) (fun _ h9 => h9) rfl d_Model_global_3 ?_
  refine lv_iconst (v := 1) hx hb d_Model_global_6 (by decide) ?_
  refine lv_isub hx hb d_Model_global_7 ?_
  refine lv_istore_n (lv' := [(3, .int ((σ.1 35) - 1)), (2, .int (-1)), (0, .ref (ad 11)), (1, .int a1)]) hx hb d_Model_global_8 rfl hl (by decide) rfl (fun ls hl => ?_)
  exact (tModel_global_blk l dC dI ad cA X 2000).1 σ a1 (-1) ((σ.1 35) - 1) H locs ls hF hP hD hS (lv_sub hl [2, 3, 1, 0] rfl)
theorem d_Model_notName_0 : decode b_Model_notName 0 = .ok (.aload_n 0, 1) := by decide +kernel
theorem d_Model_notName_1 : decode b_Model_notName 1 = .ok (.aload_n 0, 1) := by decide +kernel
theorem d_Model_notName_2 : decode b_Model_notName 2 = .ok (.getfield 200, 3) := by decide +kernel
theorem d_Model_notName_5 : decode b_Model_notName 5 = .ok (.ifCond .lt 11, 3) := by decide +kernel
theorem d_Model_notName_8 : decode b_Model_notName 8 = .ok (.iload_n 1, 1) := by decide +kernel
theorem d_Model_notName_9 : decode b_Model_notName 9 = .ok (.aload_n 0, 1) := by decide +kernel
theorem d_Model_notName_10 : decode b_Model_notName 10 = .ok (.getfield 200, 3) := by decide +kernel
theorem d_Model_notName_13 : decode b_Model_notName 13 = .ok (.if_icmp .ge 7, 3) := by decide +kernel
theorem d_Model_notName_16 : decode b_Model_notName 16 = .ok (.iload_n 1, 1) := by decide +kernel
theorem d_Model_notName_17 : decode b_Model_notName 17 = .ok (.goto 7, 3) := by decide +kernel
theorem d_Model_notName_20 : decode b_Model_notName 20 = .ok (.aload_n 0, 1) := by decide +kernel
theorem d_Model_notName_21 : decode b_Model_notName 21 = .ok (.getfield 200, 3) := by decide +kernel
theorem d_Model_notName_24 : decode b_Model_notName 24 = .ok (.putfield 200, 3) := by decide +kernel
theorem d_Model_notName_27 : decode b_Model_notName 27 = .ok (.return_, 1) := by decide +kernel
def tModel_notName (σ : St) (a1 : Int32) : Option (St) := if (σ.1 33) < 0 then some (sI σ 33 a1) else if (σ.1 33) ≤ a1 then some (sI σ 33 (σ.1 33)) else some (sI σ 33 a1)
set_option maxHeartbeats 4000000 in
set_option maxRecDepth 100000 in
theorem ct_Model_notName (l : Launch) (dC : Nat → ClassId) (dI : Nat → Nat → Nat) (ad : Nat → Nat) (cA : Nat → ClassId) (sz : Nat) {σ : St} {a1 : Int32} {σ' : St} (hF : tModel_notName σ a1 = some σ') : MV l y_Model_notName b_Model_notName 2 none { frames := 0, cells := 0, slots := 0, locals := 0 } (dC, dI) (ttys cA) ad (tcw ad cA) [.ref (ad 11), .int a1] σ sz σ' := by
  refine startM (own := "TinyForgeModel") (Qc := fun A => QV (dC, dI) (ttys cA) (tcw ad cA) A σ') rfl rfl (Nat.le_of_ble_eq_true rfl) ?_
  intro p e s m below meth c A H locs ls X hP hD hS hl
  have hl : lv_has ls 2 [(0, .ref (ad 11)), (1, .int a1)] := hl
  obtain ⟨hx, hb, hr, hml, hown, hlocks, hts, hA, hK, hZ⟩ := id X
  unfold tModel_notName at hF
  refine lv_aload_n hx hb d_Model_notName_0 rfl (lv_at hl 0 rfl) ?_
  refine lv_aload_n hx hb d_Model_notName_1 rfl (lv_at hl 0 rfl) ?_
  refine va_get (D := (dC, dI)) (ci := 11) (v := .int (σ.1 33)) hx hb hts i_Model hown hK hP 11 rfl rfl 8 (by decide) (hts _ w_fdc2dc2fd6) (fun _ h9 => h9) rfl d_Model_notName_2 ?_
  refine lv_if_lt (tgt := 16) hx hb d_Model_notName_5 (by decide) (fun c_1 => ?_) (fun c_1 => ?_)
  · have hF := ifp hF c_1
    refine lv_iload_n hx hb d_Model_notName_16 rfl (lv_at hl 1 rfl) ?_
    refine lv_goto (tgt := 24) hx hb d_Model_notName_17 (by decide) ?_
    refine va_put (D := (dC, dI)) (ci := 11) (v := .int a1) (ty := .int) hx hb hts i_Model t_Model t_Model_ok n_Model hown hK hP hD hS 11 rfl rfl 8 (by decide) (hts _ w_fdc2dc2fd6) (fun _ h9 => h9) rfl (by decide +kernel) rfl rfl (Nat.le_of_ble_eq_true rfl) d_Model_notName_24 (fun H locs hP hD hS => ?_)
    have hP : va_P (dC, dI) vwCl (tcw ad cA (sI σ 33 a1)) H := hP
    have hD : va_D A (tcw ad cA (sI σ 33 a1)) := hD
    cases hF
    exact leafV X hP hD hS d_Model_notName_27
  · have hF := ifn hF c_1
    refine lv_iload_n hx hb d_Model_notName_8 rfl (lv_at hl 1 rfl) ?_
    refine lv_aload_n hx hb d_Model_notName_9 rfl (lv_at hl 0 rfl) ?_
    refine va_get (D := (dC, dI)) (ci := 11) (v := .int (σ.1 33)) hx hb hts i_Model hown hK hP 11 rfl rfl 8 (by decide) (hts _ w_fdc2dc2fd6) (fun _ h9 => h9) rfl d_Model_notName_10 ?_
    refine lv_icmp_ge (tgt := 20) hx hb d_Model_notName_13 (by decide) (fun c_2 => ?_) (fun c_2 => ?_)
    · have hF := ifp hF c_2
      refine lv_aload_n hx hb d_Model_notName_20 rfl (lv_at hl 0 rfl) ?_
      refine va_get (D := (dC, dI)) (ci := 11) (v := .int (σ.1 33)) hx hb hts i_Model hown hK hP 11 rfl rfl 8 (by decide) (hts _ w_fdc2dc2fd6) (fun _ h9 => h9) rfl d_Model_notName_21 ?_
      refine va_put (D := (dC, dI)) (ci := 11) (v := .int (σ.1 33)) (ty := .int) hx hb hts i_Model t_Model t_Model_ok n_Model hown hK hP hD hS 11 rfl rfl 8 (by decide) (hts _ w_fdc2dc2fd6) (fun _ h9 => h9) rfl (by decide +kernel) rfl rfl (Nat.le_of_ble_eq_true rfl) d_Model_notName_24 (fun H locs hP hD hS => ?_)
      have hP : va_P (dC, dI) vwCl (tcw ad cA (sI σ 33 (σ.1 33))) H := hP
      have hD : va_D A (tcw ad cA (sI σ 33 (σ.1 33))) := hD
      cases hF
      exact leafV X hP hD hS d_Model_notName_27
    · have hF := ifn hF c_2
      refine lv_iload_n hx hb d_Model_notName_16 rfl (lv_at hl 1 rfl) ?_
      refine lv_goto (tgt := 24) hx hb d_Model_notName_17 (by decide) ?_
      refine va_put (D := (dC, dI)) (ci := 11) (v := .int a1) (ty := .int) hx hb hts i_Model t_Model t_Model_ok n_Model hown hK hP hD hS 11 rfl rfl 8 (by decide) (hts _ w_fdc2dc2fd6) (fun _ h9 => h9) rfl (by decide +kernel) rfl rfl (Nat.le_of_ble_eq_true rfl) d_Model_notName_24 (fun H locs hP hD hS => ?_)
      have hP : va_P (dC, dI) vwCl (tcw ad cA (sI σ 33 a1)) H := hP
      have hD : va_D A (tcw ad cA (sI σ 33 a1)) := hD
      cases hF
      exact leafV X hP hD hS d_Model_notName_27
theorem d_Model_makeGlobal_0 : decode b_Model_makeGlobal 0 = .ok (.aload_n 0, 1) := by decide +kernel
theorem d_Model_makeGlobal_1 : decode b_Model_makeGlobal 1 = .ok (.iload_n 1, 1) := by decide +kernel
theorem d_Model_makeGlobal_2 : decode b_Model_makeGlobal 2 = .ok (.invokevirtual 340, 3) := by decide +kernel
theorem d_Model_makeGlobal_5 : decode b_Model_makeGlobal 5 = .ok (.ifCond .ge 27, 3) := by decide +kernel
theorem d_Model_makeGlobal_8 : decode b_Model_makeGlobal 8 = .ok (.iload_n 2, 1) := by decide +kernel
theorem d_Model_makeGlobal_9 : decode b_Model_makeGlobal 9 = .ok (.ifCond .eq 15, 3) := by decide +kernel
theorem d_Model_makeGlobal_12 : decode b_Model_makeGlobal 12 = .ok (.aload_n 0, 1) := by decide +kernel
theorem d_Model_makeGlobal_13 : decode b_Model_makeGlobal 13 = .ok (.getfield 343, 3) := by decide +kernel
theorem d_Model_makeGlobal_16 : decode b_Model_makeGlobal 16 = .ok (.bipush 8, 2) := by decide +kernel
theorem d_Model_makeGlobal_18 : decode b_Model_makeGlobal 18 = .ok (.if_icmp .ne 18, 3) := by decide +kernel
theorem d_Model_makeGlobal_21 : decode b_Model_makeGlobal 21 = .ok (.goto 11, 3) := by decide +kernel
theorem d_Model_makeGlobal_24 : decode b_Model_makeGlobal 24 = .ok (.aload_n 0, 1) := by decide +kernel
theorem d_Model_makeGlobal_25 : decode b_Model_makeGlobal 25 = .ok (.getfield 346, 3) := by decide +kernel
theorem d_Model_makeGlobal_28 : decode b_Model_makeGlobal 28 = .ok (.iconst 4, 1) := by decide +kernel
theorem d_Model_makeGlobal_29 : decode b_Model_makeGlobal 29 = .ok (.if_icmp .ne 7, 3) := by decide +kernel
theorem d_Model_makeGlobal_32 : decode b_Model_makeGlobal 32 = .ok (.iconst 1, 1) := by decide +kernel
theorem d_Model_makeGlobal_33 : decode b_Model_makeGlobal 33 = .ok (.goto 4, 3) := by decide +kernel
theorem d_Model_makeGlobal_36 : decode b_Model_makeGlobal 36 = .ok (.iconst 0, 1) := by decide +kernel
theorem d_Model_makeGlobal_37 : decode b_Model_makeGlobal 37 = .ok (.istore 4, 2) := by decide +kernel
theorem d_Model_makeGlobal_39 : decode b_Model_makeGlobal 39 = .ok (.iload 4, 2) := by decide +kernel
theorem d_Model_makeGlobal_41 : decode b_Model_makeGlobal 41 = .ok (.ifCond .eq 8, 3) := by decide +kernel
theorem d_Model_makeGlobal_44 : decode b_Model_makeGlobal 44 = .ok (.aload_n 0, 1) := by decide +kernel
theorem d_Model_makeGlobal_45 : decode b_Model_makeGlobal 45 = .ok (.iload_n 1, 1) := by decide +kernel
theorem d_Model_makeGlobal_46 : decode b_Model_makeGlobal 46 = .ok (.invokevirtual 249, 3) := by decide +kernel
theorem d_Model_makeGlobal_49 : decode b_Model_makeGlobal 49 = .ok (.iload 4, 2) := by decide +kernel
theorem d_Model_makeGlobal_51 : decode b_Model_makeGlobal 51 = .ok (.ifCond .eq 8, 3) := by decide +kernel
theorem d_Model_makeGlobal_54 : decode b_Model_makeGlobal 54 = .ok (.bipush 59, 2) := by decide +kernel
theorem d_Model_makeGlobal_56 : decode b_Model_makeGlobal 56 = .ok (.goto 7, 3) := by decide +kernel
theorem d_Model_makeGlobal_59 : decode b_Model_makeGlobal 59 = .ok (.aload_n 0, 1) := by decide +kernel
theorem d_Model_makeGlobal_60 : decode b_Model_makeGlobal 60 = .ok (.getfield 337, 3) := by decide +kernel
theorem d_Model_makeGlobal_63 : decode b_Model_makeGlobal 63 = .ok (.istore 5, 2) := by decide +kernel
theorem d_Model_makeGlobal_65 : decode b_Model_makeGlobal 65 = .ok (.aload_n 0, 1) := by decide +kernel
theorem d_Model_makeGlobal_66 : decode b_Model_makeGlobal 66 = .ok (.getfield 51, 3) := by decide +kernel
theorem d_Model_makeGlobal_69 : decode b_Model_makeGlobal 69 = .ok (.iload 5, 2) := by decide +kernel
theorem d_Model_makeGlobal_71 : decode b_Model_makeGlobal 71 = .ok (.iload_n 1, 1) := by decide +kernel
theorem d_Model_makeGlobal_72 : decode b_Model_makeGlobal 72 = .ok (.iastore, 1) := by decide +kernel
theorem d_Model_makeGlobal_73 : decode b_Model_makeGlobal 73 = .ok (.aload_n 0, 1) := by decide +kernel
theorem d_Model_makeGlobal_74 : decode b_Model_makeGlobal 74 = .ok (.getfield 54, 3) := by decide +kernel
theorem d_Model_makeGlobal_77 : decode b_Model_makeGlobal 77 = .ok (.iload 5, 2) := by decide +kernel
theorem d_Model_makeGlobal_79 : decode b_Model_makeGlobal 79 = .ok (.iload_n 2, 1) := by decide +kernel
theorem d_Model_makeGlobal_80 : decode b_Model_makeGlobal 80 = .ok (.bastore, 1) := by decide +kernel
theorem d_Model_makeGlobal_81 : decode b_Model_makeGlobal 81 = .ok (.aload_n 0, 1) := by decide +kernel
theorem d_Model_makeGlobal_82 : decode b_Model_makeGlobal 82 = .ok (.getfield 58, 3) := by decide +kernel
theorem d_Model_makeGlobal_85 : decode b_Model_makeGlobal 85 = .ok (.iload 5, 2) := by decide +kernel
theorem d_Model_makeGlobal_87 : decode b_Model_makeGlobal 87 = .ok (.iload_n 3, 1) := by decide +kernel
theorem d_Model_makeGlobal_88 : decode b_Model_makeGlobal 88 = .ok (.iastore, 1) := by decide +kernel
theorem d_Model_makeGlobal_89 : decode b_Model_makeGlobal 89 = .ok (.aload_n 0, 1) := by decide +kernel
theorem d_Model_makeGlobal_90 : decode b_Model_makeGlobal 90 = .ok (.getfield 61, 3) := by decide +kernel
theorem d_Model_makeGlobal_93 : decode b_Model_makeGlobal 93 = .ok (.iload 5, 2) := by decide +kernel
theorem d_Model_makeGlobal_95 : decode b_Model_makeGlobal 95 = .ok (.bipush 16, 2) := by decide +kernel
theorem d_Model_makeGlobal_97 : decode b_Model_makeGlobal 97 = .ok (.aload_n 0, 1) := by decide +kernel
theorem d_Model_makeGlobal_98 : decode b_Model_makeGlobal 98 = .ok (.getfield 346, 3) := by decide +kernel
theorem d_Model_makeGlobal_101 : decode b_Model_makeGlobal 101 = .ok (.imul, 1) := by decide +kernel
theorem d_Model_makeGlobal_102 : decode b_Model_makeGlobal 102 = .ok (.iastore, 1) := by decide +kernel
theorem d_Model_makeGlobal_103 : decode b_Model_makeGlobal 103 = .ok (.aload_n 0, 1) := by decide +kernel
theorem d_Model_makeGlobal_104 : decode b_Model_makeGlobal 104 = .ok (.dup, 1) := by decide +kernel
theorem d_Model_makeGlobal_105 : decode b_Model_makeGlobal 105 = .ok (.getfield 337, 3) := by decide +kernel
theorem d_Model_makeGlobal_108 : decode b_Model_makeGlobal 108 = .ok (.iload 4, 2) := by decide +kernel
theorem d_Model_makeGlobal_110 : decode b_Model_makeGlobal 110 = .ok (.ifCond .eq 7, 3) := by decide +kernel
theorem d_Model_makeGlobal_113 : decode b_Model_makeGlobal 113 = .ok (.iconst 0, 1) := by decide +kernel
theorem d_Model_makeGlobal_114 : decode b_Model_makeGlobal 114 = .ok (.goto 4, 3) := by decide +kernel
theorem d_Model_makeGlobal_117 : decode b_Model_makeGlobal 117 = .ok (.iconst 1, 1) := by decide +kernel
theorem d_Model_makeGlobal_118 : decode b_Model_makeGlobal 118 = .ok (.iadd, 1) := by decide +kernel
theorem d_Model_makeGlobal_119 : decode b_Model_makeGlobal 119 = .ok (.putfield 337, 3) := by decide +kernel
theorem d_Model_makeGlobal_122 : decode b_Model_makeGlobal 122 = .ok (.aload_n 0, 1) := by decide +kernel
theorem d_Model_makeGlobal_123 : decode b_Model_makeGlobal 123 = .ok (.dup, 1) := by decide +kernel
theorem d_Model_makeGlobal_124 : decode b_Model_makeGlobal 124 = .ok (.getfield 343, 3) := by decide +kernel
theorem d_Model_makeGlobal_127 : decode b_Model_makeGlobal 127 = .ok (.iload_n 2, 1) := by decide +kernel
theorem d_Model_makeGlobal_128 : decode b_Model_makeGlobal 128 = .ok (.ifCond .eq 12, 3) := by decide +kernel
theorem d_Model_makeGlobal_131 : decode b_Model_makeGlobal 131 = .ok (.iload 4, 2) := by decide +kernel
theorem d_Model_makeGlobal_133 : decode b_Model_makeGlobal 133 = .ok (.ifCond .ne 7, 3) := by decide +kernel
theorem d_Model_makeGlobal_136 : decode b_Model_makeGlobal 136 = .ok (.iconst 1, 1) := by decide +kernel
theorem d_Model_makeGlobal_137 : decode b_Model_makeGlobal 137 = .ok (.goto 4, 3) := by decide +kernel
theorem d_Model_makeGlobal_140 : decode b_Model_makeGlobal 140 = .ok (.iconst 0, 1) := by decide +kernel
theorem d_Model_makeGlobal_141 : decode b_Model_makeGlobal 141 = .ok (.iadd, 1) := by decide +kernel
theorem d_Model_makeGlobal_142 : decode b_Model_makeGlobal 142 = .ok (.putfield 343, 3) := by decide +kernel
theorem d_Model_makeGlobal_145 : decode b_Model_makeGlobal 145 = .ok (.aload_n 0, 1) := by decide +kernel
theorem d_Model_makeGlobal_146 : decode b_Model_makeGlobal 146 = .ok (.dup, 1) := by decide +kernel
theorem d_Model_makeGlobal_147 : decode b_Model_makeGlobal 147 = .ok (.getfield 346, 3) := by decide +kernel
theorem d_Model_makeGlobal_150 : decode b_Model_makeGlobal 150 = .ok (.iload_n 2, 1) := by decide +kernel
theorem d_Model_makeGlobal_151 : decode b_Model_makeGlobal 151 = .ok (.ifCond .ne 8, 3) := by decide +kernel
theorem d_Model_makeGlobal_154 : decode b_Model_makeGlobal 154 = .ok (.iload 4, 2) := by decide +kernel
theorem d_Model_makeGlobal_156 : decode b_Model_makeGlobal 156 = .ok (.ifCond .eq 7, 3) := by decide +kernel
theorem d_Model_makeGlobal_159 : decode b_Model_makeGlobal 159 = .ok (.iconst 0, 1) := by decide +kernel
theorem d_Model_makeGlobal_160 : decode b_Model_makeGlobal 160 = .ok (.goto 4, 3) := by decide +kernel
theorem d_Model_makeGlobal_163 : decode b_Model_makeGlobal 163 = .ok (.iconst 1, 1) := by decide +kernel
theorem d_Model_makeGlobal_164 : decode b_Model_makeGlobal 164 = .ok (.iadd, 1) := by decide +kernel
theorem d_Model_makeGlobal_165 : decode b_Model_makeGlobal 165 = .ok (.putfield 346, 3) := by decide +kernel
theorem d_Model_makeGlobal_168 : decode b_Model_makeGlobal 168 = .ok (.iload 5, 2) := by decide +kernel
theorem d_Model_makeGlobal_170 : decode b_Model_makeGlobal 170 = .ok (.ireturn, 1) := by decide +kernel
def tModel_makeGlobal_b1 (k : Nat → St → Int32 → Int32 → Int32 → Int32 → Int32 → Option (Int32 × St)) (σ : St) (x1 : Int32) (x2 : Int32) (x3 : Int32) (x4 : Int32) (x5 : Int32) : Option (Int32 × St) := k 3 σ x1 x2 x3 1 0
def tModel_makeGlobal_b2 (k : Nat → St → Int32 → Int32 → Int32 → Int32 → Int32 → Option (Int32 × St)) (σ : St) (x1 : Int32) (x2 : Int32) (x3 : Int32) (x4 : Int32) (x5 : Int32) : Option (Int32 × St) := k 3 σ x1 x2 x3 0 0
def tModel_makeGlobal_b3 (k : Nat → St → Int32 → Int32 → Int32 → Int32 → Int32 → Option (Int32 × St)) (σ : St) (x1 : Int32) (x2 : Int32) (x3 : Int32) (x4 : Int32) (x5 : Int32) : Option (Int32 × St) := if x4 = 0 then k 4 σ x1 x2 x3 x4 0 else b1 (tModel_notName σ x1) (fun u7 => k 4 u7 x1 x2 x3 x4 0)
def tModel_makeGlobal_b4 (k : Nat → St → Int32 → Int32 → Int32 → Int32 → Int32 → Option (Int32 × St)) (σ : St) (x1 : Int32) (x2 : Int32) (x3 : Int32) (x4 : Int32) (x5 : Int32) : Option (Int32 × St) := if x4 = 0 then k 5 σ x1 x2 x3 x4 (σ.1 35) else k 5 σ x1 x2 x3 x4 59
def tModel_makeGlobal_b5 (k : Nat → St → Int32 → Int32 → Int32 → Int32 → Int32 → Option (Int32 × St)) (σ : St) (x1 : Int32) (x2 : Int32) (x3 : Int32) (x4 : Int32) (x5 : Int32) : Option (Int32 × St) := gd (inB x5 60) (gd (inB x5 60) (gd (inB x5 60) (gd (inB x5 60) (if x4 = 0 then k 6 (sA (sA (sA (sA σ 27 (upd (σ.2.2.1 27) x5.toNatClampNeg x1)) 28 (upd (σ.2.2.1 28) x5.toNatClampNeg (vp_nar .boolean x2))) 29 (upd (σ.2.2.1 29) x5.toNatClampNeg x3)) 30 (upd (σ.2.2.1 30) x5.toNatClampNeg (16 * (σ.1 37)))) x2 x4 x5 1 (σ.1 35) else k 6 (sA (sA (sA (sA σ 27 (upd (σ.2.2.1 27) x5.toNatClampNeg x1)) 28 (upd (σ.2.2.1 28) x5.toNatClampNeg (vp_nar .boolean x2))) 29 (upd (σ.2.2.1 29) x5.toNatClampNeg x3)) 30 (upd (σ.2.2.1 30) x5.toNatClampNeg (16 * (σ.1 37)))) x2 x4 x5 0 (σ.1 35)))))
def tModel_makeGlobal_b6 (k : Nat → St → Int32 → Int32 → Int32 → Int32 → Int32 → Option (Int32 × St)) (σ : St) (x1 : Int32) (x2 : Int32) (x3 : Int32) (x4 : Int32) (x5 : Int32) : Option (Int32 × St) := if x1 = 0 then k 7 (sI σ 35 (x5 + x4)) x1 x2 x3 (σ.1 36) 0 else if x2 = 0 then k 8 (sI σ 35 (x5 + x4)) x1 x2 x3 1 (σ.1 36) else k 7 (sI σ 35 (x5 + x4)) x1 x2 x3 (σ.1 36) 0
def tModel_makeGlobal_b7 (k : Nat → St → Int32 → Int32 → Int32 → Int32 → Int32 → Option (Int32 × St)) (σ : St) (x1 : Int32) (x2 : Int32) (x3 : Int32) (x4 : Int32) (x5 : Int32) : Option (Int32 × St) := k 8 σ x1 x2 x3 0 x4
def tModel_makeGlobal_b8 (k : Nat → St → Int32 → Int32 → Int32 → Int32 → Int32 → Option (Int32 × St)) (σ : St) (x1 : Int32) (x2 : Int32) (x3 : Int32) (x4 : Int32) (x5 : Int32) : Option (Int32 × St) := if x1 = 0 then if x2 = 0 then some (x3, (sI (sI σ 36 (x5 + x4)) 37 ((σ.1 37) + 1))) else some (x3, (sI (sI σ 36 (x5 + x4)) 37 ((σ.1 37) + 0))) else some (x3, (sI (sI σ 36 (x5 + x4)) 37 ((σ.1 37) + 0)))
def tModel_makeGlobal_L : Nat → Nat → St → Int32 → Int32 → Int32 → Int32 → Int32 → Option (Int32 × St)
  | 0, _, _, _, _, _, _, _ => none
  | n + 1, lab, σ, x1, x2, x3, x4, x5 => match lab with
    | 1 => tModel_makeGlobal_b1 (tModel_makeGlobal_L n) σ x1 x2 x3 x4 x5
    | 2 => tModel_makeGlobal_b2 (tModel_makeGlobal_L n) σ x1 x2 x3 x4 x5
    | 3 => tModel_makeGlobal_b3 (tModel_makeGlobal_L n) σ x1 x2 x3 x4 x5
    | 4 => tModel_makeGlobal_b4 (tModel_makeGlobal_L n) σ x1 x2 x3 x4 x5
    | 5 => tModel_makeGlobal_b5 (tModel_makeGlobal_L n) σ x1 x2 x3 x4 x5
    | 6 => tModel_makeGlobal_b6 (tModel_makeGlobal_L n) σ x1 x2 x3 x4 x5
    | 7 => tModel_makeGlobal_b7 (tModel_makeGlobal_L n) σ x1 x2 x3 x4 x5
    | 8 => tModel_makeGlobal_b8 (tModel_makeGlobal_L n) σ x1 x2 x3 x4 x5
    | _ => none
def tModel_makeGlobal (σ : St) (a1 : Int32) (a2 : Int32) (a3 : Int32) : Option (Int32 × St) := b1 (tModel_global σ a1) (fun r1 => if (0 : Int32) ≤ r1 then tModel_makeGlobal_L 2000 1 σ a1 a2 a3 0 0 else if a2 = 0 then if (σ.1 37) = 4 then tModel_makeGlobal_L 2000 1 σ a1 a2 a3 0 0 else tModel_makeGlobal_L 2000 2 σ a1 a2 a3 0 0 else if (σ.1 36) = 8 then tModel_makeGlobal_L 2000 1 σ a1 a2 a3 0 0 else tModel_makeGlobal_L 2000 2 σ a1 a2 a3 0 0)
set_option maxHeartbeats 4000000 in
set_option maxRecDepth 100000 in
theorem tModel_makeGlobal_blk {p : Program} {e : Env} {s : State} {m : MethodId} {args : Array Value} {below : List Frame} {meth : Method} {c : Code} {A : Nat → Prop} (l : Launch) (dC : Nat → ClassId) (dI : Nat → Nat → Nat) (ad : Nat → Nat) (cA : Nat → ClassId) {r : Int32} {σ' : St} (X : Cx p s m args meth c b_Model_makeGlobal 6 (some .int) "TinyForgeModel" (dC, dI) (ttys cA) ad A) : ∀ n : Nat, (∀ (σ : St) (x1 : Int32) (x2 : Int32) (x3 : Int32) (x4 : Int32) (x5 : Int32) (H : Heap) (locs : List Loc) (ls : Array Slot), tModel_makeGlobal_L n 1 σ x1 x2 x3 x4 x5 = some (r, σ') → va_P (dC, dI) vwCl (tcw ad cA σ) H → va_D A (tcw ad cA σ) → va_S A s.heap H locs → lv_has ls 6 [(0, .ref (ad 11)), (1, .int x1), (2, .int x2), (3, .int x3)] → W p l e { frames := 2, cells := 0, slots := 0, locals := 47 } s m args below meth c H locs 0 0 (MQ below (QI (dC, dI) (ttys cA) (tcw ad cA) A r σ') args s 0 0 A) (F0 m 32 ls [])) ∧ (∀ (σ : St) (x1 : Int32) (x2 : Int32) (x3 : Int32) (x4 : Int32) (x5 : Int32) (H : Heap) (locs : List Loc) (ls : Array Slot), tModel_makeGlobal_L n 2 σ x1 x2 x3 x4 x5 = some (r, σ') → va_P (dC, dI) vwCl (tcw ad cA σ) H → va_D A (tcw ad cA σ) → va_S A s.heap H locs → lv_has ls 6 [(0, .ref (ad 11)), (1, .int x1), (2, .int x2), (3, .int x3)] → W p l e { frames := 2, cells := 0, slots := 0, locals := 47 } s m args below meth c H locs 0 0 (MQ below (QI (dC, dI) (ttys cA) (tcw ad cA) A r σ') args s 0 0 A) (F0 m 36 ls [])) ∧ (∀ (σ : St) (x1 : Int32) (x2 : Int32) (x3 : Int32) (x4 : Int32) (x5 : Int32) (H : Heap) (locs : List Loc) (ls : Array Slot), tModel_makeGlobal_L n 3 σ x1 x2 x3 x4 x5 = some (r, σ') → va_P (dC, dI) vwCl (tcw ad cA σ) H → va_D A (tcw ad cA σ) → va_S A s.heap H locs → lv_has ls 6 [(0, .ref (ad 11)), (1, .int x1), (2, .int x2), (3, .int x3)] → W p l e { frames := 2, cells := 0, slots := 0, locals := 47 } s m args below meth c H locs 0 0 (MQ below (QI (dC, dI) (ttys cA) (tcw ad cA) A r σ') args s 0 0 A) (F0 m 37 ls [.int x4])) ∧ (∀ (σ : St) (x1 : Int32) (x2 : Int32) (x3 : Int32) (x4 : Int32) (x5 : Int32) (H : Heap) (locs : List Loc) (ls : Array Slot), tModel_makeGlobal_L n 4 σ x1 x2 x3 x4 x5 = some (r, σ') → va_P (dC, dI) vwCl (tcw ad cA σ) H → va_D A (tcw ad cA σ) → va_S A s.heap H locs → lv_has ls 6 [(0, .ref (ad 11)), (1, .int x1), (2, .int x2), (3, .int x3), (4, .int x4)] → W p l e { frames := 2, cells := 0, slots := 0, locals := 47 } s m args below meth c H locs 0 0 (MQ below (QI (dC, dI) (ttys cA) (tcw ad cA) A r σ') args s 0 0 A) (F0 m 49 ls [])) ∧ (∀ (σ : St) (x1 : Int32) (x2 : Int32) (x3 : Int32) (x4 : Int32) (x5 : Int32) (H : Heap) (locs : List Loc) (ls : Array Slot), tModel_makeGlobal_L n 5 σ x1 x2 x3 x4 x5 = some (r, σ') → va_P (dC, dI) vwCl (tcw ad cA σ) H → va_D A (tcw ad cA σ) → va_S A s.heap H locs → lv_has ls 6 [(0, .ref (ad 11)), (1, .int x1), (2, .int x2), (3, .int x3), (4, .int x4)] → W p l e { frames := 2, cells := 0, slots := 0, locals := 47 } s m args below meth c H locs 0 0 (MQ below (QI (dC, dI) (ttys cA) (tcw ad cA) A r σ') args s 0 0 A) (F0 m 63 ls [.int x5])) ∧ (∀ (σ : St) (x1 : Int32) (x2 : Int32) (x3 : Int32) (x4 : Int32) (x5 : Int32) (H : Heap) (locs : List Loc) (ls : Array Slot), tModel_makeGlobal_L n 6 σ x1 x2 x3 x4 x5 = some (r, σ') → va_P (dC, dI) vwCl (tcw ad cA σ) H → va_D A (tcw ad cA σ) → va_S A s.heap H locs → lv_has ls 6 [(0, .ref (ad 11)), (2, .int x1), (4, .int x2), (5, .int x3)] → W p l e { frames := 2, cells := 0, slots := 0, locals := 47 } s m args below meth c H locs 0 0 (MQ below (QI (dC, dI) (ttys cA) (tcw ad cA) A r σ') args s 0 0 A) (F0 m 118 ls [.int x4, .int x5, .ref (ad 11)])) ∧ (∀ (σ : St) (x1 : Int32) (x2 : Int32) (x3 : Int32) (x4 : Int32) (x5 : Int32) (H : Heap) (locs : List Loc) (ls : Array Slot), tModel_makeGlobal_L n 7 σ x1 x2 x3 x4 x5 = some (r, σ') → va_P (dC, dI) vwCl (tcw ad cA σ) H → va_D A (tcw ad cA σ) → va_S A s.heap H locs → lv_has ls 6 [(0, .ref (ad 11)), (2, .int x1), (4, .int x2), (5, .int x3)] → W p l e { frames := 2, cells := 0, slots := 0, locals := 47 } s m args below meth c H locs 0 0 (MQ below (QI (dC, dI) (ttys cA) (tcw ad cA) A r σ') args s 0 0 A) (F0 m 140 ls [.int x4, .ref (ad 11)])) ∧ (∀ (σ : St) (x1 : Int32) (x2 : Int32) (x3 : Int32) (x4 : Int32) (x5 : Int32) (H : Heap) (locs : List Loc) (ls : Array Slot), tModel_makeGlobal_L n 8 σ x1 x2 x3 x4 x5 = some (r, σ') → va_P (dC, dI) vwCl (tcw ad cA σ) H → va_D A (tcw ad cA σ) → va_S A s.heap H locs → lv_has ls 6 [(0, .ref (ad 11)), (2, .int x1), (4, .int x2), (5, .int x3)] → W p l e { frames := 2, cells := 0, slots := 0, locals := 47 } s m args below meth c H locs 0 0 (MQ below (QI (dC, dI) (ttys cA) (tcw ad cA) A r σ') args s 0 0 A) (F0 m 141 ls [.int x4, .int x5, .ref (ad 11)])) := by
  obtain ⟨hx, hb, hr, hml, hown, hlocks, hts, hA, hK, hZ⟩ := id X
  intro n
  induction n with
  | zero => exact ⟨(fun σ x1 x2 x3 x4 x5 H locs ls hF => by cases hF), (fun σ x1 x2 x3 x4 x5 H locs ls hF => by cases hF), (fun σ x1 x2 x3 x4 x5 H locs ls hF => by cases hF), (fun σ x1 x2 x3 x4 x5 H locs ls hF => by cases hF), (fun σ x1 x2 x3 x4 x5 H locs ls hF => by cases hF), (fun σ x1 x2 x3 x4 x5 H locs ls hF => by cases hF), (fun σ x1 x2 x3 x4 x5 H locs ls hF => by cases hF), (fun σ x1 x2 x3 x4 x5 H locs ls hF => by cases hF)⟩
  | succ n ihn =>
    refine ⟨fun σ x1 x2 x3 x4 x5 H locs ls hF hP hD hS hl => ?_, fun σ x1 x2 x3 x4 x5 H locs ls hF hP hD hS hl => ?_, fun σ x1 x2 x3 x4 x5 H locs ls hF hP hD hS hl => ?_, fun σ x1 x2 x3 x4 x5 H locs ls hF hP hD hS hl => ?_, fun σ x1 x2 x3 x4 x5 H locs ls hF hP hD hS hl => ?_, fun σ x1 x2 x3 x4 x5 H locs ls hF hP hD hS hl => ?_, fun σ x1 x2 x3 x4 x5 H locs ls hF hP hD hS hl => ?_, fun σ x1 x2 x3 x4 x5 H locs ls hF hP hD hS hl => ?_⟩
    · have hF : tModel_makeGlobal_b1 (tModel_makeGlobal_L n) σ x1 x2 x3 x4 x5 = some (r, σ') := hF
      unfold tModel_makeGlobal_b1 at hF
      refine lv_iconst (v := 1) hx hb d_Model_makeGlobal_32 (by decide) ?_
      refine lv_goto (tgt := 37) hx hb d_Model_makeGlobal_33 (by decide) ?_
      exact ihn.2.2.1 σ x1 x2 x3 1 0 H locs ls hF hP hD hS (lv_sub hl [0, 1, 2, 3] rfl)
    · have hF : tModel_makeGlobal_b2 (tModel_makeGlobal_L n) σ x1 x2 x3 x4 x5 = some (r, σ') := hF
      unfold tModel_makeGlobal_b2 at hF
      refine lv_iconst (v := 0) hx hb d_Model_makeGlobal_36 (by decide) ?_
      exact ihn.2.2.1 σ x1 x2 x3 0 0 H locs ls hF hP hD hS (lv_sub hl [0, 1, 2, 3] rfl)
    · have hF : tModel_makeGlobal_b3 (tModel_makeGlobal_L n) σ x1 x2 x3 x4 x5 = some (r, σ') := hF
      unfold tModel_makeGlobal_b3 at hF
      refine lv_istore (lv' := [(4, .int x4), (0, .ref (ad 11)), (1, .int x1), (2, .int x2), (3, .int x3)]) hx hb d_Model_makeGlobal_37 hl (by decide) rfl (fun ls hl => ?_)
      refine lv_iload hx hb d_Model_makeGlobal_39 (lv_at hl 0 rfl) ?_
      refine lv_if_eq (tgt := 49) hx hb d_Model_makeGlobal_41 (by decide) (fun c_6 => ?_) (fun c_6 => ?_)
      · have hF := ifp hF c_6
        exact ihn.2.2.2.1 σ x1 x2 x3 x4 0 H locs ls hF hP hD hS (lv_sub hl [1, 2, 3, 4, 0] rfl)
      · have hF := ifn hF c_6
        refine lv_aload_n hx hb d_Model_makeGlobal_44 rfl (lv_at hl 1 rfl) ?_
        refine lv_iload_n hx hb d_Model_makeGlobal_45 rfl (lv_at hl 2 rfl) ?_
        obtain ⟨u7, h7, hF⟩ := b1E hF
        refine callVV (As := [.int x1]) X (ct_Model_notName l dC dI ad cA H.size h7) lk_Model_249 ⟨rfl, rfl, by decide, by decide⟩ 11 rfl rfl hP hD hS hl.1 rfl rfl (Nat.le_of_ble_eq_true rfl) d_Model_makeGlobal_46 (fun H locs hP hD hS => ?_)
        exact ihn.2.2.2.1 u7 x1 x2 x3 x4 0 H locs ls hF hP hD hS (lv_sub hl [1, 2, 3, 4, 0] rfl)
    · have hF : tModel_makeGlobal_b4 (tModel_makeGlobal_L n) σ x1 x2 x3 x4 x5 = some (r, σ') := hF
      unfold tModel_makeGlobal_b4 at hF
      refine lv_iload hx hb d_Model_makeGlobal_49 (lv_at hl 4 rfl) ?_
      refine lv_if_eq (tgt := 59) hx hb d_Model_makeGlobal_51 (by decide) (fun c_8 => ?_) (fun c_8 => ?_)
      · have hF := ifp hF c_8
        refine lv_aload_n hx hb d_Model_makeGlobal_59 rfl (lv_at hl 0 rfl) ?_
        refine va_get (D := (dC, dI)) (ci := 11) (v := .int (σ.1 35)) hx hb hts i_Model hown hK hP 11 rfl rfl 21 (by decide) (hts _ w_c69217944e) (fun _ h9 => h9) rfl d_Model_makeGlobal_60 ?_
        exact ihn.2.2.2.2.1 σ x1 x2 x3 x4 (σ.1 35) H locs ls hF hP hD hS (lv_sub hl [0, 1, 2, 3, 4] rfl)
      · have hF := ifn hF c_8
        refine lv_bipush (v := 59) hx hb d_Model_makeGlobal_54 (by decide) ?_
        refine lv_goto (tgt := 63) hx hb d_Model_makeGlobal_56 (by decide) ?_
        exact ihn.2.2.2.2.1 σ x1 x2 x3 x4 59 H locs ls hF hP hD hS (lv_sub hl [0, 1, 2, 3, 4] rfl)
    · have hF : tModel_makeGlobal_b5 (tModel_makeGlobal_L n) σ x1 x2 x3 x4 x5 = some (r, σ') := hF
      unfold tModel_makeGlobal_b5 at hF
      refine lv_istore (lv' := [(5, .int x5), (0, .ref (ad 11)), (1, .int x1), (2, .int x2), (3, .int x3), (4, .int x4)]) hx hb d_Model_makeGlobal_63 hl (by decide) rfl (fun ls hl => ?_)
      refine lv_aload_n hx hb d_Model_makeGlobal_65 rfl (lv_at hl 1 rfl) ?_
      refine va_get (D := (dC, dI)) (ci := 11) (v := .ref (ad 42)) hx hb hts i_Model hown hK hP 11 rfl rfl 24 (by decide) (hts _ w_47dac5b7a5) (fun _ h9 => h9) rfl d_Model_makeGlobal_66 ?_
      refine lv_iload hx hb d_Model_makeGlobal_69 (lv_at hl 0 rfl) ?_
      refine lv_iload_n hx hb d_Model_makeGlobal_71 rfl (lv_at hl 2 rfl) ?_
      obtain ⟨g_9, hF⟩ := gdE hF
      refine va_iast (f := (σ.2.2.1 27)) hx hb hK hP hD hS 42 0 rfl rfl (inE g_9) d_Model_makeGlobal_72 (fun H locs hP hD hS => ?_)
      have hP : va_P (dC, dI) vwCl (tcw ad cA (sA σ 27 (upd (σ.2.2.1 27) x5.toNatClampNeg x1))) H := hP
      have hD : va_D A (tcw ad cA (sA σ 27 (upd (σ.2.2.1 27) x5.toNatClampNeg x1))) := hD
      refine lv_aload_n hx hb d_Model_makeGlobal_73 rfl (lv_at hl 1 rfl) ?_
      refine va_get (D := (dC, dI)) (ci := 11) (v := .ref (ad 43)) hx hb hts i_Model hown hK hP 11 rfl rfl 25 (by decide) (hts _ w_1c464885ec) (fun _ h9 => h9) rfl d_Model_makeGlobal_74 ?_
      refine lv_iload hx hb d_Model_makeGlobal_77 (lv_at hl 0 rfl) ?_
      refine lv_iload_n hx hb d_Model_makeGlobal_79 rfl (lv_at hl 3 rfl) ?_
      obtain ⟨g_10, hF⟩ := gdE hF
      refine va_zast (f := (σ.2.2.1 28)) hx hb hK hP hD hS 43 3 rfl rfl (inE g_10) d_Model_makeGlobal_80 (fun H locs hP hD hS => ?_)
      have hP : va_P (dC, dI) vwCl (tcw ad cA (sA (sA σ 27 (upd (σ.2.2.1 27) x5.toNatClampNeg x1)) 28 (upd (σ.2.2.1 28) x5.toNatClampNeg (vp_nar .boolean x2)))) H := hP
      have hD : va_D A (tcw ad cA (sA (sA σ 27 (upd (σ.2.2.1 27) x5.toNatClampNeg x1)) 28 (upd (σ.2.2.1 28) x5.toNatClampNeg (vp_nar .boolean x2)))) := hD
      refine lv_aload_n hx hb d_Model_makeGlobal_81 rfl (lv_at hl 1 rfl) ?_
      refine va_get (D := (dC, dI)) (ci := 11) (v := .ref (ad 44)) hx hb hts i_Model hown hK hP 11 rfl rfl 26 (by decide) (hts _ w_3f8fbd1572) (fun _ h9 => h9) rfl d_Model_makeGlobal_82 ?_
      refine lv_iload hx hb d_Model_makeGlobal_85 (lv_at hl 0 rfl) ?_
      refine lv_iload_n hx hb d_Model_makeGlobal_87 rfl (lv_at hl 4 rfl) ?_
      obtain ⟨g_11, hF⟩ := gdE hF
      refine va_iast (f := (σ.2.2.1 29)) hx hb hK hP hD hS 44 0 rfl rfl (inE g_11) d_Model_makeGlobal_88 (fun H locs hP hD hS => ?_)
      have hP : va_P (dC, dI) vwCl (tcw ad cA (sA (sA (sA σ 27 (upd (σ.2.2.1 27) x5.toNatClampNeg x1)) 28 (upd (σ.2.2.1 28) x5.toNatClampNeg (vp_nar .boolean x2))) 29 (upd (σ.2.2.1 29) x5.toNatClampNeg x3))) H := hP
      have hD : va_D A (tcw ad cA (sA (sA (sA σ 27 (upd (σ.2.2.1 27) x5.toNatClampNeg x1)) 28 (upd (σ.2.2.1 28) x5.toNatClampNeg (vp_nar .boolean x2))) 29 (upd (σ.2.2.1 29) x5.toNatClampNeg x3))) := hD
      refine lv_aload_n hx hb d_Model_makeGlobal_89 rfl (lv_at hl 1 rfl) ?_
      refine va_get (D := (dC, dI)) (ci := 11) (v := .ref (ad 45)) hx hb hts i_Model hown hK hP 11 rfl rfl 27 (by decide) (hts _ w_04aab809f2) (fun _ h9 => h9) rfl d_Model_makeGlobal_90 ?_
      refine lv_iload hx hb d_Model_makeGlobal_93 (lv_at hl 0 rfl) ?_
      refine lv_bipush (v := 16) hx hb d_Model_makeGlobal_95 (by decide) ?_
      refine lv_aload_n hx hb d_Model_makeGlobal_97 rfl (lv_at hl 1 rfl) ?_
      refine va_get (D := (dC, dI)) (ci := 11) (v := .int (σ.1 37)) hx hb hts i_Model hown hK hP 11 rfl rfl 23 (by decide) (hts _ w_239be05fce) (fun _ h9 => h9) rfl d_Model_makeGlobal_98 ?_
      refine lv_imul hx hb d_Model_makeGlobal_101 ?_
      obtain ⟨g_12, hF⟩ := gdE hF
      refine va_iast (f := (σ.2.2.1 30)) hx hb hK hP hD hS 45 0 rfl rfl (inE g_12) d_Model_makeGlobal_102 (fun H locs hP hD hS => ?_)
      have hP : va_P (dC, dI) vwCl (tcw ad cA (sA (sA (sA (sA σ 27 (upd (σ.2.2.1 27) x5.toNatClampNeg x1)) 28 (upd (σ.2.2.1 28) x5.toNatClampNeg (vp_nar .boolean x2))) 29 (upd (σ.2.2.1 29) x5.toNatClampNeg x3)) 30 (upd (σ.2.2.1 30) x5.toNatClampNeg (16 * (σ.1 37))))) H := hP
      have hD : va_D A (tcw ad cA (sA (sA (sA (sA σ 27 (upd (σ.2.2.1 27) x5.toNatClampNeg x1)) 28 (upd (σ.2.2.1 28) x5.toNatClampNeg (vp_nar .boolean x2))) 29 (upd (σ.2.2.1 29) x5.toNatClampNeg x3)) 30 (upd (σ.2.2.1 30) x5.toNatClampNeg (16 * (σ.1 37))))) := hD
      refine lv_aload_n hx hb d_Model_makeGlobal_103 rfl (lv_at hl 1 rfl) ?_
      refine lv_dup hx hb d_Model_makeGlobal_104 rfl ?_
      refine va_get (D := (dC, dI)) (ci := 11) (v := .int (σ.1 35)) hx hb hts i_Model hown hK hP 11 rfl rfl 21 (by decide) (hts _ w_c69217944e) (fun _ h9 => h9) rfl d_Model_makeGlobal_105 ?_
      refine lv_iload hx hb d_Model_makeGlobal_108 (lv_at hl 5 rfl) ?_
      refine lv_if_eq (tgt := 117) hx hb d_Model_makeGlobal_110 (by decide) (fun c_13 => ?_) (fun c_13 => ?_)
      · have hF := ifp hF c_13
        refine lv_iconst (v := 1) hx hb d_Model_makeGlobal_117 (by decide) ?_
        exact ihn.2.2.2.2.2.1 (sA (sA (sA (sA σ 27 (upd (σ.2.2.1 27) x5.toNatClampNeg x1)) 28 (upd (σ.2.2.1 28) x5.toNatClampNeg (vp_nar .boolean x2))) 29 (upd (σ.2.2.1 29) x5.toNatClampNeg x3)) 30 (upd (σ.2.2.1 30) x5.toNatClampNeg (16 * (σ.1 37)))) x2 x4 x5 1 (σ.1 35) H locs ls hF hP hD hS (lv_sub hl [1, 3, 5, 0] rfl)
      · have hF := ifn hF c_13
        refine lv_iconst (v := 0) hx hb d_Model_makeGlobal_113 (by decide) ?_
        refine lv_goto (tgt := 118) hx hb d_Model_makeGlobal_114 (by decide) ?_
        exact ihn.2.2.2.2.2.1 (sA (sA (sA (sA σ 27 (upd (σ.2.2.1 27) x5.toNatClampNeg x1)) 28 (upd (σ.2.2.1 28) x5.toNatClampNeg (vp_nar .boolean x2))) 29 (upd (σ.2.2.1 29) x5.toNatClampNeg x3)) 30 (upd (σ.2.2.1 30) x5.toNatClampNeg (16 * (σ.1 37)))) x2 x4 x5 0 (σ.1 35) H locs ls hF hP hD hS (lv_sub hl [1, 3, 5, 0] rfl)
    · have hF : tModel_makeGlobal_b6 (tModel_makeGlobal_L n) σ x1 x2 x3 x4 x5 = some (r, σ') := hF
      unfold tModel_makeGlobal_b6 at hF
      refine lv_iadd hx hb d_Model_makeGlobal_118 ?_
      refine va_put (D := (dC, dI)) (ci := 11) (v := .int (x5 + x4)) (ty := .int) hx hb hts i_Model t_Model t_Model_ok n_Model hown hK hP hD hS 11 rfl rfl 21 (by decide) (hts _ w_c69217944e) (fun _ h9 => h9) rfl (by decide +kernel) rfl rfl (Nat.le_of_ble_eq_true rfl) d_Model_makeGlobal_119 (fun H locs hP hD hS => ?_)
      have hP : va_P (dC, dI) vwCl (tcw ad cA (sI σ 35 (x5 + x4))) H := hP
      have hD : va_D A (tcw ad cA (sI σ 35 (x5 + x4))) := hD
      refine lv_aload_n hx hb d_Model_makeGlobal_122 rfl (lv_at hl 0 rfl) ?_
      refine lv_dup hx hb d_Model_makeGlobal_123 rfl ?_
      refine va_get (D := (dC, dI)) (ci := 11) (v := .int (σ.1 36)) hx hb hts i_Model hown hK hP 11 rfl rfl 22 (by decide) (hts _ w_615e3d612a) (fun _ h9 => h9) rfl d_Model_makeGlobal_124 ?_
      refine lv_iload_n hx hb d_Model_makeGlobal_127 rfl (lv_at hl 1 rfl) ?_
      refine lv_if_eq (tgt := 140) hx hb d_Model_makeGlobal_128 (by decide) (fun c_14 => ?_) (fun c_14 => ?_)
      · have hF := ifp hF c_14
        exact ihn.2.2.2.2.2.2.1 (sI σ 35 (x5 + x4)) x1 x2 x3 (σ.1 36) 0 H locs ls hF hP hD hS (lv_sub hl [0, 1, 2, 3] rfl)
      · have hF := ifn hF c_14
        refine lv_iload hx hb d_Model_makeGlobal_131 (lv_at hl 2 rfl) ?_
        refine lv_if_ne (tgt := 140) hx hb d_Model_makeGlobal_133 (by decide) (fun c_15 => ?_) (fun c_15 => ?_)
        · have hF := ifn hF c_15
          exact ihn.2.2.2.2.2.2.1 (sI σ 35 (x5 + x4)) x1 x2 x3 (σ.1 36) 0 H locs ls hF hP hD hS (lv_sub hl [0, 1, 2, 3] rfl)
        · have hF := ifp hF c_15
          refine lv_iconst (v := 1) hx hb d_Model_makeGlobal_136 (by decide) ?_
          refine lv_goto (tgt := 141) hx hb d_Model_makeGlobal_137 (by decide) ?_
          exact ihn.2.2.2.2.2.2.2 (sI σ 35 (x5 + x4)) x1 x2 x3 1 (σ.1 36) H locs ls hF hP hD hS (lv_sub hl [0, 1, 2, 3] rfl)
    · have hF : tModel_makeGlobal_b7 (tModel_makeGlobal_L n) σ x1 x2 x3 x4 x5 = some (r, σ') := hF
      unfold tModel_makeGlobal_b7 at hF
      refine lv_iconst (v := 0) hx hb d_Model_makeGlobal_140 (by decide) ?_
      exact ihn.2.2.2.2.2.2.2 σ x1 x2 x3 0 x4 H locs ls hF hP hD hS (lv_sub hl [0, 1, 2, 3] rfl)
    · have hF : tModel_makeGlobal_b8 (tModel_makeGlobal_L n) σ x1 x2 x3 x4 x5 = some (r, σ') := hF
      unfold tModel_makeGlobal_b8 at hF
      refine lv_iadd hx hb d_Model_makeGlobal_141 ?_
      refine va_put (D := (dC, dI)) (ci := 11) (v := .int (x5 + x4)) (ty := .int) hx hb hts i_Model t_Model t_Model_ok n_Model hown hK hP hD hS 11 rfl rfl 22 (by decide) (hts _ w_615e3d612a) (fun _ h9 => h9) rfl (by decide +kernel) rfl rfl (Nat.le_of_ble_eq_true rfl) d_Model_makeGlobal_142 (fun H locs hP hD hS => ?_)
      have hP : va_P (dC, dI) vwCl (tcw ad cA (sI σ 36 (x5 + x4))) H := hP
      have hD : va_D A (tcw ad cA (sI σ 36 (x5 + x4))) := hD
      refine lv_aload_n hx hb d_Model_makeGlobal_145 rfl (lv_at hl 0 rfl) ?_
      refine lv_dup hx hb d_Model_makeGlobal_146 rfl ?_
      refine va_get (D := (dC, dI)) (ci := 11) (v := .int (σ.1 37)) hx hb hts i_Model hown hK hP 11 rfl rfl 23 (by decide) (hts _ w_239be05fce) (fun _ h9 => h9) rfl d_Model_makeGlobal_147 ?_
      refine lv_iload_n hx hb d_Model_makeGlobal_150 rfl (lv_at hl 1 rfl) ?_
      refine lv_if_ne (tgt := 159) hx hb d_Model_makeGlobal_151 (by decide) (fun c_16 => ?_) (fun c_16 => ?_)
      · have hF := ifn hF c_16
        refine lv_iconst (v := 0) hx hb d_Model_makeGlobal_159 (by decide) ?_
        refine lv_goto (tgt := 164) hx hb d_Model_makeGlobal_160 (by decide) ?_
        refine lv_iadd hx hb d_Model_makeGlobal_164 ?_
        refine va_put (D := (dC, dI)) (ci := 11) (v := .int ((σ.1 37) + 0)) (ty := .int) hx hb hts i_Model t_Model t_Model_ok n_Model hown hK hP hD hS 11 rfl rfl 23 (by decide) (hts _ w_239be05fce) (fun _ h9 => h9) rfl (by decide +kernel) rfl rfl (Nat.le_of_ble_eq_true rfl) d_Model_makeGlobal_165 (fun H locs hP hD hS => ?_)
        have hP : va_P (dC, dI) vwCl (tcw ad cA (sI (sI σ 36 (x5 + x4)) 37 ((σ.1 37) + 0))) H := hP
        have hD : va_D A (tcw ad cA (sI (sI σ 36 (x5 + x4)) 37 ((σ.1 37) + 0))) := hD
        refine lv_iload hx hb d_Model_makeGlobal_168 (lv_at hl 3 rfl) ?_
        cases hF
        exact leafI X hP hD hS d_Model_makeGlobal_170
      · have hF := ifp hF c_16
        refine lv_iload hx hb d_Model_makeGlobal_154 (lv_at hl 2 rfl) ?_
        refine lv_if_eq (tgt := 163) hx hb d_Model_makeGlobal_156 (by decide) (fun c_17 => ?_) (fun c_17 => ?_)
        · have hF := ifp hF c_17
          refine lv_iconst (v := 1) hx hb d_Model_makeGlobal_163 (by decide) ?_
          refine lv_iadd hx hb d_Model_makeGlobal_164 ?_
          refine va_put (D := (dC, dI)) (ci := 11) (v := .int ((σ.1 37) + 1)) (ty := .int) hx hb hts i_Model t_Model t_Model_ok n_Model hown hK hP hD hS 11 rfl rfl 23 (by decide) (hts _ w_239be05fce) (fun _ h9 => h9) rfl (by decide +kernel) rfl rfl (Nat.le_of_ble_eq_true rfl) d_Model_makeGlobal_165 (fun H locs hP hD hS => ?_)
          have hP : va_P (dC, dI) vwCl (tcw ad cA (sI (sI σ 36 (x5 + x4)) 37 ((σ.1 37) + 1))) H := hP
          have hD : va_D A (tcw ad cA (sI (sI σ 36 (x5 + x4)) 37 ((σ.1 37) + 1))) := hD
          refine lv_iload hx hb d_Model_makeGlobal_168 (lv_at hl 3 rfl) ?_
          cases hF
          exact leafI X hP hD hS d_Model_makeGlobal_170
        · have hF := ifn hF c_17
          refine lv_iconst (v := 0) hx hb d_Model_makeGlobal_159 (by decide) ?_
          refine lv_goto (tgt := 164) hx hb d_Model_makeGlobal_160 (by decide) ?_
          refine lv_iadd hx hb d_Model_makeGlobal_164 ?_
          refine va_put (D := (dC, dI)) (ci := 11) (v := .int ((σ.1 37) + 0)) (ty := .int) hx hb hts i_Model t_Model t_Model_ok n_Model hown hK hP hD hS 11 rfl rfl 23 (by decide) (hts _ w_239be05fce) (fun _ h9 => h9) rfl (by decide +kernel) rfl rfl (Nat.le_of_ble_eq_true rfl) d_Model_makeGlobal_165 (fun H locs hP hD hS => ?_)
          have hP : va_P (dC, dI) vwCl (tcw ad cA (sI (sI σ 36 (x5 + x4)) 37 ((σ.1 37) + 0))) H := hP
          have hD : va_D A (tcw ad cA (sI (sI σ 36 (x5 + x4)) 37 ((σ.1 37) + 0))) := hD
          refine lv_iload hx hb d_Model_makeGlobal_168 (lv_at hl 3 rfl) ?_
          cases hF
          exact leafI X hP hD hS d_Model_makeGlobal_170
set_option maxHeartbeats 4000000 in
set_option maxRecDepth 100000 in
theorem ct_Model_makeGlobal (l : Launch) (dC : Nat → ClassId) (dI : Nat → Nat → Nat) (ad : Nat → Nat) (cA : Nat → ClassId) (sz : Nat) {σ : St} {a1 : Int32} {a2 : Int32} {a3 : Int32} {r : Int32} {σ' : St} (hF : tModel_makeGlobal σ a1 a2 a3 = some (r, σ')) : MI l y_Model_makeGlobal b_Model_makeGlobal 6 (some .int) { frames := 2, cells := 0, slots := 0, locals := 47 } (dC, dI) (ttys cA) ad (tcw ad cA) [.ref (ad 11), .int a1, .int a2, .int a3] σ sz r σ' := by
  refine startM (own := "TinyForgeModel") (Qc := fun A => QI (dC, dI) (ttys cA) (tcw ad cA) A r σ') rfl rfl (Nat.le_of_ble_eq_true rfl) ?_
  intro p e s m below meth c A H locs ls X hP hD hS hl
  have hl : lv_has ls 6 [(0, .ref (ad 11)), (1, .int a1), (2, .int a2), (3, .int a3)] := hl
  obtain ⟨hx, hb, hr, hml, hown, hlocks, hts, hA, hK, hZ⟩ := id X
  unfold tModel_makeGlobal at hF
  refine lv_aload_n hx hb d_Model_makeGlobal_0 rfl (lv_at hl 0 rfl) ?_
  refine lv_iload_n hx hb d_Model_makeGlobal_1 rfl (lv_at hl 1 rfl) ?_
  obtain ⟨r1, h1, hF⟩ := b1E hF
  refine callVI (As := [.int a1]) X (ct_Model_global l dC dI ad cA H.size h1) lk_Model_340 ⟨rfl, rfl, by decide, by decide⟩ 11 rfl rfl hP hD hS hl.1 rfl rfl (Nat.le_of_ble_eq_true rfl) d_Model_makeGlobal_2 (fun H locs hP hD hS => ?_)
  refine lv_if_ge (tgt := 32) hx hb d_Model_makeGlobal_5 (by decide) (fun c_2 => ?_) (fun c_2 => ?_)
  · have hF := ifp hF c_2
    exact (tModel_makeGlobal_blk l dC dI ad cA X 2000).1 σ a1 a2 a3 0 0 H locs ls hF hP hD hS (lv_sub hl [0, 1, 2, 3] rfl)
  · have hF := ifn hF c_2
    refine lv_iload_n hx hb d_Model_makeGlobal_8 rfl (lv_at hl 2 rfl) ?_
    refine lv_if_eq (tgt := 24) hx hb d_Model_makeGlobal_9 (by decide) (fun c_3 => ?_) (fun c_3 => ?_)
    · have hF := ifp hF c_3
      refine lv_aload_n hx hb d_Model_makeGlobal_24 rfl (lv_at hl 0 rfl) ?_
      refine va_get (D := (dC, dI)) (ci := 11) (v := .int (σ.1 37)) hx hb hts i_Model hown hK hP 11 rfl rfl 23 (by decide) (hts _ w_239be05fce) (fun _ h9 => h9) rfl d_Model_makeGlobal_25 ?_
      refine lv_iconst (v := 4) hx hb d_Model_makeGlobal_28 (by decide) ?_
      refine lv_icmp_ne (tgt := 36) hx hb d_Model_makeGlobal_29 (by decide) (fun c_4 => ?_) (fun c_4 => ?_)
      · have hF := ifn hF c_4
        exact (tModel_makeGlobal_blk l dC dI ad cA X 2000).2.1 σ a1 a2 a3 0 0 H locs ls hF hP hD hS (lv_sub hl [0, 1, 2, 3] rfl)
      · have hF := ifp hF c_4
        exact (tModel_makeGlobal_blk l dC dI ad cA X 2000).1 σ a1 a2 a3 0 0 H locs ls hF hP hD hS (lv_sub hl [0, 1, 2, 3] rfl)
    · have hF := ifn hF c_3
      refine lv_aload_n hx hb d_Model_makeGlobal_12 rfl (lv_at hl 0 rfl) ?_
      refine va_get (D := (dC, dI)) (ci := 11) (v := .int (σ.1 36)) hx hb hts i_Model hown hK hP 11 rfl rfl 22 (by decide) (hts _ w_615e3d612a) (fun _ h9 => h9) rfl d_Model_makeGlobal_13 ?_
      refine lv_bipush (v := 8) hx hb d_Model_makeGlobal_16 (by decide) ?_
      refine lv_icmp_ne (tgt := 36) hx hb d_Model_makeGlobal_18 (by decide) (fun c_5 => ?_) (fun c_5 => ?_)
      · have hF := ifn hF c_5
        exact (tModel_makeGlobal_blk l dC dI ad cA X 2000).2.1 σ a1 a2 a3 0 0 H locs ls hF hP hD hS (lv_sub hl [0, 1, 2, 3] rfl)
      · have hF := ifp hF c_5
        refine lv_goto (tgt := 32) hx hb d_Model_makeGlobal_21 (by decide) ?_
        exact (tModel_makeGlobal_blk l dC dI ad cA X 2000).1 σ a1 a2 a3 0 0 H locs ls hF hP hD hS (lv_sub hl [0, 1, 2, 3] rfl)
theorem d_Model_is_0 : decode b_Model_is 0 = .ok (.iconst 1, 1) := by decide +kernel
theorem d_Model_is_1 : decode b_Model_is 1 = .ok (.istore 4, 2) := by decide +kernel
theorem d_Model_is_3 : decode b_Model_is 3 = .ok (.iconst 0, 1) := by decide +kernel
theorem d_Model_is_4 : decode b_Model_is 4 = .ok (.istore 5, 2) := by decide +kernel
theorem d_Model_is_6 : decode b_Model_is 6 = .ok (.iload 5, 2) := by decide +kernel
theorem d_Model_is_8 : decode b_Model_is 8 = .ok (.bipush 8, 2) := by decide +kernel
theorem d_Model_is_10 : decode b_Model_is 10 = .ok (.if_icmp .ge 73, 3) := by decide +kernel
theorem d_Model_is_13 : decode b_Model_is 13 = .ok (.lload_n 2, 1) := by decide +kernel
theorem d_Model_is_14 : decode b_Model_is 14 = .ok (.bipush 8, 2) := by decide +kernel
theorem d_Model_is_16 : decode b_Model_is 16 = .ok (.iload 5, 2) := by decide +kernel
theorem d_Model_is_18 : decode b_Model_is 18 = .ok (.imul, 1) := by decide +kernel
theorem d_Model_is_19 : decode b_Model_is 19 = .ok (.lshr, 1) := by decide +kernel
theorem d_Model_is_20 : decode b_Model_is 20 = .ok (.ldc2_w 110, 3) := by decide +kernel
theorem d_Model_is_23 : decode b_Model_is 23 = .ok (.land, 1) := by decide +kernel
theorem d_Model_is_24 : decode b_Model_is 24 = .ok (.l2i, 1) := by decide +kernel
theorem d_Model_is_25 : decode b_Model_is 25 = .ok (.istore 6, 2) := by decide +kernel
theorem d_Model_is_27 : decode b_Model_is 27 = .ok (.iload 4, 2) := by decide +kernel
theorem d_Model_is_29 : decode b_Model_is 29 = .ok (.ifCond .eq 45, 3) := by decide +kernel
theorem d_Model_is_32 : decode b_Model_is 32 = .ok (.iload 5, 2) := by decide +kernel
theorem d_Model_is_34 : decode b_Model_is 34 = .ok (.aload_n 0, 1) := by decide +kernel
theorem d_Model_is_35 : decode b_Model_is 35 = .ok (.getfield 24, 3) := by decide +kernel
theorem d_Model_is_38 : decode b_Model_is 38 = .ok (.iload_n 1, 1) := by decide +kernel
theorem d_Model_is_39 : decode b_Model_is 39 = .ok (.iaload, 1) := by decide +kernel
theorem d_Model_is_40 : decode b_Model_is 40 = .ok (.if_icmp .ge 25, 3) := by decide +kernel
theorem d_Model_is_43 : decode b_Model_is 43 = .ok (.aload_n 0, 1) := by decide +kernel
theorem d_Model_is_44 : decode b_Model_is 44 = .ok (.getfield 7, 3) := by decide +kernel
theorem d_Model_is_47 : decode b_Model_is 47 = .ok (.aload_n 0, 1) := by decide +kernel
theorem d_Model_is_48 : decode b_Model_is 48 = .ok (.getfield 21, 3) := by decide +kernel
theorem d_Model_is_51 : decode b_Model_is 51 = .ok (.iload_n 1, 1) := by decide +kernel
theorem d_Model_is_52 : decode b_Model_is 52 = .ok (.iaload, 1) := by decide +kernel
theorem d_Model_is_53 : decode b_Model_is 53 = .ok (.iload 5, 2) := by decide +kernel
theorem d_Model_is_55 : decode b_Model_is 55 = .ok (.iadd, 1) := by decide +kernel
theorem d_Model_is_56 : decode b_Model_is 56 = .ok (.caload, 1) := by decide +kernel
theorem d_Model_is_57 : decode b_Model_is 57 = .ok (.iload 6, 2) := by decide +kernel
theorem d_Model_is_59 : decode b_Model_is 59 = .ok (.if_icmp .ne 15, 3) := by decide +kernel
theorem d_Model_is_62 : decode b_Model_is 62 = .ok (.goto 8, 3) := by decide +kernel
theorem d_Model_is_65 : decode b_Model_is 65 = .ok (.iload 6, 2) := by decide +kernel
theorem d_Model_is_67 : decode b_Model_is 67 = .ok (.ifCond .ne 7, 3) := by decide +kernel
theorem d_Model_is_70 : decode b_Model_is 70 = .ok (.iconst 1, 1) := by decide +kernel
theorem d_Model_is_71 : decode b_Model_is 71 = .ok (.goto 4, 3) := by decide +kernel
theorem d_Model_is_74 : decode b_Model_is 74 = .ok (.iconst 0, 1) := by decide +kernel
theorem d_Model_is_75 : decode b_Model_is 75 = .ok (.istore 4, 2) := by decide +kernel
theorem d_Model_is_77 : decode b_Model_is 77 = .ok (.iinc 5 1, 3) := by decide +kernel
theorem d_Model_is_80 : decode b_Model_is 80 = .ok (.goto (-74), 3) := by decide +kernel
theorem d_Model_is_83 : decode b_Model_is 83 = .ok (.iload 4, 2) := by decide +kernel
theorem d_Model_is_85 : decode b_Model_is 85 = .ok (.ifCond .eq 18, 3) := by decide +kernel
theorem d_Model_is_88 : decode b_Model_is 88 = .ok (.aload_n 0, 1) := by decide +kernel
theorem d_Model_is_89 : decode b_Model_is 89 = .ok (.getfield 24, 3) := by decide +kernel
theorem d_Model_is_92 : decode b_Model_is 92 = .ok (.iload_n 1, 1) := by decide +kernel
theorem d_Model_is_93 : decode b_Model_is 93 = .ok (.iaload, 1) := by decide +kernel
theorem d_Model_is_94 : decode b_Model_is 94 = .ok (.bipush 8, 2) := by decide +kernel
theorem d_Model_is_96 : decode b_Model_is 96 = .ok (.if_icmp .gt 7, 3) := by decide +kernel
theorem d_Model_is_99 : decode b_Model_is 99 = .ok (.iconst 1, 1) := by decide +kernel
theorem d_Model_is_100 : decode b_Model_is 100 = .ok (.goto 4, 3) := by decide +kernel
theorem d_Model_is_103 : decode b_Model_is 103 = .ok (.iconst 0, 1) := by decide +kernel
theorem d_Model_is_104 : decode b_Model_is 104 = .ok (.ireturn, 1) := by decide +kernel
def tModel_is_b1 (k : Nat → St → Int32 → Int32 → Int32 → Int64 → Option (Int32)) (σ : St) (x1 : Int32) (x2 : Int32) (x3 : Int32) (y1 : Int64) : Option (Int32) := if (8 : Int32) ≤ x3 then if x2 = 0 then some 0 else gd (inB x1 500) (if (8 : Int32) < ((σ.2.2.1 18) x1.toNatClampNeg) then some 0 else some 1) else if x2 = 0 then k 3 σ x1 x3 0 y1 else gd (inB x1 500) (if ((σ.2.2.1 18) x1.toNatClampNeg) ≤ x3 then if ((((y1 >>> (((8 * x3) : Int32).toInt64 &&& 63)) &&& 255) : Int64).toInt32) = 0 then k 2 σ x1 x3 0 y1 else k 3 σ x1 x3 0 y1 else gd (inB x1 500) (gd (inB (((σ.2.2.1 17) x1.toNatClampNeg) + x3) 480) (if ((σ.2.2.1 15) (((σ.2.2.1 17) x1.toNatClampNeg) + x3).toNatClampNeg) = ((((y1 >>> (((8 * x3) : Int32).toInt64 &&& 63)) &&& 255) : Int64).toInt32) then k 2 σ x1 x3 0 y1 else k 3 σ x1 x3 0 y1)))
def tModel_is_b2 (k : Nat → St → Int32 → Int32 → Int32 → Int64 → Option (Int32)) (σ : St) (x1 : Int32) (x2 : Int32) (x3 : Int32) (y1 : Int64) : Option (Int32) := k 4 σ x1 x2 1 y1
def tModel_is_b3 (k : Nat → St → Int32 → Int32 → Int32 → Int64 → Option (Int32)) (σ : St) (x1 : Int32) (x2 : Int32) (x3 : Int32) (y1 : Int64) : Option (Int32) := k 4 σ x1 x2 0 y1
def tModel_is_b4 (k : Nat → St → Int32 → Int32 → Int32 → Int64 → Option (Int32)) (σ : St) (x1 : Int32) (x2 : Int32) (x3 : Int32) (y1 : Int64) : Option (Int32) := k 1 σ x1 x3 (x2 + 1) y1
def tModel_is_L : Nat → Nat → St → Int32 → Int32 → Int32 → Int64 → Option (Int32)
  | 0, _, _, _, _, _, _ => none
  | n + 1, lab, σ, x1, x2, x3, y1 => match lab with
    | 1 => tModel_is_b1 (tModel_is_L n) σ x1 x2 x3 y1
    | 2 => tModel_is_b2 (tModel_is_L n) σ x1 x2 x3 y1
    | 3 => tModel_is_b3 (tModel_is_L n) σ x1 x2 x3 y1
    | 4 => tModel_is_b4 (tModel_is_L n) σ x1 x2 x3 y1
    | _ => none
def tModel_is (σ : St) (a1 : Int32) (a2 : Int64) : Option (Int32) := tModel_is_L 2000 1 σ a1 1 0 a2
set_option maxHeartbeats 4000000 in
set_option maxRecDepth 100000 in
theorem tModel_is_blk {p : Program} {e : Env} {s : State} {m : MethodId} {args : Array Value} {below : List Frame} {meth : Method} {c : Code} {A : Nat → Prop} (l : Launch) (dC : Nat → ClassId) (dI : Nat → Nat → Nat) (ad : Nat → Nat) (cA : Nat → ClassId) {r : Int32} (X : Cx p s m args meth c b_Model_is 7 (some .boolean) "TinyForgeModel" (dC, dI) (ttys cA) ad A) : ∀ n : Nat, (∀ (σ : St) (x1 : Int32) (x2 : Int32) (x3 : Int32) (y1 : Int64) (H : Heap) (locs : List Loc) (ls : Array Slot), tModel_is_L n 1 σ x1 x2 x3 y1 = some r → va_P (dC, dI) vwCl (tcw ad cA σ) H → va_D A (tcw ad cA σ) → va_S A s.heap H locs → lv_has ls 7 [(0, .ref (ad 11)), (1, .int x1), (2, .long y1), (4, .int x2), (5, .int x3)] → W p l e { frames := 0, cells := 0, slots := 0, locals := 0 } s m args below meth c H locs 0 0 (MQ below (QI (dC, dI) (ttys cA) (tcw ad cA) A r σ) args s 0 0 A) (F0 m 6 ls [])) ∧ (∀ (σ : St) (x1 : Int32) (x2 : Int32) (x3 : Int32) (y1 : Int64) (H : Heap) (locs : List Loc) (ls : Array Slot), tModel_is_L n 2 σ x1 x2 x3 y1 = some r → va_P (dC, dI) vwCl (tcw ad cA σ) H → va_D A (tcw ad cA σ) → va_S A s.heap H locs → lv_has ls 7 [(0, .ref (ad 11)), (1, .int x1), (2, .long y1), (5, .int x2)] → W p l e { frames := 0, cells := 0, slots := 0, locals := 0 } s m args below meth c H locs 0 0 (MQ below (QI (dC, dI) (ttys cA) (tcw ad cA) A r σ) args s 0 0 A) (F0 m 70 ls [])) ∧ (∀ (σ : St) (x1 : Int32) (x2 : Int32) (x3 : Int32) (y1 : Int64) (H : Heap) (locs : List Loc) (ls : Array Slot), tModel_is_L n 3 σ x1 x2 x3 y1 = some r → va_P (dC, dI) vwCl (tcw ad cA σ) H → va_D A (tcw ad cA σ) → va_S A s.heap H locs → lv_has ls 7 [(0, .ref (ad 11)), (1, .int x1), (2, .long y1), (5, .int x2)] → W p l e { frames := 0, cells := 0, slots := 0, locals := 0 } s m args below meth c H locs 0 0 (MQ below (QI (dC, dI) (ttys cA) (tcw ad cA) A r σ) args s 0 0 A) (F0 m 74 ls [])) ∧ (∀ (σ : St) (x1 : Int32) (x2 : Int32) (x3 : Int32) (y1 : Int64) (H : Heap) (locs : List Loc) (ls : Array Slot), tModel_is_L n 4 σ x1 x2 x3 y1 = some r → va_P (dC, dI) vwCl (tcw ad cA σ) H → va_D A (tcw ad cA σ) → va_S A s.heap H locs → lv_has ls 7 [(0, .ref (ad 11)), (1, .int x1), (2, .long y1), (5, .int x2)] → W p l e { frames := 0, cells := 0, slots := 0, locals := 0 } s m args below meth c H locs 0 0 (MQ below (QI (dC, dI) (ttys cA) (tcw ad cA) A r σ) args s 0 0 A) (F0 m 75 ls [.int x3])) := by
  obtain ⟨hx, hb, hr, hml, hown, hlocks, hts, hA, hK, hZ⟩ := id X
  intro n
  induction n with
  | zero => exact ⟨(fun σ x1 x2 x3 y1 H locs ls hF => by cases hF), (fun σ x1 x2 x3 y1 H locs ls hF => by cases hF), (fun σ x1 x2 x3 y1 H locs ls hF => by cases hF), (fun σ x1 x2 x3 y1 H locs ls hF => by cases hF)⟩
  | succ n ihn =>
    refine ⟨fun σ x1 x2 x3 y1 H locs ls hF hP hD hS hl => ?_, fun σ x1 x2 x3 y1 H locs ls hF hP hD hS hl => ?_, fun σ x1 x2 x3 y1 H locs ls hF hP hD hS hl => ?_, fun σ x1 x2 x3 y1 H locs ls hF hP hD hS hl => ?_⟩
    · have hF : tModel_is_b1 (tModel_is_L n) σ x1 x2 x3 y1 = some r := hF
      unfold tModel_is_b1 at hF
      refine lv_iload hx hb d_Model_is_6 (lv_at hl 4 rfl) ?_
      refine lv_bipush (v := 8) hx hb d_Model_is_8 (by decide) ?_
      refine lv_icmp_ge (tgt := 83) hx hb d_Model_is_10 (by decide) (fun c_1 => ?_) (fun c_1 => ?_)
      · have hF := ifp hF c_1
        refine lv_iload hx hb d_Model_is_83 (lv_at hl 3 rfl) ?_
        refine lv_if_eq (tgt := 103) hx hb d_Model_is_85 (by decide) (fun c_2 => ?_) (fun c_2 => ?_)
        · have hF := ifp hF c_2
          refine lv_iconst (v := 0) hx hb d_Model_is_103 (by decide) ?_
          cases hF
          exact leafZ X hP hD hS (by decide) d_Model_is_104
        · have hF := ifn hF c_2
          refine lv_aload_n hx hb d_Model_is_88 rfl (lv_at hl 0 rfl) ?_
          refine va_get (D := (dC, dI)) (ci := 11) (v := .ref (ad 33)) hx hb hts i_Model hown hK hP 11 rfl rfl 11 (by decide) (hts _ w_ba266638fe) (fun _ h9 => h9) rfl d_Model_is_89 ?_
          refine lv_iload_n hx hb d_Model_is_92 rfl (lv_at hl 1 rfl) ?_
          obtain ⟨g_3, hF⟩ := gdE hF
          refine va_iald (f := (σ.2.2.1 18)) hx hb hK hP 33 0 rfl rfl (inE g_3) d_Model_is_93 ?_
          refine lv_bipush (v := 8) hx hb d_Model_is_94 (by decide) ?_
          refine lv_icmp_gt (tgt := 103) hx hb d_Model_is_96 (by decide) (fun c_4 => ?_) (fun c_4 => ?_)
          · have hF := ifp hF c_4
            refine lv_iconst (v := 0) hx hb d_Model_is_103 (by decide) ?_
            cases hF
            exact leafZ X hP hD hS (by decide) d_Model_is_104
          · have hF := ifn hF c_4
            refine lv_iconst (v := 1) hx hb d_Model_is_99 (by decide) ?_
            refine lv_goto (tgt := 104) hx hb d_Model_is_100 (by decide) ?_
            cases hF
            exact leafZ X hP hD hS (by decide) d_Model_is_104
      · have hF := ifn hF c_1
        refine lv_lload_n hx hb d_Model_is_13 rfl (lv_at hl 2 rfl) ?_
        refine lv_bipush (v := 8) hx hb d_Model_is_14 (by decide) ?_
        refine lv_iload hx hb d_Model_is_16 (lv_at hl 4 rfl) ?_
        refine lv_imul hx hb d_Model_is_18 ?_
        refine lv_lshr (v := (y1 >>> (((8 * x3) : Int32).toInt64 &&& 63))) hx hb d_Model_is_19 rfl ?_
        refine lv_ldc2 (v := 255) hx hb hown (hts _ w_3500228763) d_Model_is_20 ?_
        refine lv_land hx hb d_Model_is_23 ?_
        refine lv_l2i (v := (((y1 >>> (((8 * x3) : Int32).toInt64 &&& 63)) &&& 255) : Int64).toInt32) hx hb d_Model_is_24 rfl ?_
        refine lv_istore (lv' := [(6, .int ((((y1 >>> (((8 * x3) : Int32).toInt64 &&& 63)) &&& 255) : Int64).toInt32)), (0, .ref (ad 11)), (1, .int x1), (2, .long y1), (4, .int x2), (5, .int x3)]) hx hb d_Model_is_25 hl (by decide) rfl (fun ls hl => ?_)
        refine lv_iload hx hb d_Model_is_27 (lv_at hl 4 rfl) ?_
        refine lv_if_eq (tgt := 74) hx hb d_Model_is_29 (by decide) (fun c_5 => ?_) (fun c_5 => ?_)
        · have hF := ifp hF c_5
          exact ihn.2.2.1 σ x1 x3 0 y1 H locs ls hF hP hD hS (lv_sub hl [1, 2, 3, 5] rfl)
        · have hF := ifn hF c_5
          refine lv_iload hx hb d_Model_is_32 (lv_at hl 5 rfl) ?_
          refine lv_aload_n hx hb d_Model_is_34 rfl (lv_at hl 1 rfl) ?_
          refine va_get (D := (dC, dI)) (ci := 11) (v := .ref (ad 33)) hx hb hts i_Model hown hK hP 11 rfl rfl 11 (by decide) (hts _ w_ba266638fe) (fun _ h9 => h9) rfl d_Model_is_35 ?_
          refine lv_iload_n hx hb d_Model_is_38 rfl (lv_at hl 2 rfl) ?_
          obtain ⟨g_6, hF⟩ := gdE hF
          refine va_iald (f := (σ.2.2.1 18)) hx hb hK hP 33 0 rfl rfl (inE g_6) d_Model_is_39 ?_
          refine lv_icmp_ge (tgt := 65) hx hb d_Model_is_40 (by decide) (fun c_7 => ?_) (fun c_7 => ?_)
          · have hF := ifp hF c_7
            refine lv_iload hx hb d_Model_is_65 (lv_at hl 0 rfl) ?_
            refine lv_if_ne (tgt := 74) hx hb d_Model_is_67 (by decide) (fun c_8 => ?_) (fun c_8 => ?_)
            · have hF := ifn hF c_8
              exact ihn.2.2.1 σ x1 x3 0 y1 H locs ls hF hP hD hS (lv_sub hl [1, 2, 3, 5] rfl)
            · have hF := ifp hF c_8
              exact ihn.2.1 σ x1 x3 0 y1 H locs ls hF hP hD hS (lv_sub hl [1, 2, 3, 5] rfl)
          · have hF := ifn hF c_7
            refine lv_aload_n hx hb d_Model_is_43 rfl (lv_at hl 1 rfl) ?_
            refine va_get (D := (dC, dI)) (ci := 11) (v := .ref (ad 30)) hx hb hts i_Model hown hK hP 11 rfl rfl 1 (by decide) (hts _ w_c45f734488) (fun _ h9 => h9) rfl d_Model_is_44 ?_
            refine lv_aload_n hx hb d_Model_is_47 rfl (lv_at hl 1 rfl) ?_
            refine va_get (D := (dC, dI)) (ci := 11) (v := .ref (ad 32)) hx hb hts i_Model hown hK hP 11 rfl rfl 10 (by decide) (hts _ w_58d30b60eb) (fun _ h9 => h9) rfl d_Model_is_48 ?_
            refine lv_iload_n hx hb d_Model_is_51 rfl (lv_at hl 2 rfl) ?_
            obtain ⟨g_9, hF⟩ := gdE hF
            refine va_iald (f := (σ.2.2.1 17)) hx hb hK hP 32 0 rfl rfl (inE g_9) d_Model_is_52 ?_
            refine lv_iload hx hb d_Model_is_53 (lv_at hl 5 rfl) ?_
            refine lv_iadd hx hb d_Model_is_55 ?_
            obtain ⟨g_10, hF⟩ := gdE hF
            refine va_cald (f := (σ.2.2.1 15)) hx hb hK hP 30 2 rfl rfl (inE g_10) d_Model_is_56 ?_
            refine lv_iload hx hb d_Model_is_57 (lv_at hl 0 rfl) ?_
            refine lv_icmp_ne (tgt := 74) hx hb d_Model_is_59 (by decide) (fun c_11 => ?_) (fun c_11 => ?_)
            · have hF := ifn hF c_11
              exact ihn.2.2.1 σ x1 x3 0 y1 H locs ls hF hP hD hS (lv_sub hl [1, 2, 3, 5] rfl)
            · have hF := ifp hF c_11
              refine lv_goto (tgt := 70) hx hb d_Model_is_62 (by decide) ?_
              exact ihn.2.1 σ x1 x3 0 y1 H locs ls hF hP hD hS (lv_sub hl [1, 2, 3, 5] rfl)
    · have hF : tModel_is_b2 (tModel_is_L n) σ x1 x2 x3 y1 = some r := hF
      unfold tModel_is_b2 at hF
      refine lv_iconst (v := 1) hx hb d_Model_is_70 (by decide) ?_
      refine lv_goto (tgt := 75) hx hb d_Model_is_71 (by decide) ?_
      exact ihn.2.2.2 σ x1 x2 1 y1 H locs ls hF hP hD hS (lv_sub hl [0, 1, 2, 3] rfl)
    · have hF : tModel_is_b3 (tModel_is_L n) σ x1 x2 x3 y1 = some r := hF
      unfold tModel_is_b3 at hF
      refine lv_iconst (v := 0) hx hb d_Model_is_74 (by decide) ?_
      exact ihn.2.2.2 σ x1 x2 0 y1 H locs ls hF hP hD hS (lv_sub hl [0, 1, 2, 3] rfl)
    · have hF : tModel_is_b4 (tModel_is_L n) σ x1 x2 x3 y1 = some r := hF
      unfold tModel_is_b4 at hF
      refine lv_istore (lv' := [(4, .int x3), (0, .ref (ad 11)), (1, .int x1), (2, .long y1), (5, .int x2)]) hx hb d_Model_is_75 hl (by decide) rfl (fun ls hl => ?_)
      refine lv_iinc (v := (x2 + 1)) (lv' := [(5, .int (x2 + 1)), (4, .int x3), (0, .ref (ad 11)), (1, .int x1), (2, .long y1)]) hx hb d_Model_is_77 hl (k := 4) rfl rfl (by decide) rfl (fun ls hl => ?_)
      refine lv_goto (tgt := 6) hx hb d_Model_is_80 (by decide) ?_
      exact ihn.1 σ x1 x3 (x2 + 1) y1 H locs ls hF hP hD hS (lv_sub hl [2, 3, 4, 1, 0] rfl)
set_option maxHeartbeats 4000000 in
set_option maxRecDepth 100000 in
theorem ct_Model_is (l : Launch) (dC : Nat → ClassId) (dI : Nat → Nat → Nat) (ad : Nat → Nat) (cA : Nat → ClassId) (sz : Nat) {σ : St} {a1 : Int32} {a2 : Int64} {r : Int32} (hF : tModel_is σ a1 a2 = some r) : MI l y_Model_is b_Model_is 7 (some .boolean) { frames := 0, cells := 0, slots := 0, locals := 0 } (dC, dI) (ttys cA) ad (tcw ad cA) [.ref (ad 11), .int a1, .long a2] σ sz r σ := by
  refine startM (own := "TinyForgeModel") (Qc := fun A => QI (dC, dI) (ttys cA) (tcw ad cA) A r σ) rfl rfl (Nat.le_of_ble_eq_true rfl) ?_
  intro p e s m below meth c A H locs ls X hP hD hS hl
  have hl : lv_has ls 7 [(0, .ref (ad 11)), (1, .int a1), (2, .long a2)] := hl
  obtain ⟨hx, hb, hr, hml, hown, hlocks, hts, hA, hK, hZ⟩ := id X
  unfold tModel_is at hF
  refine lv_iconst (v := 1) hx hb d_Model_is_0 (by decide) ?_
  refine lv_istore (lv' := [(4, .int 1), (0, .ref (ad 11)), (1, .int a1), (2, .long a2)]) hx hb d_Model_is_1 hl (by decide) rfl (fun ls hl => ?_)
  refine lv_iconst (v := 0) hx hb d_Model_is_3 (by decide) ?_
  refine lv_istore (lv' := [(5, .int 0), (4, .int 1), (0, .ref (ad 11)), (1, .int a1), (2, .long a2)]) hx hb d_Model_is_4 hl (by decide) rfl (fun ls hl => ?_)
  exact (tModel_is_blk l dC dI ad cA X 2000).1 σ a1 1 0 a2 H locs ls hF hP hD hS (lv_sub hl [2, 3, 4, 1, 0] rfl)
theorem d_Model_sees_0 : decode b_Model_sees 0 = .ok (.aload_n 0, 1) := by decide +kernel
theorem d_Model_sees_1 : decode b_Model_sees 1 = .ok (.aload_n 0, 1) := by decide +kernel
theorem d_Model_sees_2 : decode b_Model_sees 2 = .ok (.getfield 184, 3) := by decide +kernel
theorem d_Model_sees_5 : decode b_Model_sees 5 = .ok (.lload_n 1, 1) := by decide +kernel
theorem d_Model_sees_6 : decode b_Model_sees 6 = .ok (.invokevirtual 168, 3) := by decide +kernel
theorem d_Model_sees_9 : decode b_Model_sees 9 = .ok (.ireturn, 1) := by decide +kernel
def tModel_sees (σ : St) (a1 : Int64) : Option (Int32) := b1 (tModel_is σ (σ.1 31) a1) (fun r1 => gd (nZ r1) (some r1))
set_option maxHeartbeats 4000000 in
set_option maxRecDepth 100000 in
theorem ct_Model_sees (l : Launch) (dC : Nat → ClassId) (dI : Nat → Nat → Nat) (ad : Nat → Nat) (cA : Nat → ClassId) (sz : Nat) {σ : St} {a1 : Int64} {r : Int32} (hF : tModel_sees σ a1 = some r) : MI l y_Model_sees b_Model_sees 3 (some .boolean) { frames := 1, cells := 0, slots := 0, locals := 26 } (dC, dI) (ttys cA) ad (tcw ad cA) [.ref (ad 11), .long a1] σ sz r σ := by
  refine startM (own := "TinyForgeModel") (Qc := fun A => QI (dC, dI) (ttys cA) (tcw ad cA) A r σ) rfl rfl (Nat.le_of_ble_eq_true rfl) ?_
  intro p e s m below meth c A H locs ls X hP hD hS hl
  have hl : lv_has ls 3 [(0, .ref (ad 11)), (1, .long a1)] := hl
  obtain ⟨hx, hb, hr, hml, hown, hlocks, hts, hA, hK, hZ⟩ := id X
  unfold tModel_sees at hF
  refine lv_aload_n hx hb d_Model_sees_0 rfl (lv_at hl 0 rfl) ?_
  refine lv_aload_n hx hb d_Model_sees_1 rfl (lv_at hl 0 rfl) ?_
  refine va_get (D := (dC, dI)) (ci := 11) (v := .int (σ.1 31)) hx hb hts i_Model hown hK hP 11 rfl rfl 6 (by decide) (hts _ w_13cd8e7698) (fun _ h9 => h9) rfl d_Model_sees_2 ?_
  refine lv_lload_n hx hb d_Model_sees_5 rfl (lv_at hl 1 rfl) ?_
  obtain ⟨r1, h1, hF⟩ := b1E hF
  refine callVI (As := [.int (σ.1 31), .long a1]) X (ct_Model_is l dC dI ad cA H.size h1) lk_Model_168 ⟨rfl, rfl, by decide, by decide⟩ 11 rfl rfl hP hD hS hl.1 rfl rfl (Nat.le_of_ble_eq_true rfl) d_Model_sees_6 (fun H locs hP hD hS => ?_)
  obtain ⟨g_2, hF⟩ := gdE hF
  cases hF
  exact leafZ X hP hD hS (nZN g_2) d_Model_sees_9
theorem d_Model_blame_0 : decode b_Model_blame 0 = .ok (.aload_n 0, 1) := by decide +kernel
theorem d_Model_blame_1 : decode b_Model_blame 1 = .ok (.getfield 121, 3) := by decide +kernel
theorem d_Model_blame_4 : decode b_Model_blame 4 = .ok (.ifCond .ne 13, 3) := by decide +kernel
theorem d_Model_blame_7 : decode b_Model_blame 7 = .ok (.aload_n 0, 1) := by decide +kernel
theorem d_Model_blame_8 : decode b_Model_blame 8 = .ok (.iload_n 1, 1) := by decide +kernel
theorem d_Model_blame_9 : decode b_Model_blame 9 = .ok (.putfield 121, 3) := by decide +kernel
theorem d_Model_blame_12 : decode b_Model_blame 12 = .ok (.aload_n 0, 1) := by decide +kernel
theorem d_Model_blame_13 : decode b_Model_blame 13 = .ok (.iload_n 2, 1) := by decide +kernel
theorem d_Model_blame_14 : decode b_Model_blame 14 = .ok (.putfield 13, 3) := by decide +kernel
theorem d_Model_blame_17 : decode b_Model_blame 17 = .ok (.return_, 1) := by decide +kernel
def tModel_blame (σ : St) (a1 : Int32) (a2 : Int32) : Option (St) := if (σ.1 29) = 0 then some (sI (sI σ 29 a1) 30 a2) else some σ
set_option maxHeartbeats 4000000 in
set_option maxRecDepth 100000 in
theorem ct_Model_blame (l : Launch) (dC : Nat → ClassId) (dI : Nat → Nat → Nat) (ad : Nat → Nat) (cA : Nat → ClassId) (sz : Nat) {σ : St} {a1 : Int32} {a2 : Int32} {σ' : St} (hF : tModel_blame σ a1 a2 = some σ') : MV l y_Model_blame b_Model_blame 3 none { frames := 0, cells := 0, slots := 0, locals := 0 } (dC, dI) (ttys cA) ad (tcw ad cA) [.ref (ad 11), .int a1, .int a2] σ sz σ' := by
  refine startM (own := "TinyForgeModel") (Qc := fun A => QV (dC, dI) (ttys cA) (tcw ad cA) A σ') rfl rfl (Nat.le_of_ble_eq_true rfl) ?_
  intro p e s m below meth c A H locs ls X hP hD hS hl
  have hl : lv_has ls 3 [(0, .ref (ad 11)), (1, .int a1), (2, .int a2)] := hl
  obtain ⟨hx, hb, hr, hml, hown, hlocks, hts, hA, hK, hZ⟩ := id X
  unfold tModel_blame at hF
  refine lv_aload_n hx hb d_Model_blame_0 rfl (lv_at hl 0 rfl) ?_
  refine va_get (D := (dC, dI)) (ci := 11) (v := .int (σ.1 29)) hx hb hts i_Model hown hK hP 11 rfl rfl 4 (by decide) (hts _ w_0464dc4398) (fun _ h9 => h9) rfl d_Model_blame_1 ?_
  refine lv_if_ne (tgt := 17) hx hb d_Model_blame_4 (by decide) (fun c_1 => ?_) (fun c_1 => ?_)
  · have hF := ifn hF c_1
    cases hF
    exact leafV X hP hD hS d_Model_blame_17
  · have hF := ifp hF c_1
    refine lv_aload_n hx hb d_Model_blame_7 rfl (lv_at hl 0 rfl) ?_
    refine lv_iload_n hx hb d_Model_blame_8 rfl (lv_at hl 1 rfl) ?_
    refine va_put (D := (dC, dI)) (ci := 11) (v := .int a1) (ty := .int) hx hb hts i_Model t_Model t_Model_ok n_Model hown hK hP hD hS 11 rfl rfl 4 (by decide) (hts _ w_0464dc4398) (fun _ h9 => h9) rfl (by decide +kernel) rfl rfl (Nat.le_of_ble_eq_true rfl) d_Model_blame_9 (fun H locs hP hD hS => ?_)
    have hP : va_P (dC, dI) vwCl (tcw ad cA (sI σ 29 a1)) H := hP
    have hD : va_D A (tcw ad cA (sI σ 29 a1)) := hD
    refine lv_aload_n hx hb d_Model_blame_12 rfl (lv_at hl 0 rfl) ?_
    refine lv_iload_n hx hb d_Model_blame_13 rfl (lv_at hl 2 rfl) ?_
    refine va_put (D := (dC, dI)) (ci := 11) (v := .int a2) (ty := .int) hx hb hts i_Model t_Model t_Model_ok n_Model hown hK hP hD hS 11 rfl rfl 5 (by decide) (hts _ w_7e0548e54d) (fun _ h9 => h9) rfl (by decide +kernel) rfl rfl (Nat.le_of_ble_eq_true rfl) d_Model_blame_14 (fun H locs hP hD hS => ?_)
    have hP : va_P (dC, dI) vwCl (tcw ad cA (sI (sI σ 29 a1) 30 a2)) H := hP
    have hD : va_D A (tcw ad cA (sI (sI σ 29 a1) 30 a2)) := hD
    cases hF
    exact leafV X hP hD hS d_Model_blame_17
theorem d_Model_spoil_0 : decode b_Model_spoil 0 = .ok (.aload_n 0, 1) := by decide +kernel
theorem d_Model_spoil_1 : decode b_Model_spoil 1 = .ok (.iconst 3, 1) := by decide +kernel
theorem d_Model_spoil_2 : decode b_Model_spoil 2 = .ok (.aload_n 0, 1) := by decide +kernel
theorem d_Model_spoil_3 : decode b_Model_spoil 3 = .ok (.getfield 21, 3) := by decide +kernel
theorem d_Model_spoil_6 : decode b_Model_spoil 6 = .ok (.aload_n 0, 1) := by decide +kernel
theorem d_Model_spoil_7 : decode b_Model_spoil 7 = .ok (.getfield 184, 3) := by decide +kernel
theorem d_Model_spoil_10 : decode b_Model_spoil 10 = .ok (.iaload, 1) := by decide +kernel
theorem d_Model_spoil_11 : decode b_Model_spoil 11 = .ok (.invokevirtual 140, 3) := by decide +kernel
theorem d_Model_spoil_14 : decode b_Model_spoil 14 = .ok (.return_, 1) := by decide +kernel
def tModel_spoil (σ : St) : Option (St) := gd (inB (σ.1 31) 500) (b1 (tModel_blame σ 3 ((σ.2.2.1 17) (σ.1 31).toNatClampNeg)) (fun u2 => some u2))
set_option maxHeartbeats 4000000 in
set_option maxRecDepth 100000 in
theorem ct_Model_spoil (l : Launch) (dC : Nat → ClassId) (dI : Nat → Nat → Nat) (ad : Nat → Nat) (cA : Nat → ClassId) (sz : Nat) {σ : St} {σ' : St} (hF : tModel_spoil σ = some σ') : MV l y_Model_spoil b_Model_spoil 1 none { frames := 1, cells := 0, slots := 0, locals := 22 } (dC, dI) (ttys cA) ad (tcw ad cA) [.ref (ad 11)] σ sz σ' := by
  refine startM (own := "TinyForgeModel") (Qc := fun A => QV (dC, dI) (ttys cA) (tcw ad cA) A σ') rfl rfl (Nat.le_of_ble_eq_true rfl) ?_
  intro p e s m below meth c A H locs ls X hP hD hS hl
  have hl : lv_has ls 1 [(0, .ref (ad 11))] := hl
  obtain ⟨hx, hb, hr, hml, hown, hlocks, hts, hA, hK, hZ⟩ := id X
  unfold tModel_spoil at hF
  refine lv_aload_n hx hb d_Model_spoil_0 rfl (lv_at hl 0 rfl) ?_
  refine lv_iconst (v := 3) hx hb d_Model_spoil_1 (by decide) ?_
  refine lv_aload_n hx hb d_Model_spoil_2 rfl (lv_at hl 0 rfl) ?_
  refine va_get (D := (dC, dI)) (ci := 11) (v := .ref (ad 32)) hx hb hts i_Model hown hK hP 11 rfl rfl 10 (by decide) (hts _ w_58d30b60eb) (fun _ h9 => h9) rfl d_Model_spoil_3 ?_
  refine lv_aload_n hx hb d_Model_spoil_6 rfl (lv_at hl 0 rfl) ?_
  refine va_get (D := (dC, dI)) (ci := 11) (v := .int (σ.1 31)) hx hb hts i_Model hown hK hP 11 rfl rfl 6 (by decide) (hts _ w_13cd8e7698) (fun _ h9 => h9) rfl d_Model_spoil_7 ?_
  obtain ⟨g_1, hF⟩ := gdE hF
  refine va_iald (f := (σ.2.2.1 17)) hx hb hK hP 32 0 rfl rfl (inE g_1) d_Model_spoil_10 ?_
  obtain ⟨u2, h2, hF⟩ := b1E hF
  refine callVV (As := [.int 3, .int ((σ.2.2.1 17) (σ.1 31).toNatClampNeg)]) X (ct_Model_blame l dC dI ad cA H.size h2) lk_Model_140 ⟨rfl, rfl, by decide, by decide⟩ 11 rfl rfl hP hD hS hl.1 rfl rfl (Nat.le_of_ble_eq_true rfl) d_Model_spoil_11 (fun H locs hP hD hS => ?_)
  cases hF
  exact leafV X hP hD hS d_Model_spoil_14
theorem d_Model_need_0 : decode b_Model_need 0 = .ok (.aload_n 0, 1) := by decide +kernel
theorem d_Model_need_1 : decode b_Model_need 1 = .ok (.lload_n 1, 1) := by decide +kernel
theorem d_Model_need_2 : decode b_Model_need 2 = .ok (.invokevirtual 190, 3) := by decide +kernel
theorem d_Model_need_5 : decode b_Model_need 5 = .ok (.ifCond .ne 10, 3) := by decide +kernel
theorem d_Model_need_8 : decode b_Model_need 8 = .ok (.aload_n 0, 1) := by decide +kernel
theorem d_Model_need_9 : decode b_Model_need 9 = .ok (.invokevirtual 194, 3) := by decide +kernel
theorem d_Model_need_12 : decode b_Model_need 12 = .ok (.goto 20, 3) := by decide +kernel
theorem d_Model_need_15 : decode b_Model_need 15 = .ok (.aload_n 0, 1) := by decide +kernel
theorem d_Model_need_16 : decode b_Model_need 16 = .ok (.getfield 121, 3) := by decide +kernel
theorem d_Model_need_19 : decode b_Model_need 19 = .ok (.ifCond .ne 13, 3) := by decide +kernel
theorem d_Model_need_22 : decode b_Model_need 22 = .ok (.aload_n 0, 1) := by decide +kernel
theorem d_Model_need_23 : decode b_Model_need 23 = .ok (.dup, 1) := by decide +kernel
theorem d_Model_need_24 : decode b_Model_need 24 = .ok (.getfield 184, 3) := by decide +kernel
theorem d_Model_need_27 : decode b_Model_need 27 = .ok (.iconst 1, 1) := by decide +kernel
theorem d_Model_need_28 : decode b_Model_need 28 = .ok (.iadd, 1) := by decide +kernel
theorem d_Model_need_29 : decode b_Model_need 29 = .ok (.putfield 184, 3) := by decide +kernel
theorem d_Model_need_32 : decode b_Model_need 32 = .ok (.return_, 1) := by decide +kernel
def tModel_need (σ : St) (a1 : Int64) : Option (St) := b1 (tModel_sees σ a1) (fun r1 => if r1 = 0 then b1 (tModel_spoil σ) (fun u4 => some u4) else if (σ.1 29) = 0 then some (sI σ 31 ((σ.1 31) + 1)) else some σ)
set_option maxHeartbeats 4000000 in
set_option maxRecDepth 100000 in
theorem ct_Model_need (l : Launch) (dC : Nat → ClassId) (dI : Nat → Nat → Nat) (ad : Nat → Nat) (cA : Nat → ClassId) (sz : Nat) {σ : St} {a1 : Int64} {σ' : St} (hF : tModel_need σ a1 = some σ') : MV l y_Model_need b_Model_need 3 none { frames := 2, cells := 0, slots := 0, locals := 48 } (dC, dI) (ttys cA) ad (tcw ad cA) [.ref (ad 11), .long a1] σ sz σ' := by
  refine startM (own := "TinyForgeModel") (Qc := fun A => QV (dC, dI) (ttys cA) (tcw ad cA) A σ') rfl rfl (Nat.le_of_ble_eq_true rfl) ?_
  intro p e s m below meth c A H locs ls X hP hD hS hl
  have hl : lv_has ls 3 [(0, .ref (ad 11)), (1, .long a1)] := hl
  obtain ⟨hx, hb, hr, hml, hown, hlocks, hts, hA, hK, hZ⟩ := id X
  unfold tModel_need at hF
  refine lv_aload_n hx hb d_Model_need_0 rfl (lv_at hl 0 rfl) ?_
  refine lv_lload_n hx hb d_Model_need_1 rfl (lv_at hl 1 rfl) ?_
  obtain ⟨r1, h1, hF⟩ := b1E hF
  refine callVI (As := [.long a1]) X (ct_Model_sees l dC dI ad cA H.size h1) lk_Model_190 ⟨rfl, rfl, by decide, by decide⟩ 11 rfl rfl hP hD hS hl.1 rfl rfl (Nat.le_of_ble_eq_true rfl) d_Model_need_2 (fun H locs hP hD hS => ?_)
  refine lv_if_ne (tgt := 15) hx hb d_Model_need_5 (by decide) (fun c_2 => ?_) (fun c_2 => ?_)
  · have hF := ifn hF c_2
    refine lv_aload_n hx hb d_Model_need_15 rfl (lv_at hl 0 rfl) ?_
    refine va_get (D := (dC, dI)) (ci := 11) (v := .int (σ.1 29)) hx hb hts i_Model hown hK hP 11 rfl rfl 4 (by decide) (hts _ w_0464dc4398) (fun _ h9 => h9) rfl d_Model_need_16 ?_
    refine lv_if_ne (tgt := 32) hx hb d_Model_need_19 (by decide) (fun c_3 => ?_) (fun c_3 => ?_)
    · have hF := ifn hF c_3
      cases hF
      exact leafV X hP hD hS d_Model_need_32
    · have hF := ifp hF c_3
      refine lv_aload_n hx hb d_Model_need_22 rfl (lv_at hl 0 rfl) ?_
      refine lv_dup hx hb d_Model_need_23 rfl ?_
      refine va_get (D := (dC, dI)) (ci := 11) (v := .int (σ.1 31)) hx hb hts i_Model hown hK hP 11 rfl rfl 6 (by decide) (hts _ w_13cd8e7698) (fun _ h9 => h9) rfl d_Model_need_24 ?_
      refine lv_iconst (v := 1) hx hb d_Model_need_27 (by decide) ?_
      refine lv_iadd hx hb d_Model_need_28 ?_
      refine va_put (D := (dC, dI)) (ci := 11) (v := .int ((σ.1 31) + 1)) (ty := .int) hx hb hts i_Model t_Model t_Model_ok n_Model hown hK hP hD hS 11 rfl rfl 6 (by decide) (hts _ w_13cd8e7698) (fun _ h9 => h9) rfl (by decide +kernel) rfl rfl (Nat.le_of_ble_eq_true rfl) d_Model_need_29 (fun H locs hP hD hS => ?_)
      have hP : va_P (dC, dI) vwCl (tcw ad cA (sI σ 31 ((σ.1 31) + 1))) H := hP
      have hD : va_D A (tcw ad cA (sI σ 31 ((σ.1 31) + 1))) := hD
      cases hF
      exact leafV X hP hD hS d_Model_need_32
  · have hF := ifp hF c_2
    refine lv_aload_n hx hb d_Model_need_8 rfl (lv_at hl 0 rfl) ?_
    obtain ⟨u4, h4, hF⟩ := b1E hF
    refine callVV (As := []) X (ct_Model_spoil l dC dI ad cA H.size h4) lk_Model_194 ⟨rfl, rfl, by decide, by decide⟩ 11 rfl rfl hP hD hS hl.1 rfl rfl (Nat.le_of_ble_eq_true rfl) d_Model_need_9 (fun H locs hP hD hS => ?_)
    refine lv_goto (tgt := 32) hx hb d_Model_need_12 (by decide) ?_
    cases hF
    exact leafV X hP hD hS d_Model_need_32
theorem d_Model_arrayPart_0 : decode b_Model_arrayPart 0 = .ok (.aload_n 0, 1) := by decide +kernel
theorem d_Model_arrayPart_1 : decode b_Model_arrayPart 1 = .ok (.dup, 1) := by decide +kernel
theorem d_Model_arrayPart_2 : decode b_Model_arrayPart 2 = .ok (.getfield 184, 3) := by decide +kernel
theorem d_Model_arrayPart_5 : decode b_Model_arrayPart 5 = .ok (.iconst 1, 1) := by decide +kernel
theorem d_Model_arrayPart_6 : decode b_Model_arrayPart 6 = .ok (.iadd, 1) := by decide +kernel
theorem d_Model_arrayPart_7 : decode b_Model_arrayPart 7 = .ok (.putfield 184, 3) := by decide +kernel
theorem d_Model_arrayPart_10 : decode b_Model_arrayPart 10 = .ok (.aload_n 0, 1) := by decide +kernel
theorem d_Model_arrayPart_11 : decode b_Model_arrayPart 11 = .ok (.getfield 27, 3) := by decide +kernel
theorem d_Model_arrayPart_14 : decode b_Model_arrayPart 14 = .ok (.aload_n 0, 1) := by decide +kernel
theorem d_Model_arrayPart_15 : decode b_Model_arrayPart 15 = .ok (.getfield 184, 3) := by decide +kernel
theorem d_Model_arrayPart_18 : decode b_Model_arrayPart 18 = .ok (.iaload, 1) := by decide +kernel
theorem d_Model_arrayPart_19 : decode b_Model_arrayPart 19 = .ok (.istore_n 2, 1) := by decide +kernel
theorem d_Model_arrayPart_20 : decode b_Model_arrayPart 20 = .ok (.aload_n 0, 1) := by decide +kernel
theorem d_Model_arrayPart_21 : decode b_Model_arrayPart 21 = .ok (.getfield 184, 3) := by decide +kernel
theorem d_Model_arrayPart_24 : decode b_Model_arrayPart 24 = .ok (.istore_n 3, 1) := by decide +kernel
theorem d_Model_arrayPart_25 : decode b_Model_arrayPart 25 = .ok (.aload_n 0, 1) := by decide +kernel
theorem d_Model_arrayPart_26 : decode b_Model_arrayPart 26 = .ok (.getfield 17, 3) := by decide +kernel
theorem d_Model_arrayPart_29 : decode b_Model_arrayPart 29 = .ok (.aload_n 0, 1) := by decide +kernel
theorem d_Model_arrayPart_30 : decode b_Model_arrayPart 30 = .ok (.getfield 184, 3) := by decide +kernel
theorem d_Model_arrayPart_33 : decode b_Model_arrayPart 33 = .ok (.iaload, 1) := by decide +kernel
theorem d_Model_arrayPart_34 : decode b_Model_arrayPart 34 = .ok (.iconst 2, 1) := by decide +kernel
theorem d_Model_arrayPart_35 : decode b_Model_arrayPart 35 = .ok (.if_icmp .eq 10, 3) := by decide +kernel
theorem d_Model_arrayPart_38 : decode b_Model_arrayPart 38 = .ok (.aload_n 0, 1) := by decide +kernel
theorem d_Model_arrayPart_39 : decode b_Model_arrayPart 39 = .ok (.invokevirtual 194, 3) := by decide +kernel
theorem d_Model_arrayPart_42 : decode b_Model_arrayPart 42 = .ok (.goto 13, 3) := by decide +kernel
theorem d_Model_arrayPart_45 : decode b_Model_arrayPart 45 = .ok (.aload_n 0, 1) := by decide +kernel
theorem d_Model_arrayPart_46 : decode b_Model_arrayPart 46 = .ok (.dup, 1) := by decide +kernel
theorem d_Model_arrayPart_47 : decode b_Model_arrayPart 47 = .ok (.getfield 184, 3) := by decide +kernel
theorem d_Model_arrayPart_50 : decode b_Model_arrayPart 50 = .ok (.iconst 1, 1) := by decide +kernel
theorem d_Model_arrayPart_51 : decode b_Model_arrayPart 51 = .ok (.iadd, 1) := by decide +kernel
theorem d_Model_arrayPart_52 : decode b_Model_arrayPart 52 = .ok (.putfield 184, 3) := by decide +kernel
theorem d_Model_arrayPart_55 : decode b_Model_arrayPart 55 = .ok (.aload_n 0, 1) := by decide +kernel
theorem d_Model_arrayPart_56 : decode b_Model_arrayPart 56 = .ok (.ldc2_w 272, 3) := by decide +kernel
theorem d_Model_arrayPart_59 : decode b_Model_arrayPart 59 = .ok (.invokevirtual 252, 3) := by decide +kernel
theorem d_Model_arrayPart_62 : decode b_Model_arrayPart 62 = .ok (.aload_n 0, 1) := by decide +kernel
theorem d_Model_arrayPart_63 : decode b_Model_arrayPart 63 = .ok (.ldc2_w 304, 3) := by decide +kernel
theorem d_Model_arrayPart_66 : decode b_Model_arrayPart 66 = .ok (.invokevirtual 252, 3) := by decide +kernel
theorem d_Model_arrayPart_69 : decode b_Model_arrayPart 69 = .ok (.aload_n 0, 1) := by decide +kernel
theorem d_Model_arrayPart_70 : decode b_Model_arrayPart 70 = .ok (.getfield 121, 3) := by decide +kernel
theorem d_Model_arrayPart_73 : decode b_Model_arrayPart 73 = .ok (.ifCond .eq 4, 3) := by decide +kernel
theorem d_Model_arrayPart_76 : decode b_Model_arrayPart 76 = .ok (.return_, 1) := by decide +kernel
theorem d_Model_arrayPart_77 : decode b_Model_arrayPart 77 = .ok (.aload_n 0, 1) := by decide +kernel
theorem d_Model_arrayPart_78 : decode b_Model_arrayPart 78 = .ok (.iload_n 1, 1) := by decide +kernel
theorem d_Model_arrayPart_79 : decode b_Model_arrayPart 79 = .ok (.iconst 0, 1) := by decide +kernel
theorem d_Model_arrayPart_80 : decode b_Model_arrayPart 80 = .ok (.iload_n 2, 1) := by decide +kernel
theorem d_Model_arrayPart_81 : decode b_Model_arrayPart 81 = .ok (.invokevirtual 349, 3) := by decide +kernel
theorem d_Model_arrayPart_84 : decode b_Model_arrayPart 84 = .ok (.pop, 1) := by decide +kernel
theorem d_Model_arrayPart_85 : decode b_Model_arrayPart 85 = .ok (.iload_n 2, 1) := by decide +kernel
theorem d_Model_arrayPart_86 : decode b_Model_arrayPart 86 = .ok (.iconst 1, 1) := by decide +kernel
theorem d_Model_arrayPart_87 : decode b_Model_arrayPart 87 = .ok (.if_icmp .lt 9, 3) := by decide +kernel
theorem d_Model_arrayPart_90 : decode b_Model_arrayPart 90 = .ok (.iload_n 2, 1) := by decide +kernel
theorem d_Model_arrayPart_91 : decode b_Model_arrayPart 91 = .ok (.bipush 16, 2) := by decide +kernel
theorem d_Model_arrayPart_93 : decode b_Model_arrayPart 93 = .ok (.if_icmp .le 8, 3) := by decide +kernel
theorem d_Model_arrayPart_96 : decode b_Model_arrayPart 96 = .ok (.aload_n 0, 1) := by decide +kernel
theorem d_Model_arrayPart_97 : decode b_Model_arrayPart 97 = .ok (.iload_n 3, 1) := by decide +kernel
theorem d_Model_arrayPart_98 : decode b_Model_arrayPart 98 = .ok (.invokevirtual 249, 3) := by decide +kernel
theorem d_Model_arrayPart_101 : decode b_Model_arrayPart 101 = .ok (.return_, 1) := by decide +kernel
def tModel_arrayPart_b1 (k : Nat → St → Int32 → Int32 → Int32 → Option (St)) (σ : St) (x1 : Int32) (x2 : Int32) (x3 : Int32) : Option (St) := b1 (tModel_need σ 93) (fun u5 => b1 (tModel_need u5 59) (fun u6 => if (u6.1 29) = 0 then b2 (tModel_makeGlobal u6 x1 0 x2) (fun r8 u8 => if x2 < 1 then b1 (tModel_notName u8 x3) (fun u10 => some u10) else if x2 ≤ 16 then some u8 else b1 (tModel_notName u8 x3) (fun u12 => some u12)) else some u6))
def tModel_arrayPart_L : Nat → Nat → St → Int32 → Int32 → Int32 → Option (St)
  | 0, _, _, _, _, _ => none
  | n + 1, lab, σ, x1, x2, x3 => match lab with
    | 1 => tModel_arrayPart_b1 (tModel_arrayPart_L n) σ x1 x2 x3
    | _ => none
def tModel_arrayPart (σ : St) (a1 : Int32) : Option (St) := gd (inB ((σ.1 31) + 1) 500) (gd (inB ((σ.1 31) + 1) 500) (if ((σ.2.2.1 16) ((σ.1 31) + 1).toNatClampNeg) = 2 then tModel_arrayPart_L 2000 1 (sI (sI σ 31 ((σ.1 31) + 1)) 31 (((σ.1 31) + 1) + 1)) a1 ((σ.2.2.1 19) ((σ.1 31) + 1).toNatClampNeg) ((σ.1 31) + 1) else b1 (tModel_spoil (sI σ 31 ((σ.1 31) + 1))) (fun u4 => tModel_arrayPart_L 2000 1 u4 a1 ((σ.2.2.1 19) ((σ.1 31) + 1).toNatClampNeg) ((σ.1 31) + 1))))
set_option maxHeartbeats 4000000 in
set_option maxRecDepth 100000 in
theorem tModel_arrayPart_blk {p : Program} {e : Env} {s : State} {m : MethodId} {args : Array Value} {below : List Frame} {meth : Method} {c : Code} {A : Nat → Prop} (l : Launch) (dC : Nat → ClassId) (dI : Nat → Nat → Nat) (ad : Nat → Nat) (cA : Nat → ClassId) {σ' : St} (X : Cx p s m args meth c b_Model_arrayPart 4 none "TinyForgeModel" (dC, dI) (ttys cA) ad A) : ∀ n : Nat, (∀ (σ : St) (x1 : Int32) (x2 : Int32) (x3 : Int32) (H : Heap) (locs : List Loc) (ls : Array Slot), tModel_arrayPart_L n 1 σ x1 x2 x3 = some σ' → va_P (dC, dI) vwCl (tcw ad cA σ) H → va_D A (tcw ad cA σ) → va_S A s.heap H locs → lv_has ls 4 [(0, .ref (ad 11)), (1, .int x1), (2, .int x2), (3, .int x3)] → W p l e { frames := 3, cells := 0, slots := 0, locals := 72 } s m args below meth c H locs 0 0 (MQ below (QV (dC, dI) (ttys cA) (tcw ad cA) A σ') args s 0 0 A) (F0 m 55 ls [])) := by
  obtain ⟨hx, hb, hr, hml, hown, hlocks, hts, hA, hK, hZ⟩ := id X
  intro n
  induction n with
  | zero => exact (fun σ x1 x2 x3 H locs ls hF => by cases hF)
  | succ n ihn =>
    refine fun σ x1 x2 x3 H locs ls hF hP hD hS hl => ?_
    · have hF : tModel_arrayPart_b1 (tModel_arrayPart_L n) σ x1 x2 x3 = some σ' := hF
      unfold tModel_arrayPart_b1 at hF
      refine lv_aload_n hx hb d_Model_arrayPart_55 rfl (lv_at hl 0 rfl) ?_
      refine lv_ldc2 (v := 93) hx hb hown (hts _ w_61319408b8) d_Model_arrayPart_56 ?_
      obtain ⟨u5, h5, hF⟩ := b1E hF
      refine callVV (As := [.long 93]) X (ct_Model_need l dC dI ad cA H.size h5) lk_Model_252 ⟨rfl, rfl, by decide, by decide⟩ 11 rfl rfl hP hD hS hl.1 rfl rfl (Nat.le_of_ble_eq_true rfl) d_Model_arrayPart_59 (fun H locs hP hD hS => ?_)
      refine lv_aload_n hx hb d_Model_arrayPart_62 rfl (lv_at hl 0 rfl) ?_
      refine lv_ldc2 (v := 59) hx hb hown (hts _ w_bf42dcc438) d_Model_arrayPart_63 ?_
      obtain ⟨u6, h6, hF⟩ := b1E hF
      refine callVV (As := [.long 59]) X (ct_Model_need l dC dI ad cA H.size h6) lk_Model_252 ⟨rfl, rfl, by decide, by decide⟩ 11 rfl rfl hP hD hS hl.1 rfl rfl (Nat.le_of_ble_eq_true rfl) d_Model_arrayPart_66 (fun H locs hP hD hS => ?_)
      refine lv_aload_n hx hb d_Model_arrayPart_69 rfl (lv_at hl 0 rfl) ?_
      refine va_get (D := (dC, dI)) (ci := 11) (v := .int (u6.1 29)) hx hb hts i_Model hown hK hP 11 rfl rfl 4 (by decide) (hts _ w_0464dc4398) (fun _ h9 => h9) rfl d_Model_arrayPart_70 ?_
      refine lv_if_eq (tgt := 77) hx hb d_Model_arrayPart_73 (by decide) (fun c_7 => ?_) (fun c_7 => ?_)
      · have hF := ifp hF c_7
        refine lv_aload_n hx hb d_Model_arrayPart_77 rfl (lv_at hl 0 rfl) ?_
        refine lv_iload_n hx hb d_Model_arrayPart_78 rfl (lv_at hl 1 rfl) ?_
        refine lv_iconst (v := 0) hx hb d_Model_arrayPart_79 (by decide) ?_
        refine lv_iload_n hx hb d_Model_arrayPart_80 rfl (lv_at hl 2 rfl) ?_
        obtain ⟨r8, u8, h8, hF⟩ := b2E hF
        refine callVI (As := [.int x1, .int 0, .int x2]) X (ct_Model_makeGlobal l dC dI ad cA H.size h8) lk_Model_349 ⟨rfl, rfl, by decide, by decide⟩ 11 rfl rfl hP hD hS hl.1 rfl rfl (Nat.le_of_ble_eq_true rfl) d_Model_arrayPart_81 (fun H locs hP hD hS => ?_)
        refine lv_pop hx hb d_Model_arrayPart_84 rfl ?_
        refine lv_iload_n hx hb d_Model_arrayPart_85 rfl (lv_at hl 2 rfl) ?_
        refine lv_iconst (v := 1) hx hb d_Model_arrayPart_86 (by decide) ?_
        refine lv_icmp_lt (tgt := 96) hx hb d_Model_arrayPart_87 (by decide) (fun c_9 => ?_) (fun c_9 => ?_)
        · have hF := ifp hF c_9
          refine lv_aload_n hx hb d_Model_arrayPart_96 rfl (lv_at hl 0 rfl) ?_
          refine lv_iload_n hx hb d_Model_arrayPart_97 rfl (lv_at hl 3 rfl) ?_
          obtain ⟨u10, h10, hF⟩ := b1E hF
          refine callVV (As := [.int x3]) X (ct_Model_notName l dC dI ad cA H.size h10) lk_Model_249 ⟨rfl, rfl, by decide, by decide⟩ 11 rfl rfl hP hD hS hl.1 rfl rfl (Nat.le_of_ble_eq_true rfl) d_Model_arrayPart_98 (fun H locs hP hD hS => ?_)
          cases hF
          exact leafV X hP hD hS d_Model_arrayPart_101
        · have hF := ifn hF c_9
          refine lv_iload_n hx hb d_Model_arrayPart_90 rfl (lv_at hl 2 rfl) ?_
          refine lv_bipush (v := 16) hx hb d_Model_arrayPart_91 (by decide) ?_
          refine lv_icmp_le (tgt := 101) hx hb d_Model_arrayPart_93 (by decide) (fun c_11 => ?_) (fun c_11 => ?_)
          · have hF := ifp hF c_11
            cases hF
            exact leafV X hP hD hS d_Model_arrayPart_101
          · have hF := ifn hF c_11
            refine lv_aload_n hx hb d_Model_arrayPart_96 rfl (lv_at hl 0 rfl) ?_
            refine lv_iload_n hx hb d_Model_arrayPart_97 rfl (lv_at hl 3 rfl) ?_
            obtain ⟨u12, h12, hF⟩ := b1E hF
            refine callVV (As := [.int x3]) X (ct_Model_notName l dC dI ad cA H.size h12) lk_Model_249 ⟨rfl, rfl, by decide, by decide⟩ 11 rfl rfl hP hD hS hl.1 rfl rfl (Nat.le_of_ble_eq_true rfl) d_Model_arrayPart_98 (fun H locs hP hD hS => ?_)
            cases hF
            exact leafV X hP hD hS d_Model_arrayPart_101
      · have hF := ifn hF c_7
        cases hF
        exact leafV X hP hD hS d_Model_arrayPart_76
set_option maxHeartbeats 4000000 in
set_option maxRecDepth 100000 in
theorem ct_Model_arrayPart (l : Launch) (dC : Nat → ClassId) (dI : Nat → Nat → Nat) (ad : Nat → Nat) (cA : Nat → ClassId) (sz : Nat) {σ : St} {a1 : Int32} {σ' : St} (hF : tModel_arrayPart σ a1 = some σ') : MV l y_Model_arrayPart b_Model_arrayPart 4 none { frames := 3, cells := 0, slots := 0, locals := 72 } (dC, dI) (ttys cA) ad (tcw ad cA) [.ref (ad 11), .int a1] σ sz σ' := by
  refine startM (own := "TinyForgeModel") (Qc := fun A => QV (dC, dI) (ttys cA) (tcw ad cA) A σ') rfl rfl (Nat.le_of_ble_eq_true rfl) ?_
  intro p e s m below meth c A H locs ls X hP hD hS hl
  have hl : lv_has ls 4 [(0, .ref (ad 11)), (1, .int a1)] := hl
  obtain ⟨hx, hb, hr, hml, hown, hlocks, hts, hA, hK, hZ⟩ := id X
  unfold tModel_arrayPart at hF
  refine lv_aload_n hx hb d_Model_arrayPart_0 rfl (lv_at hl 0 rfl) ?_
  refine lv_dup hx hb d_Model_arrayPart_1 rfl ?_
  refine va_get (D := (dC, dI)) (ci := 11) (v := .int (σ.1 31)) hx hb hts i_Model hown hK hP 11 rfl rfl 6 (by decide) (hts _ w_13cd8e7698) (fun _ h9 => h9) rfl d_Model_arrayPart_2 ?_
  refine lv_iconst (v := 1) hx hb d_Model_arrayPart_5 (by decide) ?_
  refine lv_iadd hx hb d_Model_arrayPart_6 ?_
  refine va_put (D := (dC, dI)) (ci := 11) (v := .int ((σ.1 31) + 1)) (ty := .int) hx hb hts i_Model t_Model t_Model_ok n_Model hown hK hP hD hS 11 rfl rfl 6 (by decide) (hts _ w_13cd8e7698) (fun _ h9 => h9) rfl (by decide +kernel) rfl rfl (Nat.le_of_ble_eq_true rfl) d_Model_arrayPart_7 (fun H locs hP hD hS => ?_)
  have hP : va_P (dC, dI) vwCl (tcw ad cA (sI σ 31 ((σ.1 31) + 1))) H := hP
  have hD : va_D A (tcw ad cA (sI σ 31 ((σ.1 31) + 1))) := hD
  refine lv_aload_n hx hb d_Model_arrayPart_10 rfl (lv_at hl 0 rfl) ?_
  refine va_get (D := (dC, dI)) (ci := 11) (v := .ref (ad 34)) hx hb hts i_Model hown hK hP 11 rfl rfl 12 (by decide) (hts _ w_0d94ca7cfd) (fun _ h9 => h9) rfl d_Model_arrayPart_11 ?_
  refine lv_aload_n hx hb d_Model_arrayPart_14 rfl (lv_at hl 0 rfl) ?_
  refine va_get (D := (dC, dI)) (ci := 11) (v := .int ((σ.1 31) + 1)) hx hb hts i_Model hown hK hP 11 rfl rfl 6 (by decide) (hts _ w_13cd8e7698) (fun _ h9 => h9) rfl d_Model_arrayPart_15 ?_
  obtain ⟨g_1, hF⟩ := gdE hF
  refine va_iald (f := (σ.2.2.1 19)) hx hb hK hP 34 0 rfl rfl (inE g_1) d_Model_arrayPart_18 ?_
  refine lv_istore_n (lv' := [(2, .int ((σ.2.2.1 19) ((σ.1 31) + 1).toNatClampNeg)), (0, .ref (ad 11)), (1, .int a1)]) hx hb d_Model_arrayPart_19 rfl hl (by decide) rfl (fun ls hl => ?_)
  refine lv_aload_n hx hb d_Model_arrayPart_20 rfl (lv_at hl 1 rfl) ?_
  refine va_get (D := (dC, dI)) (ci := 11) (v := .int ((σ.1 31) + 1)) hx hb hts i_Model hown hK hP 11 rfl rfl 6 (by decide) (hts _ w_13cd8e7698) (fun _ h9 => h9) rfl d_Model_arrayPart_21 ?_
  refine lv_istore_n (lv' := [(3, .int ((σ.1 31) + 1)), (2, .int ((σ.2.2.1 19) ((σ.1 31) + 1).toNatClampNeg)), (0, .ref (ad 11)), (1, .int a1)]) hx hb d_Model_arrayPart_24 rfl hl (by decide) rfl (fun ls hl => ?_)
  refine lv_aload_n hx hb d_Model_arrayPart_25 rfl (lv_at hl 2 rfl) ?_
  refine va_get (D := (dC, dI)) (ci := 11) (v := .ref (ad 31)) hx hb hts i_Model hown hK hP 11 rfl rfl 9 (by decide) (hts _ w_f071529ab8) (fun _ h9 => h9) rfl d_Model_arrayPart_26 ?_
  refine lv_aload_n hx hb d_Model_arrayPart_29 rfl (lv_at hl 2 rfl) ?_
  refine va_get (D := (dC, dI)) (ci := 11) (v := .int ((σ.1 31) + 1)) hx hb hts i_Model hown hK hP 11 rfl rfl 6 (by decide) (hts _ w_13cd8e7698) (fun _ h9 => h9) rfl d_Model_arrayPart_30 ?_
  obtain ⟨g_2, hF⟩ := gdE hF
  refine va_iald (f := (σ.2.2.1 16)) hx hb hK hP 31 0 rfl rfl (inE g_2) d_Model_arrayPart_33 ?_
  refine lv_iconst (v := 2) hx hb d_Model_arrayPart_34 (by decide) ?_
  refine lv_icmp_eq (tgt := 45) hx hb d_Model_arrayPart_35 (by decide) (fun c_3 => ?_) (fun c_3 => ?_)
  · have hF := ifp hF c_3
    refine lv_aload_n hx hb d_Model_arrayPart_45 rfl (lv_at hl 2 rfl) ?_
    refine lv_dup hx hb d_Model_arrayPart_46 rfl ?_
    refine va_get (D := (dC, dI)) (ci := 11) (v := .int ((σ.1 31) + 1)) hx hb hts i_Model hown hK hP 11 rfl rfl 6 (by decide) (hts _ w_13cd8e7698) (fun _ h9 => h9) rfl d_Model_arrayPart_47 ?_
    refine lv_iconst (v := 1) hx hb d_Model_arrayPart_50 (by decide) ?_
    refine lv_iadd hx hb d_Model_arrayPart_51 ?_
    refine va_put (D := (dC, dI)) (ci := 11) (v := .int (((σ.1 31) + 1) + 1)) (ty := .int) hx hb hts i_Model t_Model t_Model_ok n_Model hown hK hP hD hS 11 rfl rfl 6 (by decide) (hts _ w_13cd8e7698) (fun _ h9 => h9) rfl (by decide +kernel) rfl rfl (Nat.le_of_ble_eq_true rfl) d_Model_arrayPart_52 (fun H locs hP hD hS => ?_)
    have hP : va_P (dC, dI) vwCl (tcw ad cA (sI (sI σ 31 ((σ.1 31) + 1)) 31 (((σ.1 31) + 1) + 1))) H := hP
    have hD : va_D A (tcw ad cA (sI (sI σ 31 ((σ.1 31) + 1)) 31 (((σ.1 31) + 1) + 1))) := hD
    exact (tModel_arrayPart_blk l dC dI ad cA X 2000) (sI (sI σ 31 ((σ.1 31) + 1)) 31 (((σ.1 31) + 1) + 1)) a1 ((σ.2.2.1 19) ((σ.1 31) + 1).toNatClampNeg) ((σ.1 31) + 1) H locs ls hF hP hD hS (lv_sub hl [2, 3, 1, 0] rfl)
  · have hF := ifn hF c_3
    refine lv_aload_n hx hb d_Model_arrayPart_38 rfl (lv_at hl 2 rfl) ?_
    obtain ⟨u4, h4, hF⟩ := b1E hF
    refine callVV (As := []) X (ct_Model_spoil l dC dI ad cA H.size h4) lk_Model_194 ⟨rfl, rfl, by decide, by decide⟩ 11 rfl rfl hP hD hS hl.1 rfl rfl (Nat.le_of_ble_eq_true rfl) d_Model_arrayPart_39 (fun H locs hP hD hS => ?_)
    refine lv_goto (tgt := 55) hx hb d_Model_arrayPart_42 (by decide) ?_
    exact (tModel_arrayPart_blk l dC dI ad cA X 2000) u4 a1 ((σ.2.2.1 19) ((σ.1 31) + 1).toNatClampNeg) ((σ.1 31) + 1) H locs ls hF hP hD hS (lv_sub hl [2, 3, 1, 0] rfl)
