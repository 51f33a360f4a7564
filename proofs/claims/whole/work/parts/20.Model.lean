theorem d_TinyForgeModel_addLast_0 : decode b_TinyForgeModel_addLast 0 = .ok (.aload_n 0, 1) := by decide +kernel
theorem d_TinyForgeModel_addLast_1 : decode b_TinyForgeModel_addLast 1 = .ok (.getfield 36, 3) := by decide +kernel
theorem d_TinyForgeModel_addLast_4 : decode b_TinyForgeModel_addLast 4 = .ok (.iload_n 1, 1) := by decide +kernel
theorem d_TinyForgeModel_addLast_5 : decode b_TinyForgeModel_addLast 5 = .ok (.iaload, 1) := by decide +kernel
theorem d_TinyForgeModel_addLast_6 : decode b_TinyForgeModel_addLast 6 = .ok (.ifCond .ge 13, 3) := by decide +kernel
theorem d_TinyForgeModel_addLast_9 : decode b_TinyForgeModel_addLast 9 = .ok (.aload_n 0, 1) := by decide +kernel
theorem d_TinyForgeModel_addLast_10 : decode b_TinyForgeModel_addLast 10 = .ok (.getfield 36, 3) := by decide +kernel
theorem d_TinyForgeModel_addLast_13 : decode b_TinyForgeModel_addLast 13 = .ok (.iload_n 1, 1) := by decide +kernel
theorem d_TinyForgeModel_addLast_14 : decode b_TinyForgeModel_addLast 14 = .ok (.iload_n 2, 1) := by decide +kernel
theorem d_TinyForgeModel_addLast_15 : decode b_TinyForgeModel_addLast 15 = .ok (.iastore, 1) := by decide +kernel
theorem d_TinyForgeModel_addLast_16 : decode b_TinyForgeModel_addLast 16 = .ok (.goto 15, 3) := by decide +kernel
theorem d_TinyForgeModel_addLast_19 : decode b_TinyForgeModel_addLast 19 = .ok (.aload_n 0, 1) := by decide +kernel
theorem d_TinyForgeModel_addLast_20 : decode b_TinyForgeModel_addLast 20 = .ok (.getfield 45, 3) := by decide +kernel
theorem d_TinyForgeModel_addLast_23 : decode b_TinyForgeModel_addLast 23 = .ok (.aload_n 0, 1) := by decide +kernel
theorem d_TinyForgeModel_addLast_24 : decode b_TinyForgeModel_addLast 24 = .ok (.getfield 39, 3) := by decide +kernel
theorem d_TinyForgeModel_addLast_27 : decode b_TinyForgeModel_addLast 27 = .ok (.iload_n 1, 1) := by decide +kernel
theorem d_TinyForgeModel_addLast_28 : decode b_TinyForgeModel_addLast 28 = .ok (.iaload, 1) := by decide +kernel
theorem d_TinyForgeModel_addLast_29 : decode b_TinyForgeModel_addLast 29 = .ok (.iload_n 2, 1) := by decide +kernel
theorem d_TinyForgeModel_addLast_30 : decode b_TinyForgeModel_addLast 30 = .ok (.iastore, 1) := by decide +kernel
theorem d_TinyForgeModel_addLast_31 : decode b_TinyForgeModel_addLast 31 = .ok (.aload_n 0, 1) := by decide +kernel
theorem d_TinyForgeModel_addLast_32 : decode b_TinyForgeModel_addLast 32 = .ok (.getfield 39, 3) := by decide +kernel
theorem d_TinyForgeModel_addLast_35 : decode b_TinyForgeModel_addLast 35 = .ok (.iload_n 1, 1) := by decide +kernel
theorem d_TinyForgeModel_addLast_36 : decode b_TinyForgeModel_addLast 36 = .ok (.iload_n 2, 1) := by decide +kernel
theorem d_TinyForgeModel_addLast_37 : decode b_TinyForgeModel_addLast 37 = .ok (.iastore, 1) := by decide +kernel
theorem d_TinyForgeModel_addLast_38 : decode b_TinyForgeModel_addLast 38 = .ok (.aload_n 0, 1) := by decide +kernel
theorem d_TinyForgeModel_addLast_39 : decode b_TinyForgeModel_addLast 39 = .ok (.getfield 33, 3) := by decide +kernel
theorem d_TinyForgeModel_addLast_42 : decode b_TinyForgeModel_addLast 42 = .ok (.iload_n 1, 1) := by decide +kernel
theorem d_TinyForgeModel_addLast_43 : decode b_TinyForgeModel_addLast 43 = .ok (.dup2, 1) := by decide +kernel
theorem d_TinyForgeModel_addLast_44 : decode b_TinyForgeModel_addLast 44 = .ok (.iaload, 1) := by decide +kernel
theorem d_TinyForgeModel_addLast_45 : decode b_TinyForgeModel_addLast 45 = .ok (.iconst 1, 1) := by decide +kernel
theorem d_TinyForgeModel_addLast_46 : decode b_TinyForgeModel_addLast 46 = .ok (.iadd, 1) := by decide +kernel
theorem d_TinyForgeModel_addLast_47 : decode b_TinyForgeModel_addLast 47 = .ok (.iastore, 1) := by decide +kernel
theorem d_TinyForgeModel_addLast_48 : decode b_TinyForgeModel_addLast 48 = .ok (.return_, 1) := by decide +kernel
theorem mw_0 : Cond.fieldLink "TinyForgeModel" 36 "TinyForgeModel" "one" "[I" ∈ BIG := List.mem_filter.mpr ⟨List.mem_of_getElem? (i := 1161) (by decide +kernel), by decide +kernel⟩
theorem mw_1 : Cond.fieldLink "TinyForgeModel" 45 "TinyForgeModel" "next" "[I" ∈ BIG := List.mem_filter.mpr ⟨List.mem_of_getElem? (i := 1164) (by decide +kernel), by decide +kernel⟩
theorem mw_2 : Cond.fieldLink "TinyForgeModel" 39 "TinyForgeModel" "two" "[I" ∈ BIG := List.mem_filter.mpr ⟨List.mem_of_getElem? (i := 1162) (by decide +kernel), by decide +kernel⟩
theorem mw_3 : Cond.fieldLink "TinyForgeModel" 33 "TinyForgeModel" "what" "[I" ∈ BIG := List.mem_filter.mpr ⟨List.mem_of_getElem? (i := 1160) (by decide +kernel), by decide +kernel⟩
def mTinyForgeModel_addLast_b1 (k : Nat → St → Int32 → Int32 → Option (St)) (σ : St) (x1 : Int32) (x2 : Int32) : Option (St) := gd (inB x1 500) (gd (inB x1 500) (gd (inB x1 500) (some (sA (sA σ 8 (upd (σ.2.2.1 8) x1.toNatClampNeg x2)) 6 (upd (σ.2.2.1 6) x1.toNatClampNeg (((σ.2.2.1 6) x1.toNatClampNeg) + 1))))))
def mTinyForgeModel_addLast_L : Nat → Nat → St → Int32 → Int32 → Option (St)
  | 0, _, _, _, _ => none
  | n + 1, lab, σ, x1, x2 => match lab with
    | 1 => mTinyForgeModel_addLast_b1 (mTinyForgeModel_addLast_L n) σ x1 x2
    | _ => none
def mTinyForgeModel_addLast (σ : St) (a1 : Int32) (a2 : Int32) : Option (St) := gd (inB a1 500) (if (0 : Int32) ≤ ((σ.2.2.1 7) a1.toNatClampNeg) then gd (inB a1 500) (gd (inB ((σ.2.2.1 8) a1.toNatClampNeg) 500) (mTinyForgeModel_addLast_L 2000 1 (sA σ 10 (upd (σ.2.2.1 10) ((σ.2.2.1 8) a1.toNatClampNeg).toNatClampNeg a2)) a1 a2)) else gd (inB a1 500) (mTinyForgeModel_addLast_L 2000 1 (sA σ 7 (upd (σ.2.2.1 7) a1.toNatClampNeg a2)) a1 a2))
set_option maxHeartbeats 4000000 in
set_option maxRecDepth 100000 in
theorem mTinyForgeModel_addLast_blk {p : Program} {e : Env} {s : State} {m : MethodId} {args : Array Value} {below : List Frame} {meth : Method} {c : Code} {A : Nat → Prop} (l : Launch) (dC : Nat → ClassId) (dI : Nat → Nat → Nat) (ad : Nat → Nat) (cA : Nat → ClassId) {σ' : St} (X : Cx p s m args meth c b_TinyForgeModel_addLast 3 none "TinyForgeModel" (dC, dI) (mtys cA) ad A) : ∀ n : Nat, (∀ (σ : St) (x1 : Int32) (x2 : Int32) (H : Heap) (locs : List Loc) (ls : Array Slot), mTinyForgeModel_addLast_L n 1 σ x1 x2 = some σ' → va_P (dC, dI) vwCl (mcw ad cA σ) H → va_D A (mcw ad cA σ) → va_S A s.heap H locs → lv_has ls 3 [(0, .ref (ad 0)), (1, .int x1), (2, .int x2)] → W p l e { frames := 0, cells := 0, slots := 0, locals := 0 } s m args below meth c H locs 0 0 (MQ below (QV (dC, dI) (mtys cA) (mcw ad cA) A σ') args s 0 0 A) (F0 m 31 ls [])) := by
  obtain ⟨hx, hb, hr, hml, hown, hlocks, hts, hA, hK, hZ⟩ := id X
  intro n
  induction n with
  | zero => exact (fun σ x1 x2 H locs ls hF => by cases hF)
  | succ n ihn =>
    refine fun σ x1 x2 H locs ls hF hP hD hS hl => ?_
    · have hF : mTinyForgeModel_addLast_b1 (mTinyForgeModel_addLast_L n) σ x1 x2 = some σ' := hF
      unfold mTinyForgeModel_addLast_b1 at hF
      refine lv_aload_n hx hb d_TinyForgeModel_addLast_31 rfl (lv_at hl 0 rfl) ?_
      refine va_get (D := (dC, dI)) (ci := 11) (v := .ref (ad 9)) hx hb hts i_TinyForgeModel hown hK hP 0 rfl rfl 17 (by decide) (hts _ mw_2) (fun _ h9 => h9) rfl d_TinyForgeModel_addLast_32 ?_
      refine lv_iload_n hx hb d_TinyForgeModel_addLast_35 rfl (lv_at hl 1 rfl) ?_
      refine lv_iload_n hx hb d_TinyForgeModel_addLast_36 rfl (lv_at hl 2 rfl) ?_
      obtain ⟨g_6, hF⟩ := gdE hF
      refine va_iast (f := (σ.2.2.1 8)) hx hb hK hP hD hS 9 0 rfl rfl (inE g_6) d_TinyForgeModel_addLast_37 (fun H locs hP hD hS => ?_)
      have hP : va_P (dC, dI) vwCl (mcw ad cA (sA σ 8 (upd (σ.2.2.1 8) x1.toNatClampNeg x2))) H := hP
      have hD : va_D A (mcw ad cA (sA σ 8 (upd (σ.2.2.1 8) x1.toNatClampNeg x2))) := hD
      refine lv_aload_n hx hb d_TinyForgeModel_addLast_38 rfl (lv_at hl 0 rfl) ?_
      refine va_get (D := (dC, dI)) (ci := 11) (v := .ref (ad 7)) hx hb hts i_TinyForgeModel hown hK hP 0 rfl rfl 15 (by decide) (hts _ mw_3) (fun _ h9 => h9) rfl d_TinyForgeModel_addLast_39 ?_
      refine lv_iload_n hx hb d_TinyForgeModel_addLast_42 rfl (lv_at hl 1 rfl) ?_
      refine lv_dup2_11 hx hb d_TinyForgeModel_addLast_43 rfl rfl ?_
      obtain ⟨g_7, hF⟩ := gdE hF
      refine va_iald (f := (σ.2.2.1 6)) hx hb hK hP 7 0 rfl rfl (inE g_7) d_TinyForgeModel_addLast_44 ?_
      refine lv_iconst (v := 1) hx hb d_TinyForgeModel_addLast_45 (by decide) ?_
      refine lv_iadd hx hb d_TinyForgeModel_addLast_46 ?_
      obtain ⟨g_8, hF⟩ := gdE hF
      refine va_iast (f := (σ.2.2.1 6)) hx hb hK hP hD hS 7 0 rfl rfl (inE g_8) d_TinyForgeModel_addLast_47 (fun H locs hP hD hS => ?_)
      have hP : va_P (dC, dI) vwCl (mcw ad cA (sA (sA σ 8 (upd (σ.2.2.1 8) x1.toNatClampNeg x2)) 6 (upd (σ.2.2.1 6) x1.toNatClampNeg (((σ.2.2.1 6) x1.toNatClampNeg) + 1)))) H := hP
      have hD : va_D A (mcw ad cA (sA (sA σ 8 (upd (σ.2.2.1 8) x1.toNatClampNeg x2)) 6 (upd (σ.2.2.1 6) x1.toNatClampNeg (((σ.2.2.1 6) x1.toNatClampNeg) + 1)))) := hD
      cases hF
      exact leafV X hP hD hS d_TinyForgeModel_addLast_48
set_option maxHeartbeats 4000000 in
set_option maxRecDepth 100000 in
theorem ct_TinyForgeModel_addLast (l : Launch) (dC : Nat → ClassId) (dI : Nat → Nat → Nat) (ad : Nat → Nat) (cA : Nat → ClassId) (sz : Nat) {σ : St} {a1 : Int32} {a2 : Int32} {σ' : St} (hF : mTinyForgeModel_addLast σ a1 a2 = some σ') : MV l y_TinyForgeModel_addLast b_TinyForgeModel_addLast 3 none { frames := 0, cells := 0, slots := 0, locals := 0 } (dC, dI) (mtys cA) ad (mcw ad cA) [.ref (ad 0), .int a1, .int a2] σ sz σ' := by
  refine startM (own := "TinyForgeModel") (Qc := fun A => QV (dC, dI) (mtys cA) (mcw ad cA) A σ') rfl rfl (Nat.le_of_ble_eq_true rfl) ?_
  intro p e s m below meth c A H locs ls X hP hD hS hl
  have hl : lv_has ls 3 [(0, .ref (ad 0)), (1, .int a1), (2, .int a2)] := hl
  obtain ⟨hx, hb, hr, hml, hown, hlocks, hts, hA, hK, hZ⟩ := id X
  unfold mTinyForgeModel_addLast at hF
  refine lv_aload_n hx hb d_TinyForgeModel_addLast_0 rfl (lv_at hl 0 rfl) ?_
  refine va_get (D := (dC, dI)) (ci := 11) (v := .ref (ad 8)) hx hb hts i_TinyForgeModel hown hK hP 0 rfl rfl 16 (by decide) (hts _ mw_0) (fun _ h9 => h9) rfl d_TinyForgeModel_addLast_1 ?_
  refine lv_iload_n hx hb d_TinyForgeModel_addLast_4 rfl (lv_at hl 1 rfl) ?_
  obtain ⟨g_1, hF⟩ := gdE hF
  refine va_iald (f := (σ.2.2.1 7)) hx hb hK hP 8 0 rfl rfl (inE g_1) d_TinyForgeModel_addLast_5 ?_
  refine lv_if_ge (tgt := 19) hx hb d_TinyForgeModel_addLast_6 (by decide) (fun c_2 => ?_) (fun c_2 => ?_)
  · have hF := ifp hF c_2
    refine lv_aload_n hx hb d_TinyForgeModel_addLast_19 rfl (lv_at hl 0 rfl) ?_
    refine va_get (D := (dC, dI)) (ci := 11) (v := .ref (ad 11)) hx hb hts i_TinyForgeModel hown hK hP 0 rfl rfl 19 (by decide) (hts _ mw_1) (fun _ h9 => h9) rfl d_TinyForgeModel_addLast_20 ?_
    refine lv_aload_n hx hb d_TinyForgeModel_addLast_23 rfl (lv_at hl 0 rfl) ?_
    refine va_get (D := (dC, dI)) (ci := 11) (v := .ref (ad 9)) hx hb hts i_TinyForgeModel hown hK hP 0 rfl rfl 17 (by decide) (hts _ mw_2) (fun _ h9 => h9) rfl d_TinyForgeModel_addLast_24 ?_
    refine lv_iload_n hx hb d_TinyForgeModel_addLast_27 rfl (lv_at hl 1 rfl) ?_
    obtain ⟨g_3, hF⟩ := gdE hF
    refine va_iald (f := (σ.2.2.1 8)) hx hb hK hP 9 0 rfl rfl (inE g_3) d_TinyForgeModel_addLast_28 ?_
    refine lv_iload_n hx hb d_TinyForgeModel_addLast_29 rfl (lv_at hl 2 rfl) ?_
    obtain ⟨g_4, hF⟩ := gdE hF
    refine va_iast (f := (σ.2.2.1 10)) hx hb hK hP hD hS 11 0 rfl rfl (inE g_4) d_TinyForgeModel_addLast_30 (fun H locs hP hD hS => ?_)
    have hP : va_P (dC, dI) vwCl (mcw ad cA (sA σ 10 (upd (σ.2.2.1 10) ((σ.2.2.1 8) a1.toNatClampNeg).toNatClampNeg a2))) H := hP
    have hD : va_D A (mcw ad cA (sA σ 10 (upd (σ.2.2.1 10) ((σ.2.2.1 8) a1.toNatClampNeg).toNatClampNeg a2))) := hD
    exact (mTinyForgeModel_addLast_blk l dC dI ad cA X 2000) (sA σ 10 (upd (σ.2.2.1 10) ((σ.2.2.1 8) a1.toNatClampNeg).toNatClampNeg a2)) a1 a2 H locs ls hF hP hD hS (lv_sub hl [0, 1, 2] rfl)
  · have hF := ifn hF c_2
    refine lv_aload_n hx hb d_TinyForgeModel_addLast_9 rfl (lv_at hl 0 rfl) ?_
    refine va_get (D := (dC, dI)) (ci := 11) (v := .ref (ad 8)) hx hb hts i_TinyForgeModel hown hK hP 0 rfl rfl 16 (by decide) (hts _ mw_0) (fun _ h9 => h9) rfl d_TinyForgeModel_addLast_10 ?_
    refine lv_iload_n hx hb d_TinyForgeModel_addLast_13 rfl (lv_at hl 1 rfl) ?_
    refine lv_iload_n hx hb d_TinyForgeModel_addLast_14 rfl (lv_at hl 2 rfl) ?_
    obtain ⟨g_5, hF⟩ := gdE hF
    refine va_iast (f := (σ.2.2.1 7)) hx hb hK hP hD hS 8 0 rfl rfl (inE g_5) d_TinyForgeModel_addLast_15 (fun H locs hP hD hS => ?_)
    have hP : va_P (dC, dI) vwCl (mcw ad cA (sA σ 7 (upd (σ.2.2.1 7) a1.toNatClampNeg a2))) H := hP
    have hD : va_D A (mcw ad cA (sA σ 7 (upd (σ.2.2.1 7) a1.toNatClampNeg a2))) := hD
    refine lv_goto (tgt := 31) hx hb d_TinyForgeModel_addLast_16 (by decide) ?_
    exact (mTinyForgeModel_addLast_blk l dC dI ad cA X 2000) (sA σ 7 (upd (σ.2.2.1 7) a1.toNatClampNeg a2)) a1 a2 H locs ls hF hP hD hS (lv_sub hl [0, 1, 2] rfl)
theorem d_TinyForgeModel_addToken_0 : decode b_TinyForgeModel_addToken 0 = .ok (.aload_n 0, 1) := by decide +kernel
theorem d_TinyForgeModel_addToken_1 : decode b_TinyForgeModel_addToken 1 = .ok (.getfield 17, 3) := by decide +kernel
theorem d_TinyForgeModel_addToken_4 : decode b_TinyForgeModel_addToken 4 = .ok (.aload_n 0, 1) := by decide +kernel
theorem d_TinyForgeModel_addToken_5 : decode b_TinyForgeModel_addToken 5 = .ok (.getfield 131, 3) := by decide +kernel
theorem d_TinyForgeModel_addToken_8 : decode b_TinyForgeModel_addToken 8 = .ok (.iload_n 1, 1) := by decide +kernel
theorem d_TinyForgeModel_addToken_9 : decode b_TinyForgeModel_addToken 9 = .ok (.iastore, 1) := by decide +kernel
theorem d_TinyForgeModel_addToken_10 : decode b_TinyForgeModel_addToken 10 = .ok (.aload_n 0, 1) := by decide +kernel
theorem d_TinyForgeModel_addToken_11 : decode b_TinyForgeModel_addToken 11 = .ok (.getfield 21, 3) := by decide +kernel
theorem d_TinyForgeModel_addToken_14 : decode b_TinyForgeModel_addToken 14 = .ok (.aload_n 0, 1) := by decide +kernel
theorem d_TinyForgeModel_addToken_15 : decode b_TinyForgeModel_addToken 15 = .ok (.getfield 131, 3) := by decide +kernel
theorem d_TinyForgeModel_addToken_18 : decode b_TinyForgeModel_addToken 18 = .ok (.iload_n 2, 1) := by decide +kernel
theorem d_TinyForgeModel_addToken_19 : decode b_TinyForgeModel_addToken 19 = .ok (.iastore, 1) := by decide +kernel
theorem d_TinyForgeModel_addToken_20 : decode b_TinyForgeModel_addToken 20 = .ok (.aload_n 0, 1) := by decide +kernel
theorem d_TinyForgeModel_addToken_21 : decode b_TinyForgeModel_addToken 21 = .ok (.getfield 24, 3) := by decide +kernel
theorem d_TinyForgeModel_addToken_24 : decode b_TinyForgeModel_addToken 24 = .ok (.aload_n 0, 1) := by decide +kernel
theorem d_TinyForgeModel_addToken_25 : decode b_TinyForgeModel_addToken 25 = .ok (.getfield 131, 3) := by decide +kernel
theorem d_TinyForgeModel_addToken_28 : decode b_TinyForgeModel_addToken 28 = .ok (.iload_n 3, 1) := by decide +kernel
theorem d_TinyForgeModel_addToken_29 : decode b_TinyForgeModel_addToken 29 = .ok (.iastore, 1) := by decide +kernel
theorem d_TinyForgeModel_addToken_30 : decode b_TinyForgeModel_addToken 30 = .ok (.aload_n 0, 1) := by decide +kernel
theorem d_TinyForgeModel_addToken_31 : decode b_TinyForgeModel_addToken 31 = .ok (.getfield 27, 3) := by decide +kernel
theorem d_TinyForgeModel_addToken_34 : decode b_TinyForgeModel_addToken 34 = .ok (.aload_n 0, 1) := by decide +kernel
theorem d_TinyForgeModel_addToken_35 : decode b_TinyForgeModel_addToken 35 = .ok (.getfield 131, 3) := by decide +kernel
theorem d_TinyForgeModel_addToken_38 : decode b_TinyForgeModel_addToken 38 = .ok (.iload 4, 2) := by decide +kernel
theorem d_TinyForgeModel_addToken_40 : decode b_TinyForgeModel_addToken 40 = .ok (.iastore, 1) := by decide +kernel
theorem d_TinyForgeModel_addToken_41 : decode b_TinyForgeModel_addToken 41 = .ok (.aload_n 0, 1) := by decide +kernel
theorem d_TinyForgeModel_addToken_42 : decode b_TinyForgeModel_addToken 42 = .ok (.dup, 1) := by decide +kernel
theorem d_TinyForgeModel_addToken_43 : decode b_TinyForgeModel_addToken 43 = .ok (.getfield 131, 3) := by decide +kernel
theorem d_TinyForgeModel_addToken_46 : decode b_TinyForgeModel_addToken 46 = .ok (.iconst 1, 1) := by decide +kernel
theorem d_TinyForgeModel_addToken_47 : decode b_TinyForgeModel_addToken 47 = .ok (.iadd, 1) := by decide +kernel
theorem d_TinyForgeModel_addToken_48 : decode b_TinyForgeModel_addToken 48 = .ok (.putfield 131, 3) := by decide +kernel
theorem d_TinyForgeModel_addToken_51 : decode b_TinyForgeModel_addToken 51 = .ok (.return_, 1) := by decide +kernel
theorem mw_4 : Cond.fieldLink "TinyForgeModel" 17 "TinyForgeModel" "kind" "[I" ∈ BIG := List.mem_filter.mpr ⟨List.mem_of_getElem? (i := 1154) (by decide +kernel), by decide +kernel⟩
theorem mw_5 : Cond.fieldLink "TinyForgeModel" 131 "TinyForgeModel" "tokens" "I" ∈ BIG := List.mem_filter.mpr ⟨List.mem_of_getElem? (i := 1148) (by decide +kernel), by decide +kernel⟩
theorem mw_6 : Cond.fieldLink "TinyForgeModel" 21 "TinyForgeModel" "place" "[I" ∈ BIG := List.mem_filter.mpr ⟨List.mem_of_getElem? (i := 1155) (by decide +kernel), by decide +kernel⟩
theorem mw_7 : Cond.fieldLink "TinyForgeModel" 24 "TinyForgeModel" "size" "[I" ∈ BIG := List.mem_filter.mpr ⟨List.mem_of_getElem? (i := 1156) (by decide +kernel), by decide +kernel⟩
theorem mw_8 : Cond.fieldLink "TinyForgeModel" 27 "TinyForgeModel" "number" "[I" ∈ BIG := List.mem_filter.mpr ⟨List.mem_of_getElem? (i := 1157) (by decide +kernel), by decide +kernel⟩
def mTinyForgeModel_addToken (σ : St) (a1 : Int32) (a2 : Int32) (a3 : Int32) (a4 : Int32) : Option (St) := gd (inB (σ.1 2) 500) (gd (inB (σ.1 2) 500) (gd (inB (σ.1 2) 500) (gd (inB (σ.1 2) 500) (some (sI (sA (sA (sA (sA σ 1 (upd (σ.2.2.1 1) (σ.1 2).toNatClampNeg a1)) 2 (upd (σ.2.2.1 2) (σ.1 2).toNatClampNeg a2)) 3 (upd (σ.2.2.1 3) (σ.1 2).toNatClampNeg a3)) 4 (upd (σ.2.2.1 4) (σ.1 2).toNatClampNeg a4)) 2 ((σ.1 2) + 1))))))
set_option maxHeartbeats 4000000 in
set_option maxRecDepth 100000 in
theorem ct_TinyForgeModel_addToken (l : Launch) (dC : Nat → ClassId) (dI : Nat → Nat → Nat) (ad : Nat → Nat) (cA : Nat → ClassId) (sz : Nat) {σ : St} {a1 : Int32} {a2 : Int32} {a3 : Int32} {a4 : Int32} {σ' : St} (hF : mTinyForgeModel_addToken σ a1 a2 a3 a4 = some σ') : MV l y_TinyForgeModel_addToken b_TinyForgeModel_addToken 5 none { frames := 0, cells := 0, slots := 0, locals := 0 } (dC, dI) (mtys cA) ad (mcw ad cA) [.ref (ad 0), .int a1, .int a2, .int a3, .int a4] σ sz σ' := by
  refine startM (own := "TinyForgeModel") (Qc := fun A => QV (dC, dI) (mtys cA) (mcw ad cA) A σ') rfl rfl (Nat.le_of_ble_eq_true rfl) ?_
  intro p e s m below meth c A H locs ls X hP hD hS hl
  have hl : lv_has ls 5 [(0, .ref (ad 0)), (1, .int a1), (2, .int a2), (3, .int a3), (4, .int a4)] := hl
  obtain ⟨hx, hb, hr, hml, hown, hlocks, hts, hA, hK, hZ⟩ := id X
  unfold mTinyForgeModel_addToken at hF
  refine lv_aload_n hx hb d_TinyForgeModel_addToken_0 rfl (lv_at hl 0 rfl) ?_
  refine va_get (D := (dC, dI)) (ci := 11) (v := .ref (ad 2)) hx hb hts i_TinyForgeModel hown hK hP 0 rfl rfl 9 (by decide) (hts _ mw_4) (fun _ h9 => h9) rfl d_TinyForgeModel_addToken_1 ?_
  refine lv_aload_n hx hb d_TinyForgeModel_addToken_4 rfl (lv_at hl 0 rfl) ?_
  refine va_get (D := (dC, dI)) (ci := 11) (v := .int (σ.1 2)) hx hb hts i_TinyForgeModel hown hK hP 0 rfl rfl 3 (by decide) (hts _ mw_5) (fun _ h9 => h9) rfl d_TinyForgeModel_addToken_5 ?_
  refine lv_iload_n hx hb d_TinyForgeModel_addToken_8 rfl (lv_at hl 1 rfl) ?_
  obtain ⟨g_1, hF⟩ := gdE hF
  refine va_iast (f := (σ.2.2.1 1)) hx hb hK hP hD hS 2 0 rfl rfl (inE g_1) d_TinyForgeModel_addToken_9 (fun H locs hP hD hS => ?_)
  have hP : va_P (dC, dI) vwCl (mcw ad cA (sA σ 1 (upd (σ.2.2.1 1) (σ.1 2).toNatClampNeg a1))) H := hP
  have hD : va_D A (mcw ad cA (sA σ 1 (upd (σ.2.2.1 1) (σ.1 2).toNatClampNeg a1))) := hD
  refine lv_aload_n hx hb d_TinyForgeModel_addToken_10 rfl (lv_at hl 0 rfl) ?_
  refine va_get (D := (dC, dI)) (ci := 11) (v := .ref (ad 3)) hx hb hts i_TinyForgeModel hown hK hP 0 rfl rfl 10 (by decide) (hts _ mw_6) (fun _ h9 => h9) rfl d_TinyForgeModel_addToken_11 ?_
  refine lv_aload_n hx hb d_TinyForgeModel_addToken_14 rfl (lv_at hl 0 rfl) ?_
  refine va_get (D := (dC, dI)) (ci := 11) (v := .int (σ.1 2)) hx hb hts i_TinyForgeModel hown hK hP 0 rfl rfl 3 (by decide) (hts _ mw_5) (fun _ h9 => h9) rfl d_TinyForgeModel_addToken_15 ?_
  refine lv_iload_n hx hb d_TinyForgeModel_addToken_18 rfl (lv_at hl 2 rfl) ?_
  obtain ⟨g_2, hF⟩ := gdE hF
  refine va_iast (f := (σ.2.2.1 2)) hx hb hK hP hD hS 3 0 rfl rfl (inE g_2) d_TinyForgeModel_addToken_19 (fun H locs hP hD hS => ?_)
  have hP : va_P (dC, dI) vwCl (mcw ad cA (sA (sA σ 1 (upd (σ.2.2.1 1) (σ.1 2).toNatClampNeg a1)) 2 (upd (σ.2.2.1 2) (σ.1 2).toNatClampNeg a2))) H := hP
  have hD : va_D A (mcw ad cA (sA (sA σ 1 (upd (σ.2.2.1 1) (σ.1 2).toNatClampNeg a1)) 2 (upd (σ.2.2.1 2) (σ.1 2).toNatClampNeg a2))) := hD
  refine lv_aload_n hx hb d_TinyForgeModel_addToken_20 rfl (lv_at hl 0 rfl) ?_
  refine va_get (D := (dC, dI)) (ci := 11) (v := .ref (ad 4)) hx hb hts i_TinyForgeModel hown hK hP 0 rfl rfl 11 (by decide) (hts _ mw_7) (fun _ h9 => h9) rfl d_TinyForgeModel_addToken_21 ?_
  refine lv_aload_n hx hb d_TinyForgeModel_addToken_24 rfl (lv_at hl 0 rfl) ?_
  refine va_get (D := (dC, dI)) (ci := 11) (v := .int (σ.1 2)) hx hb hts i_TinyForgeModel hown hK hP 0 rfl rfl 3 (by decide) (hts _ mw_5) (fun _ h9 => h9) rfl d_TinyForgeModel_addToken_25 ?_
  refine lv_iload_n hx hb d_TinyForgeModel_addToken_28 rfl (lv_at hl 3 rfl) ?_
  obtain ⟨g_3, hF⟩ := gdE hF
  refine va_iast (f := (σ.2.2.1 3)) hx hb hK hP hD hS 4 0 rfl rfl (inE g_3) d_TinyForgeModel_addToken_29 (fun H locs hP hD hS => ?_)
  have hP : va_P (dC, dI) vwCl (mcw ad cA (sA (sA (sA σ 1 (upd (σ.2.2.1 1) (σ.1 2).toNatClampNeg a1)) 2 (upd (σ.2.2.1 2) (σ.1 2).toNatClampNeg a2)) 3 (upd (σ.2.2.1 3) (σ.1 2).toNatClampNeg a3))) H := hP
  have hD : va_D A (mcw ad cA (sA (sA (sA σ 1 (upd (σ.2.2.1 1) (σ.1 2).toNatClampNeg a1)) 2 (upd (σ.2.2.1 2) (σ.1 2).toNatClampNeg a2)) 3 (upd (σ.2.2.1 3) (σ.1 2).toNatClampNeg a3))) := hD
  refine lv_aload_n hx hb d_TinyForgeModel_addToken_30 rfl (lv_at hl 0 rfl) ?_
  refine va_get (D := (dC, dI)) (ci := 11) (v := .ref (ad 5)) hx hb hts i_TinyForgeModel hown hK hP 0 rfl rfl 12 (by decide) (hts _ mw_8) (fun _ h9 => h9) rfl d_TinyForgeModel_addToken_31 ?_
  refine lv_aload_n hx hb d_TinyForgeModel_addToken_34 rfl (lv_at hl 0 rfl) ?_
  refine va_get (D := (dC, dI)) (ci := 11) (v := .int (σ.1 2)) hx hb hts i_TinyForgeModel hown hK hP 0 rfl rfl 3 (by decide) (hts _ mw_5) (fun _ h9 => h9) rfl d_TinyForgeModel_addToken_35 ?_
  refine lv_iload hx hb d_TinyForgeModel_addToken_38 (lv_at hl 4 rfl) ?_
  obtain ⟨g_4, hF⟩ := gdE hF
  refine va_iast (f := (σ.2.2.1 4)) hx hb hK hP hD hS 5 0 rfl rfl (inE g_4) d_TinyForgeModel_addToken_40 (fun H locs hP hD hS => ?_)
  have hP : va_P (dC, dI) vwCl (mcw ad cA (sA (sA (sA (sA σ 1 (upd (σ.2.2.1 1) (σ.1 2).toNatClampNeg a1)) 2 (upd (σ.2.2.1 2) (σ.1 2).toNatClampNeg a2)) 3 (upd (σ.2.2.1 3) (σ.1 2).toNatClampNeg a3)) 4 (upd (σ.2.2.1 4) (σ.1 2).toNatClampNeg a4))) H := hP
  have hD : va_D A (mcw ad cA (sA (sA (sA (sA σ 1 (upd (σ.2.2.1 1) (σ.1 2).toNatClampNeg a1)) 2 (upd (σ.2.2.1 2) (σ.1 2).toNatClampNeg a2)) 3 (upd (σ.2.2.1 3) (σ.1 2).toNatClampNeg a3)) 4 (upd (σ.2.2.1 4) (σ.1 2).toNatClampNeg a4))) := hD
  refine lv_aload_n hx hb d_TinyForgeModel_addToken_41 rfl (lv_at hl 0 rfl) ?_
  refine lv_dup hx hb d_TinyForgeModel_addToken_42 rfl ?_
  refine va_get (D := (dC, dI)) (ci := 11) (v := .int (σ.1 2)) hx hb hts i_TinyForgeModel hown hK hP 0 rfl rfl 3 (by decide) (hts _ mw_5) (fun _ h9 => h9) rfl d_TinyForgeModel_addToken_43 ?_
  refine lv_iconst (v := 1) hx hb d_TinyForgeModel_addToken_46 (by decide) ?_
  refine lv_iadd hx hb d_TinyForgeModel_addToken_47 ?_
  refine va_put (D := (dC, dI)) (ci := 11) (v := .int ((σ.1 2) + 1)) (ty := .int) hx hb hts i_TinyForgeModel t_TinyForgeModel t_TinyForgeModel_ok n_TinyForgeModel hown hK hP hD hS 0 rfl rfl 3 (by decide) (hts _ mw_5) (fun _ h9 => h9) rfl (by decide +kernel) rfl rfl (Nat.le_of_ble_eq_true rfl) d_TinyForgeModel_addToken_48 (fun H locs hP hD hS => ?_)
  have hP : va_P (dC, dI) vwCl (mcw ad cA (sI (sA (sA (sA (sA σ 1 (upd (σ.2.2.1 1) (σ.1 2).toNatClampNeg a1)) 2 (upd (σ.2.2.1 2) (σ.1 2).toNatClampNeg a2)) 3 (upd (σ.2.2.1 3) (σ.1 2).toNatClampNeg a3)) 4 (upd (σ.2.2.1 4) (σ.1 2).toNatClampNeg a4)) 2 ((σ.1 2) + 1))) H := hP
  have hD : va_D A (mcw ad cA (sI (sA (sA (sA (sA σ 1 (upd (σ.2.2.1 1) (σ.1 2).toNatClampNeg a1)) 2 (upd (σ.2.2.1 2) (σ.1 2).toNatClampNeg a2)) 3 (upd (σ.2.2.1 3) (σ.1 2).toNatClampNeg a3)) 4 (upd (σ.2.2.1 4) (σ.1 2).toNatClampNeg a4)) 2 ((σ.1 2) + 1))) := hD
  cases hF
  exact leafV X hP hD hS d_TinyForgeModel_addToken_51
theorem d_TinyForgeModel_areAlike_0 : decode b_TinyForgeModel_areAlike 0 = .ok (.aload_n 0, 1) := by decide +kernel
theorem d_TinyForgeModel_areAlike_1 : decode b_TinyForgeModel_areAlike 1 = .ok (.getfield 24, 3) := by decide +kernel
theorem d_TinyForgeModel_areAlike_4 : decode b_TinyForgeModel_areAlike 4 = .ok (.iload_n 1, 1) := by decide +kernel
theorem d_TinyForgeModel_areAlike_5 : decode b_TinyForgeModel_areAlike 5 = .ok (.iaload, 1) := by decide +kernel
theorem d_TinyForgeModel_areAlike_6 : decode b_TinyForgeModel_areAlike 6 = .ok (.aload_n 0, 1) := by decide +kernel
theorem d_TinyForgeModel_areAlike_7 : decode b_TinyForgeModel_areAlike 7 = .ok (.getfield 24, 3) := by decide +kernel
theorem d_TinyForgeModel_areAlike_10 : decode b_TinyForgeModel_areAlike 10 = .ok (.iload_n 2, 1) := by decide +kernel
theorem d_TinyForgeModel_areAlike_11 : decode b_TinyForgeModel_areAlike 11 = .ok (.iaload, 1) := by decide +kernel
theorem d_TinyForgeModel_areAlike_12 : decode b_TinyForgeModel_areAlike 12 = .ok (.if_icmp .ne 7, 3) := by decide +kernel
theorem d_TinyForgeModel_areAlike_15 : decode b_TinyForgeModel_areAlike 15 = .ok (.iconst 1, 1) := by decide +kernel
theorem d_TinyForgeModel_areAlike_16 : decode b_TinyForgeModel_areAlike 16 = .ok (.goto 4, 3) := by decide +kernel
theorem d_TinyForgeModel_areAlike_19 : decode b_TinyForgeModel_areAlike 19 = .ok (.iconst 0, 1) := by decide +kernel
theorem d_TinyForgeModel_areAlike_20 : decode b_TinyForgeModel_areAlike 20 = .ok (.istore_n 3, 1) := by decide +kernel
theorem d_TinyForgeModel_areAlike_21 : decode b_TinyForgeModel_areAlike 21 = .ok (.iconst 0, 1) := by decide +kernel
theorem d_TinyForgeModel_areAlike_22 : decode b_TinyForgeModel_areAlike 22 = .ok (.istore 4, 2) := by decide +kernel
theorem d_TinyForgeModel_areAlike_24 : decode b_TinyForgeModel_areAlike 24 = .ok (.iload 4, 2) := by decide +kernel
theorem d_TinyForgeModel_areAlike_26 : decode b_TinyForgeModel_areAlike 26 = .ok (.aload_n 0, 1) := by decide +kernel
theorem d_TinyForgeModel_areAlike_27 : decode b_TinyForgeModel_areAlike 27 = .ok (.getfield 24, 3) := by decide +kernel
theorem d_TinyForgeModel_areAlike_30 : decode b_TinyForgeModel_areAlike 30 = .ok (.iload_n 1, 1) := by decide +kernel
theorem d_TinyForgeModel_areAlike_31 : decode b_TinyForgeModel_areAlike 31 = .ok (.iaload, 1) := by decide +kernel
theorem d_TinyForgeModel_areAlike_32 : decode b_TinyForgeModel_areAlike 32 = .ok (.if_icmp .ge 50, 3) := by decide +kernel
theorem d_TinyForgeModel_areAlike_35 : decode b_TinyForgeModel_areAlike 35 = .ok (.iload_n 3, 1) := by decide +kernel
theorem d_TinyForgeModel_areAlike_36 : decode b_TinyForgeModel_areAlike 36 = .ok (.ifCond .eq 46, 3) := by decide +kernel
theorem d_TinyForgeModel_areAlike_39 : decode b_TinyForgeModel_areAlike 39 = .ok (.aload_n 0, 1) := by decide +kernel
theorem d_TinyForgeModel_areAlike_40 : decode b_TinyForgeModel_areAlike 40 = .ok (.getfield 7, 3) := by decide +kernel
theorem d_TinyForgeModel_areAlike_43 : decode b_TinyForgeModel_areAlike 43 = .ok (.aload_n 0, 1) := by decide +kernel
theorem d_TinyForgeModel_areAlike_44 : decode b_TinyForgeModel_areAlike 44 = .ok (.getfield 21, 3) := by decide +kernel
theorem d_TinyForgeModel_areAlike_47 : decode b_TinyForgeModel_areAlike 47 = .ok (.iload_n 1, 1) := by decide +kernel
theorem d_TinyForgeModel_areAlike_48 : decode b_TinyForgeModel_areAlike 48 = .ok (.iaload, 1) := by decide +kernel
theorem d_TinyForgeModel_areAlike_49 : decode b_TinyForgeModel_areAlike 49 = .ok (.iload 4, 2) := by decide +kernel
theorem d_TinyForgeModel_areAlike_51 : decode b_TinyForgeModel_areAlike 51 = .ok (.iadd, 1) := by decide +kernel
theorem d_TinyForgeModel_areAlike_52 : decode b_TinyForgeModel_areAlike 52 = .ok (.caload, 1) := by decide +kernel
theorem d_TinyForgeModel_areAlike_53 : decode b_TinyForgeModel_areAlike 53 = .ok (.aload_n 0, 1) := by decide +kernel
theorem d_TinyForgeModel_areAlike_54 : decode b_TinyForgeModel_areAlike 54 = .ok (.getfield 7, 3) := by decide +kernel
theorem d_TinyForgeModel_areAlike_57 : decode b_TinyForgeModel_areAlike 57 = .ok (.aload_n 0, 1) := by decide +kernel
theorem d_TinyForgeModel_areAlike_58 : decode b_TinyForgeModel_areAlike 58 = .ok (.getfield 21, 3) := by decide +kernel
theorem d_TinyForgeModel_areAlike_61 : decode b_TinyForgeModel_areAlike 61 = .ok (.iload_n 2, 1) := by decide +kernel
theorem d_TinyForgeModel_areAlike_62 : decode b_TinyForgeModel_areAlike 62 = .ok (.iaload, 1) := by decide +kernel
theorem d_TinyForgeModel_areAlike_63 : decode b_TinyForgeModel_areAlike 63 = .ok (.iload 4, 2) := by decide +kernel
theorem d_TinyForgeModel_areAlike_65 : decode b_TinyForgeModel_areAlike 65 = .ok (.iadd, 1) := by decide +kernel
theorem d_TinyForgeModel_areAlike_66 : decode b_TinyForgeModel_areAlike 66 = .ok (.caload, 1) := by decide +kernel
theorem d_TinyForgeModel_areAlike_67 : decode b_TinyForgeModel_areAlike 67 = .ok (.if_icmp .ne 7, 3) := by decide +kernel
theorem d_TinyForgeModel_areAlike_70 : decode b_TinyForgeModel_areAlike 70 = .ok (.iconst 1, 1) := by decide +kernel
theorem d_TinyForgeModel_areAlike_71 : decode b_TinyForgeModel_areAlike 71 = .ok (.goto 4, 3) := by decide +kernel
theorem d_TinyForgeModel_areAlike_74 : decode b_TinyForgeModel_areAlike 74 = .ok (.iconst 0, 1) := by decide +kernel
theorem d_TinyForgeModel_areAlike_75 : decode b_TinyForgeModel_areAlike 75 = .ok (.istore_n 3, 1) := by decide +kernel
theorem d_TinyForgeModel_areAlike_76 : decode b_TinyForgeModel_areAlike 76 = .ok (.iinc 4 1, 3) := by decide +kernel
theorem d_TinyForgeModel_areAlike_79 : decode b_TinyForgeModel_areAlike 79 = .ok (.goto (-55), 3) := by decide +kernel
theorem d_TinyForgeModel_areAlike_82 : decode b_TinyForgeModel_areAlike 82 = .ok (.iload_n 3, 1) := by decide +kernel
theorem d_TinyForgeModel_areAlike_83 : decode b_TinyForgeModel_areAlike 83 = .ok (.ireturn, 1) := by decide +kernel
theorem mw_9 : Cond.fieldLink "TinyForgeModel" 7 "TinyForgeModel" "text" "[C" ∈ BIG := List.mem_filter.mpr ⟨List.mem_of_getElem? (i := 1146) (by decide +kernel), by decide +kernel⟩
def mTinyForgeModel_areAlike_b1 (k : Nat → St → Int32 → Int32 → Int32 → Int32 → Option (Int32)) (σ : St) (x1 : Int32) (x2 : Int32) (x3 : Int32) (x4 : Int32) : Option (Int32) := k 2 σ x1 x2 x3 0
def mTinyForgeModel_areAlike_b2 (k : Nat → St → Int32 → Int32 → Int32 → Int32 → Option (Int32)) (σ : St) (x1 : Int32) (x2 : Int32) (x3 : Int32) (x4 : Int32) : Option (Int32) := gd (inB x1 500) (if ((σ.2.2.1 3) x1.toNatClampNeg) ≤ x4 then gd (nZ x3) (some x3) else if x3 = 0 then gd (nZ x3) (some x3) else gd (inB x1 500) (gd (inB (((σ.2.2.1 2) x1.toNatClampNeg) + x4) 480) (gd (inB x2 500) (gd (inB (((σ.2.2.1 2) x2.toNatClampNeg) + x4) 480) (if ((σ.2.2.1 0) (((σ.2.2.1 2) x1.toNatClampNeg) + x4).toNatClampNeg) = ((σ.2.2.1 0) (((σ.2.2.1 2) x2.toNatClampNeg) + x4).toNatClampNeg) then k 3 σ x1 x2 x4 1 else k 3 σ x1 x2 x4 0)))))
def mTinyForgeModel_areAlike_b3 (k : Nat → St → Int32 → Int32 → Int32 → Int32 → Option (Int32)) (σ : St) (x1 : Int32) (x2 : Int32) (x3 : Int32) (x4 : Int32) : Option (Int32) := k 2 σ x1 x2 x4 (x3 + 1)
def mTinyForgeModel_areAlike_L : Nat → Nat → St → Int32 → Int32 → Int32 → Int32 → Option (Int32)
  | 0, _, _, _, _, _, _ => none
  | n + 1, lab, σ, x1, x2, x3, x4 => match lab with
    | 1 => mTinyForgeModel_areAlike_b1 (mTinyForgeModel_areAlike_L n) σ x1 x2 x3 x4
    | 2 => mTinyForgeModel_areAlike_b2 (mTinyForgeModel_areAlike_L n) σ x1 x2 x3 x4
    | 3 => mTinyForgeModel_areAlike_b3 (mTinyForgeModel_areAlike_L n) σ x1 x2 x3 x4
    | _ => none
def mTinyForgeModel_areAlike (σ : St) (a1 : Int32) (a2 : Int32) : Option (Int32) := gd (inB a1 500) (gd (inB a2 500) (if ((σ.2.2.1 3) a1.toNatClampNeg) = ((σ.2.2.1 3) a2.toNatClampNeg) then mTinyForgeModel_areAlike_L 2000 1 σ a1 a2 1 0 else mTinyForgeModel_areAlike_L 2000 1 σ a1 a2 0 0))
set_option maxHeartbeats 4000000 in
set_option maxRecDepth 100000 in
theorem mTinyForgeModel_areAlike_blk {p : Program} {e : Env} {s : State} {m : MethodId} {args : Array Value} {below : List Frame} {meth : Method} {c : Code} {A : Nat → Prop} (l : Launch) (dC : Nat → ClassId) (dI : Nat → Nat → Nat) (ad : Nat → Nat) (cA : Nat → ClassId) {r : Int32} (X : Cx p s m args meth c b_TinyForgeModel_areAlike 5 (some .boolean) "TinyForgeModel" (dC, dI) (mtys cA) ad A) : ∀ n : Nat, (∀ (σ : St) (x1 : Int32) (x2 : Int32) (x3 : Int32) (x4 : Int32) (H : Heap) (locs : List Loc) (ls : Array Slot), mTinyForgeModel_areAlike_L n 1 σ x1 x2 x3 x4 = some r → va_P (dC, dI) vwCl (mcw ad cA σ) H → va_D A (mcw ad cA σ) → va_S A s.heap H locs → lv_has ls 5 [(0, .ref (ad 0)), (1, .int x1), (2, .int x2)] → W p l e { frames := 0, cells := 0, slots := 0, locals := 0 } s m args below meth c H locs 0 0 (MQ below (QI (dC, dI) (mtys cA) (mcw ad cA) A r σ) args s 0 0 A) (F0 m 20 ls [.int x3])) ∧ (∀ (σ : St) (x1 : Int32) (x2 : Int32) (x3 : Int32) (x4 : Int32) (H : Heap) (locs : List Loc) (ls : Array Slot), mTinyForgeModel_areAlike_L n 2 σ x1 x2 x3 x4 = some r → va_P (dC, dI) vwCl (mcw ad cA σ) H → va_D A (mcw ad cA σ) → va_S A s.heap H locs → lv_has ls 5 [(0, .ref (ad 0)), (1, .int x1), (2, .int x2), (3, .int x3), (4, .int x4)] → W p l e { frames := 0, cells := 0, slots := 0, locals := 0 } s m args below meth c H locs 0 0 (MQ below (QI (dC, dI) (mtys cA) (mcw ad cA) A r σ) args s 0 0 A) (F0 m 24 ls [])) ∧ (∀ (σ : St) (x1 : Int32) (x2 : Int32) (x3 : Int32) (x4 : Int32) (H : Heap) (locs : List Loc) (ls : Array Slot), mTinyForgeModel_areAlike_L n 3 σ x1 x2 x3 x4 = some r → va_P (dC, dI) vwCl (mcw ad cA σ) H → va_D A (mcw ad cA σ) → va_S A s.heap H locs → lv_has ls 5 [(0, .ref (ad 0)), (1, .int x1), (2, .int x2), (4, .int x3)] → W p l e { frames := 0, cells := 0, slots := 0, locals := 0 } s m args below meth c H locs 0 0 (MQ below (QI (dC, dI) (mtys cA) (mcw ad cA) A r σ) args s 0 0 A) (F0 m 75 ls [.int x4])) := by
  obtain ⟨hx, hb, hr, hml, hown, hlocks, hts, hA, hK, hZ⟩ := id X
  intro n
  induction n with
  | zero => exact ⟨(fun σ x1 x2 x3 x4 H locs ls hF => by cases hF), (fun σ x1 x2 x3 x4 H locs ls hF => by cases hF), (fun σ x1 x2 x3 x4 H locs ls hF => by cases hF)⟩
  | succ n ihn =>
    refine ⟨fun σ x1 x2 x3 x4 H locs ls hF hP hD hS hl => ?_, fun σ x1 x2 x3 x4 H locs ls hF hP hD hS hl => ?_, fun σ x1 x2 x3 x4 H locs ls hF hP hD hS hl => ?_⟩
    · have hF : mTinyForgeModel_areAlike_b1 (mTinyForgeModel_areAlike_L n) σ x1 x2 x3 x4 = some r := hF
      unfold mTinyForgeModel_areAlike_b1 at hF
      refine lv_istore_n (lv' := [(3, .int x3), (0, .ref (ad 0)), (1, .int x1), (2, .int x2)]) hx hb d_TinyForgeModel_areAlike_20 rfl hl (by decide) rfl (fun ls hl => ?_)
      refine lv_iconst (v := 0) hx hb d_TinyForgeModel_areAlike_21 (by decide) ?_
      refine lv_istore (lv' := [(4, .int 0), (3, .int x3), (0, .ref (ad 0)), (1, .int x1), (2, .int x2)]) hx hb d_TinyForgeModel_areAlike_22 hl (by decide) rfl (fun ls hl => ?_)
      exact ihn.2.1 σ x1 x2 x3 0 H locs ls hF hP hD hS (lv_sub hl [2, 3, 4, 1, 0] rfl)
    · have hF : mTinyForgeModel_areAlike_b2 (mTinyForgeModel_areAlike_L n) σ x1 x2 x3 x4 = some r := hF
      unfold mTinyForgeModel_areAlike_b2 at hF
      refine lv_iload hx hb d_TinyForgeModel_areAlike_24 (lv_at hl 4 rfl) ?_
      refine lv_aload_n hx hb d_TinyForgeModel_areAlike_26 rfl (lv_at hl 0 rfl) ?_
      refine va_get (D := (dC, dI)) (ci := 11) (v := .ref (ad 4)) hx hb hts i_TinyForgeModel hown hK hP 0 rfl rfl 11 (by decide) (hts _ mw_7) (fun _ h9 => h9) rfl d_TinyForgeModel_areAlike_27 ?_
      refine lv_iload_n hx hb d_TinyForgeModel_areAlike_30 rfl (lv_at hl 1 rfl) ?_
      obtain ⟨g_4, hF⟩ := gdE hF
      refine va_iald (f := (σ.2.2.1 3)) hx hb hK hP 4 0 rfl rfl (inE g_4) d_TinyForgeModel_areAlike_31 ?_
      refine lv_icmp_ge (tgt := 82) hx hb d_TinyForgeModel_areAlike_32 (by decide) (fun c_5 => ?_) (fun c_5 => ?_)
      · have hF := ifp hF c_5
        refine lv_iload_n hx hb d_TinyForgeModel_areAlike_82 rfl (lv_at hl 3 rfl) ?_
        obtain ⟨g_6, hF⟩ := gdE hF
        cases hF
        exact leafZ X hP hD hS (nZN g_6) d_TinyForgeModel_areAlike_83
      · have hF := ifn hF c_5
        refine lv_iload_n hx hb d_TinyForgeModel_areAlike_35 rfl (lv_at hl 3 rfl) ?_
        refine lv_if_eq (tgt := 82) hx hb d_TinyForgeModel_areAlike_36 (by decide) (fun c_7 => ?_) (fun c_7 => ?_)
        · have hF := ifp hF c_7
          refine lv_iload_n hx hb d_TinyForgeModel_areAlike_82 rfl (lv_at hl 3 rfl) ?_
          obtain ⟨g_8, hF⟩ := gdE hF
          cases hF
          exact leafZ X hP hD hS (nZN g_8) d_TinyForgeModel_areAlike_83
        · have hF := ifn hF c_7
          refine lv_aload_n hx hb d_TinyForgeModel_areAlike_39 rfl (lv_at hl 0 rfl) ?_
          refine va_get (D := (dC, dI)) (ci := 11) (v := .ref (ad 1)) hx hb hts i_TinyForgeModel hown hK hP 0 rfl rfl 1 (by decide) (hts _ mw_9) (fun _ h9 => h9) rfl d_TinyForgeModel_areAlike_40 ?_
          refine lv_aload_n hx hb d_TinyForgeModel_areAlike_43 rfl (lv_at hl 0 rfl) ?_
          refine va_get (D := (dC, dI)) (ci := 11) (v := .ref (ad 3)) hx hb hts i_TinyForgeModel hown hK hP 0 rfl rfl 10 (by decide) (hts _ mw_6) (fun _ h9 => h9) rfl d_TinyForgeModel_areAlike_44 ?_
          refine lv_iload_n hx hb d_TinyForgeModel_areAlike_47 rfl (lv_at hl 1 rfl) ?_
          obtain ⟨g_9, hF⟩ := gdE hF
          refine va_iald (f := (σ.2.2.1 2)) hx hb hK hP 3 0 rfl rfl (inE g_9) d_TinyForgeModel_areAlike_48 ?_
          refine lv_iload hx hb d_TinyForgeModel_areAlike_49 (lv_at hl 4 rfl) ?_
          refine lv_iadd hx hb d_TinyForgeModel_areAlike_51 ?_
          obtain ⟨g_10, hF⟩ := gdE hF
          refine va_cald (f := (σ.2.2.1 0)) hx hb hK hP 1 2 rfl rfl (inE g_10) d_TinyForgeModel_areAlike_52 ?_
          refine lv_aload_n hx hb d_TinyForgeModel_areAlike_53 rfl (lv_at hl 0 rfl) ?_
          refine va_get (D := (dC, dI)) (ci := 11) (v := .ref (ad 1)) hx hb hts i_TinyForgeModel hown hK hP 0 rfl rfl 1 (by decide) (hts _ mw_9) (fun _ h9 => h9) rfl d_TinyForgeModel_areAlike_54 ?_
          refine lv_aload_n hx hb d_TinyForgeModel_areAlike_57 rfl (lv_at hl 0 rfl) ?_
          refine va_get (D := (dC, dI)) (ci := 11) (v := .ref (ad 3)) hx hb hts i_TinyForgeModel hown hK hP 0 rfl rfl 10 (by decide) (hts _ mw_6) (fun _ h9 => h9) rfl d_TinyForgeModel_areAlike_58 ?_
          refine lv_iload_n hx hb d_TinyForgeModel_areAlike_61 rfl (lv_at hl 2 rfl) ?_
          obtain ⟨g_11, hF⟩ := gdE hF
          refine va_iald (f := (σ.2.2.1 2)) hx hb hK hP 3 0 rfl rfl (inE g_11) d_TinyForgeModel_areAlike_62 ?_
          refine lv_iload hx hb d_TinyForgeModel_areAlike_63 (lv_at hl 4 rfl) ?_
          refine lv_iadd hx hb d_TinyForgeModel_areAlike_65 ?_
          obtain ⟨g_12, hF⟩ := gdE hF
          refine va_cald (f := (σ.2.2.1 0)) hx hb hK hP 1 2 rfl rfl (inE g_12) d_TinyForgeModel_areAlike_66 ?_
          refine lv_icmp_ne (tgt := 74) hx hb d_TinyForgeModel_areAlike_67 (by decide) (fun c_13 => ?_) (fun c_13 => ?_)
          · have hF := ifn hF c_13
            refine lv_iconst (v := 0) hx hb d_TinyForgeModel_areAlike_74 (by decide) ?_
            exact ihn.2.2 σ x1 x2 x4 0 H locs ls hF hP hD hS (lv_sub hl [0, 1, 2, 4] rfl)
          · have hF := ifp hF c_13
            refine lv_iconst (v := 1) hx hb d_TinyForgeModel_areAlike_70 (by decide) ?_
            refine lv_goto (tgt := 75) hx hb d_TinyForgeModel_areAlike_71 (by decide) ?_
            exact ihn.2.2 σ x1 x2 x4 1 H locs ls hF hP hD hS (lv_sub hl [0, 1, 2, 4] rfl)
    · have hF : mTinyForgeModel_areAlike_b3 (mTinyForgeModel_areAlike_L n) σ x1 x2 x3 x4 = some r := hF
      unfold mTinyForgeModel_areAlike_b3 at hF
      refine lv_istore_n (lv' := [(3, .int x4), (0, .ref (ad 0)), (1, .int x1), (2, .int x2), (4, .int x3)]) hx hb d_TinyForgeModel_areAlike_75 rfl hl (by decide) rfl (fun ls hl => ?_)
      refine lv_iinc (v := (x3 + 1)) (lv' := [(4, .int (x3 + 1)), (3, .int x4), (0, .ref (ad 0)), (1, .int x1), (2, .int x2)]) hx hb d_TinyForgeModel_areAlike_76 hl (k := 4) rfl rfl (by decide) rfl (fun ls hl => ?_)
      refine lv_goto (tgt := 24) hx hb d_TinyForgeModel_areAlike_79 (by decide) ?_
      exact ihn.2.1 σ x1 x2 x4 (x3 + 1) H locs ls hF hP hD hS (lv_sub hl [2, 3, 4, 1, 0] rfl)
set_option maxHeartbeats 4000000 in
set_option maxRecDepth 100000 in
theorem ct_TinyForgeModel_areAlike (l : Launch) (dC : Nat → ClassId) (dI : Nat → Nat → Nat) (ad : Nat → Nat) (cA : Nat → ClassId) (sz : Nat) {σ : St} {a1 : Int32} {a2 : Int32} {r : Int32} (hF : mTinyForgeModel_areAlike σ a1 a2 = some r) : MI l y_TinyForgeModel_areAlike b_TinyForgeModel_areAlike 5 (some .boolean) { frames := 0, cells := 0, slots := 0, locals := 0 } (dC, dI) (mtys cA) ad (mcw ad cA) [.ref (ad 0), .int a1, .int a2] σ sz r σ := by
  refine startM (own := "TinyForgeModel") (Qc := fun A => QI (dC, dI) (mtys cA) (mcw ad cA) A r σ) rfl rfl (Nat.le_of_ble_eq_true rfl) ?_
  intro p e s m below meth c A H locs ls X hP hD hS hl
  have hl : lv_has ls 5 [(0, .ref (ad 0)), (1, .int a1), (2, .int a2)] := hl
  obtain ⟨hx, hb, hr, hml, hown, hlocks, hts, hA, hK, hZ⟩ := id X
  unfold mTinyForgeModel_areAlike at hF
  refine lv_aload_n hx hb d_TinyForgeModel_areAlike_0 rfl (lv_at hl 0 rfl) ?_
  refine va_get (D := (dC, dI)) (ci := 11) (v := .ref (ad 4)) hx hb hts i_TinyForgeModel hown hK hP 0 rfl rfl 11 (by decide) (hts _ mw_7) (fun _ h9 => h9) rfl d_TinyForgeModel_areAlike_1 ?_
  refine lv_iload_n hx hb d_TinyForgeModel_areAlike_4 rfl (lv_at hl 1 rfl) ?_
  obtain ⟨g_1, hF⟩ := gdE hF
  refine va_iald (f := (σ.2.2.1 3)) hx hb hK hP 4 0 rfl rfl (inE g_1) d_TinyForgeModel_areAlike_5 ?_
  refine lv_aload_n hx hb d_TinyForgeModel_areAlike_6 rfl (lv_at hl 0 rfl) ?_
  refine va_get (D := (dC, dI)) (ci := 11) (v := .ref (ad 4)) hx hb hts i_TinyForgeModel hown hK hP 0 rfl rfl 11 (by decide) (hts _ mw_7) (fun _ h9 => h9) rfl d_TinyForgeModel_areAlike_7 ?_
  refine lv_iload_n hx hb d_TinyForgeModel_areAlike_10 rfl (lv_at hl 2 rfl) ?_
  obtain ⟨g_2, hF⟩ := gdE hF
  refine va_iald (f := (σ.2.2.1 3)) hx hb hK hP 4 0 rfl rfl (inE g_2) d_TinyForgeModel_areAlike_11 ?_
  refine lv_icmp_ne (tgt := 19) hx hb d_TinyForgeModel_areAlike_12 (by decide) (fun c_3 => ?_) (fun c_3 => ?_)
  · have hF := ifn hF c_3
    refine lv_iconst (v := 0) hx hb d_TinyForgeModel_areAlike_19 (by decide) ?_
    exact (mTinyForgeModel_areAlike_blk l dC dI ad cA X 2000).1 σ a1 a2 0 0 H locs ls hF hP hD hS (lv_sub hl [0, 1, 2] rfl)
  · have hF := ifp hF c_3
    refine lv_iconst (v := 1) hx hb d_TinyForgeModel_areAlike_15 (by decide) ?_
    refine lv_goto (tgt := 20) hx hb d_TinyForgeModel_areAlike_16 (by decide) ?_
    exact (mTinyForgeModel_areAlike_blk l dC dI ad cA X 2000).1 σ a1 a2 1 0 H locs ls hF hP hD hS (lv_sub hl [0, 1, 2] rfl)
theorem d_TinyForgeModel_global_0 : decode b_TinyForgeModel_global 0 = .ok (.iconst (-1), 1) := by decide +kernel
theorem d_TinyForgeModel_global_1 : decode b_TinyForgeModel_global 1 = .ok (.istore_n 2, 1) := by decide +kernel
theorem d_TinyForgeModel_global_2 : decode b_TinyForgeModel_global 2 = .ok (.aload_n 0, 1) := by decide +kernel
theorem d_TinyForgeModel_global_3 : decode b_TinyForgeModel_global 3 = .ok (.getfield 337, 3) := by decide +kernel
theorem d_TinyForgeModel_global_6 : decode b_TinyForgeModel_global 6 = .ok (.iconst 1, 1) := by decide +kernel
theorem d_TinyForgeModel_global_7 : decode b_TinyForgeModel_global 7 = .ok (.isub, 1) := by decide +kernel
theorem d_TinyForgeModel_global_8 : decode b_TinyForgeModel_global 8 = .ok (.istore_n 3, 1) := by decide +kernel
theorem d_TinyForgeModel_global_9 : decode b_TinyForgeModel_global 9 = .ok (.iload_n 3, 1) := by decide +kernel
theorem d_TinyForgeModel_global_10 : decode b_TinyForgeModel_global 10 = .ok (.ifCond .lt 29, 3) := by decide +kernel
theorem d_TinyForgeModel_global_13 : decode b_TinyForgeModel_global 13 = .ok (.aload_n 0, 1) := by decide +kernel
theorem d_TinyForgeModel_global_14 : decode b_TinyForgeModel_global 14 = .ok (.aload_n 0, 1) := by decide +kernel
theorem d_TinyForgeModel_global_15 : decode b_TinyForgeModel_global 15 = .ok (.getfield 51, 3) := by decide +kernel
theorem d_TinyForgeModel_global_18 : decode b_TinyForgeModel_global 18 = .ok (.iload_n 3, 1) := by decide +kernel
theorem d_TinyForgeModel_global_19 : decode b_TinyForgeModel_global 19 = .ok (.iaload, 1) := by decide +kernel
theorem d_TinyForgeModel_global_20 : decode b_TinyForgeModel_global 20 = .ok (.iload_n 1, 1) := by decide +kernel
theorem d_TinyForgeModel_global_21 : decode b_TinyForgeModel_global 21 = .ok (.invokevirtual 227, 3) := by decide +kernel
theorem d_TinyForgeModel_global_24 : decode b_TinyForgeModel_global 24 = .ok (.ifCond .eq 7, 3) := by decide +kernel
theorem d_TinyForgeModel_global_27 : decode b_TinyForgeModel_global 27 = .ok (.iload_n 3, 1) := by decide +kernel
theorem d_TinyForgeModel_global_28 : decode b_TinyForgeModel_global 28 = .ok (.goto 4, 3) := by decide +kernel
theorem d_TinyForgeModel_global_31 : decode b_TinyForgeModel_global 31 = .ok (.iload_n 2, 1) := by decide +kernel
theorem d_TinyForgeModel_global_32 : decode b_TinyForgeModel_global 32 = .ok (.istore_n 2, 1) := by decide +kernel
theorem d_TinyForgeModel_global_33 : decode b_TinyForgeModel_global 33 = .ok (.iinc 3 (-1), 3) := by decide +kernel
theorem d_TinyForgeModel_global_36 : decode b_TinyForgeModel_global 36 = .ok (.goto (-27), 3) := by decide +kernel
theorem d_TinyForgeModel_global_39 : decode b_TinyForgeModel_global 39 = .ok (.iload_n 2, 1) := by decide +kernel
theorem d_TinyForgeModel_global_40 : decode b_TinyForgeModel_global 40 = .ok (.ireturn, 1) := by decide +kernel
theorem mw_10 : Cond.fieldLink "TinyForgeModel" 337 "TinyForgeModel" "globals" "I" ∈ BIG := List.mem_filter.mpr ⟨List.mem_of_getElem? (i := 1166) (by decide +kernel), by decide +kernel⟩
theorem mw_11 : Cond.fieldLink "TinyForgeModel" 51 "TinyForgeModel" "globalName" "[I" ∈ BIG := List.mem_filter.mpr ⟨List.mem_of_getElem? (i := 1169) (by decide +kernel), by decide +kernel⟩
theorem mw_12 : Cond.methodLink "TinyForgeModel" 227 ⟨"TinyForgeModel", "areAlike", "(II)Z"⟩ ∈ BIG := List.mem_filter.mpr ⟨List.mem_of_getElem? (i := 1432) (by decide +kernel), by decide +kernel⟩
theorem mw_13 : Cond.initialized "TinyForgeModel" ∈ BIG := List.mem_filter.mpr ⟨List.mem_of_getElem? (i := 132) (by decide +kernel), by decide +kernel⟩
theorem mw_14 : Cond.code ⟨"TinyForgeModel", "areAlike", "(II)Z"⟩ prog_13_method_19_code 5 (some .boolean) ∈ BIG := List.mem_filter.mpr ⟨List.mem_of_getElem? (i := 1435) (by decide +kernel), by decide +kernel⟩
theorem mw_15 : Cond.instanceMethod ⟨"TinyForgeModel", "areAlike", "(II)Z"⟩ ∈ BIG := List.mem_filter.mpr ⟨List.mem_of_getElem? (i := 1434) (by decide +kernel), by decide +kernel⟩
theorem mw_16 : Cond.selects "TinyForgeModel" ⟨"TinyForgeModel", "areAlike", "(II)Z"⟩ ⟨"TinyForgeModel", "areAlike", "(II)Z"⟩ ∈ BIG := List.mem_filter.mpr ⟨List.mem_of_getElem? (i := 67) (by decide +kernel), by decide +kernel⟩
theorem lk_TinyForgeModel_227 : LkV "TinyForgeModel" 227 "TinyForgeModel" y_TinyForgeModel_areAlike b_TinyForgeModel_areAlike 5 (some .boolean) 2 := ⟨⟨mw_12, mw_13, mw_14, by decide +kernel⟩, mw_15, mw_16⟩
def mTinyForgeModel_global_b1 (k : Nat → St → Int32 → Int32 → Int32 → Option (Int32)) (σ : St) (x1 : Int32) (x2 : Int32) (x3 : Int32) : Option (Int32) := if x3 < 0 then some x2 else gd (inB x3 60) (b1 (mTinyForgeModel_areAlike σ ((σ.2.2.1 12) x3.toNatClampNeg) x1) (fun r3 => if r3 = 0 then k 2 σ x1 x3 x2 else k 2 σ x1 x3 x3))
def mTinyForgeModel_global_b2 (k : Nat → St → Int32 → Int32 → Int32 → Option (Int32)) (σ : St) (x1 : Int32) (x2 : Int32) (x3 : Int32) : Option (Int32) := k 1 σ x1 x3 (x2 + (-1))
def mTinyForgeModel_global_L : Nat → Nat → St → Int32 → Int32 → Int32 → Option (Int32)
  | 0, _, _, _, _, _ => none
  | n + 1, lab, σ, x1, x2, x3 => match lab with
    | 1 => mTinyForgeModel_global_b1 (mTinyForgeModel_global_L n) σ x1 x2 x3
    | 2 => mTinyForgeModel_global_b2 (mTinyForgeModel_global_L n) σ x1 x2 x3
    | _ => none
def mTinyForgeModel_global (σ : St) (a1 : Int32) : Option (Int32) := mTinyForgeModel_global_L 2000 1 σ a1 (-1) ((σ.1 9) - 1)
set_option maxHeartbeats 4000000 in
set_option maxRecDepth 100000 in
theorem mTinyForgeModel_global_blk {p : Program} {e : Env} {s : State} {m : MethodId} {args : Array Value} {below : List Frame} {meth : Method} {c : Code} {A : Nat → Prop} (l : Launch) (dC : Nat → ClassId) (dI : Nat → Nat → Nat) (ad : Nat → Nat) (cA : Nat → ClassId) {r : Int32} (X : Cx p s m args meth c b_TinyForgeModel_global 4 (some .int) "TinyForgeModel" (dC, dI) (mtys cA) ad A) : ∀ n : Nat, (∀ (σ : St) (x1 : Int32) (x2 : Int32) (x3 : Int32) (H : Heap) (locs : List Loc) (ls : Array Slot), mTinyForgeModel_global_L n 1 σ x1 x2 x3 = some r → va_P (dC, dI) vwCl (mcw ad cA σ) H → va_D A (mcw ad cA σ) → va_S A s.heap H locs → lv_has ls 4 [(0, .ref (ad 0)), (1, .int x1), (2, .int x2), (3, .int x3)] → W p l e { frames := 1, cells := 0, slots := 0, locals := 24 } s m args below meth c H locs 0 0 (MQ below (QI (dC, dI) (mtys cA) (mcw ad cA) A r σ) args s 0 0 A) (F0 m 9 ls [])) ∧ (∀ (σ : St) (x1 : Int32) (x2 : Int32) (x3 : Int32) (H : Heap) (locs : List Loc) (ls : Array Slot), mTinyForgeModel_global_L n 2 σ x1 x2 x3 = some r → va_P (dC, dI) vwCl (mcw ad cA σ) H → va_D A (mcw ad cA σ) → va_S A s.heap H locs → lv_has ls 4 [(0, .ref (ad 0)), (1, .int x1), (3, .int x2)] → W p l e { frames := 1, cells := 0, slots := 0, locals := 24 } s m args below meth c H locs 0 0 (MQ below (QI (dC, dI) (mtys cA) (mcw ad cA) A r σ) args s 0 0 A) (F0 m 32 ls [.int x3])) := by
  obtain ⟨hx, hb, hr, hml, hown, hlocks, hts, hA, hK, hZ⟩ := id X
  intro n
  induction n with
  | zero => exact ⟨(fun σ x1 x2 x3 H locs ls hF => by cases hF), (fun σ x1 x2 x3 H locs ls hF => by cases hF)⟩
  | succ n ihn =>
    refine ⟨fun σ x1 x2 x3 H locs ls hF hP hD hS hl => ?_, fun σ x1 x2 x3 H locs ls hF hP hD hS hl => ?_⟩
    · have hF : mTinyForgeModel_global_b1 (mTinyForgeModel_global_L n) σ x1 x2 x3 = some r := hF
      unfold mTinyForgeModel_global_b1 at hF
      refine lv_iload_n hx hb d_TinyForgeModel_global_9 rfl (lv_at hl 3 rfl) ?_
      refine lv_if_lt (tgt := 39) hx hb d_TinyForgeModel_global_10 (by decide) (fun c_1 => ?_) (fun c_1 => ?_)
      · have hF := ifp hF c_1
        refine lv_iload_n hx hb d_TinyForgeModel_global_39 rfl (lv_at hl 2 rfl) ?_
        cases hF
        exact leafI X hP hD hS d_TinyForgeModel_global_40
      · have hF := ifn hF c_1
        refine lv_aload_n hx hb d_TinyForgeModel_global_13 rfl (lv_at hl 0 rfl) ?_
        refine lv_aload_n hx hb d_TinyForgeModel_global_14 rfl (lv_at hl 0 rfl) ?_
        refine va_get (D := (dC, dI)) (ci := 11) (v := .ref (ad 13)) hx hb hts i_TinyForgeModel hown hK hP 0 rfl rfl 24 (by decide) (hts _ mw_11) (fun _ h9 => h9) rfl d_TinyForgeModel_global_15 ?_
        refine lv_iload_n hx hb d_TinyForgeModel_global_18 rfl (lv_at hl 3 rfl) ?_
        obtain ⟨g_2, hF⟩ := gdE hF
        refine va_iald (f := (σ.2.2.1 12)) hx hb hK hP 13 0 rfl rfl (inE g_2) d_TinyForgeModel_global_19 ?_
        refine lv_iload_n hx hb d_TinyForgeModel_global_20 rfl (lv_at hl 1 rfl) ?_
        obtain ⟨r3, h3, hF⟩ := b1E hF
        refine callVI (As := [.int ((σ.2.2.1 12) x3.toNatClampNeg), .int x1]) X (ct_TinyForgeModel_areAlike l dC dI ad cA H.size h3) lk_TinyForgeModel_227 ⟨rfl, rfl, by decide, by decide⟩ 0 rfl rfl hP hD hS hl.1 rfl rfl (Nat.le_of_ble_eq_true rfl) d_TinyForgeModel_global_21 (fun H locs hP hD hS => ?_)
        refine lv_if_eq (tgt := 31) hx hb d_TinyForgeModel_global_24 (by decide) (fun c_4 => ?_) (fun c_4 => ?_)
        · have hF := ifp hF c_4
          refine lv_iload_n hx hb d_TinyForgeModel_global_31 rfl (lv_at hl 2 rfl) ?_
          exact ihn.2 σ x1 x3 x2 H locs ls hF hP hD hS (lv_sub hl [0, 1, 3] rfl)
        · have hF := ifn hF c_4
          refine lv_iload_n hx hb d_TinyForgeModel_global_27 rfl (lv_at hl 3 rfl) ?_
          refine lv_goto (tgt := 32) hx hb d_TinyForgeModel_global_28 (by decide) ?_
          exact ihn.2 σ x1 x3 x3 H locs ls hF hP hD hS (lv_sub hl [0, 1, 3] rfl)
    · have hF : mTinyForgeModel_global_b2 (mTinyForgeModel_global_L n) σ x1 x2 x3 = some r := hF
      unfold mTinyForgeModel_global_b2 at hF
      refine lv_istore_n (lv' := [(2, .int x3), (0, .ref (ad 0)), (1, .int x1), (3, .int x2)]) hx hb d_TinyForgeModel_global_32 rfl hl (by decide) rfl (fun ls hl => ?_)
      refine lv_iinc (v := (x2 + (-1))) (lv' := [(3, .int (x2 + (-1))), (2, .int x3), (0, .ref (ad 0)), (1, .int x1)]) hx hb d_TinyForgeModel_global_33 hl (k := 3) rfl rfl (by decide) rfl (fun ls hl => ?_)
      refine lv_goto (tgt := 9) hx hb d_TinyForgeModel_global_36 (by decide) ?_
      exact ihn.1 σ x1 x3 (x2 + (-1)) H locs ls hF hP hD hS (lv_sub hl [2, 3, 1, 0] rfl)
set_option maxHeartbeats 4000000 in
set_option maxRecDepth 100000 in
theorem ct_TinyForgeModel_global (l : Launch) (dC : Nat → ClassId) (dI : Nat → Nat → Nat) (ad : Nat → Nat) (cA : Nat → ClassId) (sz : Nat) {σ : St} {a1 : Int32} {r : Int32} (hF : mTinyForgeModel_global σ a1 = some r) : MI l y_TinyForgeModel_global b_TinyForgeModel_global 4 (some .int) { frames := 1, cells := 0, slots := 0, locals := 24 } (dC, dI) (mtys cA) ad (mcw ad cA) [.ref (ad 0), .int a1] σ sz r σ := by
  refine startM (own := "TinyForgeModel") (Qc := fun A => QI (dC, dI) (mtys cA) (mcw ad cA) A r σ) rfl rfl (Nat.le_of_ble_eq_true rfl) ?_
  intro p e s m below meth c A H locs ls X hP hD hS hl
  have hl : lv_has ls 4 [(0, .ref (ad 0)), (1, .int a1)] := hl
  obtain ⟨hx, hb, hr, hml, hown, hlocks, hts, hA, hK, hZ⟩ := id X
  unfold mTinyForgeModel_global at hF
  refine lv_iconst (v := (-1)) hx hb d_TinyForgeModel_global_0 (by decide) ?_
  refine lv_istore_n (lv' := [(2, .int (-1)), (0, .ref (ad 0)), (1, .int a1)]) hx hb d_TinyForgeModel_global_1 rfl hl (by decide) rfl (fun ls hl => ?_)
  refine lv_aload_n hx hb d_TinyForgeModel_global_2 rfl (lv_at hl 1 rfl) ?_
  refine va_get (D := (dC, dI)) (ci := 11) (v := .int (σ.1 9)) hx hb hts i_TinyForgeModel hown hK hP 0 rfl rfl 21 (by decide) (hts _ mw_10) (fun _ h9 => h9) rfl d_TinyForgeModel_global_3 ?_
  refine lv_iconst (v := 1) hx hb d_TinyForgeModel_global_6 (by decide) ?_
  refine lv_isub hx hb d_TinyForgeModel_global_7 ?_
  refine lv_istore_n (lv' := [(3, .int ((σ.1 9) - 1)), (2, .int (-1)), (0, .ref (ad 0)), (1, .int a1)]) hx hb d_TinyForgeModel_global_8 rfl hl (by decide) rfl (fun ls hl => ?_)
  exact (mTinyForgeModel_global_blk l dC dI ad cA X 2000).1 σ a1 (-1) ((σ.1 9) - 1) H locs ls hF hP hD hS (lv_sub hl [2, 3, 1, 0] rfl)
theorem d_TinyForgeModel_notName_0 : decode b_TinyForgeModel_notName 0 = .ok (.aload_n 0, 1) := by decide +kernel
theorem d_TinyForgeModel_notName_1 : decode b_TinyForgeModel_notName 1 = .ok (.aload_n 0, 1) := by decide +kernel
theorem d_TinyForgeModel_notName_2 : decode b_TinyForgeModel_notName 2 = .ok (.getfield 200, 3) := by decide +kernel
theorem d_TinyForgeModel_notName_5 : decode b_TinyForgeModel_notName 5 = .ok (.ifCond .lt 11, 3) := by decide +kernel
theorem d_TinyForgeModel_notName_8 : decode b_TinyForgeModel_notName 8 = .ok (.iload_n 1, 1) := by decide +kernel
theorem d_TinyForgeModel_notName_9 : decode b_TinyForgeModel_notName 9 = .ok (.aload_n 0, 1) := by decide +kernel
theorem d_TinyForgeModel_notName_10 : decode b_TinyForgeModel_notName 10 = .ok (.getfield 200, 3) := by decide +kernel
theorem d_TinyForgeModel_notName_13 : decode b_TinyForgeModel_notName 13 = .ok (.if_icmp .ge 7, 3) := by decide +kernel
theorem d_TinyForgeModel_notName_16 : decode b_TinyForgeModel_notName 16 = .ok (.iload_n 1, 1) := by decide +kernel
theorem d_TinyForgeModel_notName_17 : decode b_TinyForgeModel_notName 17 = .ok (.goto 7, 3) := by decide +kernel
theorem d_TinyForgeModel_notName_20 : decode b_TinyForgeModel_notName 20 = .ok (.aload_n 0, 1) := by decide +kernel
theorem d_TinyForgeModel_notName_21 : decode b_TinyForgeModel_notName 21 = .ok (.getfield 200, 3) := by decide +kernel
theorem d_TinyForgeModel_notName_24 : decode b_TinyForgeModel_notName 24 = .ok (.putfield 200, 3) := by decide +kernel
theorem d_TinyForgeModel_notName_27 : decode b_TinyForgeModel_notName 27 = .ok (.return_, 1) := by decide +kernel
theorem mw_17 : Cond.fieldLink "TinyForgeModel" 200 "TinyForgeModel" "fault" "I" ∈ BIG := List.mem_filter.mpr ⟨List.mem_of_getElem? (i := 1153) (by decide +kernel), by decide +kernel⟩
def mTinyForgeModel_notName (σ : St) (a1 : Int32) : Option (St) := if (σ.1 7) < 0 then some (sI σ 7 a1) else if (σ.1 7) ≤ a1 then some (sI σ 7 (σ.1 7)) else some (sI σ 7 a1)
set_option maxHeartbeats 4000000 in
set_option maxRecDepth 100000 in
theorem ct_TinyForgeModel_notName (l : Launch) (dC : Nat → ClassId) (dI : Nat → Nat → Nat) (ad : Nat → Nat) (cA : Nat → ClassId) (sz : Nat) {σ : St} {a1 : Int32} {σ' : St} (hF : mTinyForgeModel_notName σ a1 = some σ') : MV l y_TinyForgeModel_notName b_TinyForgeModel_notName 2 none { frames := 0, cells := 0, slots := 0, locals := 0 } (dC, dI) (mtys cA) ad (mcw ad cA) [.ref (ad 0), .int a1] σ sz σ' := by
  refine startM (own := "TinyForgeModel") (Qc := fun A => QV (dC, dI) (mtys cA) (mcw ad cA) A σ') rfl rfl (Nat.le_of_ble_eq_true rfl) ?_
  intro p e s m below meth c A H locs ls X hP hD hS hl
  have hl : lv_has ls 2 [(0, .ref (ad 0)), (1, .int a1)] := hl
  obtain ⟨hx, hb, hr, hml, hown, hlocks, hts, hA, hK, hZ⟩ := id X
  unfold mTinyForgeModel_notName at hF
  refine lv_aload_n hx hb d_TinyForgeModel_notName_0 rfl (lv_at hl 0 rfl) ?_
  refine lv_aload_n hx hb d_TinyForgeModel_notName_1 rfl (lv_at hl 0 rfl) ?_
  refine va_get (D := (dC, dI)) (ci := 11) (v := .int (σ.1 7)) hx hb hts i_TinyForgeModel hown hK hP 0 rfl rfl 8 (by decide) (hts _ mw_17) (fun _ h9 => h9) rfl d_TinyForgeModel_notName_2 ?_
  refine lv_if_lt (tgt := 16) hx hb d_TinyForgeModel_notName_5 (by decide) (fun c_1 => ?_) (fun c_1 => ?_)
  · have hF := ifp hF c_1
    refine lv_iload_n hx hb d_TinyForgeModel_notName_16 rfl (lv_at hl 1 rfl) ?_
    refine lv_goto (tgt := 24) hx hb d_TinyForgeModel_notName_17 (by decide) ?_
    refine va_put (D := (dC, dI)) (ci := 11) (v := .int a1) (ty := .int) hx hb hts i_TinyForgeModel t_TinyForgeModel t_TinyForgeModel_ok n_TinyForgeModel hown hK hP hD hS 0 rfl rfl 8 (by decide) (hts _ mw_17) (fun _ h9 => h9) rfl (by decide +kernel) rfl rfl (Nat.le_of_ble_eq_true rfl) d_TinyForgeModel_notName_24 (fun H locs hP hD hS => ?_)
    have hP : va_P (dC, dI) vwCl (mcw ad cA (sI σ 7 a1)) H := hP
    have hD : va_D A (mcw ad cA (sI σ 7 a1)) := hD
    cases hF
    exact leafV X hP hD hS d_TinyForgeModel_notName_27
  · have hF := ifn hF c_1
    refine lv_iload_n hx hb d_TinyForgeModel_notName_8 rfl (lv_at hl 1 rfl) ?_
    refine lv_aload_n hx hb d_TinyForgeModel_notName_9 rfl (lv_at hl 0 rfl) ?_
    refine va_get (D := (dC, dI)) (ci := 11) (v := .int (σ.1 7)) hx hb hts i_TinyForgeModel hown hK hP 0 rfl rfl 8 (by decide) (hts _ mw_17) (fun _ h9 => h9) rfl d_TinyForgeModel_notName_10 ?_
    refine lv_icmp_ge (tgt := 20) hx hb d_TinyForgeModel_notName_13 (by decide) (fun c_2 => ?_) (fun c_2 => ?_)
    · have hF := ifp hF c_2
      refine lv_aload_n hx hb d_TinyForgeModel_notName_20 rfl (lv_at hl 0 rfl) ?_
      refine va_get (D := (dC, dI)) (ci := 11) (v := .int (σ.1 7)) hx hb hts i_TinyForgeModel hown hK hP 0 rfl rfl 8 (by decide) (hts _ mw_17) (fun _ h9 => h9) rfl d_TinyForgeModel_notName_21 ?_
      refine va_put (D := (dC, dI)) (ci := 11) (v := .int (σ.1 7)) (ty := .int) hx hb hts i_TinyForgeModel t_TinyForgeModel t_TinyForgeModel_ok n_TinyForgeModel hown hK hP hD hS 0 rfl rfl 8 (by decide) (hts _ mw_17) (fun _ h9 => h9) rfl (by decide +kernel) rfl rfl (Nat.le_of_ble_eq_true rfl) d_TinyForgeModel_notName_24 (fun H locs hP hD hS => ?_)
      have hP : va_P (dC, dI) vwCl (mcw ad cA (sI σ 7 (σ.1 7))) H := hP
      have hD : va_D A (mcw ad cA (sI σ 7 (σ.1 7))) := hD
      cases hF
      exact leafV X hP hD hS d_TinyForgeModel_notName_27
    · have hF := ifn hF c_2
      refine lv_iload_n hx hb d_TinyForgeModel_notName_16 rfl (lv_at hl 1 rfl) ?_
      refine lv_goto (tgt := 24) hx hb d_TinyForgeModel_notName_17 (by decide) ?_
      refine va_put (D := (dC, dI)) (ci := 11) (v := .int a1) (ty := .int) hx hb hts i_TinyForgeModel t_TinyForgeModel t_TinyForgeModel_ok n_TinyForgeModel hown hK hP hD hS 0 rfl rfl 8 (by decide) (hts _ mw_17) (fun _ h9 => h9) rfl (by decide +kernel) rfl rfl (Nat.le_of_ble_eq_true rfl) d_TinyForgeModel_notName_24 (fun H locs hP hD hS => ?_)
      have hP : va_P (dC, dI) vwCl (mcw ad cA (sI σ 7 a1)) H := hP
      have hD : va_D A (mcw ad cA (sI σ 7 a1)) := hD
      cases hF
      exact leafV X hP hD hS d_TinyForgeModel_notName_27
theorem d_TinyForgeModel_makeGlobal_0 : decode b_TinyForgeModel_makeGlobal 0 = .ok (.aload_n 0, 1) := by decide +kernel
theorem d_TinyForgeModel_makeGlobal_1 : decode b_TinyForgeModel_makeGlobal 1 = .ok (.iload_n 1, 1) := by decide +kernel
theorem d_TinyForgeModel_makeGlobal_2 : decode b_TinyForgeModel_makeGlobal 2 = .ok (.invokevirtual 340, 3) := by decide +kernel
theorem d_TinyForgeModel_makeGlobal_5 : decode b_TinyForgeModel_makeGlobal 5 = .ok (.ifCond .ge 27, 3) := by decide +kernel
theorem d_TinyForgeModel_makeGlobal_8 : decode b_TinyForgeModel_makeGlobal 8 = .ok (.iload_n 2, 1) := by decide +kernel
theorem d_TinyForgeModel_makeGlobal_9 : decode b_TinyForgeModel_makeGlobal 9 = .ok (.ifCond .eq 15, 3) := by decide +kernel
theorem d_TinyForgeModel_makeGlobal_12 : decode b_TinyForgeModel_makeGlobal 12 = .ok (.aload_n 0, 1) := by decide +kernel
theorem d_TinyForgeModel_makeGlobal_13 : decode b_TinyForgeModel_makeGlobal 13 = .ok (.getfield 343, 3) := by decide +kernel
theorem d_TinyForgeModel_makeGlobal_16 : decode b_TinyForgeModel_makeGlobal 16 = .ok (.bipush 8, 2) := by decide +kernel
theorem d_TinyForgeModel_makeGlobal_18 : decode b_TinyForgeModel_makeGlobal 18 = .ok (.if_icmp .ne 18, 3) := by decide +kernel
theorem d_TinyForgeModel_makeGlobal_21 : decode b_TinyForgeModel_makeGlobal 21 = .ok (.goto 11, 3) := by decide +kernel
theorem d_TinyForgeModel_makeGlobal_24 : decode b_TinyForgeModel_makeGlobal 24 = .ok (.aload_n 0, 1) := by decide +kernel
theorem d_TinyForgeModel_makeGlobal_25 : decode b_TinyForgeModel_makeGlobal 25 = .ok (.getfield 346, 3) := by decide +kernel
theorem d_TinyForgeModel_makeGlobal_28 : decode b_TinyForgeModel_makeGlobal 28 = .ok (.iconst 4, 1) := by decide +kernel
theorem d_TinyForgeModel_makeGlobal_29 : decode b_TinyForgeModel_makeGlobal 29 = .ok (.if_icmp .ne 7, 3) := by decide +kernel
theorem d_TinyForgeModel_makeGlobal_32 : decode b_TinyForgeModel_makeGlobal 32 = .ok (.iconst 1, 1) := by decide +kernel
theorem d_TinyForgeModel_makeGlobal_33 : decode b_TinyForgeModel_makeGlobal 33 = .ok (.goto 4, 3) := by decide +kernel
theorem d_TinyForgeModel_makeGlobal_36 : decode b_TinyForgeModel_makeGlobal 36 = .ok (.iconst 0, 1) := by decide +kernel
theorem d_TinyForgeModel_makeGlobal_37 : decode b_TinyForgeModel_makeGlobal 37 = .ok (.istore 4, 2) := by decide +kernel
theorem d_TinyForgeModel_makeGlobal_39 : decode b_TinyForgeModel_makeGlobal 39 = .ok (.iload 4, 2) := by decide +kernel
theorem d_TinyForgeModel_makeGlobal_41 : decode b_TinyForgeModel_makeGlobal 41 = .ok (.ifCond .eq 8, 3) := by decide +kernel
theorem d_TinyForgeModel_makeGlobal_44 : decode b_TinyForgeModel_makeGlobal 44 = .ok (.aload_n 0, 1) := by decide +kernel
theorem d_TinyForgeModel_makeGlobal_45 : decode b_TinyForgeModel_makeGlobal 45 = .ok (.iload_n 1, 1) := by decide +kernel
theorem d_TinyForgeModel_makeGlobal_46 : decode b_TinyForgeModel_makeGlobal 46 = .ok (.invokevirtual 249, 3) := by decide +kernel
theorem d_TinyForgeModel_makeGlobal_49 : decode b_TinyForgeModel_makeGlobal 49 = .ok (.iload 4, 2) := by decide +kernel
theorem d_TinyForgeModel_makeGlobal_51 : decode b_TinyForgeModel_makeGlobal 51 = .ok (.ifCond .eq 8, 3) := by decide +kernel
theorem d_TinyForgeModel_makeGlobal_54 : decode b_TinyForgeModel_makeGlobal 54 = .ok (.bipush 59, 2) := by decide +kernel
theorem d_TinyForgeModel_makeGlobal_56 : decode b_TinyForgeModel_makeGlobal 56 = .ok (.goto 7, 3) := by decide +kernel
theorem d_TinyForgeModel_makeGlobal_59 : decode b_TinyForgeModel_makeGlobal 59 = .ok (.aload_n 0, 1) := by decide +kernel
theorem d_TinyForgeModel_makeGlobal_60 : decode b_TinyForgeModel_makeGlobal 60 = .ok (.getfield 337, 3) := by decide +kernel
theorem d_TinyForgeModel_makeGlobal_63 : decode b_TinyForgeModel_makeGlobal 63 = .ok (.istore 5, 2) := by decide +kernel
theorem d_TinyForgeModel_makeGlobal_65 : decode b_TinyForgeModel_makeGlobal 65 = .ok (.aload_n 0, 1) := by decide +kernel
theorem d_TinyForgeModel_makeGlobal_66 : decode b_TinyForgeModel_makeGlobal 66 = .ok (.getfield 51, 3) := by decide +kernel
theorem d_TinyForgeModel_makeGlobal_69 : decode b_TinyForgeModel_makeGlobal 69 = .ok (.iload 5, 2) := by decide +kernel
theorem d_TinyForgeModel_makeGlobal_71 : decode b_TinyForgeModel_makeGlobal 71 = .ok (.iload_n 1, 1) := by decide +kernel
theorem d_TinyForgeModel_makeGlobal_72 : decode b_TinyForgeModel_makeGlobal 72 = .ok (.iastore, 1) := by decide +kernel
theorem d_TinyForgeModel_makeGlobal_73 : decode b_TinyForgeModel_makeGlobal 73 = .ok (.aload_n 0, 1) := by decide +kernel
theorem d_TinyForgeModel_makeGlobal_74 : decode b_TinyForgeModel_makeGlobal 74 = .ok (.getfield 54, 3) := by decide +kernel
theorem d_TinyForgeModel_makeGlobal_77 : decode b_TinyForgeModel_makeGlobal 77 = .ok (.iload 5, 2) := by decide +kernel
theorem d_TinyForgeModel_makeGlobal_79 : decode b_TinyForgeModel_makeGlobal 79 = .ok (.iload_n 2, 1) := by decide +kernel
theorem d_TinyForgeModel_makeGlobal_80 : decode b_TinyForgeModel_makeGlobal 80 = .ok (.bastore, 1) := by decide +kernel
theorem d_TinyForgeModel_makeGlobal_81 : decode b_TinyForgeModel_makeGlobal 81 = .ok (.aload_n 0, 1) := by decide +kernel
theorem d_TinyForgeModel_makeGlobal_82 : decode b_TinyForgeModel_makeGlobal 82 = .ok (.getfield 58, 3) := by decide +kernel
theorem d_TinyForgeModel_makeGlobal_85 : decode b_TinyForgeModel_makeGlobal 85 = .ok (.iload 5, 2) := by decide +kernel
theorem d_TinyForgeModel_makeGlobal_87 : decode b_TinyForgeModel_makeGlobal 87 = .ok (.iload_n 3, 1) := by decide +kernel
theorem d_TinyForgeModel_makeGlobal_88 : decode b_TinyForgeModel_makeGlobal 88 = .ok (.iastore, 1) := by decide +kernel
theorem d_TinyForgeModel_makeGlobal_89 : decode b_TinyForgeModel_makeGlobal 89 = .ok (.aload_n 0, 1) := by decide +kernel
theorem d_TinyForgeModel_makeGlobal_90 : decode b_TinyForgeModel_makeGlobal 90 = .ok (.getfield 61, 3) := by decide +kernel
theorem d_TinyForgeModel_makeGlobal_93 : decode b_TinyForgeModel_makeGlobal 93 = .ok (.iload 5, 2) := by decide +kernel
theorem d_TinyForgeModel_makeGlobal_95 : decode b_TinyForgeModel_makeGlobal 95 = .ok (.bipush 16, 2) := by decide +kernel
theorem d_TinyForgeModel_makeGlobal_97 : decode b_TinyForgeModel_makeGlobal 97 = .ok (.aload_n 0, 1) := by decide +kernel
theorem d_TinyForgeModel_makeGlobal_98 : decode b_TinyForgeModel_makeGlobal 98 = .ok (.getfield 346, 3) := by decide +kernel
theorem d_TinyForgeModel_makeGlobal_101 : decode b_TinyForgeModel_makeGlobal 101 = .ok (.imul, 1) := by decide +kernel
theorem d_TinyForgeModel_makeGlobal_102 : decode b_TinyForgeModel_makeGlobal 102 = .ok (.iastore, 1) := by decide +kernel
theorem d_TinyForgeModel_makeGlobal_103 : decode b_TinyForgeModel_makeGlobal 103 = .ok (.aload_n 0, 1) := by decide +kernel
theorem d_TinyForgeModel_makeGlobal_104 : decode b_TinyForgeModel_makeGlobal 104 = .ok (.dup, 1) := by decide +kernel
theorem d_TinyForgeModel_makeGlobal_105 : decode b_TinyForgeModel_makeGlobal 105 = .ok (.getfield 337, 3) := by decide +kernel
theorem d_TinyForgeModel_makeGlobal_108 : decode b_TinyForgeModel_makeGlobal 108 = .ok (.iload 4, 2) := by decide +kernel
theorem d_TinyForgeModel_makeGlobal_110 : decode b_TinyForgeModel_makeGlobal 110 = .ok (.ifCond .eq 7, 3) := by decide +kernel
theorem d_TinyForgeModel_makeGlobal_113 : decode b_TinyForgeModel_makeGlobal 113 = .ok (.iconst 0, 1) := by decide +kernel
theorem d_TinyForgeModel_makeGlobal_114 : decode b_TinyForgeModel_makeGlobal 114 = .ok (.goto 4, 3) := by decide +kernel
theorem d_TinyForgeModel_makeGlobal_117 : decode b_TinyForgeModel_makeGlobal 117 = .ok (.iconst 1, 1) := by decide +kernel
theorem d_TinyForgeModel_makeGlobal_118 : decode b_TinyForgeModel_makeGlobal 118 = .ok (.iadd, 1) := by decide +kernel
theorem d_TinyForgeModel_makeGlobal_119 : decode b_TinyForgeModel_makeGlobal 119 = .ok (.putfield 337, 3) := by decide +kernel
theorem d_TinyForgeModel_makeGlobal_122 : decode b_TinyForgeModel_makeGlobal 122 = .ok (.aload_n 0, 1) := by decide +kernel
theorem d_TinyForgeModel_makeGlobal_123 : decode b_TinyForgeModel_makeGlobal 123 = .ok (.dup, 1) := by decide +kernel
theorem d_TinyForgeModel_makeGlobal_124 : decode b_TinyForgeModel_makeGlobal 124 = .ok (.getfield 343, 3) := by decide +kernel
theorem d_TinyForgeModel_makeGlobal_127 : decode b_TinyForgeModel_makeGlobal 127 = .ok (.iload_n 2, 1) := by decide +kernel
theorem d_TinyForgeModel_makeGlobal_128 : decode b_TinyForgeModel_makeGlobal 128 = .ok (.ifCond .eq 12, 3) := by decide +kernel
theorem d_TinyForgeModel_makeGlobal_131 : decode b_TinyForgeModel_makeGlobal 131 = .ok (.iload 4, 2) := by decide +kernel
theorem d_TinyForgeModel_makeGlobal_133 : decode b_TinyForgeModel_makeGlobal 133 = .ok (.ifCond .ne 7, 3) := by decide +kernel
theorem d_TinyForgeModel_makeGlobal_136 : decode b_TinyForgeModel_makeGlobal 136 = .ok (.iconst 1, 1) := by decide +kernel
theorem d_TinyForgeModel_makeGlobal_137 : decode b_TinyForgeModel_makeGlobal 137 = .ok (.goto 4, 3) := by decide +kernel
theorem d_TinyForgeModel_makeGlobal_140 : decode b_TinyForgeModel_makeGlobal 140 = .ok (.iconst 0, 1) := by decide +kernel
theorem d_TinyForgeModel_makeGlobal_141 : decode b_TinyForgeModel_makeGlobal 141 = .ok (.iadd, 1) := by decide +kernel
theorem d_TinyForgeModel_makeGlobal_142 : decode b_TinyForgeModel_makeGlobal 142 = .ok (.putfield 343, 3) := by decide +kernel
theorem d_TinyForgeModel_makeGlobal_145 : decode b_TinyForgeModel_makeGlobal 145 = .ok (.aload_n 0, 1) := by decide +kernel
theorem d_TinyForgeModel_makeGlobal_146 : decode b_TinyForgeModel_makeGlobal 146 = .ok (.dup, 1) := by decide +kernel
theorem d_TinyForgeModel_makeGlobal_147 : decode b_TinyForgeModel_makeGlobal 147 = .ok (.getfield 346, 3) := by decide +kernel
theorem d_TinyForgeModel_makeGlobal_150 : decode b_TinyForgeModel_makeGlobal 150 = .ok (.iload_n 2, 1) := by decide +kernel
theorem d_TinyForgeModel_makeGlobal_151 : decode b_TinyForgeModel_makeGlobal 151 = .ok (.ifCond .ne 8, 3) := by decide +kernel
theorem d_TinyForgeModel_makeGlobal_154 : decode b_TinyForgeModel_makeGlobal 154 = .ok (.iload 4, 2) := by decide +kernel
theorem d_TinyForgeModel_makeGlobal_156 : decode b_TinyForgeModel_makeGlobal 156 = .ok (.ifCond .eq 7, 3) := by decide +kernel
theorem d_TinyForgeModel_makeGlobal_159 : decode b_TinyForgeModel_makeGlobal 159 = .ok (.iconst 0, 1) := by decide +kernel
theorem d_TinyForgeModel_makeGlobal_160 : decode b_TinyForgeModel_makeGlobal 160 = .ok (.goto 4, 3) := by decide +kernel
theorem d_TinyForgeModel_makeGlobal_163 : decode b_TinyForgeModel_makeGlobal 163 = .ok (.iconst 1, 1) := by decide +kernel
theorem d_TinyForgeModel_makeGlobal_164 : decode b_TinyForgeModel_makeGlobal 164 = .ok (.iadd, 1) := by decide +kernel
theorem d_TinyForgeModel_makeGlobal_165 : decode b_TinyForgeModel_makeGlobal 165 = .ok (.putfield 346, 3) := by decide +kernel
theorem d_TinyForgeModel_makeGlobal_168 : decode b_TinyForgeModel_makeGlobal 168 = .ok (.iload 5, 2) := by decide +kernel
theorem d_TinyForgeModel_makeGlobal_170 : decode b_TinyForgeModel_makeGlobal 170 = .ok (.ireturn, 1) := by decide +kernel
theorem mw_18 : Cond.fieldLink "TinyForgeModel" 346 "TinyForgeModel" "arrays" "I" ∈ BIG := List.mem_filter.mpr ⟨List.mem_of_getElem? (i := 1168) (by decide +kernel), by decide +kernel⟩
theorem mw_19 : Cond.fieldLink "TinyForgeModel" 343 "TinyForgeModel" "functions" "I" ∈ BIG := List.mem_filter.mpr ⟨List.mem_of_getElem? (i := 1167) (by decide +kernel), by decide +kernel⟩
theorem mw_20 : Cond.fieldLink "TinyForgeModel" 54 "TinyForgeModel" "isFunction" "[Z" ∈ BIG := List.mem_filter.mpr ⟨List.mem_of_getElem? (i := 1170) (by decide +kernel), by decide +kernel⟩
theorem mw_21 : Cond.fieldLink "TinyForgeModel" 58 "TinyForgeModel" "many" "[I" ∈ BIG := List.mem_filter.mpr ⟨List.mem_of_getElem? (i := 1171) (by decide +kernel), by decide +kernel⟩
theorem mw_22 : Cond.fieldLink "TinyForgeModel" 61 "TinyForgeModel" "body" "[I" ∈ BIG := List.mem_filter.mpr ⟨List.mem_of_getElem? (i := 1172) (by decide +kernel), by decide +kernel⟩
theorem mw_23 : Cond.methodLink "TinyForgeModel" 340 ⟨"TinyForgeModel", "global", "(I)I"⟩ ∈ BIG := List.mem_filter.mpr ⟨List.mem_of_getElem? (i := 1428) (by decide +kernel), by decide +kernel⟩
theorem mw_24 : Cond.code ⟨"TinyForgeModel", "global", "(I)I"⟩ prog_13_method_51_code 4 (some .int) ∈ BIG := List.mem_filter.mpr ⟨List.mem_of_getElem? (i := 1431) (by decide +kernel), by decide +kernel⟩
theorem mw_25 : Cond.instanceMethod ⟨"TinyForgeModel", "global", "(I)I"⟩ ∈ BIG := List.mem_filter.mpr ⟨List.mem_of_getElem? (i := 1430) (by decide +kernel), by decide +kernel⟩
theorem mw_26 : Cond.selects "TinyForgeModel" ⟨"TinyForgeModel", "global", "(I)I"⟩ ⟨"TinyForgeModel", "global", "(I)I"⟩ ∈ BIG := List.mem_filter.mpr ⟨List.mem_of_getElem? (i := 66) (by decide +kernel), by decide +kernel⟩
theorem mw_27 : Cond.methodLink "TinyForgeModel" 249 ⟨"TinyForgeModel", "notName", "(I)V"⟩ ∈ BIG := List.mem_filter.mpr ⟨List.mem_of_getElem? (i := 1436) (by decide +kernel), by decide +kernel⟩
theorem mw_28 : Cond.code ⟨"TinyForgeModel", "notName", "(I)V"⟩ prog_13_method_24_code 2 none ∈ BIG := List.mem_filter.mpr ⟨List.mem_of_getElem? (i := 1439) (by decide +kernel), by decide +kernel⟩
theorem mw_29 : Cond.instanceMethod ⟨"TinyForgeModel", "notName", "(I)V"⟩ ∈ BIG := List.mem_filter.mpr ⟨List.mem_of_getElem? (i := 1438) (by decide +kernel), by decide +kernel⟩
theorem mw_30 : Cond.selects "TinyForgeModel" ⟨"TinyForgeModel", "notName", "(I)V"⟩ ⟨"TinyForgeModel", "notName", "(I)V"⟩ ∈ BIG := List.mem_filter.mpr ⟨List.mem_of_getElem? (i := 68) (by decide +kernel), by decide +kernel⟩
theorem lk_TinyForgeModel_340 : LkV "TinyForgeModel" 340 "TinyForgeModel" y_TinyForgeModel_global b_TinyForgeModel_global 4 (some .int) 1 := ⟨⟨mw_23, mw_13, mw_24, by decide +kernel⟩, mw_25, mw_26⟩
theorem lk_TinyForgeModel_249 : LkV "TinyForgeModel" 249 "TinyForgeModel" y_TinyForgeModel_notName b_TinyForgeModel_notName 2 none 1 := ⟨⟨mw_27, mw_13, mw_28, by decide +kernel⟩, mw_29, mw_30⟩
def mTinyForgeModel_makeGlobal_b1 (k : Nat → St → Int32 → Int32 → Int32 → Int32 → Int32 → Option (Int32 × St)) (σ : St) (x1 : Int32) (x2 : Int32) (x3 : Int32) (x4 : Int32) (x5 : Int32) : Option (Int32 × St) := k 3 σ x1 x2 x3 1 0
def mTinyForgeModel_makeGlobal_b2 (k : Nat → St → Int32 → Int32 → Int32 → Int32 → Int32 → Option (Int32 × St)) (σ : St) (x1 : Int32) (x2 : Int32) (x3 : Int32) (x4 : Int32) (x5 : Int32) : Option (Int32 × St) := k 3 σ x1 x2 x3 0 0
def mTinyForgeModel_makeGlobal_b3 (k : Nat → St → Int32 → Int32 → Int32 → Int32 → Int32 → Option (Int32 × St)) (σ : St) (x1 : Int32) (x2 : Int32) (x3 : Int32) (x4 : Int32) (x5 : Int32) : Option (Int32 × St) := if x4 = 0 then k 4 σ x1 x2 x3 x4 0 else b1 (mTinyForgeModel_notName σ x1) (fun u7 => k 4 u7 x1 x2 x3 x4 0)
def mTinyForgeModel_makeGlobal_b4 (k : Nat → St → Int32 → Int32 → Int32 → Int32 → Int32 → Option (Int32 × St)) (σ : St) (x1 : Int32) (x2 : Int32) (x3 : Int32) (x4 : Int32) (x5 : Int32) : Option (Int32 × St) := if x4 = 0 then k 5 σ x1 x2 x3 x4 (σ.1 9) else k 5 σ x1 x2 x3 x4 59
def mTinyForgeModel_makeGlobal_b5 (k : Nat → St → Int32 → Int32 → Int32 → Int32 → Int32 → Option (Int32 × St)) (σ : St) (x1 : Int32) (x2 : Int32) (x3 : Int32) (x4 : Int32) (x5 : Int32) : Option (Int32 × St) := gd (inB x5 60) (gd (inB x5 60) (gd (inB x5 60) (gd (inB x5 60) (if x4 = 0 then k 6 (sA (sA (sA (sA σ 12 (upd (σ.2.2.1 12) x5.toNatClampNeg x1)) 13 (upd (σ.2.2.1 13) x5.toNatClampNeg (vp_nar .boolean x2))) 14 (upd (σ.2.2.1 14) x5.toNatClampNeg x3)) 15 (upd (σ.2.2.1 15) x5.toNatClampNeg (16 * (σ.1 11)))) x2 x4 x5 1 (σ.1 9) else k 6 (sA (sA (sA (sA σ 12 (upd (σ.2.2.1 12) x5.toNatClampNeg x1)) 13 (upd (σ.2.2.1 13) x5.toNatClampNeg (vp_nar .boolean x2))) 14 (upd (σ.2.2.1 14) x5.toNatClampNeg x3)) 15 (upd (σ.2.2.1 15) x5.toNatClampNeg (16 * (σ.1 11)))) x2 x4 x5 0 (σ.1 9)))))
def mTinyForgeModel_makeGlobal_b6 (k : Nat → St → Int32 → Int32 → Int32 → Int32 → Int32 → Option (Int32 × St)) (σ : St) (x1 : Int32) (x2 : Int32) (x3 : Int32) (x4 : Int32) (x5 : Int32) : Option (Int32 × St) := if x1 = 0 then k 7 (sI σ 9 (x5 + x4)) x1 x2 x3 (σ.1 10) 0 else if x2 = 0 then k 8 (sI σ 9 (x5 + x4)) x1 x2 x3 1 (σ.1 10) else k 7 (sI σ 9 (x5 + x4)) x1 x2 x3 (σ.1 10) 0
def mTinyForgeModel_makeGlobal_b7 (k : Nat → St → Int32 → Int32 → Int32 → Int32 → Int32 → Option (Int32 × St)) (σ : St) (x1 : Int32) (x2 : Int32) (x3 : Int32) (x4 : Int32) (x5 : Int32) : Option (Int32 × St) := k 8 σ x1 x2 x3 0 x4
def mTinyForgeModel_makeGlobal_b8 (k : Nat → St → Int32 → Int32 → Int32 → Int32 → Int32 → Option (Int32 × St)) (σ : St) (x1 : Int32) (x2 : Int32) (x3 : Int32) (x4 : Int32) (x5 : Int32) : Option (Int32 × St) := if x1 = 0 then if x2 = 0 then some (x3, (sI (sI σ 10 (x5 + x4)) 11 ((σ.1 11) + 1))) else some (x3, (sI (sI σ 10 (x5 + x4)) 11 ((σ.1 11) + 0))) else some (x3, (sI (sI σ 10 (x5 + x4)) 11 ((σ.1 11) + 0)))
def mTinyForgeModel_makeGlobal_L : Nat → Nat → St → Int32 → Int32 → Int32 → Int32 → Int32 → Option (Int32 × St)
  | 0, _, _, _, _, _, _, _ => none
  | n + 1, lab, σ, x1, x2, x3, x4, x5 => match lab with
    | 1 => mTinyForgeModel_makeGlobal_b1 (mTinyForgeModel_makeGlobal_L n) σ x1 x2 x3 x4 x5
    | 2 => mTinyForgeModel_makeGlobal_b2 (mTinyForgeModel_makeGlobal_L n) σ x1 x2 x3 x4 x5
    | 3 => mTinyForgeModel_makeGlobal_b3 (mTinyForgeModel_makeGlobal_L n) σ x1 x2 x3 x4 x5
    | 4 => mTinyForgeModel_makeGlobal_b4 (mTinyForgeModel_makeGlobal_L n) σ x1 x2 x3 x4 x5
    | 5 => mTinyForgeModel_makeGlobal_b5 (mTinyForgeModel_makeGlobal_L n) σ x1 x2 x3 x4 x5
    | 6 => mTinyForgeModel_makeGlobal_b6 (mTinyForgeModel_makeGlobal_L n) σ x1 x2 x3 x4 x5
    | 7 => mTinyForgeModel_makeGlobal_b7 (mTinyForgeModel_makeGlobal_L n) σ x1 x2 x3 x4 x5
    | 8 => mTinyForgeModel_makeGlobal_b8 (mTinyForgeModel_makeGlobal_L n) σ x1 x2 x3 x4 x5
    | _ => none
def mTinyForgeModel_makeGlobal (σ : St) (a1 : Int32) (a2 : Int32) (a3 : Int32) : Option (Int32 × St) := b1 (mTinyForgeModel_global σ a1) (fun r1 => if (0 : Int32) ≤ r1 then mTinyForgeModel_makeGlobal_L 2000 1 σ a1 a2 a3 0 0 else if a2 = 0 then if (σ.1 11) = 4 then mTinyForgeModel_makeGlobal_L 2000 1 σ a1 a2 a3 0 0 else mTinyForgeModel_makeGlobal_L 2000 2 σ a1 a2 a3 0 0 else if (σ.1 10) = 8 then mTinyForgeModel_makeGlobal_L 2000 1 σ a1 a2 a3 0 0 else mTinyForgeModel_makeGlobal_L 2000 2 σ a1 a2 a3 0 0)
set_option maxHeartbeats 4000000 in
set_option maxRecDepth 100000 in
theorem mTinyForgeModel_makeGlobal_blk {p : Program} {e : Env} {s : State} {m : MethodId} {args : Array Value} {below : List Frame} {meth : Method} {c : Code} {A : Nat → Prop} (l : Launch) (dC : Nat → ClassId) (dI : Nat → Nat → Nat) (ad : Nat → Nat) (cA : Nat → ClassId) {r : Int32} {σ' : St} (X : Cx p s m args meth c b_TinyForgeModel_makeGlobal 6 (some .int) "TinyForgeModel" (dC, dI) (mtys cA) ad A) : ∀ n : Nat, (∀ (σ : St) (x1 : Int32) (x2 : Int32) (x3 : Int32) (x4 : Int32) (x5 : Int32) (H : Heap) (locs : List Loc) (ls : Array Slot), mTinyForgeModel_makeGlobal_L n 1 σ x1 x2 x3 x4 x5 = some (r, σ') → va_P (dC, dI) vwCl (mcw ad cA σ) H → va_D A (mcw ad cA σ) → va_S A s.heap H locs → lv_has ls 6 [(0, .ref (ad 0)), (1, .int x1), (2, .int x2), (3, .int x3)] → W p l e { frames := 2, cells := 0, slots := 0, locals := 47 } s m args below meth c H locs 0 0 (MQ below (QI (dC, dI) (mtys cA) (mcw ad cA) A r σ') args s 0 0 A) (F0 m 32 ls [])) ∧ (∀ (σ : St) (x1 : Int32) (x2 : Int32) (x3 : Int32) (x4 : Int32) (x5 : Int32) (H : Heap) (locs : List Loc) (ls : Array Slot), mTinyForgeModel_makeGlobal_L n 2 σ x1 x2 x3 x4 x5 = some (r, σ') → va_P (dC, dI) vwCl (mcw ad cA σ) H → va_D A (mcw ad cA σ) → va_S A s.heap H locs → lv_has ls 6 [(0, .ref (ad 0)), (1, .int x1), (2, .int x2), (3, .int x3)] → W p l e { frames := 2, cells := 0, slots := 0, locals := 47 } s m args below meth c H locs 0 0 (MQ below (QI (dC, dI) (mtys cA) (mcw ad cA) A r σ') args s 0 0 A) (F0 m 36 ls [])) ∧ (∀ (σ : St) (x1 : Int32) (x2 : Int32) (x3 : Int32) (x4 : Int32) (x5 : Int32) (H : Heap) (locs : List Loc) (ls : Array Slot), mTinyForgeModel_makeGlobal_L n 3 σ x1 x2 x3 x4 x5 = some (r, σ') → va_P (dC, dI) vwCl (mcw ad cA σ) H → va_D A (mcw ad cA σ) → va_S A s.heap H locs → lv_has ls 6 [(0, .ref (ad 0)), (1, .int x1), (2, .int x2), (3, .int x3)] → W p l e { frames := 2, cells := 0, slots := 0, locals := 47 } s m args below meth c H locs 0 0 (MQ below (QI (dC, dI) (mtys cA) (mcw ad cA) A r σ') args s 0 0 A) (F0 m 37 ls [.int x4])) ∧ (∀ (σ : St) (x1 : Int32) (x2 : Int32) (x3 : Int32) (x4 : Int32) (x5 : Int32) (H : Heap) (locs : List Loc) (ls : Array Slot), mTinyForgeModel_makeGlobal_L n 4 σ x1 x2 x3 x4 x5 = some (r, σ') → va_P (dC, dI) vwCl (mcw ad cA σ) H → va_D A (mcw ad cA σ) → va_S A s.heap H locs → lv_has ls 6 [(0, .ref (ad 0)), (1, .int x1), (2, .int x2), (3, .int x3), (4, .int x4)] → W p l e { frames := 2, cells := 0, slots := 0, locals := 47 } s m args below meth c H locs 0 0 (MQ below (QI (dC, dI) (mtys cA) (mcw ad cA) A r σ') args s 0 0 A) (F0 m 49 ls [])) ∧ (∀ (σ : St) (x1 : Int32) (x2 : Int32) (x3 : Int32) (x4 : Int32) (x5 : Int32) (H : Heap) (locs : List Loc) (ls : Array Slot), mTinyForgeModel_makeGlobal_L n 5 σ x1 x2 x3 x4 x5 = some (r, σ') → va_P (dC, dI) vwCl (mcw ad cA σ) H → va_D A (mcw ad cA σ) → va_S A s.heap H locs → lv_has ls 6 [(0, .ref (ad 0)), (1, .int x1), (2, .int x2), (3, .int x3), (4, .int x4)] → W p l e { frames := 2, cells := 0, slots := 0, locals := 47 } s m args below meth c H locs 0 0 (MQ below (QI (dC, dI) (mtys cA) (mcw ad cA) A r σ') args s 0 0 A) (F0 m 63 ls [.int x5])) ∧ (∀ (σ : St) (x1 : Int32) (x2 : Int32) (x3 : Int32) (x4 : Int32) (x5 : Int32) (H : Heap) (locs : List Loc) (ls : Array Slot), mTinyForgeModel_makeGlobal_L n 6 σ x1 x2 x3 x4 x5 = some (r, σ') → va_P (dC, dI) vwCl (mcw ad cA σ) H → va_D A (mcw ad cA σ) → va_S A s.heap H locs → lv_has ls 6 [(0, .ref (ad 0)), (2, .int x1), (4, .int x2), (5, .int x3)] → W p l e { frames := 2, cells := 0, slots := 0, locals := 47 } s m args below meth c H locs 0 0 (MQ below (QI (dC, dI) (mtys cA) (mcw ad cA) A r σ') args s 0 0 A) (F0 m 118 ls [.int x4, .int x5, .ref (ad 0)])) ∧ (∀ (σ : St) (x1 : Int32) (x2 : Int32) (x3 : Int32) (x4 : Int32) (x5 : Int32) (H : Heap) (locs : List Loc) (ls : Array Slot), mTinyForgeModel_makeGlobal_L n 7 σ x1 x2 x3 x4 x5 = some (r, σ') → va_P (dC, dI) vwCl (mcw ad cA σ) H → va_D A (mcw ad cA σ) → va_S A s.heap H locs → lv_has ls 6 [(0, .ref (ad 0)), (2, .int x1), (4, .int x2), (5, .int x3)] → W p l e { frames := 2, cells := 0, slots := 0, locals := 47 } s m args below meth c H locs 0 0 (MQ below (QI (dC, dI) (mtys cA) (mcw ad cA) A r σ') args s 0 0 A) (F0 m 140 ls [.int x4, .ref (ad 0)])) ∧ (∀ (σ : St) (x1 : Int32) (x2 : Int32) (x3 : Int32) (x4 : Int32) (x5 : Int32) (H : Heap) (locs : List Loc) (ls : Array Slot), mTinyForgeModel_makeGlobal_L n 8 σ x1 x2 x3 x4 x5 = some (r, σ') → va_P (dC, dI) vwCl (mcw ad cA σ) H → va_D A (mcw ad cA σ) → va_S A s.heap H locs → lv_has ls 6 [(0, .ref (ad 0)), (2, .int x1), (4, .int x2), (5, .int x3)] → W p l e { frames := 2, cells := 0, slots := 0, locals := 47 } s m args below meth c H locs 0 0 (MQ below (QI (dC, dI) (mtys cA) (mcw ad cA) A r σ') args s 0 0 A) (F0 m 141 ls [.int x4, .int x5, .ref (ad 0)])) := by
  obtain ⟨hx, hb, hr, hml, hown, hlocks, hts, hA, hK, hZ⟩ := id X
  intro n
  induction n with
  | zero => exact ⟨(fun σ x1 x2 x3 x4 x5 H locs ls hF => by cases hF), (fun σ x1 x2 x3 x4 x5 H locs ls hF => by cases hF), (fun σ x1 x2 x3 x4 x5 H locs ls hF => by cases hF), (fun σ x1 x2 x3 x4 x5 H locs ls hF => by cases hF), (fun σ x1 x2 x3 x4 x5 H locs ls hF => by cases hF), (fun σ x1 x2 x3 x4 x5 H locs ls hF => by cases hF), (fun σ x1 x2 x3 x4 x5 H locs ls hF => by cases hF), (fun σ x1 x2 x3 x4 x5 H locs ls hF => by cases hF)⟩
  | succ n ihn =>
    refine ⟨fun σ x1 x2 x3 x4 x5 H locs ls hF hP hD hS hl => ?_, fun σ x1 x2 x3 x4 x5 H locs ls hF hP hD hS hl => ?_, fun σ x1 x2 x3 x4 x5 H locs ls hF hP hD hS hl => ?_, fun σ x1 x2 x3 x4 x5 H locs ls hF hP hD hS hl => ?_, fun σ x1 x2 x3 x4 x5 H locs ls hF hP hD hS hl => ?_, fun σ x1 x2 x3 x4 x5 H locs ls hF hP hD hS hl => ?_, fun σ x1 x2 x3 x4 x5 H locs ls hF hP hD hS hl => ?_, fun σ x1 x2 x3 x4 x5 H locs ls hF hP hD hS hl => ?_⟩
    · have hF : mTinyForgeModel_makeGlobal_b1 (mTinyForgeModel_makeGlobal_L n) σ x1 x2 x3 x4 x5 = some (r, σ') := hF
      unfold mTinyForgeModel_makeGlobal_b1 at hF
      refine lv_iconst (v := 1) hx hb d_TinyForgeModel_makeGlobal_32 (by decide) ?_
      refine lv_goto (tgt := 37) hx hb d_TinyForgeModel_makeGlobal_33 (by decide) ?_
      exact ihn.2.2.1 σ x1 x2 x3 1 0 H locs ls hF hP hD hS (lv_sub hl [0, 1, 2, 3] rfl)
    · have hF : mTinyForgeModel_makeGlobal_b2 (mTinyForgeModel_makeGlobal_L n) σ x1 x2 x3 x4 x5 = some (r, σ') := hF
      unfold mTinyForgeModel_makeGlobal_b2 at hF
      refine lv_iconst (v := 0) hx hb d_TinyForgeModel_makeGlobal_36 (by decide) ?_
      exact ihn.2.2.1 σ x1 x2 x3 0 0 H locs ls hF hP hD hS (lv_sub hl [0, 1, 2, 3] rfl)
    · have hF : mTinyForgeModel_makeGlobal_b3 (mTinyForgeModel_makeGlobal_L n) σ x1 x2 x3 x4 x5 = some (r, σ') := hF
      unfold mTinyForgeModel_makeGlobal_b3 at hF
      refine lv_istore (lv' := [(4, .int x4), (0, .ref (ad 0)), (1, .int x1), (2, .int x2), (3, .int x3)]) hx hb d_TinyForgeModel_makeGlobal_37 hl (by decide) rfl (fun ls hl => ?_)
      refine lv_iload hx hb d_TinyForgeModel_makeGlobal_39 (lv_at hl 0 rfl) ?_
      refine lv_if_eq (tgt := 49) hx hb d_TinyForgeModel_makeGlobal_41 (by decide) (fun c_6 => ?_) (fun c_6 => ?_)
      · have hF := ifp hF c_6
        exact ihn.2.2.2.1 σ x1 x2 x3 x4 0 H locs ls hF hP hD hS (lv_sub hl [1, 2, 3, 4, 0] rfl)
      · have hF := ifn hF c_6
        refine lv_aload_n hx hb d_TinyForgeModel_makeGlobal_44 rfl (lv_at hl 1 rfl) ?_
        refine lv_iload_n hx hb d_TinyForgeModel_makeGlobal_45 rfl (lv_at hl 2 rfl) ?_
        obtain ⟨u7, h7, hF⟩ := b1E hF
        refine callVV (As := [.int x1]) X (ct_TinyForgeModel_notName l dC dI ad cA H.size h7) lk_TinyForgeModel_249 ⟨rfl, rfl, by decide, by decide⟩ 0 rfl rfl hP hD hS hl.1 rfl rfl (Nat.le_of_ble_eq_true rfl) d_TinyForgeModel_makeGlobal_46 (fun H locs hP hD hS => ?_)
        exact ihn.2.2.2.1 u7 x1 x2 x3 x4 0 H locs ls hF hP hD hS (lv_sub hl [1, 2, 3, 4, 0] rfl)
    · have hF : mTinyForgeModel_makeGlobal_b4 (mTinyForgeModel_makeGlobal_L n) σ x1 x2 x3 x4 x5 = some (r, σ') := hF
      unfold mTinyForgeModel_makeGlobal_b4 at hF
      refine lv_iload hx hb d_TinyForgeModel_makeGlobal_49 (lv_at hl 4 rfl) ?_
      refine lv_if_eq (tgt := 59) hx hb d_TinyForgeModel_makeGlobal_51 (by decide) (fun c_8 => ?_) (fun c_8 => ?_)
      · have hF := ifp hF c_8
        refine lv_aload_n hx hb d_TinyForgeModel_makeGlobal_59 rfl (lv_at hl 0 rfl) ?_
        refine va_get (D := (dC, dI)) (ci := 11) (v := .int (σ.1 9)) hx hb hts i_TinyForgeModel hown hK hP 0 rfl rfl 21 (by decide) (hts _ mw_10) (fun _ h9 => h9) rfl d_TinyForgeModel_makeGlobal_60 ?_
        exact ihn.2.2.2.2.1 σ x1 x2 x3 x4 (σ.1 9) H locs ls hF hP hD hS (lv_sub hl [0, 1, 2, 3, 4] rfl)
      · have hF := ifn hF c_8
        refine lv_bipush (v := 59) hx hb d_TinyForgeModel_makeGlobal_54 (by decide) ?_
        refine lv_goto (tgt := 63) hx hb d_TinyForgeModel_makeGlobal_56 (by decide) ?_
        exact ihn.2.2.2.2.1 σ x1 x2 x3 x4 59 H locs ls hF hP hD hS (lv_sub hl [0, 1, 2, 3, 4] rfl)
    · have hF : mTinyForgeModel_makeGlobal_b5 (mTinyForgeModel_makeGlobal_L n) σ x1 x2 x3 x4 x5 = some (r, σ') := hF
      unfold mTinyForgeModel_makeGlobal_b5 at hF
      refine lv_istore (lv' := [(5, .int x5), (0, .ref (ad 0)), (1, .int x1), (2, .int x2), (3, .int x3), (4, .int x4)]) hx hb d_TinyForgeModel_makeGlobal_63 hl (by decide) rfl (fun ls hl => ?_)
      refine lv_aload_n hx hb d_TinyForgeModel_makeGlobal_65 rfl (lv_at hl 1 rfl) ?_
      refine va_get (D := (dC, dI)) (ci := 11) (v := .ref (ad 13)) hx hb hts i_TinyForgeModel hown hK hP 0 rfl rfl 24 (by decide) (hts _ mw_11) (fun _ h9 => h9) rfl d_TinyForgeModel_makeGlobal_66 ?_
      refine lv_iload hx hb d_TinyForgeModel_makeGlobal_69 (lv_at hl 0 rfl) ?_
      refine lv_iload_n hx hb d_TinyForgeModel_makeGlobal_71 rfl (lv_at hl 2 rfl) ?_
      obtain ⟨g_9, hF⟩ := gdE hF
      refine va_iast (f := (σ.2.2.1 12)) hx hb hK hP hD hS 13 0 rfl rfl (inE g_9) d_TinyForgeModel_makeGlobal_72 (fun H locs hP hD hS => ?_)
      have hP : va_P (dC, dI) vwCl (mcw ad cA (sA σ 12 (upd (σ.2.2.1 12) x5.toNatClampNeg x1))) H := hP
      have hD : va_D A (mcw ad cA (sA σ 12 (upd (σ.2.2.1 12) x5.toNatClampNeg x1))) := hD
      refine lv_aload_n hx hb d_TinyForgeModel_makeGlobal_73 rfl (lv_at hl 1 rfl) ?_
      refine va_get (D := (dC, dI)) (ci := 11) (v := .ref (ad 14)) hx hb hts i_TinyForgeModel hown hK hP 0 rfl rfl 25 (by decide) (hts _ mw_20) (fun _ h9 => h9) rfl d_TinyForgeModel_makeGlobal_74 ?_
      refine lv_iload hx hb d_TinyForgeModel_makeGlobal_77 (lv_at hl 0 rfl) ?_
      refine lv_iload_n hx hb d_TinyForgeModel_makeGlobal_79 rfl (lv_at hl 3 rfl) ?_
      obtain ⟨g_10, hF⟩ := gdE hF
      refine va_zast (f := (σ.2.2.1 13)) hx hb hK hP hD hS 14 3 rfl rfl (inE g_10) d_TinyForgeModel_makeGlobal_80 (fun H locs hP hD hS => ?_)
      have hP : va_P (dC, dI) vwCl (mcw ad cA (sA (sA σ 12 (upd (σ.2.2.1 12) x5.toNatClampNeg x1)) 13 (upd (σ.2.2.1 13) x5.toNatClampNeg (vp_nar .boolean x2)))) H := hP
      have hD : va_D A (mcw ad cA (sA (sA σ 12 (upd (σ.2.2.1 12) x5.toNatClampNeg x1)) 13 (upd (σ.2.2.1 13) x5.toNatClampNeg (vp_nar .boolean x2)))) := hD
      refine lv_aload_n hx hb d_TinyForgeModel_makeGlobal_81 rfl (lv_at hl 1 rfl) ?_
      refine va_get (D := (dC, dI)) (ci := 11) (v := .ref (ad 15)) hx hb hts i_TinyForgeModel hown hK hP 0 rfl rfl 26 (by decide) (hts _ mw_21) (fun _ h9 => h9) rfl d_TinyForgeModel_makeGlobal_82 ?_
      refine lv_iload hx hb d_TinyForgeModel_makeGlobal_85 (lv_at hl 0 rfl) ?_
      refine lv_iload_n hx hb d_TinyForgeModel_makeGlobal_87 rfl (lv_at hl 4 rfl) ?_
      obtain ⟨g_11, hF⟩ := gdE hF
      refine va_iast (f := (σ.2.2.1 14)) hx hb hK hP hD hS 15 0 rfl rfl (inE g_11) d_TinyForgeModel_makeGlobal_88 (fun H locs hP hD hS => ?_)
      have hP : va_P (dC, dI) vwCl (mcw ad cA (sA (sA (sA σ 12 (upd (σ.2.2.1 12) x5.toNatClampNeg x1)) 13 (upd (σ.2.2.1 13) x5.toNatClampNeg (vp_nar .boolean x2))) 14 (upd (σ.2.2.1 14) x5.toNatClampNeg x3))) H := hP
      have hD : va_D A (mcw ad cA (sA (sA (sA σ 12 (upd (σ.2.2.1 12) x5.toNatClampNeg x1)) 13 (upd (σ.2.2.1 13) x5.toNatClampNeg (vp_nar .boolean x2))) 14 (upd (σ.2.2.1 14) x5.toNatClampNeg x3))) := hD
      refine lv_aload_n hx hb d_TinyForgeModel_makeGlobal_89 rfl (lv_at hl 1 rfl) ?_
      refine va_get (D := (dC, dI)) (ci := 11) (v := .ref (ad 16)) hx hb hts i_TinyForgeModel hown hK hP 0 rfl rfl 27 (by decide) (hts _ mw_22) (fun _ h9 => h9) rfl d_TinyForgeModel_makeGlobal_90 ?_
      refine lv_iload hx hb d_TinyForgeModel_makeGlobal_93 (lv_at hl 0 rfl) ?_
      refine lv_bipush (v := 16) hx hb d_TinyForgeModel_makeGlobal_95 (by decide) ?_
      refine lv_aload_n hx hb d_TinyForgeModel_makeGlobal_97 rfl (lv_at hl 1 rfl) ?_
      refine va_get (D := (dC, dI)) (ci := 11) (v := .int (σ.1 11)) hx hb hts i_TinyForgeModel hown hK hP 0 rfl rfl 23 (by decide) (hts _ mw_18) (fun _ h9 => h9) rfl d_TinyForgeModel_makeGlobal_98 ?_
      refine lv_imul hx hb d_TinyForgeModel_makeGlobal_101 ?_
      obtain ⟨g_12, hF⟩ := gdE hF
      refine va_iast (f := (σ.2.2.1 15)) hx hb hK hP hD hS 16 0 rfl rfl (inE g_12) d_TinyForgeModel_makeGlobal_102 (fun H locs hP hD hS => ?_)
      have hP : va_P (dC, dI) vwCl (mcw ad cA (sA (sA (sA (sA σ 12 (upd (σ.2.2.1 12) x5.toNatClampNeg x1)) 13 (upd (σ.2.2.1 13) x5.toNatClampNeg (vp_nar .boolean x2))) 14 (upd (σ.2.2.1 14) x5.toNatClampNeg x3)) 15 (upd (σ.2.2.1 15) x5.toNatClampNeg (16 * (σ.1 11))))) H := hP
      have hD : va_D A (mcw ad cA (sA (sA (sA (sA σ 12 (upd (σ.2.2.1 12) x5.toNatClampNeg x1)) 13 (upd (σ.2.2.1 13) x5.toNatClampNeg (vp_nar .boolean x2))) 14 (upd (σ.2.2.1 14) x5.toNatClampNeg x3)) 15 (upd (σ.2.2.1 15) x5.toNatClampNeg (16 * (σ.1 11))))) := hD
      refine lv_aload_n hx hb d_TinyForgeModel_makeGlobal_103 rfl (lv_at hl 1 rfl) ?_
      refine lv_dup hx hb d_TinyForgeModel_makeGlobal_104 rfl ?_
      refine va_get (D := (dC, dI)) (ci := 11) (v := .int (σ.1 9)) hx hb hts i_TinyForgeModel hown hK hP 0 rfl rfl 21 (by decide) (hts _ mw_10) (fun _ h9 => h9) rfl d_TinyForgeModel_makeGlobal_105 ?_
      refine lv_iload hx hb d_TinyForgeModel_makeGlobal_108 (lv_at hl 5 rfl) ?_
      refine lv_if_eq (tgt := 117) hx hb d_TinyForgeModel_makeGlobal_110 (by decide) (fun c_13 => ?_) (fun c_13 => ?_)
      · have hF := ifp hF c_13
        refine lv_iconst (v := 1) hx hb d_TinyForgeModel_makeGlobal_117 (by decide) ?_
        exact ihn.2.2.2.2.2.1 (sA (sA (sA (sA σ 12 (upd (σ.2.2.1 12) x5.toNatClampNeg x1)) 13 (upd (σ.2.2.1 13) x5.toNatClampNeg (vp_nar .boolean x2))) 14 (upd (σ.2.2.1 14) x5.toNatClampNeg x3)) 15 (upd (σ.2.2.1 15) x5.toNatClampNeg (16 * (σ.1 11)))) x2 x4 x5 1 (σ.1 9) H locs ls hF hP hD hS (lv_sub hl [1, 3, 5, 0] rfl)
      · have hF := ifn hF c_13
        refine lv_iconst (v := 0) hx hb d_TinyForgeModel_makeGlobal_113 (by decide) ?_
        refine lv_goto (tgt := 118) hx hb d_TinyForgeModel_makeGlobal_114 (by decide) ?_
        exact ihn.2.2.2.2.2.1 (sA (sA (sA (sA σ 12 (upd (σ.2.2.1 12) x5.toNatClampNeg x1)) 13 (upd (σ.2.2.1 13) x5.toNatClampNeg (vp_nar .boolean x2))) 14 (upd (σ.2.2.1 14) x5.toNatClampNeg x3)) 15 (upd (σ.2.2.1 15) x5.toNatClampNeg (16 * (σ.1 11)))) x2 x4 x5 0 (σ.1 9) H locs ls hF hP hD hS (lv_sub hl [1, 3, 5, 0] rfl)
    · have hF : mTinyForgeModel_makeGlobal_b6 (mTinyForgeModel_makeGlobal_L n) σ x1 x2 x3 x4 x5 = some (r, σ') := hF
      unfold mTinyForgeModel_makeGlobal_b6 at hF
      refine lv_iadd hx hb d_TinyForgeModel_makeGlobal_118 ?_
      refine va_put (D := (dC, dI)) (ci := 11) (v := .int (x5 + x4)) (ty := .int) hx hb hts i_TinyForgeModel t_TinyForgeModel t_TinyForgeModel_ok n_TinyForgeModel hown hK hP hD hS 0 rfl rfl 21 (by decide) (hts _ mw_10) (fun _ h9 => h9) rfl (by decide +kernel) rfl rfl (Nat.le_of_ble_eq_true rfl) d_TinyForgeModel_makeGlobal_119 (fun H locs hP hD hS => ?_)
      have hP : va_P (dC, dI) vwCl (mcw ad cA (sI σ 9 (x5 + x4))) H := hP
      have hD : va_D A (mcw ad cA (sI σ 9 (x5 + x4))) := hD
      refine lv_aload_n hx hb d_TinyForgeModel_makeGlobal_122 rfl (lv_at hl 0 rfl) ?_
      refine lv_dup hx hb d_TinyForgeModel_makeGlobal_123 rfl ?_
      refine va_get (D := (dC, dI)) (ci := 11) (v := .int (σ.1 10)) hx hb hts i_TinyForgeModel hown hK hP 0 rfl rfl 22 (by decide) (hts _ mw_19) (fun _ h9 => h9) rfl d_TinyForgeModel_makeGlobal_124 ?_
      refine lv_iload_n hx hb d_TinyForgeModel_makeGlobal_127 rfl (lv_at hl 1 rfl) ?_
      refine lv_if_eq (tgt := 140) hx hb d_TinyForgeModel_makeGlobal_128 (by decide) (fun c_14 => ?_) (fun c_14 => ?_)
      · have hF := ifp hF c_14
        exact ihn.2.2.2.2.2.2.1 (sI σ 9 (x5 + x4)) x1 x2 x3 (σ.1 10) 0 H locs ls hF hP hD hS (lv_sub hl [0, 1, 2, 3] rfl)
      · have hF := ifn hF c_14
        refine lv_iload hx hb d_TinyForgeModel_makeGlobal_131 (lv_at hl 2 rfl) ?_
        refine lv_if_ne (tgt := 140) hx hb d_TinyForgeModel_makeGlobal_133 (by decide) (fun c_15 => ?_) (fun c_15 => ?_)
        · have hF := ifn hF c_15
          exact ihn.2.2.2.2.2.2.1 (sI σ 9 (x5 + x4)) x1 x2 x3 (σ.1 10) 0 H locs ls hF hP hD hS (lv_sub hl [0, 1, 2, 3] rfl)
        · have hF := ifp hF c_15
          refine lv_iconst (v := 1) hx hb d_TinyForgeModel_makeGlobal_136 (by decide) ?_
          refine lv_goto (tgt := 141) hx hb d_TinyForgeModel_makeGlobal_137 (by decide) ?_
          exact ihn.2.2.2.2.2.2.2 (sI σ 9 (x5 + x4)) x1 x2 x3 1 (σ.1 10) H locs ls hF hP hD hS (lv_sub hl [0, 1, 2, 3] rfl)
    · have hF : mTinyForgeModel_makeGlobal_b7 (mTinyForgeModel_makeGlobal_L n) σ x1 x2 x3 x4 x5 = some (r, σ') := hF
      unfold mTinyForgeModel_makeGlobal_b7 at hF
      refine lv_iconst (v := 0) hx hb d_TinyForgeModel_makeGlobal_140 (by decide) ?_
      exact ihn.2.2.2.2.2.2.2 σ x1 x2 x3 0 x4 H locs ls hF hP hD hS (lv_sub hl [0, 1, 2, 3] rfl)
    · have hF : mTinyForgeModel_makeGlobal_b8 (mTinyForgeModel_makeGlobal_L n) σ x1 x2 x3 x4 x5 = some (r, σ') := hF
      unfold mTinyForgeModel_makeGlobal_b8 at hF
      refine lv_iadd hx hb d_TinyForgeModel_makeGlobal_141 ?_
      refine va_put (D := (dC, dI)) (ci := 11) (v := .int (x5 + x4)) (ty := .int) hx hb hts i_TinyForgeModel t_TinyForgeModel t_TinyForgeModel_ok n_TinyForgeModel hown hK hP hD hS 0 rfl rfl 22 (by decide) (hts _ mw_19) (fun _ h9 => h9) rfl (by decide +kernel) rfl rfl (Nat.le_of_ble_eq_true rfl) d_TinyForgeModel_makeGlobal_142 (fun H locs hP hD hS => ?_)
      have hP : va_P (dC, dI) vwCl (mcw ad cA (sI σ 10 (x5 + x4))) H := hP
      have hD : va_D A (mcw ad cA (sI σ 10 (x5 + x4))) := hD
      refine lv_aload_n hx hb d_TinyForgeModel_makeGlobal_145 rfl (lv_at hl 0 rfl) ?_
      refine lv_dup hx hb d_TinyForgeModel_makeGlobal_146 rfl ?_
      refine va_get (D := (dC, dI)) (ci := 11) (v := .int (σ.1 11)) hx hb hts i_TinyForgeModel hown hK hP 0 rfl rfl 23 (by decide) (hts _ mw_18) (fun _ h9 => h9) rfl d_TinyForgeModel_makeGlobal_147 ?_
      refine lv_iload_n hx hb d_TinyForgeModel_makeGlobal_150 rfl (lv_at hl 1 rfl) ?_
      refine lv_if_ne (tgt := 159) hx hb d_TinyForgeModel_makeGlobal_151 (by decide) (fun c_16 => ?_) (fun c_16 => ?_)
      · have hF := ifn hF c_16
        refine lv_iconst (v := 0) hx hb d_TinyForgeModel_makeGlobal_159 (by decide) ?_
        refine lv_goto (tgt := 164) hx hb d_TinyForgeModel_makeGlobal_160 (by decide) ?_
        refine lv_iadd hx hb d_TinyForgeModel_makeGlobal_164 ?_
        refine va_put (D := (dC, dI)) (ci := 11) (v := .int ((σ.1 11) + 0)) (ty := .int) hx hb hts i_TinyForgeModel t_TinyForgeModel t_TinyForgeModel_ok n_TinyForgeModel hown hK hP hD hS 0 rfl rfl 23 (by decide) (hts _ mw_18) (fun _ h9 => h9) rfl (by decide +kernel) rfl rfl (Nat.le_of_ble_eq_true rfl) d_TinyForgeModel_makeGlobal_165 (fun H locs hP hD hS => ?_)
        have hP : va_P (dC, dI) vwCl (mcw ad cA (sI (sI σ 10 (x5 + x4)) 11 ((σ.1 11) + 0))) H := hP
        have hD : va_D A (mcw ad cA (sI (sI σ 10 (x5 + x4)) 11 ((σ.1 11) + 0))) := hD
        refine lv_iload hx hb d_TinyForgeModel_makeGlobal_168 (lv_at hl 3 rfl) ?_
        cases hF
        exact leafI X hP hD hS d_TinyForgeModel_makeGlobal_170
      · have hF := ifp hF c_16
        refine lv_iload hx hb d_TinyForgeModel_makeGlobal_154 (lv_at hl 2 rfl) ?_
        refine lv_if_eq (tgt := 163) hx hb d_TinyForgeModel_makeGlobal_156 (by decide) (fun c_17 => ?_) (fun c_17 => ?_)
        · have hF := ifp hF c_17
          refine lv_iconst (v := 1) hx hb d_TinyForgeModel_makeGlobal_163 (by decide) ?_
          refine lv_iadd hx hb d_TinyForgeModel_makeGlobal_164 ?_
          refine va_put (D := (dC, dI)) (ci := 11) (v := .int ((σ.1 11) + 1)) (ty := .int) hx hb hts i_TinyForgeModel t_TinyForgeModel t_TinyForgeModel_ok n_TinyForgeModel hown hK hP hD hS 0 rfl rfl 23 (by decide) (hts _ mw_18) (fun _ h9 => h9) rfl (by decide +kernel) rfl rfl (Nat.le_of_ble_eq_true rfl) d_TinyForgeModel_makeGlobal_165 (fun H locs hP hD hS => ?_)
          have hP : va_P (dC, dI) vwCl (mcw ad cA (sI (sI σ 10 (x5 + x4)) 11 ((σ.1 11) + 1))) H := hP
          have hD : va_D A (mcw ad cA (sI (sI σ 10 (x5 + x4)) 11 ((σ.1 11) + 1))) := hD
          refine lv_iload hx hb d_TinyForgeModel_makeGlobal_168 (lv_at hl 3 rfl) ?_
          cases hF
          exact leafI X hP hD hS d_TinyForgeModel_makeGlobal_170
        · have hF := ifn hF c_17
          refine lv_iconst (v := 0) hx hb d_TinyForgeModel_makeGlobal_159 (by decide) ?_
          refine lv_goto (tgt := 164) hx hb d_TinyForgeModel_makeGlobal_160 (by decide) ?_
          refine lv_iadd hx hb d_TinyForgeModel_makeGlobal_164 ?_
          refine va_put (D := (dC, dI)) (ci := 11) (v := .int ((σ.1 11) + 0)) (ty := .int) hx hb hts i_TinyForgeModel t_TinyForgeModel t_TinyForgeModel_ok n_TinyForgeModel hown hK hP hD hS 0 rfl rfl 23 (by decide) (hts _ mw_18) (fun _ h9 => h9) rfl (by decide +kernel) rfl rfl (Nat.le_of_ble_eq_true rfl) d_TinyForgeModel_makeGlobal_165 (fun H locs hP hD hS => ?_)
          have hP : va_P (dC, dI) vwCl (mcw ad cA (sI (sI σ 10 (x5 + x4)) 11 ((σ.1 11) + 0))) H := hP
          have hD : va_D A (mcw ad cA (sI (sI σ 10 (x5 + x4)) 11 ((σ.1 11) + 0))) := hD
          refine lv_iload hx hb d_TinyForgeModel_makeGlobal_168 (lv_at hl 3 rfl) ?_
          cases hF
          exact leafI X hP hD hS d_TinyForgeModel_makeGlobal_170
set_option maxHeartbeats 4000000 in
set_option maxRecDepth 100000 in
theorem ct_TinyForgeModel_makeGlobal (l : Launch) (dC : Nat → ClassId) (dI : Nat → Nat → Nat) (ad : Nat → Nat) (cA : Nat → ClassId) (sz : Nat) {σ : St} {a1 : Int32} {a2 : Int32} {a3 : Int32} {r : Int32} {σ' : St} (hF : mTinyForgeModel_makeGlobal σ a1 a2 a3 = some (r, σ')) : MI l y_TinyForgeModel_makeGlobal b_TinyForgeModel_makeGlobal 6 (some .int) { frames := 2, cells := 0, slots := 0, locals := 47 } (dC, dI) (mtys cA) ad (mcw ad cA) [.ref (ad 0), .int a1, .int a2, .int a3] σ sz r σ' := by
  refine startM (own := "TinyForgeModel") (Qc := fun A => QI (dC, dI) (mtys cA) (mcw ad cA) A r σ') rfl rfl (Nat.le_of_ble_eq_true rfl) ?_
  intro p e s m below meth c A H locs ls X hP hD hS hl
  have hl : lv_has ls 6 [(0, .ref (ad 0)), (1, .int a1), (2, .int a2), (3, .int a3)] := hl
  obtain ⟨hx, hb, hr, hml, hown, hlocks, hts, hA, hK, hZ⟩ := id X
  unfold mTinyForgeModel_makeGlobal at hF
  refine lv_aload_n hx hb d_TinyForgeModel_makeGlobal_0 rfl (lv_at hl 0 rfl) ?_
  refine lv_iload_n hx hb d_TinyForgeModel_makeGlobal_1 rfl (lv_at hl 1 rfl) ?_
  obtain ⟨r1, h1, hF⟩ := b1E hF
  refine callVI (As := [.int a1]) X (ct_TinyForgeModel_global l dC dI ad cA H.size h1) lk_TinyForgeModel_340 ⟨rfl, rfl, by decide, by decide⟩ 0 rfl rfl hP hD hS hl.1 rfl rfl (Nat.le_of_ble_eq_true rfl) d_TinyForgeModel_makeGlobal_2 (fun H locs hP hD hS => ?_)
  refine lv_if_ge (tgt := 32) hx hb d_TinyForgeModel_makeGlobal_5 (by decide) (fun c_2 => ?_) (fun c_2 => ?_)
  · have hF := ifp hF c_2
    exact (mTinyForgeModel_makeGlobal_blk l dC dI ad cA X 2000).1 σ a1 a2 a3 0 0 H locs ls hF hP hD hS (lv_sub hl [0, 1, 2, 3] rfl)
  · have hF := ifn hF c_2
    refine lv_iload_n hx hb d_TinyForgeModel_makeGlobal_8 rfl (lv_at hl 2 rfl) ?_
    refine lv_if_eq (tgt := 24) hx hb d_TinyForgeModel_makeGlobal_9 (by decide) (fun c_3 => ?_) (fun c_3 => ?_)
    · have hF := ifp hF c_3
      refine lv_aload_n hx hb d_TinyForgeModel_makeGlobal_24 rfl (lv_at hl 0 rfl) ?_
      refine va_get (D := (dC, dI)) (ci := 11) (v := .int (σ.1 11)) hx hb hts i_TinyForgeModel hown hK hP 0 rfl rfl 23 (by decide) (hts _ mw_18) (fun _ h9 => h9) rfl d_TinyForgeModel_makeGlobal_25 ?_
      refine lv_iconst (v := 4) hx hb d_TinyForgeModel_makeGlobal_28 (by decide) ?_
      refine lv_icmp_ne (tgt := 36) hx hb d_TinyForgeModel_makeGlobal_29 (by decide) (fun c_4 => ?_) (fun c_4 => ?_)
      · have hF := ifn hF c_4
        exact (mTinyForgeModel_makeGlobal_blk l dC dI ad cA X 2000).2.1 σ a1 a2 a3 0 0 H locs ls hF hP hD hS (lv_sub hl [0, 1, 2, 3] rfl)
      · have hF := ifp hF c_4
        exact (mTinyForgeModel_makeGlobal_blk l dC dI ad cA X 2000).1 σ a1 a2 a3 0 0 H locs ls hF hP hD hS (lv_sub hl [0, 1, 2, 3] rfl)
    · have hF := ifn hF c_3
      refine lv_aload_n hx hb d_TinyForgeModel_makeGlobal_12 rfl (lv_at hl 0 rfl) ?_
      refine va_get (D := (dC, dI)) (ci := 11) (v := .int (σ.1 10)) hx hb hts i_TinyForgeModel hown hK hP 0 rfl rfl 22 (by decide) (hts _ mw_19) (fun _ h9 => h9) rfl d_TinyForgeModel_makeGlobal_13 ?_
      refine lv_bipush (v := 8) hx hb d_TinyForgeModel_makeGlobal_16 (by decide) ?_
      refine lv_icmp_ne (tgt := 36) hx hb d_TinyForgeModel_makeGlobal_18 (by decide) (fun c_5 => ?_) (fun c_5 => ?_)
      · have hF := ifn hF c_5
        exact (mTinyForgeModel_makeGlobal_blk l dC dI ad cA X 2000).2.1 σ a1 a2 a3 0 0 H locs ls hF hP hD hS (lv_sub hl [0, 1, 2, 3] rfl)
      · have hF := ifp hF c_5
        refine lv_goto (tgt := 32) hx hb d_TinyForgeModel_makeGlobal_21 (by decide) ?_
        exact (mTinyForgeModel_makeGlobal_blk l dC dI ad cA X 2000).1 σ a1 a2 a3 0 0 H locs ls hF hP hD hS (lv_sub hl [0, 1, 2, 3] rfl)
theorem d_TinyForgeModel_is_0 : decode b_TinyForgeModel_is 0 = .ok (.iconst 1, 1) := by decide +kernel
theorem d_TinyForgeModel_is_1 : decode b_TinyForgeModel_is 1 = .ok (.istore 4, 2) := by decide +kernel
theorem d_TinyForgeModel_is_3 : decode b_TinyForgeModel_is 3 = .ok (.iconst 0, 1) := by decide +kernel
theorem d_TinyForgeModel_is_4 : decode b_TinyForgeModel_is 4 = .ok (.istore 5, 2) := by decide +kernel
theorem d_TinyForgeModel_is_6 : decode b_TinyForgeModel_is 6 = .ok (.iload 5, 2) := by decide +kernel
theorem d_TinyForgeModel_is_8 : decode b_TinyForgeModel_is 8 = .ok (.bipush 8, 2) := by decide +kernel
theorem d_TinyForgeModel_is_10 : decode b_TinyForgeModel_is 10 = .ok (.if_icmp .ge 73, 3) := by decide +kernel
theorem d_TinyForgeModel_is_13 : decode b_TinyForgeModel_is 13 = .ok (.lload_n 2, 1) := by decide +kernel
theorem d_TinyForgeModel_is_14 : decode b_TinyForgeModel_is 14 = .ok (.bipush 8, 2) := by decide +kernel
theorem d_TinyForgeModel_is_16 : decode b_TinyForgeModel_is 16 = .ok (.iload 5, 2) := by decide +kernel
theorem d_TinyForgeModel_is_18 : decode b_TinyForgeModel_is 18 = .ok (.imul, 1) := by decide +kernel
theorem d_TinyForgeModel_is_19 : decode b_TinyForgeModel_is 19 = .ok (.lshr, 1) := by decide +kernel
theorem d_TinyForgeModel_is_20 : decode b_TinyForgeModel_is 20 = .ok (.ldc2_w 110, 3) := by decide +kernel
theorem d_TinyForgeModel_is_23 : decode b_TinyForgeModel_is 23 = .ok (.land, 1) := by decide +kernel
theorem d_TinyForgeModel_is_24 : decode b_TinyForgeModel_is 24 = .ok (.l2i, 1) := by decide +kernel
theorem d_TinyForgeModel_is_25 : decode b_TinyForgeModel_is 25 = .ok (.istore 6, 2) := by decide +kernel
theorem d_TinyForgeModel_is_27 : decode b_TinyForgeModel_is 27 = .ok (.iload 4, 2) := by decide +kernel
theorem d_TinyForgeModel_is_29 : decode b_TinyForgeModel_is 29 = .ok (.ifCond .eq 45, 3) := by decide +kernel
theorem d_TinyForgeModel_is_32 : decode b_TinyForgeModel_is 32 = .ok (.iload 5, 2) := by decide +kernel
theorem d_TinyForgeModel_is_34 : decode b_TinyForgeModel_is 34 = .ok (.aload_n 0, 1) := by decide +kernel
theorem d_TinyForgeModel_is_35 : decode b_TinyForgeModel_is 35 = .ok (.getfield 24, 3) := by decide +kernel
theorem d_TinyForgeModel_is_38 : decode b_TinyForgeModel_is 38 = .ok (.iload_n 1, 1) := by decide +kernel
theorem d_TinyForgeModel_is_39 : decode b_TinyForgeModel_is 39 = .ok (.iaload, 1) := by decide +kernel
theorem d_TinyForgeModel_is_40 : decode b_TinyForgeModel_is 40 = .ok (.if_icmp .ge 25, 3) := by decide +kernel
theorem d_TinyForgeModel_is_43 : decode b_TinyForgeModel_is 43 = .ok (.aload_n 0, 1) := by decide +kernel
theorem d_TinyForgeModel_is_44 : decode b_TinyForgeModel_is 44 = .ok (.getfield 7, 3) := by decide +kernel
theorem d_TinyForgeModel_is_47 : decode b_TinyForgeModel_is 47 = .ok (.aload_n 0, 1) := by decide +kernel
theorem d_TinyForgeModel_is_48 : decode b_TinyForgeModel_is 48 = .ok (.getfield 21, 3) := by decide +kernel
theorem d_TinyForgeModel_is_51 : decode b_TinyForgeModel_is 51 = .ok (.iload_n 1, 1) := by decide +kernel
theorem d_TinyForgeModel_is_52 : decode b_TinyForgeModel_is 52 = .ok (.iaload, 1) := by decide +kernel
theorem d_TinyForgeModel_is_53 : decode b_TinyForgeModel_is 53 = .ok (.iload 5, 2) := by decide +kernel
theorem d_TinyForgeModel_is_55 : decode b_TinyForgeModel_is 55 = .ok (.iadd, 1) := by decide +kernel
theorem d_TinyForgeModel_is_56 : decode b_TinyForgeModel_is 56 = .ok (.caload, 1) := by decide +kernel
theorem d_TinyForgeModel_is_57 : decode b_TinyForgeModel_is 57 = .ok (.iload 6, 2) := by decide +kernel
theorem d_TinyForgeModel_is_59 : decode b_TinyForgeModel_is 59 = .ok (.if_icmp .ne 15, 3) := by decide +kernel
theorem d_TinyForgeModel_is_62 : decode b_TinyForgeModel_is 62 = .ok (.goto 8, 3) := by decide +kernel
theorem d_TinyForgeModel_is_65 : decode b_TinyForgeModel_is 65 = .ok (.iload 6, 2) := by decide +kernel
theorem d_TinyForgeModel_is_67 : decode b_TinyForgeModel_is 67 = .ok (.ifCond .ne 7, 3) := by decide +kernel
theorem d_TinyForgeModel_is_70 : decode b_TinyForgeModel_is 70 = .ok (.iconst 1, 1) := by decide +kernel
theorem d_TinyForgeModel_is_71 : decode b_TinyForgeModel_is 71 = .ok (.goto 4, 3) := by decide +kernel
theorem d_TinyForgeModel_is_74 : decode b_TinyForgeModel_is 74 = .ok (.iconst 0, 1) := by decide +kernel
theorem d_TinyForgeModel_is_75 : decode b_TinyForgeModel_is 75 = .ok (.istore 4, 2) := by decide +kernel
theorem d_TinyForgeModel_is_77 : decode b_TinyForgeModel_is 77 = .ok (.iinc 5 1, 3) := by decide +kernel
theorem d_TinyForgeModel_is_80 : decode b_TinyForgeModel_is 80 = .ok (.goto (-74), 3) := by decide +kernel
theorem d_TinyForgeModel_is_83 : decode b_TinyForgeModel_is 83 = .ok (.iload 4, 2) := by decide +kernel
theorem d_TinyForgeModel_is_85 : decode b_TinyForgeModel_is 85 = .ok (.ifCond .eq 18, 3) := by decide +kernel
theorem d_TinyForgeModel_is_88 : decode b_TinyForgeModel_is 88 = .ok (.aload_n 0, 1) := by decide +kernel
theorem d_TinyForgeModel_is_89 : decode b_TinyForgeModel_is 89 = .ok (.getfield 24, 3) := by decide +kernel
theorem d_TinyForgeModel_is_92 : decode b_TinyForgeModel_is 92 = .ok (.iload_n 1, 1) := by decide +kernel
theorem d_TinyForgeModel_is_93 : decode b_TinyForgeModel_is 93 = .ok (.iaload, 1) := by decide +kernel
theorem d_TinyForgeModel_is_94 : decode b_TinyForgeModel_is 94 = .ok (.bipush 8, 2) := by decide +kernel
theorem d_TinyForgeModel_is_96 : decode b_TinyForgeModel_is 96 = .ok (.if_icmp .gt 7, 3) := by decide +kernel
theorem d_TinyForgeModel_is_99 : decode b_TinyForgeModel_is 99 = .ok (.iconst 1, 1) := by decide +kernel
theorem d_TinyForgeModel_is_100 : decode b_TinyForgeModel_is 100 = .ok (.goto 4, 3) := by decide +kernel
theorem d_TinyForgeModel_is_103 : decode b_TinyForgeModel_is 103 = .ok (.iconst 0, 1) := by decide +kernel
theorem d_TinyForgeModel_is_104 : decode b_TinyForgeModel_is 104 = .ok (.ireturn, 1) := by decide +kernel
theorem mw_31 : Cond.constantLong "TinyForgeModel" 110 255 ∈ BIG := List.mem_filter.mpr ⟨List.mem_of_getElem? (i := 1329) (by decide +kernel), by decide +kernel⟩
def mTinyForgeModel_is_b1 (k : Nat → St → Int32 → Int32 → Int32 → Int64 → Option (Int32)) (σ : St) (x1 : Int32) (x2 : Int32) (x3 : Int32) (y1 : Int64) : Option (Int32) := if (8 : Int32) ≤ x3 then if x2 = 0 then some 0 else gd (inB x1 500) (if (8 : Int32) < ((σ.2.2.1 3) x1.toNatClampNeg) then some 0 else some 1) else if x2 = 0 then k 3 σ x1 x3 0 y1 else gd (inB x1 500) (if ((σ.2.2.1 3) x1.toNatClampNeg) ≤ x3 then if ((((y1 >>> (((8 * x3) : Int32).toInt64 &&& 63)) &&& 255) : Int64).toInt32) = 0 then k 2 σ x1 x3 0 y1 else k 3 σ x1 x3 0 y1 else gd (inB x1 500) (gd (inB (((σ.2.2.1 2) x1.toNatClampNeg) + x3) 480) (if ((σ.2.2.1 0) (((σ.2.2.1 2) x1.toNatClampNeg) + x3).toNatClampNeg) = ((((y1 >>> (((8 * x3) : Int32).toInt64 &&& 63)) &&& 255) : Int64).toInt32) then k 2 σ x1 x3 0 y1 else k 3 σ x1 x3 0 y1)))
def mTinyForgeModel_is_b2 (k : Nat → St → Int32 → Int32 → Int32 → Int64 → Option (Int32)) (σ : St) (x1 : Int32) (x2 : Int32) (x3 : Int32) (y1 : Int64) : Option (Int32) := k 4 σ x1 x2 1 y1
def mTinyForgeModel_is_b3 (k : Nat → St → Int32 → Int32 → Int32 → Int64 → Option (Int32)) (σ : St) (x1 : Int32) (x2 : Int32) (x3 : Int32) (y1 : Int64) : Option (Int32) := k 4 σ x1 x2 0 y1
def mTinyForgeModel_is_b4 (k : Nat → St → Int32 → Int32 → Int32 → Int64 → Option (Int32)) (σ : St) (x1 : Int32) (x2 : Int32) (x3 : Int32) (y1 : Int64) : Option (Int32) := k 1 σ x1 x3 (x2 + 1) y1
def mTinyForgeModel_is_L : Nat → Nat → St → Int32 → Int32 → Int32 → Int64 → Option (Int32)
  | 0, _, _, _, _, _, _ => none
  | n + 1, lab, σ, x1, x2, x3, y1 => match lab with
    | 1 => mTinyForgeModel_is_b1 (mTinyForgeModel_is_L n) σ x1 x2 x3 y1
    | 2 => mTinyForgeModel_is_b2 (mTinyForgeModel_is_L n) σ x1 x2 x3 y1
    | 3 => mTinyForgeModel_is_b3 (mTinyForgeModel_is_L n) σ x1 x2 x3 y1
    | 4 => mTinyForgeModel_is_b4 (mTinyForgeModel_is_L n) σ x1 x2 x3 y1
    | _ => none
def mTinyForgeModel_is (σ : St) (a1 : Int32) (a2 : Int64) : Option (Int32) := mTinyForgeModel_is_L 2000 1 σ a1 1 0 a2
set_option maxHeartbeats 4000000 in
set_option maxRecDepth 100000 in
theorem mTinyForgeModel_is_blk {p : Program} {e : Env} {s : State} {m : MethodId} {args : Array Value} {below : List Frame} {meth : Method} {c : Code} {A : Nat → Prop} (l : Launch) (dC : Nat → ClassId) (dI : Nat → Nat → Nat) (ad : Nat → Nat) (cA : Nat → ClassId) {r : Int32} (X : Cx p s m args meth c b_TinyForgeModel_is 7 (some .boolean) "TinyForgeModel" (dC, dI) (mtys cA) ad A) : ∀ n : Nat, (∀ (σ : St) (x1 : Int32) (x2 : Int32) (x3 : Int32) (y1 : Int64) (H : Heap) (locs : List Loc) (ls : Array Slot), mTinyForgeModel_is_L n 1 σ x1 x2 x3 y1 = some r → va_P (dC, dI) vwCl (mcw ad cA σ) H → va_D A (mcw ad cA σ) → va_S A s.heap H locs → lv_has ls 7 [(0, .ref (ad 0)), (1, .int x1), (2, .long y1), (4, .int x2), (5, .int x3)] → W p l e { frames := 0, cells := 0, slots := 0, locals := 0 } s m args below meth c H locs 0 0 (MQ below (QI (dC, dI) (mtys cA) (mcw ad cA) A r σ) args s 0 0 A) (F0 m 6 ls [])) ∧ (∀ (σ : St) (x1 : Int32) (x2 : Int32) (x3 : Int32) (y1 : Int64) (H : Heap) (locs : List Loc) (ls : Array Slot), mTinyForgeModel_is_L n 2 σ x1 x2 x3 y1 = some r → va_P (dC, dI) vwCl (mcw ad cA σ) H → va_D A (mcw ad cA σ) → va_S A s.heap H locs → lv_has ls 7 [(0, .ref (ad 0)), (1, .int x1), (2, .long y1), (5, .int x2)] → W p l e { frames := 0, cells := 0, slots := 0, locals := 0 } s m args below meth c H locs 0 0 (MQ below (QI (dC, dI) (mtys cA) (mcw ad cA) A r σ) args s 0 0 A) (F0 m 70 ls [])) ∧ (∀ (σ : St) (x1 : Int32) (x2 : Int32) (x3 : Int32) (y1 : Int64) (H : Heap) (locs : List Loc) (ls : Array Slot), mTinyForgeModel_is_L n 3 σ x1 x2 x3 y1 = some r → va_P (dC, dI) vwCl (mcw ad cA σ) H → va_D A (mcw ad cA σ) → va_S A s.heap H locs → lv_has ls 7 [(0, .ref (ad 0)), (1, .int x1), (2, .long y1), (5, .int x2)] → W p l e { frames := 0, cells := 0, slots := 0, locals := 0 } s m args below meth c H locs 0 0 (MQ below (QI (dC, dI) (mtys cA) (mcw ad cA) A r σ) args s 0 0 A) (F0 m 74 ls [])) ∧ (∀ (σ : St) (x1 : Int32) (x2 : Int32) (x3 : Int32) (y1 : Int64) (H : Heap) (locs : List Loc) (ls : Array Slot), mTinyForgeModel_is_L n 4 σ x1 x2 x3 y1 = some r → va_P (dC, dI) vwCl (mcw ad cA σ) H → va_D A (mcw ad cA σ) → va_S A s.heap H locs → lv_has ls 7 [(0, .ref (ad 0)), (1, .int x1), (2, .long y1), (5, .int x2)] → W p l e { frames := 0, cells := 0, slots := 0, locals := 0 } s m args below meth c H locs 0 0 (MQ below (QI (dC, dI) (mtys cA) (mcw ad cA) A r σ) args s 0 0 A) (F0 m 75 ls [.int x3])) := by
  obtain ⟨hx, hb, hr, hml, hown, hlocks, hts, hA, hK, hZ⟩ := id X
  intro n
  induction n with
  | zero => exact ⟨(fun σ x1 x2 x3 y1 H locs ls hF => by cases hF), (fun σ x1 x2 x3 y1 H locs ls hF => by cases hF), (fun σ x1 x2 x3 y1 H locs ls hF => by cases hF), (fun σ x1 x2 x3 y1 H locs ls hF => by cases hF)⟩
  | succ n ihn =>
    refine ⟨fun σ x1 x2 x3 y1 H locs ls hF hP hD hS hl => ?_, fun σ x1 x2 x3 y1 H locs ls hF hP hD hS hl => ?_, fun σ x1 x2 x3 y1 H locs ls hF hP hD hS hl => ?_, fun σ x1 x2 x3 y1 H locs ls hF hP hD hS hl => ?_⟩
    · have hF : mTinyForgeModel_is_b1 (mTinyForgeModel_is_L n) σ x1 x2 x3 y1 = some r := hF
      unfold mTinyForgeModel_is_b1 at hF
      refine lv_iload hx hb d_TinyForgeModel_is_6 (lv_at hl 4 rfl) ?_
      refine lv_bipush (v := 8) hx hb d_TinyForgeModel_is_8 (by decide) ?_
      refine lv_icmp_ge (tgt := 83) hx hb d_TinyForgeModel_is_10 (by decide) (fun c_1 => ?_) (fun c_1 => ?_)
      · have hF := ifp hF c_1
        refine lv_iload hx hb d_TinyForgeModel_is_83 (lv_at hl 3 rfl) ?_
        refine lv_if_eq (tgt := 103) hx hb d_TinyForgeModel_is_85 (by decide) (fun c_2 => ?_) (fun c_2 => ?_)
        · have hF := ifp hF c_2
          refine lv_iconst (v := 0) hx hb d_TinyForgeModel_is_103 (by decide) ?_
          cases hF
          exact leafZ X hP hD hS (by decide) d_TinyForgeModel_is_104
        · have hF := ifn hF c_2
          refine lv_aload_n hx hb d_TinyForgeModel_is_88 rfl (lv_at hl 0 rfl) ?_
          refine va_get (D := (dC, dI)) (ci := 11) (v := .ref (ad 4)) hx hb hts i_TinyForgeModel hown hK hP 0 rfl rfl 11 (by decide) (hts _ mw_7) (fun _ h9 => h9) rfl d_TinyForgeModel_is_89 ?_
          refine lv_iload_n hx hb d_TinyForgeModel_is_92 rfl (lv_at hl 1 rfl) ?_
          obtain ⟨g_3, hF⟩ := gdE hF
          refine va_iald (f := (σ.2.2.1 3)) hx hb hK hP 4 0 rfl rfl (inE g_3) d_TinyForgeModel_is_93 ?_
          refine lv_bipush (v := 8) hx hb d_TinyForgeModel_is_94 (by decide) ?_
          refine lv_icmp_gt (tgt := 103) hx hb d_TinyForgeModel_is_96 (by decide) (fun c_4 => ?_) (fun c_4 => ?_)
          · have hF := ifp hF c_4
            refine lv_iconst (v := 0) hx hb d_TinyForgeModel_is_103 (by decide) ?_
            cases hF
            exact leafZ X hP hD hS (by decide) d_TinyForgeModel_is_104
          · have hF := ifn hF c_4
            refine lv_iconst (v := 1) hx hb d_TinyForgeModel_is_99 (by decide) ?_
            refine lv_goto (tgt := 104) hx hb d_TinyForgeModel_is_100 (by decide) ?_
            cases hF
            exact leafZ X hP hD hS (by decide) d_TinyForgeModel_is_104
      · have hF := ifn hF c_1
        refine lv_lload_n hx hb d_TinyForgeModel_is_13 rfl (lv_at hl 2 rfl) ?_
        refine lv_bipush (v := 8) hx hb d_TinyForgeModel_is_14 (by decide) ?_
        refine lv_iload hx hb d_TinyForgeModel_is_16 (lv_at hl 4 rfl) ?_
        refine lv_imul hx hb d_TinyForgeModel_is_18 ?_
        refine lv_lshr (v := (y1 >>> (((8 * x3) : Int32).toInt64 &&& 63))) hx hb d_TinyForgeModel_is_19 rfl ?_
        refine lv_ldc2 (v := 255) hx hb hown (hts _ mw_31) d_TinyForgeModel_is_20 ?_
        refine lv_land hx hb d_TinyForgeModel_is_23 ?_
        refine lv_l2i (v := (((y1 >>> (((8 * x3) : Int32).toInt64 &&& 63)) &&& 255) : Int64).toInt32) hx hb d_TinyForgeModel_is_24 rfl ?_
        refine lv_istore (lv' := [(6, .int ((((y1 >>> (((8 * x3) : Int32).toInt64 &&& 63)) &&& 255) : Int64).toInt32)), (0, .ref (ad 0)), (1, .int x1), (2, .long y1), (4, .int x2), (5, .int x3)]) hx hb d_TinyForgeModel_is_25 hl (by decide) rfl (fun ls hl => ?_)
        refine lv_iload hx hb d_TinyForgeModel_is_27 (lv_at hl 4 rfl) ?_
        refine lv_if_eq (tgt := 74) hx hb d_TinyForgeModel_is_29 (by decide) (fun c_5 => ?_) (fun c_5 => ?_)
        · have hF := ifp hF c_5
          exact ihn.2.2.1 σ x1 x3 0 y1 H locs ls hF hP hD hS (lv_sub hl [1, 2, 3, 5] rfl)
        · have hF := ifn hF c_5
          refine lv_iload hx hb d_TinyForgeModel_is_32 (lv_at hl 5 rfl) ?_
          refine lv_aload_n hx hb d_TinyForgeModel_is_34 rfl (lv_at hl 1 rfl) ?_
          refine va_get (D := (dC, dI)) (ci := 11) (v := .ref (ad 4)) hx hb hts i_TinyForgeModel hown hK hP 0 rfl rfl 11 (by decide) (hts _ mw_7) (fun _ h9 => h9) rfl d_TinyForgeModel_is_35 ?_
          refine lv_iload_n hx hb d_TinyForgeModel_is_38 rfl (lv_at hl 2 rfl) ?_
          obtain ⟨g_6, hF⟩ := gdE hF
          refine va_iald (f := (σ.2.2.1 3)) hx hb hK hP 4 0 rfl rfl (inE g_6) d_TinyForgeModel_is_39 ?_
          refine lv_icmp_ge (tgt := 65) hx hb d_TinyForgeModel_is_40 (by decide) (fun c_7 => ?_) (fun c_7 => ?_)
          · have hF := ifp hF c_7
            refine lv_iload hx hb d_TinyForgeModel_is_65 (lv_at hl 0 rfl) ?_
            refine lv_if_ne (tgt := 74) hx hb d_TinyForgeModel_is_67 (by decide) (fun c_8 => ?_) (fun c_8 => ?_)
            · have hF := ifn hF c_8
              exact ihn.2.2.1 σ x1 x3 0 y1 H locs ls hF hP hD hS (lv_sub hl [1, 2, 3, 5] rfl)
            · have hF := ifp hF c_8
              exact ihn.2.1 σ x1 x3 0 y1 H locs ls hF hP hD hS (lv_sub hl [1, 2, 3, 5] rfl)
          · have hF := ifn hF c_7
            refine lv_aload_n hx hb d_TinyForgeModel_is_43 rfl (lv_at hl 1 rfl) ?_
            refine va_get (D := (dC, dI)) (ci := 11) (v := .ref (ad 1)) hx hb hts i_TinyForgeModel hown hK hP 0 rfl rfl 1 (by decide) (hts _ mw_9) (fun _ h9 => h9) rfl d_TinyForgeModel_is_44 ?_
            refine lv_aload_n hx hb d_TinyForgeModel_is_47 rfl (lv_at hl 1 rfl) ?_
            refine va_get (D := (dC, dI)) (ci := 11) (v := .ref (ad 3)) hx hb hts i_TinyForgeModel hown hK hP 0 rfl rfl 10 (by decide) (hts _ mw_6) (fun _ h9 => h9) rfl d_TinyForgeModel_is_48 ?_
            refine lv_iload_n hx hb d_TinyForgeModel_is_51 rfl (lv_at hl 2 rfl) ?_
            obtain ⟨g_9, hF⟩ := gdE hF
            refine va_iald (f := (σ.2.2.1 2)) hx hb hK hP 3 0 rfl rfl (inE g_9) d_TinyForgeModel_is_52 ?_
            refine lv_iload hx hb d_TinyForgeModel_is_53 (lv_at hl 5 rfl) ?_
            refine lv_iadd hx hb d_TinyForgeModel_is_55 ?_
            obtain ⟨g_10, hF⟩ := gdE hF
            refine va_cald (f := (σ.2.2.1 0)) hx hb hK hP 1 2 rfl rfl (inE g_10) d_TinyForgeModel_is_56 ?_
            refine lv_iload hx hb d_TinyForgeModel_is_57 (lv_at hl 0 rfl) ?_
            refine lv_icmp_ne (tgt := 74) hx hb d_TinyForgeModel_is_59 (by decide) (fun c_11 => ?_) (fun c_11 => ?_)
            · have hF := ifn hF c_11
              exact ihn.2.2.1 σ x1 x3 0 y1 H locs ls hF hP hD hS (lv_sub hl [1, 2, 3, 5] rfl)
            · have hF := ifp hF c_11
              refine lv_goto (tgt := 70) hx hb d_TinyForgeModel_is_62 (by decide) ?_
              exact ihn.2.1 σ x1 x3 0 y1 H locs ls hF hP hD hS (lv_sub hl [1, 2, 3, 5] rfl)
    · have hF : mTinyForgeModel_is_b2 (mTinyForgeModel_is_L n) σ x1 x2 x3 y1 = some r := hF
      unfold mTinyForgeModel_is_b2 at hF
      refine lv_iconst (v := 1) hx hb d_TinyForgeModel_is_70 (by decide) ?_
      refine lv_goto (tgt := 75) hx hb d_TinyForgeModel_is_71 (by decide) ?_
      exact ihn.2.2.2 σ x1 x2 1 y1 H locs ls hF hP hD hS (lv_sub hl [0, 1, 2, 3] rfl)
    · have hF : mTinyForgeModel_is_b3 (mTinyForgeModel_is_L n) σ x1 x2 x3 y1 = some r := hF
      unfold mTinyForgeModel_is_b3 at hF
      refine lv_iconst (v := 0) hx hb d_TinyForgeModel_is_74 (by decide) ?_
      exact ihn.2.2.2 σ x1 x2 0 y1 H locs ls hF hP hD hS (lv_sub hl [0, 1, 2, 3] rfl)
    · have hF : mTinyForgeModel_is_b4 (mTinyForgeModel_is_L n) σ x1 x2 x3 y1 = some r := hF
      unfold mTinyForgeModel_is_b4 at hF
      refine lv_istore (lv' := [(4, .int x3), (0, .ref (ad 0)), (1, .int x1), (2, .long y1), (5, .int x2)]) hx hb d_TinyForgeModel_is_75 hl (by decide) rfl (fun ls hl => ?_)
      refine lv_iinc (v := (x2 + 1)) (lv' := [(5, .int (x2 + 1)), (4, .int x3), (0, .ref (ad 0)), (1, .int x1), (2, .long y1)]) hx hb d_TinyForgeModel_is_77 hl (k := 4) rfl rfl (by decide) rfl (fun ls hl => ?_)
      refine lv_goto (tgt := 6) hx hb d_TinyForgeModel_is_80 (by decide) ?_
      exact ihn.1 σ x1 x3 (x2 + 1) y1 H locs ls hF hP hD hS (lv_sub hl [2, 3, 4, 1, 0] rfl)
set_option maxHeartbeats 4000000 in
set_option maxRecDepth 100000 in
theorem ct_TinyForgeModel_is (l : Launch) (dC : Nat → ClassId) (dI : Nat → Nat → Nat) (ad : Nat → Nat) (cA : Nat → ClassId) (sz : Nat) {σ : St} {a1 : Int32} {a2 : Int64} {r : Int32} (hF : mTinyForgeModel_is σ a1 a2 = some r) : MI l y_TinyForgeModel_is b_TinyForgeModel_is 7 (some .boolean) { frames := 0, cells := 0, slots := 0, locals := 0 } (dC, dI) (mtys cA) ad (mcw ad cA) [.ref (ad 0), .int a1, .long a2] σ sz r σ := by
  refine startM (own := "TinyForgeModel") (Qc := fun A => QI (dC, dI) (mtys cA) (mcw ad cA) A r σ) rfl rfl (Nat.le_of_ble_eq_true rfl) ?_
  intro p e s m below meth c A H locs ls X hP hD hS hl
  have hl : lv_has ls 7 [(0, .ref (ad 0)), (1, .int a1), (2, .long a2)] := hl
  obtain ⟨hx, hb, hr, hml, hown, hlocks, hts, hA, hK, hZ⟩ := id X
  unfold mTinyForgeModel_is at hF
  refine lv_iconst (v := 1) hx hb d_TinyForgeModel_is_0 (by decide) ?_
  refine lv_istore (lv' := [(4, .int 1), (0, .ref (ad 0)), (1, .int a1), (2, .long a2)]) hx hb d_TinyForgeModel_is_1 hl (by decide) rfl (fun ls hl => ?_)
  refine lv_iconst (v := 0) hx hb d_TinyForgeModel_is_3 (by decide) ?_
  refine lv_istore (lv' := [(5, .int 0), (4, .int 1), (0, .ref (ad 0)), (1, .int a1), (2, .long a2)]) hx hb d_TinyForgeModel_is_4 hl (by decide) rfl (fun ls hl => ?_)
  exact (mTinyForgeModel_is_blk l dC dI ad cA X 2000).1 σ a1 1 0 a2 H locs ls hF hP hD hS (lv_sub hl [2, 3, 4, 1, 0] rfl)
theorem d_TinyForgeModel_sees_0 : decode b_TinyForgeModel_sees 0 = .ok (.aload_n 0, 1) := by decide +kernel
theorem d_TinyForgeModel_sees_1 : decode b_TinyForgeModel_sees 1 = .ok (.aload_n 0, 1) := by decide +kernel
theorem d_TinyForgeModel_sees_2 : decode b_TinyForgeModel_sees 2 = .ok (.getfield 184, 3) := by decide +kernel
theorem d_TinyForgeModel_sees_5 : decode b_TinyForgeModel_sees 5 = .ok (.lload_n 1, 1) := by decide +kernel
theorem d_TinyForgeModel_sees_6 : decode b_TinyForgeModel_sees 6 = .ok (.invokevirtual 168, 3) := by decide +kernel
theorem d_TinyForgeModel_sees_9 : decode b_TinyForgeModel_sees 9 = .ok (.ireturn, 1) := by decide +kernel
theorem mw_32 : Cond.fieldLink "TinyForgeModel" 184 "TinyForgeModel" "at" "I" ∈ BIG := List.mem_filter.mpr ⟨List.mem_of_getElem? (i := 1151) (by decide +kernel), by decide +kernel⟩
theorem mw_33 : Cond.methodLink "TinyForgeModel" 168 ⟨"TinyForgeModel", "is", "(IJ)Z"⟩ ∈ BIG := List.mem_filter.mpr ⟨List.mem_of_getElem? (i := 1376) (by decide +kernel), by decide +kernel⟩
theorem mw_34 : Cond.code ⟨"TinyForgeModel", "is", "(IJ)Z"⟩ prog_13_method_16_code 7 (some .boolean) ∈ BIG := List.mem_filter.mpr ⟨List.mem_of_getElem? (i := 1379) (by decide +kernel), by decide +kernel⟩
theorem mw_35 : Cond.instanceMethod ⟨"TinyForgeModel", "is", "(IJ)Z"⟩ ∈ BIG := List.mem_filter.mpr ⟨List.mem_of_getElem? (i := 1378) (by decide +kernel), by decide +kernel⟩
theorem mw_36 : Cond.selects "TinyForgeModel" ⟨"TinyForgeModel", "is", "(IJ)Z"⟩ ⟨"TinyForgeModel", "is", "(IJ)Z"⟩ ∈ BIG := List.mem_filter.mpr ⟨List.mem_of_getElem? (i := 56) (by decide +kernel), by decide +kernel⟩
theorem lk_TinyForgeModel_168 : LkV "TinyForgeModel" 168 "TinyForgeModel" y_TinyForgeModel_is b_TinyForgeModel_is 7 (some .boolean) 2 := ⟨⟨mw_33, mw_13, mw_34, by decide +kernel⟩, mw_35, mw_36⟩
def mTinyForgeModel_sees (σ : St) (a1 : Int64) : Option (Int32) := b1 (mTinyForgeModel_is σ (σ.1 5) a1) (fun r1 => gd (nZ r1) (some r1))
set_option maxHeartbeats 4000000 in
set_option maxRecDepth 100000 in
theorem ct_TinyForgeModel_sees (l : Launch) (dC : Nat → ClassId) (dI : Nat → Nat → Nat) (ad : Nat → Nat) (cA : Nat → ClassId) (sz : Nat) {σ : St} {a1 : Int64} {r : Int32} (hF : mTinyForgeModel_sees σ a1 = some r) : MI l y_TinyForgeModel_sees b_TinyForgeModel_sees 3 (some .boolean) { frames := 1, cells := 0, slots := 0, locals := 26 } (dC, dI) (mtys cA) ad (mcw ad cA) [.ref (ad 0), .long a1] σ sz r σ := by
  refine startM (own := "TinyForgeModel") (Qc := fun A => QI (dC, dI) (mtys cA) (mcw ad cA) A r σ) rfl rfl (Nat.le_of_ble_eq_true rfl) ?_
  intro p e s m below meth c A H locs ls X hP hD hS hl
  have hl : lv_has ls 3 [(0, .ref (ad 0)), (1, .long a1)] := hl
  obtain ⟨hx, hb, hr, hml, hown, hlocks, hts, hA, hK, hZ⟩ := id X
  unfold mTinyForgeModel_sees at hF
  refine lv_aload_n hx hb d_TinyForgeModel_sees_0 rfl (lv_at hl 0 rfl) ?_
  refine lv_aload_n hx hb d_TinyForgeModel_sees_1 rfl (lv_at hl 0 rfl) ?_
  refine va_get (D := (dC, dI)) (ci := 11) (v := .int (σ.1 5)) hx hb hts i_TinyForgeModel hown hK hP 0 rfl rfl 6 (by decide) (hts _ mw_32) (fun _ h9 => h9) rfl d_TinyForgeModel_sees_2 ?_
  refine lv_lload_n hx hb d_TinyForgeModel_sees_5 rfl (lv_at hl 1 rfl) ?_
  obtain ⟨r1, h1, hF⟩ := b1E hF
  refine callVI (As := [.int (σ.1 5), .long a1]) X (ct_TinyForgeModel_is l dC dI ad cA H.size h1) lk_TinyForgeModel_168 ⟨rfl, rfl, by decide, by decide⟩ 0 rfl rfl hP hD hS hl.1 rfl rfl (Nat.le_of_ble_eq_true rfl) d_TinyForgeModel_sees_6 (fun H locs hP hD hS => ?_)
  obtain ⟨g_2, hF⟩ := gdE hF
  cases hF
  exact leafZ X hP hD hS (nZN g_2) d_TinyForgeModel_sees_9
theorem d_TinyForgeModel_blame_0 : decode b_TinyForgeModel_blame 0 = .ok (.aload_n 0, 1) := by decide +kernel
theorem d_TinyForgeModel_blame_1 : decode b_TinyForgeModel_blame 1 = .ok (.getfield 121, 3) := by decide +kernel
theorem d_TinyForgeModel_blame_4 : decode b_TinyForgeModel_blame 4 = .ok (.ifCond .ne 13, 3) := by decide +kernel
theorem d_TinyForgeModel_blame_7 : decode b_TinyForgeModel_blame 7 = .ok (.aload_n 0, 1) := by decide +kernel
theorem d_TinyForgeModel_blame_8 : decode b_TinyForgeModel_blame 8 = .ok (.iload_n 1, 1) := by decide +kernel
theorem d_TinyForgeModel_blame_9 : decode b_TinyForgeModel_blame 9 = .ok (.putfield 121, 3) := by decide +kernel
theorem d_TinyForgeModel_blame_12 : decode b_TinyForgeModel_blame 12 = .ok (.aload_n 0, 1) := by decide +kernel
theorem d_TinyForgeModel_blame_13 : decode b_TinyForgeModel_blame 13 = .ok (.iload_n 2, 1) := by decide +kernel
theorem d_TinyForgeModel_blame_14 : decode b_TinyForgeModel_blame 14 = .ok (.putfield 13, 3) := by decide +kernel
theorem d_TinyForgeModel_blame_17 : decode b_TinyForgeModel_blame 17 = .ok (.return_, 1) := by decide +kernel
theorem mw_37 : Cond.fieldLink "TinyForgeModel" 121 "TinyForgeModel" "why" "I" ∈ BIG := List.mem_filter.mpr ⟨List.mem_of_getElem? (i := 1149) (by decide +kernel), by decide +kernel⟩
theorem mw_38 : Cond.fieldLink "TinyForgeModel" 13 "TinyForgeModel" "where" "I" ∈ BIG := List.mem_filter.mpr ⟨List.mem_of_getElem? (i := 1150) (by decide +kernel), by decide +kernel⟩
def mTinyForgeModel_blame (σ : St) (a1 : Int32) (a2 : Int32) : Option (St) := if (σ.1 3) = 0 then some (sI (sI σ 3 a1) 4 a2) else some σ
set_option maxHeartbeats 4000000 in
set_option maxRecDepth 100000 in
theorem ct_TinyForgeModel_blame (l : Launch) (dC : Nat → ClassId) (dI : Nat → Nat → Nat) (ad : Nat → Nat) (cA : Nat → ClassId) (sz : Nat) {σ : St} {a1 : Int32} {a2 : Int32} {σ' : St} (hF : mTinyForgeModel_blame σ a1 a2 = some σ') : MV l y_TinyForgeModel_blame b_TinyForgeModel_blame 3 none { frames := 0, cells := 0, slots := 0, locals := 0 } (dC, dI) (mtys cA) ad (mcw ad cA) [.ref (ad 0), .int a1, .int a2] σ sz σ' := by
  refine startM (own := "TinyForgeModel") (Qc := fun A => QV (dC, dI) (mtys cA) (mcw ad cA) A σ') rfl rfl (Nat.le_of_ble_eq_true rfl) ?_
  intro p e s m below meth c A H locs ls X hP hD hS hl
  have hl : lv_has ls 3 [(0, .ref (ad 0)), (1, .int a1), (2, .int a2)] := hl
  obtain ⟨hx, hb, hr, hml, hown, hlocks, hts, hA, hK, hZ⟩ := id X
  unfold mTinyForgeModel_blame at hF
  refine lv_aload_n hx hb d_TinyForgeModel_blame_0 rfl (lv_at hl 0 rfl) ?_
  refine va_get (D := (dC, dI)) (ci := 11) (v := .int (σ.1 3)) hx hb hts i_TinyForgeModel hown hK hP 0 rfl rfl 4 (by decide) (hts _ mw_37) (fun _ h9 => h9) rfl d_TinyForgeModel_blame_1 ?_
  refine lv_if_ne (tgt := 17) hx hb d_TinyForgeModel_blame_4 (by decide) (fun c_1 => ?_) (fun c_1 => ?_)
  · have hF := ifn hF c_1
    cases hF
    exact leafV X hP hD hS d_TinyForgeModel_blame_17
  · have hF := ifp hF c_1
    refine lv_aload_n hx hb d_TinyForgeModel_blame_7 rfl (lv_at hl 0 rfl) ?_
    refine lv_iload_n hx hb d_TinyForgeModel_blame_8 rfl (lv_at hl 1 rfl) ?_
    refine va_put (D := (dC, dI)) (ci := 11) (v := .int a1) (ty := .int) hx hb hts i_TinyForgeModel t_TinyForgeModel t_TinyForgeModel_ok n_TinyForgeModel hown hK hP hD hS 0 rfl rfl 4 (by decide) (hts _ mw_37) (fun _ h9 => h9) rfl (by decide +kernel) rfl rfl (Nat.le_of_ble_eq_true rfl) d_TinyForgeModel_blame_9 (fun H locs hP hD hS => ?_)
    have hP : va_P (dC, dI) vwCl (mcw ad cA (sI σ 3 a1)) H := hP
    have hD : va_D A (mcw ad cA (sI σ 3 a1)) := hD
    refine lv_aload_n hx hb d_TinyForgeModel_blame_12 rfl (lv_at hl 0 rfl) ?_
    refine lv_iload_n hx hb d_TinyForgeModel_blame_13 rfl (lv_at hl 2 rfl) ?_
    refine va_put (D := (dC, dI)) (ci := 11) (v := .int a2) (ty := .int) hx hb hts i_TinyForgeModel t_TinyForgeModel t_TinyForgeModel_ok n_TinyForgeModel hown hK hP hD hS 0 rfl rfl 5 (by decide) (hts _ mw_38) (fun _ h9 => h9) rfl (by decide +kernel) rfl rfl (Nat.le_of_ble_eq_true rfl) d_TinyForgeModel_blame_14 (fun H locs hP hD hS => ?_)
    have hP : va_P (dC, dI) vwCl (mcw ad cA (sI (sI σ 3 a1) 4 a2)) H := hP
    have hD : va_D A (mcw ad cA (sI (sI σ 3 a1) 4 a2)) := hD
    cases hF
    exact leafV X hP hD hS d_TinyForgeModel_blame_17
theorem d_TinyForgeModel_spoil_0 : decode b_TinyForgeModel_spoil 0 = .ok (.aload_n 0, 1) := by decide +kernel
theorem d_TinyForgeModel_spoil_1 : decode b_TinyForgeModel_spoil 1 = .ok (.iconst 3, 1) := by decide +kernel
theorem d_TinyForgeModel_spoil_2 : decode b_TinyForgeModel_spoil 2 = .ok (.aload_n 0, 1) := by decide +kernel
theorem d_TinyForgeModel_spoil_3 : decode b_TinyForgeModel_spoil 3 = .ok (.getfield 21, 3) := by decide +kernel
theorem d_TinyForgeModel_spoil_6 : decode b_TinyForgeModel_spoil 6 = .ok (.aload_n 0, 1) := by decide +kernel
theorem d_TinyForgeModel_spoil_7 : decode b_TinyForgeModel_spoil 7 = .ok (.getfield 184, 3) := by decide +kernel
theorem d_TinyForgeModel_spoil_10 : decode b_TinyForgeModel_spoil 10 = .ok (.iaload, 1) := by decide +kernel
theorem d_TinyForgeModel_spoil_11 : decode b_TinyForgeModel_spoil 11 = .ok (.invokevirtual 140, 3) := by decide +kernel
theorem d_TinyForgeModel_spoil_14 : decode b_TinyForgeModel_spoil 14 = .ok (.return_, 1) := by decide +kernel
theorem mw_39 : Cond.methodLink "TinyForgeModel" 140 ⟨"TinyForgeModel", "blame", "(II)V"⟩ ∈ BIG := List.mem_filter.mpr ⟨List.mem_of_getElem? (i := 1363) (by decide +kernel), by decide +kernel⟩
theorem mw_40 : Cond.code ⟨"TinyForgeModel", "blame", "(II)V"⟩ prog_13_method_8_code 3 none ∈ BIG := List.mem_filter.mpr ⟨List.mem_of_getElem? (i := 1366) (by decide +kernel), by decide +kernel⟩
theorem mw_41 : Cond.instanceMethod ⟨"TinyForgeModel", "blame", "(II)V"⟩ ∈ BIG := List.mem_filter.mpr ⟨List.mem_of_getElem? (i := 1365) (by decide +kernel), by decide +kernel⟩
theorem mw_42 : Cond.selects "TinyForgeModel" ⟨"TinyForgeModel", "blame", "(II)V"⟩ ⟨"TinyForgeModel", "blame", "(II)V"⟩ ∈ BIG := List.mem_filter.mpr ⟨List.mem_of_getElem? (i := 53) (by decide +kernel), by decide +kernel⟩
theorem lk_TinyForgeModel_140 : LkV "TinyForgeModel" 140 "TinyForgeModel" y_TinyForgeModel_blame b_TinyForgeModel_blame 3 none 2 := ⟨⟨mw_39, mw_13, mw_40, by decide +kernel⟩, mw_41, mw_42⟩
def mTinyForgeModel_spoil (σ : St) : Option (St) := gd (inB (σ.1 5) 500) (b1 (mTinyForgeModel_blame σ 3 ((σ.2.2.1 2) (σ.1 5).toNatClampNeg)) (fun u2 => some u2))
set_option maxHeartbeats 4000000 in
set_option maxRecDepth 100000 in
theorem ct_TinyForgeModel_spoil (l : Launch) (dC : Nat → ClassId) (dI : Nat → Nat → Nat) (ad : Nat → Nat) (cA : Nat → ClassId) (sz : Nat) {σ : St} {σ' : St} (hF : mTinyForgeModel_spoil σ = some σ') : MV l y_TinyForgeModel_spoil b_TinyForgeModel_spoil 1 none { frames := 1, cells := 0, slots := 0, locals := 22 } (dC, dI) (mtys cA) ad (mcw ad cA) [.ref (ad 0)] σ sz σ' := by
  refine startM (own := "TinyForgeModel") (Qc := fun A => QV (dC, dI) (mtys cA) (mcw ad cA) A σ') rfl rfl (Nat.le_of_ble_eq_true rfl) ?_
  intro p e s m below meth c A H locs ls X hP hD hS hl
  have hl : lv_has ls 1 [(0, .ref (ad 0))] := hl
  obtain ⟨hx, hb, hr, hml, hown, hlocks, hts, hA, hK, hZ⟩ := id X
  unfold mTinyForgeModel_spoil at hF
  refine lv_aload_n hx hb d_TinyForgeModel_spoil_0 rfl (lv_at hl 0 rfl) ?_
  refine lv_iconst (v := 3) hx hb d_TinyForgeModel_spoil_1 (by decide) ?_
  refine lv_aload_n hx hb d_TinyForgeModel_spoil_2 rfl (lv_at hl 0 rfl) ?_
  refine va_get (D := (dC, dI)) (ci := 11) (v := .ref (ad 3)) hx hb hts i_TinyForgeModel hown hK hP 0 rfl rfl 10 (by decide) (hts _ mw_6) (fun _ h9 => h9) rfl d_TinyForgeModel_spoil_3 ?_
  refine lv_aload_n hx hb d_TinyForgeModel_spoil_6 rfl (lv_at hl 0 rfl) ?_
  refine va_get (D := (dC, dI)) (ci := 11) (v := .int (σ.1 5)) hx hb hts i_TinyForgeModel hown hK hP 0 rfl rfl 6 (by decide) (hts _ mw_32) (fun _ h9 => h9) rfl d_TinyForgeModel_spoil_7 ?_
  obtain ⟨g_1, hF⟩ := gdE hF
  refine va_iald (f := (σ.2.2.1 2)) hx hb hK hP 3 0 rfl rfl (inE g_1) d_TinyForgeModel_spoil_10 ?_
  obtain ⟨u2, h2, hF⟩ := b1E hF
  refine callVV (As := [.int 3, .int ((σ.2.2.1 2) (σ.1 5).toNatClampNeg)]) X (ct_TinyForgeModel_blame l dC dI ad cA H.size h2) lk_TinyForgeModel_140 ⟨rfl, rfl, by decide, by decide⟩ 0 rfl rfl hP hD hS hl.1 rfl rfl (Nat.le_of_ble_eq_true rfl) d_TinyForgeModel_spoil_11 (fun H locs hP hD hS => ?_)
  cases hF
  exact leafV X hP hD hS d_TinyForgeModel_spoil_14
theorem d_TinyForgeModel_need_0 : decode b_TinyForgeModel_need 0 = .ok (.aload_n 0, 1) := by decide +kernel
theorem d_TinyForgeModel_need_1 : decode b_TinyForgeModel_need 1 = .ok (.lload_n 1, 1) := by decide +kernel
theorem d_TinyForgeModel_need_2 : decode b_TinyForgeModel_need 2 = .ok (.invokevirtual 190, 3) := by decide +kernel
theorem d_TinyForgeModel_need_5 : decode b_TinyForgeModel_need 5 = .ok (.ifCond .ne 10, 3) := by decide +kernel
theorem d_TinyForgeModel_need_8 : decode b_TinyForgeModel_need 8 = .ok (.aload_n 0, 1) := by decide +kernel
theorem d_TinyForgeModel_need_9 : decode b_TinyForgeModel_need 9 = .ok (.invokevirtual 194, 3) := by decide +kernel
theorem d_TinyForgeModel_need_12 : decode b_TinyForgeModel_need 12 = .ok (.goto 20, 3) := by decide +kernel
theorem d_TinyForgeModel_need_15 : decode b_TinyForgeModel_need 15 = .ok (.aload_n 0, 1) := by decide +kernel
theorem d_TinyForgeModel_need_16 : decode b_TinyForgeModel_need 16 = .ok (.getfield 121, 3) := by decide +kernel
theorem d_TinyForgeModel_need_19 : decode b_TinyForgeModel_need 19 = .ok (.ifCond .ne 13, 3) := by decide +kernel
theorem d_TinyForgeModel_need_22 : decode b_TinyForgeModel_need 22 = .ok (.aload_n 0, 1) := by decide +kernel
theorem d_TinyForgeModel_need_23 : decode b_TinyForgeModel_need 23 = .ok (.dup, 1) := by decide +kernel
theorem d_TinyForgeModel_need_24 : decode b_TinyForgeModel_need 24 = .ok (.getfield 184, 3) := by decide +kernel
theorem d_TinyForgeModel_need_27 : decode b_TinyForgeModel_need 27 = .ok (.iconst 1, 1) := by decide +kernel
theorem d_TinyForgeModel_need_28 : decode b_TinyForgeModel_need 28 = .ok (.iadd, 1) := by decide +kernel
theorem d_TinyForgeModel_need_29 : decode b_TinyForgeModel_need 29 = .ok (.putfield 184, 3) := by decide +kernel
theorem d_TinyForgeModel_need_32 : decode b_TinyForgeModel_need 32 = .ok (.return_, 1) := by decide +kernel
theorem mw_43 : Cond.methodLink "TinyForgeModel" 190 ⟨"TinyForgeModel", "sees", "(J)Z"⟩ ∈ BIG := List.mem_filter.mpr ⟨List.mem_of_getElem? (i := 1409) (by decide +kernel), by decide +kernel⟩
theorem mw_44 : Cond.code ⟨"TinyForgeModel", "sees", "(J)Z"⟩ prog_13_method_18_code 3 (some .boolean) ∈ BIG := List.mem_filter.mpr ⟨List.mem_of_getElem? (i := 1412) (by decide +kernel), by decide +kernel⟩
theorem mw_45 : Cond.instanceMethod ⟨"TinyForgeModel", "sees", "(J)Z"⟩ ∈ BIG := List.mem_filter.mpr ⟨List.mem_of_getElem? (i := 1411) (by decide +kernel), by decide +kernel⟩
theorem mw_46 : Cond.selects "TinyForgeModel" ⟨"TinyForgeModel", "sees", "(J)Z"⟩ ⟨"TinyForgeModel", "sees", "(J)Z"⟩ ∈ BIG := List.mem_filter.mpr ⟨List.mem_of_getElem? (i := 62) (by decide +kernel), by decide +kernel⟩
theorem mw_47 : Cond.methodLink "TinyForgeModel" 194 ⟨"TinyForgeModel", "spoil", "()V"⟩ ∈ BIG := List.mem_filter.mpr ⟨List.mem_of_getElem? (i := 1413) (by decide +kernel), by decide +kernel⟩
theorem mw_48 : Cond.code ⟨"TinyForgeModel", "spoil", "()V"⟩ prog_13_method_21_code 1 none ∈ BIG := List.mem_filter.mpr ⟨List.mem_of_getElem? (i := 1416) (by decide +kernel), by decide +kernel⟩
theorem mw_49 : Cond.instanceMethod ⟨"TinyForgeModel", "spoil", "()V"⟩ ∈ BIG := List.mem_filter.mpr ⟨List.mem_of_getElem? (i := 1415) (by decide +kernel), by decide +kernel⟩
theorem mw_50 : Cond.selects "TinyForgeModel" ⟨"TinyForgeModel", "spoil", "()V"⟩ ⟨"TinyForgeModel", "spoil", "()V"⟩ ∈ BIG := List.mem_filter.mpr ⟨List.mem_of_getElem? (i := 63) (by decide +kernel), by decide +kernel⟩
theorem lk_TinyForgeModel_190 : LkV "TinyForgeModel" 190 "TinyForgeModel" y_TinyForgeModel_sees b_TinyForgeModel_sees 3 (some .boolean) 1 := ⟨⟨mw_43, mw_13, mw_44, by decide +kernel⟩, mw_45, mw_46⟩
theorem lk_TinyForgeModel_194 : LkV "TinyForgeModel" 194 "TinyForgeModel" y_TinyForgeModel_spoil b_TinyForgeModel_spoil 1 none 0 := ⟨⟨mw_47, mw_13, mw_48, by decide +kernel⟩, mw_49, mw_50⟩
def mTinyForgeModel_need (σ : St) (a1 : Int64) : Option (St) := b1 (mTinyForgeModel_sees σ a1) (fun r1 => if r1 = 0 then b1 (mTinyForgeModel_spoil σ) (fun u4 => some u4) else if (σ.1 3) = 0 then some (sI σ 5 ((σ.1 5) + 1)) else some σ)
set_option maxHeartbeats 4000000 in
set_option maxRecDepth 100000 in
theorem ct_TinyForgeModel_need (l : Launch) (dC : Nat → ClassId) (dI : Nat → Nat → Nat) (ad : Nat → Nat) (cA : Nat → ClassId) (sz : Nat) {σ : St} {a1 : Int64} {σ' : St} (hF : mTinyForgeModel_need σ a1 = some σ') : MV l y_TinyForgeModel_need b_TinyForgeModel_need 3 none { frames := 2, cells := 0, slots := 0, locals := 48 } (dC, dI) (mtys cA) ad (mcw ad cA) [.ref (ad 0), .long a1] σ sz σ' := by
  refine startM (own := "TinyForgeModel") (Qc := fun A => QV (dC, dI) (mtys cA) (mcw ad cA) A σ') rfl rfl (Nat.le_of_ble_eq_true rfl) ?_
  intro p e s m below meth c A H locs ls X hP hD hS hl
  have hl : lv_has ls 3 [(0, .ref (ad 0)), (1, .long a1)] := hl
  obtain ⟨hx, hb, hr, hml, hown, hlocks, hts, hA, hK, hZ⟩ := id X
  unfold mTinyForgeModel_need at hF
  refine lv_aload_n hx hb d_TinyForgeModel_need_0 rfl (lv_at hl 0 rfl) ?_
  refine lv_lload_n hx hb d_TinyForgeModel_need_1 rfl (lv_at hl 1 rfl) ?_
  obtain ⟨r1, h1, hF⟩ := b1E hF
  refine callVI (As := [.long a1]) X (ct_TinyForgeModel_sees l dC dI ad cA H.size h1) lk_TinyForgeModel_190 ⟨rfl, rfl, by decide, by decide⟩ 0 rfl rfl hP hD hS hl.1 rfl rfl (Nat.le_of_ble_eq_true rfl) d_TinyForgeModel_need_2 (fun H locs hP hD hS => ?_)
  refine lv_if_ne (tgt := 15) hx hb d_TinyForgeModel_need_5 (by decide) (fun c_2 => ?_) (fun c_2 => ?_)
  · have hF := ifn hF c_2
    refine lv_aload_n hx hb d_TinyForgeModel_need_15 rfl (lv_at hl 0 rfl) ?_
    refine va_get (D := (dC, dI)) (ci := 11) (v := .int (σ.1 3)) hx hb hts i_TinyForgeModel hown hK hP 0 rfl rfl 4 (by decide) (hts _ mw_37) (fun _ h9 => h9) rfl d_TinyForgeModel_need_16 ?_
    refine lv_if_ne (tgt := 32) hx hb d_TinyForgeModel_need_19 (by decide) (fun c_3 => ?_) (fun c_3 => ?_)
    · have hF := ifn hF c_3
      cases hF
      exact leafV X hP hD hS d_TinyForgeModel_need_32
    · have hF := ifp hF c_3
      refine lv_aload_n hx hb d_TinyForgeModel_need_22 rfl (lv_at hl 0 rfl) ?_
      refine lv_dup hx hb d_TinyForgeModel_need_23 rfl ?_
      refine va_get (D := (dC, dI)) (ci := 11) (v := .int (σ.1 5)) hx hb hts i_TinyForgeModel hown hK hP 0 rfl rfl 6 (by decide) (hts _ mw_32) (fun _ h9 => h9) rfl d_TinyForgeModel_need_24 ?_
      refine lv_iconst (v := 1) hx hb d_TinyForgeModel_need_27 (by decide) ?_
      refine lv_iadd hx hb d_TinyForgeModel_need_28 ?_
      refine va_put (D := (dC, dI)) (ci := 11) (v := .int ((σ.1 5) + 1)) (ty := .int) hx hb hts i_TinyForgeModel t_TinyForgeModel t_TinyForgeModel_ok n_TinyForgeModel hown hK hP hD hS 0 rfl rfl 6 (by decide) (hts _ mw_32) (fun _ h9 => h9) rfl (by decide +kernel) rfl rfl (Nat.le_of_ble_eq_true rfl) d_TinyForgeModel_need_29 (fun H locs hP hD hS => ?_)
      have hP : va_P (dC, dI) vwCl (mcw ad cA (sI σ 5 ((σ.1 5) + 1))) H := hP
      have hD : va_D A (mcw ad cA (sI σ 5 ((σ.1 5) + 1))) := hD
      cases hF
      exact leafV X hP hD hS d_TinyForgeModel_need_32
  · have hF := ifp hF c_2
    refine lv_aload_n hx hb d_TinyForgeModel_need_8 rfl (lv_at hl 0 rfl) ?_
    obtain ⟨u4, h4, hF⟩ := b1E hF
    refine callVV (As := []) X (ct_TinyForgeModel_spoil l dC dI ad cA H.size h4) lk_TinyForgeModel_194 ⟨rfl, rfl, by decide, by decide⟩ 0 rfl rfl hP hD hS hl.1 rfl rfl (Nat.le_of_ble_eq_true rfl) d_TinyForgeModel_need_9 (fun H locs hP hD hS => ?_)
    refine lv_goto (tgt := 32) hx hb d_TinyForgeModel_need_12 (by decide) ?_
    cases hF
    exact leafV X hP hD hS d_TinyForgeModel_need_32
theorem d_TinyForgeModel_arrayPart_0 : decode b_TinyForgeModel_arrayPart 0 = .ok (.aload_n 0, 1) := by decide +kernel
theorem d_TinyForgeModel_arrayPart_1 : decode b_TinyForgeModel_arrayPart 1 = .ok (.dup, 1) := by decide +kernel
theorem d_TinyForgeModel_arrayPart_2 : decode b_TinyForgeModel_arrayPart 2 = .ok (.getfield 184, 3) := by decide +kernel
theorem d_TinyForgeModel_arrayPart_5 : decode b_TinyForgeModel_arrayPart 5 = .ok (.iconst 1, 1) := by decide +kernel
theorem d_TinyForgeModel_arrayPart_6 : decode b_TinyForgeModel_arrayPart 6 = .ok (.iadd, 1) := by decide +kernel
theorem d_TinyForgeModel_arrayPart_7 : decode b_TinyForgeModel_arrayPart 7 = .ok (.putfield 184, 3) := by decide +kernel
theorem d_TinyForgeModel_arrayPart_10 : decode b_TinyForgeModel_arrayPart 10 = .ok (.aload_n 0, 1) := by decide +kernel
theorem d_TinyForgeModel_arrayPart_11 : decode b_TinyForgeModel_arrayPart 11 = .ok (.getfield 27, 3) := by decide +kernel
theorem d_TinyForgeModel_arrayPart_14 : decode b_TinyForgeModel_arrayPart 14 = .ok (.aload_n 0, 1) := by decide +kernel
theorem d_TinyForgeModel_arrayPart_15 : decode b_TinyForgeModel_arrayPart 15 = .ok (.getfield 184, 3) := by decide +kernel
theorem d_TinyForgeModel_arrayPart_18 : decode b_TinyForgeModel_arrayPart 18 = .ok (.iaload, 1) := by decide +kernel
theorem d_TinyForgeModel_arrayPart_19 : decode b_TinyForgeModel_arrayPart 19 = .ok (.istore_n 2, 1) := by decide +kernel
theorem d_TinyForgeModel_arrayPart_20 : decode b_TinyForgeModel_arrayPart 20 = .ok (.aload_n 0, 1) := by decide +kernel
theorem d_TinyForgeModel_arrayPart_21 : decode b_TinyForgeModel_arrayPart 21 = .ok (.getfield 184, 3) := by decide +kernel
theorem d_TinyForgeModel_arrayPart_24 : decode b_TinyForgeModel_arrayPart 24 = .ok (.istore_n 3, 1) := by decide +kernel
theorem d_TinyForgeModel_arrayPart_25 : decode b_TinyForgeModel_arrayPart 25 = .ok (.aload_n 0, 1) := by decide +kernel
theorem d_TinyForgeModel_arrayPart_26 : decode b_TinyForgeModel_arrayPart 26 = .ok (.getfield 17, 3) := by decide +kernel
theorem d_TinyForgeModel_arrayPart_29 : decode b_TinyForgeModel_arrayPart 29 = .ok (.aload_n 0, 1) := by decide +kernel
theorem d_TinyForgeModel_arrayPart_30 : decode b_TinyForgeModel_arrayPart 30 = .ok (.getfield 184, 3) := by decide +kernel
theorem d_TinyForgeModel_arrayPart_33 : decode b_TinyForgeModel_arrayPart 33 = .ok (.iaload, 1) := by decide +kernel
theorem d_TinyForgeModel_arrayPart_34 : decode b_TinyForgeModel_arrayPart 34 = .ok (.iconst 2, 1) := by decide +kernel
theorem d_TinyForgeModel_arrayPart_35 : decode b_TinyForgeModel_arrayPart 35 = .ok (.if_icmp .eq 10, 3) := by decide +kernel
theorem d_TinyForgeModel_arrayPart_38 : decode b_TinyForgeModel_arrayPart 38 = .ok (.aload_n 0, 1) := by decide +kernel
theorem d_TinyForgeModel_arrayPart_39 : decode b_TinyForgeModel_arrayPart 39 = .ok (.invokevirtual 194, 3) := by decide +kernel
theorem d_TinyForgeModel_arrayPart_42 : decode b_TinyForgeModel_arrayPart 42 = .ok (.goto 13, 3) := by decide +kernel
theorem d_TinyForgeModel_arrayPart_45 : decode b_TinyForgeModel_arrayPart 45 = .ok (.aload_n 0, 1) := by decide +kernel
theorem d_TinyForgeModel_arrayPart_46 : decode b_TinyForgeModel_arrayPart 46 = .ok (.dup, 1) := by decide +kernel
theorem d_TinyForgeModel_arrayPart_47 : decode b_TinyForgeModel_arrayPart 47 = .ok (.getfield 184, 3) := by decide +kernel
theorem d_TinyForgeModel_arrayPart_50 : decode b_TinyForgeModel_arrayPart 50 = .ok (.iconst 1, 1) := by decide +kernel
theorem d_TinyForgeModel_arrayPart_51 : decode b_TinyForgeModel_arrayPart 51 = .ok (.iadd, 1) := by decide +kernel
theorem d_TinyForgeModel_arrayPart_52 : decode b_TinyForgeModel_arrayPart 52 = .ok (.putfield 184, 3) := by decide +kernel
theorem d_TinyForgeModel_arrayPart_55 : decode b_TinyForgeModel_arrayPart 55 = .ok (.aload_n 0, 1) := by decide +kernel
theorem d_TinyForgeModel_arrayPart_56 : decode b_TinyForgeModel_arrayPart 56 = .ok (.ldc2_w 272, 3) := by decide +kernel
theorem d_TinyForgeModel_arrayPart_59 : decode b_TinyForgeModel_arrayPart 59 = .ok (.invokevirtual 252, 3) := by decide +kernel
theorem d_TinyForgeModel_arrayPart_62 : decode b_TinyForgeModel_arrayPart 62 = .ok (.aload_n 0, 1) := by decide +kernel
theorem d_TinyForgeModel_arrayPart_63 : decode b_TinyForgeModel_arrayPart 63 = .ok (.ldc2_w 304, 3) := by decide +kernel
theorem d_TinyForgeModel_arrayPart_66 : decode b_TinyForgeModel_arrayPart 66 = .ok (.invokevirtual 252, 3) := by decide +kernel
theorem d_TinyForgeModel_arrayPart_69 : decode b_TinyForgeModel_arrayPart 69 = .ok (.aload_n 0, 1) := by decide +kernel
theorem d_TinyForgeModel_arrayPart_70 : decode b_TinyForgeModel_arrayPart 70 = .ok (.getfield 121, 3) := by decide +kernel
theorem d_TinyForgeModel_arrayPart_73 : decode b_TinyForgeModel_arrayPart 73 = .ok (.ifCond .eq 4, 3) := by decide +kernel
theorem d_TinyForgeModel_arrayPart_76 : decode b_TinyForgeModel_arrayPart 76 = .ok (.return_, 1) := by decide +kernel
theorem d_TinyForgeModel_arrayPart_77 : decode b_TinyForgeModel_arrayPart 77 = .ok (.aload_n 0, 1) := by decide +kernel
theorem d_TinyForgeModel_arrayPart_78 : decode b_TinyForgeModel_arrayPart 78 = .ok (.iload_n 1, 1) := by decide +kernel
theorem d_TinyForgeModel_arrayPart_79 : decode b_TinyForgeModel_arrayPart 79 = .ok (.iconst 0, 1) := by decide +kernel
theorem d_TinyForgeModel_arrayPart_80 : decode b_TinyForgeModel_arrayPart 80 = .ok (.iload_n 2, 1) := by decide +kernel
theorem d_TinyForgeModel_arrayPart_81 : decode b_TinyForgeModel_arrayPart 81 = .ok (.invokevirtual 349, 3) := by decide +kernel
theorem d_TinyForgeModel_arrayPart_84 : decode b_TinyForgeModel_arrayPart 84 = .ok (.pop, 1) := by decide +kernel
theorem d_TinyForgeModel_arrayPart_85 : decode b_TinyForgeModel_arrayPart 85 = .ok (.iload_n 2, 1) := by decide +kernel
theorem d_TinyForgeModel_arrayPart_86 : decode b_TinyForgeModel_arrayPart 86 = .ok (.iconst 1, 1) := by decide +kernel
theorem d_TinyForgeModel_arrayPart_87 : decode b_TinyForgeModel_arrayPart 87 = .ok (.if_icmp .lt 9, 3) := by decide +kernel
theorem d_TinyForgeModel_arrayPart_90 : decode b_TinyForgeModel_arrayPart 90 = .ok (.iload_n 2, 1) := by decide +kernel
theorem d_TinyForgeModel_arrayPart_91 : decode b_TinyForgeModel_arrayPart 91 = .ok (.bipush 16, 2) := by decide +kernel
theorem d_TinyForgeModel_arrayPart_93 : decode b_TinyForgeModel_arrayPart 93 = .ok (.if_icmp .le 8, 3) := by decide +kernel
theorem d_TinyForgeModel_arrayPart_96 : decode b_TinyForgeModel_arrayPart 96 = .ok (.aload_n 0, 1) := by decide +kernel
theorem d_TinyForgeModel_arrayPart_97 : decode b_TinyForgeModel_arrayPart 97 = .ok (.iload_n 3, 1) := by decide +kernel
theorem d_TinyForgeModel_arrayPart_98 : decode b_TinyForgeModel_arrayPart 98 = .ok (.invokevirtual 249, 3) := by decide +kernel
theorem d_TinyForgeModel_arrayPart_101 : decode b_TinyForgeModel_arrayPart 101 = .ok (.return_, 1) := by decide +kernel
theorem mw_51 : Cond.constantLong "TinyForgeModel" 272 93 ∈ BIG := List.mem_filter.mpr ⟨List.mem_of_getElem? (i := 1422) (by decide +kernel), by decide +kernel⟩
theorem mw_52 : Cond.constantLong "TinyForgeModel" 304 59 ∈ BIG := List.mem_filter.mpr ⟨List.mem_of_getElem? (i := 1423) (by decide +kernel), by decide +kernel⟩
theorem mw_53 : Cond.methodLink "TinyForgeModel" 252 ⟨"TinyForgeModel", "need", "(J)V"⟩ ∈ BIG := List.mem_filter.mpr ⟨List.mem_of_getElem? (i := 1405) (by decide +kernel), by decide +kernel⟩
theorem mw_54 : Cond.code ⟨"TinyForgeModel", "need", "(J)V"⟩ prog_13_method_22_code 3 none ∈ BIG := List.mem_filter.mpr ⟨List.mem_of_getElem? (i := 1408) (by decide +kernel), by decide +kernel⟩
theorem mw_55 : Cond.instanceMethod ⟨"TinyForgeModel", "need", "(J)V"⟩ ∈ BIG := List.mem_filter.mpr ⟨List.mem_of_getElem? (i := 1407) (by decide +kernel), by decide +kernel⟩
theorem mw_56 : Cond.selects "TinyForgeModel" ⟨"TinyForgeModel", "need", "(J)V"⟩ ⟨"TinyForgeModel", "need", "(J)V"⟩ ∈ BIG := List.mem_filter.mpr ⟨List.mem_of_getElem? (i := 61) (by decide +kernel), by decide +kernel⟩
theorem mw_57 : Cond.methodLink "TinyForgeModel" 349 ⟨"TinyForgeModel", "makeGlobal", "(IZI)I"⟩ ∈ BIG := List.mem_filter.mpr ⟨List.mem_of_getElem? (i := 1424) (by decide +kernel), by decide +kernel⟩
theorem mw_58 : Cond.code ⟨"TinyForgeModel", "makeGlobal", "(IZI)I"⟩ prog_13_method_52_code 6 (some .int) ∈ BIG := List.mem_filter.mpr ⟨List.mem_of_getElem? (i := 1427) (by decide +kernel), by decide +kernel⟩
theorem mw_59 : Cond.instanceMethod ⟨"TinyForgeModel", "makeGlobal", "(IZI)I"⟩ ∈ BIG := List.mem_filter.mpr ⟨List.mem_of_getElem? (i := 1426) (by decide +kernel), by decide +kernel⟩
theorem mw_60 : Cond.selects "TinyForgeModel" ⟨"TinyForgeModel", "makeGlobal", "(IZI)I"⟩ ⟨"TinyForgeModel", "makeGlobal", "(IZI)I"⟩ ∈ BIG := List.mem_filter.mpr ⟨List.mem_of_getElem? (i := 65) (by decide +kernel), by decide +kernel⟩
theorem lk_TinyForgeModel_252 : LkV "TinyForgeModel" 252 "TinyForgeModel" y_TinyForgeModel_need b_TinyForgeModel_need 3 none 1 := ⟨⟨mw_53, mw_13, mw_54, by decide +kernel⟩, mw_55, mw_56⟩
theorem lk_TinyForgeModel_349 : LkV "TinyForgeModel" 349 "TinyForgeModel" y_TinyForgeModel_makeGlobal b_TinyForgeModel_makeGlobal 6 (some .int) 3 := ⟨⟨mw_57, mw_13, mw_58, by decide +kernel⟩, mw_59, mw_60⟩
def mTinyForgeModel_arrayPart_b1 (k : Nat → St → Int32 → Int32 → Int32 → Option (St)) (σ : St) (x1 : Int32) (x2 : Int32) (x3 : Int32) : Option (St) := b1 (mTinyForgeModel_need σ 93) (fun u5 => b1 (mTinyForgeModel_need u5 59) (fun u6 => if (u6.1 3) = 0 then b2 (mTinyForgeModel_makeGlobal u6 x1 0 x2) (fun r8 u8 => if x2 < 1 then b1 (mTinyForgeModel_notName u8 x3) (fun u10 => some u10) else if x2 ≤ 16 then some u8 else b1 (mTinyForgeModel_notName u8 x3) (fun u12 => some u12)) else some u6))
def mTinyForgeModel_arrayPart_L : Nat → Nat → St → Int32 → Int32 → Int32 → Option (St)
  | 0, _, _, _, _, _ => none
  | n + 1, lab, σ, x1, x2, x3 => match lab with
    | 1 => mTinyForgeModel_arrayPart_b1 (mTinyForgeModel_arrayPart_L n) σ x1 x2 x3
    | _ => none
def mTinyForgeModel_arrayPart (σ : St) (a1 : Int32) : Option (St) := gd (inB ((σ.1 5) + 1) 500) (gd (inB ((σ.1 5) + 1) 500) (if ((σ.2.2.1 1) ((σ.1 5) + 1).toNatClampNeg) = 2 then mTinyForgeModel_arrayPart_L 2000 1 (sI (sI σ 5 ((σ.1 5) + 1)) 5 (((σ.1 5) + 1) + 1)) a1 ((σ.2.2.1 4) ((σ.1 5) + 1).toNatClampNeg) ((σ.1 5) + 1) else b1 (mTinyForgeModel_spoil (sI σ 5 ((σ.1 5) + 1))) (fun u4 => mTinyForgeModel_arrayPart_L 2000 1 u4 a1 ((σ.2.2.1 4) ((σ.1 5) + 1).toNatClampNeg) ((σ.1 5) + 1))))
set_option maxHeartbeats 4000000 in
set_option maxRecDepth 100000 in
theorem mTinyForgeModel_arrayPart_blk {p : Program} {e : Env} {s : State} {m : MethodId} {args : Array Value} {below : List Frame} {meth : Method} {c : Code} {A : Nat → Prop} (l : Launch) (dC : Nat → ClassId) (dI : Nat → Nat → Nat) (ad : Nat → Nat) (cA : Nat → ClassId) {σ' : St} (X : Cx p s m args meth c b_TinyForgeModel_arrayPart 4 none "TinyForgeModel" (dC, dI) (mtys cA) ad A) : ∀ n : Nat, (∀ (σ : St) (x1 : Int32) (x2 : Int32) (x3 : Int32) (H : Heap) (locs : List Loc) (ls : Array Slot), mTinyForgeModel_arrayPart_L n 1 σ x1 x2 x3 = some σ' → va_P (dC, dI) vwCl (mcw ad cA σ) H → va_D A (mcw ad cA σ) → va_S A s.heap H locs → lv_has ls 4 [(0, .ref (ad 0)), (1, .int x1), (2, .int x2), (3, .int x3)] → W p l e { frames := 3, cells := 0, slots := 0, locals := 72 } s m args below meth c H locs 0 0 (MQ below (QV (dC, dI) (mtys cA) (mcw ad cA) A σ') args s 0 0 A) (F0 m 55 ls [])) := by
  obtain ⟨hx, hb, hr, hml, hown, hlocks, hts, hA, hK, hZ⟩ := id X
  intro n
  induction n with
  | zero => exact (fun σ x1 x2 x3 H locs ls hF => by cases hF)
  | succ n ihn =>
    refine fun σ x1 x2 x3 H locs ls hF hP hD hS hl => ?_
    · have hF : mTinyForgeModel_arrayPart_b1 (mTinyForgeModel_arrayPart_L n) σ x1 x2 x3 = some σ' := hF
      unfold mTinyForgeModel_arrayPart_b1 at hF
      refine lv_aload_n hx hb d_TinyForgeModel_arrayPart_55 rfl (lv_at hl 0 rfl) ?_
      refine lv_ldc2 (v := 93) hx hb hown (hts _ mw_51) d_TinyForgeModel_arrayPart_56 ?_
      obtain ⟨u5, h5, hF⟩ := b1E hF
      refine callVV (As := [.long 93]) X (ct_TinyForgeModel_need l dC dI ad cA H.size h5) lk_TinyForgeModel_252 ⟨rfl, rfl, by decide, by decide⟩ 0 rfl rfl hP hD hS hl.1 rfl rfl (Nat.le_of_ble_eq_true rfl) d_TinyForgeModel_arrayPart_59 (fun H locs hP hD hS => ?_)
      refine lv_aload_n hx hb d_TinyForgeModel_arrayPart_62 rfl (lv_at hl 0 rfl) ?_
      refine lv_ldc2 (v := 59) hx hb hown (hts _ mw_52) d_TinyForgeModel_arrayPart_63 ?_
      obtain ⟨u6, h6, hF⟩ := b1E hF
      refine callVV (As := [.long 59]) X (ct_TinyForgeModel_need l dC dI ad cA H.size h6) lk_TinyForgeModel_252 ⟨rfl, rfl, by decide, by decide⟩ 0 rfl rfl hP hD hS hl.1 rfl rfl (Nat.le_of_ble_eq_true rfl) d_TinyForgeModel_arrayPart_66 (fun H locs hP hD hS => ?_)
      refine lv_aload_n hx hb d_TinyForgeModel_arrayPart_69 rfl (lv_at hl 0 rfl) ?_
      refine va_get (D := (dC, dI)) (ci := 11) (v := .int (u6.1 3)) hx hb hts i_TinyForgeModel hown hK hP 0 rfl rfl 4 (by decide) (hts _ mw_37) (fun _ h9 => h9) rfl d_TinyForgeModel_arrayPart_70 ?_
      refine lv_if_eq (tgt := 77) hx hb d_TinyForgeModel_arrayPart_73 (by decide) (fun c_7 => ?_) (fun c_7 => ?_)
      · have hF := ifp hF c_7
        refine lv_aload_n hx hb d_TinyForgeModel_arrayPart_77 rfl (lv_at hl 0 rfl) ?_
        refine lv_iload_n hx hb d_TinyForgeModel_arrayPart_78 rfl (lv_at hl 1 rfl) ?_
        refine lv_iconst (v := 0) hx hb d_TinyForgeModel_arrayPart_79 (by decide) ?_
        refine lv_iload_n hx hb d_TinyForgeModel_arrayPart_80 rfl (lv_at hl 2 rfl) ?_
        obtain ⟨r8, u8, h8, hF⟩ := b2E hF
        refine callVI (As := [.int x1, .int 0, .int x2]) X (ct_TinyForgeModel_makeGlobal l dC dI ad cA H.size h8) lk_TinyForgeModel_349 ⟨rfl, rfl, by decide, by decide⟩ 0 rfl rfl hP hD hS hl.1 rfl rfl (Nat.le_of_ble_eq_true rfl) d_TinyForgeModel_arrayPart_81 (fun H locs hP hD hS => ?_)
        refine lv_pop hx hb d_TinyForgeModel_arrayPart_84 rfl ?_
        refine lv_iload_n hx hb d_TinyForgeModel_arrayPart_85 rfl (lv_at hl 2 rfl) ?_
        refine lv_iconst (v := 1) hx hb d_TinyForgeModel_arrayPart_86 (by decide) ?_
        refine lv_icmp_lt (tgt := 96) hx hb d_TinyForgeModel_arrayPart_87 (by decide) (fun c_9 => ?_) (fun c_9 => ?_)
        · have hF := ifp hF c_9
          refine lv_aload_n hx hb d_TinyForgeModel_arrayPart_96 rfl (lv_at hl 0 rfl) ?_
          refine lv_iload_n hx hb d_TinyForgeModel_arrayPart_97 rfl (lv_at hl 3 rfl) ?_
          obtain ⟨u10, h10, hF⟩ := b1E hF
          refine callVV (As := [.int x3]) X (ct_TinyForgeModel_notName l dC dI ad cA H.size h10) lk_TinyForgeModel_249 ⟨rfl, rfl, by decide, by decide⟩ 0 rfl rfl hP hD hS hl.1 rfl rfl (Nat.le_of_ble_eq_true rfl) d_TinyForgeModel_arrayPart_98 (fun H locs hP hD hS => ?_)
          cases hF
          exact leafV X hP hD hS d_TinyForgeModel_arrayPart_101
        · have hF := ifn hF c_9
          refine lv_iload_n hx hb d_TinyForgeModel_arrayPart_90 rfl (lv_at hl 2 rfl) ?_
          refine lv_bipush (v := 16) hx hb d_TinyForgeModel_arrayPart_91 (by decide) ?_
          refine lv_icmp_le (tgt := 101) hx hb d_TinyForgeModel_arrayPart_93 (by decide) (fun c_11 => ?_) (fun c_11 => ?_)
          · have hF := ifp hF c_11
            cases hF
            exact leafV X hP hD hS d_TinyForgeModel_arrayPart_101
          · have hF := ifn hF c_11
            refine lv_aload_n hx hb d_TinyForgeModel_arrayPart_96 rfl (lv_at hl 0 rfl) ?_
            refine lv_iload_n hx hb d_TinyForgeModel_arrayPart_97 rfl (lv_at hl 3 rfl) ?_
            obtain ⟨u12, h12, hF⟩ := b1E hF
            refine callVV (As := [.int x3]) X (ct_TinyForgeModel_notName l dC dI ad cA H.size h12) lk_TinyForgeModel_249 ⟨rfl, rfl, by decide, by decide⟩ 0 rfl rfl hP hD hS hl.1 rfl rfl (Nat.le_of_ble_eq_true rfl) d_TinyForgeModel_arrayPart_98 (fun H locs hP hD hS => ?_)
            cases hF
            exact leafV X hP hD hS d_TinyForgeModel_arrayPart_101
      · have hF := ifn hF c_7
        cases hF
        exact leafV X hP hD hS d_TinyForgeModel_arrayPart_76
set_option maxHeartbeats 4000000 in
set_option maxRecDepth 100000 in
theorem ct_TinyForgeModel_arrayPart (l : Launch) (dC : Nat → ClassId) (dI : Nat → Nat → Nat) (ad : Nat → Nat) (cA : Nat → ClassId) (sz : Nat) {σ : St} {a1 : Int32} {σ' : St} (hF : mTinyForgeModel_arrayPart σ a1 = some σ') : MV l y_TinyForgeModel_arrayPart b_TinyForgeModel_arrayPart 4 none { frames := 3, cells := 0, slots := 0, locals := 72 } (dC, dI) (mtys cA) ad (mcw ad cA) [.ref (ad 0), .int a1] σ sz σ' := by
  refine startM (own := "TinyForgeModel") (Qc := fun A => QV (dC, dI) (mtys cA) (mcw ad cA) A σ') rfl rfl (Nat.le_of_ble_eq_true rfl) ?_
  intro p e s m below meth c A H locs ls X hP hD hS hl
  have hl : lv_has ls 4 [(0, .ref (ad 0)), (1, .int a1)] := hl
  obtain ⟨hx, hb, hr, hml, hown, hlocks, hts, hA, hK, hZ⟩ := id X
  unfold mTinyForgeModel_arrayPart at hF
  refine lv_aload_n hx hb d_TinyForgeModel_arrayPart_0 rfl (lv_at hl 0 rfl) ?_
  refine lv_dup hx hb d_TinyForgeModel_arrayPart_1 rfl ?_
  refine va_get (D := (dC, dI)) (ci := 11) (v := .int (σ.1 5)) hx hb hts i_TinyForgeModel hown hK hP 0 rfl rfl 6 (by decide) (hts _ mw_32) (fun _ h9 => h9) rfl d_TinyForgeModel_arrayPart_2 ?_
  refine lv_iconst (v := 1) hx hb d_TinyForgeModel_arrayPart_5 (by decide) ?_
  refine lv_iadd hx hb d_TinyForgeModel_arrayPart_6 ?_
  refine va_put (D := (dC, dI)) (ci := 11) (v := .int ((σ.1 5) + 1)) (ty := .int) hx hb hts i_TinyForgeModel t_TinyForgeModel t_TinyForgeModel_ok n_TinyForgeModel hown hK hP hD hS 0 rfl rfl 6 (by decide) (hts _ mw_32) (fun _ h9 => h9) rfl (by decide +kernel) rfl rfl (Nat.le_of_ble_eq_true rfl) d_TinyForgeModel_arrayPart_7 (fun H locs hP hD hS => ?_)
  have hP : va_P (dC, dI) vwCl (mcw ad cA (sI σ 5 ((σ.1 5) + 1))) H := hP
  have hD : va_D A (mcw ad cA (sI σ 5 ((σ.1 5) + 1))) := hD
  refine lv_aload_n hx hb d_TinyForgeModel_arrayPart_10 rfl (lv_at hl 0 rfl) ?_
  refine va_get (D := (dC, dI)) (ci := 11) (v := .ref (ad 5)) hx hb hts i_TinyForgeModel hown hK hP 0 rfl rfl 12 (by decide) (hts _ mw_8) (fun _ h9 => h9) rfl d_TinyForgeModel_arrayPart_11 ?_
  refine lv_aload_n hx hb d_TinyForgeModel_arrayPart_14 rfl (lv_at hl 0 rfl) ?_
  refine va_get (D := (dC, dI)) (ci := 11) (v := .int ((σ.1 5) + 1)) hx hb hts i_TinyForgeModel hown hK hP 0 rfl rfl 6 (by decide) (hts _ mw_32) (fun _ h9 => h9) rfl d_TinyForgeModel_arrayPart_15 ?_
  obtain ⟨g_1, hF⟩ := gdE hF
  refine va_iald (f := (σ.2.2.1 4)) hx hb hK hP 5 0 rfl rfl (inE g_1) d_TinyForgeModel_arrayPart_18 ?_
  refine lv_istore_n (lv' := [(2, .int ((σ.2.2.1 4) ((σ.1 5) + 1).toNatClampNeg)), (0, .ref (ad 0)), (1, .int a1)]) hx hb d_TinyForgeModel_arrayPart_19 rfl hl (by decide) rfl (fun ls hl => ?_)
  refine lv_aload_n hx hb d_TinyForgeModel_arrayPart_20 rfl (lv_at hl 1 rfl) ?_
  refine va_get (D := (dC, dI)) (ci := 11) (v := .int ((σ.1 5) + 1)) hx hb hts i_TinyForgeModel hown hK hP 0 rfl rfl 6 (by decide) (hts _ mw_32) (fun _ h9 => h9) rfl d_TinyForgeModel_arrayPart_21 ?_
  refine lv_istore_n (lv' := [(3, .int ((σ.1 5) + 1)), (2, .int ((σ.2.2.1 4) ((σ.1 5) + 1).toNatClampNeg)), (0, .ref (ad 0)), (1, .int a1)]) hx hb d_TinyForgeModel_arrayPart_24 rfl hl (by decide) rfl (fun ls hl => ?_)
  refine lv_aload_n hx hb d_TinyForgeModel_arrayPart_25 rfl (lv_at hl 2 rfl) ?_
  refine va_get (D := (dC, dI)) (ci := 11) (v := .ref (ad 2)) hx hb hts i_TinyForgeModel hown hK hP 0 rfl rfl 9 (by decide) (hts _ mw_4) (fun _ h9 => h9) rfl d_TinyForgeModel_arrayPart_26 ?_
  refine lv_aload_n hx hb d_TinyForgeModel_arrayPart_29 rfl (lv_at hl 2 rfl) ?_
  refine va_get (D := (dC, dI)) (ci := 11) (v := .int ((σ.1 5) + 1)) hx hb hts i_TinyForgeModel hown hK hP 0 rfl rfl 6 (by decide) (hts _ mw_32) (fun _ h9 => h9) rfl d_TinyForgeModel_arrayPart_30 ?_
  obtain ⟨g_2, hF⟩ := gdE hF
  refine va_iald (f := (σ.2.2.1 1)) hx hb hK hP 2 0 rfl rfl (inE g_2) d_TinyForgeModel_arrayPart_33 ?_
  refine lv_iconst (v := 2) hx hb d_TinyForgeModel_arrayPart_34 (by decide) ?_
  refine lv_icmp_eq (tgt := 45) hx hb d_TinyForgeModel_arrayPart_35 (by decide) (fun c_3 => ?_) (fun c_3 => ?_)
  · have hF := ifp hF c_3
    refine lv_aload_n hx hb d_TinyForgeModel_arrayPart_45 rfl (lv_at hl 2 rfl) ?_
    refine lv_dup hx hb d_TinyForgeModel_arrayPart_46 rfl ?_
    refine va_get (D := (dC, dI)) (ci := 11) (v := .int ((σ.1 5) + 1)) hx hb hts i_TinyForgeModel hown hK hP 0 rfl rfl 6 (by decide) (hts _ mw_32) (fun _ h9 => h9) rfl d_TinyForgeModel_arrayPart_47 ?_
    refine lv_iconst (v := 1) hx hb d_TinyForgeModel_arrayPart_50 (by decide) ?_
    refine lv_iadd hx hb d_TinyForgeModel_arrayPart_51 ?_
    refine va_put (D := (dC, dI)) (ci := 11) (v := .int (((σ.1 5) + 1) + 1)) (ty := .int) hx hb hts i_TinyForgeModel t_TinyForgeModel t_TinyForgeModel_ok n_TinyForgeModel hown hK hP hD hS 0 rfl rfl 6 (by decide) (hts _ mw_32) (fun _ h9 => h9) rfl (by decide +kernel) rfl rfl (Nat.le_of_ble_eq_true rfl) d_TinyForgeModel_arrayPart_52 (fun H locs hP hD hS => ?_)
    have hP : va_P (dC, dI) vwCl (mcw ad cA (sI (sI σ 5 ((σ.1 5) + 1)) 5 (((σ.1 5) + 1) + 1))) H := hP
    have hD : va_D A (mcw ad cA (sI (sI σ 5 ((σ.1 5) + 1)) 5 (((σ.1 5) + 1) + 1))) := hD
    exact (mTinyForgeModel_arrayPart_blk l dC dI ad cA X 2000) (sI (sI σ 5 ((σ.1 5) + 1)) 5 (((σ.1 5) + 1) + 1)) a1 ((σ.2.2.1 4) ((σ.1 5) + 1).toNatClampNeg) ((σ.1 5) + 1) H locs ls hF hP hD hS (lv_sub hl [2, 3, 1, 0] rfl)
  · have hF := ifn hF c_3
    refine lv_aload_n hx hb d_TinyForgeModel_arrayPart_38 rfl (lv_at hl 2 rfl) ?_
    obtain ⟨u4, h4, hF⟩ := b1E hF
    refine callVV (As := []) X (ct_TinyForgeModel_spoil l dC dI ad cA H.size h4) lk_TinyForgeModel_194 ⟨rfl, rfl, by decide, by decide⟩ 0 rfl rfl hP hD hS hl.1 rfl rfl (Nat.le_of_ble_eq_true rfl) d_TinyForgeModel_arrayPart_39 (fun H locs hP hD hS => ?_)
    refine lv_goto (tgt := 55) hx hb d_TinyForgeModel_arrayPart_42 (by decide) ?_
    exact (mTinyForgeModel_arrayPart_blk l dC dI ad cA X 2000) u4 a1 ((σ.2.2.1 4) ((σ.1 5) + 1).toNatClampNeg) ((σ.1 5) + 1) H locs ls hF hP hD hS (lv_sub hl [2, 3, 1, 0] rfl)
