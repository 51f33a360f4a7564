theorem d_Globals_find_0 : decode b_Globals_find 0 = .ok (.iconst 0, 1) := by decide +kernel
theorem d_Globals_find_1 : decode b_Globals_find 1 = .ok (.istore_n 3, 1) := by decide +kernel
theorem d_Globals_find_2 : decode b_Globals_find 2 = .ok (.iload_n 3, 1) := by decide +kernel
theorem d_Globals_find_3 : decode b_Globals_find 3 = .ok (.aload_n 0, 1) := by decide +kernel
theorem d_Globals_find_4 : decode b_Globals_find 4 = .ok (.getfield 26, 3) := by decide +kernel
theorem d_Globals_find_7 : decode b_Globals_find 7 = .ok (.if_icmp .ge 22, 3) := by decide +kernel
theorem d_Globals_find_10 : decode b_Globals_find 10 = .ok (.aload_n 0, 1) := by decide +kernel
theorem d_Globals_find_11 : decode b_Globals_find 11 = .ok (.getfield 9, 3) := by decide +kernel
theorem d_Globals_find_14 : decode b_Globals_find 14 = .ok (.iload_n 3, 1) := by decide +kernel
theorem d_Globals_find_15 : decode b_Globals_find 15 = .ok (.laload, 1) := by decide +kernel
theorem d_Globals_find_16 : decode b_Globals_find 16 = .ok (.lload_n 1, 1) := by decide +kernel
theorem d_Globals_find_17 : decode b_Globals_find 17 = .ok (.lcmp, 1) := by decide +kernel
theorem d_Globals_find_18 : decode b_Globals_find 18 = .ok (.ifCond .ne 5, 3) := by decide +kernel
theorem d_Globals_find_21 : decode b_Globals_find 21 = .ok (.iload_n 3, 1) := by decide +kernel
theorem d_Globals_find_22 : decode b_Globals_find 22 = .ok (.ireturn, 1) := by decide +kernel
theorem d_Globals_find_23 : decode b_Globals_find 23 = .ok (.iinc 3 1, 3) := by decide +kernel
theorem d_Globals_find_26 : decode b_Globals_find 26 = .ok (.goto (-24), 3) := by decide +kernel
theorem d_Globals_find_29 : decode b_Globals_find 29 = .ok (.iconst (-1), 1) := by decide +kernel
theorem d_Globals_find_30 : decode b_Globals_find 30 = .ok (.ireturn, 1) := by decide +kernel
def tGlobals_find_b1 (k : Nat → St → Int32 → Int64 → Option (Int32)) (σ : St) (x1 : Int32) (y1 : Int64) : Option (Int32) := if (σ.1 10) ≤ x1 then some (-1) else gd (inB x1 12) (if (lg_cmp ((σ.2.2.2 2) x1.toNatClampNeg) y1) = 0 then some x1 else k 1 σ (x1 + 1) y1)
def tGlobals_find_L : Nat → Nat → St → Int32 → Int64 → Option (Int32)
  | 0, _, _, _, _ => none
  | n + 1, lab, σ, x1, y1 => match lab with
    | 1 => tGlobals_find_b1 (tGlobals_find_L n) σ x1 y1
    | _ => none
def tGlobals_find (σ : St) (a1 : Int64) : Option (Int32) := tGlobals_find_L 2000 1 σ 0 a1
set_option maxHeartbeats 4000000 in
set_option maxRecDepth 100000 in
theorem tGlobals_find_blk {p : Program} {e : Env} {s : State} {m : MethodId} {args : Array Value} {below : List Frame} {meth : Method} {c : Code} {A : Nat → Prop} (l : Launch) (dC : Nat → ClassId) (dI : Nat → Nat → Nat) (ad : Nat → Nat) (cA : Nat → ClassId) {r : Int32} (X : Cx p s m args meth c b_Globals_find 4 (some .int) "TinyForge$Globals" (dC, dI) (ttys cA) ad A) : ∀ n : Nat, (∀ (σ : St) (x1 : Int32) (y1 : Int64) (H : Heap) (locs : List Loc) (ls : Array Slot), tGlobals_find_L n 1 σ x1 y1 = some r → va_P (dC, dI) vwCl (tcw ad cA σ) H → va_D A (tcw ad cA σ) → va_S A s.heap H locs → lv_has ls 4 [(0, .ref (ad 5)), (1, .long y1), (3, .int x1)] → W p l e { frames := 0, cells := 0, slots := 0, locals := 0 } s m args below meth c H locs 0 0 (MQ below (QI (dC, dI) (ttys cA) (tcw ad cA) A r σ) args s 0 0 A) (F0 m 2 ls [])) := by
  obtain ⟨hx, hb, hr, hml, hown, hlocks, hts, hA, hK, hZ⟩ := id X
  intro n
  induction n with
  | zero => exact (fun σ x1 y1 H locs ls hF => by cases hF)
  | succ n ihn =>
    refine fun σ x1 y1 H locs ls hF hP hD hS hl => ?_
    · have hF : tGlobals_find_b1 (tGlobals_find_L n) σ x1 y1 = some r := hF
      unfold tGlobals_find_b1 at hF
      refine lv_iload_n hx hb d_Globals_find_2 rfl (lv_at hl 2 rfl) ?_
      refine lv_aload_n hx hb d_Globals_find_3 rfl (lv_at hl 0 rfl) ?_
      refine va_get (D := (dC, dI)) (ci := 5) (v := .int (σ.1 10)) hx hb hts i_Globals hown hK hP 5 rfl rfl 6 (by decide) (hts _ w_2120be7327) (fun _ h9 => h9) rfl d_Globals_find_4 ?_
      refine lv_icmp_ge (tgt := 29) hx hb d_Globals_find_7 (by decide) (fun c_1 => ?_) (fun c_1 => ?_)
      · have hF := ifp hF c_1
        refine lv_iconst (v := (-1)) hx hb d_Globals_find_29 (by decide) ?_
        cases hF
        exact leafI X hP hD hS d_Globals_find_30
      · have hF := ifn hF c_1
        refine lv_aload_n hx hb d_Globals_find_10 rfl (lv_at hl 0 rfl) ?_
        refine va_get (D := (dC, dI)) (ci := 5) (v := .ref (ad 17)) hx hb hts i_Globals hown hK hP 5 rfl rfl 2 (by decide) (hts _ w_57d4b2c74d) (fun _ h9 => h9) rfl d_Globals_find_11 ?_
        refine lv_iload_n hx hb d_Globals_find_14 rfl (lv_at hl 2 rfl) ?_
        obtain ⟨g_2, hF⟩ := gdE hF
        refine va_lald (f := (σ.2.2.2 2)) hx hb hK hP 17 1 rfl rfl (inE g_2) d_Globals_find_15 ?_
        refine lv_lload_n hx hb d_Globals_find_16 rfl (lv_at hl 1 rfl) ?_
        refine W.lcmp hx hb d_Globals_find_17 ?_
        refine lv_if_ne (tgt := 23) hx hb d_Globals_find_18 (by decide) (fun c_3 => ?_) (fun c_3 => ?_)
        · have hF := ifn hF c_3
          refine lv_iinc (v := (x1 + 1)) (lv' := [(3, .int (x1 + 1)), (0, .ref (ad 5)), (1, .long y1)]) hx hb d_Globals_find_23 hl (k := 2) rfl rfl (by decide) rfl (fun ls hl => ?_)
          refine lv_goto (tgt := 2) hx hb d_Globals_find_26 (by decide) ?_
          exact ihn σ (x1 + 1) y1 H locs ls hF hP hD hS (lv_sub hl [1, 2, 0] rfl)
        · have hF := ifp hF c_3
          refine lv_iload_n hx hb d_Globals_find_21 rfl (lv_at hl 2 rfl) ?_
          cases hF
          exact leafI X hP hD hS d_Globals_find_22
set_option maxHeartbeats 4000000 in
set_option maxRecDepth 100000 in
theorem ct_Globals_find (l : Launch) (dC : Nat → ClassId) (dI : Nat → Nat → Nat) (ad : Nat → Nat) (cA : Nat → ClassId) (sz : Nat) {σ : St} {a1 : Int64} {r : Int32} (hF : tGlobals_find σ a1 = some r) : MI l y_Globals_find b_Globals_find 4 (some .int) { frames := 0, cells := 0, slots := 0, locals := 0 } (dC, dI) (ttys cA) ad (tcw ad cA) [.ref (ad 5), .long a1] σ sz r σ := by
  refine startM (own := "TinyForge$Globals") (Qc := fun A => QI (dC, dI) (ttys cA) (tcw ad cA) A r σ) rfl rfl (Nat.le_of_ble_eq_true rfl) ?_
  intro p e s m below meth c A H locs ls X hP hD hS hl
  have hl : lv_has ls 4 [(0, .ref (ad 5)), (1, .long a1)] := hl
  obtain ⟨hx, hb, hr, hml, hown, hlocks, hts, hA, hK, hZ⟩ := id X
  unfold tGlobals_find at hF
  refine lv_iconst (v := 0) hx hb d_Globals_find_0 (by decide) ?_
  refine lv_istore_n (lv' := [(3, .int 0), (0, .ref (ad 5)), (1, .long a1)]) hx hb d_Globals_find_1 rfl hl (by decide) rfl (fun ls hl => ?_)
  exact (tGlobals_find_blk l dC dI ad cA X 2000) σ 0 a1 H locs ls hF hP hD hS (lv_sub hl [1, 2, 0] rfl)
theorem d_Globals_joinMain_0 : decode b_Globals_joinMain 0 = .ok (.aload_n 0, 1) := by decide +kernel
theorem d_Globals_joinMain_1 : decode b_Globals_joinMain 1 = .ok (.ldc 97, 2) := by decide +kernel
theorem d_Globals_joinMain_3 : decode b_Globals_joinMain 3 = .ok (.invokestatic 99, 3) := by decide +kernel
theorem d_Globals_joinMain_6 : decode b_Globals_joinMain 6 = .ok (.invokevirtual 70, 3) := by decide +kernel
theorem d_Globals_joinMain_9 : decode b_Globals_joinMain 9 = .ok (.istore_n 2, 1) := by decide +kernel
theorem d_Globals_joinMain_10 : decode b_Globals_joinMain 10 = .ok (.iload_n 2, 1) := by decide +kernel
theorem d_Globals_joinMain_11 : decode b_Globals_joinMain 11 = .ok (.ifCond .lt 34, 3) := by decide +kernel
theorem d_Globals_joinMain_14 : decode b_Globals_joinMain 14 = .ok (.aload_n 0, 1) := by decide +kernel
theorem d_Globals_joinMain_15 : decode b_Globals_joinMain 15 = .ok (.getfield 15, 3) := by decide +kernel
theorem d_Globals_joinMain_18 : decode b_Globals_joinMain 18 = .ok (.iload_n 2, 1) := by decide +kernel
theorem d_Globals_joinMain_19 : decode b_Globals_joinMain 19 = .ok (.baload, 1) := by decide +kernel
theorem d_Globals_joinMain_20 : decode b_Globals_joinMain 20 = .ok (.ifCond .eq 25, 3) := by decide +kernel
theorem d_Globals_joinMain_23 : decode b_Globals_joinMain 23 = .ok (.aload_n 0, 1) := by decide +kernel
theorem d_Globals_joinMain_24 : decode b_Globals_joinMain 24 = .ok (.getfield 23, 3) := by decide +kernel
theorem d_Globals_joinMain_27 : decode b_Globals_joinMain 27 = .ok (.iload_n 2, 1) := by decide +kernel
theorem d_Globals_joinMain_28 : decode b_Globals_joinMain 28 = .ok (.iaload, 1) := by decide +kernel
theorem d_Globals_joinMain_29 : decode b_Globals_joinMain 29 = .ok (.ifCond .ne 16, 3) := by decide +kernel
theorem d_Globals_joinMain_32 : decode b_Globals_joinMain 32 = .ok (.aload_n 1, 1) := by decide +kernel
theorem d_Globals_joinMain_33 : decode b_Globals_joinMain 33 = .ok (.aload_n 0, 1) := by decide +kernel
theorem d_Globals_joinMain_34 : decode b_Globals_joinMain 34 = .ok (.getfield 19, 3) := by decide +kernel
theorem d_Globals_joinMain_37 : decode b_Globals_joinMain 37 = .ok (.iload_n 2, 1) := by decide +kernel
theorem d_Globals_joinMain_38 : decode b_Globals_joinMain 38 = .ok (.iaload, 1) := by decide +kernel
theorem d_Globals_joinMain_39 : decode b_Globals_joinMain 39 = .ok (.putfield 105, 3) := by decide +kernel
theorem d_Globals_joinMain_42 : decode b_Globals_joinMain 42 = .ok (.goto 20, 3) := by decide +kernel
theorem d_Globals_joinMain_45 : decode b_Globals_joinMain 45 = .ok (.aload_n 0, 1) := by decide +kernel
theorem d_Globals_joinMain_46 : decode b_Globals_joinMain 46 = .ok (.getfield 40, 3) := by decide +kernel
theorem d_Globals_joinMain_49 : decode b_Globals_joinMain 49 = .ok (.aload_n 0, 1) := by decide +kernel
theorem d_Globals_joinMain_50 : decode b_Globals_joinMain 50 = .ok (.getfield 36, 3) := by decide +kernel
theorem d_Globals_joinMain_53 : decode b_Globals_joinMain 53 = .ok (.getfield 108, 3) := by decide +kernel
theorem d_Globals_joinMain_56 : decode b_Globals_joinMain 56 = .ok (.getfield 112, 3) := by decide +kernel
theorem d_Globals_joinMain_59 : decode b_Globals_joinMain 59 = .ok (.invokevirtual 56, 3) := by decide +kernel
theorem d_Globals_joinMain_62 : decode b_Globals_joinMain 62 = .ok (.return_, 1) := by decide +kernel
def tGlobals_joinMain_b1 (k : Nat → St → Option (St)) (σ : St) : Option (St) := b1 (tRefusal_blameName σ (σ.1 0)) (fun u9 => some u9)
def tGlobals_joinMain_L : Nat → Nat → St → Option (St)
  | 0, _, _ => none
  | n + 1, lab, σ => match lab with
    | 1 => tGlobals_joinMain_b1 (tGlobals_joinMain_L n) σ 
    | _ => none
def tGlobals_joinMain (σ : St) : Option (St) := b1 (tText_packed σ 8) (fun r1 => b1 (tGlobals_find σ r1) (fun r2 => if r2 < 0 then tGlobals_joinMain_L 2000 1 σ  else gd (inB r2 12) (if ((σ.2.2.1 3) r2.toNatClampNeg) = 0 then tGlobals_joinMain_L 2000 1 σ  else gd (inB r2 12) (if ((σ.2.2.1 5) r2.toNatClampNeg) = 0 then gd (inB r2 12) (some (sI σ 14 ((σ.2.2.1 4) r2.toNatClampNeg))) else tGlobals_joinMain_L 2000 1 σ ))))
set_option maxHeartbeats 4000000 in
set_option maxRecDepth 100000 in
theorem tGlobals_joinMain_blk {p : Program} {e : Env} {s : State} {m : MethodId} {args : Array Value} {below : List Frame} {meth : Method} {c : Code} {A : Nat → Prop} (l : Launch) (dC : Nat → ClassId) (dI : Nat → Nat → Nat) (ad : Nat → Nat) (cA : Nat → ClassId) {σ' : St} (X : Cx p s m args meth c b_Globals_joinMain 3 none "TinyForge$Globals" (dC, dI) (ttys cA) ad A) : ∀ n : Nat, (∀ (σ : St) (H : Heap) (locs : List Loc) (ls : Array Slot), tGlobals_joinMain_L n 1 σ  = some σ' → va_P (dC, dI) vwCl (tcw ad cA σ) H → va_D A (tcw ad cA σ) → va_S A s.heap H locs → lv_has ls 3 [(0, .ref (ad 5))] → W p l e { frames := 5, cells := 0, slots := 0, locals := 108 } s m args below meth c H locs 0 0 (MQ below (QV (dC, dI) (ttys cA) (tcw ad cA) A σ') args s 0 0 A) (F0 m 45 ls [])) := by
  obtain ⟨hx, hb, hr, hml, hown, hlocks, hts, hA, hK, hZ⟩ := id X
  intro n
  induction n with
  | zero => exact (fun σ  H locs ls hF => by cases hF)
  | succ n ihn =>
    refine fun σ  H locs ls hF hP hD hS hl => ?_
    · have hF : tGlobals_joinMain_b1 (tGlobals_joinMain_L n) σ  = some σ' := hF
      unfold tGlobals_joinMain_b1 at hF
      refine lv_aload_n hx hb d_Globals_joinMain_45 rfl (lv_at hl 0 rfl) ?_
      refine va_get (D := (dC, dI)) (ci := 5) (v := .ref (ad 1)) hx hb hts i_Globals hown hK hP 5 rfl rfl 1 (by decide) (hts _ w_41613a3bcb) (fun _ h9 => h9) rfl d_Globals_joinMain_46 ?_
      refine lv_aload_n hx hb d_Globals_joinMain_49 rfl (lv_at hl 0 rfl) ?_
      refine va_get (D := (dC, dI)) (ci := 5) (v := .ref (ad 2)) hx hb hts i_Globals hown hK hP 5 rfl rfl 0 (by decide) (hts _ w_029488eab2) (fun _ h9 => h9) rfl d_Globals_joinMain_50 ?_
      refine va_get (D := (dC, dI)) (ci := 2) (v := .ref (ad 0)) hx hb hts i_Tokens hown hK hP 2 rfl rfl 0 (by decide) (hts _ w_f4a9e227ff) (fun _ h9 => h9) rfl d_Globals_joinMain_53 ?_
      refine va_get (D := (dC, dI)) (ci := 0) (v := .int (σ.1 0)) hx hb hts i_Text hown hK hP 0 rfl rfl 1 (by decide) (hts _ w_5ff7804b19) (fun _ h9 => h9) rfl d_Globals_joinMain_56 ?_
      obtain ⟨u9, h9, hF⟩ := b1E hF
      refine callVV (As := [.int (σ.1 0)]) X (ct_Refusal_blameName l dC dI ad cA H.size h9) lk_Globals_56 ⟨rfl, rfl, by decide, by decide⟩ 1 rfl rfl hP hD hS hl.1 rfl rfl (Nat.le_of_ble_eq_true rfl) d_Globals_joinMain_59 (fun H locs hP hD hS => ?_)
      cases hF
      exact leafV X hP hD hS d_Globals_joinMain_62
set_option maxHeartbeats 4000000 in
set_option maxRecDepth 100000 in
theorem ct_Globals_joinMain (l : Launch) (dC : Nat → ClassId) (dI : Nat → Nat → Nat) (ad : Nat → Nat) (cA : Nat → ClassId) (sz : Nat) {σ : St} {σ' : St} (hF : tGlobals_joinMain σ = some σ') : MV l y_Globals_joinMain b_Globals_joinMain 3 none { frames := 5, cells := 0, slots := 0, locals := 108 } (dC, dI) (ttys cA) ad (tcw ad cA) [.ref (ad 5), .ref (ad 6)] σ sz σ' := by
  refine startM (own := "TinyForge$Globals") (Qc := fun A => QV (dC, dI) (ttys cA) (tcw ad cA) A σ') rfl rfl (Nat.le_of_ble_eq_true rfl) ?_
  intro p e s m below meth c A H locs ls X hP hD hS hl
  have hl : lv_has ls 3 [(0, .ref (ad 5)), (1, .ref (ad 6))] := hl
  obtain ⟨hx, hb, hr, hml, hown, hlocks, hts, hA, hK, hZ⟩ := id X
  unfold tGlobals_joinMain at hF
  refine lv_aload_n hx hb d_Globals_joinMain_0 rfl (lv_at hl 0 rfl) ?_
  refine va_ldcS (own := "TinyForge$Globals") (index := 97) (tx := "main") (q := ad (100 + 8)) hx hb hown (hZ.2.1 8 ("TinyForge$Globals", 97, "main", [109, 97, 105, 110]) rfl) d_Globals_joinMain_1 ?_
  obtain ⟨r1, h1, hF⟩ := b1E hF
  refine callSJ (As := [.ref (ad (100 + 8))]) X (ct_Text_packed l dC dI ad cA H.size h1) lk_Globals_99 ⟨rfl, rfl, by decide, by decide⟩ hP hD hS hl.1 rfl rfl (Nat.le_of_ble_eq_true rfl) d_Globals_joinMain_3 (fun H locs hP hD hS => ?_)
  obtain ⟨r2, h2, hF⟩ := b1E hF
  refine callVI (As := [.long r1]) X (ct_Globals_find l dC dI ad cA H.size h2) lk_Globals_70 ⟨rfl, rfl, by decide, by decide⟩ 5 rfl rfl hP hD hS hl.1 rfl rfl (Nat.le_of_ble_eq_true rfl) d_Globals_joinMain_6 (fun H locs hP hD hS => ?_)
  refine lv_istore_n (lv' := [(2, .int r2), (0, .ref (ad 5)), (1, .ref (ad 6))]) hx hb d_Globals_joinMain_9 rfl hl (by decide) rfl (fun ls hl => ?_)
  refine lv_iload_n hx hb d_Globals_joinMain_10 rfl (lv_at hl 0 rfl) ?_
  refine lv_if_lt (tgt := 45) hx hb d_Globals_joinMain_11 (by decide) (fun c_3 => ?_) (fun c_3 => ?_)
  · have hF := ifp hF c_3
    exact (tGlobals_joinMain_blk l dC dI ad cA X 2000) σ  H locs ls hF hP hD hS (lv_sub hl [1] rfl)
  · have hF := ifn hF c_3
    refine lv_aload_n hx hb d_Globals_joinMain_14 rfl (lv_at hl 1 rfl) ?_
    refine va_get (D := (dC, dI)) (ci := 5) (v := .ref (ad 18)) hx hb hts i_Globals hown hK hP 5 rfl rfl 3 (by decide) (hts _ w_47b456232b) (fun _ h9 => h9) rfl d_Globals_joinMain_15 ?_
    refine lv_iload_n hx hb d_Globals_joinMain_18 rfl (lv_at hl 0 rfl) ?_
    obtain ⟨g_4, hF⟩ := gdE hF
    refine va_zald (f := (σ.2.2.1 3)) hx hb hK hP 18 3 rfl rfl (inE g_4) d_Globals_joinMain_19 ?_
    refine lv_if_eq (tgt := 45) hx hb d_Globals_joinMain_20 (by decide) (fun c_5 => ?_) (fun c_5 => ?_)
    · have hF := ifp hF c_5
      exact (tGlobals_joinMain_blk l dC dI ad cA X 2000) σ  H locs ls hF hP hD hS (lv_sub hl [1] rfl)
    · have hF := ifn hF c_5
      refine lv_aload_n hx hb d_Globals_joinMain_23 rfl (lv_at hl 1 rfl) ?_
      refine va_get (D := (dC, dI)) (ci := 5) (v := .ref (ad 20)) hx hb hts i_Globals hown hK hP 5 rfl rfl 5 (by decide) (hts _ w_9c141b8f60) (fun _ h9 => h9) rfl d_Globals_joinMain_24 ?_
      refine lv_iload_n hx hb d_Globals_joinMain_27 rfl (lv_at hl 0 rfl) ?_
      obtain ⟨g_6, hF⟩ := gdE hF
      refine va_iald (f := (σ.2.2.1 5)) hx hb hK hP 20 0 rfl rfl (inE g_6) d_Globals_joinMain_28 ?_
      refine lv_if_ne (tgt := 45) hx hb d_Globals_joinMain_29 (by decide) (fun c_7 => ?_) (fun c_7 => ?_)
      · have hF := ifn hF c_7
        exact (tGlobals_joinMain_blk l dC dI ad cA X 2000) σ  H locs ls hF hP hD hS (lv_sub hl [1] rfl)
      · have hF := ifp hF c_7
        refine lv_aload_n hx hb d_Globals_joinMain_32 rfl (lv_at hl 2 rfl) ?_
        refine lv_aload_n hx hb d_Globals_joinMain_33 rfl (lv_at hl 1 rfl) ?_
        refine va_get (D := (dC, dI)) (ci := 5) (v := .ref (ad 19)) hx hb hts i_Globals hown hK hP 5 rfl rfl 4 (by decide) (hts _ w_b3be3f9e23) (fun _ h9 => h9) rfl d_Globals_joinMain_34 ?_
        refine lv_iload_n hx hb d_Globals_joinMain_37 rfl (lv_at hl 0 rfl) ?_
        obtain ⟨g_8, hF⟩ := gdE hF
        refine va_iald (f := (σ.2.2.1 4)) hx hb hK hP 19 0 rfl rfl (inE g_8) d_Globals_joinMain_38 ?_
        refine va_put (D := (dC, dI)) (ci := 6) (v := .int ((σ.2.2.1 4) r2.toNatClampNeg)) (ty := .int) hx hb hts i_Program t_Program t_Program_ok n_Program hown hK hP hD hS 6 rfl rfl 4 (by decide) (hts _ w_fa77712f32) (fun _ h9 => h9) rfl (by decide +kernel) rfl rfl (Nat.le_of_ble_eq_true rfl) d_Globals_joinMain_39 (fun H locs hP hD hS => ?_)
        have hP : va_P (dC, dI) vwCl (tcw ad cA (sI σ 14 ((σ.2.2.1 4) r2.toNatClampNeg))) H := hP
        have hD : va_D A (tcw ad cA (sI σ 14 ((σ.2.2.1 4) r2.toNatClampNeg))) := hD
        refine lv_goto (tgt := 62) hx hb d_Globals_joinMain_42 (by decide) ?_
        cases hF
        exact leafV X hP hD hS d_Globals_joinMain_62
theorem d_Globals_joinOne_0 : decode b_Globals_joinOne 0 = .ok (.aload_n 1, 1) := by decide +kernel
theorem d_Globals_joinOne_1 : decode b_Globals_joinOne 1 = .ok (.getfield 93, 3) := by decide +kernel
theorem d_Globals_joinOne_4 : decode b_Globals_joinOne 4 = .ok (.iload_n 2, 1) := by decide +kernel
theorem d_Globals_joinOne_5 : decode b_Globals_joinOne 5 = .ok (.iaload, 1) := by decide +kernel
theorem d_Globals_joinOne_6 : decode b_Globals_joinOne 6 = .ok (.istore 4, 2) := by decide +kernel
theorem d_Globals_joinOne_8 : decode b_Globals_joinOne 8 = .ok (.aload_n 0, 1) := by decide +kernel
theorem d_Globals_joinOne_9 : decode b_Globals_joinOne 9 = .ok (.aload_n 0, 1) := by decide +kernel
theorem d_Globals_joinOne_10 : decode b_Globals_joinOne 10 = .ok (.getfield 36, 3) := by decide +kernel
theorem d_Globals_joinOne_13 : decode b_Globals_joinOne 13 = .ok (.iload 4, 2) := by decide +kernel
theorem d_Globals_joinOne_15 : decode b_Globals_joinOne 15 = .ok (.invokevirtual 44, 3) := by decide +kernel
theorem d_Globals_joinOne_18 : decode b_Globals_joinOne 18 = .ok (.invokevirtual 70, 3) := by decide +kernel
theorem d_Globals_joinOne_21 : decode b_Globals_joinOne 21 = .ok (.istore 5, 2) := by decide +kernel
theorem d_Globals_joinOne_23 : decode b_Globals_joinOne 23 = .ok (.iload 5, 2) := by decide +kernel
theorem d_Globals_joinOne_25 : decode b_Globals_joinOne 25 = .ok (.ifCond .lt 34, 3) := by decide +kernel
theorem d_Globals_joinOne_28 : decode b_Globals_joinOne 28 = .ok (.aload_n 0, 1) := by decide +kernel
theorem d_Globals_joinOne_29 : decode b_Globals_joinOne 29 = .ok (.getfield 15, 3) := by decide +kernel
theorem d_Globals_joinOne_32 : decode b_Globals_joinOne 32 = .ok (.iload 5, 2) := by decide +kernel
theorem d_Globals_joinOne_34 : decode b_Globals_joinOne 34 = .ok (.baload, 1) := by decide +kernel
theorem d_Globals_joinOne_35 : decode b_Globals_joinOne 35 = .ok (.iload_n 3, 1) := by decide +kernel
theorem d_Globals_joinOne_36 : decode b_Globals_joinOne 36 = .ok (.if_icmp .ne 23, 3) := by decide +kernel
theorem d_Globals_joinOne_39 : decode b_Globals_joinOne 39 = .ok (.iload_n 3, 1) := by decide +kernel
theorem d_Globals_joinOne_40 : decode b_Globals_joinOne 40 = .ok (.ifCond .eq 36, 3) := by decide +kernel
theorem d_Globals_joinOne_43 : decode b_Globals_joinOne 43 = .ok (.aload_n 0, 1) := by decide +kernel
theorem d_Globals_joinOne_44 : decode b_Globals_joinOne 44 = .ok (.getfield 23, 3) := by decide +kernel
theorem d_Globals_joinOne_47 : decode b_Globals_joinOne 47 = .ok (.iload 5, 2) := by decide +kernel
theorem d_Globals_joinOne_49 : decode b_Globals_joinOne 49 = .ok (.iaload, 1) := by decide +kernel
theorem d_Globals_joinOne_50 : decode b_Globals_joinOne 50 = .ok (.aload_n 1, 1) := by decide +kernel
theorem d_Globals_joinOne_51 : decode b_Globals_joinOne 51 = .ok (.getfield 96, 3) := by decide +kernel
theorem d_Globals_joinOne_54 : decode b_Globals_joinOne 54 = .ok (.iload_n 2, 1) := by decide +kernel
theorem d_Globals_joinOne_55 : decode b_Globals_joinOne 55 = .ok (.iaload, 1) := by decide +kernel
theorem d_Globals_joinOne_56 : decode b_Globals_joinOne 56 = .ok (.if_icmp .eq 20, 3) := by decide +kernel
theorem d_Globals_joinOne_59 : decode b_Globals_joinOne 59 = .ok (.aload_n 0, 1) := by decide +kernel
theorem d_Globals_joinOne_60 : decode b_Globals_joinOne 60 = .ok (.getfield 40, 3) := by decide +kernel
theorem d_Globals_joinOne_63 : decode b_Globals_joinOne 63 = .ok (.aload_n 0, 1) := by decide +kernel
theorem d_Globals_joinOne_64 : decode b_Globals_joinOne 64 = .ok (.getfield 36, 3) := by decide +kernel
theorem d_Globals_joinOne_67 : decode b_Globals_joinOne 67 = .ok (.iload 4, 2) := by decide +kernel
theorem d_Globals_joinOne_69 : decode b_Globals_joinOne 69 = .ok (.invokevirtual 52, 3) := by decide +kernel
theorem d_Globals_joinOne_72 : decode b_Globals_joinOne 72 = .ok (.invokevirtual 56, 3) := by decide +kernel
theorem d_Globals_joinOne_75 : decode b_Globals_joinOne 75 = .ok (.return_, 1) := by decide +kernel
theorem d_Globals_joinOne_76 : decode b_Globals_joinOne 76 = .ok (.aload_n 1, 1) := by decide +kernel
theorem d_Globals_joinOne_77 : decode b_Globals_joinOne 77 = .ok (.getfield 93, 3) := by decide +kernel
theorem d_Globals_joinOne_80 : decode b_Globals_joinOne 80 = .ok (.iload_n 2, 1) := by decide +kernel
theorem d_Globals_joinOne_81 : decode b_Globals_joinOne 81 = .ok (.aload_n 0, 1) := by decide +kernel
theorem d_Globals_joinOne_82 : decode b_Globals_joinOne 82 = .ok (.getfield 19, 3) := by decide +kernel
theorem d_Globals_joinOne_85 : decode b_Globals_joinOne 85 = .ok (.iload 5, 2) := by decide +kernel
theorem d_Globals_joinOne_87 : decode b_Globals_joinOne 87 = .ok (.iaload, 1) := by decide +kernel
theorem d_Globals_joinOne_88 : decode b_Globals_joinOne 88 = .ok (.iastore, 1) := by decide +kernel
theorem d_Globals_joinOne_89 : decode b_Globals_joinOne 89 = .ok (.aload_n 1, 1) := by decide +kernel
theorem d_Globals_joinOne_90 : decode b_Globals_joinOne 90 = .ok (.getfield 96, 3) := by decide +kernel
theorem d_Globals_joinOne_93 : decode b_Globals_joinOne 93 = .ok (.iload_n 2, 1) := by decide +kernel
theorem d_Globals_joinOne_94 : decode b_Globals_joinOne 94 = .ok (.aload_n 0, 1) := by decide +kernel
theorem d_Globals_joinOne_95 : decode b_Globals_joinOne 95 = .ok (.getfield 23, 3) := by decide +kernel
theorem d_Globals_joinOne_98 : decode b_Globals_joinOne 98 = .ok (.iload 5, 2) := by decide +kernel
theorem d_Globals_joinOne_100 : decode b_Globals_joinOne 100 = .ok (.iaload, 1) := by decide +kernel
theorem d_Globals_joinOne_101 : decode b_Globals_joinOne 101 = .ok (.iastore, 1) := by decide +kernel
theorem d_Globals_joinOne_102 : decode b_Globals_joinOne 102 = .ok (.return_, 1) := by decide +kernel
def tGlobals_joinOne_b1 (k : Nat → St → Int32 → Int32 → Option (St)) (σ : St) (x1 : Int32) (x2 : Int32) : Option (St) := b1 (tTokens_placeOf σ x1) (fun r11 => b1 (tRefusal_blameName σ r11) (fun u12 => some u12))
def tGlobals_joinOne_b2 (k : Nat → St → Int32 → Int32 → Option (St)) (σ : St) (x1 : Int32) (x2 : Int32) : Option (St) := gd (inB x2 12) (gd (inB x1 440) (gd (inB x2 12) (gd (inB x1 440) (some (sA (sA σ 7 (upd (σ.2.2.1 7) x1.toNatClampNeg ((σ.2.2.1 4) x2.toNatClampNeg))) 8 (upd (σ.2.2.1 8) x1.toNatClampNeg ((σ.2.2.1 5) x2.toNatClampNeg)))))))
def tGlobals_joinOne_L : Nat → Nat → St → Int32 → Int32 → Option (St)
  | 0, _, _, _, _ => none
  | n + 1, lab, σ, x1, x2 => match lab with
    | 1 => tGlobals_joinOne_b1 (tGlobals_joinOne_L n) σ x1 x2
    | 2 => tGlobals_joinOne_b2 (tGlobals_joinOne_L n) σ x1 x2
    | _ => none
def tGlobals_joinOne (σ : St) (a2 : Int32) (a3 : Int32) : Option (St) := gd (inB a2 440) (b1 (tTokens_valueOf σ ((σ.2.2.1 7) a2.toNatClampNeg)) (fun r2 => b1 (tGlobals_find σ r2) (fun r3 => if r3 < 0 then tGlobals_joinOne_L 2000 1 σ ((σ.2.2.1 7) a2.toNatClampNeg) 0 else gd (inB r3 12) (if ((σ.2.2.1 3) r3.toNatClampNeg) = a3 then if a3 = 0 then tGlobals_joinOne_L 2000 2 σ a2 r3 else gd (inB r3 12) (gd (inB a2 440) (if ((σ.2.2.1 5) r3.toNatClampNeg) = ((σ.2.2.1 8) a2.toNatClampNeg) then tGlobals_joinOne_L 2000 2 σ a2 r3 else tGlobals_joinOne_L 2000 1 σ ((σ.2.2.1 7) a2.toNatClampNeg) 0)) else tGlobals_joinOne_L 2000 1 σ ((σ.2.2.1 7) a2.toNatClampNeg) 0))))
set_option maxHeartbeats 4000000 in
set_option maxRecDepth 100000 in
theorem tGlobals_joinOne_blk {p : Program} {e : Env} {s : State} {m : MethodId} {args : Array Value} {below : List Frame} {meth : Method} {c : Code} {A : Nat → Prop} (l : Launch) (dC : Nat → ClassId) (dI : Nat → Nat → Nat) (ad : Nat → Nat) (cA : Nat → ClassId) {σ' : St} (X : Cx p s m args meth c b_Globals_joinOne 6 none "TinyForge$Globals" (dC, dI) (ttys cA) ad A) : ∀ n : Nat, (∀ (σ : St) (x1 : Int32) (x2 : Int32) (H : Heap) (locs : List Loc) (ls : Array Slot), tGlobals_joinOne_L n 1 σ x1 x2 = some σ' → va_P (dC, dI) vwCl (tcw ad cA σ) H → va_D A (tcw ad cA σ) → va_S A s.heap H locs → lv_has ls 6 [(0, .ref (ad 5)), (4, .int x1)] → W p l e { frames := 1, cells := 0, slots := 0, locals := 23 } s m args below meth c H locs 0 0 (MQ below (QV (dC, dI) (ttys cA) (tcw ad cA) A σ') args s 0 0 A) (F0 m 59 ls [])) ∧ (∀ (σ : St) (x1 : Int32) (x2 : Int32) (H : Heap) (locs : List Loc) (ls : Array Slot), tGlobals_joinOne_L n 2 σ x1 x2 = some σ' → va_P (dC, dI) vwCl (tcw ad cA σ) H → va_D A (tcw ad cA σ) → va_S A s.heap H locs → lv_has ls 6 [(0, .ref (ad 5)), (1, .ref (ad 6)), (2, .int x1), (5, .int x2)] → W p l e { frames := 1, cells := 0, slots := 0, locals := 23 } s m args below meth c H locs 0 0 (MQ below (QV (dC, dI) (ttys cA) (tcw ad cA) A σ') args s 0 0 A) (F0 m 76 ls [])) := by
  obtain ⟨hx, hb, hr, hml, hown, hlocks, hts, hA, hK, hZ⟩ := id X
  intro n
  induction n with
  | zero => exact ⟨(fun σ x1 x2 H locs ls hF => by cases hF), (fun σ x1 x2 H locs ls hF => by cases hF)⟩
  | succ n ihn =>
    refine ⟨fun σ x1 x2 H locs ls hF hP hD hS hl => ?_, fun σ x1 x2 H locs ls hF hP hD hS hl => ?_⟩
    · have hF : tGlobals_joinOne_b1 (tGlobals_joinOne_L n) σ x1 x2 = some σ' := hF
      unfold tGlobals_joinOne_b1 at hF
      refine lv_aload_n hx hb d_Globals_joinOne_59 rfl (lv_at hl 0 rfl) ?_
      refine va_get (D := (dC, dI)) (ci := 5) (v := .ref (ad 1)) hx hb hts i_Globals hown hK hP 5 rfl rfl 1 (by decide) (hts _ w_41613a3bcb) (fun _ h9 => h9) rfl d_Globals_joinOne_60 ?_
      refine lv_aload_n hx hb d_Globals_joinOne_63 rfl (lv_at hl 0 rfl) ?_
      refine va_get (D := (dC, dI)) (ci := 5) (v := .ref (ad 2)) hx hb hts i_Globals hown hK hP 5 rfl rfl 0 (by decide) (hts _ w_029488eab2) (fun _ h9 => h9) rfl d_Globals_joinOne_64 ?_
      refine lv_iload hx hb d_Globals_joinOne_67 (lv_at hl 1 rfl) ?_
      obtain ⟨r11, h11, hF⟩ := b1E hF
      refine callVI (As := [.int x1]) X (ct_Tokens_placeOf l dC dI ad cA H.size h11) lk_Globals_52 ⟨rfl, rfl, by decide, by decide⟩ 2 rfl rfl hP hD hS hl.1 rfl rfl (Nat.le_of_ble_eq_true rfl) d_Globals_joinOne_69 (fun H locs hP hD hS => ?_)
      obtain ⟨u12, h12, hF⟩ := b1E hF
      refine callVV (As := [.int r11]) X (ct_Refusal_blameName l dC dI ad cA H.size h12) lk_Globals_56 ⟨rfl, rfl, by decide, by decide⟩ 1 rfl rfl hP hD hS hl.1 rfl rfl (Nat.le_of_ble_eq_true rfl) d_Globals_joinOne_72 (fun H locs hP hD hS => ?_)
      cases hF
      exact leafV X hP hD hS d_Globals_joinOne_75
    · have hF : tGlobals_joinOne_b2 (tGlobals_joinOne_L n) σ x1 x2 = some σ' := hF
      unfold tGlobals_joinOne_b2 at hF
      refine lv_aload_n hx hb d_Globals_joinOne_76 rfl (lv_at hl 1 rfl) ?_
      refine va_get (D := (dC, dI)) (ci := 6) (v := .ref (ad 22)) hx hb hts i_Program hown hK hP 6 rfl rfl 1 (by decide) (hts _ w_2f3ee6f33b) (fun _ h9 => h9) rfl d_Globals_joinOne_77 ?_
      refine lv_iload_n hx hb d_Globals_joinOne_80 rfl (lv_at hl 2 rfl) ?_
      refine lv_aload_n hx hb d_Globals_joinOne_81 rfl (lv_at hl 0 rfl) ?_
      refine va_get (D := (dC, dI)) (ci := 5) (v := .ref (ad 19)) hx hb hts i_Globals hown hK hP 5 rfl rfl 4 (by decide) (hts _ w_b3be3f9e23) (fun _ h9 => h9) rfl d_Globals_joinOne_82 ?_
      refine lv_iload hx hb d_Globals_joinOne_85 (lv_at hl 3 rfl) ?_
      obtain ⟨g_13, hF⟩ := gdE hF
      refine va_iald (f := (σ.2.2.1 4)) hx hb hK hP 19 0 rfl rfl (inE g_13) d_Globals_joinOne_87 ?_
      obtain ⟨g_14, hF⟩ := gdE hF
      refine va_iast (f := (σ.2.2.1 7)) hx hb hK hP hD hS 22 0 rfl rfl (inE g_14) d_Globals_joinOne_88 (fun H locs hP hD hS => ?_)
      have hP : va_P (dC, dI) vwCl (tcw ad cA (sA σ 7 (upd (σ.2.2.1 7) x1.toNatClampNeg ((σ.2.2.1 4) x2.toNatClampNeg)))) H := hP
      have hD : va_D A (tcw ad cA (sA σ 7 (upd (σ.2.2.1 7) x1.toNatClampNeg ((σ.2.2.1 4) x2.toNatClampNeg)))) := hD
      refine lv_aload_n hx hb d_Globals_joinOne_89 rfl (lv_at hl 1 rfl) ?_
      refine va_get (D := (dC, dI)) (ci := 6) (v := .ref (ad 23)) hx hb hts i_Program hown hK hP 6 rfl rfl 2 (by decide) (hts _ w_3a4978cb43) (fun _ h9 => h9) rfl d_Globals_joinOne_90 ?_
      refine lv_iload_n hx hb d_Globals_joinOne_93 rfl (lv_at hl 2 rfl) ?_
      refine lv_aload_n hx hb d_Globals_joinOne_94 rfl (lv_at hl 0 rfl) ?_
      refine va_get (D := (dC, dI)) (ci := 5) (v := .ref (ad 20)) hx hb hts i_Globals hown hK hP 5 rfl rfl 5 (by decide) (hts _ w_9c141b8f60) (fun _ h9 => h9) rfl d_Globals_joinOne_95 ?_
      refine lv_iload hx hb d_Globals_joinOne_98 (lv_at hl 3 rfl) ?_
      obtain ⟨g_15, hF⟩ := gdE hF
      refine va_iald (f := (σ.2.2.1 5)) hx hb hK hP 20 0 rfl rfl (inE g_15) d_Globals_joinOne_100 ?_
      obtain ⟨g_16, hF⟩ := gdE hF
      refine va_iast (f := (σ.2.2.1 8)) hx hb hK hP hD hS 23 0 rfl rfl (inE g_16) d_Globals_joinOne_101 (fun H locs hP hD hS => ?_)
      have hP : va_P (dC, dI) vwCl (tcw ad cA (sA (sA σ 7 (upd (σ.2.2.1 7) x1.toNatClampNeg ((σ.2.2.1 4) x2.toNatClampNeg))) 8 (upd (σ.2.2.1 8) x1.toNatClampNeg ((σ.2.2.1 5) x2.toNatClampNeg)))) H := hP
      have hD : va_D A (tcw ad cA (sA (sA σ 7 (upd (σ.2.2.1 7) x1.toNatClampNeg ((σ.2.2.1 4) x2.toNatClampNeg))) 8 (upd (σ.2.2.1 8) x1.toNatClampNeg ((σ.2.2.1 5) x2.toNatClampNeg)))) := hD
      cases hF
      exact leafV X hP hD hS d_Globals_joinOne_102
set_option maxHeartbeats 4000000 in
set_option maxRecDepth 100000 in
theorem ct_Globals_joinOne (l : Launch) (dC : Nat → ClassId) (dI : Nat → Nat → Nat) (ad : Nat → Nat) (cA : Nat → ClassId) (sz : Nat) {σ : St} {a2 : Int32} {a3 : Int32} {σ' : St} (hF : tGlobals_joinOne σ a2 a3 = some σ') : MV l y_Globals_joinOne b_Globals_joinOne 6 none { frames := 1, cells := 0, slots := 0, locals := 23 } (dC, dI) (ttys cA) ad (tcw ad cA) [.ref (ad 5), .ref (ad 6), .int a2, .int a3] σ sz σ' := by
  refine startM (own := "TinyForge$Globals") (Qc := fun A => QV (dC, dI) (ttys cA) (tcw ad cA) A σ') rfl rfl (Nat.le_of_ble_eq_true rfl) ?_
  intro p e s m below meth c A H locs ls X hP hD hS hl
  have hl : lv_has ls 6 [(0, .ref (ad 5)), (1, .ref (ad 6)), (2, .int a2), (3, .int a3)] := hl
  obtain ⟨hx, hb, hr, hml, hown, hlocks, hts, hA, hK, hZ⟩ := id X
  unfold tGlobals_joinOne at hF
  refine lv_aload_n hx hb d_Globals_joinOne_0 rfl (lv_at hl 1 rfl) ?_
  refine va_get (D := (dC, dI)) (ci := 6) (v := .ref (ad 22)) hx hb hts i_Program hown hK hP 6 rfl rfl 1 (by decide) (hts _ w_2f3ee6f33b) (fun _ h9 => h9) rfl d_Globals_joinOne_1 ?_
  refine lv_iload_n hx hb d_Globals_joinOne_4 rfl (lv_at hl 2 rfl) ?_
  obtain ⟨g_1, hF⟩ := gdE hF
  refine va_iald (f := (σ.2.2.1 7)) hx hb hK hP 22 0 rfl rfl (inE g_1) d_Globals_joinOne_5 ?_
  refine lv_istore (lv' := [(4, .int ((σ.2.2.1 7) a2.toNatClampNeg)), (0, .ref (ad 5)), (1, .ref (ad 6)), (2, .int a2), (3, .int a3)]) hx hb d_Globals_joinOne_6 hl (by decide) rfl (fun ls hl => ?_)
  refine lv_aload_n hx hb d_Globals_joinOne_8 rfl (lv_at hl 1 rfl) ?_
  refine lv_aload_n hx hb d_Globals_joinOne_9 rfl (lv_at hl 1 rfl) ?_
  refine va_get (D := (dC, dI)) (ci := 5) (v := .ref (ad 2)) hx hb hts i_Globals hown hK hP 5 rfl rfl 0 (by decide) (hts _ w_029488eab2) (fun _ h9 => h9) rfl d_Globals_joinOne_10 ?_
  refine lv_iload hx hb d_Globals_joinOne_13 (lv_at hl 0 rfl) ?_
  obtain ⟨r2, h2, hF⟩ := b1E hF
  refine callVJ (As := [.int ((σ.2.2.1 7) a2.toNatClampNeg)]) X (ct_Tokens_valueOf l dC dI ad cA H.size h2) lk_Globals_44 ⟨rfl, rfl, by decide, by decide⟩ 2 rfl rfl hP hD hS hl.1 rfl rfl (Nat.le_of_ble_eq_true rfl) d_Globals_joinOne_15 (fun H locs hP hD hS => ?_)
  obtain ⟨r3, h3, hF⟩ := b1E hF
  refine callVI (As := [.long r2]) X (ct_Globals_find l dC dI ad cA H.size h3) lk_Globals_70 ⟨rfl, rfl, by decide, by decide⟩ 5 rfl rfl hP hD hS hl.1 rfl rfl (Nat.le_of_ble_eq_true rfl) d_Globals_joinOne_18 (fun H locs hP hD hS => ?_)
  refine lv_istore (lv' := [(5, .int r3), (4, .int ((σ.2.2.1 7) a2.toNatClampNeg)), (0, .ref (ad 5)), (1, .ref (ad 6)), (2, .int a2), (3, .int a3)]) hx hb d_Globals_joinOne_21 hl (by decide) rfl (fun ls hl => ?_)
  refine lv_iload hx hb d_Globals_joinOne_23 (lv_at hl 0 rfl) ?_
  refine lv_if_lt (tgt := 59) hx hb d_Globals_joinOne_25 (by decide) (fun c_4 => ?_) (fun c_4 => ?_)
  · have hF := ifp hF c_4
    exact (tGlobals_joinOne_blk l dC dI ad cA X 2000).1 σ ((σ.2.2.1 7) a2.toNatClampNeg) 0 H locs ls hF hP hD hS (lv_sub hl [2, 1] rfl)
  · have hF := ifn hF c_4
    refine lv_aload_n hx hb d_Globals_joinOne_28 rfl (lv_at hl 2 rfl) ?_
    refine va_get (D := (dC, dI)) (ci := 5) (v := .ref (ad 18)) hx hb hts i_Globals hown hK hP 5 rfl rfl 3 (by decide) (hts _ w_47b456232b) (fun _ h9 => h9) rfl d_Globals_joinOne_29 ?_
    refine lv_iload hx hb d_Globals_joinOne_32 (lv_at hl 0 rfl) ?_
    obtain ⟨g_5, hF⟩ := gdE hF
    refine va_zald (f := (σ.2.2.1 3)) hx hb hK hP 18 3 rfl rfl (inE g_5) d_Globals_joinOne_34 ?_
    refine lv_iload_n hx hb d_Globals_joinOne_35 rfl (lv_at hl 5 rfl) ?_
    refine lv_icmp_ne (tgt := 59) hx hb d_Globals_joinOne_36 (by decide) (fun c_6 => ?_) (fun c_6 => ?_)
    · have hF := ifn hF c_6
      exact (tGlobals_joinOne_blk l dC dI ad cA X 2000).1 σ ((σ.2.2.1 7) a2.toNatClampNeg) 0 H locs ls hF hP hD hS (lv_sub hl [2, 1] rfl)
    · have hF := ifp hF c_6
      refine lv_iload_n hx hb d_Globals_joinOne_39 rfl (lv_at hl 5 rfl) ?_
      refine lv_if_eq (tgt := 76) hx hb d_Globals_joinOne_40 (by decide) (fun c_7 => ?_) (fun c_7 => ?_)
      · have hF := ifp hF c_7
        exact (tGlobals_joinOne_blk l dC dI ad cA X 2000).2 σ a2 r3 H locs ls hF hP hD hS (lv_sub hl [2, 3, 4, 0] rfl)
      · have hF := ifn hF c_7
        refine lv_aload_n hx hb d_Globals_joinOne_43 rfl (lv_at hl 2 rfl) ?_
        refine va_get (D := (dC, dI)) (ci := 5) (v := .ref (ad 20)) hx hb hts i_Globals hown hK hP 5 rfl rfl 5 (by decide) (hts _ w_9c141b8f60) (fun _ h9 => h9) rfl d_Globals_joinOne_44 ?_
        refine lv_iload hx hb d_Globals_joinOne_47 (lv_at hl 0 rfl) ?_
        obtain ⟨g_8, hF⟩ := gdE hF
        refine va_iald (f := (σ.2.2.1 5)) hx hb hK hP 20 0 rfl rfl (inE g_8) d_Globals_joinOne_49 ?_
        refine lv_aload_n hx hb d_Globals_joinOne_50 rfl (lv_at hl 3 rfl) ?_
        refine va_get (D := (dC, dI)) (ci := 6) (v := .ref (ad 23)) hx hb hts i_Program hown hK hP 6 rfl rfl 2 (by decide) (hts _ w_3a4978cb43) (fun _ h9 => h9) rfl d_Globals_joinOne_51 ?_
        refine lv_iload_n hx hb d_Globals_joinOne_54 rfl (lv_at hl 4 rfl) ?_
        obtain ⟨g_9, hF⟩ := gdE hF
        refine va_iald (f := (σ.2.2.1 8)) hx hb hK hP 23 0 rfl rfl (inE g_9) d_Globals_joinOne_55 ?_
        refine lv_icmp_eq (tgt := 76) hx hb d_Globals_joinOne_56 (by decide) (fun c_10 => ?_) (fun c_10 => ?_)
        · have hF := ifp hF c_10
          exact (tGlobals_joinOne_blk l dC dI ad cA X 2000).2 σ a2 r3 H locs ls hF hP hD hS (lv_sub hl [2, 3, 4, 0] rfl)
        · have hF := ifn hF c_10
          exact (tGlobals_joinOne_blk l dC dI ad cA X 2000).1 σ ((σ.2.2.1 7) a2.toNatClampNeg) 0 H locs ls hF hP hD hS (lv_sub hl [2, 1] rfl)
theorem d_Globals_join_0 : decode b_Globals_join 0 = .ok (.iconst 0, 1) := by decide +kernel
theorem d_Globals_join_1 : decode b_Globals_join 1 = .ok (.istore_n 2, 1) := by decide +kernel
theorem d_Globals_join_2 : decode b_Globals_join 2 = .ok (.iload_n 2, 1) := by decide +kernel
theorem d_Globals_join_3 : decode b_Globals_join 3 = .ok (.aload_n 1, 1) := by decide +kernel
theorem d_Globals_join_4 : decode b_Globals_join 4 = .ok (.getfield 74, 3) := by decide +kernel
theorem d_Globals_join_7 : decode b_Globals_join 7 = .ok (.if_icmp .ge 51, 3) := by decide +kernel
theorem d_Globals_join_10 : decode b_Globals_join 10 = .ok (.aload_n 1, 1) := by decide +kernel
theorem d_Globals_join_11 : decode b_Globals_join 11 = .ok (.getfield 79, 3) := by decide +kernel
theorem d_Globals_join_14 : decode b_Globals_join 14 = .ok (.iload_n 2, 1) := by decide +kernel
theorem d_Globals_join_15 : decode b_Globals_join 15 = .ok (.iaload, 1) := by decide +kernel
theorem d_Globals_join_16 : decode b_Globals_join 16 = .ok (.istore_n 3, 1) := by decide +kernel
theorem d_Globals_join_17 : decode b_Globals_join 17 = .ok (.iload_n 3, 1) := by decide +kernel
theorem d_Globals_join_18 : decode b_Globals_join 18 = .ok (.bipush 15, 2) := by decide +kernel
theorem d_Globals_join_20 : decode b_Globals_join 20 = .ok (.if_icmp .eq 15, 3) := by decide +kernel
theorem d_Globals_join_23 : decode b_Globals_join 23 = .ok (.iload_n 3, 1) := by decide +kernel
theorem d_Globals_join_24 : decode b_Globals_join 24 = .ok (.bipush 13, 2) := by decide +kernel
theorem d_Globals_join_26 : decode b_Globals_join 26 = .ok (.if_icmp .eq 9, 3) := by decide +kernel
theorem d_Globals_join_29 : decode b_Globals_join 29 = .ok (.iload_n 3, 1) := by decide +kernel
theorem d_Globals_join_30 : decode b_Globals_join 30 = .ok (.bipush 14, 2) := by decide +kernel
theorem d_Globals_join_32 : decode b_Globals_join 32 = .ok (.if_icmp .ne 20, 3) := by decide +kernel
theorem d_Globals_join_35 : decode b_Globals_join 35 = .ok (.aload_n 0, 1) := by decide +kernel
theorem d_Globals_join_36 : decode b_Globals_join 36 = .ok (.aload_n 1, 1) := by decide +kernel
theorem d_Globals_join_37 : decode b_Globals_join 37 = .ok (.iload_n 2, 1) := by decide +kernel
theorem d_Globals_join_38 : decode b_Globals_join 38 = .ok (.iload_n 3, 1) := by decide +kernel
theorem d_Globals_join_39 : decode b_Globals_join 39 = .ok (.bipush 15, 2) := by decide +kernel
theorem d_Globals_join_41 : decode b_Globals_join 41 = .ok (.if_icmp .ne 7, 3) := by decide +kernel
theorem d_Globals_join_44 : decode b_Globals_join 44 = .ok (.iconst 1, 1) := by decide +kernel
theorem d_Globals_join_45 : decode b_Globals_join 45 = .ok (.goto 4, 3) := by decide +kernel
theorem d_Globals_join_48 : decode b_Globals_join 48 = .ok (.iconst 0, 1) := by decide +kernel
theorem d_Globals_join_49 : decode b_Globals_join 49 = .ok (.invokevirtual 82, 3) := by decide +kernel
theorem d_Globals_join_52 : decode b_Globals_join 52 = .ok (.iinc 2 1, 3) := by decide +kernel
theorem d_Globals_join_55 : decode b_Globals_join 55 = .ok (.goto (-53), 3) := by decide +kernel
theorem d_Globals_join_58 : decode b_Globals_join 58 = .ok (.aload_n 0, 1) := by decide +kernel
theorem d_Globals_join_59 : decode b_Globals_join 59 = .ok (.aload_n 1, 1) := by decide +kernel
theorem d_Globals_join_60 : decode b_Globals_join 60 = .ok (.invokevirtual 86, 3) := by decide +kernel
theorem d_Globals_join_63 : decode b_Globals_join 63 = .ok (.aload_n 0, 1) := by decide +kernel
theorem d_Globals_join_64 : decode b_Globals_join 64 = .ok (.getfield 40, 3) := by decide +kernel
theorem d_Globals_join_67 : decode b_Globals_join 67 = .ok (.invokevirtual 90, 3) := by decide +kernel
theorem d_Globals_join_70 : decode b_Globals_join 70 = .ok (.return_, 1) := by decide +kernel
def tGlobals_join_b1 (k : Nat → St → Int32 → Int32 → Int32 → Option (St)) (σ : St) (x1 : Int32) (x2 : Int32) (x3 : Int32) : Option (St) := if (σ.1 13) ≤ x1 then b1 (tGlobals_joinMain σ) (fun u2 => b1 (tRefusal_refuseWrongName u2) (fun u3 => some u3)) else gd (inB x1 440) (if ((σ.2.2.1 6) x1.toNatClampNeg) = 15 then k 2 σ x1 ((σ.2.2.1 6) x1.toNatClampNeg) 0 else if ((σ.2.2.1 6) x1.toNatClampNeg) = 13 then k 2 σ x1 ((σ.2.2.1 6) x1.toNatClampNeg) 0 else if ((σ.2.2.1 6) x1.toNatClampNeg) = 14 then k 2 σ x1 ((σ.2.2.1 6) x1.toNatClampNeg) 0 else k 4 σ x1 0 0)
def tGlobals_join_b2 (k : Nat → St → Int32 → Int32 → Int32 → Option (St)) (σ : St) (x1 : Int32) (x2 : Int32) (x3 : Int32) : Option (St) := if x2 = 15 then k 3 σ x1 1 x1 else k 3 σ x1 0 x1
def tGlobals_join_b3 (k : Nat → St → Int32 → Int32 → Int32 → Option (St)) (σ : St) (x1 : Int32) (x2 : Int32) (x3 : Int32) : Option (St) := b1 (tGlobals_joinOne σ x3 x2) (fun u9 => k 4 u9 x1 0 0)
def tGlobals_join_b4 (k : Nat → St → Int32 → Int32 → Int32 → Option (St)) (σ : St) (x1 : Int32) (x2 : Int32) (x3 : Int32) : Option (St) := k 1 σ (x1 + 1) 0 0
def tGlobals_join_L : Nat → Nat → St → Int32 → Int32 → Int32 → Option (St)
  | 0, _, _, _, _, _ => none
  | n + 1, lab, σ, x1, x2, x3 => match lab with
    | 1 => tGlobals_join_b1 (tGlobals_join_L n) σ x1 x2 x3
    | 2 => tGlobals_join_b2 (tGlobals_join_L n) σ x1 x2 x3
    | 3 => tGlobals_join_b3 (tGlobals_join_L n) σ x1 x2 x3
    | 4 => tGlobals_join_b4 (tGlobals_join_L n) σ x1 x2 x3
    | _ => none
def tGlobals_join (σ : St) : Option (St) := tGlobals_join_L 2000 1 σ 0 0 0
set_option maxHeartbeats 4000000 in
set_option maxRecDepth 100000 in
theorem tGlobals_join_blk {p : Program} {e : Env} {s : State} {m : MethodId} {args : Array Value} {below : List Frame} {meth : Method} {c : Code} {A : Nat → Prop} (l : Launch) (dC : Nat → ClassId) (dI : Nat → Nat → Nat) (ad : Nat → Nat) (cA : Nat → ClassId) {σ' : St} (X : Cx p s m args meth c b_Globals_join 4 none "TinyForge$Globals" (dC, dI) (ttys cA) ad A) : ∀ n : Nat, (∀ (σ : St) (x1 : Int32) (x2 : Int32) (x3 : Int32) (H : Heap) (locs : List Loc) (ls : Array Slot), tGlobals_join_L n 1 σ x1 x2 x3 = some σ' → va_P (dC, dI) vwCl (tcw ad cA σ) H → va_D A (tcw ad cA σ) → va_S A s.heap H locs → lv_has ls 4 [(0, .ref (ad 5)), (1, .ref (ad 6)), (2, .int x1)] → W p l e { frames := 6, cells := 0, slots := 0, locals := 130 } s m args below meth c H locs 0 0 (MQ below (QV (dC, dI) (ttys cA) (tcw ad cA) A σ') args s 0 0 A) (F0 m 2 ls [])) ∧ (∀ (σ : St) (x1 : Int32) (x2 : Int32) (x3 : Int32) (H : Heap) (locs : List Loc) (ls : Array Slot), tGlobals_join_L n 2 σ x1 x2 x3 = some σ' → va_P (dC, dI) vwCl (tcw ad cA σ) H → va_D A (tcw ad cA σ) → va_S A s.heap H locs → lv_has ls 4 [(0, .ref (ad 5)), (1, .ref (ad 6)), (2, .int x1), (3, .int x2)] → W p l e { frames := 6, cells := 0, slots := 0, locals := 130 } s m args below meth c H locs 0 0 (MQ below (QV (dC, dI) (ttys cA) (tcw ad cA) A σ') args s 0 0 A) (F0 m 35 ls [])) ∧ (∀ (σ : St) (x1 : Int32) (x2 : Int32) (x3 : Int32) (H : Heap) (locs : List Loc) (ls : Array Slot), tGlobals_join_L n 3 σ x1 x2 x3 = some σ' → va_P (dC, dI) vwCl (tcw ad cA σ) H → va_D A (tcw ad cA σ) → va_S A s.heap H locs → lv_has ls 4 [(0, .ref (ad 5)), (1, .ref (ad 6)), (2, .int x1)] → W p l e { frames := 6, cells := 0, slots := 0, locals := 130 } s m args below meth c H locs 0 0 (MQ below (QV (dC, dI) (ttys cA) (tcw ad cA) A σ') args s 0 0 A) (F0 m 49 ls [.int x2, .int x3, .ref (ad 6), .ref (ad 5)])) ∧ (∀ (σ : St) (x1 : Int32) (x2 : Int32) (x3 : Int32) (H : Heap) (locs : List Loc) (ls : Array Slot), tGlobals_join_L n 4 σ x1 x2 x3 = some σ' → va_P (dC, dI) vwCl (tcw ad cA σ) H → va_D A (tcw ad cA σ) → va_S A s.heap H locs → lv_has ls 4 [(0, .ref (ad 5)), (1, .ref (ad 6)), (2, .int x1)] → W p l e { frames := 6, cells := 0, slots := 0, locals := 130 } s m args below meth c H locs 0 0 (MQ below (QV (dC, dI) (ttys cA) (tcw ad cA) A σ') args s 0 0 A) (F0 m 52 ls [])) := by
  obtain ⟨hx, hb, hr, hml, hown, hlocks, hts, hA, hK, hZ⟩ := id X
  intro n
  induction n with
  | zero => exact ⟨(fun σ x1 x2 x3 H locs ls hF => by cases hF), (fun σ x1 x2 x3 H locs ls hF => by cases hF), (fun σ x1 x2 x3 H locs ls hF => by cases hF), (fun σ x1 x2 x3 H locs ls hF => by cases hF)⟩
  | succ n ihn =>
    refine ⟨fun σ x1 x2 x3 H locs ls hF hP hD hS hl => ?_, fun σ x1 x2 x3 H locs ls hF hP hD hS hl => ?_, fun σ x1 x2 x3 H locs ls hF hP hD hS hl => ?_, fun σ x1 x2 x3 H locs ls hF hP hD hS hl => ?_⟩
    · have hF : tGlobals_join_b1 (tGlobals_join_L n) σ x1 x2 x3 = some σ' := hF
      unfold tGlobals_join_b1 at hF
      refine lv_iload_n hx hb d_Globals_join_2 rfl (lv_at hl 2 rfl) ?_
      refine lv_aload_n hx hb d_Globals_join_3 rfl (lv_at hl 1 rfl) ?_
      refine va_get (D := (dC, dI)) (ci := 6) (v := .int (σ.1 13)) hx hb hts i_Program hown hK hP 6 rfl rfl 3 (by decide) (hts _ w_cfe12c3eca) (fun _ h9 => h9) rfl d_Globals_join_4 ?_
      refine lv_icmp_ge (tgt := 58) hx hb d_Globals_join_7 (by decide) (fun c_1 => ?_) (fun c_1 => ?_)
      · have hF := ifp hF c_1
        refine lv_aload_n hx hb d_Globals_join_58 rfl (lv_at hl 0 rfl) ?_
        refine lv_aload_n hx hb d_Globals_join_59 rfl (lv_at hl 1 rfl) ?_
        obtain ⟨u2, h2, hF⟩ := b1E hF
        refine callVV (As := [.ref (ad 6)]) X (ct_Globals_joinMain l dC dI ad cA H.size h2) lk_Globals_86 ⟨rfl, rfl, by decide, by decide⟩ 5 rfl rfl hP hD hS hl.1 rfl rfl (Nat.le_of_ble_eq_true rfl) d_Globals_join_60 (fun H locs hP hD hS => ?_)
        refine lv_aload_n hx hb d_Globals_join_63 rfl (lv_at hl 0 rfl) ?_
        refine va_get (D := (dC, dI)) (ci := 5) (v := .ref (ad 1)) hx hb hts i_Globals hown hK hP 5 rfl rfl 1 (by decide) (hts _ w_41613a3bcb) (fun _ h9 => h9) rfl d_Globals_join_64 ?_
        obtain ⟨u3, h3, hF⟩ := b1E hF
        refine callVV (As := []) X (ct_Refusal_refuseWrongName l dC dI ad cA H.size h3) lk_Globals_90 ⟨rfl, rfl, by decide, by decide⟩ 1 rfl rfl hP hD hS hl.1 rfl rfl (Nat.le_of_ble_eq_true rfl) d_Globals_join_67 (fun H locs hP hD hS => ?_)
        cases hF
        exact leafV X hP hD hS d_Globals_join_70
      · have hF := ifn hF c_1
        refine lv_aload_n hx hb d_Globals_join_10 rfl (lv_at hl 1 rfl) ?_
        refine va_get (D := (dC, dI)) (ci := 6) (v := .ref (ad 21)) hx hb hts i_Program hown hK hP 6 rfl rfl 0 (by decide) (hts _ w_b9ad7adf25) (fun _ h9 => h9) rfl d_Globals_join_11 ?_
        refine lv_iload_n hx hb d_Globals_join_14 rfl (lv_at hl 2 rfl) ?_
        obtain ⟨g_4, hF⟩ := gdE hF
        refine va_iald (f := (σ.2.2.1 6)) hx hb hK hP 21 0 rfl rfl (inE g_4) d_Globals_join_15 ?_
        refine lv_istore_n (lv' := [(3, .int ((σ.2.2.1 6) x1.toNatClampNeg)), (0, .ref (ad 5)), (1, .ref (ad 6)), (2, .int x1)]) hx hb d_Globals_join_16 rfl hl (by decide) rfl (fun ls hl => ?_)
        refine lv_iload_n hx hb d_Globals_join_17 rfl (lv_at hl 0 rfl) ?_
        refine lv_bipush (v := 15) hx hb d_Globals_join_18 (by decide) ?_
        refine lv_icmp_eq (tgt := 35) hx hb d_Globals_join_20 (by decide) (fun c_5 => ?_) (fun c_5 => ?_)
        · have hF := ifp hF c_5
          exact ihn.2.1 σ x1 ((σ.2.2.1 6) x1.toNatClampNeg) 0 H locs ls hF hP hD hS (lv_sub hl [1, 2, 3, 0] rfl)
        · have hF := ifn hF c_5
          refine lv_iload_n hx hb d_Globals_join_23 rfl (lv_at hl 0 rfl) ?_
          refine lv_bipush (v := 13) hx hb d_Globals_join_24 (by decide) ?_
          refine lv_icmp_eq (tgt := 35) hx hb d_Globals_join_26 (by decide) (fun c_6 => ?_) (fun c_6 => ?_)
          · have hF := ifp hF c_6
            exact ihn.2.1 σ x1 ((σ.2.2.1 6) x1.toNatClampNeg) 0 H locs ls hF hP hD hS (lv_sub hl [1, 2, 3, 0] rfl)
          · have hF := ifn hF c_6
            refine lv_iload_n hx hb d_Globals_join_29 rfl (lv_at hl 0 rfl) ?_
            refine lv_bipush (v := 14) hx hb d_Globals_join_30 (by decide) ?_
            refine lv_icmp_ne (tgt := 52) hx hb d_Globals_join_32 (by decide) (fun c_7 => ?_) (fun c_7 => ?_)
            · have hF := ifn hF c_7
              exact ihn.2.2.2 σ x1 0 0 H locs ls hF hP hD hS (lv_sub hl [1, 2, 3] rfl)
            · have hF := ifp hF c_7
              exact ihn.2.1 σ x1 ((σ.2.2.1 6) x1.toNatClampNeg) 0 H locs ls hF hP hD hS (lv_sub hl [1, 2, 3, 0] rfl)
    · have hF : tGlobals_join_b2 (tGlobals_join_L n) σ x1 x2 x3 = some σ' := hF
      unfold tGlobals_join_b2 at hF
      refine lv_aload_n hx hb d_Globals_join_35 rfl (lv_at hl 0 rfl) ?_
      refine lv_aload_n hx hb d_Globals_join_36 rfl (lv_at hl 1 rfl) ?_
      refine lv_iload_n hx hb d_Globals_join_37 rfl (lv_at hl 2 rfl) ?_
      refine lv_iload_n hx hb d_Globals_join_38 rfl (lv_at hl 3 rfl) ?_
      refine lv_bipush (v := 15) hx hb d_Globals_join_39 (by decide) ?_
      refine lv_icmp_ne (tgt := 48) hx hb d_Globals_join_41 (by decide) (fun c_8 => ?_) (fun c_8 => ?_)
      · have hF := ifn hF c_8
        refine lv_iconst (v := 0) hx hb d_Globals_join_48 (by decide) ?_
        exact ihn.2.2.1 σ x1 0 x1 H locs ls hF hP hD hS (lv_sub hl [0, 1, 2] rfl)
      · have hF := ifp hF c_8
        refine lv_iconst (v := 1) hx hb d_Globals_join_44 (by decide) ?_
        refine lv_goto (tgt := 49) hx hb d_Globals_join_45 (by decide) ?_
        exact ihn.2.2.1 σ x1 1 x1 H locs ls hF hP hD hS (lv_sub hl [0, 1, 2] rfl)
    · have hF : tGlobals_join_b3 (tGlobals_join_L n) σ x1 x2 x3 = some σ' := hF
      unfold tGlobals_join_b3 at hF
      obtain ⟨u9, h9, hF⟩ := b1E hF
      refine callVV (As := [.ref (ad 6), .int x3, .int x2]) X (ct_Globals_joinOne l dC dI ad cA H.size h9) lk_Globals_82 ⟨rfl, rfl, by decide, by decide⟩ 5 rfl rfl hP hD hS hl.1 rfl rfl (Nat.le_of_ble_eq_true rfl) d_Globals_join_49 (fun H locs hP hD hS => ?_)
      exact ihn.2.2.2 u9 x1 0 0 H locs ls hF hP hD hS (lv_sub hl [0, 1, 2] rfl)
    · have hF : tGlobals_join_b4 (tGlobals_join_L n) σ x1 x2 x3 = some σ' := hF
      unfold tGlobals_join_b4 at hF
      refine lv_iinc (v := (x1 + 1)) (lv' := [(2, .int (x1 + 1)), (0, .ref (ad 5)), (1, .ref (ad 6))]) hx hb d_Globals_join_52 hl (k := 2) rfl rfl (by decide) rfl (fun ls hl => ?_)
      refine lv_goto (tgt := 2) hx hb d_Globals_join_55 (by decide) ?_
      exact ihn.1 σ (x1 + 1) 0 0 H locs ls hF hP hD hS (lv_sub hl [1, 2, 0] rfl)
set_option maxHeartbeats 4000000 in
set_option maxRecDepth 100000 in
theorem ct_Globals_join (l : Launch) (dC : Nat → ClassId) (dI : Nat → Nat → Nat) (ad : Nat → Nat) (cA : Nat → ClassId) (sz : Nat) {σ : St} {σ' : St} (hF : tGlobals_join σ = some σ') : MV l y_Globals_join b_Globals_join 4 none { frames := 6, cells := 0, slots := 0, locals := 130 } (dC, dI) (ttys cA) ad (tcw ad cA) [.ref (ad 5), .ref (ad 6)] σ sz σ' := by
  refine startM (own := "TinyForge$Globals") (Qc := fun A => QV (dC, dI) (ttys cA) (tcw ad cA) A σ') rfl rfl (Nat.le_of_ble_eq_true rfl) ?_
  intro p e s m below meth c A H locs ls X hP hD hS hl
  have hl : lv_has ls 4 [(0, .ref (ad 5)), (1, .ref (ad 6))] := hl
  obtain ⟨hx, hb, hr, hml, hown, hlocks, hts, hA, hK, hZ⟩ := id X
  unfold tGlobals_join at hF
  refine lv_iconst (v := 0) hx hb d_Globals_join_0 (by decide) ?_
  refine lv_istore_n (lv' := [(2, .int 0), (0, .ref (ad 5)), (1, .ref (ad 6))]) hx hb d_Globals_join_1 rfl hl (by decide) rfl (fun ls hl => ?_)
  exact (tGlobals_join_blk l dC dI ad cA X 2000).1 σ 0 0 0 H locs ls hF hP hD hS (lv_sub hl [1, 2, 0] rfl)
theorem d_Globals_start_0 : decode b_Globals_start 0 = .ok (.aload_n 0, 1) := by decide +kernel
theorem d_Globals_start_1 : decode b_Globals_start 1 = .ok (.iconst 0, 1) := by decide +kernel
theorem d_Globals_start_2 : decode b_Globals_start 2 = .ok (.putfield 26, 3) := by decide +kernel
theorem d_Globals_start_5 : decode b_Globals_start 5 = .ok (.aload_n 0, 1) := by decide +kernel
theorem d_Globals_start_6 : decode b_Globals_start 6 = .ok (.iconst 0, 1) := by decide +kernel
theorem d_Globals_start_7 : decode b_Globals_start 7 = .ok (.putfield 30, 3) := by decide +kernel
theorem d_Globals_start_10 : decode b_Globals_start 10 = .ok (.aload_n 0, 1) := by decide +kernel
theorem d_Globals_start_11 : decode b_Globals_start 11 = .ok (.iconst 0, 1) := by decide +kernel
theorem d_Globals_start_12 : decode b_Globals_start 12 = .ok (.putfield 33, 3) := by decide +kernel
theorem d_Globals_start_15 : decode b_Globals_start 15 = .ok (.return_, 1) := by decide +kernel
def tGlobals_start (σ : St) : Option (St) := some (sI (sI (sI σ 10 0) 11 0) 12 0)
set_option maxHeartbeats 4000000 in
set_option maxRecDepth 100000 in
theorem ct_Globals_start (l : Launch) (dC : Nat → ClassId) (dI : Nat → Nat → Nat) (ad : Nat → Nat) (cA : Nat → ClassId) (sz : Nat) {σ : St} {σ' : St} (hF : tGlobals_start σ = some σ') : MV l y_Globals_start b_Globals_start 1 none { frames := 0, cells := 0, slots := 0, locals := 0 } (dC, dI) (ttys cA) ad (tcw ad cA) [.ref (ad 5)] σ sz σ' := by
  refine startM (own := "TinyForge$Globals") (Qc := fun A => QV (dC, dI) (ttys cA) (tcw ad cA) A σ') rfl rfl (Nat.le_of_ble_eq_true rfl) ?_
  intro p e s m below meth c A H locs ls X hP hD hS hl
  have hl : lv_has ls 1 [(0, .ref (ad 5))] := hl
  obtain ⟨hx, hb, hr, hml, hown, hlocks, hts, hA, hK, hZ⟩ := id X
  unfold tGlobals_start at hF
  refine lv_aload_n hx hb d_Globals_start_0 rfl (lv_at hl 0 rfl) ?_
  refine lv_iconst (v := 0) hx hb d_Globals_start_1 (by decide) ?_
  refine va_put (D := (dC, dI)) (ci := 5) (v := .int 0) (ty := .int) hx hb hts i_Globals t_Globals t_Globals_ok n_Globals hown hK hP hD hS 5 rfl rfl 6 (by decide) (hts _ w_2120be7327) (fun _ h9 => h9) rfl (by decide +kernel) rfl rfl (Nat.le_of_ble_eq_true rfl) d_Globals_start_2 (fun H locs hP hD hS => ?_)
  have hP : va_P (dC, dI) vwCl (tcw ad cA (sI σ 10 0)) H := hP
  have hD : va_D A (tcw ad cA (sI σ 10 0)) := hD
  refine lv_aload_n hx hb d_Globals_start_5 rfl (lv_at hl 0 rfl) ?_
  refine lv_iconst (v := 0) hx hb d_Globals_start_6 (by decide) ?_
  refine va_put (D := (dC, dI)) (ci := 5) (v := .int 0) (ty := .int) hx hb hts i_Globals t_Globals t_Globals_ok n_Globals hown hK hP hD hS 5 rfl rfl 7 (by decide) (hts _ w_053c5b20fd) (fun _ h9 => h9) rfl (by decide +kernel) rfl rfl (Nat.le_of_ble_eq_true rfl) d_Globals_start_7 (fun H locs hP hD hS => ?_)
  have hP : va_P (dC, dI) vwCl (tcw ad cA (sI (sI σ 10 0) 11 0)) H := hP
  have hD : va_D A (tcw ad cA (sI (sI σ 10 0) 11 0)) := hD
  refine lv_aload_n hx hb d_Globals_start_10 rfl (lv_at hl 0 rfl) ?_
  refine lv_iconst (v := 0) hx hb d_Globals_start_11 (by decide) ?_
  refine va_put (D := (dC, dI)) (ci := 5) (v := .int 0) (ty := .int) hx hb hts i_Globals t_Globals t_Globals_ok n_Globals hown hK hP hD hS 5 rfl rfl 8 (by decide) (hts _ w_0ba47f98a3) (fun _ h9 => h9) rfl (by decide +kernel) rfl rfl (Nat.le_of_ble_eq_true rfl) d_Globals_start_12 (fun H locs hP hD hS => ?_)
  have hP : va_P (dC, dI) vwCl (tcw ad cA (sI (sI (sI σ 10 0) 11 0) 12 0)) H := hP
  have hD : va_D A (tcw ad cA (sI (sI (sI σ 10 0) 11 0) 12 0)) := hD
  cases hF
  exact leafV X hP hD hS d_Globals_start_15
theorem d_Globals_add_0 : decode b_Globals_add 0 = .ok (.aload_n 0, 1) := by decide +kernel
theorem d_Globals_add_1 : decode b_Globals_add 1 = .ok (.getfield 26, 3) := by decide +kernel
theorem d_Globals_add_4 : decode b_Globals_add 4 = .ok (.aload_n 0, 1) := by decide +kernel
theorem d_Globals_add_5 : decode b_Globals_add 5 = .ok (.getfield 9, 3) := by decide +kernel
theorem d_Globals_add_8 : decode b_Globals_add 8 = .ok (.arraylength, 1) := by decide +kernel
theorem d_Globals_add_9 : decode b_Globals_add 9 = .ok (.if_icmp .ge 61, 3) := by decide +kernel
theorem d_Globals_add_12 : decode b_Globals_add 12 = .ok (.aload_n 0, 1) := by decide +kernel
theorem d_Globals_add_13 : decode b_Globals_add 13 = .ok (.getfield 9, 3) := by decide +kernel
theorem d_Globals_add_16 : decode b_Globals_add 16 = .ok (.aload_n 0, 1) := by decide +kernel
theorem d_Globals_add_17 : decode b_Globals_add 17 = .ok (.getfield 26, 3) := by decide +kernel
theorem d_Globals_add_20 : decode b_Globals_add 20 = .ok (.aload_n 0, 1) := by decide +kernel
theorem d_Globals_add_21 : decode b_Globals_add 21 = .ok (.getfield 36, 3) := by decide +kernel
theorem d_Globals_add_24 : decode b_Globals_add 24 = .ok (.iload_n 1, 1) := by decide +kernel
theorem d_Globals_add_25 : decode b_Globals_add 25 = .ok (.invokevirtual 44, 3) := by decide +kernel
theorem d_Globals_add_28 : decode b_Globals_add 28 = .ok (.lastore, 1) := by decide +kernel
theorem d_Globals_add_29 : decode b_Globals_add 29 = .ok (.aload_n 0, 1) := by decide +kernel
theorem d_Globals_add_30 : decode b_Globals_add 30 = .ok (.getfield 15, 3) := by decide +kernel
theorem d_Globals_add_33 : decode b_Globals_add 33 = .ok (.aload_n 0, 1) := by decide +kernel
theorem d_Globals_add_34 : decode b_Globals_add 34 = .ok (.getfield 26, 3) := by decide +kernel
theorem d_Globals_add_37 : decode b_Globals_add 37 = .ok (.iload_n 2, 1) := by decide +kernel
theorem d_Globals_add_38 : decode b_Globals_add 38 = .ok (.bastore, 1) := by decide +kernel
theorem d_Globals_add_39 : decode b_Globals_add 39 = .ok (.aload_n 0, 1) := by decide +kernel
theorem d_Globals_add_40 : decode b_Globals_add 40 = .ok (.getfield 19, 3) := by decide +kernel
theorem d_Globals_add_43 : decode b_Globals_add 43 = .ok (.aload_n 0, 1) := by decide +kernel
theorem d_Globals_add_44 : decode b_Globals_add 44 = .ok (.getfield 26, 3) := by decide +kernel
theorem d_Globals_add_47 : decode b_Globals_add 47 = .ok (.iload_n 3, 1) := by decide +kernel
theorem d_Globals_add_48 : decode b_Globals_add 48 = .ok (.iastore, 1) := by decide +kernel
theorem d_Globals_add_49 : decode b_Globals_add 49 = .ok (.aload_n 0, 1) := by decide +kernel
theorem d_Globals_add_50 : decode b_Globals_add 50 = .ok (.getfield 23, 3) := by decide +kernel
theorem d_Globals_add_53 : decode b_Globals_add 53 = .ok (.aload_n 0, 1) := by decide +kernel
theorem d_Globals_add_54 : decode b_Globals_add 54 = .ok (.getfield 26, 3) := by decide +kernel
theorem d_Globals_add_57 : decode b_Globals_add 57 = .ok (.iload 4, 2) := by decide +kernel
theorem d_Globals_add_59 : decode b_Globals_add 59 = .ok (.iastore, 1) := by decide +kernel
theorem d_Globals_add_60 : decode b_Globals_add 60 = .ok (.aload_n 0, 1) := by decide +kernel
theorem d_Globals_add_61 : decode b_Globals_add 61 = .ok (.dup, 1) := by decide +kernel
theorem d_Globals_add_62 : decode b_Globals_add 62 = .ok (.getfield 26, 3) := by decide +kernel
theorem d_Globals_add_65 : decode b_Globals_add 65 = .ok (.iconst 1, 1) := by decide +kernel
theorem d_Globals_add_66 : decode b_Globals_add 66 = .ok (.iadd, 1) := by decide +kernel
theorem d_Globals_add_67 : decode b_Globals_add 67 = .ok (.putfield 26, 3) := by decide +kernel
theorem d_Globals_add_70 : decode b_Globals_add 70 = .ok (.return_, 1) := by decide +kernel
def tGlobals_add (σ : St) (a1 : Int32) (a2 : Int32) (a3 : Int32) (a4 : Int32) : Option (St) := if (12 : Int32) ≤ (σ.1 10) then some σ else b1 (tTokens_valueOf σ a1) (fun r2 => gd (inB (σ.1 10) 12) (gd (inB (σ.1 10) 12) (gd (inB (σ.1 10) 12) (gd (inB (σ.1 10) 12) (some (sI (sA (sA (sA (sL σ 2 (vp_updL (σ.2.2.2 2) (σ.1 10).toNatClampNeg r2)) 3 (upd (σ.2.2.1 3) (σ.1 10).toNatClampNeg (vp_nar .boolean a2))) 4 (upd (σ.2.2.1 4) (σ.1 10).toNatClampNeg a3)) 5 (upd (σ.2.2.1 5) (σ.1 10).toNatClampNeg a4)) 10 ((σ.1 10) + 1)))))))
set_option maxHeartbeats 4000000 in
set_option maxRecDepth 100000 in
theorem ct_Globals_add (l : Launch) (dC : Nat → ClassId) (dI : Nat → Nat → Nat) (ad : Nat → Nat) (cA : Nat → ClassId) (sz : Nat) {σ : St} {a1 : Int32} {a2 : Int32} {a3 : Int32} {a4 : Int32} {σ' : St} (hF : tGlobals_add σ a1 a2 a3 a4 = some σ') : MV l y_Globals_add b_Globals_add 5 none { frames := 1, cells := 0, slots := 0, locals := 21 } (dC, dI) (ttys cA) ad (tcw ad cA) [.ref (ad 5), .int a1, .int a2, .int a3, .int a4] σ sz σ' := by
  refine startM (own := "TinyForge$Globals") (Qc := fun A => QV (dC, dI) (ttys cA) (tcw ad cA) A σ') rfl rfl (Nat.le_of_ble_eq_true rfl) ?_
  intro p e s m below meth c A H locs ls X hP hD hS hl
  have hl : lv_has ls 5 [(0, .ref (ad 5)), (1, .int a1), (2, .int a2), (3, .int a3), (4, .int a4)] := hl
  obtain ⟨hx, hb, hr, hml, hown, hlocks, hts, hA, hK, hZ⟩ := id X
  unfold tGlobals_add at hF
  refine lv_aload_n hx hb d_Globals_add_0 rfl (lv_at hl 0 rfl) ?_
  refine va_get (D := (dC, dI)) (ci := 5) (v := .int (σ.1 10)) hx hb hts i_Globals hown hK hP 5 rfl rfl 6 (by decide) (hts _ w_2120be7327) (fun _ h9 => h9) rfl d_Globals_add_1 ?_
  refine lv_aload_n hx hb d_Globals_add_4 rfl (lv_at hl 0 rfl) ?_
  refine va_get (D := (dC, dI)) (ci := 5) (v := .ref (ad 17)) hx hb hts i_Globals hown hK hP 5 rfl rfl 2 (by decide) (hts _ w_57d4b2c74d) (fun _ h9 => h9) rfl d_Globals_add_5 ?_
  refine va_alen (v := 12) hx hb hK hP 17 1 rfl rfl rfl d_Globals_add_8 ?_
  refine lv_icmp_ge (tgt := 70) hx hb d_Globals_add_9 (by decide) (fun c_1 => ?_) (fun c_1 => ?_)
  · have hF := ifp hF c_1
    cases hF
    exact leafV X hP hD hS d_Globals_add_70
  · have hF := ifn hF c_1
    refine lv_aload_n hx hb d_Globals_add_12 rfl (lv_at hl 0 rfl) ?_
    refine va_get (D := (dC, dI)) (ci := 5) (v := .ref (ad 17)) hx hb hts i_Globals hown hK hP 5 rfl rfl 2 (by decide) (hts _ w_57d4b2c74d) (fun _ h9 => h9) rfl d_Globals_add_13 ?_
    refine lv_aload_n hx hb d_Globals_add_16 rfl (lv_at hl 0 rfl) ?_
    refine va_get (D := (dC, dI)) (ci := 5) (v := .int (σ.1 10)) hx hb hts i_Globals hown hK hP 5 rfl rfl 6 (by decide) (hts _ w_2120be7327) (fun _ h9 => h9) rfl d_Globals_add_17 ?_
    refine lv_aload_n hx hb d_Globals_add_20 rfl (lv_at hl 0 rfl) ?_
    refine va_get (D := (dC, dI)) (ci := 5) (v := .ref (ad 2)) hx hb hts i_Globals hown hK hP 5 rfl rfl 0 (by decide) (hts _ w_029488eab2) (fun _ h9 => h9) rfl d_Globals_add_21 ?_
    refine lv_iload_n hx hb d_Globals_add_24 rfl (lv_at hl 1 rfl) ?_
    obtain ⟨r2, h2, hF⟩ := b1E hF
    refine callVJ (As := [.int a1]) X (ct_Tokens_valueOf l dC dI ad cA H.size h2) lk_Globals_44 ⟨rfl, rfl, by decide, by decide⟩ 2 rfl rfl hP hD hS hl.1 rfl rfl (Nat.le_of_ble_eq_true rfl) d_Globals_add_25 (fun H locs hP hD hS => ?_)
    obtain ⟨g_3, hF⟩ := gdE hF
    refine va_last (f := (σ.2.2.2 2)) hx hb hK hP hD hS 17 1 rfl rfl (inE g_3) d_Globals_add_28 (fun H locs hP hD hS => ?_)
    have hP : va_P (dC, dI) vwCl (tcw ad cA (sL σ 2 (vp_updL (σ.2.2.2 2) (σ.1 10).toNatClampNeg r2))) H := hP
    have hD : va_D A (tcw ad cA (sL σ 2 (vp_updL (σ.2.2.2 2) (σ.1 10).toNatClampNeg r2))) := hD
    refine lv_aload_n hx hb d_Globals_add_29 rfl (lv_at hl 0 rfl) ?_
    refine va_get (D := (dC, dI)) (ci := 5) (v := .ref (ad 18)) hx hb hts i_Globals hown hK hP 5 rfl rfl 3 (by decide) (hts _ w_47b456232b) (fun _ h9 => h9) rfl d_Globals_add_30 ?_
    refine lv_aload_n hx hb d_Globals_add_33 rfl (lv_at hl 0 rfl) ?_
    refine va_get (D := (dC, dI)) (ci := 5) (v := .int (σ.1 10)) hx hb hts i_Globals hown hK hP 5 rfl rfl 6 (by decide) (hts _ w_2120be7327) (fun _ h9 => h9) rfl d_Globals_add_34 ?_
    refine lv_iload_n hx hb d_Globals_add_37 rfl (lv_at hl 2 rfl) ?_
    obtain ⟨g_4, hF⟩ := gdE hF
    refine va_zast (f := (σ.2.2.1 3)) hx hb hK hP hD hS 18 3 rfl rfl (inE g_4) d_Globals_add_38 (fun H locs hP hD hS => ?_)
    have hP : va_P (dC, dI) vwCl (tcw ad cA (sA (sL σ 2 (vp_updL (σ.2.2.2 2) (σ.1 10).toNatClampNeg r2)) 3 (upd (σ.2.2.1 3) (σ.1 10).toNatClampNeg (vp_nar .boolean a2)))) H := hP
    have hD : va_D A (tcw ad cA (sA (sL σ 2 (vp_updL (σ.2.2.2 2) (σ.1 10).toNatClampNeg r2)) 3 (upd (σ.2.2.1 3) (σ.1 10).toNatClampNeg (vp_nar .boolean a2)))) := hD
    refine lv_aload_n hx hb d_Globals_add_39 rfl (lv_at hl 0 rfl) ?_
    refine va_get (D := (dC, dI)) (ci := 5) (v := .ref (ad 19)) hx hb hts i_Globals hown hK hP 5 rfl rfl 4 (by decide) (hts _ w_b3be3f9e23) (fun _ h9 => h9) rfl d_Globals_add_40 ?_
    refine lv_aload_n hx hb d_Globals_add_43 rfl (lv_at hl 0 rfl) ?_
    refine va_get (D := (dC, dI)) (ci := 5) (v := .int (σ.1 10)) hx hb hts i_Globals hown hK hP 5 rfl rfl 6 (by decide) (hts _ w_2120be7327) (fun _ h9 => h9) rfl d_Globals_add_44 ?_
    refine lv_iload_n hx hb d_Globals_add_47 rfl (lv_at hl 3 rfl) ?_
    obtain ⟨g_5, hF⟩ := gdE hF
    refine va_iast (f := (σ.2.2.1 4)) hx hb hK hP hD hS 19 0 rfl rfl (inE g_5) d_Globals_add_48 (fun H locs hP hD hS => ?_)
    have hP : va_P (dC, dI) vwCl (tcw ad cA (sA (sA (sL σ 2 (vp_updL (σ.2.2.2 2) (σ.1 10).toNatClampNeg r2)) 3 (upd (σ.2.2.1 3) (σ.1 10).toNatClampNeg (vp_nar .boolean a2))) 4 (upd (σ.2.2.1 4) (σ.1 10).toNatClampNeg a3))) H := hP
    have hD : va_D A (tcw ad cA (sA (sA (sL σ 2 (vp_updL (σ.2.2.2 2) (σ.1 10).toNatClampNeg r2)) 3 (upd (σ.2.2.1 3) (σ.1 10).toNatClampNeg (vp_nar .boolean a2))) 4 (upd (σ.2.2.1 4) (σ.1 10).toNatClampNeg a3))) := hD
    refine lv_aload_n hx hb d_Globals_add_49 rfl (lv_at hl 0 rfl) ?_
    refine va_get (D := (dC, dI)) (ci := 5) (v := .ref (ad 20)) hx hb hts i_Globals hown hK hP 5 rfl rfl 5 (by decide) (hts _ w_9c141b8f60) (fun _ h9 => h9) rfl d_Globals_add_50 ?_
    refine lv_aload_n hx hb d_Globals_add_53 rfl (lv_at hl 0 rfl) ?_
    refine va_get (D := (dC, dI)) (ci := 5) (v := .int (σ.1 10)) hx hb hts i_Globals hown hK hP 5 rfl rfl 6 (by decide) (hts _ w_2120be7327) (fun _ h9 => h9) rfl d_Globals_add_54 ?_
    refine lv_iload hx hb d_Globals_add_57 (lv_at hl 4 rfl) ?_
    obtain ⟨g_6, hF⟩ := gdE hF
    refine va_iast (f := (σ.2.2.1 5)) hx hb hK hP hD hS 20 0 rfl rfl (inE g_6) d_Globals_add_59 (fun H locs hP hD hS => ?_)
    have hP : va_P (dC, dI) vwCl (tcw ad cA (sA (sA (sA (sL σ 2 (vp_updL (σ.2.2.2 2) (σ.1 10).toNatClampNeg r2)) 3 (upd (σ.2.2.1 3) (σ.1 10).toNatClampNeg (vp_nar .boolean a2))) 4 (upd (σ.2.2.1 4) (σ.1 10).toNatClampNeg a3)) 5 (upd (σ.2.2.1 5) (σ.1 10).toNatClampNeg a4))) H := hP
    have hD : va_D A (tcw ad cA (sA (sA (sA (sL σ 2 (vp_updL (σ.2.2.2 2) (σ.1 10).toNatClampNeg r2)) 3 (upd (σ.2.2.1 3) (σ.1 10).toNatClampNeg (vp_nar .boolean a2))) 4 (upd (σ.2.2.1 4) (σ.1 10).toNatClampNeg a3)) 5 (upd (σ.2.2.1 5) (σ.1 10).toNatClampNeg a4))) := hD
    refine lv_aload_n hx hb d_Globals_add_60 rfl (lv_at hl 0 rfl) ?_
    refine lv_dup hx hb d_Globals_add_61 rfl ?_
    refine va_get (D := (dC, dI)) (ci := 5) (v := .int (σ.1 10)) hx hb hts i_Globals hown hK hP 5 rfl rfl 6 (by decide) (hts _ w_2120be7327) (fun _ h9 => h9) rfl d_Globals_add_62 ?_
    refine lv_iconst (v := 1) hx hb d_Globals_add_65 (by decide) ?_
    refine lv_iadd hx hb d_Globals_add_66 ?_
    refine va_put (D := (dC, dI)) (ci := 5) (v := .int ((σ.1 10) + 1)) (ty := .int) hx hb hts i_Globals t_Globals t_Globals_ok n_Globals hown hK hP hD hS 5 rfl rfl 6 (by decide) (hts _ w_2120be7327) (fun _ h9 => h9) rfl (by decide +kernel) rfl rfl (Nat.le_of_ble_eq_true rfl) d_Globals_add_67 (fun H locs hP hD hS => ?_)
    have hP : va_P (dC, dI) vwCl (tcw ad cA (sI (sA (sA (sA (sL σ 2 (vp_updL (σ.2.2.2 2) (σ.1 10).toNatClampNeg r2)) 3 (upd (σ.2.2.1 3) (σ.1 10).toNatClampNeg (vp_nar .boolean a2))) 4 (upd (σ.2.2.1 4) (σ.1 10).toNatClampNeg a3)) 5 (upd (σ.2.2.1 5) (σ.1 10).toNatClampNeg a4)) 10 ((σ.1 10) + 1))) H := hP
    have hD : va_D A (tcw ad cA (sI (sA (sA (sA (sL σ 2 (vp_updL (σ.2.2.2 2) (σ.1 10).toNatClampNeg r2)) 3 (upd (σ.2.2.1 3) (σ.1 10).toNatClampNeg (vp_nar .boolean a2))) 4 (upd (σ.2.2.1 4) (σ.1 10).toNatClampNeg a3)) 5 (upd (σ.2.2.1 5) (σ.1 10).toNatClampNeg a4)) 10 ((σ.1 10) + 1))) := hD
    cases hF
    exact leafV X hP hD hS d_Globals_add_70
theorem d_Globals_isNew_0 : decode b_Globals_isNew 0 = .ok (.aload_n 0, 1) := by decide +kernel
theorem d_Globals_isNew_1 : decode b_Globals_isNew 1 = .ok (.aload_n 0, 1) := by decide +kernel
theorem d_Globals_isNew_2 : decode b_Globals_isNew 2 = .ok (.getfield 36, 3) := by decide +kernel
theorem d_Globals_isNew_5 : decode b_Globals_isNew 5 = .ok (.iload_n 1, 1) := by decide +kernel
theorem d_Globals_isNew_6 : decode b_Globals_isNew 6 = .ok (.invokevirtual 44, 3) := by decide +kernel
theorem d_Globals_isNew_9 : decode b_Globals_isNew 9 = .ok (.invokevirtual 70, 3) := by decide +kernel
theorem d_Globals_isNew_12 : decode b_Globals_isNew 12 = .ok (.ifCond .ge 7, 3) := by decide +kernel
theorem d_Globals_isNew_15 : decode b_Globals_isNew 15 = .ok (.iconst 1, 1) := by decide +kernel
theorem d_Globals_isNew_16 : decode b_Globals_isNew 16 = .ok (.goto 4, 3) := by decide +kernel
theorem d_Globals_isNew_19 : decode b_Globals_isNew 19 = .ok (.iconst 0, 1) := by decide +kernel
theorem d_Globals_isNew_20 : decode b_Globals_isNew 20 = .ok (.ireturn, 1) := by decide +kernel
def tGlobals_isNew (σ : St) (a1 : Int32) : Option (Int32) := b1 (tTokens_valueOf σ a1) (fun r1 => b1 (tGlobals_find σ r1) (fun r2 => if (0 : Int32) ≤ r2 then some 0 else some 1))
set_option maxHeartbeats 4000000 in
set_option maxRecDepth 100000 in
theorem ct_Globals_isNew (l : Launch) (dC : Nat → ClassId) (dI : Nat → Nat → Nat) (ad : Nat → Nat) (cA : Nat → ClassId) (sz : Nat) {σ : St} {a1 : Int32} {r : Int32} (hF : tGlobals_isNew σ a1 = some r) : MI l y_Globals_isNew b_Globals_isNew 2 (some .boolean) { frames := 1, cells := 0, slots := 0, locals := 23 } (dC, dI) (ttys cA) ad (tcw ad cA) [.ref (ad 5), .int a1] σ sz r σ := by
  refine startM (own := "TinyForge$Globals") (Qc := fun A => QI (dC, dI) (ttys cA) (tcw ad cA) A r σ) rfl rfl (Nat.le_of_ble_eq_true rfl) ?_
  intro p e s m below meth c A H locs ls X hP hD hS hl
  have hl : lv_has ls 2 [(0, .ref (ad 5)), (1, .int a1)] := hl
  obtain ⟨hx, hb, hr, hml, hown, hlocks, hts, hA, hK, hZ⟩ := id X
  unfold tGlobals_isNew at hF
  refine lv_aload_n hx hb d_Globals_isNew_0 rfl (lv_at hl 0 rfl) ?_
  refine lv_aload_n hx hb d_Globals_isNew_1 rfl (lv_at hl 0 rfl) ?_
  refine va_get (D := (dC, dI)) (ci := 5) (v := .ref (ad 2)) hx hb hts i_Globals hown hK hP 5 rfl rfl 0 (by decide) (hts _ w_029488eab2) (fun _ h9 => h9) rfl d_Globals_isNew_2 ?_
  refine lv_iload_n hx hb d_Globals_isNew_5 rfl (lv_at hl 1 rfl) ?_
  obtain ⟨r1, h1, hF⟩ := b1E hF
  refine callVJ (As := [.int a1]) X (ct_Tokens_valueOf l dC dI ad cA H.size h1) lk_Globals_44 ⟨rfl, rfl, by decide, by decide⟩ 2 rfl rfl hP hD hS hl.1 rfl rfl (Nat.le_of_ble_eq_true rfl) d_Globals_isNew_6 (fun H locs hP hD hS => ?_)
  obtain ⟨r2, h2, hF⟩ := b1E hF
  refine callVI (As := [.long r1]) X (ct_Globals_find l dC dI ad cA H.size h2) lk_Globals_70 ⟨rfl, rfl, by decide, by decide⟩ 5 rfl rfl hP hD hS hl.1 rfl rfl (Nat.le_of_ble_eq_true rfl) d_Globals_isNew_9 (fun H locs hP hD hS => ?_)
  refine lv_if_ge (tgt := 19) hx hb d_Globals_isNew_12 (by decide) (fun c_3 => ?_) (fun c_3 => ?_)
  · have hF := ifp hF c_3
    refine lv_iconst (v := 0) hx hb d_Globals_isNew_19 (by decide) ?_
    cases hF
    exact leafZ X hP hD hS (by decide) d_Globals_isNew_20
  · have hF := ifn hF c_3
    refine lv_iconst (v := 1) hx hb d_Globals_isNew_15 (by decide) ?_
    refine lv_goto (tgt := 20) hx hb d_Globals_isNew_16 (by decide) ?_
    cases hF
    exact leafZ X hP hD hS (by decide) d_Globals_isNew_20
theorem d_Globals_makeArray_0 : decode b_Globals_makeArray 0 = .ok (.aload_n 0, 1) := by decide +kernel
theorem d_Globals_makeArray_1 : decode b_Globals_makeArray 1 = .ok (.getfield 36, 3) := by decide +kernel
theorem d_Globals_makeArray_4 : decode b_Globals_makeArray 4 = .ok (.iload_n 2, 1) := by decide +kernel
theorem d_Globals_makeArray_5 : decode b_Globals_makeArray 5 = .ok (.invokevirtual 44, 3) := by decide +kernel
theorem d_Globals_makeArray_8 : decode b_Globals_makeArray 8 = .ok (.lstore_n 3, 1) := by decide +kernel
theorem d_Globals_makeArray_9 : decode b_Globals_makeArray 9 = .ok (.lload_n 3, 1) := by decide +kernel
theorem d_Globals_makeArray_10 : decode b_Globals_makeArray 10 = .ok (.lconst 1, 1) := by decide +kernel
theorem d_Globals_makeArray_11 : decode b_Globals_makeArray 11 = .ok (.lcmp, 1) := by decide +kernel
theorem d_Globals_makeArray_12 : decode b_Globals_makeArray 12 = .ok (.ifCond .lt 11, 3) := by decide +kernel
theorem d_Globals_makeArray_15 : decode b_Globals_makeArray 15 = .ok (.lload_n 3, 1) := by decide +kernel
theorem d_Globals_makeArray_16 : decode b_Globals_makeArray 16 = .ok (.ldc2_w 50, 3) := by decide +kernel
theorem d_Globals_makeArray_19 : decode b_Globals_makeArray 19 = .ok (.lcmp, 1) := by decide +kernel
theorem d_Globals_makeArray_20 : decode b_Globals_makeArray 20 = .ok (.ifCond .le 20, 3) := by decide +kernel
theorem d_Globals_makeArray_23 : decode b_Globals_makeArray 23 = .ok (.aload_n 0, 1) := by decide +kernel
theorem d_Globals_makeArray_24 : decode b_Globals_makeArray 24 = .ok (.getfield 40, 3) := by decide +kernel
theorem d_Globals_makeArray_27 : decode b_Globals_makeArray 27 = .ok (.aload_n 0, 1) := by decide +kernel
theorem d_Globals_makeArray_28 : decode b_Globals_makeArray 28 = .ok (.getfield 36, 3) := by decide +kernel
theorem d_Globals_makeArray_31 : decode b_Globals_makeArray 31 = .ok (.iload_n 2, 1) := by decide +kernel
theorem d_Globals_makeArray_32 : decode b_Globals_makeArray 32 = .ok (.invokevirtual 52, 3) := by decide +kernel
theorem d_Globals_makeArray_35 : decode b_Globals_makeArray 35 = .ok (.invokevirtual 56, 3) := by decide +kernel
theorem d_Globals_makeArray_38 : decode b_Globals_makeArray 38 = .ok (.lconst 0, 1) := by decide +kernel
theorem d_Globals_makeArray_39 : decode b_Globals_makeArray 39 = .ok (.lstore_n 3, 1) := by decide +kernel
theorem d_Globals_makeArray_40 : decode b_Globals_makeArray 40 = .ok (.aload_n 0, 1) := by decide +kernel
theorem d_Globals_makeArray_41 : decode b_Globals_makeArray 41 = .ok (.getfield 30, 3) := by decide +kernel
theorem d_Globals_makeArray_44 : decode b_Globals_makeArray 44 = .ok (.iconst 4, 1) := by decide +kernel
theorem d_Globals_makeArray_45 : decode b_Globals_makeArray 45 = .ok (.if_icmp .ge 39, 3) := by decide +kernel
theorem d_Globals_makeArray_48 : decode b_Globals_makeArray 48 = .ok (.aload_n 0, 1) := by decide +kernel
theorem d_Globals_makeArray_49 : decode b_Globals_makeArray 49 = .ok (.iload_n 1, 1) := by decide +kernel
theorem d_Globals_makeArray_50 : decode b_Globals_makeArray 50 = .ok (.invokevirtual 62, 3) := by decide +kernel
theorem d_Globals_makeArray_53 : decode b_Globals_makeArray 53 = .ok (.ifCond .eq 31, 3) := by decide +kernel
theorem d_Globals_makeArray_56 : decode b_Globals_makeArray 56 = .ok (.aload_n 0, 1) := by decide +kernel
theorem d_Globals_makeArray_57 : decode b_Globals_makeArray 57 = .ok (.iload_n 1, 1) := by decide +kernel
theorem d_Globals_makeArray_58 : decode b_Globals_makeArray 58 = .ok (.iconst 0, 1) := by decide +kernel
theorem d_Globals_makeArray_59 : decode b_Globals_makeArray 59 = .ok (.aload_n 0, 1) := by decide +kernel
theorem d_Globals_makeArray_60 : decode b_Globals_makeArray 60 = .ok (.getfield 30, 3) := by decide +kernel
theorem d_Globals_makeArray_63 : decode b_Globals_makeArray 63 = .ok (.bipush 16, 2) := by decide +kernel
theorem d_Globals_makeArray_65 : decode b_Globals_makeArray 65 = .ok (.imul, 1) := by decide +kernel
theorem d_Globals_makeArray_66 : decode b_Globals_makeArray 66 = .ok (.lload_n 3, 1) := by decide +kernel
theorem d_Globals_makeArray_67 : decode b_Globals_makeArray 67 = .ok (.l2i, 1) := by decide +kernel
theorem d_Globals_makeArray_68 : decode b_Globals_makeArray 68 = .ok (.invokevirtual 66, 3) := by decide +kernel
theorem d_Globals_makeArray_71 : decode b_Globals_makeArray 71 = .ok (.aload_n 0, 1) := by decide +kernel
theorem d_Globals_makeArray_72 : decode b_Globals_makeArray 72 = .ok (.dup, 1) := by decide +kernel
theorem d_Globals_makeArray_73 : decode b_Globals_makeArray 73 = .ok (.getfield 30, 3) := by decide +kernel
theorem d_Globals_makeArray_76 : decode b_Globals_makeArray 76 = .ok (.iconst 1, 1) := by decide +kernel
theorem d_Globals_makeArray_77 : decode b_Globals_makeArray 77 = .ok (.iadd, 1) := by decide +kernel
theorem d_Globals_makeArray_78 : decode b_Globals_makeArray 78 = .ok (.putfield 30, 3) := by decide +kernel
theorem d_Globals_makeArray_81 : decode b_Globals_makeArray 81 = .ok (.goto 18, 3) := by decide +kernel
theorem d_Globals_makeArray_84 : decode b_Globals_makeArray 84 = .ok (.aload_n 0, 1) := by decide +kernel
theorem d_Globals_makeArray_85 : decode b_Globals_makeArray 85 = .ok (.getfield 40, 3) := by decide +kernel
theorem d_Globals_makeArray_88 : decode b_Globals_makeArray 88 = .ok (.aload_n 0, 1) := by decide +kernel
theorem d_Globals_makeArray_89 : decode b_Globals_makeArray 89 = .ok (.getfield 36, 3) := by decide +kernel
theorem d_Globals_makeArray_92 : decode b_Globals_makeArray 92 = .ok (.iload_n 1, 1) := by decide +kernel
theorem d_Globals_makeArray_93 : decode b_Globals_makeArray 93 = .ok (.invokevirtual 52, 3) := by decide +kernel
theorem d_Globals_makeArray_96 : decode b_Globals_makeArray 96 = .ok (.invokevirtual 56, 3) := by decide +kernel
theorem d_Globals_makeArray_99 : decode b_Globals_makeArray 99 = .ok (.return_, 1) := by decide +kernel
def tGlobals_makeArray_b1 (k : Nat → St → Int32 → Int32 → Int64 → Option (St)) (σ : St) (x1 : Int32) (x2 : Int32) (y1 : Int64) : Option (St) := b1 (tTokens_placeOf σ x2) (fun r4 => b1 (tRefusal_blameName σ r4) (fun u5 => k 2 u5 x1 0 0))
def tGlobals_makeArray_b2 (k : Nat → St → Int32 → Int32 → Int64 → Option (St)) (σ : St) (x1 : Int32) (x2 : Int32) (y1 : Int64) : Option (St) := if (4 : Int32) ≤ (σ.1 11) then k 3 σ x1 0 0 else b1 (tGlobals_isNew σ x1) (fun r7 => if r7 = 0 then k 3 σ x1 0 0 else b1 (tGlobals_add σ x1 0 ((σ.1 11) * 16) ((y1 : Int64).toInt32)) (fun u9 => some (sI u9 11 ((u9.1 11) + 1))))
def tGlobals_makeArray_b3 (k : Nat → St → Int32 → Int32 → Int64 → Option (St)) (σ : St) (x1 : Int32) (x2 : Int32) (y1 : Int64) : Option (St) := b1 (tTokens_placeOf σ x1) (fun r10 => b1 (tRefusal_blameName σ r10) (fun u11 => some u11))
def tGlobals_makeArray_L : Nat → Nat → St → Int32 → Int32 → Int64 → Option (St)
  | 0, _, _, _, _, _ => none
  | n + 1, lab, σ, x1, x2, y1 => match lab with
    | 1 => tGlobals_makeArray_b1 (tGlobals_makeArray_L n) σ x1 x2 y1
    | 2 => tGlobals_makeArray_b2 (tGlobals_makeArray_L n) σ x1 x2 y1
    | 3 => tGlobals_makeArray_b3 (tGlobals_makeArray_L n) σ x1 x2 y1
    | _ => none
def tGlobals_makeArray (σ : St) (a1 : Int32) (a2 : Int32) : Option (St) := b1 (tTokens_valueOf σ a2) (fun r1 => if (lg_cmp r1 1) < 0 then tGlobals_makeArray_L 2000 1 σ a1 a2 0 else if (lg_cmp r1 16) ≤ 0 then tGlobals_makeArray_L 2000 2 σ a1 0 r1 else tGlobals_makeArray_L 2000 1 σ a1 a2 0)
set_option maxHeartbeats 4000000 in
set_option maxRecDepth 100000 in
theorem tGlobals_makeArray_blk {p : Program} {e : Env} {s : State} {m : MethodId} {args : Array Value} {below : List Frame} {meth : Method} {c : Code} {A : Nat → Prop} (l : Launch) (dC : Nat → ClassId) (dI : Nat → Nat → Nat) (ad : Nat → Nat) (cA : Nat → ClassId) {σ' : St} (X : Cx p s m args meth c b_Globals_makeArray 5 none "TinyForge$Globals" (dC, dI) (ttys cA) ad A) : ∀ n : Nat, (∀ (σ : St) (x1 : Int32) (x2 : Int32) (y1 : Int64) (H : Heap) (locs : List Loc) (ls : Array Slot), tGlobals_makeArray_L n 1 σ x1 x2 y1 = some σ' → va_P (dC, dI) vwCl (tcw ad cA σ) H → va_D A (tcw ad cA σ) → va_S A s.heap H locs → lv_has ls 5 [(0, .ref (ad 5)), (1, .int x1), (2, .int x2)] → W p l e { frames := 2, cells := 0, slots := 0, locals := 45 } s m args below meth c H locs 0 0 (MQ below (QV (dC, dI) (ttys cA) (tcw ad cA) A σ') args s 0 0 A) (F0 m 23 ls [])) ∧ (∀ (σ : St) (x1 : Int32) (x2 : Int32) (y1 : Int64) (H : Heap) (locs : List Loc) (ls : Array Slot), tGlobals_makeArray_L n 2 σ x1 x2 y1 = some σ' → va_P (dC, dI) vwCl (tcw ad cA σ) H → va_D A (tcw ad cA σ) → va_S A s.heap H locs → lv_has ls 5 [(0, .ref (ad 5)), (1, .int x1), (3, .long y1)] → W p l e { frames := 2, cells := 0, slots := 0, locals := 45 } s m args below meth c H locs 0 0 (MQ below (QV (dC, dI) (ttys cA) (tcw ad cA) A σ') args s 0 0 A) (F0 m 40 ls [])) ∧ (∀ (σ : St) (x1 : Int32) (x2 : Int32) (y1 : Int64) (H : Heap) (locs : List Loc) (ls : Array Slot), tGlobals_makeArray_L n 3 σ x1 x2 y1 = some σ' → va_P (dC, dI) vwCl (tcw ad cA σ) H → va_D A (tcw ad cA σ) → va_S A s.heap H locs → lv_has ls 5 [(0, .ref (ad 5)), (1, .int x1)] → W p l e { frames := 2, cells := 0, slots := 0, locals := 45 } s m args below meth c H locs 0 0 (MQ below (QV (dC, dI) (ttys cA) (tcw ad cA) A σ') args s 0 0 A) (F0 m 84 ls [])) := by
  obtain ⟨hx, hb, hr, hml, hown, hlocks, hts, hA, hK, hZ⟩ := id X
  intro n
  induction n with
  | zero => exact ⟨(fun σ x1 x2 y1 H locs ls hF => by cases hF), (fun σ x1 x2 y1 H locs ls hF => by cases hF), (fun σ x1 x2 y1 H locs ls hF => by cases hF)⟩
  | succ n ihn =>
    refine ⟨fun σ x1 x2 y1 H locs ls hF hP hD hS hl => ?_, fun σ x1 x2 y1 H locs ls hF hP hD hS hl => ?_, fun σ x1 x2 y1 H locs ls hF hP hD hS hl => ?_⟩
    · have hF : tGlobals_makeArray_b1 (tGlobals_makeArray_L n) σ x1 x2 y1 = some σ' := hF
      unfold tGlobals_makeArray_b1 at hF
      refine lv_aload_n hx hb d_Globals_makeArray_23 rfl (lv_at hl 0 rfl) ?_
      refine va_get (D := (dC, dI)) (ci := 5) (v := .ref (ad 1)) hx hb hts i_Globals hown hK hP 5 rfl rfl 1 (by decide) (hts _ w_41613a3bcb) (fun _ h9 => h9) rfl d_Globals_makeArray_24 ?_
      refine lv_aload_n hx hb d_Globals_makeArray_27 rfl (lv_at hl 0 rfl) ?_
      refine va_get (D := (dC, dI)) (ci := 5) (v := .ref (ad 2)) hx hb hts i_Globals hown hK hP 5 rfl rfl 0 (by decide) (hts _ w_029488eab2) (fun _ h9 => h9) rfl d_Globals_makeArray_28 ?_
      refine lv_iload_n hx hb d_Globals_makeArray_31 rfl (lv_at hl 2 rfl) ?_
      obtain ⟨r4, h4, hF⟩ := b1E hF
      refine callVI (As := [.int x2]) X (ct_Tokens_placeOf l dC dI ad cA H.size h4) lk_Globals_52 ⟨rfl, rfl, by decide, by decide⟩ 2 rfl rfl hP hD hS hl.1 rfl rfl (Nat.le_of_ble_eq_true rfl) d_Globals_makeArray_32 (fun H locs hP hD hS => ?_)
      obtain ⟨u5, h5, hF⟩ := b1E hF
      refine callVV (As := [.int r4]) X (ct_Refusal_blameName l dC dI ad cA H.size h5) lk_Globals_56 ⟨rfl, rfl, by decide, by decide⟩ 1 rfl rfl hP hD hS hl.1 rfl rfl (Nat.le_of_ble_eq_true rfl) d_Globals_makeArray_35 (fun H locs hP hD hS => ?_)
      refine lv_lconst (v := 0) hx hb d_Globals_makeArray_38 (by decide) ?_
      refine lv_lstore_n (lv' := [(3, .long 0), (0, .ref (ad 5)), (1, .int x1), (2, .int x2)]) hx hb d_Globals_makeArray_39 rfl hl (by decide) rfl (fun ls hl => ?_)
      exact ihn.2.1 u5 x1 0 0 H locs ls hF hP hD hS (lv_sub hl [1, 2, 0] rfl)
    · have hF : tGlobals_makeArray_b2 (tGlobals_makeArray_L n) σ x1 x2 y1 = some σ' := hF
      unfold tGlobals_makeArray_b2 at hF
      refine lv_aload_n hx hb d_Globals_makeArray_40 rfl (lv_at hl 0 rfl) ?_
      refine va_get (D := (dC, dI)) (ci := 5) (v := .int (σ.1 11)) hx hb hts i_Globals hown hK hP 5 rfl rfl 7 (by decide) (hts _ w_053c5b20fd) (fun _ h9 => h9) rfl d_Globals_makeArray_41 ?_
      refine lv_iconst (v := 4) hx hb d_Globals_makeArray_44 (by decide) ?_
      refine lv_icmp_ge (tgt := 84) hx hb d_Globals_makeArray_45 (by decide) (fun c_6 => ?_) (fun c_6 => ?_)
      · have hF := ifp hF c_6
        exact ihn.2.2 σ x1 0 0 H locs ls hF hP hD hS (lv_sub hl [0, 1] rfl)
      · have hF := ifn hF c_6
        refine lv_aload_n hx hb d_Globals_makeArray_48 rfl (lv_at hl 0 rfl) ?_
        refine lv_iload_n hx hb d_Globals_makeArray_49 rfl (lv_at hl 1 rfl) ?_
        obtain ⟨r7, h7, hF⟩ := b1E hF
        refine callVI (As := [.int x1]) X (ct_Globals_isNew l dC dI ad cA H.size h7) lk_Globals_62 ⟨rfl, rfl, by decide, by decide⟩ 5 rfl rfl hP hD hS hl.1 rfl rfl (Nat.le_of_ble_eq_true rfl) d_Globals_makeArray_50 (fun H locs hP hD hS => ?_)
        refine lv_if_eq (tgt := 84) hx hb d_Globals_makeArray_53 (by decide) (fun c_8 => ?_) (fun c_8 => ?_)
        · have hF := ifp hF c_8
          exact ihn.2.2 σ x1 0 0 H locs ls hF hP hD hS (lv_sub hl [0, 1] rfl)
        · have hF := ifn hF c_8
          refine lv_aload_n hx hb d_Globals_makeArray_56 rfl (lv_at hl 0 rfl) ?_
          refine lv_iload_n hx hb d_Globals_makeArray_57 rfl (lv_at hl 1 rfl) ?_
          refine lv_iconst (v := 0) hx hb d_Globals_makeArray_58 (by decide) ?_
          refine lv_aload_n hx hb d_Globals_makeArray_59 rfl (lv_at hl 0 rfl) ?_
          refine va_get (D := (dC, dI)) (ci := 5) (v := .int (σ.1 11)) hx hb hts i_Globals hown hK hP 5 rfl rfl 7 (by decide) (hts _ w_053c5b20fd) (fun _ h9 => h9) rfl d_Globals_makeArray_60 ?_
          refine lv_bipush (v := 16) hx hb d_Globals_makeArray_63 (by decide) ?_
          refine lv_imul hx hb d_Globals_makeArray_65 ?_
          refine lv_lload_n hx hb d_Globals_makeArray_66 rfl (lv_at hl 2 rfl) ?_
          refine lv_l2i (v := (y1 : Int64).toInt32) hx hb d_Globals_makeArray_67 rfl ?_
          obtain ⟨u9, h9, hF⟩ := b1E hF
          refine callVV (As := [.int x1, .int 0, .int ((σ.1 11) * 16), .int ((y1 : Int64).toInt32)]) X (ct_Globals_add l dC dI ad cA H.size h9) lk_Globals_66 ⟨rfl, rfl, by decide, by decide⟩ 5 rfl rfl hP hD hS hl.1 rfl rfl (Nat.le_of_ble_eq_true rfl) d_Globals_makeArray_68 (fun H locs hP hD hS => ?_)
          refine lv_aload_n hx hb d_Globals_makeArray_71 rfl (lv_at hl 0 rfl) ?_
          refine lv_dup hx hb d_Globals_makeArray_72 rfl ?_
          refine va_get (D := (dC, dI)) (ci := 5) (v := .int (u9.1 11)) hx hb hts i_Globals hown hK hP 5 rfl rfl 7 (by decide) (hts _ w_053c5b20fd) (fun _ h9 => h9) rfl d_Globals_makeArray_73 ?_
          refine lv_iconst (v := 1) hx hb d_Globals_makeArray_76 (by decide) ?_
          refine lv_iadd hx hb d_Globals_makeArray_77 ?_
          refine va_put (D := (dC, dI)) (ci := 5) (v := .int ((u9.1 11) + 1)) (ty := .int) hx hb hts i_Globals t_Globals t_Globals_ok n_Globals hown hK hP hD hS 5 rfl rfl 7 (by decide) (hts _ w_053c5b20fd) (fun _ h9 => h9) rfl (by decide +kernel) rfl rfl (Nat.le_of_ble_eq_true rfl) d_Globals_makeArray_78 (fun H locs hP hD hS => ?_)
          have hP : va_P (dC, dI) vwCl (tcw ad cA (sI u9 11 ((u9.1 11) + 1))) H := hP
          have hD : va_D A (tcw ad cA (sI u9 11 ((u9.1 11) + 1))) := hD
          refine lv_goto (tgt := 99) hx hb d_Globals_makeArray_81 (by decide) ?_
          cases hF
          exact leafV X hP hD hS d_Globals_makeArray_99
    · have hF : tGlobals_makeArray_b3 (tGlobals_makeArray_L n) σ x1 x2 y1 = some σ' := hF
      unfold tGlobals_makeArray_b3 at hF
      refine lv_aload_n hx hb d_Globals_makeArray_84 rfl (lv_at hl 0 rfl) ?_
      refine va_get (D := (dC, dI)) (ci := 5) (v := .ref (ad 1)) hx hb hts i_Globals hown hK hP 5 rfl rfl 1 (by decide) (hts _ w_41613a3bcb) (fun _ h9 => h9) rfl d_Globals_makeArray_85 ?_
      refine lv_aload_n hx hb d_Globals_makeArray_88 rfl (lv_at hl 0 rfl) ?_
      refine va_get (D := (dC, dI)) (ci := 5) (v := .ref (ad 2)) hx hb hts i_Globals hown hK hP 5 rfl rfl 0 (by decide) (hts _ w_029488eab2) (fun _ h9 => h9) rfl d_Globals_makeArray_89 ?_
      refine lv_iload_n hx hb d_Globals_makeArray_92 rfl (lv_at hl 1 rfl) ?_
      obtain ⟨r10, h10, hF⟩ := b1E hF
      refine callVI (As := [.int x1]) X (ct_Tokens_placeOf l dC dI ad cA H.size h10) lk_Globals_52 ⟨rfl, rfl, by decide, by decide⟩ 2 rfl rfl hP hD hS hl.1 rfl rfl (Nat.le_of_ble_eq_true rfl) d_Globals_makeArray_93 (fun H locs hP hD hS => ?_)
      obtain ⟨u11, h11, hF⟩ := b1E hF
      refine callVV (As := [.int r10]) X (ct_Refusal_blameName l dC dI ad cA H.size h11) lk_Globals_56 ⟨rfl, rfl, by decide, by decide⟩ 1 rfl rfl hP hD hS hl.1 rfl rfl (Nat.le_of_ble_eq_true rfl) d_Globals_makeArray_96 (fun H locs hP hD hS => ?_)
      cases hF
      exact leafV X hP hD hS d_Globals_makeArray_99
set_option maxHeartbeats 4000000 in
set_option maxRecDepth 100000 in
theorem ct_Globals_makeArray (l : Launch) (dC : Nat → ClassId) (dI : Nat → Nat → Nat) (ad : Nat → Nat) (cA : Nat → ClassId) (sz : Nat) {σ : St} {a1 : Int32} {a2 : Int32} {σ' : St} (hF : tGlobals_makeArray σ a1 a2 = some σ') : MV l y_Globals_makeArray b_Globals_makeArray 5 none { frames := 2, cells := 0, slots := 0, locals := 45 } (dC, dI) (ttys cA) ad (tcw ad cA) [.ref (ad 5), .int a1, .int a2] σ sz σ' := by
  refine startM (own := "TinyForge$Globals") (Qc := fun A => QV (dC, dI) (ttys cA) (tcw ad cA) A σ') rfl rfl (Nat.le_of_ble_eq_true rfl) ?_
  intro p e s m below meth c A H locs ls X hP hD hS hl
  have hl : lv_has ls 5 [(0, .ref (ad 5)), (1, .int a1), (2, .int a2)] := hl
  obtain ⟨hx, hb, hr, hml, hown, hlocks, hts, hA, hK, hZ⟩ := id X
  unfold tGlobals_makeArray at hF
  refine lv_aload_n hx hb d_Globals_makeArray_0 rfl (lv_at hl 0 rfl) ?_
  refine va_get (D := (dC, dI)) (ci := 5) (v := .ref (ad 2)) hx hb hts i_Globals hown hK hP 5 rfl rfl 0 (by decide) (hts _ w_029488eab2) (fun _ h9 => h9) rfl d_Globals_makeArray_1 ?_
  refine lv_iload_n hx hb d_Globals_makeArray_4 rfl (lv_at hl 2 rfl) ?_
  obtain ⟨r1, h1, hF⟩ := b1E hF
  refine callVJ (As := [.int a2]) X (ct_Tokens_valueOf l dC dI ad cA H.size h1) lk_Globals_44 ⟨rfl, rfl, by decide, by decide⟩ 2 rfl rfl hP hD hS hl.1 rfl rfl (Nat.le_of_ble_eq_true rfl) d_Globals_makeArray_5 (fun H locs hP hD hS => ?_)
  refine lv_lstore_n (lv' := [(3, .long r1), (0, .ref (ad 5)), (1, .int a1), (2, .int a2)]) hx hb d_Globals_makeArray_8 rfl hl (by decide) rfl (fun ls hl => ?_)
  refine lv_lload_n hx hb d_Globals_makeArray_9 rfl (lv_at hl 0 rfl) ?_
  refine lv_lconst (v := 1) hx hb d_Globals_makeArray_10 (by decide) ?_
  refine W.lcmp hx hb d_Globals_makeArray_11 ?_
  refine lv_if_lt (tgt := 23) hx hb d_Globals_makeArray_12 (by decide) (fun c_2 => ?_) (fun c_2 => ?_)
  · have hF := ifp hF c_2
    exact (tGlobals_makeArray_blk l dC dI ad cA X 2000).1 σ a1 a2 0 H locs ls hF hP hD hS (lv_sub hl [1, 2, 3] rfl)
  · have hF := ifn hF c_2
    refine lv_lload_n hx hb d_Globals_makeArray_15 rfl (lv_at hl 0 rfl) ?_
    refine lv_ldc2 (v := 16) hx hb hown (hts _ w_c60c440ac5) d_Globals_makeArray_16 ?_
    refine W.lcmp hx hb d_Globals_makeArray_19 ?_
    refine lv_if_le (tgt := 40) hx hb d_Globals_makeArray_20 (by decide) (fun c_3 => ?_) (fun c_3 => ?_)
    · have hF := ifp hF c_3
      exact (tGlobals_makeArray_blk l dC dI ad cA X 2000).2.1 σ a1 0 r1 H locs ls hF hP hD hS (lv_sub hl [1, 2, 0] rfl)
    · have hF := ifn hF c_3
      exact (tGlobals_makeArray_blk l dC dI ad cA X 2000).1 σ a1 a2 0 H locs ls hF hP hD hS (lv_sub hl [1, 2, 3] rfl)
theorem d_Globals_makeFunction_0 : decode b_Globals_makeFunction 0 = .ok (.aload_n 0, 1) := by decide +kernel
theorem d_Globals_makeFunction_1 : decode b_Globals_makeFunction 1 = .ok (.getfield 33, 3) := by decide +kernel
theorem d_Globals_makeFunction_4 : decode b_Globals_makeFunction 4 = .ok (.bipush 8, 2) := by decide +kernel
theorem d_Globals_makeFunction_6 : decode b_Globals_makeFunction 6 = .ok (.if_icmp .ge 32, 3) := by decide +kernel
theorem d_Globals_makeFunction_9 : decode b_Globals_makeFunction 9 = .ok (.aload_n 0, 1) := by decide +kernel
theorem d_Globals_makeFunction_10 : decode b_Globals_makeFunction 10 = .ok (.iload_n 1, 1) := by decide +kernel
theorem d_Globals_makeFunction_11 : decode b_Globals_makeFunction 11 = .ok (.invokevirtual 62, 3) := by decide +kernel
theorem d_Globals_makeFunction_14 : decode b_Globals_makeFunction 14 = .ok (.ifCond .eq 24, 3) := by decide +kernel
theorem d_Globals_makeFunction_17 : decode b_Globals_makeFunction 17 = .ok (.aload_n 0, 1) := by decide +kernel
theorem d_Globals_makeFunction_18 : decode b_Globals_makeFunction 18 = .ok (.iload_n 1, 1) := by decide +kernel
theorem d_Globals_makeFunction_19 : decode b_Globals_makeFunction 19 = .ok (.iconst 1, 1) := by decide +kernel
theorem d_Globals_makeFunction_20 : decode b_Globals_makeFunction 20 = .ok (.iload_n 2, 1) := by decide +kernel
theorem d_Globals_makeFunction_21 : decode b_Globals_makeFunction 21 = .ok (.iload_n 3, 1) := by decide +kernel
theorem d_Globals_makeFunction_22 : decode b_Globals_makeFunction 22 = .ok (.invokevirtual 66, 3) := by decide +kernel
theorem d_Globals_makeFunction_25 : decode b_Globals_makeFunction 25 = .ok (.aload_n 0, 1) := by decide +kernel
theorem d_Globals_makeFunction_26 : decode b_Globals_makeFunction 26 = .ok (.dup, 1) := by decide +kernel
theorem d_Globals_makeFunction_27 : decode b_Globals_makeFunction 27 = .ok (.getfield 33, 3) := by decide +kernel
theorem d_Globals_makeFunction_30 : decode b_Globals_makeFunction 30 = .ok (.iconst 1, 1) := by decide +kernel
theorem d_Globals_makeFunction_31 : decode b_Globals_makeFunction 31 = .ok (.iadd, 1) := by decide +kernel
theorem d_Globals_makeFunction_32 : decode b_Globals_makeFunction 32 = .ok (.putfield 33, 3) := by decide +kernel
theorem d_Globals_makeFunction_35 : decode b_Globals_makeFunction 35 = .ok (.goto 18, 3) := by decide +kernel
theorem d_Globals_makeFunction_38 : decode b_Globals_makeFunction 38 = .ok (.aload_n 0, 1) := by decide +kernel
theorem d_Globals_makeFunction_39 : decode b_Globals_makeFunction 39 = .ok (.getfield 40, 3) := by decide +kernel
theorem d_Globals_makeFunction_42 : decode b_Globals_makeFunction 42 = .ok (.aload_n 0, 1) := by decide +kernel
theorem d_Globals_makeFunction_43 : decode b_Globals_makeFunction 43 = .ok (.getfield 36, 3) := by decide +kernel
theorem d_Globals_makeFunction_46 : decode b_Globals_makeFunction 46 = .ok (.iload_n 1, 1) := by decide +kernel
theorem d_Globals_makeFunction_47 : decode b_Globals_makeFunction 47 = .ok (.invokevirtual 52, 3) := by decide +kernel
theorem d_Globals_makeFunction_50 : decode b_Globals_makeFunction 50 = .ok (.invokevirtual 56, 3) := by decide +kernel
theorem d_Globals_makeFunction_53 : decode b_Globals_makeFunction 53 = .ok (.return_, 1) := by decide +kernel
def tGlobals_makeFunction_b1 (k : Nat → St → Int32 → Option (St)) (σ : St) (x1 : Int32) : Option (St) := b1 (tTokens_placeOf σ x1) (fun r5 => b1 (tRefusal_blameName σ r5) (fun u6 => some u6))
def tGlobals_makeFunction_L : Nat → Nat → St → Int32 → Option (St)
  | 0, _, _, _ => none
  | n + 1, lab, σ, x1 => match lab with
    | 1 => tGlobals_makeFunction_b1 (tGlobals_makeFunction_L n) σ x1
    | _ => none
def tGlobals_makeFunction (σ : St) (a1 : Int32) (a2 : Int32) (a3 : Int32) : Option (St) := if (8 : Int32) ≤ (σ.1 12) then tGlobals_makeFunction_L 2000 1 σ a1 else b1 (tGlobals_isNew σ a1) (fun r2 => if r2 = 0 then tGlobals_makeFunction_L 2000 1 σ a1 else b1 (tGlobals_add σ a1 1 a2 a3) (fun u4 => some (sI u4 12 ((u4.1 12) + 1))))
set_option maxHeartbeats 4000000 in
set_option maxRecDepth 100000 in
theorem tGlobals_makeFunction_blk {p : Program} {e : Env} {s : State} {m : MethodId} {args : Array Value} {below : List Frame} {meth : Method} {c : Code} {A : Nat → Prop} (l : Launch) (dC : Nat → ClassId) (dI : Nat → Nat → Nat) (ad : Nat → Nat) (cA : Nat → ClassId) {σ' : St} (X : Cx p s m args meth c b_Globals_makeFunction 4 none "TinyForge$Globals" (dC, dI) (ttys cA) ad A) : ∀ n : Nat, (∀ (σ : St) (x1 : Int32) (H : Heap) (locs : List Loc) (ls : Array Slot), tGlobals_makeFunction_L n 1 σ x1 = some σ' → va_P (dC, dI) vwCl (tcw ad cA σ) H → va_D A (tcw ad cA σ) → va_S A s.heap H locs → lv_has ls 4 [(0, .ref (ad 5)), (1, .int x1)] → W p l e { frames := 2, cells := 0, slots := 0, locals := 45 } s m args below meth c H locs 0 0 (MQ below (QV (dC, dI) (ttys cA) (tcw ad cA) A σ') args s 0 0 A) (F0 m 38 ls [])) := by
  obtain ⟨hx, hb, hr, hml, hown, hlocks, hts, hA, hK, hZ⟩ := id X
  intro n
  induction n with
  | zero => exact (fun σ x1 H locs ls hF => by cases hF)
  | succ n ihn =>
    refine fun σ x1 H locs ls hF hP hD hS hl => ?_
    · have hF : tGlobals_makeFunction_b1 (tGlobals_makeFunction_L n) σ x1 = some σ' := hF
      unfold tGlobals_makeFunction_b1 at hF
      refine lv_aload_n hx hb d_Globals_makeFunction_38 rfl (lv_at hl 0 rfl) ?_
      refine va_get (D := (dC, dI)) (ci := 5) (v := .ref (ad 1)) hx hb hts i_Globals hown hK hP 5 rfl rfl 1 (by decide) (hts _ w_41613a3bcb) (fun _ h9 => h9) rfl d_Globals_makeFunction_39 ?_
      refine lv_aload_n hx hb d_Globals_makeFunction_42 rfl (lv_at hl 0 rfl) ?_
      refine va_get (D := (dC, dI)) (ci := 5) (v := .ref (ad 2)) hx hb hts i_Globals hown hK hP 5 rfl rfl 0 (by decide) (hts _ w_029488eab2) (fun _ h9 => h9) rfl d_Globals_makeFunction_43 ?_
      refine lv_iload_n hx hb d_Globals_makeFunction_46 rfl (lv_at hl 1 rfl) ?_
      obtain ⟨r5, h5, hF⟩ := b1E hF
      refine callVI (As := [.int x1]) X (ct_Tokens_placeOf l dC dI ad cA H.size h5) lk_Globals_52 ⟨rfl, rfl, by decide, by decide⟩ 2 rfl rfl hP hD hS hl.1 rfl rfl (Nat.le_of_ble_eq_true rfl) d_Globals_makeFunction_47 (fun H locs hP hD hS => ?_)
      obtain ⟨u6, h6, hF⟩ := b1E hF
      refine callVV (As := [.int r5]) X (ct_Refusal_blameName l dC dI ad cA H.size h6) lk_Globals_56 ⟨rfl, rfl, by decide, by decide⟩ 1 rfl rfl hP hD hS hl.1 rfl rfl (Nat.le_of_ble_eq_true rfl) d_Globals_makeFunction_50 (fun H locs hP hD hS => ?_)
      cases hF
      exact leafV X hP hD hS d_Globals_makeFunction_53
set_option maxHeartbeats 4000000 in
set_option maxRecDepth 100000 in
theorem ct_Globals_makeFunction (l : Launch) (dC : Nat → ClassId) (dI : Nat → Nat → Nat) (ad : Nat → Nat) (cA : Nat → ClassId) (sz : Nat) {σ : St} {a1 : Int32} {a2 : Int32} {a3 : Int32} {σ' : St} (hF : tGlobals_makeFunction σ a1 a2 a3 = some σ') : MV l y_Globals_makeFunction b_Globals_makeFunction 4 none { frames := 2, cells := 0, slots := 0, locals := 45 } (dC, dI) (ttys cA) ad (tcw ad cA) [.ref (ad 5), .int a1, .int a2, .int a3] σ sz σ' := by
  refine startM (own := "TinyForge$Globals") (Qc := fun A => QV (dC, dI) (ttys cA) (tcw ad cA) A σ') rfl rfl (Nat.le_of_ble_eq_true rfl) ?_
  intro p e s m below meth c A H locs ls X hP hD hS hl
  have hl : lv_has ls 4 [(0, .ref (ad 5)), (1, .int a1), (2, .int a2), (3, .int a3)] := hl
  obtain ⟨hx, hb, hr, hml, hown, hlocks, hts, hA, hK, hZ⟩ := id X
  unfold tGlobals_makeFunction at hF
  refine lv_aload_n hx hb d_Globals_makeFunction_0 rfl (lv_at hl 0 rfl) ?_
  refine va_get (D := (dC, dI)) (ci := 5) (v := .int (σ.1 12)) hx hb hts i_Globals hown hK hP 5 rfl rfl 8 (by decide) (hts _ w_0ba47f98a3) (fun _ h9 => h9) rfl d_Globals_makeFunction_1 ?_
  refine lv_bipush (v := 8) hx hb d_Globals_makeFunction_4 (by decide) ?_
  refine lv_icmp_ge (tgt := 38) hx hb d_Globals_makeFunction_6 (by decide) (fun c_1 => ?_) (fun c_1 => ?_)
  · have hF := ifp hF c_1
    exact (tGlobals_makeFunction_blk l dC dI ad cA X 2000) σ a1 H locs ls hF hP hD hS (lv_sub hl [0, 1] rfl)
  · have hF := ifn hF c_1
    refine lv_aload_n hx hb d_Globals_makeFunction_9 rfl (lv_at hl 0 rfl) ?_
    refine lv_iload_n hx hb d_Globals_makeFunction_10 rfl (lv_at hl 1 rfl) ?_
    obtain ⟨r2, h2, hF⟩ := b1E hF
    refine callVI (As := [.int a1]) X (ct_Globals_isNew l dC dI ad cA H.size h2) lk_Globals_62 ⟨rfl, rfl, by decide, by decide⟩ 5 rfl rfl hP hD hS hl.1 rfl rfl (Nat.le_of_ble_eq_true rfl) d_Globals_makeFunction_11 (fun H locs hP hD hS => ?_)
    refine lv_if_eq (tgt := 38) hx hb d_Globals_makeFunction_14 (by decide) (fun c_3 => ?_) (fun c_3 => ?_)
    · have hF := ifp hF c_3
      exact (tGlobals_makeFunction_blk l dC dI ad cA X 2000) σ a1 H locs ls hF hP hD hS (lv_sub hl [0, 1] rfl)
    · have hF := ifn hF c_3
      refine lv_aload_n hx hb d_Globals_makeFunction_17 rfl (lv_at hl 0 rfl) ?_
      refine lv_iload_n hx hb d_Globals_makeFunction_18 rfl (lv_at hl 1 rfl) ?_
      refine lv_iconst (v := 1) hx hb d_Globals_makeFunction_19 (by decide) ?_
      refine lv_iload_n hx hb d_Globals_makeFunction_20 rfl (lv_at hl 2 rfl) ?_
      refine lv_iload_n hx hb d_Globals_makeFunction_21 rfl (lv_at hl 3 rfl) ?_
      obtain ⟨u4, h4, hF⟩ := b1E hF
      refine callVV (As := [.int a1, .int 1, .int a2, .int a3]) X (ct_Globals_add l dC dI ad cA H.size h4) lk_Globals_66 ⟨rfl, rfl, by decide, by decide⟩ 5 rfl rfl hP hD hS hl.1 rfl rfl (Nat.le_of_ble_eq_true rfl) d_Globals_makeFunction_22 (fun H locs hP hD hS => ?_)
      refine lv_aload_n hx hb d_Globals_makeFunction_25 rfl (lv_at hl 0 rfl) ?_
      refine lv_dup hx hb d_Globals_makeFunction_26 rfl ?_
      refine va_get (D := (dC, dI)) (ci := 5) (v := .int (u4.1 12)) hx hb hts i_Globals hown hK hP 5 rfl rfl 8 (by decide) (hts _ w_0ba47f98a3) (fun _ h9 => h9) rfl d_Globals_makeFunction_27 ?_
      refine lv_iconst (v := 1) hx hb d_Globals_makeFunction_30 (by decide) ?_
      refine lv_iadd hx hb d_Globals_makeFunction_31 ?_
      refine va_put (D := (dC, dI)) (ci := 5) (v := .int ((u4.1 12) + 1)) (ty := .int) hx hb hts i_Globals t_Globals t_Globals_ok n_Globals hown hK hP hD hS 5 rfl rfl 8 (by decide) (hts _ w_0ba47f98a3) (fun _ h9 => h9) rfl (by decide +kernel) rfl rfl (Nat.le_of_ble_eq_true rfl) d_Globals_makeFunction_32 (fun H locs hP hD hS => ?_)
      have hP : va_P (dC, dI) vwCl (tcw ad cA (sI u4 12 ((u4.1 12) + 1))) H := hP
      have hD : va_D A (tcw ad cA (sI u4 12 ((u4.1 12) + 1))) := hD
      refine lv_goto (tgt := 53) hx hb d_Globals_makeFunction_35 (by decide) ?_
      cases hF
      exact leafV X hP hD hS d_Globals_makeFunction_53
