theorem d_Forge_forge_0 : decode b_Forge_forge 0 = .ok (.aload_n 0, 1) := by decide +kernel
theorem d_Forge_forge_1 : decode b_Forge_forge 1 = .ok (.getfield 75, 3) := by decide +kernel
theorem d_Forge_forge_4 : decode b_Forge_forge 4 = .ok (.invokevirtual 105, 3) := by decide +kernel
theorem d_Forge_forge_7 : decode b_Forge_forge 7 = .ok (.aload_n 0, 1) := by decide +kernel
theorem d_Forge_forge_8 : decode b_Forge_forge 8 = .ok (.getfield 19, 3) := by decide +kernel
theorem d_Forge_forge_11 : decode b_Forge_forge 11 = .ok (.invokevirtual 108, 3) := by decide +kernel
theorem d_Forge_forge_14 : decode b_Forge_forge 14 = .ok (.aload_n 0, 1) := by decide +kernel
theorem d_Forge_forge_15 : decode b_Forge_forge 15 = .ok (.getfield 28, 3) := by decide +kernel
theorem d_Forge_forge_18 : decode b_Forge_forge 18 = .ok (.invokevirtual 109, 3) := by decide +kernel
theorem d_Forge_forge_21 : decode b_Forge_forge 21 = .ok (.aload_n 0, 1) := by decide +kernel
theorem d_Forge_forge_22 : decode b_Forge_forge 22 = .ok (.getfield 19, 3) := by decide +kernel
theorem d_Forge_forge_25 : decode b_Forge_forge 25 = .ok (.invokevirtual 112, 3) := by decide +kernel
theorem d_Forge_forge_28 : decode b_Forge_forge 28 = .ok (.ifCond .eq 10, 3) := by decide +kernel
theorem d_Forge_forge_31 : decode b_Forge_forge 31 = .ok (.aload_n 0, 1) := by decide +kernel
theorem d_Forge_forge_32 : decode b_Forge_forge 32 = .ok (.getfield 59, 3) := by decide +kernel
theorem d_Forge_forge_35 : decode b_Forge_forge 35 = .ok (.invokevirtual 116, 3) := by decide +kernel
theorem d_Forge_forge_38 : decode b_Forge_forge 38 = .ok (.aload_n 0, 1) := by decide +kernel
theorem d_Forge_forge_39 : decode b_Forge_forge 39 = .ok (.getfield 19, 3) := by decide +kernel
theorem d_Forge_forge_42 : decode b_Forge_forge 42 = .ok (.invokevirtual 112, 3) := by decide +kernel
theorem d_Forge_forge_45 : decode b_Forge_forge 45 = .ok (.ifCond .eq 14, 3) := by decide +kernel
theorem d_Forge_forge_48 : decode b_Forge_forge 48 = .ok (.aload_n 0, 1) := by decide +kernel
theorem d_Forge_forge_49 : decode b_Forge_forge 49 = .ok (.getfield 37, 3) := by decide +kernel
theorem d_Forge_forge_52 : decode b_Forge_forge 52 = .ok (.aload_n 0, 1) := by decide +kernel
theorem d_Forge_forge_53 : decode b_Forge_forge 53 = .ok (.getfield 44, 3) := by decide +kernel
theorem d_Forge_forge_56 : decode b_Forge_forge 56 = .ok (.invokevirtual 119, 3) := by decide +kernel
theorem d_Forge_forge_59 : decode b_Forge_forge 59 = .ok (.aload_n 0, 1) := by decide +kernel
theorem d_Forge_forge_60 : decode b_Forge_forge 60 = .ok (.aload_n 0, 1) := by decide +kernel
theorem d_Forge_forge_61 : decode b_Forge_forge 61 = .ok (.getfield 19, 3) := by decide +kernel
theorem d_Forge_forge_64 : decode b_Forge_forge 64 = .ok (.invokevirtual 112, 3) := by decide +kernel
theorem d_Forge_forge_67 : decode b_Forge_forge 67 = .ok (.putfield 79, 3) := by decide +kernel
theorem d_Forge_forge_70 : decode b_Forge_forge 70 = .ok (.aload_n 0, 1) := by decide +kernel
theorem d_Forge_forge_71 : decode b_Forge_forge 71 = .ok (.getfield 79, 3) := by decide +kernel
theorem d_Forge_forge_74 : decode b_Forge_forge 74 = .ok (.ifCond .ne 11, 3) := by decide +kernel
theorem d_Forge_forge_77 : decode b_Forge_forge 77 = .ok (.new 123, 3) := by decide +kernel
theorem d_Forge_forge_80 : decode b_Forge_forge 80 = .ok (.dup, 1) := by decide +kernel
theorem d_Forge_forge_81 : decode b_Forge_forge 81 = .ok (.invokespecial 125, 3) := by decide +kernel
theorem d_Forge_forge_84 : decode b_Forge_forge 84 = .ok (.athrow, 1) := by decide +kernel
theorem d_Forge_forge_85 : decode b_Forge_forge 85 = .ok (.aload_n 0, 1) := by decide +kernel
theorem d_Forge_forge_86 : decode b_Forge_forge 86 = .ok (.getfield 37, 3) := by decide +kernel
theorem d_Forge_forge_89 : decode b_Forge_forge 89 = .ok (.getfield 126, 3) := by decide +kernel
theorem d_Forge_forge_92 : decode b_Forge_forge 92 = .ok (.ireturn, 1) := by decide +kernel
theorem xa_Forge_125 : ∀ w ∈ Bundle.ownAtoms0 "TinyForge" 125 (exn 3) ["java/lang/RuntimeException", "java/lang/Exception"], w ∈ th_four ∨ w ∈ th_nw ∨ w ∈ BIG := th_in (by decide +kernel)
def tForge_forge_b1 (k : Nat → St → Option (Nat × Int32 × St)) (σ : St) : Option (Nat × Int32 × St) := b1 (tRefusal_isNone σ) (fun r7 => if r7 = 0 then k 2 σ  else b1 (tGlobals_join σ) (fun u9 => k 2 u9 ))
def tForge_forge_b2 (k : Nat → St → Option (Nat × Int32 × St)) (σ : St) : Option (Nat × Int32 × St) := b1 (tRefusal_isNone σ) (fun r10 => gd (nZ r10) (if r10 = 0 then some (3, 0, (sI σ 25 r10)) else some (0, (σ.1 12), (sI σ 25 r10))))
def tForge_forge_L : Nat → Nat → St → Option (Nat × Int32 × St)
  | 0, _, _ => none
  | n + 1, lab, σ => match lab with
    | 1 => tForge_forge_b1 (tForge_forge_L n) σ 
    | 2 => tForge_forge_b2 (tForge_forge_L n) σ 
    | _ => none
def tForge_forge (σ : St) : Option (Nat × Int32 × St) := b1 (tMachine_forget σ) (fun u1 => b1 (tRefusal_forget u1) (fun u2 => b1 (tTokens_takeAll u2) (fun u3 => b1 (tRefusal_isNone u3) (fun r4 => if r4 = 0 then tForge_forge_L 2000 1 u3  else b1 (tGrammar_readWhole u3) (fun u6 => tForge_forge_L 2000 1 u6 )))))
set_option maxHeartbeats 4000000 in
set_option maxRecDepth 100000 in
theorem tForge_forge_blk {p : Program} {e : Env} {s : State} {m : MethodId} {args : Array Value} {below : List Frame} {meth : Method} {c : Code} {A : Nat → Prop} (l : Launch) (dC : Nat → ClassId) (dI : Nat → Nat → Nat) (ad : Nat → Nat) (cA : Nat → ClassId) {k : Nat} {r : Int32} {σ' : St} (htr : l.stackTraces = false) (hS0 : th_S A s s.heap) (hex : c.exceptionTable.toList = []) (X : Cx p s m args meth c b_Forge_forge 1 (some .int) "TinyForge" (dC, dI) (ttys cA) ad A) : ∀ n : Nat, (∀ (σ : St) (H : Heap) (locs : List Loc) (ls : Array Slot), tForge_forge_L n 1 σ  = some (k, r, σ') → va_P (dC, dI) vwCl (tcw ad cA σ) H → va_D A (tcw ad cA σ) → va_S A s.heap H locs → lv_has ls 1 [(0, .ref (ad 10))] → W p l e { frames := 88, cells := 1, slots := 6, locals := 2008 } s m args below meth c H locs 0 0 (XMQ below (QX (dC, dI) (ttys cA) (tcw ad cA) A k r σ') args s) (F0 m 38 ls [])) ∧ (∀ (σ : St) (H : Heap) (locs : List Loc) (ls : Array Slot), tForge_forge_L n 2 σ  = some (k, r, σ') → va_P (dC, dI) vwCl (tcw ad cA σ) H → va_D A (tcw ad cA σ) → va_S A s.heap H locs → lv_has ls 1 [(0, .ref (ad 10))] → W p l e { frames := 88, cells := 1, slots := 6, locals := 2008 } s m args below meth c H locs 0 0 (XMQ below (QX (dC, dI) (ttys cA) (tcw ad cA) A k r σ') args s) (F0 m 59 ls [])) := by
  obtain ⟨hx, hb, hr, hml, hown, hlocks, hts, hA, hK, hZ⟩ := id X
  intro n
  induction n with
  | zero => exact ⟨(fun σ  H locs ls hF => by cases hF), (fun σ  H locs ls hF => by cases hF)⟩
  | succ n ihn =>
    refine ⟨fun σ  H locs ls hF hP hD hS hl => ?_, fun σ  H locs ls hF hP hD hS hl => ?_⟩
    · have hF : tForge_forge_b1 (tForge_forge_L n) σ  = some (k, r, σ') := hF
      unfold tForge_forge_b1 at hF
      refine lv_aload_n hx hb d_Forge_forge_38 rfl (lv_at hl 0 rfl) ?_
      refine va_get (D := (dC, dI)) (ci := 10) (v := .ref (ad 1)) hx hb hts i_Forge hown hK hP 10 rfl rfl 2 (by decide) (hts _ w_58c4e7e825) (fun _ h9 => h9) rfl d_Forge_forge_39 ?_
      obtain ⟨r7, h7, hF⟩ := b1E hF
      refine callVI (As := []) X (ct_Refusal_isNone l dC dI ad cA H.size h7) lk_Forge_112 ⟨rfl, rfl, by decide, by decide⟩ 1 rfl rfl hP hD hS hl.1 rfl rfl (Nat.le_of_ble_eq_true rfl) d_Forge_forge_42 (fun H locs hP hD hS => ?_)
      refine lv_if_eq (tgt := 59) hx hb d_Forge_forge_45 (by decide) (fun c_8 => ?_) (fun c_8 => ?_)
      · have hF := ifp hF c_8
        exact ihn.2 σ  H locs ls hF hP hD hS (lv_sub hl [0] rfl)
      · have hF := ifn hF c_8
        refine lv_aload_n hx hb d_Forge_forge_48 rfl (lv_at hl 0 rfl) ?_
        refine va_get (D := (dC, dI)) (ci := 10) (v := .ref (ad 5)) hx hb hts i_Forge hown hK hP 10 rfl rfl 3 (by decide) (hts _ w_286a29465e) (fun _ h9 => h9) rfl d_Forge_forge_49 ?_
        refine lv_aload_n hx hb d_Forge_forge_52 rfl (lv_at hl 0 rfl) ?_
        refine va_get (D := (dC, dI)) (ci := 10) (v := .ref (ad 6)) hx hb hts i_Forge hown hK hP 10 rfl rfl 4 (by decide) (hts _ w_4f3e17bcfb) (fun _ h9 => h9) rfl d_Forge_forge_53 ?_
        obtain ⟨u9, h9, hF⟩ := b1E hF
        refine callVV (As := [.ref (ad 6)]) X (ct_Globals_join l dC dI ad cA H.size h9) lk_Forge_119 ⟨rfl, rfl, by decide, by decide⟩ 5 rfl rfl hP hD hS hl.1 rfl rfl (Nat.le_of_ble_eq_true rfl) d_Forge_forge_56 (fun H locs hP hD hS => ?_)
        exact ihn.2 u9  H locs ls hF hP hD hS (lv_sub hl [0] rfl)
    · have hF : tForge_forge_b2 (tForge_forge_L n) σ  = some (k, r, σ') := hF
      unfold tForge_forge_b2 at hF
      refine lv_aload_n hx hb d_Forge_forge_59 rfl (lv_at hl 0 rfl) ?_
      refine lv_aload_n hx hb d_Forge_forge_60 rfl (lv_at hl 0 rfl) ?_
      refine va_get (D := (dC, dI)) (ci := 10) (v := .ref (ad 1)) hx hb hts i_Forge hown hK hP 10 rfl rfl 2 (by decide) (hts _ w_58c4e7e825) (fun _ h9 => h9) rfl d_Forge_forge_61 ?_
      obtain ⟨r10, h10, hF⟩ := b1E hF
      refine callVI (As := []) X (ct_Refusal_isNone l dC dI ad cA H.size h10) lk_Forge_112 ⟨rfl, rfl, by decide, by decide⟩ 1 rfl rfl hP hD hS hl.1 rfl rfl (Nat.le_of_ble_eq_true rfl) d_Forge_forge_64 (fun H locs hP hD hS => ?_)
      obtain ⟨g_11, hF⟩ := gdE hF
      refine va_put (D := (dC, dI)) (ci := 10) (v := .int r10) (ty := .boolean) hx hb hts i_Forge t_Forge t_Forge_ok n_Forge hown hK hP hD hS 10 rfl rfl 8 (by decide) (hts _ w_658ecc5cfd) (fun _ h9 => h9) rfl (by decide +kernel) (nZN g_11) (nZF g_11) (Nat.le_of_ble_eq_true rfl) d_Forge_forge_67 (fun H locs hP hD hS => ?_)
      have hP : va_P (dC, dI) vwCl (tcw ad cA (sI σ 25 r10)) H := hP
      have hD : va_D A (tcw ad cA (sI σ 25 r10)) := hD
      refine lv_aload_n hx hb d_Forge_forge_70 rfl (lv_at hl 0 rfl) ?_
      refine va_get (D := (dC, dI)) (ci := 10) (v := .int r10) hx hb hts i_Forge hown hK hP 10 rfl rfl 8 (by decide) (hts _ w_658ecc5cfd) (fun _ h9 => h9) rfl d_Forge_forge_71 ?_
      refine lv_if_ne (tgt := 85) hx hb d_Forge_forge_74 (by decide) (fun c_12 => ?_) (fun c_12 => ?_)
      · have hF := ifn hF c_12
        refine lv_aload_n hx hb d_Forge_forge_85 rfl (lv_at hl 0 rfl) ?_
        refine va_get (D := (dC, dI)) (ci := 10) (v := .ref (ad 5)) hx hb hts i_Forge hown hK hP 10 rfl rfl 3 (by decide) (hts _ w_286a29465e) (fun _ h9 => h9) rfl d_Forge_forge_86 ?_
        refine va_get (D := (dC, dI)) (ci := 5) (v := .int (σ.1 12)) hx hb hts i_Globals hown hK hP 5 rfl rfl 8 (by decide) (hts _ w_8a9efad9a7) (fun _ h9 => h9) rfl d_Forge_forge_89 ?_
        cases hF
        exact leafX X hP hD hS d_Forge_forge_92
      · have hF := ifp hF c_12
        cases hF
        exact throwX (k := 3) (ik := 123) (ic := 125) (names := ["java/lang/RuntimeException", "java/lang/Exception"]) X htr (by decide) hS0 hex w_44135caa74 w_fd3c3195c2 xa_Forge_125 (by decide +kernel) (by decide +kernel) hP hD hS hl.1 d_Forge_forge_77 d_Forge_forge_80 d_Forge_forge_81 d_Forge_forge_84 ⟨by decide, Nat.le_of_ble_eq_true rfl, by decide, by decide⟩
set_option maxHeartbeats 4000000 in
set_option maxRecDepth 100000 in
theorem ct_Forge_forge (l : Launch) (htr : l.stackTraces = false) (dC : Nat → ClassId) (dI : Nat → Nat → Nat) (ad : Nat → Nat) (cA : Nat → ClassId) (sz : Nat) {σ : St} {k : Nat} {r : Int32} {σ' : St} (hF : tForge_forge σ = some (k, r, σ')) : MX l y_Forge_forge b_Forge_forge 1 (some .int) { frames := 88, cells := 1, slots := 6, locals := 2008 } (dC, dI) (ttys cA) ad (tcw ad cA) [.ref (ad 10)] σ sz k r σ' := by
  refine startX (own := "TinyForge") rfl rfl (Nat.le_of_ble_eq_true rfl) ?_
  intro p e s m below meth c A H locs ls X hex hS0 hP hD hS hl
  have hl : lv_has ls 1 [(0, .ref (ad 10))] := hl
  obtain ⟨hx, hb, hr, hml, hown, hlocks, hts, hA, hK, hZ⟩ := id X
  unfold tForge_forge at hF
  refine lv_aload_n hx hb d_Forge_forge_0 rfl (lv_at hl 0 rfl) ?_
  refine va_get (D := (dC, dI)) (ci := 10) (v := .ref (ad 9)) hx hb hts i_Forge hown hK hP 10 rfl rfl 7 (by decide) (hts _ w_e37fbb6cf6) (fun _ h9 => h9) rfl d_Forge_forge_1 ?_
  obtain ⟨u1, h1, hF⟩ := b1E hF
  refine callVV (As := []) X (ct_Machine_forget l dC dI ad cA H.size h1) lk_Forge_105 ⟨rfl, rfl, by decide, by decide⟩ 9 rfl rfl hP hD hS hl.1 rfl rfl (Nat.le_of_ble_eq_true rfl) d_Forge_forge_4 (fun H locs hP hD hS => ?_)
  refine lv_aload_n hx hb d_Forge_forge_7 rfl (lv_at hl 0 rfl) ?_
  refine va_get (D := (dC, dI)) (ci := 10) (v := .ref (ad 1)) hx hb hts i_Forge hown hK hP 10 rfl rfl 2 (by decide) (hts _ w_58c4e7e825) (fun _ h9 => h9) rfl d_Forge_forge_8 ?_
  obtain ⟨u2, h2, hF⟩ := b1E hF
  refine callVV (As := []) X (ct_Refusal_forget l dC dI ad cA H.size h2) lk_Forge_108 ⟨rfl, rfl, by decide, by decide⟩ 1 rfl rfl hP hD hS hl.1 rfl rfl (Nat.le_of_ble_eq_true rfl) d_Forge_forge_11 (fun H locs hP hD hS => ?_)
  refine lv_aload_n hx hb d_Forge_forge_14 rfl (lv_at hl 0 rfl) ?_
  refine va_get (D := (dC, dI)) (ci := 10) (v := .ref (ad 2)) hx hb hts i_Forge hown hK hP 10 rfl rfl 1 (by decide) (hts _ w_a2226fc1f7) (fun _ h9 => h9) rfl d_Forge_forge_15 ?_
  obtain ⟨u3, h3, hF⟩ := b1E hF
  refine callVV (As := []) X (ct_Tokens_takeAll l dC dI ad cA H.size h3) lk_Forge_109 ⟨rfl, rfl, by decide, by decide⟩ 2 rfl rfl hP hD hS hl.1 rfl rfl (Nat.le_of_ble_eq_true rfl) d_Forge_forge_18 (fun H locs hP hD hS => ?_)
  refine lv_aload_n hx hb d_Forge_forge_21 rfl (lv_at hl 0 rfl) ?_
  refine va_get (D := (dC, dI)) (ci := 10) (v := .ref (ad 1)) hx hb hts i_Forge hown hK hP 10 rfl rfl 2 (by decide) (hts _ w_58c4e7e825) (fun _ h9 => h9) rfl d_Forge_forge_22 ?_
  obtain ⟨r4, h4, hF⟩ := b1E hF
  refine callVI (As := []) X (ct_Refusal_isNone l dC dI ad cA H.size h4) lk_Forge_112 ⟨rfl, rfl, by decide, by decide⟩ 1 rfl rfl hP hD hS hl.1 rfl rfl (Nat.le_of_ble_eq_true rfl) d_Forge_forge_25 (fun H locs hP hD hS => ?_)
  refine lv_if_eq (tgt := 38) hx hb d_Forge_forge_28 (by decide) (fun c_5 => ?_) (fun c_5 => ?_)
  · have hF := ifp hF c_5
    exact (tForge_forge_blk l dC dI ad cA htr hS0 hex X 2000).1 u3  H locs ls hF hP hD hS (lv_sub hl [0] rfl)
  · have hF := ifn hF c_5
    refine lv_aload_n hx hb d_Forge_forge_31 rfl (lv_at hl 0 rfl) ?_
    refine va_get (D := (dC, dI)) (ci := 10) (v := .ref (ad 7)) hx hb hts i_Forge hown hK hP 10 rfl rfl 5 (by decide) (hts _ w_aecaaf825e) (fun _ h9 => h9) rfl d_Forge_forge_32 ?_
    obtain ⟨u6, h6, hF⟩ := b1E hF
    refine callVV (As := []) X (ct_Grammar_readWhole l dC dI ad cA H.size h6) lk_Forge_116 ⟨rfl, rfl, by decide, by decide⟩ 7 rfl rfl hP hD hS hl.1 rfl rfl (Nat.le_of_ble_eq_true rfl) d_Forge_forge_35 (fun H locs hP hD hS => ?_)
    exact (tForge_forge_blk l dC dI ad cA htr hS0 hex X 2000).1 u6  H locs ls hF hP hD hS (lv_sub hl [0] rfl)
theorem d_Forge_give_0 : decode b_Forge_give 0 = .ok (.aload_n 0, 1) := by decide +kernel
theorem d_Forge_give_1 : decode b_Forge_give 1 = .ok (.getfield 66, 3) := by decide +kernel
theorem d_Forge_give_4 : decode b_Forge_give 4 = .ok (.getfield 135, 3) := by decide +kernel
theorem d_Forge_give_7 : decode b_Forge_give 7 = .ok (.bipush 20, 2) := by decide +kernel
theorem d_Forge_give_9 : decode b_Forge_give 9 = .ok (.if_icmp .lt 11, 3) := by decide +kernel
theorem d_Forge_give_12 : decode b_Forge_give 12 = .ok (.new 94, 3) := by decide +kernel
theorem d_Forge_give_15 : decode b_Forge_give 15 = .ok (.dup, 1) := by decide +kernel
theorem d_Forge_give_16 : decode b_Forge_give 16 = .ok (.invokespecial 96, 3) := by decide +kernel
theorem d_Forge_give_19 : decode b_Forge_give 19 = .ok (.athrow, 1) := by decide +kernel
theorem d_Forge_give_20 : decode b_Forge_give 20 = .ok (.aload_n 0, 1) := by decide +kernel
theorem d_Forge_give_21 : decode b_Forge_give 21 = .ok (.getfield 66, 3) := by decide +kernel
theorem d_Forge_give_24 : decode b_Forge_give 24 = .ok (.iload_n 1, 1) := by decide +kernel
theorem d_Forge_give_25 : decode b_Forge_give 25 = .ok (.invokevirtual 138, 3) := by decide +kernel
theorem d_Forge_give_28 : decode b_Forge_give 28 = .ok (.aload_n 0, 1) := by decide +kernel
theorem d_Forge_give_29 : decode b_Forge_give 29 = .ok (.getfield 66, 3) := by decide +kernel
theorem d_Forge_give_32 : decode b_Forge_give 32 = .ok (.getfield 135, 3) := by decide +kernel
theorem d_Forge_give_35 : decode b_Forge_give 35 = .ok (.ireturn, 1) := by decide +kernel
theorem xa_Forge_96 : ∀ w ∈ Bundle.ownAtoms0 "TinyForge" 96 (exn 2) ["java/lang/RuntimeException", "java/lang/Exception"], w ∈ th_four ∨ w ∈ th_nw ∨ w ∈ BIG := th_in (by decide +kernel)
def tForge_give (σ : St) (a1 : Int32) : Option (Nat × Int32 × St) := if (σ.1 15) < 20 then b1 (tInput_add σ a1) (fun u2 => some (0, (u2.1 15), u2)) else some (2, 0, σ)
set_option maxHeartbeats 4000000 in
set_option maxRecDepth 100000 in
theorem ct_Forge_give (l : Launch) (htr : l.stackTraces = false) (dC : Nat → ClassId) (dI : Nat → Nat → Nat) (ad : Nat → Nat) (cA : Nat → ClassId) (sz : Nat) {σ : St} {a1 : Int32} {k : Nat} {r : Int32} {σ' : St} (hF : tForge_give σ a1 = some (k, r, σ')) : MX l y_Forge_give b_Forge_give 2 (some .int) { frames := 8, cells := 1, slots := 6, locals := 120 } (dC, dI) (ttys cA) ad (tcw ad cA) [.ref (ad 10), .int a1] σ sz k r σ' := by
  refine startX (own := "TinyForge") rfl rfl (Nat.le_of_ble_eq_true rfl) ?_
  intro p e s m below meth c A H locs ls X hex hS0 hP hD hS hl
  have hl : lv_has ls 2 [(0, .ref (ad 10)), (1, .int a1)] := hl
  obtain ⟨hx, hb, hr, hml, hown, hlocks, hts, hA, hK, hZ⟩ := id X
  unfold tForge_give at hF
  refine lv_aload_n hx hb d_Forge_give_0 rfl (lv_at hl 0 rfl) ?_
  refine va_get (D := (dC, dI)) (ci := 10) (v := .ref (ad 8)) hx hb hts i_Forge hown hK hP 10 rfl rfl 6 (by decide) (hts _ w_181b9836eb) (fun _ h9 => h9) rfl d_Forge_give_1 ?_
  refine va_get (D := (dC, dI)) (ci := 8) (v := .int (σ.1 15)) hx hb hts i_Input hown hK hP 8 rfl rfl 1 (by decide) (hts _ w_6ee3102b02) (fun _ h9 => h9) rfl d_Forge_give_4 ?_
  refine lv_bipush (v := 20) hx hb d_Forge_give_7 (by decide) ?_
  refine lv_icmp_lt (tgt := 20) hx hb d_Forge_give_9 (by decide) (fun c_1 => ?_) (fun c_1 => ?_)
  · have hF := ifp hF c_1
    refine lv_aload_n hx hb d_Forge_give_20 rfl (lv_at hl 0 rfl) ?_
    refine va_get (D := (dC, dI)) (ci := 10) (v := .ref (ad 8)) hx hb hts i_Forge hown hK hP 10 rfl rfl 6 (by decide) (hts _ w_181b9836eb) (fun _ h9 => h9) rfl d_Forge_give_21 ?_
    refine lv_iload_n hx hb d_Forge_give_24 rfl (lv_at hl 1 rfl) ?_
    obtain ⟨u2, h2, hF⟩ := b1E hF
    refine callVV (As := [.int a1]) X (ct_Input_add l dC dI ad cA H.size h2) lk_Forge_138 ⟨rfl, rfl, by decide, by decide⟩ 8 rfl rfl hP hD hS hl.1 rfl rfl (Nat.le_of_ble_eq_true rfl) d_Forge_give_25 (fun H locs hP hD hS => ?_)
    refine lv_aload_n hx hb d_Forge_give_28 rfl (lv_at hl 0 rfl) ?_
    refine va_get (D := (dC, dI)) (ci := 10) (v := .ref (ad 8)) hx hb hts i_Forge hown hK hP 10 rfl rfl 6 (by decide) (hts _ w_181b9836eb) (fun _ h9 => h9) rfl d_Forge_give_29 ?_
    refine va_get (D := (dC, dI)) (ci := 8) (v := .int (u2.1 15)) hx hb hts i_Input hown hK hP 8 rfl rfl 1 (by decide) (hts _ w_6ee3102b02) (fun _ h9 => h9) rfl d_Forge_give_32 ?_
    cases hF
    exact leafX X hP hD hS d_Forge_give_35
  · have hF := ifn hF c_1
    cases hF
    exact throwX (k := 2) (ik := 94) (ic := 96) (names := ["java/lang/RuntimeException", "java/lang/Exception"]) X htr (by decide) hS0 hex w_9d9014e13a w_7d49ac00c3 xa_Forge_96 (by decide +kernel) (by decide +kernel) hP hD hS hl.1 d_Forge_give_12 d_Forge_give_15 d_Forge_give_16 d_Forge_give_19 ⟨by decide, Nat.le_of_ble_eq_true rfl, by decide, by decide⟩
theorem d_Forge_run_0 : decode b_Forge_run 0 = .ok (.aload_n 0, 1) := by decide +kernel
theorem d_Forge_run_1 : decode b_Forge_run 1 = .ok (.getfield 79, 3) := by decide +kernel
theorem d_Forge_run_4 : decode b_Forge_run 4 = .ok (.ifCond .ne 11, 3) := by decide +kernel
theorem d_Forge_run_7 : decode b_Forge_run 7 = .ok (.new 141, 3) := by decide +kernel
theorem d_Forge_run_10 : decode b_Forge_run 10 = .ok (.dup, 1) := by decide +kernel
theorem d_Forge_run_11 : decode b_Forge_run 11 = .ok (.invokespecial 143, 3) := by decide +kernel
theorem d_Forge_run_14 : decode b_Forge_run 14 = .ok (.athrow, 1) := by decide +kernel
theorem d_Forge_run_15 : decode b_Forge_run 15 = .ok (.aload_n 0, 1) := by decide +kernel
theorem d_Forge_run_16 : decode b_Forge_run 16 = .ok (.getfield 75, 3) := by decide +kernel
theorem d_Forge_run_19 : decode b_Forge_run 19 = .ok (.invokevirtual 144, 3) := by decide +kernel
theorem d_Forge_run_22 : decode b_Forge_run 22 = .ok (.ireturn, 1) := by decide +kernel
theorem xa_Forge_143 : ∀ w ∈ Bundle.ownAtoms0 "TinyForge" 143 (exn 4) ["java/lang/RuntimeException", "java/lang/Exception"], w ∈ th_four ∨ w ∈ th_nw ∨ w ∈ BIG := th_in (by decide +kernel)
def tForge_run (σ : St) : Option (Nat × Int32 × St) := if (σ.1 25) = 0 then some (4, 0, σ) else b2 (tMachine_work σ) (fun r2 u2 => some (0, r2, u2))
set_option maxHeartbeats 4000000 in
set_option maxRecDepth 100000 in
theorem ct_Forge_run (l : Launch) (htr : l.stackTraces = false) (dC : Nat → ClassId) (dI : Nat → Nat → Nat) (ad : Nat → Nat) (cA : Nat → ClassId) (sz : Nat) {σ : St} {k : Nat} {r : Int32} {σ' : St} (hF : tForge_run σ = some (k, r, σ')) : MX l y_Forge_run b_Forge_run 1 (some .int) { frames := 8, cells := 1, slots := 6, locals := 120 } (dC, dI) (ttys cA) ad (tcw ad cA) [.ref (ad 10)] σ sz k r σ' := by
  refine startX (own := "TinyForge") rfl rfl (Nat.le_of_ble_eq_true rfl) ?_
  intro p e s m below meth c A H locs ls X hex hS0 hP hD hS hl
  have hl : lv_has ls 1 [(0, .ref (ad 10))] := hl
  obtain ⟨hx, hb, hr, hml, hown, hlocks, hts, hA, hK, hZ⟩ := id X
  unfold tForge_run at hF
  refine lv_aload_n hx hb d_Forge_run_0 rfl (lv_at hl 0 rfl) ?_
  refine va_get (D := (dC, dI)) (ci := 10) (v := .int (σ.1 25)) hx hb hts i_Forge hown hK hP 10 rfl rfl 8 (by decide) (hts _ w_658ecc5cfd) (fun _ h9 => h9) rfl d_Forge_run_1 ?_
  refine lv_if_ne (tgt := 15) hx hb d_Forge_run_4 (by decide) (fun c_1 => ?_) (fun c_1 => ?_)
  · have hF := ifn hF c_1
    refine lv_aload_n hx hb d_Forge_run_15 rfl (lv_at hl 0 rfl) ?_
    refine va_get (D := (dC, dI)) (ci := 10) (v := .ref (ad 9)) hx hb hts i_Forge hown hK hP 10 rfl rfl 7 (by decide) (hts _ w_e37fbb6cf6) (fun _ h9 => h9) rfl d_Forge_run_16 ?_
    obtain ⟨r2, u2, h2, hF⟩ := b2E hF
    refine callVI (As := []) X (ct_Machine_work l dC dI ad cA H.size h2) lk_Forge_144 ⟨rfl, rfl, by decide, by decide⟩ 9 rfl rfl hP hD hS hl.1 rfl rfl (Nat.le_of_ble_eq_true rfl) d_Forge_run_19 (fun H locs hP hD hS => ?_)
    cases hF
    exact leafX X hP hD hS d_Forge_run_22
  · have hF := ifp hF c_1
    cases hF
    exact throwX (k := 4) (ik := 141) (ic := 143) (names := ["java/lang/RuntimeException", "java/lang/Exception"]) X htr (by decide) hS0 hex w_9465313ec1 w_241bd6ffdb xa_Forge_143 (by decide +kernel) (by decide +kernel) hP hD hS hl.1 d_Forge_run_7 d_Forge_run_10 d_Forge_run_11 d_Forge_run_14 ⟨by decide, Nat.le_of_ble_eq_true rfl, by decide, by decide⟩
theorem d_Forge_type_0 : decode b_Forge_type 0 = .ok (.iload_n 3, 1) := by decide +kernel
theorem d_Forge_type_1 : decode b_Forge_type 1 = .ok (.iconst 1, 1) := by decide +kernel
theorem d_Forge_type_2 : decode b_Forge_type 2 = .ok (.if_icmp .lt 17, 3) := by decide +kernel
theorem d_Forge_type_5 : decode b_Forge_type 5 = .ok (.iload_n 3, 1) := by decide +kernel
theorem d_Forge_type_6 : decode b_Forge_type 6 = .ok (.bipush 8, 2) := by decide +kernel
theorem d_Forge_type_8 : decode b_Forge_type 8 = .ok (.if_icmp .gt 11, 3) := by decide +kernel
theorem d_Forge_type_11 : decode b_Forge_type 11 = .ok (.lload_n 1, 1) := by decide +kernel
theorem d_Forge_type_12 : decode b_Forge_type 12 = .ok (.iload_n 3, 1) := by decide +kernel
theorem d_Forge_type_13 : decode b_Forge_type 13 = .ok (.invokestatic 83, 3) := by decide +kernel
theorem d_Forge_type_16 : decode b_Forge_type 16 = .ok (.ifCond .ne 11, 3) := by decide +kernel
theorem d_Forge_type_19 : decode b_Forge_type 19 = .ok (.new 87, 3) := by decide +kernel
theorem d_Forge_type_22 : decode b_Forge_type 22 = .ok (.dup, 1) := by decide +kernel
theorem d_Forge_type_23 : decode b_Forge_type 23 = .ok (.invokespecial 89, 3) := by decide +kernel
theorem d_Forge_type_26 : decode b_Forge_type 26 = .ok (.athrow, 1) := by decide +kernel
theorem d_Forge_type_27 : decode b_Forge_type 27 = .ok (.aload_n 0, 1) := by decide +kernel
theorem d_Forge_type_28 : decode b_Forge_type 28 = .ok (.getfield 12, 3) := by decide +kernel
theorem d_Forge_type_31 : decode b_Forge_type 31 = .ok (.iload_n 3, 1) := by decide +kernel
theorem d_Forge_type_32 : decode b_Forge_type 32 = .ok (.invokevirtual 90, 3) := by decide +kernel
theorem d_Forge_type_35 : decode b_Forge_type 35 = .ok (.ifCond .ne 11, 3) := by decide +kernel
theorem d_Forge_type_38 : decode b_Forge_type 38 = .ok (.new 94, 3) := by decide +kernel
theorem d_Forge_type_41 : decode b_Forge_type 41 = .ok (.dup, 1) := by decide +kernel
theorem d_Forge_type_42 : decode b_Forge_type 42 = .ok (.invokespecial 96, 3) := by decide +kernel
theorem d_Forge_type_45 : decode b_Forge_type 45 = .ok (.athrow, 1) := by decide +kernel
theorem d_Forge_type_46 : decode b_Forge_type 46 = .ok (.aload_n 0, 1) := by decide +kernel
theorem d_Forge_type_47 : decode b_Forge_type 47 = .ok (.getfield 12, 3) := by decide +kernel
theorem d_Forge_type_50 : decode b_Forge_type 50 = .ok (.lload_n 1, 1) := by decide +kernel
theorem d_Forge_type_51 : decode b_Forge_type 51 = .ok (.iload_n 3, 1) := by decide +kernel
theorem d_Forge_type_52 : decode b_Forge_type 52 = .ok (.invokevirtual 97, 3) := by decide +kernel
theorem d_Forge_type_55 : decode b_Forge_type 55 = .ok (.aload_n 0, 1) := by decide +kernel
theorem d_Forge_type_56 : decode b_Forge_type 56 = .ok (.getfield 12, 3) := by decide +kernel
theorem d_Forge_type_59 : decode b_Forge_type 59 = .ok (.getfield 101, 3) := by decide +kernel
theorem d_Forge_type_62 : decode b_Forge_type 62 = .ok (.ireturn, 1) := by decide +kernel
theorem xa_Forge_89 : ∀ w ∈ Bundle.ownAtoms0 "TinyForge" 89 (exn 1) ["java/lang/RuntimeException", "java/lang/Exception"], w ∈ th_four ∨ w ∈ th_nw ∨ w ∈ BIG := th_in (by decide +kernel)
def tForge_type (σ : St) (a1 : Int64) (a2 : Int32) : Option (Nat × Int32 × St) := if a2 < 1 then some (1, 0, σ) else if (8 : Int32) < a2 then some (1, 0, σ) else b1 (tText_areCharacters σ a1 a2) (fun r3 => if r3 = 0 then some (1, 0, σ) else b1 (tText_hasRoomFor σ a2) (fun r5 => if r5 = 0 then some (2, 0, σ) else b1 (tText_add σ a1 a2) (fun u7 => some (0, (u7.1 0), u7))))
set_option maxHeartbeats 4000000 in
set_option maxRecDepth 100000 in
theorem ct_Forge_type (l : Launch) (htr : l.stackTraces = false) (dC : Nat → ClassId) (dI : Nat → Nat → Nat) (ad : Nat → Nat) (cA : Nat → ClassId) (sz : Nat) {σ : St} {a1 : Int64} {a2 : Int32} {k : Nat} {r : Int32} {σ' : St} (hF : tForge_type σ a1 a2 = some (k, r, σ')) : MX l y_Forge_type b_Forge_type 4 (some .int) { frames := 8, cells := 1, slots := 6, locals := 120 } (dC, dI) (ttys cA) ad (tcw ad cA) [.ref (ad 10), .long a1, .int a2] σ sz k r σ' := by
  refine startX (own := "TinyForge") rfl rfl (Nat.le_of_ble_eq_true rfl) ?_
  intro p e s m below meth c A H locs ls X hex hS0 hP hD hS hl
  have hl : lv_has ls 4 [(0, .ref (ad 10)), (1, .long a1), (3, .int a2)] := hl
  obtain ⟨hx, hb, hr, hml, hown, hlocks, hts, hA, hK, hZ⟩ := id X
  unfold tForge_type at hF
  refine lv_iload_n hx hb d_Forge_type_0 rfl (lv_at hl 2 rfl) ?_
  refine lv_iconst (v := 1) hx hb d_Forge_type_1 (by decide) ?_
  refine lv_icmp_lt (tgt := 19) hx hb d_Forge_type_2 (by decide) (fun c_1 => ?_) (fun c_1 => ?_)
  · have hF := ifp hF c_1
    cases hF
    exact throwX (k := 1) (ik := 87) (ic := 89) (names := ["java/lang/RuntimeException", "java/lang/Exception"]) X htr (by decide) hS0 hex w_2b4c2f4c0e w_79679962e3 xa_Forge_89 (by decide +kernel) (by decide +kernel) hP hD hS hl.1 d_Forge_type_19 d_Forge_type_22 d_Forge_type_23 d_Forge_type_26 ⟨by decide, Nat.le_of_ble_eq_true rfl, by decide, by decide⟩
  · have hF := ifn hF c_1
    refine lv_iload_n hx hb d_Forge_type_5 rfl (lv_at hl 2 rfl) ?_
    refine lv_bipush (v := 8) hx hb d_Forge_type_6 (by decide) ?_
    refine lv_icmp_gt (tgt := 19) hx hb d_Forge_type_8 (by decide) (fun c_2 => ?_) (fun c_2 => ?_)
    · have hF := ifp hF c_2
      cases hF
      exact throwX (k := 1) (ik := 87) (ic := 89) (names := ["java/lang/RuntimeException", "java/lang/Exception"]) X htr (by decide) hS0 hex w_2b4c2f4c0e w_79679962e3 xa_Forge_89 (by decide +kernel) (by decide +kernel) hP hD hS hl.1 d_Forge_type_19 d_Forge_type_22 d_Forge_type_23 d_Forge_type_26 ⟨by decide, Nat.le_of_ble_eq_true rfl, by decide, by decide⟩
    · have hF := ifn hF c_2
      refine lv_lload_n hx hb d_Forge_type_11 rfl (lv_at hl 1 rfl) ?_
      refine lv_iload_n hx hb d_Forge_type_12 rfl (lv_at hl 2 rfl) ?_
      obtain ⟨r3, h3, hF⟩ := b1E hF
      refine callSI (As := [.long a1, .int a2]) X (ct_Text_areCharacters l dC dI ad cA H.size h3) lk_Forge_83 ⟨rfl, rfl, by decide, by decide⟩ hP hD hS hl.1 rfl rfl (Nat.le_of_ble_eq_true rfl) d_Forge_type_13 (fun H locs hP hD hS => ?_)
      refine lv_if_ne (tgt := 27) hx hb d_Forge_type_16 (by decide) (fun c_4 => ?_) (fun c_4 => ?_)
      · have hF := ifn hF c_4
        refine lv_aload_n hx hb d_Forge_type_27 rfl (lv_at hl 0 rfl) ?_
        refine va_get (D := (dC, dI)) (ci := 10) (v := .ref (ad 0)) hx hb hts i_Forge hown hK hP 10 rfl rfl 0 (by decide) (hts _ w_f21e3a3b9f) (fun _ h9 => h9) rfl d_Forge_type_28 ?_
        refine lv_iload_n hx hb d_Forge_type_31 rfl (lv_at hl 2 rfl) ?_
        obtain ⟨r5, h5, hF⟩ := b1E hF
        refine callVI (As := [.int a2]) X (ct_Text_hasRoomFor l dC dI ad cA H.size h5) lk_Forge_90 ⟨rfl, rfl, by decide, by decide⟩ 0 rfl rfl hP hD hS hl.1 rfl rfl (Nat.le_of_ble_eq_true rfl) d_Forge_type_32 (fun H locs hP hD hS => ?_)
        refine lv_if_ne (tgt := 46) hx hb d_Forge_type_35 (by decide) (fun c_6 => ?_) (fun c_6 => ?_)
        · have hF := ifn hF c_6
          refine lv_aload_n hx hb d_Forge_type_46 rfl (lv_at hl 0 rfl) ?_
          refine va_get (D := (dC, dI)) (ci := 10) (v := .ref (ad 0)) hx hb hts i_Forge hown hK hP 10 rfl rfl 0 (by decide) (hts _ w_f21e3a3b9f) (fun _ h9 => h9) rfl d_Forge_type_47 ?_
          refine lv_lload_n hx hb d_Forge_type_50 rfl (lv_at hl 1 rfl) ?_
          refine lv_iload_n hx hb d_Forge_type_51 rfl (lv_at hl 2 rfl) ?_
          obtain ⟨u7, h7, hF⟩ := b1E hF
          refine callVV (As := [.long a1, .int a2]) X (ct_Text_add l dC dI ad cA H.size h7) lk_Forge_97 ⟨rfl, rfl, by decide, by decide⟩ 0 rfl rfl hP hD hS hl.1 rfl rfl (Nat.le_of_ble_eq_true rfl) d_Forge_type_52 (fun H locs hP hD hS => ?_)
          refine lv_aload_n hx hb d_Forge_type_55 rfl (lv_at hl 0 rfl) ?_
          refine va_get (D := (dC, dI)) (ci := 10) (v := .ref (ad 0)) hx hb hts i_Forge hown hK hP 10 rfl rfl 0 (by decide) (hts _ w_f21e3a3b9f) (fun _ h9 => h9) rfl d_Forge_type_56 ?_
          refine va_get (D := (dC, dI)) (ci := 0) (v := .int (u7.1 0)) hx hb hts i_Text hown hK hP 0 rfl rfl 1 (by decide) (hts _ w_58bba0c5d7) (fun _ h9 => h9) rfl d_Forge_type_59 ?_
          cases hF
          exact leafX X hP hD hS d_Forge_type_62
        · have hF := ifp hF c_6
          cases hF
          exact throwX (k := 2) (ik := 94) (ic := 96) (names := ["java/lang/RuntimeException", "java/lang/Exception"]) X htr (by decide) hS0 hex w_9d9014e13a w_7d49ac00c3 xa_Forge_96 (by decide +kernel) (by decide +kernel) hP hD hS hl.1 d_Forge_type_38 d_Forge_type_41 d_Forge_type_42 d_Forge_type_45 ⟨by decide, Nat.le_of_ble_eq_true rfl, by decide, by decide⟩
      · have hF := ifp hF c_4
        cases hF
        exact throwX (k := 1) (ik := 87) (ic := 89) (names := ["java/lang/RuntimeException", "java/lang/Exception"]) X htr (by decide) hS0 hex w_2b4c2f4c0e w_79679962e3 xa_Forge_89 (by decide +kernel) (by decide +kernel) hP hD hS hl.1 d_Forge_type_19 d_Forge_type_22 d_Forge_type_23 d_Forge_type_26 ⟨by decide, Nat.le_of_ble_eq_true rfl, by decide, by decide⟩
