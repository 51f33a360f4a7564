theorem d_TinyForge_forge_0 : decode b_TinyForge_forge 0 = .ok (.aload_n 0, 1) := by decide +kernel
theorem d_TinyForge_forge_1 : decode b_TinyForge_forge 1 = .ok (.getfield 75, 3) := by decide +kernel
theorem d_TinyForge_forge_4 : decode b_TinyForge_forge 4 = .ok (.invokevirtual 105, 3) := by decide +kernel
theorem d_TinyForge_forge_7 : decode b_TinyForge_forge 7 = .ok (.aload_n 0, 1) := by decide +kernel
theorem d_TinyForge_forge_8 : decode b_TinyForge_forge 8 = .ok (.getfield 19, 3) := by decide +kernel
theorem d_TinyForge_forge_11 : decode b_TinyForge_forge 11 = .ok (.invokevirtual 108, 3) := by decide +kernel
theorem d_TinyForge_forge_14 : decode b_TinyForge_forge 14 = .ok (.aload_n 0, 1) := by decide +kernel
theorem d_TinyForge_forge_15 : decode b_TinyForge_forge 15 = .ok (.getfield 28, 3) := by decide +kernel
theorem d_TinyForge_forge_18 : decode b_TinyForge_forge 18 = .ok (.invokevirtual 109, 3) := by decide +kernel
theorem d_TinyForge_forge_21 : decode b_TinyForge_forge 21 = .ok (.aload_n 0, 1) := by decide +kernel
theorem d_TinyForge_forge_22 : decode b_TinyForge_forge 22 = .ok (.getfield 19, 3) := by decide +kernel
theorem d_TinyForge_forge_25 : decode b_TinyForge_forge 25 = .ok (.invokevirtual 112, 3) := by decide +kernel
theorem d_TinyForge_forge_28 : decode b_TinyForge_forge 28 = .ok (.ifCond .eq 10, 3) := by decide +kernel
theorem d_TinyForge_forge_31 : decode b_TinyForge_forge 31 = .ok (.aload_n 0, 1) := by decide +kernel
theorem d_TinyForge_forge_32 : decode b_TinyForge_forge 32 = .ok (.getfield 59, 3) := by decide +kernel
theorem d_TinyForge_forge_35 : decode b_TinyForge_forge 35 = .ok (.invokevirtual 116, 3) := by decide +kernel
theorem d_TinyForge_forge_38 : decode b_TinyForge_forge 38 = .ok (.aload_n 0, 1) := by decide +kernel
theorem d_TinyForge_forge_39 : decode b_TinyForge_forge 39 = .ok (.getfield 19, 3) := by decide +kernel
theorem d_TinyForge_forge_42 : decode b_TinyForge_forge 42 = .ok (.invokevirtual 112, 3) := by decide +kernel
theorem d_TinyForge_forge_45 : decode b_TinyForge_forge 45 = .ok (.ifCond .eq 14, 3) := by decide +kernel
theorem d_TinyForge_forge_48 : decode b_TinyForge_forge 48 = .ok (.aload_n 0, 1) := by decide +kernel
theorem d_TinyForge_forge_49 : decode b_TinyForge_forge 49 = .ok (.getfield 37, 3) := by decide +kernel
theorem d_TinyForge_forge_52 : decode b_TinyForge_forge 52 = .ok (.aload_n 0, 1) := by decide +kernel
theorem d_TinyForge_forge_53 : decode b_TinyForge_forge 53 = .ok (.getfield 44, 3) := by decide +kernel
theorem d_TinyForge_forge_56 : decode b_TinyForge_forge 56 = .ok (.invokevirtual 119, 3) := by decide +kernel
theorem d_TinyForge_forge_59 : decode b_TinyForge_forge 59 = .ok (.aload_n 0, 1) := by decide +kernel
theorem d_TinyForge_forge_60 : decode b_TinyForge_forge 60 = .ok (.aload_n 0, 1) := by decide +kernel
theorem d_TinyForge_forge_61 : decode b_TinyForge_forge 61 = .ok (.getfield 19, 3) := by decide +kernel
theorem d_TinyForge_forge_64 : decode b_TinyForge_forge 64 = .ok (.invokevirtual 112, 3) := by decide +kernel
theorem d_TinyForge_forge_67 : decode b_TinyForge_forge 67 = .ok (.putfield 79, 3) := by decide +kernel
theorem d_TinyForge_forge_70 : decode b_TinyForge_forge 70 = .ok (.aload_n 0, 1) := by decide +kernel
theorem d_TinyForge_forge_71 : decode b_TinyForge_forge 71 = .ok (.getfield 79, 3) := by decide +kernel
theorem d_TinyForge_forge_74 : decode b_TinyForge_forge 74 = .ok (.ifCond .ne 11, 3) := by decide +kernel
theorem d_TinyForge_forge_77 : decode b_TinyForge_forge 77 = .ok (.new 123, 3) := by decide +kernel
theorem d_TinyForge_forge_80 : decode b_TinyForge_forge 80 = .ok (.dup, 1) := by decide +kernel
theorem d_TinyForge_forge_81 : decode b_TinyForge_forge 81 = .ok (.invokespecial 125, 3) := by decide +kernel
theorem d_TinyForge_forge_84 : decode b_TinyForge_forge 84 = .ok (.athrow, 1) := by decide +kernel
theorem d_TinyForge_forge_85 : decode b_TinyForge_forge 85 = .ok (.aload_n 0, 1) := by decide +kernel
theorem d_TinyForge_forge_86 : decode b_TinyForge_forge 86 = .ok (.getfield 37, 3) := by decide +kernel
theorem d_TinyForge_forge_89 : decode b_TinyForge_forge 89 = .ok (.getfield 126, 3) := by decide +kernel
theorem d_TinyForge_forge_92 : decode b_TinyForge_forge 92 = .ok (.ireturn, 1) := by decide +kernel
theorem tw_515 : Cond.fieldLink "TinyForge" 28 "TinyForge" "tokens" "LTinyForge$Tokens;" ∈ BIG := List.mem_filter.mpr ⟨List.mem_of_getElem? (i := 424) (by decide +kernel), by decide +kernel⟩
theorem tw_516 : Cond.fieldLink "TinyForge" 59 "TinyForge" "grammar" "LTinyForge$Grammar;" ∈ BIG := List.mem_filter.mpr ⟨List.mem_of_getElem? (i := 428) (by decide +kernel), by decide +kernel⟩
theorem tw_517 : Cond.fieldLink "TinyForge" 37 "TinyForge" "globals" "LTinyForge$Globals;" ∈ BIG := List.mem_filter.mpr ⟨List.mem_of_getElem? (i := 426) (by decide +kernel), by decide +kernel⟩
theorem tw_518 : Cond.fieldLink "TinyForge" 44 "TinyForge" "program" "LTinyForge$Program;" ∈ BIG := List.mem_filter.mpr ⟨List.mem_of_getElem? (i := 427) (by decide +kernel), by decide +kernel⟩
theorem tw_519 : Cond.fieldLink "TinyForge" 79 "TinyForge" "forged" "Z" ∈ BIG := List.mem_filter.mpr ⟨List.mem_of_getElem? (i := 431) (by decide +kernel), by decide +kernel⟩
theorem tw_520 : Cond.fieldLink "TinyForge" 126 "TinyForge$Globals" "functions" "I" ∈ BIG := List.mem_filter.mpr ⟨List.mem_of_getElem? (i := 235) (by decide +kernel), by decide +kernel⟩
theorem tw_521 : Cond.classLink "TinyForge" 123 "java/lang/UnsupportedOperationException" ∈ BIG := List.mem_filter.mpr ⟨List.mem_of_getElem? (i := 1021) (by decide +kernel), by decide +kernel⟩
theorem tw_522 : Cond.initialized "java/lang/UnsupportedOperationException" ∈ BIG := List.mem_filter.mpr ⟨List.mem_of_getElem? (i := 144) (by decide +kernel), by decide +kernel⟩
theorem tw_523 : Cond.methodLink "TinyForge" 105 ⟨"TinyForge$Machine", "forget", "()V"⟩ ∈ BIG := List.mem_filter.mpr ⟨List.mem_of_getElem? (i := 593) (by decide +kernel), by decide +kernel⟩
theorem tw_524 : Cond.methodLink "TinyForge" 108 ⟨"TinyForge$Refusal", "forget", "()V"⟩ ∈ BIG := List.mem_filter.mpr ⟨List.mem_of_getElem? (i := 597) (by decide +kernel), by decide +kernel⟩
theorem tw_525 : Cond.code ⟨"TinyForge$Refusal", "forget", "()V"⟩ prog_8_method_2_code 1 none ∈ BIG := List.mem_filter.mpr ⟨List.mem_of_getElem? (i := 600) (by decide +kernel), by decide +kernel⟩
theorem tw_526 : Cond.instanceMethod ⟨"TinyForge$Refusal", "forget", "()V"⟩ ∈ BIG := List.mem_filter.mpr ⟨List.mem_of_getElem? (i := 598) (by decide +kernel), by decide +kernel⟩
theorem tw_527 : Cond.selects "TinyForge$Refusal" ⟨"TinyForge$Refusal", "forget", "()V"⟩ ⟨"TinyForge$Refusal", "forget", "()V"⟩ ∈ BIG := List.mem_filter.mpr ⟨List.mem_of_getElem? (i := 599) (by decide +kernel), by decide +kernel⟩
theorem tw_528 : Cond.methodLink "TinyForge" 109 ⟨"TinyForge$Tokens", "takeAll", "()V"⟩ ∈ BIG := List.mem_filter.mpr ⟨List.mem_of_getElem? (i := 601) (by decide +kernel), by decide +kernel⟩
theorem tw_529 : Cond.code ⟨"TinyForge$Tokens", "takeAll", "()V"⟩ prog_10_method_2_code 3 none ∈ BIG := List.mem_filter.mpr ⟨List.mem_of_getElem? (i := 604) (by decide +kernel), by decide +kernel⟩
theorem tw_530 : Cond.instanceMethod ⟨"TinyForge$Tokens", "takeAll", "()V"⟩ ∈ BIG := List.mem_filter.mpr ⟨List.mem_of_getElem? (i := 602) (by decide +kernel), by decide +kernel⟩
theorem tw_531 : Cond.selects "TinyForge$Tokens" ⟨"TinyForge$Tokens", "takeAll", "()V"⟩ ⟨"TinyForge$Tokens", "takeAll", "()V"⟩ ∈ BIG := List.mem_filter.mpr ⟨List.mem_of_getElem? (i := 603) (by decide +kernel), by decide +kernel⟩
theorem tw_532 : Cond.methodLink "TinyForge" 112 ⟨"TinyForge$Refusal", "isNone", "()Z"⟩ ∈ BIG := List.mem_filter.mpr ⟨List.mem_of_getElem? (i := 774) (by decide +kernel), by decide +kernel⟩
theorem tw_533 : Cond.methodLink "TinyForge" 116 ⟨"TinyForge$Grammar", "readWhole", "()V"⟩ ∈ BIG := List.mem_filter.mpr ⟨List.mem_of_getElem? (i := 778) (by decide +kernel), by decide +kernel⟩
theorem tw_534 : Cond.code ⟨"TinyForge$Grammar", "readWhole", "()V"⟩ prog_4_method_2_code 2 none ∈ BIG := List.mem_filter.mpr ⟨List.mem_of_getElem? (i := 781) (by decide +kernel), by decide +kernel⟩
theorem tw_535 : Cond.instanceMethod ⟨"TinyForge$Grammar", "readWhole", "()V"⟩ ∈ BIG := List.mem_filter.mpr ⟨List.mem_of_getElem? (i := 779) (by decide +kernel), by decide +kernel⟩
theorem tw_536 : Cond.selects "TinyForge$Grammar" ⟨"TinyForge$Grammar", "readWhole", "()V"⟩ ⟨"TinyForge$Grammar", "readWhole", "()V"⟩ ∈ BIG := List.mem_filter.mpr ⟨List.mem_of_getElem? (i := 780) (by decide +kernel), by decide +kernel⟩
theorem tw_537 : Cond.methodLink "TinyForge" 119 ⟨"TinyForge$Globals", "join", "(LTinyForge$Program;)V"⟩ ∈ BIG := List.mem_filter.mpr ⟨List.mem_of_getElem? (i := 1000) (by decide +kernel), by decide +kernel⟩
theorem tw_538 : Cond.code ⟨"TinyForge$Globals", "join", "(LTinyForge$Program;)V"⟩ prog_3_method_8_code 4 none ∈ BIG := List.mem_filter.mpr ⟨List.mem_of_getElem? (i := 1003) (by decide +kernel), by decide +kernel⟩
theorem tw_539 : Cond.instanceMethod ⟨"TinyForge$Globals", "join", "(LTinyForge$Program;)V"⟩ ∈ BIG := List.mem_filter.mpr ⟨List.mem_of_getElem? (i := 1001) (by decide +kernel), by decide +kernel⟩
theorem tw_540 : Cond.selects "TinyForge$Globals" ⟨"TinyForge$Globals", "join", "(LTinyForge$Program;)V"⟩ ⟨"TinyForge$Globals", "join", "(LTinyForge$Program;)V"⟩ ∈ BIG := List.mem_filter.mpr ⟨List.mem_of_getElem? (i := 1002) (by decide +kernel), by decide +kernel⟩
theorem lk_TinyForge_105 : LkV "TinyForge" 105 "TinyForge$Machine" y_Machine_forget b_Machine_forget 1 none 0 := ⟨⟨tw_523, tw_246, tw_320, by decide +kernel⟩, tw_321, tw_322⟩
theorem lk_TinyForge_108 : LkV "TinyForge" 108 "TinyForge$Refusal" y_Refusal_forget b_Refusal_forget 1 none 0 := ⟨⟨tw_524, tw_57, tw_525, by decide +kernel⟩, tw_526, tw_527⟩
theorem lk_TinyForge_109 : LkV "TinyForge" 109 "TinyForge$Tokens" y_Tokens_takeAll b_Tokens_takeAll 3 none 0 := ⟨⟨tw_528, tw_106, tw_529, by decide +kernel⟩, tw_530, tw_531⟩
theorem lk_TinyForge_112 : LkV "TinyForge" 112 "TinyForge$Refusal" y_Refusal_isNone b_Refusal_isNone 1 (some .boolean) 0 := ⟨⟨tw_532, tw_57, tw_148, by decide +kernel⟩, tw_149, tw_150⟩
theorem lk_TinyForge_116 : LkV "TinyForge" 116 "TinyForge$Grammar" y_Grammar_readWhole b_Grammar_readWhole 2 none 0 := ⟨⟨tw_533, tw_349, tw_534, by decide +kernel⟩, tw_535, tw_536⟩
theorem lk_TinyForge_119 : LkV "TinyForge" 119 "TinyForge$Globals" y_Globals_join b_Globals_join 4 none 1 := ⟨⟨tw_537, tw_197, tw_538, by decide +kernel⟩, tw_539, tw_540⟩
theorem xa_TinyForge_125 : ∀ w ∈ Bundle.ownAtoms0 "TinyForge" 125 (exn 3) ["java/lang/RuntimeException", "java/lang/Exception"], w ∈ th_four ∨ w ∈ th_nw ∨ w ∈ BIG := th_in (by decide +kernel)
def tTinyForge_forge_b1 (k : Nat → St → Option (Nat × Int32 × St)) (σ : St) : Option (Nat × Int32 × St) := b1 (tRefusal_isNone σ) (fun r7 => if r7 = 0 then k 2 σ  else b1 (tGlobals_join σ) (fun u9 => k 2 u9 ))
def tTinyForge_forge_b2 (k : Nat → St → Option (Nat × Int32 × St)) (σ : St) : Option (Nat × Int32 × St) := b1 (tRefusal_isNone σ) (fun r10 => gd (nZ r10) (if r10 = 0 then some (3, 0, (sI σ 25 r10)) else some (0, (σ.1 12), (sI σ 25 r10))))
def tTinyForge_forge_L : Nat → Nat → St → Option (Nat × Int32 × St)
  | 0, _, _ => none
  | n + 1, lab, σ => match lab with
    | 1 => tTinyForge_forge_b1 (tTinyForge_forge_L n) σ 
    | 2 => tTinyForge_forge_b2 (tTinyForge_forge_L n) σ 
    | _ => none
def tTinyForge_forge (σ : St) : Option (Nat × Int32 × St) := b1 (tMachine_forget σ) (fun u1 => b1 (tRefusal_forget u1) (fun u2 => b1 (tTokens_takeAll u2) (fun u3 => b1 (tRefusal_isNone u3) (fun r4 => if r4 = 0 then tTinyForge_forge_L 2000 1 u3  else b1 (tGrammar_readWhole u3) (fun u6 => tTinyForge_forge_L 2000 1 u6 )))))
set_option maxHeartbeats 4000000 in
set_option maxRecDepth 100000 in
theorem tTinyForge_forge_blk {p : Program} {e : Env} {s : State} {m : MethodId} {args : Array Value} {below : List Frame} {meth : Method} {c : Code} {A : Nat → Prop} (l : Launch) (dC : Nat → ClassId) (dI : Nat → Nat → Nat) (ad : Nat → Nat) (cA : Nat → ClassId) {k : Nat} {r : Int32} {σ' : St} (htr : l.stackTraces = false) (hS0 : th_S A s s.heap) (hex : c.exceptionTable.toList = []) (X : Cx p s m args meth c b_TinyForge_forge 1 (some .int) "TinyForge" (dC, dI) (ttys cA) ad A) : ∀ n : Nat, (∀ (σ : St) (H : Heap) (locs : List Loc) (ls : Array Slot), tTinyForge_forge_L n 1 σ  = some (k, r, σ') → va_P (dC, dI) vwCl (tcw ad cA σ) H → va_D A (tcw ad cA σ) → va_S A s.heap H locs → lv_has ls 1 [(0, .ref (ad 10))] → W p l e { frames := 88, cells := 1, slots := 6, locals := 2008 } s m args below meth c H locs 0 0 (XMQ below (QX (dC, dI) (ttys cA) (tcw ad cA) A k r σ') args s) (F0 m 38 ls [])) ∧ (∀ (σ : St) (H : Heap) (locs : List Loc) (ls : Array Slot), tTinyForge_forge_L n 2 σ  = some (k, r, σ') → va_P (dC, dI) vwCl (tcw ad cA σ) H → va_D A (tcw ad cA σ) → va_S A s.heap H locs → lv_has ls 1 [(0, .ref (ad 10))] → W p l e { frames := 88, cells := 1, slots := 6, locals := 2008 } s m args below meth c H locs 0 0 (XMQ below (QX (dC, dI) (ttys cA) (tcw ad cA) A k r σ') args s) (F0 m 59 ls [])) := by
  obtain ⟨hx, hb, hr, hml, hown, hlocks, hts, hA, hK, hZ⟩ := id X
  intro n
  induction n with
  | zero => exact ⟨(fun σ  H locs ls hF => by cases hF), (fun σ  H locs ls hF => by cases hF)⟩
  | succ n ihn =>
    refine ⟨fun σ  H locs ls hF hP hD hS hl => ?_, fun σ  H locs ls hF hP hD hS hl => ?_⟩
    · have hF : tTinyForge_forge_b1 (tTinyForge_forge_L n) σ  = some (k, r, σ') := hF
      unfold tTinyForge_forge_b1 at hF
      refine lv_aload_n hx hb d_TinyForge_forge_38 rfl (lv_at hl 0 rfl) ?_
      refine va_get (D := (dC, dI)) (ci := 10) (v := .ref (ad 1)) hx hb hts i_TinyForge hown hK hP 10 rfl rfl 2 (by decide) (hts _ tw_512) (fun _ h9 => h9) rfl d_TinyForge_forge_39 ?_
      obtain ⟨r7, h7, hF⟩ := b1E hF
      refine callVI (As := []) X (ct_Refusal_isNone l dC dI ad cA H.size h7) lk_TinyForge_112 ⟨rfl, rfl, by decide, by decide⟩ 1 rfl rfl hP hD hS hl.1 rfl rfl (Nat.le_of_ble_eq_true rfl) d_TinyForge_forge_42 (fun H locs hP hD hS => ?_)
      refine lv_if_eq (tgt := 59) hx hb d_TinyForge_forge_45 (by decide) (fun c_8 => ?_) (fun c_8 => ?_)
      · have hF := ifp hF c_8
        exact ihn.2 σ  H locs ls hF hP hD hS (lv_sub hl [0] rfl)
      · have hF := ifn hF c_8
        refine lv_aload_n hx hb d_TinyForge_forge_48 rfl (lv_at hl 0 rfl) ?_
        refine va_get (D := (dC, dI)) (ci := 10) (v := .ref (ad 5)) hx hb hts i_TinyForge hown hK hP 10 rfl rfl 3 (by decide) (hts _ tw_517) (fun _ h9 => h9) rfl d_TinyForge_forge_49 ?_
        refine lv_aload_n hx hb d_TinyForge_forge_52 rfl (lv_at hl 0 rfl) ?_
        refine va_get (D := (dC, dI)) (ci := 10) (v := .ref (ad 6)) hx hb hts i_TinyForge hown hK hP 10 rfl rfl 4 (by decide) (hts _ tw_518) (fun _ h9 => h9) rfl d_TinyForge_forge_53 ?_
        obtain ⟨u9, h9, hF⟩ := b1E hF
        refine callVV (As := [.ref (ad 6)]) X (ct_Globals_join l dC dI ad cA H.size h9) lk_TinyForge_119 ⟨rfl, rfl, by decide, by decide⟩ 5 rfl rfl hP hD hS hl.1 rfl rfl (Nat.le_of_ble_eq_true rfl) d_TinyForge_forge_56 (fun H locs hP hD hS => ?_)
        exact ihn.2 u9  H locs ls hF hP hD hS (lv_sub hl [0] rfl)
    · have hF : tTinyForge_forge_b2 (tTinyForge_forge_L n) σ  = some (k, r, σ') := hF
      unfold tTinyForge_forge_b2 at hF
      refine lv_aload_n hx hb d_TinyForge_forge_59 rfl (lv_at hl 0 rfl) ?_
      refine lv_aload_n hx hb d_TinyForge_forge_60 rfl (lv_at hl 0 rfl) ?_
      refine va_get (D := (dC, dI)) (ci := 10) (v := .ref (ad 1)) hx hb hts i_TinyForge hown hK hP 10 rfl rfl 2 (by decide) (hts _ tw_512) (fun _ h9 => h9) rfl d_TinyForge_forge_61 ?_
      obtain ⟨r10, h10, hF⟩ := b1E hF
      refine callVI (As := []) X (ct_Refusal_isNone l dC dI ad cA H.size h10) lk_TinyForge_112 ⟨rfl, rfl, by decide, by decide⟩ 1 rfl rfl hP hD hS hl.1 rfl rfl (Nat.le_of_ble_eq_true rfl) d_TinyForge_forge_64 (fun H locs hP hD hS => ?_)
      obtain ⟨g_11, hF⟩ := gdE hF
      refine va_put (D := (dC, dI)) (ci := 10) (v := .int r10) (ty := .boolean) hx hb hts i_TinyForge t_TinyForge t_TinyForge_ok n_TinyForge hown hK hP hD hS 10 rfl rfl 8 (by decide) (hts _ tw_519) (fun _ h9 => h9) rfl (by decide +kernel) (nZN g_11) (nZF g_11) (Nat.le_of_ble_eq_true rfl) d_TinyForge_forge_67 (fun H locs hP hD hS => ?_)
      have hP : va_P (dC, dI) vwCl (tcw ad cA (sI σ 25 r10)) H := hP
      have hD : va_D A (tcw ad cA (sI σ 25 r10)) := hD
      refine lv_aload_n hx hb d_TinyForge_forge_70 rfl (lv_at hl 0 rfl) ?_
      refine va_get (D := (dC, dI)) (ci := 10) (v := .int r10) hx hb hts i_TinyForge hown hK hP 10 rfl rfl 8 (by decide) (hts _ tw_519) (fun _ h9 => h9) rfl d_TinyForge_forge_71 ?_
      refine lv_if_ne (tgt := 85) hx hb d_TinyForge_forge_74 (by decide) (fun c_12 => ?_) (fun c_12 => ?_)
      · have hF := ifn hF c_12
        refine lv_aload_n hx hb d_TinyForge_forge_85 rfl (lv_at hl 0 rfl) ?_
        refine va_get (D := (dC, dI)) (ci := 10) (v := .ref (ad 5)) hx hb hts i_TinyForge hown hK hP 10 rfl rfl 3 (by decide) (hts _ tw_517) (fun _ h9 => h9) rfl d_TinyForge_forge_86 ?_
        refine va_get (D := (dC, dI)) (ci := 5) (v := .int (σ.1 12)) hx hb hts i_Globals hown hK hP 5 rfl rfl 8 (by decide) (hts _ tw_520) (fun _ h9 => h9) rfl d_TinyForge_forge_89 ?_
        cases hF
        exact leafX X hP hD hS d_TinyForge_forge_92
      · have hF := ifp hF c_12
        cases hF
        exact throwX (k := 3) (ik := 123) (ic := 125) (names := ["java/lang/RuntimeException", "java/lang/Exception"]) X htr (by decide) hS0 hex tw_521 tw_522 xa_TinyForge_125 (by decide +kernel) (by decide +kernel) hP hD hS hl.1 d_TinyForge_forge_77 d_TinyForge_forge_80 d_TinyForge_forge_81 d_TinyForge_forge_84 ⟨by decide, Nat.le_of_ble_eq_true rfl, by decide, by decide⟩
set_option maxHeartbeats 4000000 in
set_option maxRecDepth 100000 in
theorem ct_TinyForge_forge (l : Launch) (htr : l.stackTraces = false) (dC : Nat → ClassId) (dI : Nat → Nat → Nat) (ad : Nat → Nat) (cA : Nat → ClassId) (sz : Nat) {σ : St} {k : Nat} {r : Int32} {σ' : St} (hF : tTinyForge_forge σ = some (k, r, σ')) : MX l y_TinyForge_forge b_TinyForge_forge 1 (some .int) { frames := 88, cells := 1, slots := 6, locals := 2008 } (dC, dI) (ttys cA) ad (tcw ad cA) [.ref (ad 10)] σ sz k r σ' := by
  refine startX (own := "TinyForge") rfl rfl (Nat.le_of_ble_eq_true rfl) ?_
  intro p e s m below meth c A H locs ls X hex hS0 hP hD hS hl
  have hl : lv_has ls 1 [(0, .ref (ad 10))] := hl
  obtain ⟨hx, hb, hr, hml, hown, hlocks, hts, hA, hK, hZ⟩ := id X
  unfold tTinyForge_forge at hF
  refine lv_aload_n hx hb d_TinyForge_forge_0 rfl (lv_at hl 0 rfl) ?_
  refine va_get (D := (dC, dI)) (ci := 10) (v := .ref (ad 9)) hx hb hts i_TinyForge hown hK hP 10 rfl rfl 7 (by decide) (hts _ tw_504) (fun _ h9 => h9) rfl d_TinyForge_forge_1 ?_
  obtain ⟨u1, h1, hF⟩ := b1E hF
  refine callVV (As := []) X (ct_Machine_forget l dC dI ad cA H.size h1) lk_TinyForge_105 ⟨rfl, rfl, by decide, by decide⟩ 9 rfl rfl hP hD hS hl.1 rfl rfl (Nat.le_of_ble_eq_true rfl) d_TinyForge_forge_4 (fun H locs hP hD hS => ?_)
  refine lv_aload_n hx hb d_TinyForge_forge_7 rfl (lv_at hl 0 rfl) ?_
  refine va_get (D := (dC, dI)) (ci := 10) (v := .ref (ad 1)) hx hb hts i_TinyForge hown hK hP 10 rfl rfl 2 (by decide) (hts _ tw_512) (fun _ h9 => h9) rfl d_TinyForge_forge_8 ?_
  obtain ⟨u2, h2, hF⟩ := b1E hF
  refine callVV (As := []) X (ct_Refusal_forget l dC dI ad cA H.size h2) lk_TinyForge_108 ⟨rfl, rfl, by decide, by decide⟩ 1 rfl rfl hP hD hS hl.1 rfl rfl (Nat.le_of_ble_eq_true rfl) d_TinyForge_forge_11 (fun H locs hP hD hS => ?_)
  refine lv_aload_n hx hb d_TinyForge_forge_14 rfl (lv_at hl 0 rfl) ?_
  refine va_get (D := (dC, dI)) (ci := 10) (v := .ref (ad 2)) hx hb hts i_TinyForge hown hK hP 10 rfl rfl 1 (by decide) (hts _ tw_515) (fun _ h9 => h9) rfl d_TinyForge_forge_15 ?_
  obtain ⟨u3, h3, hF⟩ := b1E hF
  refine callVV (As := []) X (ct_Tokens_takeAll l dC dI ad cA H.size h3) lk_TinyForge_109 ⟨rfl, rfl, by decide, by decide⟩ 2 rfl rfl hP hD hS hl.1 rfl rfl (Nat.le_of_ble_eq_true rfl) d_TinyForge_forge_18 (fun H locs hP hD hS => ?_)
  refine lv_aload_n hx hb d_TinyForge_forge_21 rfl (lv_at hl 0 rfl) ?_
  refine va_get (D := (dC, dI)) (ci := 10) (v := .ref (ad 1)) hx hb hts i_TinyForge hown hK hP 10 rfl rfl 2 (by decide) (hts _ tw_512) (fun _ h9 => h9) rfl d_TinyForge_forge_22 ?_
  obtain ⟨r4, h4, hF⟩ := b1E hF
  refine callVI (As := []) X (ct_Refusal_isNone l dC dI ad cA H.size h4) lk_TinyForge_112 ⟨rfl, rfl, by decide, by decide⟩ 1 rfl rfl hP hD hS hl.1 rfl rfl (Nat.le_of_ble_eq_true rfl) d_TinyForge_forge_25 (fun H locs hP hD hS => ?_)
  refine lv_if_eq (tgt := 38) hx hb d_TinyForge_forge_28 (by decide) (fun c_5 => ?_) (fun c_5 => ?_)
  · have hF := ifp hF c_5
    exact (tTinyForge_forge_blk l dC dI ad cA htr hS0 hex X 2000).1 u3  H locs ls hF hP hD hS (lv_sub hl [0] rfl)
  · have hF := ifn hF c_5
    refine lv_aload_n hx hb d_TinyForge_forge_31 rfl (lv_at hl 0 rfl) ?_
    refine va_get (D := (dC, dI)) (ci := 10) (v := .ref (ad 7)) hx hb hts i_TinyForge hown hK hP 10 rfl rfl 5 (by decide) (hts _ tw_516) (fun _ h9 => h9) rfl d_TinyForge_forge_32 ?_
    obtain ⟨u6, h6, hF⟩ := b1E hF
    refine callVV (As := []) X (ct_Grammar_readWhole l dC dI ad cA H.size h6) lk_TinyForge_116 ⟨rfl, rfl, by decide, by decide⟩ 7 rfl rfl hP hD hS hl.1 rfl rfl (Nat.le_of_ble_eq_true rfl) d_TinyForge_forge_35 (fun H locs hP hD hS => ?_)
    exact (tTinyForge_forge_blk l dC dI ad cA htr hS0 hex X 2000).1 u6  H locs ls hF hP hD hS (lv_sub hl [0] rfl)
theorem d_TinyForge_give_0 : decode b_TinyForge_give 0 = .ok (.aload_n 0, 1) := by decide +kernel
theorem d_TinyForge_give_1 : decode b_TinyForge_give 1 = .ok (.getfield 66, 3) := by decide +kernel
theorem d_TinyForge_give_4 : decode b_TinyForge_give 4 = .ok (.getfield 135, 3) := by decide +kernel
theorem d_TinyForge_give_7 : decode b_TinyForge_give 7 = .ok (.bipush 20, 2) := by decide +kernel
theorem d_TinyForge_give_9 : decode b_TinyForge_give 9 = .ok (.if_icmp .lt 11, 3) := by decide +kernel
theorem d_TinyForge_give_12 : decode b_TinyForge_give 12 = .ok (.new 94, 3) := by decide +kernel
theorem d_TinyForge_give_15 : decode b_TinyForge_give 15 = .ok (.dup, 1) := by decide +kernel
theorem d_TinyForge_give_16 : decode b_TinyForge_give 16 = .ok (.invokespecial 96, 3) := by decide +kernel
theorem d_TinyForge_give_19 : decode b_TinyForge_give 19 = .ok (.athrow, 1) := by decide +kernel
theorem d_TinyForge_give_20 : decode b_TinyForge_give 20 = .ok (.aload_n 0, 1) := by decide +kernel
theorem d_TinyForge_give_21 : decode b_TinyForge_give 21 = .ok (.getfield 66, 3) := by decide +kernel
theorem d_TinyForge_give_24 : decode b_TinyForge_give 24 = .ok (.iload_n 1, 1) := by decide +kernel
theorem d_TinyForge_give_25 : decode b_TinyForge_give 25 = .ok (.invokevirtual 138, 3) := by decide +kernel
theorem d_TinyForge_give_28 : decode b_TinyForge_give 28 = .ok (.aload_n 0, 1) := by decide +kernel
theorem d_TinyForge_give_29 : decode b_TinyForge_give 29 = .ok (.getfield 66, 3) := by decide +kernel
theorem d_TinyForge_give_32 : decode b_TinyForge_give 32 = .ok (.getfield 135, 3) := by decide +kernel
theorem d_TinyForge_give_35 : decode b_TinyForge_give 35 = .ok (.ireturn, 1) := by decide +kernel
theorem tw_541 : Cond.classLink "TinyForge" 94 "java/lang/IllegalStateException" ∈ BIG := List.mem_filter.mpr ⟨List.mem_of_getElem? (i := 566) (by decide +kernel), by decide +kernel⟩
theorem tw_542 : Cond.initialized "java/lang/IllegalStateException" ∈ BIG := List.mem_filter.mpr ⟨List.mem_of_getElem? (i := 137) (by decide +kernel), by decide +kernel⟩
theorem tw_543 : Cond.methodLink "TinyForge" 138 ⟨"TinyForge$Input", "add", "(I)V"⟩ ∈ BIG := List.mem_filter.mpr ⟨List.mem_of_getElem? (i := 1044) (by decide +kernel), by decide +kernel⟩
theorem tw_544 : Cond.code ⟨"TinyForge$Input", "add", "(I)V"⟩ prog_5_method_2_code 2 none ∈ BIG := List.mem_filter.mpr ⟨List.mem_of_getElem? (i := 1047) (by decide +kernel), by decide +kernel⟩
theorem tw_545 : Cond.instanceMethod ⟨"TinyForge$Input", "add", "(I)V"⟩ ∈ BIG := List.mem_filter.mpr ⟨List.mem_of_getElem? (i := 1045) (by decide +kernel), by decide +kernel⟩
theorem tw_546 : Cond.selects "TinyForge$Input" ⟨"TinyForge$Input", "add", "(I)V"⟩ ⟨"TinyForge$Input", "add", "(I)V"⟩ ∈ BIG := List.mem_filter.mpr ⟨List.mem_of_getElem? (i := 1046) (by decide +kernel), by decide +kernel⟩
theorem lk_TinyForge_138 : LkV "TinyForge" 138 "TinyForge$Input" y_Input_add b_Input_add 2 none 1 := ⟨⟨tw_543, tw_275, tw_544, by decide +kernel⟩, tw_545, tw_546⟩
theorem xa_TinyForge_96 : ∀ w ∈ Bundle.ownAtoms0 "TinyForge" 96 (exn 2) ["java/lang/RuntimeException", "java/lang/Exception"], w ∈ th_four ∨ w ∈ th_nw ∨ w ∈ BIG := th_in (by decide +kernel)
def tTinyForge_give (σ : St) (a1 : Int32) : Option (Nat × Int32 × St) := if (σ.1 15) < 20 then b1 (tInput_add σ a1) (fun u2 => some (0, (u2.1 15), u2)) else some (2, 0, σ)
set_option maxHeartbeats 4000000 in
set_option maxRecDepth 100000 in
theorem ct_TinyForge_give (l : Launch) (htr : l.stackTraces = false) (dC : Nat → ClassId) (dI : Nat → Nat → Nat) (ad : Nat → Nat) (cA : Nat → ClassId) (sz : Nat) {σ : St} {a1 : Int32} {k : Nat} {r : Int32} {σ' : St} (hF : tTinyForge_give σ a1 = some (k, r, σ')) : MX l y_TinyForge_give b_TinyForge_give 2 (some .int) { frames := 8, cells := 1, slots := 6, locals := 120 } (dC, dI) (ttys cA) ad (tcw ad cA) [.ref (ad 10), .int a1] σ sz k r σ' := by
  refine startX (own := "TinyForge") rfl rfl (Nat.le_of_ble_eq_true rfl) ?_
  intro p e s m below meth c A H locs ls X hex hS0 hP hD hS hl
  have hl : lv_has ls 2 [(0, .ref (ad 10)), (1, .int a1)] := hl
  obtain ⟨hx, hb, hr, hml, hown, hlocks, hts, hA, hK, hZ⟩ := id X
  unfold tTinyForge_give at hF
  refine lv_aload_n hx hb d_TinyForge_give_0 rfl (lv_at hl 0 rfl) ?_
  refine va_get (D := (dC, dI)) (ci := 10) (v := .ref (ad 8)) hx hb hts i_TinyForge hown hK hP 10 rfl rfl 6 (by decide) (hts _ tw_502) (fun _ h9 => h9) rfl d_TinyForge_give_1 ?_
  refine va_get (D := (dC, dI)) (ci := 8) (v := .int (σ.1 15)) hx hb hts i_Input hown hK hP 8 rfl rfl 1 (by decide) (hts _ tw_503) (fun _ h9 => h9) rfl d_TinyForge_give_4 ?_
  refine lv_bipush (v := 20) hx hb d_TinyForge_give_7 (by decide) ?_
  refine lv_icmp_lt (tgt := 20) hx hb d_TinyForge_give_9 (by decide) (fun c_1 => ?_) (fun c_1 => ?_)
  · have hF := ifp hF c_1
    refine lv_aload_n hx hb d_TinyForge_give_20 rfl (lv_at hl 0 rfl) ?_
    refine va_get (D := (dC, dI)) (ci := 10) (v := .ref (ad 8)) hx hb hts i_TinyForge hown hK hP 10 rfl rfl 6 (by decide) (hts _ tw_502) (fun _ h9 => h9) rfl d_TinyForge_give_21 ?_
    refine lv_iload_n hx hb d_TinyForge_give_24 rfl (lv_at hl 1 rfl) ?_
    obtain ⟨u2, h2, hF⟩ := b1E hF
    refine callVV (As := [.int a1]) X (ct_Input_add l dC dI ad cA H.size h2) lk_TinyForge_138 ⟨rfl, rfl, by decide, by decide⟩ 8 rfl rfl hP hD hS hl.1 rfl rfl (Nat.le_of_ble_eq_true rfl) d_TinyForge_give_25 (fun H locs hP hD hS => ?_)
    refine lv_aload_n hx hb d_TinyForge_give_28 rfl (lv_at hl 0 rfl) ?_
    refine va_get (D := (dC, dI)) (ci := 10) (v := .ref (ad 8)) hx hb hts i_TinyForge hown hK hP 10 rfl rfl 6 (by decide) (hts _ tw_502) (fun _ h9 => h9) rfl d_TinyForge_give_29 ?_
    refine va_get (D := (dC, dI)) (ci := 8) (v := .int (u2.1 15)) hx hb hts i_Input hown hK hP 8 rfl rfl 1 (by decide) (hts _ tw_503) (fun _ h9 => h9) rfl d_TinyForge_give_32 ?_
    cases hF
    exact leafX X hP hD hS d_TinyForge_give_35
  · have hF := ifn hF c_1
    cases hF
    exact throwX (k := 2) (ik := 94) (ic := 96) (names := ["java/lang/RuntimeException", "java/lang/Exception"]) X htr (by decide) hS0 hex tw_541 tw_542 xa_TinyForge_96 (by decide +kernel) (by decide +kernel) hP hD hS hl.1 d_TinyForge_give_12 d_TinyForge_give_15 d_TinyForge_give_16 d_TinyForge_give_19 ⟨by decide, Nat.le_of_ble_eq_true rfl, by decide, by decide⟩
theorem d_TinyForge_run_0 : decode b_TinyForge_run 0 = .ok (.aload_n 0, 1) := by decide +kernel
theorem d_TinyForge_run_1 : decode b_TinyForge_run 1 = .ok (.getfield 79, 3) := by decide +kernel
theorem d_TinyForge_run_4 : decode b_TinyForge_run 4 = .ok (.ifCond .ne 11, 3) := by decide +kernel
theorem d_TinyForge_run_7 : decode b_TinyForge_run 7 = .ok (.new 141, 3) := by decide +kernel
theorem d_TinyForge_run_10 : decode b_TinyForge_run 10 = .ok (.dup, 1) := by decide +kernel
theorem d_TinyForge_run_11 : decode b_TinyForge_run 11 = .ok (.invokespecial 143, 3) := by decide +kernel
theorem d_TinyForge_run_14 : decode b_TinyForge_run 14 = .ok (.athrow, 1) := by decide +kernel
theorem d_TinyForge_run_15 : decode b_TinyForge_run 15 = .ok (.aload_n 0, 1) := by decide +kernel
theorem d_TinyForge_run_16 : decode b_TinyForge_run 16 = .ok (.getfield 75, 3) := by decide +kernel
theorem d_TinyForge_run_19 : decode b_TinyForge_run 19 = .ok (.invokevirtual 144, 3) := by decide +kernel
theorem d_TinyForge_run_22 : decode b_TinyForge_run 22 = .ok (.ireturn, 1) := by decide +kernel
theorem tw_547 : Cond.classLink "TinyForge" 141 "java/util/NoSuchElementException" ∈ BIG := List.mem_filter.mpr ⟨List.mem_of_getElem? (i := 1056) (by decide +kernel), by decide +kernel⟩
theorem tw_548 : Cond.initialized "java/util/NoSuchElementException" ∈ BIG := List.mem_filter.mpr ⟨List.mem_of_getElem? (i := 145) (by decide +kernel), by decide +kernel⟩
theorem tw_549 : Cond.methodLink "TinyForge" 144 ⟨"TinyForge$Machine", "work", "()I"⟩ ∈ BIG := List.mem_filter.mpr ⟨List.mem_of_getElem? (i := 1071) (by decide +kernel), by decide +kernel⟩
theorem tw_550 : Cond.code ⟨"TinyForge$Machine", "work", "()I"⟩ prog_6_method_4_code 2 (some .int) ∈ BIG := List.mem_filter.mpr ⟨List.mem_of_getElem? (i := 1074) (by decide +kernel), by decide +kernel⟩
theorem tw_551 : Cond.instanceMethod ⟨"TinyForge$Machine", "work", "()I"⟩ ∈ BIG := List.mem_filter.mpr ⟨List.mem_of_getElem? (i := 1072) (by decide +kernel), by decide +kernel⟩
theorem tw_552 : Cond.selects "TinyForge$Machine" ⟨"TinyForge$Machine", "work", "()I"⟩ ⟨"TinyForge$Machine", "work", "()I"⟩ ∈ BIG := List.mem_filter.mpr ⟨List.mem_of_getElem? (i := 1073) (by decide +kernel), by decide +kernel⟩
theorem lk_TinyForge_144 : LkV "TinyForge" 144 "TinyForge$Machine" y_Machine_work b_Machine_work 2 (some .int) 0 := ⟨⟨tw_549, tw_246, tw_550, by decide +kernel⟩, tw_551, tw_552⟩
theorem xa_TinyForge_143 : ∀ w ∈ Bundle.ownAtoms0 "TinyForge" 143 (exn 4) ["java/lang/RuntimeException", "java/lang/Exception"], w ∈ th_four ∨ w ∈ th_nw ∨ w ∈ BIG := th_in (by decide +kernel)
def tTinyForge_run (σ : St) : Option (Nat × Int32 × St) := if (σ.1 25) = 0 then some (4, 0, σ) else b2 (tMachine_work σ) (fun r2 u2 => some (0, r2, u2))
set_option maxHeartbeats 4000000 in
set_option maxRecDepth 100000 in
theorem ct_TinyForge_run (l : Launch) (htr : l.stackTraces = false) (dC : Nat → ClassId) (dI : Nat → Nat → Nat) (ad : Nat → Nat) (cA : Nat → ClassId) (sz : Nat) {σ : St} {k : Nat} {r : Int32} {σ' : St} (hF : tTinyForge_run σ = some (k, r, σ')) : MX l y_TinyForge_run b_TinyForge_run 1 (some .int) { frames := 8, cells := 1, slots := 6, locals := 120 } (dC, dI) (ttys cA) ad (tcw ad cA) [.ref (ad 10)] σ sz k r σ' := by
  refine startX (own := "TinyForge") rfl rfl (Nat.le_of_ble_eq_true rfl) ?_
  intro p e s m below meth c A H locs ls X hex hS0 hP hD hS hl
  have hl : lv_has ls 1 [(0, .ref (ad 10))] := hl
  obtain ⟨hx, hb, hr, hml, hown, hlocks, hts, hA, hK, hZ⟩ := id X
  unfold tTinyForge_run at hF
  refine lv_aload_n hx hb d_TinyForge_run_0 rfl (lv_at hl 0 rfl) ?_
  refine va_get (D := (dC, dI)) (ci := 10) (v := .int (σ.1 25)) hx hb hts i_TinyForge hown hK hP 10 rfl rfl 8 (by decide) (hts _ tw_519) (fun _ h9 => h9) rfl d_TinyForge_run_1 ?_
  refine lv_if_ne (tgt := 15) hx hb d_TinyForge_run_4 (by decide) (fun c_1 => ?_) (fun c_1 => ?_)
  · have hF := ifn hF c_1
    refine lv_aload_n hx hb d_TinyForge_run_15 rfl (lv_at hl 0 rfl) ?_
    refine va_get (D := (dC, dI)) (ci := 10) (v := .ref (ad 9)) hx hb hts i_TinyForge hown hK hP 10 rfl rfl 7 (by decide) (hts _ tw_504) (fun _ h9 => h9) rfl d_TinyForge_run_16 ?_
    obtain ⟨r2, u2, h2, hF⟩ := b2E hF
    refine callVI (As := []) X (ct_Machine_work l dC dI ad cA H.size h2) lk_TinyForge_144 ⟨rfl, rfl, by decide, by decide⟩ 9 rfl rfl hP hD hS hl.1 rfl rfl (Nat.le_of_ble_eq_true rfl) d_TinyForge_run_19 (fun H locs hP hD hS => ?_)
    cases hF
    exact leafX X hP hD hS d_TinyForge_run_22
  · have hF := ifp hF c_1
    cases hF
    exact throwX (k := 4) (ik := 141) (ic := 143) (names := ["java/lang/RuntimeException", "java/lang/Exception"]) X htr (by decide) hS0 hex tw_547 tw_548 xa_TinyForge_143 (by decide +kernel) (by decide +kernel) hP hD hS hl.1 d_TinyForge_run_7 d_TinyForge_run_10 d_TinyForge_run_11 d_TinyForge_run_14 ⟨by decide, Nat.le_of_ble_eq_true rfl, by decide, by decide⟩
theorem d_TinyForge_type_0 : decode b_TinyForge_type 0 = .ok (.iload_n 3, 1) := by decide +kernel
theorem d_TinyForge_type_1 : decode b_TinyForge_type 1 = .ok (.iconst 1, 1) := by decide +kernel
theorem d_TinyForge_type_2 : decode b_TinyForge_type 2 = .ok (.if_icmp .lt 17, 3) := by decide +kernel
theorem d_TinyForge_type_5 : decode b_TinyForge_type 5 = .ok (.iload_n 3, 1) := by decide +kernel
theorem d_TinyForge_type_6 : decode b_TinyForge_type 6 = .ok (.bipush 8, 2) := by decide +kernel
theorem d_TinyForge_type_8 : decode b_TinyForge_type 8 = .ok (.if_icmp .gt 11, 3) := by decide +kernel
theorem d_TinyForge_type_11 : decode b_TinyForge_type 11 = .ok (.lload_n 1, 1) := by decide +kernel
theorem d_TinyForge_type_12 : decode b_TinyForge_type 12 = .ok (.iload_n 3, 1) := by decide +kernel
theorem d_TinyForge_type_13 : decode b_TinyForge_type 13 = .ok (.invokestatic 83, 3) := by decide +kernel
theorem d_TinyForge_type_16 : decode b_TinyForge_type 16 = .ok (.ifCond .ne 11, 3) := by decide +kernel
theorem d_TinyForge_type_19 : decode b_TinyForge_type 19 = .ok (.new 87, 3) := by decide +kernel
theorem d_TinyForge_type_22 : decode b_TinyForge_type 22 = .ok (.dup, 1) := by decide +kernel
theorem d_TinyForge_type_23 : decode b_TinyForge_type 23 = .ok (.invokespecial 89, 3) := by decide +kernel
theorem d_TinyForge_type_26 : decode b_TinyForge_type 26 = .ok (.athrow, 1) := by decide +kernel
theorem d_TinyForge_type_27 : decode b_TinyForge_type 27 = .ok (.aload_n 0, 1) := by decide +kernel
theorem d_TinyForge_type_28 : decode b_TinyForge_type 28 = .ok (.getfield 12, 3) := by decide +kernel
theorem d_TinyForge_type_31 : decode b_TinyForge_type 31 = .ok (.iload_n 3, 1) := by decide +kernel
theorem d_TinyForge_type_32 : decode b_TinyForge_type 32 = .ok (.invokevirtual 90, 3) := by decide +kernel
theorem d_TinyForge_type_35 : decode b_TinyForge_type 35 = .ok (.ifCond .ne 11, 3) := by decide +kernel
theorem d_TinyForge_type_38 : decode b_TinyForge_type 38 = .ok (.new 94, 3) := by decide +kernel
theorem d_TinyForge_type_41 : decode b_TinyForge_type 41 = .ok (.dup, 1) := by decide +kernel
theorem d_TinyForge_type_42 : decode b_TinyForge_type 42 = .ok (.invokespecial 96, 3) := by decide +kernel
theorem d_TinyForge_type_45 : decode b_TinyForge_type 45 = .ok (.athrow, 1) := by decide +kernel
theorem d_TinyForge_type_46 : decode b_TinyForge_type 46 = .ok (.aload_n 0, 1) := by decide +kernel
theorem d_TinyForge_type_47 : decode b_TinyForge_type 47 = .ok (.getfield 12, 3) := by decide +kernel
theorem d_TinyForge_type_50 : decode b_TinyForge_type 50 = .ok (.lload_n 1, 1) := by decide +kernel
theorem d_TinyForge_type_51 : decode b_TinyForge_type 51 = .ok (.iload_n 3, 1) := by decide +kernel
theorem d_TinyForge_type_52 : decode b_TinyForge_type 52 = .ok (.invokevirtual 97, 3) := by decide +kernel
theorem d_TinyForge_type_55 : decode b_TinyForge_type 55 = .ok (.aload_n 0, 1) := by decide +kernel
theorem d_TinyForge_type_56 : decode b_TinyForge_type 56 = .ok (.getfield 12, 3) := by decide +kernel
theorem d_TinyForge_type_59 : decode b_TinyForge_type 59 = .ok (.getfield 101, 3) := by decide +kernel
theorem d_TinyForge_type_62 : decode b_TinyForge_type 62 = .ok (.ireturn, 1) := by decide +kernel
theorem tw_553 : Cond.classLink "TinyForge" 87 "java/lang/IllegalArgumentException" ∈ BIG := List.mem_filter.mpr ⟨List.mem_of_getElem? (i := 498) (by decide +kernel), by decide +kernel⟩
theorem tw_554 : Cond.initialized "java/lang/IllegalArgumentException" ∈ BIG := List.mem_filter.mpr ⟨List.mem_of_getElem? (i := 136) (by decide +kernel), by decide +kernel⟩
theorem tw_555 : Cond.methodLink "TinyForge" 83 ⟨"TinyForge$Text", "areCharacters", "(JI)Z"⟩ ∈ BIG := List.mem_filter.mpr ⟨List.mem_of_getElem? (i := 492) (by decide +kernel), by decide +kernel⟩
theorem tw_556 : Cond.code ⟨"TinyForge$Text", "areCharacters", "(JI)Z"⟩ prog_9_method_2_code 5 (some .boolean) ∈ BIG := List.mem_filter.mpr ⟨List.mem_of_getElem? (i := 494) (by decide +kernel), by decide +kernel⟩
theorem tw_557 : Cond.static ⟨"TinyForge$Text", "areCharacters", "(JI)Z"⟩ ∈ BIG := List.mem_filter.mpr ⟨List.mem_of_getElem? (i := 493) (by decide +kernel), by decide +kernel⟩
theorem tw_558 : Cond.methodLink "TinyForge" 90 ⟨"TinyForge$Text", "hasRoomFor", "(I)Z"⟩ ∈ BIG := List.mem_filter.mpr ⟨List.mem_of_getElem? (i := 562) (by decide +kernel), by decide +kernel⟩
theorem tw_559 : Cond.code ⟨"TinyForge$Text", "hasRoomFor", "(I)Z"⟩ prog_9_method_5_code 2 (some .boolean) ∈ BIG := List.mem_filter.mpr ⟨List.mem_of_getElem? (i := 565) (by decide +kernel), by decide +kernel⟩
theorem tw_560 : Cond.instanceMethod ⟨"TinyForge$Text", "hasRoomFor", "(I)Z"⟩ ∈ BIG := List.mem_filter.mpr ⟨List.mem_of_getElem? (i := 563) (by decide +kernel), by decide +kernel⟩
theorem tw_561 : Cond.selects "TinyForge$Text" ⟨"TinyForge$Text", "hasRoomFor", "(I)Z"⟩ ⟨"TinyForge$Text", "hasRoomFor", "(I)Z"⟩ ∈ BIG := List.mem_filter.mpr ⟨List.mem_of_getElem? (i := 564) (by decide +kernel), by decide +kernel⟩
theorem tw_562 : Cond.methodLink "TinyForge" 97 ⟨"TinyForge$Text", "add", "(JI)V"⟩ ∈ BIG := List.mem_filter.mpr ⟨List.mem_of_getElem? (i := 581) (by decide +kernel), by decide +kernel⟩
theorem tw_563 : Cond.code ⟨"TinyForge$Text", "add", "(JI)V"⟩ prog_9_method_6_code 5 none ∈ BIG := List.mem_filter.mpr ⟨List.mem_of_getElem? (i := 584) (by decide +kernel), by decide +kernel⟩
theorem tw_564 : Cond.instanceMethod ⟨"TinyForge$Text", "add", "(JI)V"⟩ ∈ BIG := List.mem_filter.mpr ⟨List.mem_of_getElem? (i := 582) (by decide +kernel), by decide +kernel⟩
theorem tw_565 : Cond.selects "TinyForge$Text" ⟨"TinyForge$Text", "add", "(JI)V"⟩ ⟨"TinyForge$Text", "add", "(JI)V"⟩ ∈ BIG := List.mem_filter.mpr ⟨List.mem_of_getElem? (i := 583) (by decide +kernel), by decide +kernel⟩
theorem lk_TinyForge_83 : LkS "TinyForge" 83 y_Text_areCharacters b_Text_areCharacters 5 (some .boolean) 2 := ⟨⟨tw_555, tw_76, tw_556, by decide +kernel⟩, tw_557⟩
theorem lk_TinyForge_90 : LkV "TinyForge" 90 "TinyForge$Text" y_Text_hasRoomFor b_Text_hasRoomFor 2 (some .boolean) 1 := ⟨⟨tw_558, tw_76, tw_559, by decide +kernel⟩, tw_560, tw_561⟩
theorem lk_TinyForge_97 : LkV "TinyForge" 97 "TinyForge$Text" y_Text_add b_Text_add 5 none 2 := ⟨⟨tw_562, tw_76, tw_563, by decide +kernel⟩, tw_564, tw_565⟩
theorem xa_TinyForge_89 : ∀ w ∈ Bundle.ownAtoms0 "TinyForge" 89 (exn 1) ["java/lang/RuntimeException", "java/lang/Exception"], w ∈ th_four ∨ w ∈ th_nw ∨ w ∈ BIG := th_in (by decide +kernel)
def tTinyForge_type (σ : St) (a1 : Int64) (a2 : Int32) : Option (Nat × Int32 × St) := if a2 < 1 then some (1, 0, σ) else if (8 : Int32) < a2 then some (1, 0, σ) else b1 (tText_areCharacters σ a1 a2) (fun r3 => if r3 = 0 then some (1, 0, σ) else b1 (tText_hasRoomFor σ a2) (fun r5 => if r5 = 0 then some (2, 0, σ) else b1 (tText_add σ a1 a2) (fun u7 => some (0, (u7.1 0), u7))))
set_option maxHeartbeats 4000000 in
set_option maxRecDepth 100000 in
theorem ct_TinyForge_type (l : Launch) (htr : l.stackTraces = false) (dC : Nat → ClassId) (dI : Nat → Nat → Nat) (ad : Nat → Nat) (cA : Nat → ClassId) (sz : Nat) {σ : St} {a1 : Int64} {a2 : Int32} {k : Nat} {r : Int32} {σ' : St} (hF : tTinyForge_type σ a1 a2 = some (k, r, σ')) : MX l y_TinyForge_type b_TinyForge_type 4 (some .int) { frames := 8, cells := 1, slots := 6, locals := 120 } (dC, dI) (ttys cA) ad (tcw ad cA) [.ref (ad 10), .long a1, .int a2] σ sz k r σ' := by
  refine startX (own := "TinyForge") rfl rfl (Nat.le_of_ble_eq_true rfl) ?_
  intro p e s m below meth c A H locs ls X hex hS0 hP hD hS hl
  have hl : lv_has ls 4 [(0, .ref (ad 10)), (1, .long a1), (3, .int a2)] := hl
  obtain ⟨hx, hb, hr, hml, hown, hlocks, hts, hA, hK, hZ⟩ := id X
  unfold tTinyForge_type at hF
  refine lv_iload_n hx hb d_TinyForge_type_0 rfl (lv_at hl 2 rfl) ?_
  refine lv_iconst (v := 1) hx hb d_TinyForge_type_1 (by decide) ?_
  refine lv_icmp_lt (tgt := 19) hx hb d_TinyForge_type_2 (by decide) (fun c_1 => ?_) (fun c_1 => ?_)
  · have hF := ifp hF c_1
    cases hF
    exact throwX (k := 1) (ik := 87) (ic := 89) (names := ["java/lang/RuntimeException", "java/lang/Exception"]) X htr (by decide) hS0 hex tw_553 tw_554 xa_TinyForge_89 (by decide +kernel) (by decide +kernel) hP hD hS hl.1 d_TinyForge_type_19 d_TinyForge_type_22 d_TinyForge_type_23 d_TinyForge_type_26 ⟨by decide, Nat.le_of_ble_eq_true rfl, by decide, by decide⟩
  · have hF := ifn hF c_1
    refine lv_iload_n hx hb d_TinyForge_type_5 rfl (lv_at hl 2 rfl) ?_
    refine lv_bipush (v := 8) hx hb d_TinyForge_type_6 (by decide) ?_
    refine lv_icmp_gt (tgt := 19) hx hb d_TinyForge_type_8 (by decide) (fun c_2 => ?_) (fun c_2 => ?_)
    · have hF := ifp hF c_2
      cases hF
      exact throwX (k := 1) (ik := 87) (ic := 89) (names := ["java/lang/RuntimeException", "java/lang/Exception"]) X htr (by decide) hS0 hex tw_553 tw_554 xa_TinyForge_89 (by decide +kernel) (by decide +kernel) hP hD hS hl.1 d_TinyForge_type_19 d_TinyForge_type_22 d_TinyForge_type_23 d_TinyForge_type_26 ⟨by decide, Nat.le_of_ble_eq_true rfl, by decide, by decide⟩
    · have hF := ifn hF c_2
      refine lv_lload_n hx hb d_TinyForge_type_11 rfl (lv_at hl 1 rfl) ?_
      refine lv_iload_n hx hb d_TinyForge_type_12 rfl (lv_at hl 2 rfl) ?_
      obtain ⟨r3, h3, hF⟩ := b1E hF
      refine callSI (As := [.long a1, .int a2]) X (ct_Text_areCharacters l dC dI ad cA H.size h3) lk_TinyForge_83 ⟨rfl, rfl, by decide, by decide⟩ hP hD hS hl.1 rfl rfl (Nat.le_of_ble_eq_true rfl) d_TinyForge_type_13 (fun H locs hP hD hS => ?_)
      refine lv_if_ne (tgt := 27) hx hb d_TinyForge_type_16 (by decide) (fun c_4 => ?_) (fun c_4 => ?_)
      · have hF := ifn hF c_4
        refine lv_aload_n hx hb d_TinyForge_type_27 rfl (lv_at hl 0 rfl) ?_
        refine va_get (D := (dC, dI)) (ci := 10) (v := .ref (ad 0)) hx hb hts i_TinyForge hown hK hP 10 rfl rfl 0 (by decide) (hts _ tw_500) (fun _ h9 => h9) rfl d_TinyForge_type_28 ?_
        refine lv_iload_n hx hb d_TinyForge_type_31 rfl (lv_at hl 2 rfl) ?_
        obtain ⟨r5, h5, hF⟩ := b1E hF
        refine callVI (As := [.int a2]) X (ct_Text_hasRoomFor l dC dI ad cA H.size h5) lk_TinyForge_90 ⟨rfl, rfl, by decide, by decide⟩ 0 rfl rfl hP hD hS hl.1 rfl rfl (Nat.le_of_ble_eq_true rfl) d_TinyForge_type_32 (fun H locs hP hD hS => ?_)
        refine lv_if_ne (tgt := 46) hx hb d_TinyForge_type_35 (by decide) (fun c_6 => ?_) (fun c_6 => ?_)
        · have hF := ifn hF c_6
          refine lv_aload_n hx hb d_TinyForge_type_46 rfl (lv_at hl 0 rfl) ?_
          refine va_get (D := (dC, dI)) (ci := 10) (v := .ref (ad 0)) hx hb hts i_TinyForge hown hK hP 10 rfl rfl 0 (by decide) (hts _ tw_500) (fun _ h9 => h9) rfl d_TinyForge_type_47 ?_
          refine lv_lload_n hx hb d_TinyForge_type_50 rfl (lv_at hl 1 rfl) ?_
          refine lv_iload_n hx hb d_TinyForge_type_51 rfl (lv_at hl 2 rfl) ?_
          obtain ⟨u7, h7, hF⟩ := b1E hF
          refine callVV (As := [.long a1, .int a2]) X (ct_Text_add l dC dI ad cA H.size h7) lk_TinyForge_97 ⟨rfl, rfl, by decide, by decide⟩ 0 rfl rfl hP hD hS hl.1 rfl rfl (Nat.le_of_ble_eq_true rfl) d_TinyForge_type_52 (fun H locs hP hD hS => ?_)
          refine lv_aload_n hx hb d_TinyForge_type_55 rfl (lv_at hl 0 rfl) ?_
          refine va_get (D := (dC, dI)) (ci := 10) (v := .ref (ad 0)) hx hb hts i_TinyForge hown hK hP 10 rfl rfl 0 (by decide) (hts _ tw_500) (fun _ h9 => h9) rfl d_TinyForge_type_56 ?_
          refine va_get (D := (dC, dI)) (ci := 0) (v := .int (u7.1 0)) hx hb hts i_Text hown hK hP 0 rfl rfl 1 (by decide) (hts _ tw_501) (fun _ h9 => h9) rfl d_TinyForge_type_59 ?_
          cases hF
          exact leafX X hP hD hS d_TinyForge_type_62
        · have hF := ifp hF c_6
          cases hF
          exact throwX (k := 2) (ik := 94) (ic := 96) (names := ["java/lang/RuntimeException", "java/lang/Exception"]) X htr (by decide) hS0 hex tw_541 tw_542 xa_TinyForge_96 (by decide +kernel) (by decide +kernel) hP hD hS hl.1 d_TinyForge_type_38 d_TinyForge_type_41 d_TinyForge_type_42 d_TinyForge_type_45 ⟨by decide, Nat.le_of_ble_eq_true rfl, by decide, by decide⟩
      · have hF := ifp hF c_4
        cases hF
        exact throwX (k := 1) (ik := 87) (ic := 89) (names := ["java/lang/RuntimeException", "java/lang/Exception"]) X htr (by decide) hS0 hex tw_553 tw_554 xa_TinyForge_89 (by decide +kernel) (by decide +kernel) hP hD hS hl.1 d_TinyForge_type_19 d_TinyForge_type_22 d_TinyForge_type_23 d_TinyForge_type_26 ⟨by decide, Nat.le_of_ble_eq_true rfl, by decide, by decide⟩
