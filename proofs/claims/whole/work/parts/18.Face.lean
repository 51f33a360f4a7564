theorem d_Grammar_function_0 : decode b_Grammar_function 0 = .ok (.aload_n 0, 1) := by decide +kernel
theorem d_Grammar_function_1 : decode b_Grammar_function 1 = .ok (.getfield 15, 3) := by decide +kernel
theorem d_Grammar_function_4 : decode b_Grammar_function 4 = .ok (.invokevirtual 71, 3) := by decide +kernel
theorem d_Grammar_function_7 : decode b_Grammar_function 7 = .ok (.aload_n 0, 1) := by decide +kernel
theorem d_Grammar_function_8 : decode b_Grammar_function 8 = .ok (.getfield 9, 3) := by decide +kernel
theorem d_Grammar_function_11 : decode b_Grammar_function 11 = .ok (.bipush 40, 2) := by decide +kernel
theorem d_Grammar_function_13 : decode b_Grammar_function 13 = .ok (.invokevirtual 48, 3) := by decide +kernel
theorem d_Grammar_function_16 : decode b_Grammar_function 16 = .ok (.aload_n 0, 1) := by decide +kernel
theorem d_Grammar_function_17 : decode b_Grammar_function 17 = .ok (.getfield 9, 3) := by decide +kernel
theorem d_Grammar_function_20 : decode b_Grammar_function 20 = .ok (.invokevirtual 44, 3) := by decide +kernel
theorem d_Grammar_function_23 : decode b_Grammar_function 23 = .ok (.bipush 41, 2) := by decide +kernel
theorem d_Grammar_function_25 : decode b_Grammar_function 25 = .ok (.if_icmp .ne 7, 3) := by decide +kernel
theorem d_Grammar_function_28 : decode b_Grammar_function 28 = .ok (.iconst 0, 1) := by decide +kernel
theorem d_Grammar_function_29 : decode b_Grammar_function 29 = .ok (.goto 7, 3) := by decide +kernel
theorem d_Grammar_function_32 : decode b_Grammar_function 32 = .ok (.aload_n 0, 1) := by decide +kernel
theorem d_Grammar_function_33 : decode b_Grammar_function 33 = .ok (.invokevirtual 76, 3) := by decide +kernel
theorem d_Grammar_function_36 : decode b_Grammar_function 36 = .ok (.istore_n 2, 1) := by decide +kernel
theorem d_Grammar_function_37 : decode b_Grammar_function 37 = .ok (.aload_n 0, 1) := by decide +kernel
theorem d_Grammar_function_38 : decode b_Grammar_function 38 = .ok (.getfield 9, 3) := by decide +kernel
theorem d_Grammar_function_41 : decode b_Grammar_function 41 = .ok (.bipush 41, 2) := by decide +kernel
theorem d_Grammar_function_43 : decode b_Grammar_function 43 = .ok (.invokevirtual 48, 3) := by decide +kernel
theorem d_Grammar_function_46 : decode b_Grammar_function 46 = .ok (.aload_n 0, 1) := by decide +kernel
theorem d_Grammar_function_47 : decode b_Grammar_function 47 = .ok (.getfield 19, 3) := by decide +kernel
theorem d_Grammar_function_50 : decode b_Grammar_function 50 = .ok (.iload_n 1, 1) := by decide +kernel
theorem d_Grammar_function_51 : decode b_Grammar_function 51 = .ok (.aload_n 0, 1) := by decide +kernel
theorem d_Grammar_function_52 : decode b_Grammar_function 52 = .ok (.getfield 23, 3) := by decide +kernel
theorem d_Grammar_function_55 : decode b_Grammar_function 55 = .ok (.getfield 35, 3) := by decide +kernel
theorem d_Grammar_function_58 : decode b_Grammar_function 58 = .ok (.iload_n 2, 1) := by decide +kernel
theorem d_Grammar_function_59 : decode b_Grammar_function 59 = .ok (.invokevirtual 79, 3) := by decide +kernel
theorem d_Grammar_function_62 : decode b_Grammar_function 62 = .ok (.aload_n 0, 1) := by decide +kernel
theorem d_Grammar_function_63 : decode b_Grammar_function 63 = .ok (.getfield 9, 3) := by decide +kernel
theorem d_Grammar_function_66 : decode b_Grammar_function 66 = .ok (.bipush 123, 2) := by decide +kernel
theorem d_Grammar_function_68 : decode b_Grammar_function 68 = .ok (.invokevirtual 61, 3) := by decide +kernel
theorem d_Grammar_function_71 : decode b_Grammar_function 71 = .ok (.aload_n 0, 1) := by decide +kernel
theorem d_Grammar_function_72 : decode b_Grammar_function 72 = .ok (.invokevirtual 83, 3) := by decide +kernel
theorem d_Grammar_function_75 : decode b_Grammar_function 75 = .ok (.aload_n 0, 1) := by decide +kernel
theorem d_Grammar_function_76 : decode b_Grammar_function 76 = .ok (.getfield 9, 3) := by decide +kernel
theorem d_Grammar_function_79 : decode b_Grammar_function 79 = .ok (.bipush 125, 2) := by decide +kernel
theorem d_Grammar_function_81 : decode b_Grammar_function 81 = .ok (.invokevirtual 68, 3) := by decide +kernel
theorem d_Grammar_function_84 : decode b_Grammar_function 84 = .ok (.aload_n 0, 1) := by decide +kernel
theorem d_Grammar_function_85 : decode b_Grammar_function 85 = .ok (.getfield 23, 3) := by decide +kernel
theorem d_Grammar_function_88 : decode b_Grammar_function 88 = .ok (.bipush 10, 2) := by decide +kernel
theorem d_Grammar_function_90 : decode b_Grammar_function 90 = .ok (.iconst 0, 1) := by decide +kernel
theorem d_Grammar_function_91 : decode b_Grammar_function 91 = .ok (.iconst 0, 1) := by decide +kernel
theorem d_Grammar_function_92 : decode b_Grammar_function 92 = .ok (.invokevirtual 86, 3) := by decide +kernel
theorem d_Grammar_function_95 : decode b_Grammar_function 95 = .ok (.aload_n 0, 1) := by decide +kernel
theorem d_Grammar_function_96 : decode b_Grammar_function 96 = .ok (.getfield 23, 3) := by decide +kernel
theorem d_Grammar_function_99 : decode b_Grammar_function 99 = .ok (.bipush 7, 2) := by decide +kernel
theorem d_Grammar_function_101 : decode b_Grammar_function 101 = .ok (.iconst 0, 1) := by decide +kernel
theorem d_Grammar_function_102 : decode b_Grammar_function 102 = .ok (.iconst 0, 1) := by decide +kernel
theorem d_Grammar_function_103 : decode b_Grammar_function 103 = .ok (.invokevirtual 86, 3) := by decide +kernel
theorem d_Grammar_function_106 : decode b_Grammar_function 106 = .ok (.return_, 1) := by decide +kernel
theorem tw_468 : Cond.methodLink "TinyForge$Grammar" 71 ⟨"TinyForge$Variables", "startFunction", "()V"⟩ ∈ BIG := List.mem_filter.mpr ⟨List.mem_of_getElem? (i := 856) (by decide +kernel), by decide +kernel⟩
theorem tw_469 : Cond.code ⟨"TinyForge$Variables", "startFunction", "()V"⟩ prog_11_method_2_code 1 none ∈ BIG := List.mem_filter.mpr ⟨List.mem_of_getElem? (i := 859) (by decide +kernel), by decide +kernel⟩
theorem tw_470 : Cond.instanceMethod ⟨"TinyForge$Variables", "startFunction", "()V"⟩ ∈ BIG := List.mem_filter.mpr ⟨List.mem_of_getElem? (i := 857) (by decide +kernel), by decide +kernel⟩
theorem tw_471 : Cond.selects "TinyForge$Variables" ⟨"TinyForge$Variables", "startFunction", "()V"⟩ ⟨"TinyForge$Variables", "startFunction", "()V"⟩ ∈ BIG := List.mem_filter.mpr ⟨List.mem_of_getElem? (i := 858) (by decide +kernel), by decide +kernel⟩
theorem tw_472 : Cond.methodLink "TinyForge$Grammar" 76 ⟨"TinyForge$Grammar", "parameters", "()I"⟩ ∈ BIG := List.mem_filter.mpr ⟨List.mem_of_getElem? (i := 860) (by decide +kernel), by decide +kernel⟩
theorem tw_473 : Cond.code ⟨"TinyForge$Grammar", "parameters", "()I"⟩ prog_4_method_6_code 2 (some .int) ∈ BIG := List.mem_filter.mpr ⟨List.mem_of_getElem? (i := 863) (by decide +kernel), by decide +kernel⟩
theorem tw_474 : Cond.instanceMethod ⟨"TinyForge$Grammar", "parameters", "()I"⟩ ∈ BIG := List.mem_filter.mpr ⟨List.mem_of_getElem? (i := 862) (by decide +kernel), by decide +kernel⟩
theorem tw_475 : Cond.selects "TinyForge$Grammar" ⟨"TinyForge$Grammar", "parameters", "()I"⟩ ⟨"TinyForge$Grammar", "parameters", "()I"⟩ ∈ BIG := List.mem_filter.mpr ⟨List.mem_of_getElem? (i := 13) (by decide +kernel), by decide +kernel⟩
theorem tw_476 : Cond.methodLink "TinyForge$Grammar" 79 ⟨"TinyForge$Globals", "makeFunction", "(III)V"⟩ ∈ BIG := List.mem_filter.mpr ⟨List.mem_of_getElem? (i := 883) (by decide +kernel), by decide +kernel⟩
theorem tw_477 : Cond.code ⟨"TinyForge$Globals", "makeFunction", "(III)V"⟩ prog_3_method_4_code 4 none ∈ BIG := List.mem_filter.mpr ⟨List.mem_of_getElem? (i := 886) (by decide +kernel), by decide +kernel⟩
theorem tw_478 : Cond.instanceMethod ⟨"TinyForge$Globals", "makeFunction", "(III)V"⟩ ∈ BIG := List.mem_filter.mpr ⟨List.mem_of_getElem? (i := 884) (by decide +kernel), by decide +kernel⟩
theorem tw_479 : Cond.selects "TinyForge$Globals" ⟨"TinyForge$Globals", "makeFunction", "(III)V"⟩ ⟨"TinyForge$Globals", "makeFunction", "(III)V"⟩ ∈ BIG := List.mem_filter.mpr ⟨List.mem_of_getElem? (i := 885) (by decide +kernel), by decide +kernel⟩
theorem lk_Grammar_71 : LkV "TinyForge$Grammar" 71 "TinyForge$Variables" y_Variables_startFunction b_Variables_startFunction 1 none 0 := ⟨⟨tw_468, tw_180, tw_469, by decide +kernel⟩, tw_470, tw_471⟩
theorem lk_Grammar_76 : LkV "TinyForge$Grammar" 76 "TinyForge$Grammar" y_Grammar_parameters b_Grammar_parameters 2 (some .int) 0 := ⟨⟨tw_472, tw_349, tw_473, by decide +kernel⟩, tw_474, tw_475⟩
theorem lk_Grammar_79 : LkV "TinyForge$Grammar" 79 "TinyForge$Globals" y_Globals_makeFunction b_Globals_makeFunction 4 none 3 := ⟨⟨tw_476, tw_197, tw_477, by decide +kernel⟩, tw_478, tw_479⟩
def tGrammar_function_b1 (k : Nat → St → Int32 → Int32 → Option (St)) (σ : St) (x1 : Int32) (x2 : Int32) : Option (St) := b1 (tCursor_pass σ 41) (fun u6 => b1 (tGlobals_makeFunction u6 x1 (u6.1 13) x2) (fun u7 => b1 (tCursor_passOpening u7 123) (fun u8 => b2 (tG 80 15 u8 0 0) (fun r9 u9 => b1 (tCursor_passClosing u9 125) (fun u10 => b1 (tProgram_add u10 10 0 0) (fun u11 => b1 (tProgram_add u11 7 0 0) (fun u12 => some u12)))))))
def tGrammar_function_L : Nat → Nat → St → Int32 → Int32 → Option (St)
  | 0, _, _, _, _ => none
  | n + 1, lab, σ, x1, x2 => match lab with
    | 1 => tGrammar_function_b1 (tGrammar_function_L n) σ x1 x2
    | _ => none
def tGrammar_function (σ : St) (a1 : Int32) : Option (St) := b1 (tVariables_startFunction σ) (fun u1 => b1 (tCursor_pass u1 40) (fun u2 => b1 (tCursor_kind u2) (fun r3 => if r3 = 41 then tGrammar_function_L 2000 1 u2 a1 0 else b2 (tGrammar_parameters u2) (fun r5 u5 => tGrammar_function_L 2000 1 u5 a1 r5))))
set_option maxHeartbeats 4000000 in
set_option maxRecDepth 100000 in
theorem tGrammar_function_blk {p : Program} {e : Env} {s : State} {m : MethodId} {args : Array Value} {below : List Frame} {meth : Method} {c : Code} {A : Nat → Prop} (l : Launch) (dC : Nat → ClassId) (dI : Nat → Nat → Nat) (ad : Nat → Nat) (cA : Nat → ClassId) {σ' : St} (X : Cx p s m args meth c b_Grammar_function 3 none "TinyForge$Grammar" (dC, dI) (ttys cA) ad A) : ∀ n : Nat, (∀ (σ : St) (x1 : Int32) (x2 : Int32) (H : Heap) (locs : List Loc) (ls : Array Slot), tGrammar_function_L n 1 σ x1 x2 = some σ' → va_P (dC, dI) vwCl (tcw ad cA σ) H → va_D A (tcw ad cA σ) → va_S A s.heap H locs → lv_has ls 3 [(0, .ref (ad 7)), (1, .int x1)] → W p l e { frames := 85, cells := 0, slots := 0, locals := 1944 } s m args below meth c H locs 0 0 (MQ below (QV (dC, dI) (ttys cA) (tcw ad cA) A σ') args s 0 0 A) (F0 m 36 ls [.int x2])) := by
  obtain ⟨hx, hb, hr, hml, hown, hlocks, hts, hA, hK, hZ⟩ := id X
  intro n
  induction n with
  | zero => exact (fun σ x1 x2 H locs ls hF => by cases hF)
  | succ n ihn =>
    refine fun σ x1 x2 H locs ls hF hP hD hS hl => ?_
    · have hF : tGrammar_function_b1 (tGrammar_function_L n) σ x1 x2 = some σ' := hF
      unfold tGrammar_function_b1 at hF
      refine lv_istore_n (lv' := [(2, .int x2), (0, .ref (ad 7)), (1, .int x1)]) hx hb d_Grammar_function_36 rfl hl (by decide) rfl (fun ls hl => ?_)
      refine lv_aload_n hx hb d_Grammar_function_37 rfl (lv_at hl 1 rfl) ?_
      refine va_get (D := (dC, dI)) (ci := 7) (v := .ref (ad 3)) hx hb hts i_Grammar hown hK hP 7 rfl rfl 0 (by decide) (hts _ tw_327) (fun _ h9 => h9) rfl d_Grammar_function_38 ?_
      refine lv_bipush (v := 41) hx hb d_Grammar_function_41 (by decide) ?_
      obtain ⟨u6, h6, hF⟩ := b1E hF
      refine callVV (As := [.int 41]) X (ct_Cursor_pass l dC dI ad cA H.size h6) lk_Grammar_48 ⟨rfl, rfl, by decide, by decide⟩ 3 rfl rfl hP hD hS hl.1 rfl rfl (Nat.le_of_ble_eq_true rfl) d_Grammar_function_43 (fun H locs hP hD hS => ?_)
      refine lv_aload_n hx hb d_Grammar_function_46 rfl (lv_at hl 1 rfl) ?_
      refine va_get (D := (dC, dI)) (ci := 7) (v := .ref (ad 5)) hx hb hts i_Grammar hown hK hP 7 rfl rfl 2 (by decide) (hts _ tw_328) (fun _ h9 => h9) rfl d_Grammar_function_47 ?_
      refine lv_iload_n hx hb d_Grammar_function_50 rfl (lv_at hl 2 rfl) ?_
      refine lv_aload_n hx hb d_Grammar_function_51 rfl (lv_at hl 1 rfl) ?_
      refine va_get (D := (dC, dI)) (ci := 7) (v := .ref (ad 6)) hx hb hts i_Grammar hown hK hP 7 rfl rfl 3 (by decide) (hts _ tw_370) (fun _ h9 => h9) rfl d_Grammar_function_52 ?_
      refine va_get (D := (dC, dI)) (ci := 6) (v := .int (u6.1 13)) hx hb hts i_Program hown hK hP 6 rfl rfl 3 (by decide) (hts _ tw_371) (fun _ h9 => h9) rfl d_Grammar_function_55 ?_
      refine lv_iload_n hx hb d_Grammar_function_58 rfl (lv_at hl 0 rfl) ?_
      obtain ⟨u7, h7, hF⟩ := b1E hF
      refine callVV (As := [.int x1, .int (u6.1 13), .int x2]) X (ct_Globals_makeFunction l dC dI ad cA H.size h7) lk_Grammar_79 ⟨rfl, rfl, by decide, by decide⟩ 5 rfl rfl hP hD hS hl.1 rfl rfl (Nat.le_of_ble_eq_true rfl) d_Grammar_function_59 (fun H locs hP hD hS => ?_)
      refine lv_aload_n hx hb d_Grammar_function_62 rfl (lv_at hl 1 rfl) ?_
      refine va_get (D := (dC, dI)) (ci := 7) (v := .ref (ad 3)) hx hb hts i_Grammar hown hK hP 7 rfl rfl 0 (by decide) (hts _ tw_327) (fun _ h9 => h9) rfl d_Grammar_function_63 ?_
      refine lv_bipush (v := 123) hx hb d_Grammar_function_66 (by decide) ?_
      obtain ⟨u8, h8, hF⟩ := b1E hF
      refine callVV (As := [.int 123]) X (ct_Cursor_passOpening l dC dI ad cA H.size h8) lk_Grammar_61 ⟨rfl, rfl, by decide, by decide⟩ 3 rfl rfl hP hD hS hl.1 rfl rfl (Nat.le_of_ble_eq_true rfl) d_Grammar_function_68 (fun H locs hP hD hS => ?_)
      refine lv_aload_n hx hb d_Grammar_function_71 rfl (lv_at hl 1 rfl) ?_
      obtain ⟨r9, u9, h9, hF⟩ := b2E hF
      refine callVV (As := []) X ((tG_ok l 80).2.2.2.2.2.2.2.2.2.2.2.2.2.2.2.1 dC dI ad cA H.size h9) lk_Grammar_83 ⟨rfl, rfl, by decide, by decide⟩ 7 rfl rfl hP hD hS hl.1 rfl rfl (Nat.le_of_ble_eq_true rfl) d_Grammar_function_72 (fun H locs hP hD hS => ?_)
      refine lv_aload_n hx hb d_Grammar_function_75 rfl (lv_at hl 1 rfl) ?_
      refine va_get (D := (dC, dI)) (ci := 7) (v := .ref (ad 3)) hx hb hts i_Grammar hown hK hP 7 rfl rfl 0 (by decide) (hts _ tw_327) (fun _ h9 => h9) rfl d_Grammar_function_76 ?_
      refine lv_bipush (v := 125) hx hb d_Grammar_function_79 (by decide) ?_
      obtain ⟨u10, h10, hF⟩ := b1E hF
      refine callVV (As := [.int 125]) X (ct_Cursor_passClosing l dC dI ad cA H.size h10) lk_Grammar_68 ⟨rfl, rfl, by decide, by decide⟩ 3 rfl rfl hP hD hS hl.1 rfl rfl (Nat.le_of_ble_eq_true rfl) d_Grammar_function_81 (fun H locs hP hD hS => ?_)
      refine lv_aload_n hx hb d_Grammar_function_84 rfl (lv_at hl 1 rfl) ?_
      refine va_get (D := (dC, dI)) (ci := 7) (v := .ref (ad 6)) hx hb hts i_Grammar hown hK hP 7 rfl rfl 3 (by decide) (hts _ tw_370) (fun _ h9 => h9) rfl d_Grammar_function_85 ?_
      refine lv_bipush (v := 10) hx hb d_Grammar_function_88 (by decide) ?_
      refine lv_iconst (v := 0) hx hb d_Grammar_function_90 (by decide) ?_
      refine lv_iconst (v := 0) hx hb d_Grammar_function_91 (by decide) ?_
      obtain ⟨u11, h11, hF⟩ := b1E hF
      refine callVV (As := [.int 10, .int 0, .int 0]) X (ct_Program_add l dC dI ad cA H.size h11) lk_Grammar_86 ⟨rfl, rfl, by decide, by decide⟩ 6 rfl rfl hP hD hS hl.1 rfl rfl (Nat.le_of_ble_eq_true rfl) d_Grammar_function_92 (fun H locs hP hD hS => ?_)
      refine lv_aload_n hx hb d_Grammar_function_95 rfl (lv_at hl 1 rfl) ?_
      refine va_get (D := (dC, dI)) (ci := 7) (v := .ref (ad 6)) hx hb hts i_Grammar hown hK hP 7 rfl rfl 3 (by decide) (hts _ tw_370) (fun _ h9 => h9) rfl d_Grammar_function_96 ?_
      refine lv_bipush (v := 7) hx hb d_Grammar_function_99 (by decide) ?_
      refine lv_iconst (v := 0) hx hb d_Grammar_function_101 (by decide) ?_
      refine lv_iconst (v := 0) hx hb d_Grammar_function_102 (by decide) ?_
      obtain ⟨u12, h12, hF⟩ := b1E hF
      refine callVV (As := [.int 7, .int 0, .int 0]) X (ct_Program_add l dC dI ad cA H.size h12) lk_Grammar_86 ⟨rfl, rfl, by decide, by decide⟩ 6 rfl rfl hP hD hS hl.1 rfl rfl (Nat.le_of_ble_eq_true rfl) d_Grammar_function_103 (fun H locs hP hD hS => ?_)
      cases hF
      exact leafV X hP hD hS d_Grammar_function_106
set_option maxHeartbeats 4000000 in
set_option maxRecDepth 100000 in
theorem ct_Grammar_function (l : Launch) (dC : Nat → ClassId) (dI : Nat → Nat → Nat) (ad : Nat → Nat) (cA : Nat → ClassId) (sz : Nat) {σ : St} {a1 : Int32} {σ' : St} (hF : tGrammar_function σ a1 = some σ') : MV l y_Grammar_function b_Grammar_function 3 none { frames := 85, cells := 0, slots := 0, locals := 1944 } (dC, dI) (ttys cA) ad (tcw ad cA) [.ref (ad 7), .int a1] σ sz σ' := by
  refine startM (own := "TinyForge$Grammar") (Qc := fun A => QV (dC, dI) (ttys cA) (tcw ad cA) A σ') rfl rfl (Nat.le_of_ble_eq_true rfl) ?_
  intro p e s m below meth c A H locs ls X hP hD hS hl
  have hl : lv_has ls 3 [(0, .ref (ad 7)), (1, .int a1)] := hl
  obtain ⟨hx, hb, hr, hml, hown, hlocks, hts, hA, hK, hZ⟩ := id X
  unfold tGrammar_function at hF
  refine lv_aload_n hx hb d_Grammar_function_0 rfl (lv_at hl 0 rfl) ?_
  refine va_get (D := (dC, dI)) (ci := 7) (v := .ref (ad 4)) hx hb hts i_Grammar hown hK hP 7 rfl rfl 1 (by decide) (hts _ tw_343) (fun _ h9 => h9) rfl d_Grammar_function_1 ?_
  obtain ⟨u1, h1, hF⟩ := b1E hF
  refine callVV (As := []) X (ct_Variables_startFunction l dC dI ad cA H.size h1) lk_Grammar_71 ⟨rfl, rfl, by decide, by decide⟩ 4 rfl rfl hP hD hS hl.1 rfl rfl (Nat.le_of_ble_eq_true rfl) d_Grammar_function_4 (fun H locs hP hD hS => ?_)
  refine lv_aload_n hx hb d_Grammar_function_7 rfl (lv_at hl 0 rfl) ?_
  refine va_get (D := (dC, dI)) (ci := 7) (v := .ref (ad 3)) hx hb hts i_Grammar hown hK hP 7 rfl rfl 0 (by decide) (hts _ tw_327) (fun _ h9 => h9) rfl d_Grammar_function_8 ?_
  refine lv_bipush (v := 40) hx hb d_Grammar_function_11 (by decide) ?_
  obtain ⟨u2, h2, hF⟩ := b1E hF
  refine callVV (As := [.int 40]) X (ct_Cursor_pass l dC dI ad cA H.size h2) lk_Grammar_48 ⟨rfl, rfl, by decide, by decide⟩ 3 rfl rfl hP hD hS hl.1 rfl rfl (Nat.le_of_ble_eq_true rfl) d_Grammar_function_13 (fun H locs hP hD hS => ?_)
  refine lv_aload_n hx hb d_Grammar_function_16 rfl (lv_at hl 0 rfl) ?_
  refine va_get (D := (dC, dI)) (ci := 7) (v := .ref (ad 3)) hx hb hts i_Grammar hown hK hP 7 rfl rfl 0 (by decide) (hts _ tw_327) (fun _ h9 => h9) rfl d_Grammar_function_17 ?_
  obtain ⟨r3, h3, hF⟩ := b1E hF
  refine callVI (As := []) X (ct_Cursor_kind l dC dI ad cA H.size h3) lk_Grammar_44 ⟨rfl, rfl, by decide, by decide⟩ 3 rfl rfl hP hD hS hl.1 rfl rfl (Nat.le_of_ble_eq_true rfl) d_Grammar_function_20 (fun H locs hP hD hS => ?_)
  refine lv_bipush (v := 41) hx hb d_Grammar_function_23 (by decide) ?_
  refine lv_icmp_ne (tgt := 32) hx hb d_Grammar_function_25 (by decide) (fun c_4 => ?_) (fun c_4 => ?_)
  · have hF := ifn hF c_4
    refine lv_aload_n hx hb d_Grammar_function_32 rfl (lv_at hl 0 rfl) ?_
    obtain ⟨r5, u5, h5, hF⟩ := b2E hF
    refine callVI (As := []) X (ct_Grammar_parameters l dC dI ad cA H.size h5) lk_Grammar_76 ⟨rfl, rfl, by decide, by decide⟩ 7 rfl rfl hP hD hS hl.1 rfl rfl (Nat.le_of_ble_eq_true rfl) d_Grammar_function_33 (fun H locs hP hD hS => ?_)
    exact (tGrammar_function_blk l dC dI ad cA X 2000) u5 a1 r5 H locs ls hF hP hD hS (lv_sub hl [0, 1] rfl)
  · have hF := ifp hF c_4
    refine lv_iconst (v := 0) hx hb d_Grammar_function_28 (by decide) ?_
    refine lv_goto (tgt := 36) hx hb d_Grammar_function_29 (by decide) ?_
    exact (tGrammar_function_blk l dC dI ad cA X 2000) u2 a1 0 H locs ls hF hP hD hS (lv_sub hl [0, 1] rfl)
theorem d_Grammar_part_0 : decode b_Grammar_part 0 = .ok (.aload_n 0, 1) := by decide +kernel
theorem d_Grammar_part_1 : decode b_Grammar_part 1 = .ok (.getfield 9, 3) := by decide +kernel
theorem d_Grammar_part_4 : decode b_Grammar_part 4 = .ok (.iconst 3, 1) := by decide +kernel
theorem d_Grammar_part_5 : decode b_Grammar_part 5 = .ok (.invokevirtual 48, 3) := by decide +kernel
theorem d_Grammar_part_8 : decode b_Grammar_part 8 = .ok (.aload_n 0, 1) := by decide +kernel
theorem d_Grammar_part_9 : decode b_Grammar_part 9 = .ok (.getfield 9, 3) := by decide +kernel
theorem d_Grammar_part_12 : decode b_Grammar_part 12 = .ok (.getfield 52, 3) := by decide +kernel
theorem d_Grammar_part_15 : decode b_Grammar_part 15 = .ok (.istore_n 1, 1) := by decide +kernel
theorem d_Grammar_part_16 : decode b_Grammar_part 16 = .ok (.aload_n 0, 1) := by decide +kernel
theorem d_Grammar_part_17 : decode b_Grammar_part 17 = .ok (.getfield 9, 3) := by decide +kernel
theorem d_Grammar_part_20 : decode b_Grammar_part 20 = .ok (.iconst 1, 1) := by decide +kernel
theorem d_Grammar_part_21 : decode b_Grammar_part 21 = .ok (.invokevirtual 48, 3) := by decide +kernel
theorem d_Grammar_part_24 : decode b_Grammar_part 24 = .ok (.aload_n 0, 1) := by decide +kernel
theorem d_Grammar_part_25 : decode b_Grammar_part 25 = .ok (.getfield 9, 3) := by decide +kernel
theorem d_Grammar_part_28 : decode b_Grammar_part 28 = .ok (.invokevirtual 44, 3) := by decide +kernel
theorem d_Grammar_part_31 : decode b_Grammar_part 31 = .ok (.bipush 91, 2) := by decide +kernel
theorem d_Grammar_part_33 : decode b_Grammar_part 33 = .ok (.if_icmp .ne 11, 3) := by decide +kernel
theorem d_Grammar_part_36 : decode b_Grammar_part 36 = .ok (.aload_n 0, 1) := by decide +kernel
theorem d_Grammar_part_37 : decode b_Grammar_part 37 = .ok (.iload_n 1, 1) := by decide +kernel
theorem d_Grammar_part_38 : decode b_Grammar_part 38 = .ok (.invokevirtual 55, 3) := by decide +kernel
theorem d_Grammar_part_41 : decode b_Grammar_part 41 = .ok (.goto 8, 3) := by decide +kernel
theorem d_Grammar_part_44 : decode b_Grammar_part 44 = .ok (.aload_n 0, 1) := by decide +kernel
theorem d_Grammar_part_45 : decode b_Grammar_part 45 = .ok (.iload_n 1, 1) := by decide +kernel
theorem d_Grammar_part_46 : decode b_Grammar_part 46 = .ok (.invokevirtual 58, 3) := by decide +kernel
theorem d_Grammar_part_49 : decode b_Grammar_part 49 = .ok (.return_, 1) := by decide +kernel
theorem tw_480 : Cond.methodLink "TinyForge$Grammar" 58 ⟨"TinyForge$Grammar", "function", "(I)V"⟩ ∈ BIG := List.mem_filter.mpr ⟨List.mem_of_getElem? (i := 852) (by decide +kernel), by decide +kernel⟩
theorem tw_481 : Cond.code ⟨"TinyForge$Grammar", "function", "(I)V"⟩ prog_4_method_5_code 3 none ∈ BIG := List.mem_filter.mpr ⟨List.mem_of_getElem? (i := 855) (by decide +kernel), by decide +kernel⟩
theorem tw_482 : Cond.instanceMethod ⟨"TinyForge$Grammar", "function", "(I)V"⟩ ∈ BIG := List.mem_filter.mpr ⟨List.mem_of_getElem? (i := 854) (by decide +kernel), by decide +kernel⟩
theorem tw_483 : Cond.selects "TinyForge$Grammar" ⟨"TinyForge$Grammar", "function", "(I)V"⟩ ⟨"TinyForge$Grammar", "function", "(I)V"⟩ ∈ BIG := List.mem_filter.mpr ⟨List.mem_of_getElem? (i := 12) (by decide +kernel), by decide +kernel⟩
theorem tw_484 : Cond.methodLink "TinyForge$Grammar" 55 ⟨"TinyForge$Grammar", "array", "(I)V"⟩ ∈ BIG := List.mem_filter.mpr ⟨List.mem_of_getElem? (i := 813) (by decide +kernel), by decide +kernel⟩
theorem tw_485 : Cond.code ⟨"TinyForge$Grammar", "array", "(I)V"⟩ prog_4_method_4_code 2 none ∈ BIG := List.mem_filter.mpr ⟨List.mem_of_getElem? (i := 816) (by decide +kernel), by decide +kernel⟩
theorem tw_486 : Cond.instanceMethod ⟨"TinyForge$Grammar", "array", "(I)V"⟩ ∈ BIG := List.mem_filter.mpr ⟨List.mem_of_getElem? (i := 815) (by decide +kernel), by decide +kernel⟩
theorem tw_487 : Cond.selects "TinyForge$Grammar" ⟨"TinyForge$Grammar", "array", "(I)V"⟩ ⟨"TinyForge$Grammar", "array", "(I)V"⟩ ∈ BIG := List.mem_filter.mpr ⟨List.mem_of_getElem? (i := 8) (by decide +kernel), by decide +kernel⟩
theorem lk_Grammar_58 : LkV "TinyForge$Grammar" 58 "TinyForge$Grammar" y_Grammar_function b_Grammar_function 3 none 1 := ⟨⟨tw_480, tw_349, tw_481, by decide +kernel⟩, tw_482, tw_483⟩
theorem lk_Grammar_55 : LkV "TinyForge$Grammar" 55 "TinyForge$Grammar" y_Grammar_array b_Grammar_array 2 none 1 := ⟨⟨tw_484, tw_349, tw_485, by decide +kernel⟩, tw_486, tw_487⟩
def tGrammar_part (σ : St) : Option (St) := b1 (tCursor_pass σ 3) (fun u1 => b1 (tCursor_pass u1 1) (fun u2 => b1 (tCursor_kind u2) (fun r3 => if r3 = 91 then b1 (tGrammar_array u2 (u1.1 6)) (fun u6 => some u6) else b1 (tGrammar_function u2 (u1.1 6)) (fun u5 => some u5))))
set_option maxHeartbeats 4000000 in
set_option maxRecDepth 100000 in
theorem ct_Grammar_part (l : Launch) (dC : Nat → ClassId) (dI : Nat → Nat → Nat) (ad : Nat → Nat) (cA : Nat → ClassId) (sz : Nat) {σ : St} {σ' : St} (hF : tGrammar_part σ = some σ') : MV l y_Grammar_part b_Grammar_part 2 none { frames := 86, cells := 0, slots := 0, locals := 1966 } (dC, dI) (ttys cA) ad (tcw ad cA) [.ref (ad 7)] σ sz σ' := by
  refine startM (own := "TinyForge$Grammar") (Qc := fun A => QV (dC, dI) (ttys cA) (tcw ad cA) A σ') rfl rfl (Nat.le_of_ble_eq_true rfl) ?_
  intro p e s m below meth c A H locs ls X hP hD hS hl
  have hl : lv_has ls 2 [(0, .ref (ad 7))] := hl
  obtain ⟨hx, hb, hr, hml, hown, hlocks, hts, hA, hK, hZ⟩ := id X
  unfold tGrammar_part at hF
  refine lv_aload_n hx hb d_Grammar_part_0 rfl (lv_at hl 0 rfl) ?_
  refine va_get (D := (dC, dI)) (ci := 7) (v := .ref (ad 3)) hx hb hts i_Grammar hown hK hP 7 rfl rfl 0 (by decide) (hts _ tw_327) (fun _ h9 => h9) rfl d_Grammar_part_1 ?_
  refine lv_iconst (v := 3) hx hb d_Grammar_part_4 (by decide) ?_
  obtain ⟨u1, h1, hF⟩ := b1E hF
  refine callVV (As := [.int 3]) X (ct_Cursor_pass l dC dI ad cA H.size h1) lk_Grammar_48 ⟨rfl, rfl, by decide, by decide⟩ 3 rfl rfl hP hD hS hl.1 rfl rfl (Nat.le_of_ble_eq_true rfl) d_Grammar_part_5 (fun H locs hP hD hS => ?_)
  refine lv_aload_n hx hb d_Grammar_part_8 rfl (lv_at hl 0 rfl) ?_
  refine va_get (D := (dC, dI)) (ci := 7) (v := .ref (ad 3)) hx hb hts i_Grammar hown hK hP 7 rfl rfl 0 (by decide) (hts _ tw_327) (fun _ h9 => h9) rfl d_Grammar_part_9 ?_
  refine va_get (D := (dC, dI)) (ci := 3) (v := .int (u1.1 6)) hx hb hts i_Cursor hown hK hP 3 rfl rfl 2 (by decide) (hts _ tw_329) (fun _ h9 => h9) rfl d_Grammar_part_12 ?_
  refine lv_istore_n (lv' := [(1, .int (u1.1 6)), (0, .ref (ad 7))]) hx hb d_Grammar_part_15 rfl hl (by decide) rfl (fun ls hl => ?_)
  refine lv_aload_n hx hb d_Grammar_part_16 rfl (lv_at hl 1 rfl) ?_
  refine va_get (D := (dC, dI)) (ci := 7) (v := .ref (ad 3)) hx hb hts i_Grammar hown hK hP 7 rfl rfl 0 (by decide) (hts _ tw_327) (fun _ h9 => h9) rfl d_Grammar_part_17 ?_
  refine lv_iconst (v := 1) hx hb d_Grammar_part_20 (by decide) ?_
  obtain ⟨u2, h2, hF⟩ := b1E hF
  refine callVV (As := [.int 1]) X (ct_Cursor_pass l dC dI ad cA H.size h2) lk_Grammar_48 ⟨rfl, rfl, by decide, by decide⟩ 3 rfl rfl hP hD hS hl.1 rfl rfl (Nat.le_of_ble_eq_true rfl) d_Grammar_part_21 (fun H locs hP hD hS => ?_)
  refine lv_aload_n hx hb d_Grammar_part_24 rfl (lv_at hl 1 rfl) ?_
  refine va_get (D := (dC, dI)) (ci := 7) (v := .ref (ad 3)) hx hb hts i_Grammar hown hK hP 7 rfl rfl 0 (by decide) (hts _ tw_327) (fun _ h9 => h9) rfl d_Grammar_part_25 ?_
  obtain ⟨r3, h3, hF⟩ := b1E hF
  refine callVI (As := []) X (ct_Cursor_kind l dC dI ad cA H.size h3) lk_Grammar_44 ⟨rfl, rfl, by decide, by decide⟩ 3 rfl rfl hP hD hS hl.1 rfl rfl (Nat.le_of_ble_eq_true rfl) d_Grammar_part_28 (fun H locs hP hD hS => ?_)
  refine lv_bipush (v := 91) hx hb d_Grammar_part_31 (by decide) ?_
  refine lv_icmp_ne (tgt := 44) hx hb d_Grammar_part_33 (by decide) (fun c_4 => ?_) (fun c_4 => ?_)
  · have hF := ifn hF c_4
    refine lv_aload_n hx hb d_Grammar_part_44 rfl (lv_at hl 1 rfl) ?_
    refine lv_iload_n hx hb d_Grammar_part_45 rfl (lv_at hl 0 rfl) ?_
    obtain ⟨u5, h5, hF⟩ := b1E hF
    refine callVV (As := [.int (u1.1 6)]) X (ct_Grammar_function l dC dI ad cA H.size h5) lk_Grammar_58 ⟨rfl, rfl, by decide, by decide⟩ 7 rfl rfl hP hD hS hl.1 rfl rfl (Nat.le_of_ble_eq_true rfl) d_Grammar_part_46 (fun H locs hP hD hS => ?_)
    cases hF
    exact leafV X hP hD hS d_Grammar_part_49
  · have hF := ifp hF c_4
    refine lv_aload_n hx hb d_Grammar_part_36 rfl (lv_at hl 1 rfl) ?_
    refine lv_iload_n hx hb d_Grammar_part_37 rfl (lv_at hl 0 rfl) ?_
    obtain ⟨u6, h6, hF⟩ := b1E hF
    refine callVV (As := [.int (u1.1 6)]) X (ct_Grammar_array l dC dI ad cA H.size h6) lk_Grammar_55 ⟨rfl, rfl, by decide, by decide⟩ 7 rfl rfl hP hD hS hl.1 rfl rfl (Nat.le_of_ble_eq_true rfl) d_Grammar_part_38 (fun H locs hP hD hS => ?_)
    refine lv_goto (tgt := 49) hx hb d_Grammar_part_41 (by decide) ?_
    cases hF
    exact leafV X hP hD hS d_Grammar_part_49
theorem d_Grammar_readWhole_0 : decode b_Grammar_readWhole 0 = .ok (.aload_n 0, 1) := by decide +kernel
theorem d_Grammar_readWhole_1 : decode b_Grammar_readWhole 1 = .ok (.getfield 9, 3) := by decide +kernel
theorem d_Grammar_readWhole_4 : decode b_Grammar_readWhole 4 = .ok (.invokevirtual 27, 3) := by decide +kernel
theorem d_Grammar_readWhole_7 : decode b_Grammar_readWhole 7 = .ok (.aload_n 0, 1) := by decide +kernel
theorem d_Grammar_readWhole_8 : decode b_Grammar_readWhole 8 = .ok (.getfield 19, 3) := by decide +kernel
theorem d_Grammar_readWhole_11 : decode b_Grammar_readWhole 11 = .ok (.invokevirtual 32, 3) := by decide +kernel
theorem d_Grammar_readWhole_14 : decode b_Grammar_readWhole 14 = .ok (.aload_n 0, 1) := by decide +kernel
theorem d_Grammar_readWhole_15 : decode b_Grammar_readWhole 15 = .ok (.getfield 23, 3) := by decide +kernel
theorem d_Grammar_readWhole_18 : decode b_Grammar_readWhole 18 = .ok (.iconst 0, 1) := by decide +kernel
theorem d_Grammar_readWhole_19 : decode b_Grammar_readWhole 19 = .ok (.putfield 35, 3) := by decide +kernel
theorem d_Grammar_readWhole_22 : decode b_Grammar_readWhole 22 = .ok (.aload_n 0, 1) := by decide +kernel
theorem d_Grammar_readWhole_23 : decode b_Grammar_readWhole 23 = .ok (.invokevirtual 41, 3) := by decide +kernel
theorem d_Grammar_readWhole_26 : decode b_Grammar_readWhole 26 = .ok (.iconst 1, 1) := by decide +kernel
theorem d_Grammar_readWhole_27 : decode b_Grammar_readWhole 27 = .ok (.istore_n 1, 1) := by decide +kernel
theorem d_Grammar_readWhole_28 : decode b_Grammar_readWhole 28 = .ok (.iload_n 1, 1) := by decide +kernel
theorem d_Grammar_readWhole_29 : decode b_Grammar_readWhole 29 = .ok (.sipush 220, 3) := by decide +kernel
theorem d_Grammar_readWhole_32 : decode b_Grammar_readWhole 32 = .ok (.if_icmp .ge 23, 3) := by decide +kernel
theorem d_Grammar_readWhole_35 : decode b_Grammar_readWhole 35 = .ok (.aload_n 0, 1) := by decide +kernel
theorem d_Grammar_readWhole_36 : decode b_Grammar_readWhole 36 = .ok (.getfield 9, 3) := by decide +kernel
theorem d_Grammar_readWhole_39 : decode b_Grammar_readWhole 39 = .ok (.invokevirtual 44, 3) := by decide +kernel
theorem d_Grammar_readWhole_42 : decode b_Grammar_readWhole 42 = .ok (.ifCond .eq 13, 3) := by decide +kernel
theorem d_Grammar_readWhole_45 : decode b_Grammar_readWhole 45 = .ok (.aload_n 0, 1) := by decide +kernel
theorem d_Grammar_readWhole_46 : decode b_Grammar_readWhole 46 = .ok (.invokevirtual 41, 3) := by decide +kernel
theorem d_Grammar_readWhole_49 : decode b_Grammar_readWhole 49 = .ok (.iinc 1 1, 3) := by decide +kernel
theorem d_Grammar_readWhole_52 : decode b_Grammar_readWhole 52 = .ok (.goto (-24), 3) := by decide +kernel
theorem d_Grammar_readWhole_55 : decode b_Grammar_readWhole 55 = .ok (.return_, 1) := by decide +kernel
theorem tw_488 : Cond.methodLink "TinyForge$Grammar" 27 ⟨"TinyForge$Cursor", "start", "()V"⟩ ∈ BIG := List.mem_filter.mpr ⟨List.mem_of_getElem? (i := 782) (by decide +kernel), by decide +kernel⟩
theorem tw_489 : Cond.code ⟨"TinyForge$Cursor", "start", "()V"⟩ prog_2_method_2_code 1 none ∈ BIG := List.mem_filter.mpr ⟨List.mem_of_getElem? (i := 785) (by decide +kernel), by decide +kernel⟩
theorem tw_490 : Cond.instanceMethod ⟨"TinyForge$Cursor", "start", "()V"⟩ ∈ BIG := List.mem_filter.mpr ⟨List.mem_of_getElem? (i := 783) (by decide +kernel), by decide +kernel⟩
theorem tw_491 : Cond.selects "TinyForge$Cursor" ⟨"TinyForge$Cursor", "start", "()V"⟩ ⟨"TinyForge$Cursor", "start", "()V"⟩ ∈ BIG := List.mem_filter.mpr ⟨List.mem_of_getElem? (i := 784) (by decide +kernel), by decide +kernel⟩
theorem tw_492 : Cond.methodLink "TinyForge$Grammar" 32 ⟨"TinyForge$Globals", "start", "()V"⟩ ∈ BIG := List.mem_filter.mpr ⟨List.mem_of_getElem? (i := 786) (by decide +kernel), by decide +kernel⟩
theorem tw_493 : Cond.code ⟨"TinyForge$Globals", "start", "()V"⟩ prog_3_method_2_code 1 none ∈ BIG := List.mem_filter.mpr ⟨List.mem_of_getElem? (i := 789) (by decide +kernel), by decide +kernel⟩
theorem tw_494 : Cond.instanceMethod ⟨"TinyForge$Globals", "start", "()V"⟩ ∈ BIG := List.mem_filter.mpr ⟨List.mem_of_getElem? (i := 787) (by decide +kernel), by decide +kernel⟩
theorem tw_495 : Cond.selects "TinyForge$Globals" ⟨"TinyForge$Globals", "start", "()V"⟩ ⟨"TinyForge$Globals", "start", "()V"⟩ ∈ BIG := List.mem_filter.mpr ⟨List.mem_of_getElem? (i := 788) (by decide +kernel), by decide +kernel⟩
theorem tw_496 : Cond.methodLink "TinyForge$Grammar" 41 ⟨"TinyForge$Grammar", "part", "()V"⟩ ∈ BIG := List.mem_filter.mpr ⟨List.mem_of_getElem? (i := 790) (by decide +kernel), by decide +kernel⟩
theorem tw_497 : Cond.code ⟨"TinyForge$Grammar", "part", "()V"⟩ prog_4_method_3_code 2 none ∈ BIG := List.mem_filter.mpr ⟨List.mem_of_getElem? (i := 793) (by decide +kernel), by decide +kernel⟩
theorem tw_498 : Cond.instanceMethod ⟨"TinyForge$Grammar", "part", "()V"⟩ ∈ BIG := List.mem_filter.mpr ⟨List.mem_of_getElem? (i := 792) (by decide +kernel), by decide +kernel⟩
theorem tw_499 : Cond.selects "TinyForge$Grammar" ⟨"TinyForge$Grammar", "part", "()V"⟩ ⟨"TinyForge$Grammar", "part", "()V"⟩ ∈ BIG := List.mem_filter.mpr ⟨List.mem_of_getElem? (i := 7) (by decide +kernel), by decide +kernel⟩
theorem lk_Grammar_27 : LkV "TinyForge$Grammar" 27 "TinyForge$Cursor" y_Cursor_start b_Cursor_start 1 none 0 := ⟨⟨tw_488, tw_160, tw_489, by decide +kernel⟩, tw_490, tw_491⟩
theorem lk_Grammar_32 : LkV "TinyForge$Grammar" 32 "TinyForge$Globals" y_Globals_start b_Globals_start 1 none 0 := ⟨⟨tw_492, tw_197, tw_493, by decide +kernel⟩, tw_494, tw_495⟩
theorem lk_Grammar_41 : LkV "TinyForge$Grammar" 41 "TinyForge$Grammar" y_Grammar_part b_Grammar_part 2 none 0 := ⟨⟨tw_496, tw_349, tw_497, by decide +kernel⟩, tw_498, tw_499⟩
def tGrammar_readWhole_b1 (k : Nat → St → Int32 → Option (St)) (σ : St) (x1 : Int32) : Option (St) := if (220 : Int32) ≤ x1 then some σ else b1 (tCursor_kind σ) (fun r5 => if r5 = 0 then some σ else b1 (tGrammar_part σ) (fun u7 => k 1 u7 (x1 + 1)))
def tGrammar_readWhole_L : Nat → Nat → St → Int32 → Option (St)
  | 0, _, _, _ => none
  | n + 1, lab, σ, x1 => match lab with
    | 1 => tGrammar_readWhole_b1 (tGrammar_readWhole_L n) σ x1
    | _ => none
def tGrammar_readWhole (σ : St) : Option (St) := b1 (tCursor_start σ) (fun u1 => b1 (tGlobals_start u1) (fun u2 => b1 (tGrammar_part (sI u2 13 0)) (fun u3 => tGrammar_readWhole_L 2000 1 u3 1)))
set_option maxHeartbeats 4000000 in
set_option maxRecDepth 100000 in
theorem tGrammar_readWhole_blk {p : Program} {e : Env} {s : State} {m : MethodId} {args : Array Value} {below : List Frame} {meth : Method} {c : Code} {A : Nat → Prop} (l : Launch) (dC : Nat → ClassId) (dI : Nat → Nat → Nat) (ad : Nat → Nat) (cA : Nat → ClassId) {σ' : St} (X : Cx p s m args meth c b_Grammar_readWhole 2 none "TinyForge$Grammar" (dC, dI) (ttys cA) ad A) : ∀ n : Nat, (∀ (σ : St) (x1 : Int32) (H : Heap) (locs : List Loc) (ls : Array Slot), tGrammar_readWhole_L n 1 σ x1 = some σ' → va_P (dC, dI) vwCl (tcw ad cA σ) H → va_D A (tcw ad cA σ) → va_S A s.heap H locs → lv_has ls 2 [(0, .ref (ad 7)), (1, .int x1)] → W p l e { frames := 87, cells := 0, slots := 0, locals := 1987 } s m args below meth c H locs 0 0 (MQ below (QV (dC, dI) (ttys cA) (tcw ad cA) A σ') args s 0 0 A) (F0 m 28 ls [])) := by
  obtain ⟨hx, hb, hr, hml, hown, hlocks, hts, hA, hK, hZ⟩ := id X
  intro n
  induction n with
  | zero => exact (fun σ x1 H locs ls hF => by cases hF)
  | succ n ihn =>
    refine fun σ x1 H locs ls hF hP hD hS hl => ?_
    · have hF : tGrammar_readWhole_b1 (tGrammar_readWhole_L n) σ x1 = some σ' := hF
      unfold tGrammar_readWhole_b1 at hF
      refine lv_iload_n hx hb d_Grammar_readWhole_28 rfl (lv_at hl 1 rfl) ?_
      refine lv_sipush (v := 220) hx hb d_Grammar_readWhole_29 (by decide) ?_
      refine lv_icmp_ge (tgt := 55) hx hb d_Grammar_readWhole_32 (by decide) (fun c_4 => ?_) (fun c_4 => ?_)
      · have hF := ifp hF c_4
        cases hF
        exact leafV X hP hD hS d_Grammar_readWhole_55
      · have hF := ifn hF c_4
        refine lv_aload_n hx hb d_Grammar_readWhole_35 rfl (lv_at hl 0 rfl) ?_
        refine va_get (D := (dC, dI)) (ci := 7) (v := .ref (ad 3)) hx hb hts i_Grammar hown hK hP 7 rfl rfl 0 (by decide) (hts _ tw_327) (fun _ h9 => h9) rfl d_Grammar_readWhole_36 ?_
        obtain ⟨r5, h5, hF⟩ := b1E hF
        refine callVI (As := []) X (ct_Cursor_kind l dC dI ad cA H.size h5) lk_Grammar_44 ⟨rfl, rfl, by decide, by decide⟩ 3 rfl rfl hP hD hS hl.1 rfl rfl (Nat.le_of_ble_eq_true rfl) d_Grammar_readWhole_39 (fun H locs hP hD hS => ?_)
        refine lv_if_eq (tgt := 55) hx hb d_Grammar_readWhole_42 (by decide) (fun c_6 => ?_) (fun c_6 => ?_)
        · have hF := ifp hF c_6
          cases hF
          exact leafV X hP hD hS d_Grammar_readWhole_55
        · have hF := ifn hF c_6
          refine lv_aload_n hx hb d_Grammar_readWhole_45 rfl (lv_at hl 0 rfl) ?_
          obtain ⟨u7, h7, hF⟩ := b1E hF
          refine callVV (As := []) X (ct_Grammar_part l dC dI ad cA H.size h7) lk_Grammar_41 ⟨rfl, rfl, by decide, by decide⟩ 7 rfl rfl hP hD hS hl.1 rfl rfl (Nat.le_of_ble_eq_true rfl) d_Grammar_readWhole_46 (fun H locs hP hD hS => ?_)
          refine lv_iinc (v := (x1 + 1)) (lv' := [(1, .int (x1 + 1)), (0, .ref (ad 7))]) hx hb d_Grammar_readWhole_49 hl (k := 1) rfl rfl (by decide) rfl (fun ls hl => ?_)
          refine lv_goto (tgt := 28) hx hb d_Grammar_readWhole_52 (by decide) ?_
          exact ihn u7 (x1 + 1) H locs ls hF hP hD hS (lv_sub hl [1, 0] rfl)
set_option maxHeartbeats 4000000 in
set_option maxRecDepth 100000 in
theorem ct_Grammar_readWhole (l : Launch) (dC : Nat → ClassId) (dI : Nat → Nat → Nat) (ad : Nat → Nat) (cA : Nat → ClassId) (sz : Nat) {σ : St} {σ' : St} (hF : tGrammar_readWhole σ = some σ') : MV l y_Grammar_readWhole b_Grammar_readWhole 2 none { frames := 87, cells := 0, slots := 0, locals := 1987 } (dC, dI) (ttys cA) ad (tcw ad cA) [.ref (ad 7)] σ sz σ' := by
  refine startM (own := "TinyForge$Grammar") (Qc := fun A => QV (dC, dI) (ttys cA) (tcw ad cA) A σ') rfl rfl (Nat.le_of_ble_eq_true rfl) ?_
  intro p e s m below meth c A H locs ls X hP hD hS hl
  have hl : lv_has ls 2 [(0, .ref (ad 7))] := hl
  obtain ⟨hx, hb, hr, hml, hown, hlocks, hts, hA, hK, hZ⟩ := id X
  unfold tGrammar_readWhole at hF
  refine lv_aload_n hx hb d_Grammar_readWhole_0 rfl (lv_at hl 0 rfl) ?_
  refine va_get (D := (dC, dI)) (ci := 7) (v := .ref (ad 3)) hx hb hts i_Grammar hown hK hP 7 rfl rfl 0 (by decide) (hts _ tw_327) (fun _ h9 => h9) rfl d_Grammar_readWhole_1 ?_
  obtain ⟨u1, h1, hF⟩ := b1E hF
  refine callVV (As := []) X (ct_Cursor_start l dC dI ad cA H.size h1) lk_Grammar_27 ⟨rfl, rfl, by decide, by decide⟩ 3 rfl rfl hP hD hS hl.1 rfl rfl (Nat.le_of_ble_eq_true rfl) d_Grammar_readWhole_4 (fun H locs hP hD hS => ?_)
  refine lv_aload_n hx hb d_Grammar_readWhole_7 rfl (lv_at hl 0 rfl) ?_
  refine va_get (D := (dC, dI)) (ci := 7) (v := .ref (ad 5)) hx hb hts i_Grammar hown hK hP 7 rfl rfl 2 (by decide) (hts _ tw_328) (fun _ h9 => h9) rfl d_Grammar_readWhole_8 ?_
  obtain ⟨u2, h2, hF⟩ := b1E hF
  refine callVV (As := []) X (ct_Globals_start l dC dI ad cA H.size h2) lk_Grammar_32 ⟨rfl, rfl, by decide, by decide⟩ 5 rfl rfl hP hD hS hl.1 rfl rfl (Nat.le_of_ble_eq_true rfl) d_Grammar_readWhole_11 (fun H locs hP hD hS => ?_)
  refine lv_aload_n hx hb d_Grammar_readWhole_14 rfl (lv_at hl 0 rfl) ?_
  refine va_get (D := (dC, dI)) (ci := 7) (v := .ref (ad 6)) hx hb hts i_Grammar hown hK hP 7 rfl rfl 3 (by decide) (hts _ tw_370) (fun _ h9 => h9) rfl d_Grammar_readWhole_15 ?_
  refine lv_iconst (v := 0) hx hb d_Grammar_readWhole_18 (by decide) ?_
  refine va_put (D := (dC, dI)) (ci := 6) (v := .int 0) (ty := .int) hx hb hts i_Program t_Program t_Program_ok n_Program hown hK hP hD hS 6 rfl rfl 3 (by decide) (hts _ tw_371) (fun _ h9 => h9) rfl (by decide +kernel) rfl rfl (Nat.le_of_ble_eq_true rfl) d_Grammar_readWhole_19 (fun H locs hP hD hS => ?_)
  have hP : va_P (dC, dI) vwCl (tcw ad cA (sI u2 13 0)) H := hP
  have hD : va_D A (tcw ad cA (sI u2 13 0)) := hD
  refine lv_aload_n hx hb d_Grammar_readWhole_22 rfl (lv_at hl 0 rfl) ?_
  obtain ⟨u3, h3, hF⟩ := b1E hF
  refine callVV (As := []) X (ct_Grammar_part l dC dI ad cA H.size h3) lk_Grammar_41 ⟨rfl, rfl, by decide, by decide⟩ 7 rfl rfl hP hD hS hl.1 rfl rfl (Nat.le_of_ble_eq_true rfl) d_Grammar_readWhole_23 (fun H locs hP hD hS => ?_)
  refine lv_iconst (v := 1) hx hb d_Grammar_readWhole_26 (by decide) ?_
  refine lv_istore_n (lv' := [(1, .int 1), (0, .ref (ad 7))]) hx hb d_Grammar_readWhole_27 rfl hl (by decide) rfl (fun ls hl => ?_)
  exact (tGrammar_readWhole_blk l dC dI ad cA X 2000) u3 1 H locs ls hF hP hD hS (lv_sub hl [1, 0] rfl)
theorem d_TinyForge_clear_0 : decode b_TinyForge_clear 0 = .ok (.aload_n 0, 1) := by decide +kernel
theorem d_TinyForge_clear_1 : decode b_TinyForge_clear 1 = .ok (.getfield 12, 3) := by decide +kernel
theorem d_TinyForge_clear_4 : decode b_TinyForge_clear 4 = .ok (.getfield 101, 3) := by decide +kernel
theorem d_TinyForge_clear_7 : decode b_TinyForge_clear 7 = .ok (.istore_n 1, 1) := by decide +kernel
theorem d_TinyForge_clear_8 : decode b_TinyForge_clear 8 = .ok (.aload_n 0, 1) := by decide +kernel
theorem d_TinyForge_clear_9 : decode b_TinyForge_clear 9 = .ok (.getfield 12, 3) := by decide +kernel
theorem d_TinyForge_clear_12 : decode b_TinyForge_clear 12 = .ok (.iconst 0, 1) := by decide +kernel
theorem d_TinyForge_clear_13 : decode b_TinyForge_clear 13 = .ok (.putfield 101, 3) := by decide +kernel
theorem d_TinyForge_clear_16 : decode b_TinyForge_clear 16 = .ok (.iload_n 1, 1) := by decide +kernel
theorem d_TinyForge_clear_17 : decode b_TinyForge_clear 17 = .ok (.ireturn, 1) := by decide +kernel
theorem tw_500 : Cond.fieldLink "TinyForge" 12 "TinyForge" "text" "LTinyForge$Text;" ∈ BIG := List.mem_filter.mpr ⟨List.mem_of_getElem? (i := 423) (by decide +kernel), by decide +kernel⟩
theorem tw_501 : Cond.fieldLink "TinyForge" 101 "TinyForge$Text" "length" "I" ∈ BIG := List.mem_filter.mpr ⟨List.mem_of_getElem? (i := 163) (by decide +kernel), by decide +kernel⟩
def tTinyForge_clear (σ : St) : Option (Int32 × St) := some ((σ.1 0), (sI σ 0 0))
set_option maxHeartbeats 4000000 in
set_option maxRecDepth 100000 in
theorem ct_TinyForge_clear (l : Launch) (dC : Nat → ClassId) (dI : Nat → Nat → Nat) (ad : Nat → Nat) (cA : Nat → ClassId) (sz : Nat) {σ : St} {r : Int32} {σ' : St} (hF : tTinyForge_clear σ = some (r, σ')) : MI l y_TinyForge_clear b_TinyForge_clear 2 (some .int) { frames := 0, cells := 0, slots := 0, locals := 0 } (dC, dI) (ttys cA) ad (tcw ad cA) [.ref (ad 10)] σ sz r σ' := by
  refine startM (own := "TinyForge") (Qc := fun A => QI (dC, dI) (ttys cA) (tcw ad cA) A r σ') rfl rfl (Nat.le_of_ble_eq_true rfl) ?_
  intro p e s m below meth c A H locs ls X hP hD hS hl
  have hl : lv_has ls 2 [(0, .ref (ad 10))] := hl
  obtain ⟨hx, hb, hr, hml, hown, hlocks, hts, hA, hK, hZ⟩ := id X
  unfold tTinyForge_clear at hF
  refine lv_aload_n hx hb d_TinyForge_clear_0 rfl (lv_at hl 0 rfl) ?_
  refine va_get (D := (dC, dI)) (ci := 10) (v := .ref (ad 0)) hx hb hts i_TinyForge hown hK hP 10 rfl rfl 0 (by decide) (hts _ tw_500) (fun _ h9 => h9) rfl d_TinyForge_clear_1 ?_
  refine va_get (D := (dC, dI)) (ci := 0) (v := .int (σ.1 0)) hx hb hts i_Text hown hK hP 0 rfl rfl 1 (by decide) (hts _ tw_501) (fun _ h9 => h9) rfl d_TinyForge_clear_4 ?_
  refine lv_istore_n (lv' := [(1, .int (σ.1 0)), (0, .ref (ad 10))]) hx hb d_TinyForge_clear_7 rfl hl (by decide) rfl (fun ls hl => ?_)
  refine lv_aload_n hx hb d_TinyForge_clear_8 rfl (lv_at hl 1 rfl) ?_
  refine va_get (D := (dC, dI)) (ci := 10) (v := .ref (ad 0)) hx hb hts i_TinyForge hown hK hP 10 rfl rfl 0 (by decide) (hts _ tw_500) (fun _ h9 => h9) rfl d_TinyForge_clear_9 ?_
  refine lv_iconst (v := 0) hx hb d_TinyForge_clear_12 (by decide) ?_
  refine va_put (D := (dC, dI)) (ci := 0) (v := .int 0) (ty := .int) hx hb hts i_Text t_Text t_Text_ok n_Text hown hK hP hD hS 0 rfl rfl 1 (by decide) (hts _ tw_501) (fun _ h9 => h9) rfl (by decide +kernel) rfl rfl (Nat.le_of_ble_eq_true rfl) d_TinyForge_clear_13 (fun H locs hP hD hS => ?_)
  have hP : va_P (dC, dI) vwCl (tcw ad cA (sI σ 0 0)) H := hP
  have hD : va_D A (tcw ad cA (sI σ 0 0)) := hD
  refine lv_iload_n hx hb d_TinyForge_clear_16 rfl (lv_at hl 0 rfl) ?_
  cases hF
  exact leafI X hP hD hS d_TinyForge_clear_17
theorem d_TinyForge_empty_0 : decode b_TinyForge_empty 0 = .ok (.aload_n 0, 1) := by decide +kernel
theorem d_TinyForge_empty_1 : decode b_TinyForge_empty 1 = .ok (.getfield 66, 3) := by decide +kernel
theorem d_TinyForge_empty_4 : decode b_TinyForge_empty 4 = .ok (.getfield 135, 3) := by decide +kernel
theorem d_TinyForge_empty_7 : decode b_TinyForge_empty 7 = .ok (.istore_n 1, 1) := by decide +kernel
theorem d_TinyForge_empty_8 : decode b_TinyForge_empty 8 = .ok (.aload_n 0, 1) := by decide +kernel
theorem d_TinyForge_empty_9 : decode b_TinyForge_empty 9 = .ok (.getfield 66, 3) := by decide +kernel
theorem d_TinyForge_empty_12 : decode b_TinyForge_empty 12 = .ok (.iconst 0, 1) := by decide +kernel
theorem d_TinyForge_empty_13 : decode b_TinyForge_empty 13 = .ok (.putfield 135, 3) := by decide +kernel
theorem d_TinyForge_empty_16 : decode b_TinyForge_empty 16 = .ok (.iload_n 1, 1) := by decide +kernel
theorem d_TinyForge_empty_17 : decode b_TinyForge_empty 17 = .ok (.ireturn, 1) := by decide +kernel
theorem tw_502 : Cond.fieldLink "TinyForge" 66 "TinyForge" "input" "LTinyForge$Input;" ∈ BIG := List.mem_filter.mpr ⟨List.mem_of_getElem? (i := 429) (by decide +kernel), by decide +kernel⟩
theorem tw_503 : Cond.fieldLink "TinyForge" 135 "TinyForge$Input" "count" "I" ∈ BIG := List.mem_filter.mpr ⟨List.mem_of_getElem? (i := 358) (by decide +kernel), by decide +kernel⟩
def tTinyForge_empty (σ : St) : Option (Int32 × St) := some ((σ.1 15), (sI σ 15 0))
set_option maxHeartbeats 4000000 in
set_option maxRecDepth 100000 in
theorem ct_TinyForge_empty (l : Launch) (dC : Nat → ClassId) (dI : Nat → Nat → Nat) (ad : Nat → Nat) (cA : Nat → ClassId) (sz : Nat) {σ : St} {r : Int32} {σ' : St} (hF : tTinyForge_empty σ = some (r, σ')) : MI l y_TinyForge_empty b_TinyForge_empty 2 (some .int) { frames := 0, cells := 0, slots := 0, locals := 0 } (dC, dI) (ttys cA) ad (tcw ad cA) [.ref (ad 10)] σ sz r σ' := by
  refine startM (own := "TinyForge") (Qc := fun A => QI (dC, dI) (ttys cA) (tcw ad cA) A r σ') rfl rfl (Nat.le_of_ble_eq_true rfl) ?_
  intro p e s m below meth c A H locs ls X hP hD hS hl
  have hl : lv_has ls 2 [(0, .ref (ad 10))] := hl
  obtain ⟨hx, hb, hr, hml, hown, hlocks, hts, hA, hK, hZ⟩ := id X
  unfold tTinyForge_empty at hF
  refine lv_aload_n hx hb d_TinyForge_empty_0 rfl (lv_at hl 0 rfl) ?_
  refine va_get (D := (dC, dI)) (ci := 10) (v := .ref (ad 8)) hx hb hts i_TinyForge hown hK hP 10 rfl rfl 6 (by decide) (hts _ tw_502) (fun _ h9 => h9) rfl d_TinyForge_empty_1 ?_
  refine va_get (D := (dC, dI)) (ci := 8) (v := .int (σ.1 15)) hx hb hts i_Input hown hK hP 8 rfl rfl 1 (by decide) (hts _ tw_503) (fun _ h9 => h9) rfl d_TinyForge_empty_4 ?_
  refine lv_istore_n (lv' := [(1, .int (σ.1 15)), (0, .ref (ad 10))]) hx hb d_TinyForge_empty_7 rfl hl (by decide) rfl (fun ls hl => ?_)
  refine lv_aload_n hx hb d_TinyForge_empty_8 rfl (lv_at hl 1 rfl) ?_
  refine va_get (D := (dC, dI)) (ci := 10) (v := .ref (ad 8)) hx hb hts i_TinyForge hown hK hP 10 rfl rfl 6 (by decide) (hts _ tw_502) (fun _ h9 => h9) rfl d_TinyForge_empty_9 ?_
  refine lv_iconst (v := 0) hx hb d_TinyForge_empty_12 (by decide) ?_
  refine va_put (D := (dC, dI)) (ci := 8) (v := .int 0) (ty := .int) hx hb hts i_Input t_Input t_Input_ok n_Input hown hK hP hD hS 8 rfl rfl 1 (by decide) (hts _ tw_503) (fun _ h9 => h9) rfl (by decide +kernel) rfl rfl (Nat.le_of_ble_eq_true rfl) d_TinyForge_empty_13 (fun H locs hP hD hS => ?_)
  have hP : va_P (dC, dI) vwCl (tcw ad cA (sI σ 15 0)) H := hP
  have hD : va_D A (tcw ad cA (sI σ 15 0)) := hD
  refine lv_iload_n hx hb d_TinyForge_empty_16 rfl (lv_at hl 0 rfl) ?_
  cases hF
  exact leafI X hP hD hS d_TinyForge_empty_17
theorem d_TinyForge_output_0 : decode b_TinyForge_output 0 = .ok (.iload_n 1, 1) := by decide +kernel
theorem d_TinyForge_output_1 : decode b_TinyForge_output 1 = .ok (.iconst (-1), 1) := by decide +kernel
theorem d_TinyForge_output_2 : decode b_TinyForge_output 2 = .ok (.if_icmp .ne 11, 3) := by decide +kernel
theorem d_TinyForge_output_5 : decode b_TinyForge_output 5 = .ok (.aload_n 0, 1) := by decide +kernel
theorem d_TinyForge_output_6 : decode b_TinyForge_output 6 = .ok (.getfield 75, 3) := by decide +kernel
theorem d_TinyForge_output_9 : decode b_TinyForge_output 9 = .ok (.getfield 151, 3) := by decide +kernel
theorem d_TinyForge_output_12 : decode b_TinyForge_output 12 = .ok (.ireturn, 1) := by decide +kernel
theorem d_TinyForge_output_13 : decode b_TinyForge_output 13 = .ok (.aload_n 0, 1) := by decide +kernel
theorem d_TinyForge_output_14 : decode b_TinyForge_output 14 = .ok (.getfield 75, 3) := by decide +kernel
theorem d_TinyForge_output_17 : decode b_TinyForge_output 17 = .ok (.iload_n 1, 1) := by decide +kernel
theorem d_TinyForge_output_18 : decode b_TinyForge_output 18 = .ok (.invokevirtual 154, 3) := by decide +kernel
theorem d_TinyForge_output_21 : decode b_TinyForge_output 21 = .ok (.ireturn, 1) := by decide +kernel
theorem tw_504 : Cond.fieldLink "TinyForge" 75 "TinyForge" "machine" "LTinyForge$Machine;" ∈ BIG := List.mem_filter.mpr ⟨List.mem_of_getElem? (i := 430) (by decide +kernel), by decide +kernel⟩
theorem tw_505 : Cond.fieldLink "TinyForge" 151 "TinyForge$Machine" "outputs" "I" ∈ BIG := List.mem_filter.mpr ⟨List.mem_of_getElem? (i := 387) (by decide +kernel), by decide +kernel⟩
theorem tw_506 : Cond.methodLink "TinyForge" 154 ⟨"TinyForge$Machine", "outputAt", "(I)I"⟩ ∈ BIG := List.mem_filter.mpr ⟨List.mem_of_getElem? (i := 475) (by decide +kernel), by decide +kernel⟩
theorem tw_507 : Cond.code ⟨"TinyForge$Machine", "outputAt", "(I)I"⟩ prog_6_method_3_code 2 (some .int) ∈ BIG := List.mem_filter.mpr ⟨List.mem_of_getElem? (i := 478) (by decide +kernel), by decide +kernel⟩
theorem tw_508 : Cond.instanceMethod ⟨"TinyForge$Machine", "outputAt", "(I)I"⟩ ∈ BIG := List.mem_filter.mpr ⟨List.mem_of_getElem? (i := 476) (by decide +kernel), by decide +kernel⟩
theorem tw_509 : Cond.selects "TinyForge$Machine" ⟨"TinyForge$Machine", "outputAt", "(I)I"⟩ ⟨"TinyForge$Machine", "outputAt", "(I)I"⟩ ∈ BIG := List.mem_filter.mpr ⟨List.mem_of_getElem? (i := 477) (by decide +kernel), by decide +kernel⟩
theorem lk_TinyForge_154 : LkV "TinyForge" 154 "TinyForge$Machine" y_Machine_outputAt b_Machine_outputAt 2 (some .int) 1 := ⟨⟨tw_506, tw_246, tw_507, by decide +kernel⟩, tw_508, tw_509⟩
def tTinyForge_output (σ : St) (a1 : Int32) : Option (Int32) := if a1 = (-1) then some (σ.1 22) else b1 (tMachine_outputAt σ a1) (fun r2 => some r2)
set_option maxHeartbeats 4000000 in
set_option maxRecDepth 100000 in
theorem ct_TinyForge_output (l : Launch) (dC : Nat → ClassId) (dI : Nat → Nat → Nat) (ad : Nat → Nat) (cA : Nat → ClassId) (sz : Nat) {σ : St} {a1 : Int32} {r : Int32} (hF : tTinyForge_output σ a1 = some r) : MI l y_TinyForge_output b_TinyForge_output 2 (some .int) { frames := 1, cells := 0, slots := 0, locals := 21 } (dC, dI) (ttys cA) ad (tcw ad cA) [.ref (ad 10), .int a1] σ sz r σ := by
  refine startM (own := "TinyForge") (Qc := fun A => QI (dC, dI) (ttys cA) (tcw ad cA) A r σ) rfl rfl (Nat.le_of_ble_eq_true rfl) ?_
  intro p e s m below meth c A H locs ls X hP hD hS hl
  have hl : lv_has ls 2 [(0, .ref (ad 10)), (1, .int a1)] := hl
  obtain ⟨hx, hb, hr, hml, hown, hlocks, hts, hA, hK, hZ⟩ := id X
  unfold tTinyForge_output at hF
  refine lv_iload_n hx hb d_TinyForge_output_0 rfl (lv_at hl 1 rfl) ?_
  refine lv_iconst (v := (-1)) hx hb d_TinyForge_output_1 (by decide) ?_
  refine lv_icmp_ne (tgt := 13) hx hb d_TinyForge_output_2 (by decide) (fun c_1 => ?_) (fun c_1 => ?_)
  · have hF := ifn hF c_1
    refine lv_aload_n hx hb d_TinyForge_output_13 rfl (lv_at hl 0 rfl) ?_
    refine va_get (D := (dC, dI)) (ci := 10) (v := .ref (ad 9)) hx hb hts i_TinyForge hown hK hP 10 rfl rfl 7 (by decide) (hts _ tw_504) (fun _ h9 => h9) rfl d_TinyForge_output_14 ?_
    refine lv_iload_n hx hb d_TinyForge_output_17 rfl (lv_at hl 1 rfl) ?_
    obtain ⟨r2, h2, hF⟩ := b1E hF
    refine callVI (As := [.int a1]) X (ct_Machine_outputAt l dC dI ad cA H.size h2) lk_TinyForge_154 ⟨rfl, rfl, by decide, by decide⟩ 9 rfl rfl hP hD hS hl.1 rfl rfl (Nat.le_of_ble_eq_true rfl) d_TinyForge_output_18 (fun H locs hP hD hS => ?_)
    cases hF
    exact leafI X hP hD hS d_TinyForge_output_21
  · have hF := ifp hF c_1
    refine lv_aload_n hx hb d_TinyForge_output_5 rfl (lv_at hl 0 rfl) ?_
    refine va_get (D := (dC, dI)) (ci := 10) (v := .ref (ad 9)) hx hb hts i_TinyForge hown hK hP 10 rfl rfl 7 (by decide) (hts _ tw_504) (fun _ h9 => h9) rfl d_TinyForge_output_6 ?_
    refine va_get (D := (dC, dI)) (ci := 9) (v := .int (σ.1 22)) hx hb hts i_Machine hown hK hP 9 rfl rfl 12 (by decide) (hts _ tw_505) (fun _ h9 => h9) rfl d_TinyForge_output_9 ?_
    cases hF
    exact leafI X hP hD hS d_TinyForge_output_12
theorem d_TinyForge_result_0 : decode b_TinyForge_result 0 = .ok (.aload_n 0, 1) := by decide +kernel
theorem d_TinyForge_result_1 : decode b_TinyForge_result 1 = .ok (.getfield 75, 3) := by decide +kernel
theorem d_TinyForge_result_4 : decode b_TinyForge_result 4 = .ok (.getfield 148, 3) := by decide +kernel
theorem d_TinyForge_result_7 : decode b_TinyForge_result 7 = .ok (.ireturn, 1) := by decide +kernel
theorem tw_510 : Cond.fieldLink "TinyForge" 148 "TinyForge$Machine" "result" "I" ∈ BIG := List.mem_filter.mpr ⟨List.mem_of_getElem? (i := 391) (by decide +kernel), by decide +kernel⟩
def tTinyForge_result (σ : St) : Option (Int32) := some (σ.1 24)
set_option maxHeartbeats 4000000 in
set_option maxRecDepth 100000 in
theorem ct_TinyForge_result (l : Launch) (dC : Nat → ClassId) (dI : Nat → Nat → Nat) (ad : Nat → Nat) (cA : Nat → ClassId) (sz : Nat) {σ : St} {r : Int32} (hF : tTinyForge_result σ = some r) : MI l y_TinyForge_result b_TinyForge_result 1 (some .int) { frames := 0, cells := 0, slots := 0, locals := 0 } (dC, dI) (ttys cA) ad (tcw ad cA) [.ref (ad 10)] σ sz r σ := by
  refine startM (own := "TinyForge") (Qc := fun A => QI (dC, dI) (ttys cA) (tcw ad cA) A r σ) rfl rfl (Nat.le_of_ble_eq_true rfl) ?_
  intro p e s m below meth c A H locs ls X hP hD hS hl
  have hl : lv_has ls 1 [(0, .ref (ad 10))] := hl
  obtain ⟨hx, hb, hr, hml, hown, hlocks, hts, hA, hK, hZ⟩ := id X
  unfold tTinyForge_result at hF
  refine lv_aload_n hx hb d_TinyForge_result_0 rfl (lv_at hl 0 rfl) ?_
  refine va_get (D := (dC, dI)) (ci := 10) (v := .ref (ad 9)) hx hb hts i_TinyForge hown hK hP 10 rfl rfl 7 (by decide) (hts _ tw_504) (fun _ h9 => h9) rfl d_TinyForge_result_1 ?_
  refine va_get (D := (dC, dI)) (ci := 9) (v := .int (σ.1 24)) hx hb hts i_Machine hown hK hP 9 rfl rfl 14 (by decide) (hts _ tw_510) (fun _ h9 => h9) rfl d_TinyForge_result_4 ?_
  cases hF
  exact leafI X hP hD hS d_TinyForge_result_7
theorem d_TinyForge_ticks_0 : decode b_TinyForge_ticks 0 = .ok (.aload_n 0, 1) := by decide +kernel
theorem d_TinyForge_ticks_1 : decode b_TinyForge_ticks 1 = .ok (.getfield 75, 3) := by decide +kernel
theorem d_TinyForge_ticks_4 : decode b_TinyForge_ticks 4 = .ok (.getfield 158, 3) := by decide +kernel
theorem d_TinyForge_ticks_7 : decode b_TinyForge_ticks 7 = .ok (.ireturn, 1) := by decide +kernel
theorem tw_511 : Cond.fieldLink "TinyForge" 158 "TinyForge$Machine" "ticks" "I" ∈ BIG := List.mem_filter.mpr ⟨List.mem_of_getElem? (i := 389) (by decide +kernel), by decide +kernel⟩
def tTinyForge_ticks (σ : St) : Option (Int32) := some (σ.1 23)
set_option maxHeartbeats 4000000 in
set_option maxRecDepth 100000 in
theorem ct_TinyForge_ticks (l : Launch) (dC : Nat → ClassId) (dI : Nat → Nat → Nat) (ad : Nat → Nat) (cA : Nat → ClassId) (sz : Nat) {σ : St} {r : Int32} (hF : tTinyForge_ticks σ = some r) : MI l y_TinyForge_ticks b_TinyForge_ticks 1 (some .int) { frames := 0, cells := 0, slots := 0, locals := 0 } (dC, dI) (ttys cA) ad (tcw ad cA) [.ref (ad 10)] σ sz r σ := by
  refine startM (own := "TinyForge") (Qc := fun A => QI (dC, dI) (ttys cA) (tcw ad cA) A r σ) rfl rfl (Nat.le_of_ble_eq_true rfl) ?_
  intro p e s m below meth c A H locs ls X hP hD hS hl
  have hl : lv_has ls 1 [(0, .ref (ad 10))] := hl
  obtain ⟨hx, hb, hr, hml, hown, hlocks, hts, hA, hK, hZ⟩ := id X
  unfold tTinyForge_ticks at hF
  refine lv_aload_n hx hb d_TinyForge_ticks_0 rfl (lv_at hl 0 rfl) ?_
  refine va_get (D := (dC, dI)) (ci := 10) (v := .ref (ad 9)) hx hb hts i_TinyForge hown hK hP 10 rfl rfl 7 (by decide) (hts _ tw_504) (fun _ h9 => h9) rfl d_TinyForge_ticks_1 ?_
  refine va_get (D := (dC, dI)) (ci := 9) (v := .int (σ.1 23)) hx hb hts i_Machine hown hK hP 9 rfl rfl 13 (by decide) (hts _ tw_511) (fun _ h9 => h9) rfl d_TinyForge_ticks_4 ?_
  cases hF
  exact leafI X hP hD hS d_TinyForge_ticks_7
theorem d_TinyForge_where_0 : decode b_TinyForge_where 0 = .ok (.aload_n 0, 1) := by decide +kernel
theorem d_TinyForge_where_1 : decode b_TinyForge_where 1 = .ok (.getfield 19, 3) := by decide +kernel
theorem d_TinyForge_where_4 : decode b_TinyForge_where 4 = .ok (.getfield 132, 3) := by decide +kernel
theorem d_TinyForge_where_7 : decode b_TinyForge_where 7 = .ok (.ireturn, 1) := by decide +kernel
theorem tw_512 : Cond.fieldLink "TinyForge" 19 "TinyForge" "refusal" "LTinyForge$Refusal;" ∈ BIG := List.mem_filter.mpr ⟨List.mem_of_getElem? (i := 425) (by decide +kernel), by decide +kernel⟩
theorem tw_513 : Cond.fieldLink "TinyForge" 132 "TinyForge$Refusal" "place" "I" ∈ BIG := List.mem_filter.mpr ⟨List.mem_of_getElem? (i := 180) (by decide +kernel), by decide +kernel⟩
def tTinyForge_where (σ : St) : Option (Int32) := some (σ.1 2)
set_option maxHeartbeats 4000000 in
set_option maxRecDepth 100000 in
theorem ct_TinyForge_where (l : Launch) (dC : Nat → ClassId) (dI : Nat → Nat → Nat) (ad : Nat → Nat) (cA : Nat → ClassId) (sz : Nat) {σ : St} {r : Int32} (hF : tTinyForge_where σ = some r) : MI l y_TinyForge_where b_TinyForge_where 1 (some .int) { frames := 0, cells := 0, slots := 0, locals := 0 } (dC, dI) (ttys cA) ad (tcw ad cA) [.ref (ad 10)] σ sz r σ := by
  refine startM (own := "TinyForge") (Qc := fun A => QI (dC, dI) (ttys cA) (tcw ad cA) A r σ) rfl rfl (Nat.le_of_ble_eq_true rfl) ?_
  intro p e s m below meth c A H locs ls X hP hD hS hl
  have hl : lv_has ls 1 [(0, .ref (ad 10))] := hl
  obtain ⟨hx, hb, hr, hml, hown, hlocks, hts, hA, hK, hZ⟩ := id X
  unfold tTinyForge_where at hF
  refine lv_aload_n hx hb d_TinyForge_where_0 rfl (lv_at hl 0 rfl) ?_
  refine va_get (D := (dC, dI)) (ci := 10) (v := .ref (ad 1)) hx hb hts i_TinyForge hown hK hP 10 rfl rfl 2 (by decide) (hts _ tw_512) (fun _ h9 => h9) rfl d_TinyForge_where_1 ?_
  refine va_get (D := (dC, dI)) (ci := 1) (v := .int (σ.1 2)) hx hb hts i_Refusal hown hK hP 1 rfl rfl 1 (by decide) (hts _ tw_513) (fun _ h9 => h9) rfl d_TinyForge_where_4 ?_
  cases hF
  exact leafI X hP hD hS d_TinyForge_where_7
theorem d_TinyForge_why_0 : decode b_TinyForge_why 0 = .ok (.aload_n 0, 1) := by decide +kernel
theorem d_TinyForge_why_1 : decode b_TinyForge_why 1 = .ok (.getfield 19, 3) := by decide +kernel
theorem d_TinyForge_why_4 : decode b_TinyForge_why 4 = .ok (.getfield 129, 3) := by decide +kernel
theorem d_TinyForge_why_7 : decode b_TinyForge_why 7 = .ok (.ireturn, 1) := by decide +kernel
theorem tw_514 : Cond.fieldLink "TinyForge" 129 "TinyForge$Refusal" "reason" "I" ∈ BIG := List.mem_filter.mpr ⟨List.mem_of_getElem? (i := 178) (by decide +kernel), by decide +kernel⟩
def tTinyForge_why (σ : St) : Option (Int32) := some (σ.1 1)
set_option maxHeartbeats 4000000 in
set_option maxRecDepth 100000 in
theorem ct_TinyForge_why (l : Launch) (dC : Nat → ClassId) (dI : Nat → Nat → Nat) (ad : Nat → Nat) (cA : Nat → ClassId) (sz : Nat) {σ : St} {r : Int32} (hF : tTinyForge_why σ = some r) : MI l y_TinyForge_why b_TinyForge_why 1 (some .int) { frames := 0, cells := 0, slots := 0, locals := 0 } (dC, dI) (ttys cA) ad (tcw ad cA) [.ref (ad 10)] σ sz r σ := by
  refine startM (own := "TinyForge") (Qc := fun A => QI (dC, dI) (ttys cA) (tcw ad cA) A r σ) rfl rfl (Nat.le_of_ble_eq_true rfl) ?_
  intro p e s m below meth c A H locs ls X hP hD hS hl
  have hl : lv_has ls 1 [(0, .ref (ad 10))] := hl
  obtain ⟨hx, hb, hr, hml, hown, hlocks, hts, hA, hK, hZ⟩ := id X
  unfold tTinyForge_why at hF
  refine lv_aload_n hx hb d_TinyForge_why_0 rfl (lv_at hl 0 rfl) ?_
  refine va_get (D := (dC, dI)) (ci := 10) (v := .ref (ad 1)) hx hb hts i_TinyForge hown hK hP 10 rfl rfl 2 (by decide) (hts _ tw_512) (fun _ h9 => h9) rfl d_TinyForge_why_1 ?_
  refine va_get (D := (dC, dI)) (ci := 1) (v := .int (σ.1 1)) hx hb hts i_Refusal hown hK hP 1 rfl rfl 0 (by decide) (hts _ tw_514) (fun _ h9 => h9) rfl d_TinyForge_why_4 ?_
  cases hF
  exact leafI X hP hD hS d_TinyForge_why_7
