theorem d_Forge_clear_0 : decode b_Forge_clear 0 = .ok (.aload_n 0, 1) := by decide +kernel
theorem d_Forge_clear_1 : decode b_Forge_clear 1 = .ok (.getfield 12, 3) := by decide +kernel
theorem d_Forge_clear_4 : decode b_Forge_clear 4 = .ok (.getfield 101, 3) := by decide +kernel
theorem d_Forge_clear_7 : decode b_Forge_clear 7 = .ok (.istore_n 1, 1) := by decide +kernel
theorem d_Forge_clear_8 : decode b_Forge_clear 8 = .ok (.aload_n 0, 1) := by decide +kernel
theorem d_Forge_clear_9 : decode b_Forge_clear 9 = .ok (.getfield 12, 3) := by decide +kernel
theorem d_Forge_clear_12 : decode b_Forge_clear 12 = .ok (.iconst 0, 1) := by decide +kernel
theorem d_Forge_clear_13 : decode b_Forge_clear 13 = .ok (.putfield 101, 3) := by decide +kernel
theorem d_Forge_clear_16 : decode b_Forge_clear 16 = .ok (.iload_n 1, 1) := by decide +kernel
theorem d_Forge_clear_17 : decode b_Forge_clear 17 = .ok (.ireturn, 1) := by decide +kernel
def tForge_clear (σ : St) : Option (Int32 × St) := some ((σ.1 0), (sI σ 0 0))
set_option maxHeartbeats 4000000 in
set_option maxRecDepth 100000 in
theorem ct_Forge_clear (l : Launch) (dC : Nat → ClassId) (dI : Nat → Nat → Nat) (ad : Nat → Nat) (cA : Nat → ClassId) (sz : Nat) {σ : St} {r : Int32} {σ' : St} (hF : tForge_clear σ = some (r, σ')) : MI l y_Forge_clear b_Forge_clear 2 (some .int) { frames := 0, cells := 0, slots := 0, locals := 0 } (dC, dI) (ttys cA) ad (tcw ad cA) [.ref (ad 10)] σ sz r σ' := by
  refine startM (own := "TinyForge") (Qc := fun A => QI (dC, dI) (ttys cA) (tcw ad cA) A r σ') rfl rfl (Nat.le_of_ble_eq_true rfl) ?_
  intro p e s m below meth c A H locs ls X hP hD hS hl
  have hl : lv_has ls 2 [(0, .ref (ad 10))] := hl
  obtain ⟨hx, hb, hr, hml, hown, hlocks, hts, hA, hK, hZ⟩ := id X
  unfold tForge_clear at hF
  refine lv_aload_n hx hb d_Forge_clear_0 rfl (lv_at hl 0 rfl) ?_
  refine va_get (D := (dC, dI)) (ci := 10) (v := .ref (ad 0)) hx hb hts i_Forge hown hK hP 10 rfl rfl 0 (by decide) (hts _ w_f21e3a3b9f) (fun _ h9 => h9) rfl d_Forge_clear_1 ?_
  refine va_get (D := (dC, dI)) (ci := 0) (v := .int (σ.1 0)) hx hb hts i_Text hown hK hP 0 rfl rfl 1 (by decide) (hts _ w_58bba0c5d7) (fun _ h9 => h9) rfl d_Forge_clear_4 ?_
  refine lv_istore_n (lv' := [(1, .int (σ.1 0)), (0, .ref (ad 10))]) hx hb d_Forge_clear_7 rfl hl (by decide) rfl (fun ls hl => ?_)
  refine lv_aload_n hx hb d_Forge_clear_8 rfl (lv_at hl 1 rfl) ?_
  refine va_get (D := (dC, dI)) (ci := 10) (v := .ref (ad 0)) hx hb hts i_Forge hown hK hP 10 rfl rfl 0 (by decide) (hts _ w_f21e3a3b9f) (fun _ h9 => h9) rfl d_Forge_clear_9 ?_
  refine lv_iconst (v := 0) hx hb d_Forge_clear_12 (by decide) ?_
  refine va_put (D := (dC, dI)) (ci := 0) (v := .int 0) (ty := .int) hx hb hts i_Text t_Text t_Text_ok n_Text hown hK hP hD hS 0 rfl rfl 1 (by decide) (hts _ w_58bba0c5d7) (fun _ h9 => h9) rfl (by decide +kernel) rfl rfl (Nat.le_of_ble_eq_true rfl) d_Forge_clear_13 (fun H locs hP hD hS => ?_)
  have hP : va_P (dC, dI) vwCl (tcw ad cA (sI σ 0 0)) H := hP
  have hD : va_D A (tcw ad cA (sI σ 0 0)) := hD
  refine lv_iload_n hx hb d_Forge_clear_16 rfl (lv_at hl 0 rfl) ?_
  cases hF
  exact leafI X hP hD hS d_Forge_clear_17
theorem d_Forge_empty_0 : decode b_Forge_empty 0 = .ok (.aload_n 0, 1) := by decide +kernel
theorem d_Forge_empty_1 : decode b_Forge_empty 1 = .ok (.getfield 66, 3) := by decide +kernel
theorem d_Forge_empty_4 : decode b_Forge_empty 4 = .ok (.getfield 135, 3) := by decide +kernel
theorem d_Forge_empty_7 : decode b_Forge_empty 7 = .ok (.istore_n 1, 1) := by decide +kernel
theorem d_Forge_empty_8 : decode b_Forge_empty 8 = .ok (.aload_n 0, 1) := by decide +kernel
theorem d_Forge_empty_9 : decode b_Forge_empty 9 = .ok (.getfield 66, 3) := by decide +kernel
theorem d_Forge_empty_12 : decode b_Forge_empty 12 = .ok (.iconst 0, 1) := by decide +kernel
theorem d_Forge_empty_13 : decode b_Forge_empty 13 = .ok (.putfield 135, 3) := by decide +kernel
theorem d_Forge_empty_16 : decode b_Forge_empty 16 = .ok (.iload_n 1, 1) := by decide +kernel
theorem d_Forge_empty_17 : decode b_Forge_empty 17 = .ok (.ireturn, 1) := by decide +kernel
def tForge_empty (σ : St) : Option (Int32 × St) := some ((σ.1 15), (sI σ 15 0))
set_option maxHeartbeats 4000000 in
set_option maxRecDepth 100000 in
theorem ct_Forge_empty (l : Launch) (dC : Nat → ClassId) (dI : Nat → Nat → Nat) (ad : Nat → Nat) (cA : Nat → ClassId) (sz : Nat) {σ : St} {r : Int32} {σ' : St} (hF : tForge_empty σ = some (r, σ')) : MI l y_Forge_empty b_Forge_empty 2 (some .int) { frames := 0, cells := 0, slots := 0, locals := 0 } (dC, dI) (ttys cA) ad (tcw ad cA) [.ref (ad 10)] σ sz r σ' := by
  refine startM (own := "TinyForge") (Qc := fun A => QI (dC, dI) (ttys cA) (tcw ad cA) A r σ') rfl rfl (Nat.le_of_ble_eq_true rfl) ?_
  intro p e s m below meth c A H locs ls X hP hD hS hl
  have hl : lv_has ls 2 [(0, .ref (ad 10))] := hl
  obtain ⟨hx, hb, hr, hml, hown, hlocks, hts, hA, hK, hZ⟩ := id X
  unfold tForge_empty at hF
  refine lv_aload_n hx hb d_Forge_empty_0 rfl (lv_at hl 0 rfl) ?_
  refine va_get (D := (dC, dI)) (ci := 10) (v := .ref (ad 8)) hx hb hts i_Forge hown hK hP 10 rfl rfl 6 (by decide) (hts _ w_181b9836eb) (fun _ h9 => h9) rfl d_Forge_empty_1 ?_
  refine va_get (D := (dC, dI)) (ci := 8) (v := .int (σ.1 15)) hx hb hts i_Input hown hK hP 8 rfl rfl 1 (by decide) (hts _ w_6ee3102b02) (fun _ h9 => h9) rfl d_Forge_empty_4 ?_
  refine lv_istore_n (lv' := [(1, .int (σ.1 15)), (0, .ref (ad 10))]) hx hb d_Forge_empty_7 rfl hl (by decide) rfl (fun ls hl => ?_)
  refine lv_aload_n hx hb d_Forge_empty_8 rfl (lv_at hl 1 rfl) ?_
  refine va_get (D := (dC, dI)) (ci := 10) (v := .ref (ad 8)) hx hb hts i_Forge hown hK hP 10 rfl rfl 6 (by decide) (hts _ w_181b9836eb) (fun _ h9 => h9) rfl d_Forge_empty_9 ?_
  refine lv_iconst (v := 0) hx hb d_Forge_empty_12 (by decide) ?_
  refine va_put (D := (dC, dI)) (ci := 8) (v := .int 0) (ty := .int) hx hb hts i_Input t_Input t_Input_ok n_Input hown hK hP hD hS 8 rfl rfl 1 (by decide) (hts _ w_6ee3102b02) (fun _ h9 => h9) rfl (by decide +kernel) rfl rfl (Nat.le_of_ble_eq_true rfl) d_Forge_empty_13 (fun H locs hP hD hS => ?_)
  have hP : va_P (dC, dI) vwCl (tcw ad cA (sI σ 15 0)) H := hP
  have hD : va_D A (tcw ad cA (sI σ 15 0)) := hD
  refine lv_iload_n hx hb d_Forge_empty_16 rfl (lv_at hl 0 rfl) ?_
  cases hF
  exact leafI X hP hD hS d_Forge_empty_17
theorem d_Grammar_function_0 : decode b_Grammar_function 0 = .ok (.aload_n 0, 1) := by decide +kernel
theorem d_Grammar_function_1 : decode b_Grammar_function 1 = .ok (.getfield 15, 3) := by decide +kernel
theorem d_Grammar_function_4 : decode b_Grammar_function 4 = .ok (.invokevirtual 71, 3) := by decide +kernel
theorem d_Grammar_function_7 : decode b_Grammar_function 7 = .ok (.aload_n 0, 1) := by decide +kernel
theorem d_Grammar_function_8 : decode b_Grammar_function 8 = .ok (.getfield 9, 3) := by decide +kernel
theorem d_Grammar_function_11 : decode b_Grammar_function 11 = .ok (.bipush 40, 2) := by decide +kernel
theorem d_Grammar_function_13 : decode b_Grammar_function 13 = .ok (.invokevirtual 48, 3) := by decide +kernel
theorem d_Grammar_function_16 : decode b_Grammar_function 16 = .ok (.aload_n 0, 1) := by decide +kernel
theorem d_Grammar_function_17 : decode b_Grammar_function 17 = .ok (.getfield 9, 3) := by decide +kernel
theorem d_Grammar_function_20 : decode b_Grammar_function 20 = .ok (.invokevirtual 44, 3) := by decide +kernel
theorem d_Grammar_function_23 : decode b_Grammar_function 23 = .ok (.bipush 41, 2) := by decide +kernel
theorem d_Grammar_function_25 : decode b_Grammar_function 25 = .ok (.if_icmp .ne 7, 3) := by decide +kernel
theorem d_Grammar_function_28 : decode b_Grammar_function 28 = .ok (.iconst 0, 1) := by decide +kernel
theorem d_Grammar_function_29 : decode b_Grammar_function 29 = .ok (.goto 7, 3) := by decide +kernel
theorem d_Grammar_function_32 : decode b_Grammar_function 32 = .ok (.aload_n 0, 1) := by decide +kernel
theorem d_Grammar_function_33 : decode b_Grammar_function 33 = .ok (.invokevirtual 76, 3) := by decide +kernel
theorem d_Grammar_function_36 : decode b_Grammar_function 36 = .ok (.istore_n 2, 1) := by decide +kernel
theorem d_Grammar_function_37 : decode b_Grammar_function 37 = .ok (.aload_n 0, 1) := by decide +kernel
theorem d_Grammar_function_38 : decode b_Grammar_function 38 = .ok (.getfield 9, 3) := by decide +kernel
theorem d_Grammar_function_41 : decode b_Grammar_function 41 = .ok (.bipush 41, 2) := by decide +kernel
theorem d_Grammar_function_43 : decode b_Grammar_function 43 = .ok (.invokevirtual 48, 3) := by decide +kernel
theorem d_Grammar_function_46 : decode b_Grammar_function 46 = .ok (.aload_n 0, 1) := by decide +kernel
theorem d_Grammar_function_47 : decode b_Grammar_function 47 = .ok (.getfield 19, 3) := by decide +kernel
theorem d_Grammar_function_50 : decode b_Grammar_function 50 = .ok (.iload_n 1, 1) := by decide +kernel
theorem d_Grammar_function_51 : decode b_Grammar_function 51 = .ok (.aload_n 0, 1) := by decide +kernel
theorem d_Grammar_function_52 : decode b_Grammar_function 52 = .ok (.getfield 23, 3) := by decide +kernel
theorem d_Grammar_function_55 : decode b_Grammar_function 55 = .ok (.getfield 35, 3) := by decide +kernel
theorem d_Grammar_function_58 : decode b_Grammar_function 58 = .ok (.iload_n 2, 1) := by decide +kernel
theorem d_Grammar_function_59 : decode b_Grammar_function 59 = .ok (.invokevirtual 79, 3) := by decide +kernel
theorem d_Grammar_function_62 : decode b_Grammar_function 62 = .ok (.aload_n 0, 1) := by decide +kernel
theorem d_Grammar_function_63 : decode b_Grammar_function 63 = .ok (.getfield 9, 3) := by decide +kernel
theorem d_Grammar_function_66 : decode b_Grammar_function 66 = .ok (.bipush 123, 2) := by decide +kernel
theorem d_Grammar_function_68 : decode b_Grammar_function 68 = .ok (.invokevirtual 61, 3) := by decide +kernel
theorem d_Grammar_function_71 : decode b_Grammar_function 71 = .ok (.aload_n 0, 1) := by decide +kernel
theorem d_Grammar_function_72 : decode b_Grammar_function 72 = .ok (.invokevirtual 83, 3) := by decide +kernel
theorem d_Grammar_function_75 : decode b_Grammar_function 75 = .ok (.aload_n 0, 1) := by decide +kernel
theorem d_Grammar_function_76 : decode b_Grammar_function 76 = .ok (.getfield 9, 3) := by decide +kernel
theorem d_Grammar_function_79 : decode b_Grammar_function 79 = .ok (.bipush 125, 2) := by decide +kernel
theorem d_Grammar_function_81 : decode b_Grammar_function 81 = .ok (.invokevirtual 68, 3) := by decide +kernel
theorem d_Grammar_function_84 : decode b_Grammar_function 84 = .ok (.aload_n 0, 1) := by decide +kernel
theorem d_Grammar_function_85 : decode b_Grammar_function 85 = .ok (.getfield 23, 3) := by decide +kernel
theorem d_Grammar_function_88 : decode b_Grammar_function 88 = .ok (.bipush 10, 2) := by decide +kernel
theorem d_Grammar_function_90 : decode b_Grammar_function 90 = .ok (.iconst 0, 1) := by decide +kernel
theorem d_Grammar_function_91 : decode b_Grammar_function 91 = .ok (.iconst 0, 1) := by decide +kernel
theorem d_Grammar_function_92 : decode b_Grammar_function 92 = .ok (.invokevirtual 86, 3) := by decide +kernel
theorem d_Grammar_function_95 : decode b_Grammar_function 95 = .ok (.aload_n 0, 1) := by decide +kernel
theorem d_Grammar_function_96 : decode b_Grammar_function 96 = .ok (.getfield 23, 3) := by decide +kernel
theorem d_Grammar_function_99 : decode b_Grammar_function 99 = .ok (.bipush 7, 2) := by decide +kernel
theorem d_Grammar_function_101 : decode b_Grammar_function 101 = .ok (.iconst 0, 1) := by decide +kernel
theorem d_Grammar_function_102 : decode b_Grammar_function 102 = .ok (.iconst 0, 1) := by decide +kernel
theorem d_Grammar_function_103 : decode b_Grammar_function 103 = .ok (.invokevirtual 86, 3) := by decide +kernel
theorem d_Grammar_function_106 : decode b_Grammar_function 106 = .ok (.return_, 1) := by decide +kernel
def tGrammar_function_b1 (k : Nat → St → Int32 → Int32 → Option (St)) (σ : St) (x1 : Int32) (x2 : Int32) : Option (St) := b1 (tCursor_pass σ 41) (fun u6 => b1 (tGlobals_makeFunction u6 x1 (u6.1 13) x2) (fun u7 => b1 (tCursor_passOpening u7 123) (fun u8 => b2 (tG 80 15 u8 0 0) (fun r9 u9 => b1 (tCursor_passClosing u9 125) (fun u10 => b1 (tProgram_add u10 10 0 0) (fun u11 => b1 (tProgram_add u11 7 0 0) (fun u12 => some u12)))))))
def tGrammar_function_L : Nat → Nat → St → Int32 → Int32 → Option (St)
  | 0, _, _, _, _ => none
  | n + 1, lab, σ, x1, x2 => match lab with
    | 1 => tGrammar_function_b1 (tGrammar_function_L n) σ x1 x2
    | _ => none
def tGrammar_function (σ : St) (a1 : Int32) : Option (St) := b1 (tVariables_startFunction σ) (fun u1 => b1 (tCursor_pass u1 40) (fun u2 => b1 (tCursor_kind u2) (fun r3 => if r3 = 41 then tGrammar_function_L 2000 1 u2 a1 0 else b2 (tGrammar_parameters u2) (fun r5 u5 => tGrammar_function_L 2000 1 u5 a1 r5))))
set_option maxHeartbeats 4000000 in
set_option maxRecDepth 100000 in
theorem tGrammar_function_blk {p : Program} {e : Env} {s : State} {m : MethodId} {args : Array Value} {below : List Frame} {meth : Method} {c : Code} {A : Nat → Prop} (l : Launch) (dC : Nat → ClassId) (dI : Nat → Nat → Nat) (ad : Nat → Nat) (cA : Nat → ClassId) {σ' : St} (X : Cx p s m args meth c b_Grammar_function 3 none "TinyForge$Grammar" (dC, dI) (ttys cA) ad A) : ∀ n : Nat, (∀ (σ : St) (x1 : Int32) (x2 : Int32) (H : Heap) (locs : List Loc) (ls : Array Slot), tGrammar_function_L n 1 σ x1 x2 = some σ' → va_P (dC, dI) vwCl (tcw ad cA σ) H → va_D A (tcw ad cA σ) → va_S A s.heap H locs → lv_has ls 3 [(0, .ref (ad 7)), (1, .int x1)] → W p l e { frames := 85, cells := 0, slots := 0, locals := 1944 } s m args below meth c H locs 0 0 (MQ below (QV (dC, dI) (ttys cA) (tcw ad cA) A σ') args s 0 0 A) (F0 m 36 ls [.int x2])) := by
  obtain ⟨hx, hb, hr, hml, hown, hlocks, hts, hA, hK, hZ⟩ := id X
  intro n
  induction n with
  | zero => exact (fun σ x1 x2 H locs ls hF => by cases hF)
  | succ n ihn =>
    refine fun σ x1 x2 H locs ls hF hP hD hS hl => ?_
    · have hF : tGrammar_function_b1 (tGrammar_function_L n) σ x1 x2 = some σ' := hF
      unfold tGrammar_function_b1 at hF
      refine lv_istore_n (lv' := [(2, .int x2), (0, .ref (ad 7)), (1, .int x1)]) hx hb d_Grammar_function_36 rfl hl (by decide) rfl (fun ls hl => ?_)
      refine lv_aload_n hx hb d_Grammar_function_37 rfl (lv_at hl 1 rfl) ?_
      refine va_get (D := (dC, dI)) (ci := 7) (v := .ref (ad 3)) hx hb hts i_Grammar hown hK hP 7 rfl rfl 0 (by decide) (hts _ w_a2db652071) (fun _ h9 => h9) rfl d_Grammar_function_38 ?_
      refine lv_bipush (v := 41) hx hb d_Grammar_function_41 (by decide) ?_
      obtain ⟨u6, h6, hF⟩ := b1E hF
      refine callVV (As := [.int 41]) X (ct_Cursor_pass l dC dI ad cA H.size h6) lk_Grammar_48 ⟨rfl, rfl, by decide, by decide⟩ 3 rfl rfl hP hD hS hl.1 rfl rfl (Nat.le_of_ble_eq_true rfl) d_Grammar_function_43 (fun H locs hP hD hS => ?_)
      refine lv_aload_n hx hb d_Grammar_function_46 rfl (lv_at hl 1 rfl) ?_
      refine va_get (D := (dC, dI)) (ci := 7) (v := .ref (ad 5)) hx hb hts i_Grammar hown hK hP 7 rfl rfl 2 (by decide) (hts _ w_38d62a1ca9) (fun _ h9 => h9) rfl d_Grammar_function_47 ?_
      refine lv_iload_n hx hb d_Grammar_function_50 rfl (lv_at hl 2 rfl) ?_
      refine lv_aload_n hx hb d_Grammar_function_51 rfl (lv_at hl 1 rfl) ?_
      refine va_get (D := (dC, dI)) (ci := 7) (v := .ref (ad 6)) hx hb hts i_Grammar hown hK hP 7 rfl rfl 3 (by decide) (hts _ w_72b36bc41d) (fun _ h9 => h9) rfl d_Grammar_function_52 ?_
      refine va_get (D := (dC, dI)) (ci := 6) (v := .int (u6.1 13)) hx hb hts i_Program hown hK hP 6 rfl rfl 3 (by decide) (hts _ w_36eee884fe) (fun _ h9 => h9) rfl d_Grammar_function_55 ?_
      refine lv_iload_n hx hb d_Grammar_function_58 rfl (lv_at hl 0 rfl) ?_
      obtain ⟨u7, h7, hF⟩ := b1E hF
      refine callVV (As := [.int x1, .int (u6.1 13), .int x2]) X (ct_Globals_makeFunction l dC dI ad cA H.size h7) lk_Grammar_79 ⟨rfl, rfl, by decide, by decide⟩ 5 rfl rfl hP hD hS hl.1 rfl rfl (Nat.le_of_ble_eq_true rfl) d_Grammar_function_59 (fun H locs hP hD hS => ?_)
      refine lv_aload_n hx hb d_Grammar_function_62 rfl (lv_at hl 1 rfl) ?_
      refine va_get (D := (dC, dI)) (ci := 7) (v := .ref (ad 3)) hx hb hts i_Grammar hown hK hP 7 rfl rfl 0 (by decide) (hts _ w_a2db652071) (fun _ h9 => h9) rfl d_Grammar_function_63 ?_
      refine lv_bipush (v := 123) hx hb d_Grammar_function_66 (by decide) ?_
      obtain ⟨u8, h8, hF⟩ := b1E hF
      refine callVV (As := [.int 123]) X (ct_Cursor_passOpening l dC dI ad cA H.size h8) lk_Grammar_61 ⟨rfl, rfl, by decide, by decide⟩ 3 rfl rfl hP hD hS hl.1 rfl rfl (Nat.le_of_ble_eq_true rfl) d_Grammar_function_68 (fun H locs hP hD hS => ?_)
      refine lv_aload_n hx hb d_Grammar_function_71 rfl (lv_at hl 1 rfl) ?_
      obtain ⟨r9, u9, h9, hF⟩ := b2E hF
      refine callVV (As := []) X ((tG_ok l 80).2.2.2.2.2.2.2.2.2.2.2.2.2.2.2.1 dC dI ad cA H.size h9) lk_Grammar_83 ⟨rfl, rfl, by decide, by decide⟩ 7 rfl rfl hP hD hS hl.1 rfl rfl (Nat.le_of_ble_eq_true rfl) d_Grammar_function_72 (fun H locs hP hD hS => ?_)
      refine lv_aload_n hx hb d_Grammar_function_75 rfl (lv_at hl 1 rfl) ?_
      refine va_get (D := (dC, dI)) (ci := 7) (v := .ref (ad 3)) hx hb hts i_Grammar hown hK hP 7 rfl rfl 0 (by decide) (hts _ w_a2db652071) (fun _ h9 => h9) rfl d_Grammar_function_76 ?_
      refine lv_bipush (v := 125) hx hb d_Grammar_function_79 (by decide) ?_
      obtain ⟨u10, h10, hF⟩ := b1E hF
      refine callVV (As := [.int 125]) X (ct_Cursor_passClosing l dC dI ad cA H.size h10) lk_Grammar_68 ⟨rfl, rfl, by decide, by decide⟩ 3 rfl rfl hP hD hS hl.1 rfl rfl (Nat.le_of_ble_eq_true rfl) d_Grammar_function_81 (fun H locs hP hD hS => ?_)
      refine lv_aload_n hx hb d_Grammar_function_84 rfl (lv_at hl 1 rfl) ?_
      refine va_get (D := (dC, dI)) (ci := 7) (v := .ref (ad 6)) hx hb hts i_Grammar hown hK hP 7 rfl rfl 3 (by decide) (hts _ w_72b36bc41d) (fun _ h9 => h9) rfl d_Grammar_function_85 ?_
      refine lv_bipush (v := 10) hx hb d_Grammar_function_88 (by decide) ?_
      refine lv_iconst (v := 0) hx hb d_Grammar_function_90 (by decide) ?_
      refine lv_iconst (v := 0) hx hb d_Grammar_function_91 (by decide) ?_
      obtain ⟨u11, h11, hF⟩ := b1E hF
      refine callVV (As := [.int 10, .int 0, .int 0]) X (ct_Program_add l dC dI ad cA H.size h11) lk_Grammar_86 ⟨rfl, rfl, by decide, by decide⟩ 6 rfl rfl hP hD hS hl.1 rfl rfl (Nat.le_of_ble_eq_true rfl) d_Grammar_function_92 (fun H locs hP hD hS => ?_)
      refine lv_aload_n hx hb d_Grammar_function_95 rfl (lv_at hl 1 rfl) ?_
      refine va_get (D := (dC, dI)) (ci := 7) (v := .ref (ad 6)) hx hb hts i_Grammar hown hK hP 7 rfl rfl 3 (by decide) (hts _ w_72b36bc41d) (fun _ h9 => h9) rfl d_Grammar_function_96 ?_
      refine lv_bipush (v := 7) hx hb d_Grammar_function_99 (by decide) ?_
      refine lv_iconst (v := 0) hx hb d_Grammar_function_101 (by decide) ?_
      refine lv_iconst (v := 0) hx hb d_Grammar_function_102 (by decide) ?_
      obtain ⟨u12, h12, hF⟩ := b1E hF
      refine callVV (As := [.int 7, .int 0, .int 0]) X (ct_Program_add l dC dI ad cA H.size h12) lk_Grammar_86 ⟨rfl, rfl, by decide, by decide⟩ 6 rfl rfl hP hD hS hl.1 rfl rfl (Nat.le_of_ble_eq_true rfl) d_Grammar_function_103 (fun H locs hP hD hS => ?_)
      cases hF
      exact leafV X hP hD hS d_Grammar_function_106
set_option maxHeartbeats 4000000 in
set_option maxRecDepth 100000 in
theorem ct_Grammar_function (l : Launch) (dC : Nat → ClassId) (dI : Nat → Nat → Nat) (ad : Nat → Nat) (cA : Nat → ClassId) (sz : Nat) {σ : St} {a1 : Int32} {σ' : St} (hF : tGrammar_function σ a1 = some σ') : MV l y_Grammar_function b_Grammar_function 3 none { frames := 85, cells := 0, slots := 0, locals := 1944 } (dC, dI) (ttys cA) ad (tcw ad cA) [.ref (ad 7), .int a1] σ sz σ' := by
  refine startM (own := "TinyForge$Grammar") (Qc := fun A => QV (dC, dI) (ttys cA) (tcw ad cA) A σ') rfl rfl (Nat.le_of_ble_eq_true rfl) ?_
  intro p e s m below meth c A H locs ls X hP hD hS hl
  have hl : lv_has ls 3 [(0, .ref (ad 7)), (1, .int a1)] := hl
  obtain ⟨hx, hb, hr, hml, hown, hlocks, hts, hA, hK, hZ⟩ := id X
  unfold tGrammar_function at hF
  refine lv_aload_n hx hb d_Grammar_function_0 rfl (lv_at hl 0 rfl) ?_
  refine va_get (D := (dC, dI)) (ci := 7) (v := .ref (ad 4)) hx hb hts i_Grammar hown hK hP 7 rfl rfl 1 (by decide) (hts _ w_6ad409d59f) (fun _ h9 => h9) rfl d_Grammar_function_1 ?_
  obtain ⟨u1, h1, hF⟩ := b1E hF
  refine callVV (As := []) X (ct_Variables_startFunction l dC dI ad cA H.size h1) lk_Grammar_71 ⟨rfl, rfl, by decide, by decide⟩ 4 rfl rfl hP hD hS hl.1 rfl rfl (Nat.le_of_ble_eq_true rfl) d_Grammar_function_4 (fun H locs hP hD hS => ?_)
  refine lv_aload_n hx hb d_Grammar_function_7 rfl (lv_at hl 0 rfl) ?_
  refine va_get (D := (dC, dI)) (ci := 7) (v := .ref (ad 3)) hx hb hts i_Grammar hown hK hP 7 rfl rfl 0 (by decide) (hts _ w_a2db652071) (fun _ h9 => h9) rfl d_Grammar_function_8 ?_
  refine lv_bipush (v := 40) hx hb d_Grammar_function_11 (by decide) ?_
  obtain ⟨u2, h2, hF⟩ := b1E hF
  refine callVV (As := [.int 40]) X (ct_Cursor_pass l dC dI ad cA H.size h2) lk_Grammar_48 ⟨rfl, rfl, by decide, by decide⟩ 3 rfl rfl hP hD hS hl.1 rfl rfl (Nat.le_of_ble_eq_true rfl) d_Grammar_function_13 (fun H locs hP hD hS => ?_)
  refine lv_aload_n hx hb d_Grammar_function_16 rfl (lv_at hl 0 rfl) ?_
  refine va_get (D := (dC, dI)) (ci := 7) (v := .ref (ad 3)) hx hb hts i_Grammar hown hK hP 7 rfl rfl 0 (by decide) (hts _ w_a2db652071) (fun _ h9 => h9) rfl d_Grammar_function_17 ?_
  obtain ⟨r3, h3, hF⟩ := b1E hF
  refine callVI (As := []) X (ct_Cursor_kind l dC dI ad cA H.size h3) lk_Grammar_44 ⟨rfl, rfl, by decide, by decide⟩ 3 rfl rfl hP hD hS hl.1 rfl rfl (Nat.le_of_ble_eq_true rfl) d_Grammar_function_20 (fun H locs hP hD hS => ?_)
  refine lv_bipush (v := 41) hx hb d_Grammar_function_23 (by decide) ?_
  refine lv_icmp_ne (tgt := 32) hx hb d_Grammar_function_25 (by decide) (fun c_4 => ?_) (fun c_4 => ?_)
  · have hF := ifn hF c_4
    refine lv_aload_n hx hb d_Grammar_function_32 rfl (lv_at hl 0 rfl) ?_
    obtain ⟨r5, u5, h5, hF⟩ := b2E hF
    refine callVI (As := []) X (ct_Grammar_parameters l dC dI ad cA H.size h5) lk_Grammar_76 ⟨rfl, rfl, by decide, by decide⟩ 7 rfl rfl hP hD hS hl.1 rfl rfl (Nat.le_of_ble_eq_true rfl) d_Grammar_function_33 (fun H locs hP hD hS => ?_)
    exact (tGrammar_function_blk l dC dI ad cA X 2000) u5 a1 r5 H locs ls hF hP hD hS (lv_sub hl [0, 1] rfl)
  · have hF := ifp hF c_4
    refine lv_iconst (v := 0) hx hb d_Grammar_function_28 (by decide) ?_
    refine lv_goto (tgt := 36) hx hb d_Grammar_function_29 (by decide) ?_
    exact (tGrammar_function_blk l dC dI ad cA X 2000) u2 a1 0 H locs ls hF hP hD hS (lv_sub hl [0, 1] rfl)
theorem d_Grammar_part_0 : decode b_Grammar_part 0 = .ok (.aload_n 0, 1) := by decide +kernel
theorem d_Grammar_part_1 : decode b_Grammar_part 1 = .ok (.getfield 9, 3) := by decide +kernel
theorem d_Grammar_part_4 : decode b_Grammar_part 4 = .ok (.iconst 3, 1) := by decide +kernel
theorem d_Grammar_part_5 : decode b_Grammar_part 5 = .ok (.invokevirtual 48, 3) := by decide +kernel
theorem d_Grammar_part_8 : decode b_Grammar_part 8 = .ok (.aload_n 0, 1) := by decide +kernel
theorem d_Grammar_part_9 : decode b_Grammar_part 9 = .ok (.getfield 9, 3) := by decide +kernel
theorem d_Grammar_part_12 : decode b_Grammar_part 12 = .ok (.getfield 52, 3) := by decide +kernel
theorem d_Grammar_part_15 : decode b_Grammar_part 15 = .ok (.istore_n 1, 1) := by decide +kernel
theorem d_Grammar_part_16 : decode b_Grammar_part 16 = .ok (.aload_n 0, 1) := by decide +kernel
theorem d_Grammar_part_17 : decode b_Grammar_part 17 = .ok (.getfield 9, 3) := by decide +kernel
theorem d_Grammar_part_20 : decode b_Grammar_part 20 = .ok (.iconst 1, 1) := by decide +kernel
theorem d_Grammar_part_21 : decode b_Grammar_part 21 = .ok (.invokevirtual 48, 3) := by decide +kernel
theorem d_Grammar_part_24 : decode b_Grammar_part 24 = .ok (.aload_n 0, 1) := by decide +kernel
theorem d_Grammar_part_25 : decode b_Grammar_part 25 = .ok (.getfield 9, 3) := by decide +kernel
theorem d_Grammar_part_28 : decode b_Grammar_part 28 = .ok (.invokevirtual 44, 3) := by decide +kernel
theorem d_Grammar_part_31 : decode b_Grammar_part 31 = .ok (.bipush 91, 2) := by decide +kernel
theorem d_Grammar_part_33 : decode b_Grammar_part 33 = .ok (.if_icmp .ne 11, 3) := by decide +kernel
theorem d_Grammar_part_36 : decode b_Grammar_part 36 = .ok (.aload_n 0, 1) := by decide +kernel
theorem d_Grammar_part_37 : decode b_Grammar_part 37 = .ok (.iload_n 1, 1) := by decide +kernel
theorem d_Grammar_part_38 : decode b_Grammar_part 38 = .ok (.invokevirtual 55, 3) := by decide +kernel
theorem d_Grammar_part_41 : decode b_Grammar_part 41 = .ok (.goto 8, 3) := by decide +kernel
theorem d_Grammar_part_44 : decode b_Grammar_part 44 = .ok (.aload_n 0, 1) := by decide +kernel
theorem d_Grammar_part_45 : decode b_Grammar_part 45 = .ok (.iload_n 1, 1) := by decide +kernel
theorem d_Grammar_part_46 : decode b_Grammar_part 46 = .ok (.invokevirtual 58, 3) := by decide +kernel
theorem d_Grammar_part_49 : decode b_Grammar_part 49 = .ok (.return_, 1) := by decide +kernel
def tGrammar_part (σ : St) : Option (St) := b1 (tCursor_pass σ 3) (fun u1 => b1 (tCursor_pass u1 1) (fun u2 => b1 (tCursor_kind u2) (fun r3 => if r3 = 91 then b1 (tGrammar_array u2 (u1.1 6)) (fun u6 => some u6) else b1 (tGrammar_function u2 (u1.1 6)) (fun u5 => some u5))))
set_option maxHeartbeats 4000000 in
set_option maxRecDepth 100000 in
theorem ct_Grammar_part (l : Launch) (dC : Nat → ClassId) (dI : Nat → Nat → Nat) (ad : Nat → Nat) (cA : Nat → ClassId) (sz : Nat) {σ : St} {σ' : St} (hF : tGrammar_part σ = some σ') : MV l y_Grammar_part b_Grammar_part 2 none { frames := 86, cells := 0, slots := 0, locals := 1966 } (dC, dI) (ttys cA) ad (tcw ad cA) [.ref (ad 7)] σ sz σ' := by
  refine startM (own := "TinyForge$Grammar") (Qc := fun A => QV (dC, dI) (ttys cA) (tcw ad cA) A σ') rfl rfl (Nat.le_of_ble_eq_true rfl) ?_
  intro p e s m below meth c A H locs ls X hP hD hS hl
  have hl : lv_has ls 2 [(0, .ref (ad 7))] := hl
  obtain ⟨hx, hb, hr, hml, hown, hlocks, hts, hA, hK, hZ⟩ := id X
  unfold tGrammar_part at hF
  refine lv_aload_n hx hb d_Grammar_part_0 rfl (lv_at hl 0 rfl) ?_
  refine va_get (D := (dC, dI)) (ci := 7) (v := .ref (ad 3)) hx hb hts i_Grammar hown hK hP 7 rfl rfl 0 (by decide) (hts _ w_a2db652071) (fun _ h9 => h9) rfl d_Grammar_part_1 ?_
  refine lv_iconst (v := 3) hx hb d_Grammar_part_4 (by decide) ?_
  obtain ⟨u1, h1, hF⟩ := b1E hF
  refine callVV (As := [.int 3]) X (ct_Cursor_pass l dC dI ad cA H.size h1) lk_Grammar_48 ⟨rfl, rfl, by decide, by decide⟩ 3 rfl rfl hP hD hS hl.1 rfl rfl (Nat.le_of_ble_eq_true rfl) d_Grammar_part_5 (fun H locs hP hD hS => ?_)
  refine lv_aload_n hx hb d_Grammar_part_8 rfl (lv_at hl 0 rfl) ?_
  refine va_get (D := (dC, dI)) (ci := 7) (v := .ref (ad 3)) hx hb hts i_Grammar hown hK hP 7 rfl rfl 0 (by decide) (hts _ w_a2db652071) (fun _ h9 => h9) rfl d_Grammar_part_9 ?_
  refine va_get (D := (dC, dI)) (ci := 3) (v := .int (u1.1 6)) hx hb hts i_Cursor hown hK hP 3 rfl rfl 2 (by decide) (hts _ w_1aaaf03a26) (fun _ h9 => h9) rfl d_Grammar_part_12 ?_
  refine lv_istore_n (lv' := [(1, .int (u1.1 6)), (0, .ref (ad 7))]) hx hb d_Grammar_part_15 rfl hl (by decide) rfl (fun ls hl => ?_)
  refine lv_aload_n hx hb d_Grammar_part_16 rfl (lv_at hl 1 rfl) ?_
  refine va_get (D := (dC, dI)) (ci := 7) (v := .ref (ad 3)) hx hb hts i_Grammar hown hK hP 7 rfl rfl 0 (by decide) (hts _ w_a2db652071) (fun _ h9 => h9) rfl d_Grammar_part_17 ?_
  refine lv_iconst (v := 1) hx hb d_Grammar_part_20 (by decide) ?_
  obtain ⟨u2, h2, hF⟩ := b1E hF
  refine callVV (As := [.int 1]) X (ct_Cursor_pass l dC dI ad cA H.size h2) lk_Grammar_48 ⟨rfl, rfl, by decide, by decide⟩ 3 rfl rfl hP hD hS hl.1 rfl rfl (Nat.le_of_ble_eq_true rfl) d_Grammar_part_21 (fun H locs hP hD hS => ?_)
  refine lv_aload_n hx hb d_Grammar_part_24 rfl (lv_at hl 1 rfl) ?_
  refine va_get (D := (dC, dI)) (ci := 7) (v := .ref (ad 3)) hx hb hts i_Grammar hown hK hP 7 rfl rfl 0 (by decide) (hts _ w_a2db652071) (fun _ h9 => h9) rfl d_Grammar_part_25 ?_
  obtain ⟨r3, h3, hF⟩ := b1E hF
  refine callVI (As := []) X (ct_Cursor_kind l dC dI ad cA H.size h3) lk_Grammar_44 ⟨rfl, rfl, by decide, by decide⟩ 3 rfl rfl hP hD hS hl.1 rfl rfl (Nat.le_of_ble_eq_true rfl) d_Grammar_part_28 (fun H locs hP hD hS => ?_)
  refine lv_bipush (v := 91) hx hb d_Grammar_part_31 (by decide) ?_
  refine lv_icmp_ne (tgt := 44) hx hb d_Grammar_part_33 (by decide) (fun c_4 => ?_) (fun c_4 => ?_)
  · have hF := ifn hF c_4
    refine lv_aload_n hx hb d_Grammar_part_44 rfl (lv_at hl 1 rfl) ?_
    refine lv_iload_n hx hb d_Grammar_part_45 rfl (lv_at hl 0 rfl) ?_
    obtain ⟨u5, h5, hF⟩ := b1E hF
    refine callVV (As := [.int (u1.1 6)]) X (ct_Grammar_function l dC dI ad cA H.size h5) lk_Grammar_58 ⟨rfl, rfl, by decide, by decide⟩ 7 rfl rfl hP hD hS hl.1 rfl rfl (Nat.le_of_ble_eq_true rfl) d_Grammar_part_46 (fun H locs hP hD hS => ?_)
    cases hF
    exact leafV X hP hD hS d_Grammar_part_49
  · have hF := ifp hF c_4
    refine lv_aload_n hx hb d_Grammar_part_36 rfl (lv_at hl 1 rfl) ?_
    refine lv_iload_n hx hb d_Grammar_part_37 rfl (lv_at hl 0 rfl) ?_
    obtain ⟨u6, h6, hF⟩ := b1E hF
    refine callVV (As := [.int (u1.1 6)]) X (ct_Grammar_array l dC dI ad cA H.size h6) lk_Grammar_55 ⟨rfl, rfl, by decide, by decide⟩ 7 rfl rfl hP hD hS hl.1 rfl rfl (Nat.le_of_ble_eq_true rfl) d_Grammar_part_38 (fun H locs hP hD hS => ?_)
    refine lv_goto (tgt := 49) hx hb d_Grammar_part_41 (by decide) ?_
    cases hF
    exact leafV X hP hD hS d_Grammar_part_49
theorem d_Grammar_readWhole_0 : decode b_Grammar_readWhole 0 = .ok (.aload_n 0, 1) := by decide +kernel
theorem d_Grammar_readWhole_1 : decode b_Grammar_readWhole 1 = .ok (.getfield 9, 3) := by decide +kernel
theorem d_Grammar_readWhole_4 : decode b_Grammar_readWhole 4 = .ok (.invokevirtual 27, 3) := by decide +kernel
theorem d_Grammar_readWhole_7 : decode b_Grammar_readWhole 7 = .ok (.aload_n 0, 1) := by decide +kernel
theorem d_Grammar_readWhole_8 : decode b_Grammar_readWhole 8 = .ok (.getfield 19, 3) := by decide +kernel
theorem d_Grammar_readWhole_11 : decode b_Grammar_readWhole 11 = .ok (.invokevirtual 32, 3) := by decide +kernel
theorem d_Grammar_readWhole_14 : decode b_Grammar_readWhole 14 = .ok (.aload_n 0, 1) := by decide +kernel
theorem d_Grammar_readWhole_15 : decode b_Grammar_readWhole 15 = .ok (.getfield 23, 3) := by decide +kernel
theorem d_Grammar_readWhole_18 : decode b_Grammar_readWhole 18 = .ok (.iconst 0, 1) := by decide +kernel
theorem d_Grammar_readWhole_19 : decode b_Grammar_readWhole 19 = .ok (.putfield 35, 3) := by decide +kernel
theorem d_Grammar_readWhole_22 : decode b_Grammar_readWhole 22 = .ok (.aload_n 0, 1) := by decide +kernel
theorem d_Grammar_readWhole_23 : decode b_Grammar_readWhole 23 = .ok (.invokevirtual 41, 3) := by decide +kernel
theorem d_Grammar_readWhole_26 : decode b_Grammar_readWhole 26 = .ok (.iconst 1, 1) := by decide +kernel
theorem d_Grammar_readWhole_27 : decode b_Grammar_readWhole 27 = .ok (.istore_n 1, 1) := by decide +kernel
theorem d_Grammar_readWhole_28 : decode b_Grammar_readWhole 28 = .ok (.iload_n 1, 1) := by decide +kernel
theorem d_Grammar_readWhole_29 : decode b_Grammar_readWhole 29 = .ok (.sipush 220, 3) := by decide +kernel
theorem d_Grammar_readWhole_32 : decode b_Grammar_readWhole 32 = .ok (.if_icmp .ge 23, 3) := by decide +kernel
theorem d_Grammar_readWhole_35 : decode b_Grammar_readWhole 35 = .ok (.aload_n 0, 1) := by decide +kernel
theorem d_Grammar_readWhole_36 : decode b_Grammar_readWhole 36 = .ok (.getfield 9, 3) := by decide +kernel
theorem d_Grammar_readWhole_39 : decode b_Grammar_readWhole 39 = .ok (.invokevirtual 44, 3) := by decide +kernel
theorem d_Grammar_readWhole_42 : decode b_Grammar_readWhole 42 = .ok (.ifCond .eq 13, 3) := by decide +kernel
theorem d_Grammar_readWhole_45 : decode b_Grammar_readWhole 45 = .ok (.aload_n 0, 1) := by decide +kernel
theorem d_Grammar_readWhole_46 : decode b_Grammar_readWhole 46 = .ok (.invokevirtual 41, 3) := by decide +kernel
theorem d_Grammar_readWhole_49 : decode b_Grammar_readWhole 49 = .ok (.iinc 1 1, 3) := by decide +kernel
theorem d_Grammar_readWhole_52 : decode b_Grammar_readWhole 52 = .ok (.goto (-24), 3) := by decide +kernel
theorem d_Grammar_readWhole_55 : decode b_Grammar_readWhole 55 = .ok (.return_, 1) := by decide +kernel
def tGrammar_readWhole_b1 (k : Nat → St → Int32 → Option (St)) (σ : St) (x1 : Int32) : Option (St) := if (220 : Int32) ≤ x1 then some σ else b1 (tCursor_kind σ) (fun r5 => if r5 = 0 then some σ else b1 (tGrammar_part σ) (fun u7 => k 1 u7 (x1 + 1)))
def tGrammar_readWhole_L : Nat → Nat → St → Int32 → Option (St)
  | 0, _, _, _ => none
  | n + 1, lab, σ, x1 => match lab with
    | 1 => tGrammar_readWhole_b1 (tGrammar_readWhole_L n) σ x1
    | _ => none
def tGrammar_readWhole (σ : St) : Option (St) := b1 (tCursor_start σ) (fun u1 => b1 (tGlobals_start u1) (fun u2 => b1 (tGrammar_part (sI u2 13 0)) (fun u3 => tGrammar_readWhole_L 2000 1 u3 1)))
set_option maxHeartbeats 4000000 in
set_option maxRecDepth 100000 in
theorem tGrammar_readWhole_blk {p : Program} {e : Env} {s : State} {m : MethodId} {args : Array Value} {below : List Frame} {meth : Method} {c : Code} {A : Nat → Prop} (l : Launch) (dC : Nat → ClassId) (dI : Nat → Nat → Nat) (ad : Nat → Nat) (cA : Nat → ClassId) {σ' : St} (X : Cx p s m args meth c b_Grammar_readWhole 2 none "TinyForge$Grammar" (dC, dI) (ttys cA) ad A) : ∀ n : Nat, (∀ (σ : St) (x1 : Int32) (H : Heap) (locs : List Loc) (ls : Array Slot), tGrammar_readWhole_L n 1 σ x1 = some σ' → va_P (dC, dI) vwCl (tcw ad cA σ) H → va_D A (tcw ad cA σ) → va_S A s.heap H locs → lv_has ls 2 [(0, .ref (ad 7)), (1, .int x1)] → W p l e { frames := 87, cells := 0, slots := 0, locals := 1987 } s m args below meth c H locs 0 0 (MQ below (QV (dC, dI) (ttys cA) (tcw ad cA) A σ') args s 0 0 A) (F0 m 28 ls [])) := by
  obtain ⟨hx, hb, hr, hml, hown, hlocks, hts, hA, hK, hZ⟩ := id X
  intro n
  induction n with
  | zero => exact (fun σ x1 H locs ls hF => by cases hF)
  | succ n ihn =>
    refine fun σ x1 H locs ls hF hP hD hS hl => ?_
    · have hF : tGrammar_readWhole_b1 (tGrammar_readWhole_L n) σ x1 = some σ' := hF
      unfold tGrammar_readWhole_b1 at hF
      refine lv_iload_n hx hb d_Grammar_readWhole_28 rfl (lv_at hl 1 rfl) ?_
      refine lv_sipush (v := 220) hx hb d_Grammar_readWhole_29 (by decide) ?_
      refine lv_icmp_ge (tgt := 55) hx hb d_Grammar_readWhole_32 (by decide) (fun c_4 => ?_) (fun c_4 => ?_)
      · have hF := ifp hF c_4
        cases hF
        exact leafV X hP hD hS d_Grammar_readWhole_55
      · have hF := ifn hF c_4
        refine lv_aload_n hx hb d_Grammar_readWhole_35 rfl (lv_at hl 0 rfl) ?_
        refine va_get (D := (dC, dI)) (ci := 7) (v := .ref (ad 3)) hx hb hts i_Grammar hown hK hP 7 rfl rfl 0 (by decide) (hts _ w_a2db652071) (fun _ h9 => h9) rfl d_Grammar_readWhole_36 ?_
        obtain ⟨r5, h5, hF⟩ := b1E hF
        refine callVI (As := []) X (ct_Cursor_kind l dC dI ad cA H.size h5) lk_Grammar_44 ⟨rfl, rfl, by decide, by decide⟩ 3 rfl rfl hP hD hS hl.1 rfl rfl (Nat.le_of_ble_eq_true rfl) d_Grammar_readWhole_39 (fun H locs hP hD hS => ?_)
        refine lv_if_eq (tgt := 55) hx hb d_Grammar_readWhole_42 (by decide) (fun c_6 => ?_) (fun c_6 => ?_)
        · have hF := ifp hF c_6
          cases hF
          exact leafV X hP hD hS d_Grammar_readWhole_55
        · have hF := ifn hF c_6
          refine lv_aload_n hx hb d_Grammar_readWhole_45 rfl (lv_at hl 0 rfl) ?_
          obtain ⟨u7, h7, hF⟩ := b1E hF
          refine callVV (As := []) X (ct_Grammar_part l dC dI ad cA H.size h7) lk_Grammar_41 ⟨rfl, rfl, by decide, by decide⟩ 7 rfl rfl hP hD hS hl.1 rfl rfl (Nat.le_of_ble_eq_true rfl) d_Grammar_readWhole_46 (fun H locs hP hD hS => ?_)
          refine lv_iinc (v := (x1 + 1)) (lv' := [(1, .int (x1 + 1)), (0, .ref (ad 7))]) hx hb d_Grammar_readWhole_49 hl (k := 1) rfl rfl (by decide) rfl (fun ls hl => ?_)
          refine lv_goto (tgt := 28) hx hb d_Grammar_readWhole_52 (by decide) ?_
          exact ihn u7 (x1 + 1) H locs ls hF hP hD hS (lv_sub hl [1, 0] rfl)
set_option maxHeartbeats 4000000 in
set_option maxRecDepth 100000 in
theorem ct_Grammar_readWhole (l : Launch) (dC : Nat → ClassId) (dI : Nat → Nat → Nat) (ad : Nat → Nat) (cA : Nat → ClassId) (sz : Nat) {σ : St} {σ' : St} (hF : tGrammar_readWhole σ = some σ') : MV l y_Grammar_readWhole b_Grammar_readWhole 2 none { frames := 87, cells := 0, slots := 0, locals := 1987 } (dC, dI) (ttys cA) ad (tcw ad cA) [.ref (ad 7)] σ sz σ' := by
  refine startM (own := "TinyForge$Grammar") (Qc := fun A => QV (dC, dI) (ttys cA) (tcw ad cA) A σ') rfl rfl (Nat.le_of_ble_eq_true rfl) ?_
  intro p e s m below meth c A H locs ls X hP hD hS hl
  have hl : lv_has ls 2 [(0, .ref (ad 7))] := hl
  obtain ⟨hx, hb, hr, hml, hown, hlocks, hts, hA, hK, hZ⟩ := id X
  unfold tGrammar_readWhole at hF
  refine lv_aload_n hx hb d_Grammar_readWhole_0 rfl (lv_at hl 0 rfl) ?_
  refine va_get (D := (dC, dI)) (ci := 7) (v := .ref (ad 3)) hx hb hts i_Grammar hown hK hP 7 rfl rfl 0 (by decide) (hts _ w_a2db652071) (fun _ h9 => h9) rfl d_Grammar_readWhole_1 ?_
  obtain ⟨u1, h1, hF⟩ := b1E hF
  refine callVV (As := []) X (ct_Cursor_start l dC dI ad cA H.size h1) lk_Grammar_27 ⟨rfl, rfl, by decide, by decide⟩ 3 rfl rfl hP hD hS hl.1 rfl rfl (Nat.le_of_ble_eq_true rfl) d_Grammar_readWhole_4 (fun H locs hP hD hS => ?_)
  refine lv_aload_n hx hb d_Grammar_readWhole_7 rfl (lv_at hl 0 rfl) ?_
  refine va_get (D := (dC, dI)) (ci := 7) (v := .ref (ad 5)) hx hb hts i_Grammar hown hK hP 7 rfl rfl 2 (by decide) (hts _ w_38d62a1ca9) (fun _ h9 => h9) rfl d_Grammar_readWhole_8 ?_
  obtain ⟨u2, h2, hF⟩ := b1E hF
  refine callVV (As := []) X (ct_Globals_start l dC dI ad cA H.size h2) lk_Grammar_32 ⟨rfl, rfl, by decide, by decide⟩ 5 rfl rfl hP hD hS hl.1 rfl rfl (Nat.le_of_ble_eq_true rfl) d_Grammar_readWhole_11 (fun H locs hP hD hS => ?_)
  refine lv_aload_n hx hb d_Grammar_readWhole_14 rfl (lv_at hl 0 rfl) ?_
  refine va_get (D := (dC, dI)) (ci := 7) (v := .ref (ad 6)) hx hb hts i_Grammar hown hK hP 7 rfl rfl 3 (by decide) (hts _ w_72b36bc41d) (fun _ h9 => h9) rfl d_Grammar_readWhole_15 ?_
  refine lv_iconst (v := 0) hx hb d_Grammar_readWhole_18 (by decide) ?_
  refine va_put (D := (dC, dI)) (ci := 6) (v := .int 0) (ty := .int) hx hb hts i_Program t_Program t_Program_ok n_Program hown hK hP hD hS 6 rfl rfl 3 (by decide) (hts _ w_36eee884fe) (fun _ h9 => h9) rfl (by decide +kernel) rfl rfl (Nat.le_of_ble_eq_true rfl) d_Grammar_readWhole_19 (fun H locs hP hD hS => ?_)
  have hP : va_P (dC, dI) vwCl (tcw ad cA (sI u2 13 0)) H := hP
  have hD : va_D A (tcw ad cA (sI u2 13 0)) := hD
  refine lv_aload_n hx hb d_Grammar_readWhole_22 rfl (lv_at hl 0 rfl) ?_
  obtain ⟨u3, h3, hF⟩ := b1E hF
  refine callVV (As := []) X (ct_Grammar_part l dC dI ad cA H.size h3) lk_Grammar_41 ⟨rfl, rfl, by decide, by decide⟩ 7 rfl rfl hP hD hS hl.1 rfl rfl (Nat.le_of_ble_eq_true rfl) d_Grammar_readWhole_23 (fun H locs hP hD hS => ?_)
  refine lv_iconst (v := 1) hx hb d_Grammar_readWhole_26 (by decide) ?_
  refine lv_istore_n (lv' := [(1, .int 1), (0, .ref (ad 7))]) hx hb d_Grammar_readWhole_27 rfl hl (by decide) rfl (fun ls hl => ?_)
  exact (tGrammar_readWhole_blk l dC dI ad cA X 2000) u3 1 H locs ls hF hP hD hS (lv_sub hl [1, 0] rfl)
theorem d_Forge_output_0 : decode b_Forge_output 0 = .ok (.iload_n 1, 1) := by decide +kernel
theorem d_Forge_output_1 : decode b_Forge_output 1 = .ok (.iconst (-1), 1) := by decide +kernel
theorem d_Forge_output_2 : decode b_Forge_output 2 = .ok (.if_icmp .ne 11, 3) := by decide +kernel
theorem d_Forge_output_5 : decode b_Forge_output 5 = .ok (.aload_n 0, 1) := by decide +kernel
theorem d_Forge_output_6 : decode b_Forge_output 6 = .ok (.getfield 75, 3) := by decide +kernel
theorem d_Forge_output_9 : decode b_Forge_output 9 = .ok (.getfield 151, 3) := by decide +kernel
theorem d_Forge_output_12 : decode b_Forge_output 12 = .ok (.ireturn, 1) := by decide +kernel
theorem d_Forge_output_13 : decode b_Forge_output 13 = .ok (.aload_n 0, 1) := by decide +kernel
theorem d_Forge_output_14 : decode b_Forge_output 14 = .ok (.getfield 75, 3) := by decide +kernel
theorem d_Forge_output_17 : decode b_Forge_output 17 = .ok (.iload_n 1, 1) := by decide +kernel
theorem d_Forge_output_18 : decode b_Forge_output 18 = .ok (.invokevirtual 154, 3) := by decide +kernel
theorem d_Forge_output_21 : decode b_Forge_output 21 = .ok (.ireturn, 1) := by decide +kernel
def tForge_output (σ : St) (a1 : Int32) : Option (Int32) := if a1 = (-1) then some (σ.1 22) else b1 (tMachine_outputAt σ a1) (fun r2 => some r2)
set_option maxHeartbeats 4000000 in
set_option maxRecDepth 100000 in
theorem ct_Forge_output (l : Launch) (dC : Nat → ClassId) (dI : Nat → Nat → Nat) (ad : Nat → Nat) (cA : Nat → ClassId) (sz : Nat) {σ : St} {a1 : Int32} {r : Int32} (hF : tForge_output σ a1 = some r) : MI l y_Forge_output b_Forge_output 2 (some .int) { frames := 1, cells := 0, slots := 0, locals := 21 } (dC, dI) (ttys cA) ad (tcw ad cA) [.ref (ad 10), .int a1] σ sz r σ := by
  refine startM (own := "TinyForge") (Qc := fun A => QI (dC, dI) (ttys cA) (tcw ad cA) A r σ) rfl rfl (Nat.le_of_ble_eq_true rfl) ?_
  intro p e s m below meth c A H locs ls X hP hD hS hl
  have hl : lv_has ls 2 [(0, .ref (ad 10)), (1, .int a1)] := hl
  obtain ⟨hx, hb, hr, hml, hown, hlocks, hts, hA, hK, hZ⟩ := id X
  unfold tForge_output at hF
  refine lv_iload_n hx hb d_Forge_output_0 rfl (lv_at hl 1 rfl) ?_
  refine lv_iconst (v := (-1)) hx hb d_Forge_output_1 (by decide) ?_
  refine lv_icmp_ne (tgt := 13) hx hb d_Forge_output_2 (by decide) (fun c_1 => ?_) (fun c_1 => ?_)
  · have hF := ifn hF c_1
    refine lv_aload_n hx hb d_Forge_output_13 rfl (lv_at hl 0 rfl) ?_
    refine va_get (D := (dC, dI)) (ci := 10) (v := .ref (ad 9)) hx hb hts i_Forge hown hK hP 10 rfl rfl 7 (by decide) (hts _ w_e37fbb6cf6) (fun _ h9 => h9) rfl d_Forge_output_14 ?_
    refine lv_iload_n hx hb d_Forge_output_17 rfl (lv_at hl 1 rfl) ?_
    obtain ⟨r2, h2, hF⟩ := b1E hF
    refine callVI (As := [.int a1]) X (ct_Machine_outputAt l dC dI ad cA H.size h2) lk_Forge_154 ⟨rfl, rfl, by decide, by decide⟩ 9 rfl rfl hP hD hS hl.1 rfl rfl (Nat.le_of_ble_eq_true rfl) d_Forge_output_18 (fun H locs hP hD hS => ?_)
    cases hF
    exact leafI X hP hD hS d_Forge_output_21
  · have hF := ifp hF c_1
    refine lv_aload_n hx hb d_Forge_output_5 rfl (lv_at hl 0 rfl) ?_
    refine va_get (D := (dC, dI)) (ci := 10) (v := .ref (ad 9)) hx hb hts i_Forge hown hK hP 10 rfl rfl 7 (by decide) (hts _ w_e37fbb6cf6) (fun _ h9 => h9) rfl d_Forge_output_6 ?_
    refine va_get (D := (dC, dI)) (ci := 9) (v := .int (σ.1 22)) hx hb hts i_Machine hown hK hP 9 rfl rfl 12 (by decide) (hts _ w_98cc1b3796) (fun _ h9 => h9) rfl d_Forge_output_9 ?_
    cases hF
    exact leafI X hP hD hS d_Forge_output_12
theorem d_Forge_result_0 : decode b_Forge_result 0 = .ok (.aload_n 0, 1) := by decide +kernel
theorem d_Forge_result_1 : decode b_Forge_result 1 = .ok (.getfield 75, 3) := by decide +kernel
theorem d_Forge_result_4 : decode b_Forge_result 4 = .ok (.getfield 148, 3) := by decide +kernel
theorem d_Forge_result_7 : decode b_Forge_result 7 = .ok (.ireturn, 1) := by decide +kernel
def tForge_result (σ : St) : Option (Int32) := some (σ.1 24)
set_option maxHeartbeats 4000000 in
set_option maxRecDepth 100000 in
theorem ct_Forge_result (l : Launch) (dC : Nat → ClassId) (dI : Nat → Nat → Nat) (ad : Nat → Nat) (cA : Nat → ClassId) (sz : Nat) {σ : St} {r : Int32} (hF : tForge_result σ = some r) : MI l y_Forge_result b_Forge_result 1 (some .int) { frames := 0, cells := 0, slots := 0, locals := 0 } (dC, dI) (ttys cA) ad (tcw ad cA) [.ref (ad 10)] σ sz r σ := by
  refine startM (own := "TinyForge") (Qc := fun A => QI (dC, dI) (ttys cA) (tcw ad cA) A r σ) rfl rfl (Nat.le_of_ble_eq_true rfl) ?_
  intro p e s m below meth c A H locs ls X hP hD hS hl
  have hl : lv_has ls 1 [(0, .ref (ad 10))] := hl
  obtain ⟨hx, hb, hr, hml, hown, hlocks, hts, hA, hK, hZ⟩ := id X
  unfold tForge_result at hF
  refine lv_aload_n hx hb d_Forge_result_0 rfl (lv_at hl 0 rfl) ?_
  refine va_get (D := (dC, dI)) (ci := 10) (v := .ref (ad 9)) hx hb hts i_Forge hown hK hP 10 rfl rfl 7 (by decide) (hts _ w_e37fbb6cf6) (fun _ h9 => h9) rfl d_Forge_result_1 ?_
  refine va_get (D := (dC, dI)) (ci := 9) (v := .int (σ.1 24)) hx hb hts i_Machine hown hK hP 9 rfl rfl 14 (by decide) (hts _ w_d73251e816) (fun _ h9 => h9) rfl d_Forge_result_4 ?_
  cases hF
  exact leafI X hP hD hS d_Forge_result_7
theorem d_Forge_ticks_0 : decode b_Forge_ticks 0 = .ok (.aload_n 0, 1) := by decide +kernel
theorem d_Forge_ticks_1 : decode b_Forge_ticks 1 = .ok (.getfield 75, 3) := by decide +kernel
theorem d_Forge_ticks_4 : decode b_Forge_ticks 4 = .ok (.getfield 158, 3) := by decide +kernel
theorem d_Forge_ticks_7 : decode b_Forge_ticks 7 = .ok (.ireturn, 1) := by decide +kernel
def tForge_ticks (σ : St) : Option (Int32) := some (σ.1 23)
set_option maxHeartbeats 4000000 in
set_option maxRecDepth 100000 in
theorem ct_Forge_ticks (l : Launch) (dC : Nat → ClassId) (dI : Nat → Nat → Nat) (ad : Nat → Nat) (cA : Nat → ClassId) (sz : Nat) {σ : St} {r : Int32} (hF : tForge_ticks σ = some r) : MI l y_Forge_ticks b_Forge_ticks 1 (some .int) { frames := 0, cells := 0, slots := 0, locals := 0 } (dC, dI) (ttys cA) ad (tcw ad cA) [.ref (ad 10)] σ sz r σ := by
  refine startM (own := "TinyForge") (Qc := fun A => QI (dC, dI) (ttys cA) (tcw ad cA) A r σ) rfl rfl (Nat.le_of_ble_eq_true rfl) ?_
  intro p e s m below meth c A H locs ls X hP hD hS hl
  have hl : lv_has ls 1 [(0, .ref (ad 10))] := hl
  obtain ⟨hx, hb, hr, hml, hown, hlocks, hts, hA, hK, hZ⟩ := id X
  unfold tForge_ticks at hF
  refine lv_aload_n hx hb d_Forge_ticks_0 rfl (lv_at hl 0 rfl) ?_
  refine va_get (D := (dC, dI)) (ci := 10) (v := .ref (ad 9)) hx hb hts i_Forge hown hK hP 10 rfl rfl 7 (by decide) (hts _ w_e37fbb6cf6) (fun _ h9 => h9) rfl d_Forge_ticks_1 ?_
  refine va_get (D := (dC, dI)) (ci := 9) (v := .int (σ.1 23)) hx hb hts i_Machine hown hK hP 9 rfl rfl 13 (by decide) (hts _ w_88531df78f) (fun _ h9 => h9) rfl d_Forge_ticks_4 ?_
  cases hF
  exact leafI X hP hD hS d_Forge_ticks_7
theorem d_Forge_where_0 : decode b_Forge_where 0 = .ok (.aload_n 0, 1) := by decide +kernel
theorem d_Forge_where_1 : decode b_Forge_where 1 = .ok (.getfield 19, 3) := by decide +kernel
theorem d_Forge_where_4 : decode b_Forge_where 4 = .ok (.getfield 132, 3) := by decide +kernel
theorem d_Forge_where_7 : decode b_Forge_where 7 = .ok (.ireturn, 1) := by decide +kernel
def tForge_where (σ : St) : Option (Int32) := some (σ.1 2)
set_option maxHeartbeats 4000000 in
set_option maxRecDepth 100000 in
theorem ct_Forge_where (l : Launch) (dC : Nat → ClassId) (dI : Nat → Nat → Nat) (ad : Nat → Nat) (cA : Nat → ClassId) (sz : Nat) {σ : St} {r : Int32} (hF : tForge_where σ = some r) : MI l y_Forge_where b_Forge_where 1 (some .int) { frames := 0, cells := 0, slots := 0, locals := 0 } (dC, dI) (ttys cA) ad (tcw ad cA) [.ref (ad 10)] σ sz r σ := by
  refine startM (own := "TinyForge") (Qc := fun A => QI (dC, dI) (ttys cA) (tcw ad cA) A r σ) rfl rfl (Nat.le_of_ble_eq_true rfl) ?_
  intro p e s m below meth c A H locs ls X hP hD hS hl
  have hl : lv_has ls 1 [(0, .ref (ad 10))] := hl
  obtain ⟨hx, hb, hr, hml, hown, hlocks, hts, hA, hK, hZ⟩ := id X
  unfold tForge_where at hF
  refine lv_aload_n hx hb d_Forge_where_0 rfl (lv_at hl 0 rfl) ?_
  refine va_get (D := (dC, dI)) (ci := 10) (v := .ref (ad 1)) hx hb hts i_Forge hown hK hP 10 rfl rfl 2 (by decide) (hts _ w_58c4e7e825) (fun _ h9 => h9) rfl d_Forge_where_1 ?_
  refine va_get (D := (dC, dI)) (ci := 1) (v := .int (σ.1 2)) hx hb hts i_Refusal hown hK hP 1 rfl rfl 1 (by decide) (hts _ w_c059c90686) (fun _ h9 => h9) rfl d_Forge_where_4 ?_
  cases hF
  exact leafI X hP hD hS d_Forge_where_7
theorem d_Forge_why_0 : decode b_Forge_why 0 = .ok (.aload_n 0, 1) := by decide +kernel
theorem d_Forge_why_1 : decode b_Forge_why 1 = .ok (.getfield 19, 3) := by decide +kernel
theorem d_Forge_why_4 : decode b_Forge_why 4 = .ok (.getfield 129, 3) := by decide +kernel
theorem d_Forge_why_7 : decode b_Forge_why 7 = .ok (.ireturn, 1) := by decide +kernel
def tForge_why (σ : St) : Option (Int32) := some (σ.1 1)
set_option maxHeartbeats 4000000 in
set_option maxRecDepth 100000 in
theorem ct_Forge_why (l : Launch) (dC : Nat → ClassId) (dI : Nat → Nat → Nat) (ad : Nat → Nat) (cA : Nat → ClassId) (sz : Nat) {σ : St} {r : Int32} (hF : tForge_why σ = some r) : MI l y_Forge_why b_Forge_why 1 (some .int) { frames := 0, cells := 0, slots := 0, locals := 0 } (dC, dI) (ttys cA) ad (tcw ad cA) [.ref (ad 10)] σ sz r σ := by
  refine startM (own := "TinyForge") (Qc := fun A => QI (dC, dI) (ttys cA) (tcw ad cA) A r σ) rfl rfl (Nat.le_of_ble_eq_true rfl) ?_
  intro p e s m below meth c A H locs ls X hP hD hS hl
  have hl : lv_has ls 1 [(0, .ref (ad 10))] := hl
  obtain ⟨hx, hb, hr, hml, hown, hlocks, hts, hA, hK, hZ⟩ := id X
  unfold tForge_why at hF
  refine lv_aload_n hx hb d_Forge_why_0 rfl (lv_at hl 0 rfl) ?_
  refine va_get (D := (dC, dI)) (ci := 10) (v := .ref (ad 1)) hx hb hts i_Forge hown hK hP 10 rfl rfl 2 (by decide) (hts _ w_58c4e7e825) (fun _ h9 => h9) rfl d_Forge_why_1 ?_
  refine va_get (D := (dC, dI)) (ci := 1) (v := .int (σ.1 1)) hx hb hts i_Refusal hown hK hP 1 rfl rfl 0 (by decide) (hts _ w_4e28eb407d) (fun _ h9 => h9) rfl d_Forge_why_4 ?_
  cases hF
  exact leafI X hP hD hS d_Forge_why_7
