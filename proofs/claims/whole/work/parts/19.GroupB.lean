theorem d_Grammar_newVariable_0 : decode b_Grammar_newVariable 0 = .ok (.iload_n 1, 1) := by decide +kernel
theorem d_Grammar_newVariable_1 : decode b_Grammar_newVariable 1 = .ok (.ifCond .ne 17, 3) := by decide +kernel
theorem d_Grammar_newVariable_4 : decode b_Grammar_newVariable 4 = .ok (.aload_n 0, 1) := by decide +kernel
theorem d_Grammar_newVariable_5 : decode b_Grammar_newVariable 5 = .ok (.getfield 15, 3) := by decide +kernel
theorem d_Grammar_newVariable_8 : decode b_Grammar_newVariable 8 = .ok (.aload_n 0, 1) := by decide +kernel
theorem d_Grammar_newVariable_9 : decode b_Grammar_newVariable 9 = .ok (.getfield 9, 3) := by decide +kernel
theorem d_Grammar_newVariable_12 : decode b_Grammar_newVariable 12 = .ok (.getfield 52, 3) := by decide +kernel
theorem d_Grammar_newVariable_15 : decode b_Grammar_newVariable 15 = .ok (.invokevirtual 89, 3) := by decide +kernel
theorem d_Grammar_newVariable_18 : decode b_Grammar_newVariable 18 = .ok (.aload_n 0, 1) := by decide +kernel
theorem d_Grammar_newVariable_19 : decode b_Grammar_newVariable 19 = .ok (.getfield 9, 3) := by decide +kernel
theorem d_Grammar_newVariable_22 : decode b_Grammar_newVariable 22 = .ok (.iconst 3, 1) := by decide +kernel
theorem d_Grammar_newVariable_23 : decode b_Grammar_newVariable 23 = .ok (.invokevirtual 48, 3) := by decide +kernel
theorem d_Grammar_newVariable_26 : decode b_Grammar_newVariable 26 = .ok (.aload_n 0, 1) := by decide +kernel
theorem d_Grammar_newVariable_27 : decode b_Grammar_newVariable 27 = .ok (.getfield 9, 3) := by decide +kernel
theorem d_Grammar_newVariable_30 : decode b_Grammar_newVariable 30 = .ok (.getfield 52, 3) := by decide +kernel
theorem d_Grammar_newVariable_33 : decode b_Grammar_newVariable 33 = .ok (.istore_n 2, 1) := by decide +kernel
theorem d_Grammar_newVariable_34 : decode b_Grammar_newVariable 34 = .ok (.aload_n 0, 1) := by decide +kernel
theorem d_Grammar_newVariable_35 : decode b_Grammar_newVariable 35 = .ok (.getfield 9, 3) := by decide +kernel
theorem d_Grammar_newVariable_38 : decode b_Grammar_newVariable 38 = .ok (.iconst 1, 1) := by decide +kernel
theorem d_Grammar_newVariable_39 : decode b_Grammar_newVariable 39 = .ok (.invokevirtual 48, 3) := by decide +kernel
theorem d_Grammar_newVariable_42 : decode b_Grammar_newVariable 42 = .ok (.aload_n 0, 1) := by decide +kernel
theorem d_Grammar_newVariable_43 : decode b_Grammar_newVariable 43 = .ok (.getfield 9, 3) := by decide +kernel
theorem d_Grammar_newVariable_46 : decode b_Grammar_newVariable 46 = .ok (.bipush 61, 2) := by decide +kernel
theorem d_Grammar_newVariable_48 : decode b_Grammar_newVariable 48 = .ok (.invokevirtual 48, 3) := by decide +kernel
theorem d_Grammar_newVariable_51 : decode b_Grammar_newVariable 51 = .ok (.aload_n 0, 1) := by decide +kernel
theorem d_Grammar_newVariable_52 : decode b_Grammar_newVariable 52 = .ok (.iconst 1, 1) := by decide +kernel
theorem d_Grammar_newVariable_53 : decode b_Grammar_newVariable 53 = .ok (.invokevirtual 112, 3) := by decide +kernel
theorem d_Grammar_newVariable_56 : decode b_Grammar_newVariable 56 = .ok (.aload_n 0, 1) := by decide +kernel
theorem d_Grammar_newVariable_57 : decode b_Grammar_newVariable 57 = .ok (.getfield 9, 3) := by decide +kernel
theorem d_Grammar_newVariable_60 : decode b_Grammar_newVariable 60 = .ok (.bipush 59, 2) := by decide +kernel
theorem d_Grammar_newVariable_62 : decode b_Grammar_newVariable 62 = .ok (.invokevirtual 48, 3) := by decide +kernel
theorem d_Grammar_newVariable_65 : decode b_Grammar_newVariable 65 = .ok (.aload_n 0, 1) := by decide +kernel
theorem d_Grammar_newVariable_66 : decode b_Grammar_newVariable 66 = .ok (.getfield 23, 3) := by decide +kernel
theorem d_Grammar_newVariable_69 : decode b_Grammar_newVariable 69 = .ok (.bipush 12, 2) := by decide +kernel
theorem d_Grammar_newVariable_71 : decode b_Grammar_newVariable 71 = .ok (.aload_n 0, 1) := by decide +kernel
theorem d_Grammar_newVariable_72 : decode b_Grammar_newVariable 72 = .ok (.getfield 15, 3) := by decide +kernel
theorem d_Grammar_newVariable_75 : decode b_Grammar_newVariable 75 = .ok (.iload_n 2, 1) := by decide +kernel
theorem d_Grammar_newVariable_76 : decode b_Grammar_newVariable 76 = .ok (.invokevirtual 92, 3) := by decide +kernel
theorem d_Grammar_newVariable_79 : decode b_Grammar_newVariable 79 = .ok (.iconst 0, 1) := by decide +kernel
theorem d_Grammar_newVariable_80 : decode b_Grammar_newVariable 80 = .ok (.invokevirtual 86, 3) := by decide +kernel
theorem d_Grammar_newVariable_83 : decode b_Grammar_newVariable 83 = .ok (.return_, 1) := by decide +kernel
def tGrammar_newVariable_b1 (rec : Nat → St → Int32 → Int32 → Option (Int32 × St)) (k : Nat → St → Option (Int32 × St)) (σ : St) : Option (Int32 × St) := b1 (tCursor_pass σ 3) (fun u3 => b1 (tCursor_pass u3 1) (fun u4 => b1 (tCursor_pass u4 61) (fun u5 => b2 (rec 16 u5 1 0) (fun r6 u6 => b1 (tCursor_pass u6 59) (fun u7 => b2 (tVariables_make u7 (u3.1 6)) (fun r8 u8 => b1 (tProgram_add u8 12 r8 0) (fun u9 => some (0, u9))))))))
def tGrammar_newVariable_L (rec : Nat → St → Int32 → Int32 → Option (Int32 × St)) : Nat → Nat → St → Option (Int32 × St)
  | 0, _, _ => none
  | n + 1, lab, σ => match lab with
    | 1 => tGrammar_newVariable_b1 rec (tGrammar_newVariable_L rec n) σ 
    | _ => none
def tGrammar_newVariable (rec : Nat → St → Int32 → Int32 → Option (Int32 × St)) (σ : St) (a1 : Int32) : Option (Int32 × St) := if a1 = 0 then b1 (tVariables_mustNotMake σ (σ.1 6)) (fun u2 => tGrammar_newVariable_L rec 2000 1 u2 ) else tGrammar_newVariable_L rec 2000 1 σ 
set_option maxHeartbeats 4000000 in
set_option maxRecDepth 100000 in
theorem tGrammar_newVariable_blk {p : Program} {e : Env} {s : State} {m : MethodId} {args : Array Value} {below : List Frame} {meth : Method} {c : Code} {A : Nat → Prop} (l : Launch) (dC : Nat → ClassId) (dI : Nat → Nat → Nat) (ad : Nat → Nat) (cA : Nat → ClassId) {r : Int32} {σ' : St} {d : Nat} {rec : Nat → St → Int32 → Int32 → Option (Int32 × St)} (ih : tIH l d rec) (X : Cx p s m args meth c b_Grammar_newVariable 3 none "TinyForge$Grammar" (dC, dI) (ttys cA) ad A) : ∀ n : Nat, (∀ (σ : St) (H : Heap) (locs : List Loc) (ls : Array Slot), tGrammar_newVariable_L rec n 1 σ  = some (r, σ') → va_P (dC, dI) vwCl (tcw ad cA σ) H → va_D A (tcw ad cA σ) → va_S A s.heap H locs → lv_has ls 3 [(0, .ref (ad 7))] → W p l e (trm (d + 1)) s m args below meth c H locs 0 0 (MQ below (QV (dC, dI) (ttys cA) (tcw ad cA) A σ') args s 0 0 A) (F0 m 18 ls [])) := by
  obtain ⟨hx, hb, hr, hml, hown, hlocks, hts, hA, hK, hZ⟩ := id X
  intro n
  induction n with
  | zero => exact (fun σ  H locs ls hF => by cases hF)
  | succ n ihn =>
    refine fun σ  H locs ls hF hP hD hS hl => ?_
    · have hF : tGrammar_newVariable_b1 rec (tGrammar_newVariable_L rec n) σ  = some (r, σ') := hF
      unfold tGrammar_newVariable_b1 at hF
      refine lv_aload_n hx hb d_Grammar_newVariable_18 rfl (lv_at hl 0 rfl) ?_
      refine va_get (D := (dC, dI)) (ci := 7) (v := .ref (ad 3)) hx hb hts i_Grammar hown hK hP 7 rfl rfl 0 (by decide) (hts _ w_a2db652071) (fun _ h9 => h9) rfl d_Grammar_newVariable_19 ?_
      refine lv_iconst (v := 3) hx hb d_Grammar_newVariable_22 (by decide) ?_
      obtain ⟨u3, h3, hF⟩ := b1E hF
      refine callVV (As := [.int 3]) X (ct_Cursor_pass l dC dI ad cA H.size h3) lk_Grammar_48 (trm_go rfl rfl (by decide) (by decide)) 3 rfl rfl hP hD hS hl.1 rfl rfl (Nat.le_of_ble_eq_true rfl) d_Grammar_newVariable_23 (fun H locs hP hD hS => ?_)
      refine lv_aload_n hx hb d_Grammar_newVariable_26 rfl (lv_at hl 0 rfl) ?_
      refine va_get (D := (dC, dI)) (ci := 7) (v := .ref (ad 3)) hx hb hts i_Grammar hown hK hP 7 rfl rfl 0 (by decide) (hts _ w_a2db652071) (fun _ h9 => h9) rfl d_Grammar_newVariable_27 ?_
      refine va_get (D := (dC, dI)) (ci := 3) (v := .int (u3.1 6)) hx hb hts i_Cursor hown hK hP 3 rfl rfl 2 (by decide) (hts _ w_1aaaf03a26) (fun _ h9 => h9) rfl d_Grammar_newVariable_30 ?_
      refine lv_istore_n (lv' := [(2, .int (u3.1 6)), (0, .ref (ad 7))]) hx hb d_Grammar_newVariable_33 rfl hl (by decide) rfl (fun ls hl => ?_)
      refine lv_aload_n hx hb d_Grammar_newVariable_34 rfl (lv_at hl 1 rfl) ?_
      refine va_get (D := (dC, dI)) (ci := 7) (v := .ref (ad 3)) hx hb hts i_Grammar hown hK hP 7 rfl rfl 0 (by decide) (hts _ w_a2db652071) (fun _ h9 => h9) rfl d_Grammar_newVariable_35 ?_
      refine lv_iconst (v := 1) hx hb d_Grammar_newVariable_38 (by decide) ?_
      obtain ⟨u4, h4, hF⟩ := b1E hF
      refine callVV (As := [.int 1]) X (ct_Cursor_pass l dC dI ad cA H.size h4) lk_Grammar_48 (trm_go rfl rfl (by decide) (by decide)) 3 rfl rfl hP hD hS hl.1 rfl rfl (Nat.le_of_ble_eq_true rfl) d_Grammar_newVariable_39 (fun H locs hP hD hS => ?_)
      refine lv_aload_n hx hb d_Grammar_newVariable_42 rfl (lv_at hl 1 rfl) ?_
      refine va_get (D := (dC, dI)) (ci := 7) (v := .ref (ad 3)) hx hb hts i_Grammar hown hK hP 7 rfl rfl 0 (by decide) (hts _ w_a2db652071) (fun _ h9 => h9) rfl d_Grammar_newVariable_43 ?_
      refine lv_bipush (v := 61) hx hb d_Grammar_newVariable_46 (by decide) ?_
      obtain ⟨u5, h5, hF⟩ := b1E hF
      refine callVV (As := [.int 61]) X (ct_Cursor_pass l dC dI ad cA H.size h5) lk_Grammar_48 (trm_go rfl rfl (by decide) (by decide)) 3 rfl rfl hP hD hS hl.1 rfl rfl (Nat.le_of_ble_eq_true rfl) d_Grammar_newVariable_48 (fun H locs hP hD hS => ?_)
      refine lv_aload_n hx hb d_Grammar_newVariable_51 rfl (lv_at hl 1 rfl) ?_
      refine lv_iconst (v := 1) hx hb d_Grammar_newVariable_52 (by decide) ?_
      obtain ⟨r6, u6, h6, hF⟩ := b2E hF
      refine callVV (As := [.int 1]) X (ih.2.2.2.2.2.2.2.2.2.2.2.2.2.2.2.2 dC dI ad cA H.size h6) lk_Grammar_112 (trm_gg (by decide)) 7 rfl rfl hP hD hS hl.1 rfl rfl (Nat.le_of_ble_eq_true rfl) d_Grammar_newVariable_53 (fun H locs hP hD hS => ?_)
      refine lv_aload_n hx hb d_Grammar_newVariable_56 rfl (lv_at hl 1 rfl) ?_
      refine va_get (D := (dC, dI)) (ci := 7) (v := .ref (ad 3)) hx hb hts i_Grammar hown hK hP 7 rfl rfl 0 (by decide) (hts _ w_a2db652071) (fun _ h9 => h9) rfl d_Grammar_newVariable_57 ?_
      refine lv_bipush (v := 59) hx hb d_Grammar_newVariable_60 (by decide) ?_
      obtain ⟨u7, h7, hF⟩ := b1E hF
      refine callVV (As := [.int 59]) X (ct_Cursor_pass l dC dI ad cA H.size h7) lk_Grammar_48 (trm_go rfl rfl (by decide) (by decide)) 3 rfl rfl hP hD hS hl.1 rfl rfl (Nat.le_of_ble_eq_true rfl) d_Grammar_newVariable_62 (fun H locs hP hD hS => ?_)
      refine lv_aload_n hx hb d_Grammar_newVariable_65 rfl (lv_at hl 1 rfl) ?_
      refine va_get (D := (dC, dI)) (ci := 7) (v := .ref (ad 6)) hx hb hts i_Grammar hown hK hP 7 rfl rfl 3 (by decide) (hts _ w_72b36bc41d) (fun _ h9 => h9) rfl d_Grammar_newVariable_66 ?_
      refine lv_bipush (v := 12) hx hb d_Grammar_newVariable_69 (by decide) ?_
      refine lv_aload_n hx hb d_Grammar_newVariable_71 rfl (lv_at hl 1 rfl) ?_
      refine va_get (D := (dC, dI)) (ci := 7) (v := .ref (ad 4)) hx hb hts i_Grammar hown hK hP 7 rfl rfl 1 (by decide) (hts _ w_6ad409d59f) (fun _ h9 => h9) rfl d_Grammar_newVariable_72 ?_
      refine lv_iload_n hx hb d_Grammar_newVariable_75 rfl (lv_at hl 0 rfl) ?_
      obtain ⟨r8, u8, h8, hF⟩ := b2E hF
      refine callVI (As := [.int (u3.1 6)]) X (ct_Variables_make l dC dI ad cA H.size h8) lk_Grammar_92 (trm_go rfl rfl (by decide) (by decide)) 4 rfl rfl hP hD hS hl.1 rfl rfl (Nat.le_of_ble_eq_true rfl) d_Grammar_newVariable_76 (fun H locs hP hD hS => ?_)
      refine lv_iconst (v := 0) hx hb d_Grammar_newVariable_79 (by decide) ?_
      obtain ⟨u9, h9, hF⟩ := b1E hF
      refine callVV (As := [.int 12, .int r8, .int 0]) X (ct_Program_add l dC dI ad cA H.size h9) lk_Grammar_86 (trm_go rfl rfl (by decide) (by decide)) 6 rfl rfl hP hD hS hl.1 rfl rfl (Nat.le_of_ble_eq_true rfl) d_Grammar_newVariable_80 (fun H locs hP hD hS => ?_)
      cases hF
      exact leafV X hP hD hS d_Grammar_newVariable_83
set_option maxHeartbeats 4000000 in
set_option maxRecDepth 100000 in
theorem ct_Grammar_newVariable (l : Launch) (dC : Nat → ClassId) (dI : Nat → Nat → Nat) (ad : Nat → Nat) (cA : Nat → ClassId) (sz : Nat) {σ : St} {a1 : Int32} {r : Int32} {σ' : St} {d : Nat} {rec : Nat → St → Int32 → Int32 → Option (Int32 × St)} (ih : tIH l d rec) (hF : tGrammar_newVariable rec σ a1 = some (r, σ')) : MV l y_Grammar_newVariable b_Grammar_newVariable 3 none (trm (d + 1)) (dC, dI) (ttys cA) ad (tcw ad cA) [.ref (ad 7), .int a1] σ sz σ' := by
  refine startM (own := "TinyForge$Grammar") (Qc := fun A => QV (dC, dI) (ttys cA) (tcw ad cA) A σ') rfl rfl (Nat.le_of_ble_eq_true rfl) ?_
  intro p e s m below meth c A H locs ls X hP hD hS hl
  have hl : lv_has ls 3 [(0, .ref (ad 7)), (1, .int a1)] := hl
  obtain ⟨hx, hb, hr, hml, hown, hlocks, hts, hA, hK, hZ⟩ := id X
  unfold tGrammar_newVariable at hF
  refine lv_iload_n hx hb d_Grammar_newVariable_0 rfl (lv_at hl 1 rfl) ?_
  refine lv_if_ne (tgt := 18) hx hb d_Grammar_newVariable_1 (by decide) (fun c_1 => ?_) (fun c_1 => ?_)
  · have hF := ifn hF c_1
    exact (tGrammar_newVariable_blk l dC dI ad cA ih X 2000) σ  H locs ls hF hP hD hS (lv_sub hl [0] rfl)
  · have hF := ifp hF c_1
    refine lv_aload_n hx hb d_Grammar_newVariable_4 rfl (lv_at hl 0 rfl) ?_
    refine va_get (D := (dC, dI)) (ci := 7) (v := .ref (ad 4)) hx hb hts i_Grammar hown hK hP 7 rfl rfl 1 (by decide) (hts _ w_6ad409d59f) (fun _ h9 => h9) rfl d_Grammar_newVariable_5 ?_
    refine lv_aload_n hx hb d_Grammar_newVariable_8 rfl (lv_at hl 0 rfl) ?_
    refine va_get (D := (dC, dI)) (ci := 7) (v := .ref (ad 3)) hx hb hts i_Grammar hown hK hP 7 rfl rfl 0 (by decide) (hts _ w_a2db652071) (fun _ h9 => h9) rfl d_Grammar_newVariable_9 ?_
    refine va_get (D := (dC, dI)) (ci := 3) (v := .int (σ.1 6)) hx hb hts i_Cursor hown hK hP 3 rfl rfl 2 (by decide) (hts _ w_1aaaf03a26) (fun _ h9 => h9) rfl d_Grammar_newVariable_12 ?_
    obtain ⟨u2, h2, hF⟩ := b1E hF
    refine callVV (As := [.int (σ.1 6)]) X (ct_Variables_mustNotMake l dC dI ad cA H.size h2) lk_Grammar_89 (trm_go rfl rfl (by decide) (by decide)) 4 rfl rfl hP hD hS hl.1 rfl rfl (Nat.le_of_ble_eq_true rfl) d_Grammar_newVariable_15 (fun H locs hP hD hS => ?_)
    exact (tGrammar_newVariable_blk l dC dI ad cA ih X 2000) u2  H locs ls hF hP hD hS (lv_sub hl [0] rfl)
theorem d_Grammar_one_0 : decode b_Grammar_one 0 = .ok (.aload_n 0, 1) := by decide +kernel
theorem d_Grammar_one_1 : decode b_Grammar_one 1 = .ok (.getfield 9, 3) := by decide +kernel
theorem d_Grammar_one_4 : decode b_Grammar_one 4 = .ok (.invokevirtual 44, 3) := by decide +kernel
theorem d_Grammar_one_7 : decode b_Grammar_one 7 = .ok (.lookupswitch 188 #[(1, 148), (2, 79), (8, 107), (33, 65), (40, 162), (45, 65), (126, 65)], 65) := by decide +kernel
theorem d_Grammar_one_72 : decode b_Grammar_one 72 = .ok (.aload_n 0, 1) := by decide +kernel
theorem d_Grammar_one_73 : decode b_Grammar_one 73 = .ok (.aload_n 0, 1) := by decide +kernel
theorem d_Grammar_one_74 : decode b_Grammar_one 74 = .ok (.getfield 9, 3) := by decide +kernel
theorem d_Grammar_one_77 : decode b_Grammar_one 77 = .ok (.invokevirtual 44, 3) := by decide +kernel
theorem d_Grammar_one_80 : decode b_Grammar_one 80 = .ok (.invokevirtual 160, 3) := by decide +kernel
theorem d_Grammar_one_83 : decode b_Grammar_one 83 = .ok (.goto 120, 3) := by decide +kernel
theorem d_Grammar_one_86 : decode b_Grammar_one 86 = .ok (.aload_n 0, 1) := by decide +kernel
theorem d_Grammar_one_87 : decode b_Grammar_one 87 = .ok (.getfield 23, 3) := by decide +kernel
theorem d_Grammar_one_90 : decode b_Grammar_one 90 = .ok (.bipush 10, 2) := by decide +kernel
theorem d_Grammar_one_92 : decode b_Grammar_one 92 = .ok (.aload_n 0, 1) := by decide +kernel
theorem d_Grammar_one_93 : decode b_Grammar_one 93 = .ok (.getfield 9, 3) := by decide +kernel
theorem d_Grammar_one_96 : decode b_Grammar_one 96 = .ok (.invokevirtual 163, 3) := by decide +kernel
theorem d_Grammar_one_99 : decode b_Grammar_one 99 = .ok (.iconst 0, 1) := by decide +kernel
theorem d_Grammar_one_100 : decode b_Grammar_one 100 = .ok (.invokevirtual 86, 3) := by decide +kernel
theorem d_Grammar_one_103 : decode b_Grammar_one 103 = .ok (.aload_n 0, 1) := by decide +kernel
theorem d_Grammar_one_104 : decode b_Grammar_one 104 = .ok (.getfield 9, 3) := by decide +kernel
theorem d_Grammar_one_107 : decode b_Grammar_one 107 = .ok (.iconst 2, 1) := by decide +kernel
theorem d_Grammar_one_108 : decode b_Grammar_one 108 = .ok (.invokevirtual 48, 3) := by decide +kernel
theorem d_Grammar_one_111 : decode b_Grammar_one 111 = .ok (.goto 92, 3) := by decide +kernel
theorem d_Grammar_one_114 : decode b_Grammar_one 114 = .ok (.aload_n 0, 1) := by decide +kernel
theorem d_Grammar_one_115 : decode b_Grammar_one 115 = .ok (.getfield 9, 3) := by decide +kernel
theorem d_Grammar_one_118 : decode b_Grammar_one 118 = .ok (.bipush 8, 2) := by decide +kernel
theorem d_Grammar_one_120 : decode b_Grammar_one 120 = .ok (.invokevirtual 48, 3) := by decide +kernel
theorem d_Grammar_one_123 : decode b_Grammar_one 123 = .ok (.aload_n 0, 1) := by decide +kernel
theorem d_Grammar_one_124 : decode b_Grammar_one 124 = .ok (.getfield 9, 3) := by decide +kernel
theorem d_Grammar_one_127 : decode b_Grammar_one 127 = .ok (.bipush 40, 2) := by decide +kernel
theorem d_Grammar_one_129 : decode b_Grammar_one 129 = .ok (.invokevirtual 61, 3) := by decide +kernel
theorem d_Grammar_one_132 : decode b_Grammar_one 132 = .ok (.aload_n 0, 1) := by decide +kernel
theorem d_Grammar_one_133 : decode b_Grammar_one 133 = .ok (.getfield 9, 3) := by decide +kernel
theorem d_Grammar_one_136 : decode b_Grammar_one 136 = .ok (.bipush 41, 2) := by decide +kernel
theorem d_Grammar_one_138 : decode b_Grammar_one 138 = .ok (.invokevirtual 68, 3) := by decide +kernel
theorem d_Grammar_one_141 : decode b_Grammar_one 141 = .ok (.aload_n 0, 1) := by decide +kernel
theorem d_Grammar_one_142 : decode b_Grammar_one 142 = .ok (.getfield 23, 3) := by decide +kernel
theorem d_Grammar_one_145 : decode b_Grammar_one 145 = .ok (.bipush 8, 2) := by decide +kernel
theorem d_Grammar_one_147 : decode b_Grammar_one 147 = .ok (.iconst 0, 1) := by decide +kernel
theorem d_Grammar_one_148 : decode b_Grammar_one 148 = .ok (.iconst 0, 1) := by decide +kernel
theorem d_Grammar_one_149 : decode b_Grammar_one 149 = .ok (.invokevirtual 86, 3) := by decide +kernel
theorem d_Grammar_one_152 : decode b_Grammar_one 152 = .ok (.goto 51, 3) := by decide +kernel
theorem d_Grammar_one_155 : decode b_Grammar_one 155 = .ok (.aload_n 0, 1) := by decide +kernel
theorem d_Grammar_one_156 : decode b_Grammar_one 156 = .ok (.aload_n 0, 1) := by decide +kernel
theorem d_Grammar_one_157 : decode b_Grammar_one 157 = .ok (.getfield 9, 3) := by decide +kernel
theorem d_Grammar_one_160 : decode b_Grammar_one 160 = .ok (.getfield 52, 3) := by decide +kernel
theorem d_Grammar_one_163 : decode b_Grammar_one 163 = .ok (.invokevirtual 166, 3) := by decide +kernel
theorem d_Grammar_one_166 : decode b_Grammar_one 166 = .ok (.goto 37, 3) := by decide +kernel
theorem d_Grammar_one_169 : decode b_Grammar_one 169 = .ok (.aload_n 0, 1) := by decide +kernel
theorem d_Grammar_one_170 : decode b_Grammar_one 170 = .ok (.getfield 9, 3) := by decide +kernel
theorem d_Grammar_one_173 : decode b_Grammar_one 173 = .ok (.bipush 40, 2) := by decide +kernel
theorem d_Grammar_one_175 : decode b_Grammar_one 175 = .ok (.invokevirtual 61, 3) := by decide +kernel
theorem d_Grammar_one_178 : decode b_Grammar_one 178 = .ok (.aload_n 0, 1) := by decide +kernel
theorem d_Grammar_one_179 : decode b_Grammar_one 179 = .ok (.iconst 1, 1) := by decide +kernel
theorem d_Grammar_one_180 : decode b_Grammar_one 180 = .ok (.invokevirtual 112, 3) := by decide +kernel
theorem d_Grammar_one_183 : decode b_Grammar_one 183 = .ok (.aload_n 0, 1) := by decide +kernel
theorem d_Grammar_one_184 : decode b_Grammar_one 184 = .ok (.getfield 9, 3) := by decide +kernel
theorem d_Grammar_one_187 : decode b_Grammar_one 187 = .ok (.bipush 41, 2) := by decide +kernel
theorem d_Grammar_one_189 : decode b_Grammar_one 189 = .ok (.invokevirtual 68, 3) := by decide +kernel
theorem d_Grammar_one_192 : decode b_Grammar_one 192 = .ok (.goto 11, 3) := by decide +kernel
theorem d_Grammar_one_195 : decode b_Grammar_one 195 = .ok (.aload_n 0, 1) := by decide +kernel
theorem d_Grammar_one_196 : decode b_Grammar_one 196 = .ok (.getfield 9, 3) := by decide +kernel
theorem d_Grammar_one_199 : decode b_Grammar_one 199 = .ok (.iconst 2, 1) := by decide +kernel
theorem d_Grammar_one_200 : decode b_Grammar_one 200 = .ok (.invokevirtual 48, 3) := by decide +kernel
theorem d_Grammar_one_203 : decode b_Grammar_one 203 = .ok (.return_, 1) := by decide +kernel
def tGrammar_one (rec : Nat → St → Int32 → Int32 → Option (Int32 × St)) (σ : St) : Option (Int32 × St) := b1 (tCursor_kind σ) (fun r1 => if r1 = 1 then b2 (rec 7 σ (σ.1 6) 0) (fun r3 u3 => some (0, u3)) else if r1 = 2 then b1 (tCursor_number σ) (fun r5 => b1 (tProgram_add σ 10 r5 0) (fun u6 => b1 (tCursor_pass u6 2) (fun u7 => some (0, u7)))) else if r1 = 8 then b1 (tCursor_pass σ 8) (fun u9 => b1 (tCursor_passOpening u9 40) (fun u10 => b1 (tCursor_passClosing u10 41) (fun u11 => b1 (tProgram_add u11 8 0 0) (fun u12 => some (0, u12))))) else if r1 = 33 then b1 (tCursor_kind σ) (fun r14 => b2 (rec 12 σ r14 0) (fun r15 u15 => some (0, u15))) else if r1 = 40 then b1 (tCursor_passOpening σ 40) (fun u17 => b2 (rec 16 u17 1 0) (fun r18 u18 => b1 (tCursor_passClosing u18 41) (fun u19 => some (0, u19)))) else if r1 = 45 then b1 (tCursor_kind σ) (fun r21 => b2 (rec 12 σ r21 0) (fun r22 u22 => some (0, u22))) else if r1 = 126 then b1 (tCursor_kind σ) (fun r24 => b2 (rec 12 σ r24 0) (fun r25 u25 => some (0, u25))) else b1 (tCursor_pass σ 2) (fun u26 => some (0, u26)))
set_option maxHeartbeats 4000000 in
set_option maxRecDepth 100000 in
theorem ct_Grammar_one (l : Launch) (dC : Nat → ClassId) (dI : Nat → Nat → Nat) (ad : Nat → Nat) (cA : Nat → ClassId) (sz : Nat) {σ : St} {r : Int32} {σ' : St} {d : Nat} {rec : Nat → St → Int32 → Int32 → Option (Int32 × St)} (ih : tIH l d rec) (hF : tGrammar_one rec σ = some (r, σ')) : MV l y_Grammar_one b_Grammar_one 1 none (trm (d + 1)) (dC, dI) (ttys cA) ad (tcw ad cA) [.ref (ad 7)] σ sz σ' := by
  refine startM (own := "TinyForge$Grammar") (Qc := fun A => QV (dC, dI) (ttys cA) (tcw ad cA) A σ') rfl rfl (Nat.le_of_ble_eq_true rfl) ?_
  intro p e s m below meth c A H locs ls X hP hD hS hl
  have hl : lv_has ls 1 [(0, .ref (ad 7))] := hl
  obtain ⟨hx, hb, hr, hml, hown, hlocks, hts, hA, hK, hZ⟩ := id X
  unfold tGrammar_one at hF
  refine lv_aload_n hx hb d_Grammar_one_0 rfl (lv_at hl 0 rfl) ?_
  refine va_get (D := (dC, dI)) (ci := 7) (v := .ref (ad 3)) hx hb hts i_Grammar hown hK hP 7 rfl rfl 0 (by decide) (hts _ w_a2db652071) (fun _ h9 => h9) rfl d_Grammar_one_1 ?_
  obtain ⟨r1, h1, hF⟩ := b1E hF
  refine callVI (As := []) X (ct_Cursor_kind l dC dI ad cA H.size h1) lk_Grammar_44 (trm_go rfl rfl (by decide) (by decide)) 3 rfl rfl hP hD hS hl.1 rfl rfl (Nat.le_of_ble_eq_true rfl) d_Grammar_one_4 (fun H locs hP hD hS => ?_)
  by_cases c_2 : r1 = 1
  · have hF := ifp hF c_2
    refine lv_lookup (tgt := 155) (off := 148) hx hb d_Grammar_one_7 (by decide) (by rw [c_2]; rfl) (by decide) ?_
    refine lv_aload_n hx hb d_Grammar_one_155 rfl (lv_at hl 0 rfl) ?_
    refine lv_aload_n hx hb d_Grammar_one_156 rfl (lv_at hl 0 rfl) ?_
    refine va_get (D := (dC, dI)) (ci := 7) (v := .ref (ad 3)) hx hb hts i_Grammar hown hK hP 7 rfl rfl 0 (by decide) (hts _ w_a2db652071) (fun _ h9 => h9) rfl d_Grammar_one_157 ?_
    refine va_get (D := (dC, dI)) (ci := 3) (v := .int (σ.1 6)) hx hb hts i_Cursor hown hK hP 3 rfl rfl 2 (by decide) (hts _ w_1aaaf03a26) (fun _ h9 => h9) rfl d_Grammar_one_160 ?_
    obtain ⟨r3, u3, h3, hF⟩ := b2E hF
    refine callVV (As := [.int (σ.1 6)]) X (ih.2.2.2.2.2.2.2.1 dC dI ad cA H.size h3) lk_Grammar_166 (trm_gg (by decide)) 7 rfl rfl hP hD hS hl.1 rfl rfl (Nat.le_of_ble_eq_true rfl) d_Grammar_one_163 (fun H locs hP hD hS => ?_)
    refine lv_goto (tgt := 203) hx hb d_Grammar_one_166 (by decide) ?_
    cases hF
    exact leafV X hP hD hS d_Grammar_one_203
  · have hF := ifn hF c_2
    by_cases c_4 : r1 = 2
    · have hF := ifp hF c_4
      refine lv_lookup (tgt := 86) (off := 79) hx hb d_Grammar_one_7 (by decide) (by rw [c_4]; rfl) (by decide) ?_
      refine lv_aload_n hx hb d_Grammar_one_86 rfl (lv_at hl 0 rfl) ?_
      refine va_get (D := (dC, dI)) (ci := 7) (v := .ref (ad 6)) hx hb hts i_Grammar hown hK hP 7 rfl rfl 3 (by decide) (hts _ w_72b36bc41d) (fun _ h9 => h9) rfl d_Grammar_one_87 ?_
      refine lv_bipush (v := 10) hx hb d_Grammar_one_90 (by decide) ?_
      refine lv_aload_n hx hb d_Grammar_one_92 rfl (lv_at hl 0 rfl) ?_
      refine va_get (D := (dC, dI)) (ci := 7) (v := .ref (ad 3)) hx hb hts i_Grammar hown hK hP 7 rfl rfl 0 (by decide) (hts _ w_a2db652071) (fun _ h9 => h9) rfl d_Grammar_one_93 ?_
      obtain ⟨r5, h5, hF⟩ := b1E hF
      refine callVI (As := []) X (ct_Cursor_number l dC dI ad cA H.size h5) lk_Grammar_163 (trm_go rfl rfl (by decide) (by decide)) 3 rfl rfl hP hD hS hl.1 rfl rfl (Nat.le_of_ble_eq_true rfl) d_Grammar_one_96 (fun H locs hP hD hS => ?_)
      refine lv_iconst (v := 0) hx hb d_Grammar_one_99 (by decide) ?_
      obtain ⟨u6, h6, hF⟩ := b1E hF
      refine callVV (As := [.int 10, .int r5, .int 0]) X (ct_Program_add l dC dI ad cA H.size h6) lk_Grammar_86 (trm_go rfl rfl (by decide) (by decide)) 6 rfl rfl hP hD hS hl.1 rfl rfl (Nat.le_of_ble_eq_true rfl) d_Grammar_one_100 (fun H locs hP hD hS => ?_)
      refine lv_aload_n hx hb d_Grammar_one_103 rfl (lv_at hl 0 rfl) ?_
      refine va_get (D := (dC, dI)) (ci := 7) (v := .ref (ad 3)) hx hb hts i_Grammar hown hK hP 7 rfl rfl 0 (by decide) (hts _ w_a2db652071) (fun _ h9 => h9) rfl d_Grammar_one_104 ?_
      refine lv_iconst (v := 2) hx hb d_Grammar_one_107 (by decide) ?_
      obtain ⟨u7, h7, hF⟩ := b1E hF
      refine callVV (As := [.int 2]) X (ct_Cursor_pass l dC dI ad cA H.size h7) lk_Grammar_48 (trm_go rfl rfl (by decide) (by decide)) 3 rfl rfl hP hD hS hl.1 rfl rfl (Nat.le_of_ble_eq_true rfl) d_Grammar_one_108 (fun H locs hP hD hS => ?_)
      refine lv_goto (tgt := 203) hx hb d_Grammar_one_111 (by decide) ?_
      cases hF
      exact leafV X hP hD hS d_Grammar_one_203
    · have hF := ifn hF c_4
      by_cases c_8 : r1 = 8
      · have hF := ifp hF c_8
        refine lv_lookup (tgt := 114) (off := 107) hx hb d_Grammar_one_7 (by decide) (by rw [c_8]; rfl) (by decide) ?_
        refine lv_aload_n hx hb d_Grammar_one_114 rfl (lv_at hl 0 rfl) ?_
        refine va_get (D := (dC, dI)) (ci := 7) (v := .ref (ad 3)) hx hb hts i_Grammar hown hK hP 7 rfl rfl 0 (by decide) (hts _ w_a2db652071) (fun _ h9 => h9) rfl d_Grammar_one_115 ?_
        refine lv_bipush (v := 8) hx hb d_Grammar_one_118 (by decide) ?_
        obtain ⟨u9, h9, hF⟩ := b1E hF
        refine callVV (As := [.int 8]) X (ct_Cursor_pass l dC dI ad cA H.size h9) lk_Grammar_48 (trm_go rfl rfl (by decide) (by decide)) 3 rfl rfl hP hD hS hl.1 rfl rfl (Nat.le_of_ble_eq_true rfl) d_Grammar_one_120 (fun H locs hP hD hS => ?_)
        refine lv_aload_n hx hb d_Grammar_one_123 rfl (lv_at hl 0 rfl) ?_
        refine va_get (D := (dC, dI)) (ci := 7) (v := .ref (ad 3)) hx hb hts i_Grammar hown hK hP 7 rfl rfl 0 (by decide) (hts _ w_a2db652071) (fun _ h9 => h9) rfl d_Grammar_one_124 ?_
        refine lv_bipush (v := 40) hx hb d_Grammar_one_127 (by decide) ?_
        obtain ⟨u10, h10, hF⟩ := b1E hF
        refine callVV (As := [.int 40]) X (ct_Cursor_passOpening l dC dI ad cA H.size h10) lk_Grammar_61 (trm_go rfl rfl (by decide) (by decide)) 3 rfl rfl hP hD hS hl.1 rfl rfl (Nat.le_of_ble_eq_true rfl) d_Grammar_one_129 (fun H locs hP hD hS => ?_)
        refine lv_aload_n hx hb d_Grammar_one_132 rfl (lv_at hl 0 rfl) ?_
        refine va_get (D := (dC, dI)) (ci := 7) (v := .ref (ad 3)) hx hb hts i_Grammar hown hK hP 7 rfl rfl 0 (by decide) (hts _ w_a2db652071) (fun _ h9 => h9) rfl d_Grammar_one_133 ?_
        refine lv_bipush (v := 41) hx hb d_Grammar_one_136 (by decide) ?_
        obtain ⟨u11, h11, hF⟩ := b1E hF
        refine callVV (As := [.int 41]) X (ct_Cursor_passClosing l dC dI ad cA H.size h11) lk_Grammar_68 (trm_go rfl rfl (by decide) (by decide)) 3 rfl rfl hP hD hS hl.1 rfl rfl (Nat.le_of_ble_eq_true rfl) d_Grammar_one_138 (fun H locs hP hD hS => ?_)
        refine lv_aload_n hx hb d_Grammar_one_141 rfl (lv_at hl 0 rfl) ?_
        refine va_get (D := (dC, dI)) (ci := 7) (v := .ref (ad 6)) hx hb hts i_Grammar hown hK hP 7 rfl rfl 3 (by decide) (hts _ w_72b36bc41d) (fun _ h9 => h9) rfl d_Grammar_one_142 ?_
        refine lv_bipush (v := 8) hx hb d_Grammar_one_145 (by decide) ?_
        refine lv_iconst (v := 0) hx hb d_Grammar_one_147 (by decide) ?_
        refine lv_iconst (v := 0) hx hb d_Grammar_one_148 (by decide) ?_
        obtain ⟨u12, h12, hF⟩ := b1E hF
        refine callVV (As := [.int 8, .int 0, .int 0]) X (ct_Program_add l dC dI ad cA H.size h12) lk_Grammar_86 (trm_go rfl rfl (by decide) (by decide)) 6 rfl rfl hP hD hS hl.1 rfl rfl (Nat.le_of_ble_eq_true rfl) d_Grammar_one_149 (fun H locs hP hD hS => ?_)
        refine lv_goto (tgt := 203) hx hb d_Grammar_one_152 (by decide) ?_
        cases hF
        exact leafV X hP hD hS d_Grammar_one_203
      · have hF := ifn hF c_8
        by_cases c_13 : r1 = 33
        · have hF := ifp hF c_13
          refine lv_lookup (tgt := 72) (off := 65) hx hb d_Grammar_one_7 (by decide) (by rw [c_13]; rfl) (by decide) ?_
          refine lv_aload_n hx hb d_Grammar_one_72 rfl (lv_at hl 0 rfl) ?_
          refine lv_aload_n hx hb d_Grammar_one_73 rfl (lv_at hl 0 rfl) ?_
          refine va_get (D := (dC, dI)) (ci := 7) (v := .ref (ad 3)) hx hb hts i_Grammar hown hK hP 7 rfl rfl 0 (by decide) (hts _ w_a2db652071) (fun _ h9 => h9) rfl d_Grammar_one_74 ?_
          obtain ⟨r14, h14, hF⟩ := b1E hF
          refine callVI (As := []) X (ct_Cursor_kind l dC dI ad cA H.size h14) lk_Grammar_44 (trm_go rfl rfl (by decide) (by decide)) 3 rfl rfl hP hD hS hl.1 rfl rfl (Nat.le_of_ble_eq_true rfl) d_Grammar_one_77 (fun H locs hP hD hS => ?_)
          obtain ⟨r15, u15, h15, hF⟩ := b2E hF
          refine callVV (As := [.int r14]) X (ih.2.2.2.2.2.2.2.2.2.2.2.2.1 dC dI ad cA H.size h15) lk_Grammar_160 (trm_gg (by decide)) 7 rfl rfl hP hD hS hl.1 rfl rfl (Nat.le_of_ble_eq_true rfl) d_Grammar_one_80 (fun H locs hP hD hS => ?_)
          refine lv_goto (tgt := 203) hx hb d_Grammar_one_83 (by decide) ?_
          cases hF
          exact leafV X hP hD hS d_Grammar_one_203
        · have hF := ifn hF c_13
          by_cases c_16 : r1 = 40
          · have hF := ifp hF c_16
            refine lv_lookup (tgt := 169) (off := 162) hx hb d_Grammar_one_7 (by decide) (by rw [c_16]; rfl) (by decide) ?_
            refine lv_aload_n hx hb d_Grammar_one_169 rfl (lv_at hl 0 rfl) ?_
            refine va_get (D := (dC, dI)) (ci := 7) (v := .ref (ad 3)) hx hb hts i_Grammar hown hK hP 7 rfl rfl 0 (by decide) (hts _ w_a2db652071) (fun _ h9 => h9) rfl d_Grammar_one_170 ?_
            refine lv_bipush (v := 40) hx hb d_Grammar_one_173 (by decide) ?_
            obtain ⟨u17, h17, hF⟩ := b1E hF
            refine callVV (As := [.int 40]) X (ct_Cursor_passOpening l dC dI ad cA H.size h17) lk_Grammar_61 (trm_go rfl rfl (by decide) (by decide)) 3 rfl rfl hP hD hS hl.1 rfl rfl (Nat.le_of_ble_eq_true rfl) d_Grammar_one_175 (fun H locs hP hD hS => ?_)
            refine lv_aload_n hx hb d_Grammar_one_178 rfl (lv_at hl 0 rfl) ?_
            refine lv_iconst (v := 1) hx hb d_Grammar_one_179 (by decide) ?_
            obtain ⟨r18, u18, h18, hF⟩ := b2E hF
            refine callVV (As := [.int 1]) X (ih.2.2.2.2.2.2.2.2.2.2.2.2.2.2.2.2 dC dI ad cA H.size h18) lk_Grammar_112 (trm_gg (by decide)) 7 rfl rfl hP hD hS hl.1 rfl rfl (Nat.le_of_ble_eq_true rfl) d_Grammar_one_180 (fun H locs hP hD hS => ?_)
            refine lv_aload_n hx hb d_Grammar_one_183 rfl (lv_at hl 0 rfl) ?_
            refine va_get (D := (dC, dI)) (ci := 7) (v := .ref (ad 3)) hx hb hts i_Grammar hown hK hP 7 rfl rfl 0 (by decide) (hts _ w_a2db652071) (fun _ h9 => h9) rfl d_Grammar_one_184 ?_
            refine lv_bipush (v := 41) hx hb d_Grammar_one_187 (by decide) ?_
            obtain ⟨u19, h19, hF⟩ := b1E hF
            refine callVV (As := [.int 41]) X (ct_Cursor_passClosing l dC dI ad cA H.size h19) lk_Grammar_68 (trm_go rfl rfl (by decide) (by decide)) 3 rfl rfl hP hD hS hl.1 rfl rfl (Nat.le_of_ble_eq_true rfl) d_Grammar_one_189 (fun H locs hP hD hS => ?_)
            refine lv_goto (tgt := 203) hx hb d_Grammar_one_192 (by decide) ?_
            cases hF
            exact leafV X hP hD hS d_Grammar_one_203
          · have hF := ifn hF c_16
            by_cases c_20 : r1 = 45
            · have hF := ifp hF c_20
              refine lv_lookup (tgt := 72) (off := 65) hx hb d_Grammar_one_7 (by decide) (by rw [c_20]; rfl) (by decide) ?_
              refine lv_aload_n hx hb d_Grammar_one_72 rfl (lv_at hl 0 rfl) ?_
              refine lv_aload_n hx hb d_Grammar_one_73 rfl (lv_at hl 0 rfl) ?_
              refine va_get (D := (dC, dI)) (ci := 7) (v := .ref (ad 3)) hx hb hts i_Grammar hown hK hP 7 rfl rfl 0 (by decide) (hts _ w_a2db652071) (fun _ h9 => h9) rfl d_Grammar_one_74 ?_
              obtain ⟨r21, h21, hF⟩ := b1E hF
              refine callVI (As := []) X (ct_Cursor_kind l dC dI ad cA H.size h21) lk_Grammar_44 (trm_go rfl rfl (by decide) (by decide)) 3 rfl rfl hP hD hS hl.1 rfl rfl (Nat.le_of_ble_eq_true rfl) d_Grammar_one_77 (fun H locs hP hD hS => ?_)
              obtain ⟨r22, u22, h22, hF⟩ := b2E hF
              refine callVV (As := [.int r21]) X (ih.2.2.2.2.2.2.2.2.2.2.2.2.1 dC dI ad cA H.size h22) lk_Grammar_160 (trm_gg (by decide)) 7 rfl rfl hP hD hS hl.1 rfl rfl (Nat.le_of_ble_eq_true rfl) d_Grammar_one_80 (fun H locs hP hD hS => ?_)
              refine lv_goto (tgt := 203) hx hb d_Grammar_one_83 (by decide) ?_
              cases hF
              exact leafV X hP hD hS d_Grammar_one_203
            · have hF := ifn hF c_20
              by_cases c_23 : r1 = 126
              · have hF := ifp hF c_23
                refine lv_lookup (tgt := 72) (off := 65) hx hb d_Grammar_one_7 (by decide) (by rw [c_23]; rfl) (by decide) ?_
                refine lv_aload_n hx hb d_Grammar_one_72 rfl (lv_at hl 0 rfl) ?_
                refine lv_aload_n hx hb d_Grammar_one_73 rfl (lv_at hl 0 rfl) ?_
                refine va_get (D := (dC, dI)) (ci := 7) (v := .ref (ad 3)) hx hb hts i_Grammar hown hK hP 7 rfl rfl 0 (by decide) (hts _ w_a2db652071) (fun _ h9 => h9) rfl d_Grammar_one_74 ?_
                obtain ⟨r24, h24, hF⟩ := b1E hF
                refine callVI (As := []) X (ct_Cursor_kind l dC dI ad cA H.size h24) lk_Grammar_44 (trm_go rfl rfl (by decide) (by decide)) 3 rfl rfl hP hD hS hl.1 rfl rfl (Nat.le_of_ble_eq_true rfl) d_Grammar_one_77 (fun H locs hP hD hS => ?_)
                obtain ⟨r25, u25, h25, hF⟩ := b2E hF
                refine callVV (As := [.int r24]) X (ih.2.2.2.2.2.2.2.2.2.2.2.2.1 dC dI ad cA H.size h25) lk_Grammar_160 (trm_gg (by decide)) 7 rfl rfl hP hD hS hl.1 rfl rfl (Nat.le_of_ble_eq_true rfl) d_Grammar_one_80 (fun H locs hP hD hS => ?_)
                refine lv_goto (tgt := 203) hx hb d_Grammar_one_83 (by decide) ?_
                cases hF
                exact leafV X hP hD hS d_Grammar_one_203
              · have hF := ifn hF c_23
                refine lv_lookup (tgt := 195) (off := 188) hx hb d_Grammar_one_7 (by decide) (by show Op.lookupswitch.offset [(1, 148), (2, 79), (8, 107), (33, 65), (40, 162), (45, 65), (126, 65)] 188 _ = _; rw [lv_osw (a := 1) c_2 (by decide), lv_osw (a := 2) c_4 (by decide), lv_osw (a := 8) c_8 (by decide), lv_osw (a := 33) c_13 (by decide), lv_osw (a := 40) c_16 (by decide), lv_osw (a := 45) c_20 (by decide), lv_osw (a := 126) c_23 (by decide)]; rfl) (by decide) ?_
                refine lv_aload_n hx hb d_Grammar_one_195 rfl (lv_at hl 0 rfl) ?_
                refine va_get (D := (dC, dI)) (ci := 7) (v := .ref (ad 3)) hx hb hts i_Grammar hown hK hP 7 rfl rfl 0 (by decide) (hts _ w_a2db652071) (fun _ h9 => h9) rfl d_Grammar_one_196 ?_
                refine lv_iconst (v := 2) hx hb d_Grammar_one_199 (by decide) ?_
                obtain ⟨u26, h26, hF⟩ := b1E hF
                refine callVV (As := [.int 2]) X (ct_Cursor_pass l dC dI ad cA H.size h26) lk_Grammar_48 (trm_go rfl rfl (by decide) (by decide)) 3 rfl rfl hP hD hS hl.1 rfl rfl (Nat.le_of_ble_eq_true rfl) d_Grammar_one_200 (fun H locs hP hD hS => ?_)
                cases hF
                exact leafV X hP hD hS d_Grammar_one_203
theorem d_Grammar_otherwise_0 : decode b_Grammar_otherwise 0 = .ok (.aload_n 0, 1) := by decide +kernel
theorem d_Grammar_otherwise_1 : decode b_Grammar_otherwise 1 = .ok (.getfield 9, 3) := by decide +kernel
theorem d_Grammar_otherwise_4 : decode b_Grammar_otherwise 4 = .ok (.iconst 5, 1) := by decide +kernel
theorem d_Grammar_otherwise_5 : decode b_Grammar_otherwise 5 = .ok (.invokevirtual 61, 3) := by decide +kernel
theorem d_Grammar_otherwise_8 : decode b_Grammar_otherwise 8 = .ok (.aload_n 0, 1) := by decide +kernel
theorem d_Grammar_otherwise_9 : decode b_Grammar_otherwise 9 = .ok (.getfield 23, 3) := by decide +kernel
theorem d_Grammar_otherwise_12 : decode b_Grammar_otherwise 12 = .ok (.bipush 16, 2) := by decide +kernel
theorem d_Grammar_otherwise_14 : decode b_Grammar_otherwise 14 = .ok (.invokevirtual 127, 3) := by decide +kernel
theorem d_Grammar_otherwise_17 : decode b_Grammar_otherwise 17 = .ok (.istore_n 2, 1) := by decide +kernel
theorem d_Grammar_otherwise_18 : decode b_Grammar_otherwise 18 = .ok (.aload_n 0, 1) := by decide +kernel
theorem d_Grammar_otherwise_19 : decode b_Grammar_otherwise 19 = .ok (.getfield 23, 3) := by decide +kernel
theorem d_Grammar_otherwise_22 : decode b_Grammar_otherwise 22 = .ok (.iload_n 1, 1) := by decide +kernel
theorem d_Grammar_otherwise_23 : decode b_Grammar_otherwise 23 = .ok (.invokevirtual 133, 3) := by decide +kernel
theorem d_Grammar_otherwise_26 : decode b_Grammar_otherwise 26 = .ok (.aload_n 0, 1) := by decide +kernel
theorem d_Grammar_otherwise_27 : decode b_Grammar_otherwise 27 = .ok (.iconst 0, 1) := by decide +kernel
theorem d_Grammar_otherwise_28 : decode b_Grammar_otherwise 28 = .ok (.invokevirtual 96, 3) := by decide +kernel
theorem d_Grammar_otherwise_31 : decode b_Grammar_otherwise 31 = .ok (.aload_n 0, 1) := by decide +kernel
theorem d_Grammar_otherwise_32 : decode b_Grammar_otherwise 32 = .ok (.getfield 9, 3) := by decide +kernel
theorem d_Grammar_otherwise_35 : decode b_Grammar_otherwise 35 = .ok (.invokevirtual 124, 3) := by decide +kernel
theorem d_Grammar_otherwise_38 : decode b_Grammar_otherwise 38 = .ok (.iload_n 2, 1) := by decide +kernel
theorem d_Grammar_otherwise_39 : decode b_Grammar_otherwise 39 = .ok (.ireturn, 1) := by decide +kernel
def tGrammar_otherwise (rec : Nat → St → Int32 → Int32 → Option (Int32 × St)) (σ : St) (a1 : Int32) : Option (Int32 × St) := b1 (tCursor_passOpening σ 5) (fun u1 => b2 (tProgram_addJump u1 16) (fun r2 u2 => b1 (tProgram_land u2 a1) (fun u3 => b2 (rec 14 u3 0 0) (fun r4 u4 => b1 (tCursor_close u4) (fun u5 => some (r2, u5))))))
set_option maxHeartbeats 4000000 in
set_option maxRecDepth 100000 in
theorem ct_Grammar_otherwise (l : Launch) (dC : Nat → ClassId) (dI : Nat → Nat → Nat) (ad : Nat → Nat) (cA : Nat → ClassId) (sz : Nat) {σ : St} {a1 : Int32} {r : Int32} {σ' : St} {d : Nat} {rec : Nat → St → Int32 → Int32 → Option (Int32 × St)} (ih : tIH l d rec) (hF : tGrammar_otherwise rec σ a1 = some (r, σ')) : MI l y_Grammar_otherwise b_Grammar_otherwise 3 (some .int) (trm (d + 1)) (dC, dI) (ttys cA) ad (tcw ad cA) [.ref (ad 7), .int a1] σ sz r σ' := by
  refine startM (own := "TinyForge$Grammar") (Qc := fun A => QI (dC, dI) (ttys cA) (tcw ad cA) A r σ') rfl rfl (Nat.le_of_ble_eq_true rfl) ?_
  intro p e s m below meth c A H locs ls X hP hD hS hl
  have hl : lv_has ls 3 [(0, .ref (ad 7)), (1, .int a1)] := hl
  obtain ⟨hx, hb, hr, hml, hown, hlocks, hts, hA, hK, hZ⟩ := id X
  unfold tGrammar_otherwise at hF
  refine lv_aload_n hx hb d_Grammar_otherwise_0 rfl (lv_at hl 0 rfl) ?_
  refine va_get (D := (dC, dI)) (ci := 7) (v := .ref (ad 3)) hx hb hts i_Grammar hown hK hP 7 rfl rfl 0 (by decide) (hts _ w_a2db652071) (fun _ h9 => h9) rfl d_Grammar_otherwise_1 ?_
  refine lv_iconst (v := 5) hx hb d_Grammar_otherwise_4 (by decide) ?_
  obtain ⟨u1, h1, hF⟩ := b1E hF
  refine callVV (As := [.int 5]) X (ct_Cursor_passOpening l dC dI ad cA H.size h1) lk_Grammar_61 (trm_go rfl rfl (by decide) (by decide)) 3 rfl rfl hP hD hS hl.1 rfl rfl (Nat.le_of_ble_eq_true rfl) d_Grammar_otherwise_5 (fun H locs hP hD hS => ?_)
  refine lv_aload_n hx hb d_Grammar_otherwise_8 rfl (lv_at hl 0 rfl) ?_
  refine va_get (D := (dC, dI)) (ci := 7) (v := .ref (ad 6)) hx hb hts i_Grammar hown hK hP 7 rfl rfl 3 (by decide) (hts _ w_72b36bc41d) (fun _ h9 => h9) rfl d_Grammar_otherwise_9 ?_
  refine lv_bipush (v := 16) hx hb d_Grammar_otherwise_12 (by decide) ?_
  obtain ⟨r2, u2, h2, hF⟩ := b2E hF
  refine callVI (As := [.int 16]) X (ct_Program_addJump l dC dI ad cA H.size h2) lk_Grammar_127 (trm_go rfl rfl (by decide) (by decide)) 6 rfl rfl hP hD hS hl.1 rfl rfl (Nat.le_of_ble_eq_true rfl) d_Grammar_otherwise_14 (fun H locs hP hD hS => ?_)
  refine lv_istore_n (lv' := [(2, .int r2), (0, .ref (ad 7)), (1, .int a1)]) hx hb d_Grammar_otherwise_17 rfl hl (by decide) rfl (fun ls hl => ?_)
  refine lv_aload_n hx hb d_Grammar_otherwise_18 rfl (lv_at hl 1 rfl) ?_
  refine va_get (D := (dC, dI)) (ci := 7) (v := .ref (ad 6)) hx hb hts i_Grammar hown hK hP 7 rfl rfl 3 (by decide) (hts _ w_72b36bc41d) (fun _ h9 => h9) rfl d_Grammar_otherwise_19 ?_
  refine lv_iload_n hx hb d_Grammar_otherwise_22 rfl (lv_at hl 2 rfl) ?_
  obtain ⟨u3, h3, hF⟩ := b1E hF
  refine callVV (As := [.int a1]) X (ct_Program_land l dC dI ad cA H.size h3) lk_Grammar_133 (trm_go rfl rfl (by decide) (by decide)) 6 rfl rfl hP hD hS hl.1 rfl rfl (Nat.le_of_ble_eq_true rfl) d_Grammar_otherwise_23 (fun H locs hP hD hS => ?_)
  refine lv_aload_n hx hb d_Grammar_otherwise_26 rfl (lv_at hl 1 rfl) ?_
  refine lv_iconst (v := 0) hx hb d_Grammar_otherwise_27 (by decide) ?_
  obtain ⟨r4, u4, h4, hF⟩ := b2E hF
  refine callVV (As := [.int 0]) X (ih.2.2.2.2.2.2.2.2.2.2.2.2.2.2.1 dC dI ad cA H.size h4) lk_Grammar_96 (trm_gg (by decide)) 7 rfl rfl hP hD hS hl.1 rfl rfl (Nat.le_of_ble_eq_true rfl) d_Grammar_otherwise_28 (fun H locs hP hD hS => ?_)
  refine lv_aload_n hx hb d_Grammar_otherwise_31 rfl (lv_at hl 1 rfl) ?_
  refine va_get (D := (dC, dI)) (ci := 7) (v := .ref (ad 3)) hx hb hts i_Grammar hown hK hP 7 rfl rfl 0 (by decide) (hts _ w_a2db652071) (fun _ h9 => h9) rfl d_Grammar_otherwise_32 ?_
  obtain ⟨u5, h5, hF⟩ := b1E hF
  refine callVV (As := []) X (ct_Cursor_close l dC dI ad cA H.size h5) lk_Grammar_124 (trm_go rfl rfl (by decide) (by decide)) 3 rfl rfl hP hD hS hl.1 rfl rfl (Nat.le_of_ble_eq_true rfl) d_Grammar_otherwise_35 (fun H locs hP hD hS => ?_)
  refine lv_iload_n hx hb d_Grammar_otherwise_38 rfl (lv_at hl 0 rfl) ?_
  cases hF
  exact leafI X hP hD hS d_Grammar_otherwise_39
theorem d_Grammar_sign_0 : decode b_Grammar_sign 0 = .ok (.aload_n 0, 1) := by decide +kernel
theorem d_Grammar_sign_1 : decode b_Grammar_sign 1 = .ok (.getfield 9, 3) := by decide +kernel
theorem d_Grammar_sign_4 : decode b_Grammar_sign 4 = .ok (.iload_n 1, 1) := by decide +kernel
theorem d_Grammar_sign_5 : decode b_Grammar_sign 5 = .ok (.invokevirtual 61, 3) := by decide +kernel
theorem d_Grammar_sign_8 : decode b_Grammar_sign 8 = .ok (.iload_n 1, 1) := by decide +kernel
theorem d_Grammar_sign_9 : decode b_Grammar_sign 9 = .ok (.sipush 380, 3) := by decide +kernel
theorem d_Grammar_sign_12 : decode b_Grammar_sign 12 = .ok (.if_icmp .eq 10, 3) := by decide +kernel
theorem d_Grammar_sign_15 : decode b_Grammar_sign 15 = .ok (.iload_n 1, 1) := by decide +kernel
theorem d_Grammar_sign_16 : decode b_Grammar_sign 16 = .ok (.sipush 294, 3) := by decide +kernel
theorem d_Grammar_sign_19 : decode b_Grammar_sign 19 = .ok (.if_icmp .ne 44, 3) := by decide +kernel
theorem d_Grammar_sign_22 : decode b_Grammar_sign 22 = .ok (.aload_n 0, 1) := by decide +kernel
theorem d_Grammar_sign_23 : decode b_Grammar_sign 23 = .ok (.getfield 23, 3) := by decide +kernel
theorem d_Grammar_sign_26 : decode b_Grammar_sign 26 = .ok (.iload_n 1, 1) := by decide +kernel
theorem d_Grammar_sign_27 : decode b_Grammar_sign 27 = .ok (.invokevirtual 127, 3) := by decide +kernel
theorem d_Grammar_sign_30 : decode b_Grammar_sign 30 = .ok (.istore_n 2, 1) := by decide +kernel
theorem d_Grammar_sign_31 : decode b_Grammar_sign 31 = .ok (.aload_n 0, 1) := by decide +kernel
theorem d_Grammar_sign_32 : decode b_Grammar_sign 32 = .ok (.iload_n 1, 1) := by decide +kernel
theorem d_Grammar_sign_33 : decode b_Grammar_sign 33 = .ok (.invokestatic 154, 3) := by decide +kernel
theorem d_Grammar_sign_36 : decode b_Grammar_sign 36 = .ok (.iconst 1, 1) := by decide +kernel
theorem d_Grammar_sign_37 : decode b_Grammar_sign 37 = .ok (.iadd, 1) := by decide +kernel
theorem d_Grammar_sign_38 : decode b_Grammar_sign 38 = .ok (.invokevirtual 112, 3) := by decide +kernel
theorem d_Grammar_sign_41 : decode b_Grammar_sign 41 = .ok (.aload_n 0, 1) := by decide +kernel
theorem d_Grammar_sign_42 : decode b_Grammar_sign 42 = .ok (.getfield 23, 3) := by decide +kernel
theorem d_Grammar_sign_45 : decode b_Grammar_sign 45 = .ok (.bipush 18, 2) := by decide +kernel
theorem d_Grammar_sign_47 : decode b_Grammar_sign 47 = .ok (.iconst 0, 1) := by decide +kernel
theorem d_Grammar_sign_48 : decode b_Grammar_sign 48 = .ok (.iconst 0, 1) := by decide +kernel
theorem d_Grammar_sign_49 : decode b_Grammar_sign 49 = .ok (.invokevirtual 86, 3) := by decide +kernel
theorem d_Grammar_sign_52 : decode b_Grammar_sign 52 = .ok (.aload_n 0, 1) := by decide +kernel
theorem d_Grammar_sign_53 : decode b_Grammar_sign 53 = .ok (.getfield 23, 3) := by decide +kernel
theorem d_Grammar_sign_56 : decode b_Grammar_sign 56 = .ok (.iload_n 2, 1) := by decide +kernel
theorem d_Grammar_sign_57 : decode b_Grammar_sign 57 = .ok (.invokevirtual 133, 3) := by decide +kernel
theorem d_Grammar_sign_60 : decode b_Grammar_sign 60 = .ok (.goto 23, 3) := by decide +kernel
theorem d_Grammar_sign_63 : decode b_Grammar_sign 63 = .ok (.aload_n 0, 1) := by decide +kernel
theorem d_Grammar_sign_64 : decode b_Grammar_sign 64 = .ok (.iload_n 1, 1) := by decide +kernel
theorem d_Grammar_sign_65 : decode b_Grammar_sign 65 = .ok (.invokestatic 154, 3) := by decide +kernel
theorem d_Grammar_sign_68 : decode b_Grammar_sign 68 = .ok (.iconst 1, 1) := by decide +kernel
theorem d_Grammar_sign_69 : decode b_Grammar_sign 69 = .ok (.iadd, 1) := by decide +kernel
theorem d_Grammar_sign_70 : decode b_Grammar_sign 70 = .ok (.invokevirtual 112, 3) := by decide +kernel
theorem d_Grammar_sign_73 : decode b_Grammar_sign 73 = .ok (.aload_n 0, 1) := by decide +kernel
theorem d_Grammar_sign_74 : decode b_Grammar_sign 74 = .ok (.getfield 23, 3) := by decide +kernel
theorem d_Grammar_sign_77 : decode b_Grammar_sign 77 = .ok (.iload_n 1, 1) := by decide +kernel
theorem d_Grammar_sign_78 : decode b_Grammar_sign 78 = .ok (.iconst 0, 1) := by decide +kernel
theorem d_Grammar_sign_79 : decode b_Grammar_sign 79 = .ok (.iconst 0, 1) := by decide +kernel
theorem d_Grammar_sign_80 : decode b_Grammar_sign 80 = .ok (.invokevirtual 86, 3) := by decide +kernel
theorem d_Grammar_sign_83 : decode b_Grammar_sign 83 = .ok (.aload_n 0, 1) := by decide +kernel
theorem d_Grammar_sign_84 : decode b_Grammar_sign 84 = .ok (.getfield 9, 3) := by decide +kernel
theorem d_Grammar_sign_87 : decode b_Grammar_sign 87 = .ok (.invokevirtual 124, 3) := by decide +kernel
theorem d_Grammar_sign_90 : decode b_Grammar_sign 90 = .ok (.return_, 1) := by decide +kernel
def tGrammar_sign_b1 (rec : Nat → St → Int32 → Int32 → Option (Int32 × St)) (k : Nat → St → Int32 → Option (Int32 × St)) (σ : St) (x1 : Int32) : Option (Int32 × St) := b2 (tProgram_addJump σ x1) (fun r8 u8 => b1 (tGrammar_strengthOf u8 x1) (fun r9 => b2 (rec 16 u8 (r9 + 1) 0) (fun r10 u10 => b1 (tProgram_add u10 18 0 0) (fun u11 => b1 (tProgram_land u11 r8) (fun u12 => b1 (tCursor_close u12) (fun u13 => some (0, u13)))))))
def tGrammar_sign_L (rec : Nat → St → Int32 → Int32 → Option (Int32 × St)) : Nat → Nat → St → Int32 → Option (Int32 × St)
  | 0, _, _, _ => none
  | n + 1, lab, σ, x1 => match lab with
    | 1 => tGrammar_sign_b1 rec (tGrammar_sign_L rec n) σ x1
    | _ => none
def tGrammar_sign (rec : Nat → St → Int32 → Int32 → Option (Int32 × St)) (σ : St) (a1 : Int32) : Option (Int32 × St) := b1 (tCursor_passOpening σ a1) (fun u1 => if a1 = 380 then tGrammar_sign_L rec 2000 1 u1 a1 else if a1 = 294 then tGrammar_sign_L rec 2000 1 u1 a1 else b1 (tGrammar_strengthOf u1 a1) (fun r4 => b2 (rec 16 u1 (r4 + 1) 0) (fun r5 u5 => b1 (tProgram_add u5 a1 0 0) (fun u6 => b1 (tCursor_close u6) (fun u7 => some (0, u7))))))
set_option maxHeartbeats 4000000 in
set_option maxRecDepth 100000 in
theorem tGrammar_sign_blk {p : Program} {e : Env} {s : State} {m : MethodId} {args : Array Value} {below : List Frame} {meth : Method} {c : Code} {A : Nat → Prop} (l : Launch) (dC : Nat → ClassId) (dI : Nat → Nat → Nat) (ad : Nat → Nat) (cA : Nat → ClassId) {r : Int32} {σ' : St} {d : Nat} {rec : Nat → St → Int32 → Int32 → Option (Int32 × St)} (ih : tIH l d rec) (X : Cx p s m args meth c b_Grammar_sign 3 none "TinyForge$Grammar" (dC, dI) (ttys cA) ad A) : ∀ n : Nat, (∀ (σ : St) (x1 : Int32) (H : Heap) (locs : List Loc) (ls : Array Slot), tGrammar_sign_L rec n 1 σ x1 = some (r, σ') → va_P (dC, dI) vwCl (tcw ad cA σ) H → va_D A (tcw ad cA σ) → va_S A s.heap H locs → lv_has ls 3 [(0, .ref (ad 7)), (1, .int x1)] → W p l e (trm (d + 1)) s m args below meth c H locs 0 0 (MQ below (QV (dC, dI) (ttys cA) (tcw ad cA) A σ') args s 0 0 A) (F0 m 22 ls [])) := by
  obtain ⟨hx, hb, hr, hml, hown, hlocks, hts, hA, hK, hZ⟩ := id X
  intro n
  induction n with
  | zero => exact (fun σ x1 H locs ls hF => by cases hF)
  | succ n ihn =>
    refine fun σ x1 H locs ls hF hP hD hS hl => ?_
    · have hF : tGrammar_sign_b1 rec (tGrammar_sign_L rec n) σ x1 = some (r, σ') := hF
      unfold tGrammar_sign_b1 at hF
      refine lv_aload_n hx hb d_Grammar_sign_22 rfl (lv_at hl 0 rfl) ?_
      refine va_get (D := (dC, dI)) (ci := 7) (v := .ref (ad 6)) hx hb hts i_Grammar hown hK hP 7 rfl rfl 3 (by decide) (hts _ w_72b36bc41d) (fun _ h9 => h9) rfl d_Grammar_sign_23 ?_
      refine lv_iload_n hx hb d_Grammar_sign_26 rfl (lv_at hl 1 rfl) ?_
      obtain ⟨r8, u8, h8, hF⟩ := b2E hF
      refine callVI (As := [.int x1]) X (ct_Program_addJump l dC dI ad cA H.size h8) lk_Grammar_127 (trm_go rfl rfl (by decide) (by decide)) 6 rfl rfl hP hD hS hl.1 rfl rfl (Nat.le_of_ble_eq_true rfl) d_Grammar_sign_27 (fun H locs hP hD hS => ?_)
      refine lv_istore_n (lv' := [(2, .int r8), (0, .ref (ad 7)), (1, .int x1)]) hx hb d_Grammar_sign_30 rfl hl (by decide) rfl (fun ls hl => ?_)
      refine lv_aload_n hx hb d_Grammar_sign_31 rfl (lv_at hl 1 rfl) ?_
      refine lv_iload_n hx hb d_Grammar_sign_32 rfl (lv_at hl 2 rfl) ?_
      obtain ⟨r9, h9, hF⟩ := b1E hF
      refine callSI (As := [.int x1]) X (ct_Grammar_strengthOf l dC dI ad cA H.size h9) lk_Grammar_154 (trm_go rfl rfl (by decide) (by decide)) hP hD hS hl.1 rfl rfl (Nat.le_of_ble_eq_true rfl) d_Grammar_sign_33 (fun H locs hP hD hS => ?_)
      refine lv_iconst (v := 1) hx hb d_Grammar_sign_36 (by decide) ?_
      refine lv_iadd hx hb d_Grammar_sign_37 ?_
      obtain ⟨r10, u10, h10, hF⟩ := b2E hF
      refine callVV (As := [.int (r9 + 1)]) X (ih.2.2.2.2.2.2.2.2.2.2.2.2.2.2.2.2 dC dI ad cA H.size h10) lk_Grammar_112 (trm_gg (by decide)) 7 rfl rfl hP hD hS hl.1 rfl rfl (Nat.le_of_ble_eq_true rfl) d_Grammar_sign_38 (fun H locs hP hD hS => ?_)
      refine lv_aload_n hx hb d_Grammar_sign_41 rfl (lv_at hl 1 rfl) ?_
      refine va_get (D := (dC, dI)) (ci := 7) (v := .ref (ad 6)) hx hb hts i_Grammar hown hK hP 7 rfl rfl 3 (by decide) (hts _ w_72b36bc41d) (fun _ h9 => h9) rfl d_Grammar_sign_42 ?_
      refine lv_bipush (v := 18) hx hb d_Grammar_sign_45 (by decide) ?_
      refine lv_iconst (v := 0) hx hb d_Grammar_sign_47 (by decide) ?_
      refine lv_iconst (v := 0) hx hb d_Grammar_sign_48 (by decide) ?_
      obtain ⟨u11, h11, hF⟩ := b1E hF
      refine callVV (As := [.int 18, .int 0, .int 0]) X (ct_Program_add l dC dI ad cA H.size h11) lk_Grammar_86 (trm_go rfl rfl (by decide) (by decide)) 6 rfl rfl hP hD hS hl.1 rfl rfl (Nat.le_of_ble_eq_true rfl) d_Grammar_sign_49 (fun H locs hP hD hS => ?_)
      refine lv_aload_n hx hb d_Grammar_sign_52 rfl (lv_at hl 1 rfl) ?_
      refine va_get (D := (dC, dI)) (ci := 7) (v := .ref (ad 6)) hx hb hts i_Grammar hown hK hP 7 rfl rfl 3 (by decide) (hts _ w_72b36bc41d) (fun _ h9 => h9) rfl d_Grammar_sign_53 ?_
      refine lv_iload_n hx hb d_Grammar_sign_56 rfl (lv_at hl 0 rfl) ?_
      obtain ⟨u12, h12, hF⟩ := b1E hF
      refine callVV (As := [.int r8]) X (ct_Program_land l dC dI ad cA H.size h12) lk_Grammar_133 (trm_go rfl rfl (by decide) (by decide)) 6 rfl rfl hP hD hS hl.1 rfl rfl (Nat.le_of_ble_eq_true rfl) d_Grammar_sign_57 (fun H locs hP hD hS => ?_)
      refine lv_goto (tgt := 83) hx hb d_Grammar_sign_60 (by decide) ?_
      refine lv_aload_n hx hb d_Grammar_sign_83 rfl (lv_at hl 1 rfl) ?_
      refine va_get (D := (dC, dI)) (ci := 7) (v := .ref (ad 3)) hx hb hts i_Grammar hown hK hP 7 rfl rfl 0 (by decide) (hts _ w_a2db652071) (fun _ h9 => h9) rfl d_Grammar_sign_84 ?_
      obtain ⟨u13, h13, hF⟩ := b1E hF
      refine callVV (As := []) X (ct_Cursor_close l dC dI ad cA H.size h13) lk_Grammar_124 (trm_go rfl rfl (by decide) (by decide)) 3 rfl rfl hP hD hS hl.1 rfl rfl (Nat.le_of_ble_eq_true rfl) d_Grammar_sign_87 (fun H locs hP hD hS => ?_)
      cases hF
      exact leafV X hP hD hS d_Grammar_sign_90
set_option maxHeartbeats 4000000 in
set_option maxRecDepth 100000 in
theorem ct_Grammar_sign (l : Launch) (dC : Nat → ClassId) (dI : Nat → Nat → Nat) (ad : Nat → Nat) (cA : Nat → ClassId) (sz : Nat) {σ : St} {a1 : Int32} {r : Int32} {σ' : St} {d : Nat} {rec : Nat → St → Int32 → Int32 → Option (Int32 × St)} (ih : tIH l d rec) (hF : tGrammar_sign rec σ a1 = some (r, σ')) : MV l y_Grammar_sign b_Grammar_sign 3 none (trm (d + 1)) (dC, dI) (ttys cA) ad (tcw ad cA) [.ref (ad 7), .int a1] σ sz σ' := by
  refine startM (own := "TinyForge$Grammar") (Qc := fun A => QV (dC, dI) (ttys cA) (tcw ad cA) A σ') rfl rfl (Nat.le_of_ble_eq_true rfl) ?_
  intro p e s m below meth c A H locs ls X hP hD hS hl
  have hl : lv_has ls 3 [(0, .ref (ad 7)), (1, .int a1)] := hl
  obtain ⟨hx, hb, hr, hml, hown, hlocks, hts, hA, hK, hZ⟩ := id X
  unfold tGrammar_sign at hF
  refine lv_aload_n hx hb d_Grammar_sign_0 rfl (lv_at hl 0 rfl) ?_
  refine va_get (D := (dC, dI)) (ci := 7) (v := .ref (ad 3)) hx hb hts i_Grammar hown hK hP 7 rfl rfl 0 (by decide) (hts _ w_a2db652071) (fun _ h9 => h9) rfl d_Grammar_sign_1 ?_
  refine lv_iload_n hx hb d_Grammar_sign_4 rfl (lv_at hl 1 rfl) ?_
  obtain ⟨u1, h1, hF⟩ := b1E hF
  refine callVV (As := [.int a1]) X (ct_Cursor_passOpening l dC dI ad cA H.size h1) lk_Grammar_61 (trm_go rfl rfl (by decide) (by decide)) 3 rfl rfl hP hD hS hl.1 rfl rfl (Nat.le_of_ble_eq_true rfl) d_Grammar_sign_5 (fun H locs hP hD hS => ?_)
  refine lv_iload_n hx hb d_Grammar_sign_8 rfl (lv_at hl 1 rfl) ?_
  refine lv_sipush (v := 380) hx hb d_Grammar_sign_9 (by decide) ?_
  refine lv_icmp_eq (tgt := 22) hx hb d_Grammar_sign_12 (by decide) (fun c_2 => ?_) (fun c_2 => ?_)
  · have hF := ifp hF c_2
    exact (tGrammar_sign_blk l dC dI ad cA ih X 2000) u1 a1 H locs ls hF hP hD hS (lv_sub hl [0, 1] rfl)
  · have hF := ifn hF c_2
    refine lv_iload_n hx hb d_Grammar_sign_15 rfl (lv_at hl 1 rfl) ?_
    refine lv_sipush (v := 294) hx hb d_Grammar_sign_16 (by decide) ?_
    refine lv_icmp_ne (tgt := 63) hx hb d_Grammar_sign_19 (by decide) (fun c_3 => ?_) (fun c_3 => ?_)
    · have hF := ifn hF c_3
      refine lv_aload_n hx hb d_Grammar_sign_63 rfl (lv_at hl 0 rfl) ?_
      refine lv_iload_n hx hb d_Grammar_sign_64 rfl (lv_at hl 1 rfl) ?_
      obtain ⟨r4, h4, hF⟩ := b1E hF
      refine callSI (As := [.int a1]) X (ct_Grammar_strengthOf l dC dI ad cA H.size h4) lk_Grammar_154 (trm_go rfl rfl (by decide) (by decide)) hP hD hS hl.1 rfl rfl (Nat.le_of_ble_eq_true rfl) d_Grammar_sign_65 (fun H locs hP hD hS => ?_)
      refine lv_iconst (v := 1) hx hb d_Grammar_sign_68 (by decide) ?_
      refine lv_iadd hx hb d_Grammar_sign_69 ?_
      obtain ⟨r5, u5, h5, hF⟩ := b2E hF
      refine callVV (As := [.int (r4 + 1)]) X (ih.2.2.2.2.2.2.2.2.2.2.2.2.2.2.2.2 dC dI ad cA H.size h5) lk_Grammar_112 (trm_gg (by decide)) 7 rfl rfl hP hD hS hl.1 rfl rfl (Nat.le_of_ble_eq_true rfl) d_Grammar_sign_70 (fun H locs hP hD hS => ?_)
      refine lv_aload_n hx hb d_Grammar_sign_73 rfl (lv_at hl 0 rfl) ?_
      refine va_get (D := (dC, dI)) (ci := 7) (v := .ref (ad 6)) hx hb hts i_Grammar hown hK hP 7 rfl rfl 3 (by decide) (hts _ w_72b36bc41d) (fun _ h9 => h9) rfl d_Grammar_sign_74 ?_
      refine lv_iload_n hx hb d_Grammar_sign_77 rfl (lv_at hl 1 rfl) ?_
      refine lv_iconst (v := 0) hx hb d_Grammar_sign_78 (by decide) ?_
      refine lv_iconst (v := 0) hx hb d_Grammar_sign_79 (by decide) ?_
      obtain ⟨u6, h6, hF⟩ := b1E hF
      refine callVV (As := [.int a1, .int 0, .int 0]) X (ct_Program_add l dC dI ad cA H.size h6) lk_Grammar_86 (trm_go rfl rfl (by decide) (by decide)) 6 rfl rfl hP hD hS hl.1 rfl rfl (Nat.le_of_ble_eq_true rfl) d_Grammar_sign_80 (fun H locs hP hD hS => ?_)
      refine lv_aload_n hx hb d_Grammar_sign_83 rfl (lv_at hl 0 rfl) ?_
      refine va_get (D := (dC, dI)) (ci := 7) (v := .ref (ad 3)) hx hb hts i_Grammar hown hK hP 7 rfl rfl 0 (by decide) (hts _ w_a2db652071) (fun _ h9 => h9) rfl d_Grammar_sign_84 ?_
      obtain ⟨u7, h7, hF⟩ := b1E hF
      refine callVV (As := []) X (ct_Cursor_close l dC dI ad cA H.size h7) lk_Grammar_124 (trm_go rfl rfl (by decide) (by decide)) 3 rfl rfl hP hD hS hl.1 rfl rfl (Nat.le_of_ble_eq_true rfl) d_Grammar_sign_87 (fun H locs hP hD hS => ?_)
      cases hF
      exact leafV X hP hD hS d_Grammar_sign_90
    · have hF := ifp hF c_3
      exact (tGrammar_sign_blk l dC dI ad cA ih X 2000) u1 a1 H locs ls hF hP hD hS (lv_sub hl [0, 1] rfl)
theorem d_Grammar_signed_0 : decode b_Grammar_signed 0 = .ok (.aload_n 0, 1) := by decide +kernel
theorem d_Grammar_signed_1 : decode b_Grammar_signed 1 = .ok (.getfield 9, 3) := by decide +kernel
theorem d_Grammar_signed_4 : decode b_Grammar_signed 4 = .ok (.iload_n 1, 1) := by decide +kernel
theorem d_Grammar_signed_5 : decode b_Grammar_signed 5 = .ok (.invokevirtual 61, 3) := by decide +kernel
theorem d_Grammar_signed_8 : decode b_Grammar_signed 8 = .ok (.aload_n 0, 1) := by decide +kernel
theorem d_Grammar_signed_9 : decode b_Grammar_signed 9 = .ok (.invokevirtual 151, 3) := by decide +kernel
theorem d_Grammar_signed_12 : decode b_Grammar_signed 12 = .ok (.aload_n 0, 1) := by decide +kernel
theorem d_Grammar_signed_13 : decode b_Grammar_signed 13 = .ok (.getfield 9, 3) := by decide +kernel
theorem d_Grammar_signed_16 : decode b_Grammar_signed 16 = .ok (.invokevirtual 124, 3) := by decide +kernel
theorem d_Grammar_signed_19 : decode b_Grammar_signed 19 = .ok (.aload_n 0, 1) := by decide +kernel
theorem d_Grammar_signed_20 : decode b_Grammar_signed 20 = .ok (.getfield 23, 3) := by decide +kernel
theorem d_Grammar_signed_23 : decode b_Grammar_signed 23 = .ok (.iload_n 1, 1) := by decide +kernel
theorem d_Grammar_signed_24 : decode b_Grammar_signed 24 = .ok (.bipush 45, 2) := by decide +kernel
theorem d_Grammar_signed_26 : decode b_Grammar_signed 26 = .ok (.if_icmp .ne 8, 3) := by decide +kernel
theorem d_Grammar_signed_29 : decode b_Grammar_signed 29 = .ok (.bipush 19, 2) := by decide +kernel
theorem d_Grammar_signed_31 : decode b_Grammar_signed 31 = .ok (.goto 4, 3) := by decide +kernel
theorem d_Grammar_signed_34 : decode b_Grammar_signed 34 = .ok (.iload_n 1, 1) := by decide +kernel
theorem d_Grammar_signed_35 : decode b_Grammar_signed 35 = .ok (.iconst 0, 1) := by decide +kernel
theorem d_Grammar_signed_36 : decode b_Grammar_signed 36 = .ok (.iconst 0, 1) := by decide +kernel
theorem d_Grammar_signed_37 : decode b_Grammar_signed 37 = .ok (.invokevirtual 86, 3) := by decide +kernel
theorem d_Grammar_signed_40 : decode b_Grammar_signed 40 = .ok (.return_, 1) := by decide +kernel
def tGrammar_signed (rec : Nat → St → Int32 → Int32 → Option (Int32 × St)) (σ : St) (a1 : Int32) : Option (Int32 × St) := b1 (tCursor_passOpening σ a1) (fun u1 => b2 (rec 9 u1 0 0) (fun r2 u2 => b1 (tCursor_close u2) (fun u3 => if a1 = 45 then b1 (tProgram_add u3 19 0 0) (fun u6 => some (0, u6)) else b1 (tProgram_add u3 a1 0 0) (fun u5 => some (0, u5)))))
set_option maxHeartbeats 4000000 in
set_option maxRecDepth 100000 in
theorem ct_Grammar_signed (l : Launch) (dC : Nat → ClassId) (dI : Nat → Nat → Nat) (ad : Nat → Nat) (cA : Nat → ClassId) (sz : Nat) {σ : St} {a1 : Int32} {r : Int32} {σ' : St} {d : Nat} {rec : Nat → St → Int32 → Int32 → Option (Int32 × St)} (ih : tIH l d rec) (hF : tGrammar_signed rec σ a1 = some (r, σ')) : MV l y_Grammar_signed b_Grammar_signed 2 none (trm (d + 1)) (dC, dI) (ttys cA) ad (tcw ad cA) [.ref (ad 7), .int a1] σ sz σ' := by
  refine startM (own := "TinyForge$Grammar") (Qc := fun A => QV (dC, dI) (ttys cA) (tcw ad cA) A σ') rfl rfl (Nat.le_of_ble_eq_true rfl) ?_
  intro p e s m below meth c A H locs ls X hP hD hS hl
  have hl : lv_has ls 2 [(0, .ref (ad 7)), (1, .int a1)] := hl
  obtain ⟨hx, hb, hr, hml, hown, hlocks, hts, hA, hK, hZ⟩ := id X
  unfold tGrammar_signed at hF
  refine lv_aload_n hx hb d_Grammar_signed_0 rfl (lv_at hl 0 rfl) ?_
  refine va_get (D := (dC, dI)) (ci := 7) (v := .ref (ad 3)) hx hb hts i_Grammar hown hK hP 7 rfl rfl 0 (by decide) (hts _ w_a2db652071) (fun _ h9 => h9) rfl d_Grammar_signed_1 ?_
  refine lv_iload_n hx hb d_Grammar_signed_4 rfl (lv_at hl 1 rfl) ?_
  obtain ⟨u1, h1, hF⟩ := b1E hF
  refine callVV (As := [.int a1]) X (ct_Cursor_passOpening l dC dI ad cA H.size h1) lk_Grammar_61 (trm_go rfl rfl (by decide) (by decide)) 3 rfl rfl hP hD hS hl.1 rfl rfl (Nat.le_of_ble_eq_true rfl) d_Grammar_signed_5 (fun H locs hP hD hS => ?_)
  refine lv_aload_n hx hb d_Grammar_signed_8 rfl (lv_at hl 0 rfl) ?_
  obtain ⟨r2, u2, h2, hF⟩ := b2E hF
  refine callVV (As := []) X (ih.2.2.2.2.2.2.2.2.2.1 dC dI ad cA H.size h2) lk_Grammar_151 (trm_gg (by decide)) 7 rfl rfl hP hD hS hl.1 rfl rfl (Nat.le_of_ble_eq_true rfl) d_Grammar_signed_9 (fun H locs hP hD hS => ?_)
  refine lv_aload_n hx hb d_Grammar_signed_12 rfl (lv_at hl 0 rfl) ?_
  refine va_get (D := (dC, dI)) (ci := 7) (v := .ref (ad 3)) hx hb hts i_Grammar hown hK hP 7 rfl rfl 0 (by decide) (hts _ w_a2db652071) (fun _ h9 => h9) rfl d_Grammar_signed_13 ?_
  obtain ⟨u3, h3, hF⟩ := b1E hF
  refine callVV (As := []) X (ct_Cursor_close l dC dI ad cA H.size h3) lk_Grammar_124 (trm_go rfl rfl (by decide) (by decide)) 3 rfl rfl hP hD hS hl.1 rfl rfl (Nat.le_of_ble_eq_true rfl) d_Grammar_signed_16 (fun H locs hP hD hS => ?_)
  refine lv_aload_n hx hb d_Grammar_signed_19 rfl (lv_at hl 0 rfl) ?_
  refine va_get (D := (dC, dI)) (ci := 7) (v := .ref (ad 6)) hx hb hts i_Grammar hown hK hP 7 rfl rfl 3 (by decide) (hts _ w_72b36bc41d) (fun _ h9 => h9) rfl d_Grammar_signed_20 ?_
  refine lv_iload_n hx hb d_Grammar_signed_23 rfl (lv_at hl 1 rfl) ?_
  refine lv_bipush (v := 45) hx hb d_Grammar_signed_24 (by decide) ?_
  refine lv_icmp_ne (tgt := 34) hx hb d_Grammar_signed_26 (by decide) (fun c_4 => ?_) (fun c_4 => ?_)
  · have hF := ifn hF c_4
    refine lv_iload_n hx hb d_Grammar_signed_34 rfl (lv_at hl 1 rfl) ?_
    refine lv_iconst (v := 0) hx hb d_Grammar_signed_35 (by decide) ?_
    refine lv_iconst (v := 0) hx hb d_Grammar_signed_36 (by decide) ?_
    obtain ⟨u5, h5, hF⟩ := b1E hF
    refine callVV (As := [.int a1, .int 0, .int 0]) X (ct_Program_add l dC dI ad cA H.size h5) lk_Grammar_86 (trm_go rfl rfl (by decide) (by decide)) 6 rfl rfl hP hD hS hl.1 rfl rfl (Nat.le_of_ble_eq_true rfl) d_Grammar_signed_37 (fun H locs hP hD hS => ?_)
    cases hF
    exact leafV X hP hD hS d_Grammar_signed_40
  · have hF := ifp hF c_4
    refine lv_bipush (v := 19) hx hb d_Grammar_signed_29 (by decide) ?_
    refine lv_goto (tgt := 35) hx hb d_Grammar_signed_31 (by decide) ?_
    refine lv_iconst (v := 0) hx hb d_Grammar_signed_35 (by decide) ?_
    refine lv_iconst (v := 0) hx hb d_Grammar_signed_36 (by decide) ?_
    obtain ⟨u6, h6, hF⟩ := b1E hF
    refine callVV (As := [.int 19, .int 0, .int 0]) X (ct_Program_add l dC dI ad cA H.size h6) lk_Grammar_86 (trm_go rfl rfl (by decide) (by decide)) 6 rfl rfl hP hD hS hl.1 rfl rfl (Nat.le_of_ble_eq_true rfl) d_Grammar_signed_37 (fun H locs hP hD hS => ?_)
    cases hF
    exact leafV X hP hD hS d_Grammar_signed_40
theorem d_Grammar_signs_0 : decode b_Grammar_signs 0 = .ok (.iconst 0, 1) := by decide +kernel
theorem d_Grammar_signs_1 : decode b_Grammar_signs 1 = .ok (.istore_n 2, 1) := by decide +kernel
theorem d_Grammar_signs_2 : decode b_Grammar_signs 2 = .ok (.iload_n 2, 1) := by decide +kernel
theorem d_Grammar_signs_3 : decode b_Grammar_signs 3 = .ok (.sipush 220, 3) := by decide +kernel
theorem d_Grammar_signs_6 : decode b_Grammar_signs 6 = .ok (.if_icmp .ge 34, 3) := by decide +kernel
theorem d_Grammar_signs_9 : decode b_Grammar_signs 9 = .ok (.aload_n 0, 1) := by decide +kernel
theorem d_Grammar_signs_10 : decode b_Grammar_signs 10 = .ok (.getfield 9, 3) := by decide +kernel
theorem d_Grammar_signs_13 : decode b_Grammar_signs 13 = .ok (.invokevirtual 44, 3) := by decide +kernel
theorem d_Grammar_signs_16 : decode b_Grammar_signs 16 = .ok (.invokestatic 154, 3) := by decide +kernel
theorem d_Grammar_signs_19 : decode b_Grammar_signs 19 = .ok (.iload_n 1, 1) := by decide +kernel
theorem d_Grammar_signs_20 : decode b_Grammar_signs 20 = .ok (.if_icmp .lt 20, 3) := by decide +kernel
theorem d_Grammar_signs_23 : decode b_Grammar_signs 23 = .ok (.aload_n 0, 1) := by decide +kernel
theorem d_Grammar_signs_24 : decode b_Grammar_signs 24 = .ok (.aload_n 0, 1) := by decide +kernel
theorem d_Grammar_signs_25 : decode b_Grammar_signs 25 = .ok (.getfield 9, 3) := by decide +kernel
theorem d_Grammar_signs_28 : decode b_Grammar_signs 28 = .ok (.invokevirtual 44, 3) := by decide +kernel
theorem d_Grammar_signs_31 : decode b_Grammar_signs 31 = .ok (.invokevirtual 157, 3) := by decide +kernel
theorem d_Grammar_signs_34 : decode b_Grammar_signs 34 = .ok (.iinc 2 1, 3) := by decide +kernel
theorem d_Grammar_signs_37 : decode b_Grammar_signs 37 = .ok (.goto (-35), 3) := by decide +kernel
theorem d_Grammar_signs_40 : decode b_Grammar_signs 40 = .ok (.return_, 1) := by decide +kernel
def tGrammar_signs_b1 (rec : Nat → St → Int32 → Int32 → Option (Int32 × St)) (k : Nat → St → Int32 → Int32 → Option (Int32 × St)) (σ : St) (x1 : Int32) (x2 : Int32) : Option (Int32 × St) := if (220 : Int32) ≤ x2 then some (0, σ) else b1 (tCursor_kind σ) (fun r2 => b1 (tGrammar_strengthOf σ r2) (fun r3 => if r3 < x1 then some (0, σ) else b1 (tCursor_kind σ) (fun r5 => b2 (rec 11 σ r5 0) (fun r6 u6 => k 1 u6 x1 (x2 + 1)))))
def tGrammar_signs_L (rec : Nat → St → Int32 → Int32 → Option (Int32 × St)) : Nat → Nat → St → Int32 → Int32 → Option (Int32 × St)
  | 0, _, _, _, _ => none
  | n + 1, lab, σ, x1, x2 => match lab with
    | 1 => tGrammar_signs_b1 rec (tGrammar_signs_L rec n) σ x1 x2
    | _ => none
def tGrammar_signs (rec : Nat → St → Int32 → Int32 → Option (Int32 × St)) (σ : St) (a1 : Int32) : Option (Int32 × St) := tGrammar_signs_L rec 2000 1 σ a1 0
set_option maxHeartbeats 4000000 in
set_option maxRecDepth 100000 in
theorem tGrammar_signs_blk {p : Program} {e : Env} {s : State} {m : MethodId} {args : Array Value} {below : List Frame} {meth : Method} {c : Code} {A : Nat → Prop} (l : Launch) (dC : Nat → ClassId) (dI : Nat → Nat → Nat) (ad : Nat → Nat) (cA : Nat → ClassId) {r : Int32} {σ' : St} {d : Nat} {rec : Nat → St → Int32 → Int32 → Option (Int32 × St)} (ih : tIH l d rec) (X : Cx p s m args meth c b_Grammar_signs 3 none "TinyForge$Grammar" (dC, dI) (ttys cA) ad A) : ∀ n : Nat, (∀ (σ : St) (x1 : Int32) (x2 : Int32) (H : Heap) (locs : List Loc) (ls : Array Slot), tGrammar_signs_L rec n 1 σ x1 x2 = some (r, σ') → va_P (dC, dI) vwCl (tcw ad cA σ) H → va_D A (tcw ad cA σ) → va_S A s.heap H locs → lv_has ls 3 [(0, .ref (ad 7)), (1, .int x1), (2, .int x2)] → W p l e (trm (d + 1)) s m args below meth c H locs 0 0 (MQ below (QV (dC, dI) (ttys cA) (tcw ad cA) A σ') args s 0 0 A) (F0 m 2 ls [])) := by
  obtain ⟨hx, hb, hr, hml, hown, hlocks, hts, hA, hK, hZ⟩ := id X
  intro n
  induction n with
  | zero => exact (fun σ x1 x2 H locs ls hF => by cases hF)
  | succ n ihn =>
    refine fun σ x1 x2 H locs ls hF hP hD hS hl => ?_
    · have hF : tGrammar_signs_b1 rec (tGrammar_signs_L rec n) σ x1 x2 = some (r, σ') := hF
      unfold tGrammar_signs_b1 at hF
      refine lv_iload_n hx hb d_Grammar_signs_2 rfl (lv_at hl 2 rfl) ?_
      refine lv_sipush (v := 220) hx hb d_Grammar_signs_3 (by decide) ?_
      refine lv_icmp_ge (tgt := 40) hx hb d_Grammar_signs_6 (by decide) (fun c_1 => ?_) (fun c_1 => ?_)
      · have hF := ifp hF c_1
        cases hF
        exact leafV X hP hD hS d_Grammar_signs_40
      · have hF := ifn hF c_1
        refine lv_aload_n hx hb d_Grammar_signs_9 rfl (lv_at hl 0 rfl) ?_
        refine va_get (D := (dC, dI)) (ci := 7) (v := .ref (ad 3)) hx hb hts i_Grammar hown hK hP 7 rfl rfl 0 (by decide) (hts _ w_a2db652071) (fun _ h9 => h9) rfl d_Grammar_signs_10 ?_
        obtain ⟨r2, h2, hF⟩ := b1E hF
        refine callVI (As := []) X (ct_Cursor_kind l dC dI ad cA H.size h2) lk_Grammar_44 (trm_go rfl rfl (by decide) (by decide)) 3 rfl rfl hP hD hS hl.1 rfl rfl (Nat.le_of_ble_eq_true rfl) d_Grammar_signs_13 (fun H locs hP hD hS => ?_)
        obtain ⟨r3, h3, hF⟩ := b1E hF
        refine callSI (As := [.int r2]) X (ct_Grammar_strengthOf l dC dI ad cA H.size h3) lk_Grammar_154 (trm_go rfl rfl (by decide) (by decide)) hP hD hS hl.1 rfl rfl (Nat.le_of_ble_eq_true rfl) d_Grammar_signs_16 (fun H locs hP hD hS => ?_)
        refine lv_iload_n hx hb d_Grammar_signs_19 rfl (lv_at hl 1 rfl) ?_
        refine lv_icmp_lt (tgt := 40) hx hb d_Grammar_signs_20 (by decide) (fun c_4 => ?_) (fun c_4 => ?_)
        · have hF := ifp hF c_4
          cases hF
          exact leafV X hP hD hS d_Grammar_signs_40
        · have hF := ifn hF c_4
          refine lv_aload_n hx hb d_Grammar_signs_23 rfl (lv_at hl 0 rfl) ?_
          refine lv_aload_n hx hb d_Grammar_signs_24 rfl (lv_at hl 0 rfl) ?_
          refine va_get (D := (dC, dI)) (ci := 7) (v := .ref (ad 3)) hx hb hts i_Grammar hown hK hP 7 rfl rfl 0 (by decide) (hts _ w_a2db652071) (fun _ h9 => h9) rfl d_Grammar_signs_25 ?_
          obtain ⟨r5, h5, hF⟩ := b1E hF
          refine callVI (As := []) X (ct_Cursor_kind l dC dI ad cA H.size h5) lk_Grammar_44 (trm_go rfl rfl (by decide) (by decide)) 3 rfl rfl hP hD hS hl.1 rfl rfl (Nat.le_of_ble_eq_true rfl) d_Grammar_signs_28 (fun H locs hP hD hS => ?_)
          obtain ⟨r6, u6, h6, hF⟩ := b2E hF
          refine callVV (As := [.int r5]) X (ih.2.2.2.2.2.2.2.2.2.2.2.1 dC dI ad cA H.size h6) lk_Grammar_157 (trm_gg (by decide)) 7 rfl rfl hP hD hS hl.1 rfl rfl (Nat.le_of_ble_eq_true rfl) d_Grammar_signs_31 (fun H locs hP hD hS => ?_)
          refine lv_iinc (v := (x2 + 1)) (lv' := [(2, .int (x2 + 1)), (0, .ref (ad 7)), (1, .int x1)]) hx hb d_Grammar_signs_34 hl (k := 2) rfl rfl (by decide) rfl (fun ls hl => ?_)
          refine lv_goto (tgt := 2) hx hb d_Grammar_signs_37 (by decide) ?_
          exact ihn u6 x1 (x2 + 1) H locs ls hF hP hD hS (lv_sub hl [1, 2, 0] rfl)
set_option maxHeartbeats 4000000 in
set_option maxRecDepth 100000 in
theorem ct_Grammar_signs (l : Launch) (dC : Nat → ClassId) (dI : Nat → Nat → Nat) (ad : Nat → Nat) (cA : Nat → ClassId) (sz : Nat) {σ : St} {a1 : Int32} {r : Int32} {σ' : St} {d : Nat} {rec : Nat → St → Int32 → Int32 → Option (Int32 × St)} (ih : tIH l d rec) (hF : tGrammar_signs rec σ a1 = some (r, σ')) : MV l y_Grammar_signs b_Grammar_signs 3 none (trm (d + 1)) (dC, dI) (ttys cA) ad (tcw ad cA) [.ref (ad 7), .int a1] σ sz σ' := by
  refine startM (own := "TinyForge$Grammar") (Qc := fun A => QV (dC, dI) (ttys cA) (tcw ad cA) A σ') rfl rfl (Nat.le_of_ble_eq_true rfl) ?_
  intro p e s m below meth c A H locs ls X hP hD hS hl
  have hl : lv_has ls 3 [(0, .ref (ad 7)), (1, .int a1)] := hl
  obtain ⟨hx, hb, hr, hml, hown, hlocks, hts, hA, hK, hZ⟩ := id X
  unfold tGrammar_signs at hF
  refine lv_iconst (v := 0) hx hb d_Grammar_signs_0 (by decide) ?_
  refine lv_istore_n (lv' := [(2, .int 0), (0, .ref (ad 7)), (1, .int a1)]) hx hb d_Grammar_signs_1 rfl hl (by decide) rfl (fun ls hl => ?_)
  exact (tGrammar_signs_blk l dC dI ad cA ih X 2000) σ a1 0 H locs ls hF hP hD hS (lv_sub hl [1, 2, 0] rfl)
theorem d_Grammar_statement_0 : decode b_Grammar_statement 0 = .ok (.aload_n 0, 1) := by decide +kernel
theorem d_Grammar_statement_1 : decode b_Grammar_statement 1 = .ok (.getfield 9, 3) := by decide +kernel
theorem d_Grammar_statement_4 : decode b_Grammar_statement 4 = .ok (.invokevirtual 44, 3) := by decide +kernel
theorem d_Grammar_statement_7 : decode b_Grammar_statement 7 = .ok (.lookupswitch 182 #[(1, 168), (3, 72), (4, 80), (6, 80), (7, 94), (9, 113), (123, 65)], 65) := by decide +kernel
theorem d_Grammar_statement_72 : decode b_Grammar_statement 72 = .ok (.aload_n 0, 1) := by decide +kernel
theorem d_Grammar_statement_73 : decode b_Grammar_statement 73 = .ok (.invokevirtual 100, 3) := by decide +kernel
theorem d_Grammar_statement_76 : decode b_Grammar_statement 76 = .ok (.goto 120, 3) := by decide +kernel
theorem d_Grammar_statement_79 : decode b_Grammar_statement 79 = .ok (.aload_n 0, 1) := by decide +kernel
theorem d_Grammar_statement_80 : decode b_Grammar_statement 80 = .ok (.iload_n 1, 1) := by decide +kernel
theorem d_Grammar_statement_81 : decode b_Grammar_statement 81 = .ok (.invokevirtual 103, 3) := by decide +kernel
theorem d_Grammar_statement_84 : decode b_Grammar_statement 84 = .ok (.goto 112, 3) := by decide +kernel
theorem d_Grammar_statement_87 : decode b_Grammar_statement 87 = .ok (.aload_n 0, 1) := by decide +kernel
theorem d_Grammar_statement_88 : decode b_Grammar_statement 88 = .ok (.aload_n 0, 1) := by decide +kernel
theorem d_Grammar_statement_89 : decode b_Grammar_statement 89 = .ok (.getfield 9, 3) := by decide +kernel
theorem d_Grammar_statement_92 : decode b_Grammar_statement 92 = .ok (.invokevirtual 44, 3) := by decide +kernel
theorem d_Grammar_statement_95 : decode b_Grammar_statement 95 = .ok (.invokevirtual 106, 3) := by decide +kernel
theorem d_Grammar_statement_98 : decode b_Grammar_statement 98 = .ok (.goto 98, 3) := by decide +kernel
theorem d_Grammar_statement_101 : decode b_Grammar_statement 101 = .ok (.aload_n 0, 1) := by decide +kernel
theorem d_Grammar_statement_102 : decode b_Grammar_statement 102 = .ok (.getfield 9, 3) := by decide +kernel
theorem d_Grammar_statement_105 : decode b_Grammar_statement 105 = .ok (.bipush 7, 2) := by decide +kernel
theorem d_Grammar_statement_107 : decode b_Grammar_statement 107 = .ok (.invokevirtual 48, 3) := by decide +kernel
theorem d_Grammar_statement_110 : decode b_Grammar_statement 110 = .ok (.aload_n 0, 1) := by decide +kernel
theorem d_Grammar_statement_111 : decode b_Grammar_statement 111 = .ok (.bipush 7, 2) := by decide +kernel
theorem d_Grammar_statement_113 : decode b_Grammar_statement 113 = .ok (.iconst 0, 1) := by decide +kernel
theorem d_Grammar_statement_114 : decode b_Grammar_statement 114 = .ok (.invokevirtual 109, 3) := by decide +kernel
theorem d_Grammar_statement_117 : decode b_Grammar_statement 117 = .ok (.goto 79, 3) := by decide +kernel
theorem d_Grammar_statement_120 : decode b_Grammar_statement 120 = .ok (.aload_n 0, 1) := by decide +kernel
theorem d_Grammar_statement_121 : decode b_Grammar_statement 121 = .ok (.getfield 9, 3) := by decide +kernel
theorem d_Grammar_statement_124 : decode b_Grammar_statement 124 = .ok (.bipush 9, 2) := by decide +kernel
theorem d_Grammar_statement_126 : decode b_Grammar_statement 126 = .ok (.invokevirtual 48, 3) := by decide +kernel
theorem d_Grammar_statement_129 : decode b_Grammar_statement 129 = .ok (.aload_n 0, 1) := by decide +kernel
theorem d_Grammar_statement_130 : decode b_Grammar_statement 130 = .ok (.getfield 9, 3) := by decide +kernel
theorem d_Grammar_statement_133 : decode b_Grammar_statement 133 = .ok (.bipush 40, 2) := by decide +kernel
theorem d_Grammar_statement_135 : decode b_Grammar_statement 135 = .ok (.invokevirtual 61, 3) := by decide +kernel
theorem d_Grammar_statement_138 : decode b_Grammar_statement 138 = .ok (.aload_n 0, 1) := by decide +kernel
theorem d_Grammar_statement_139 : decode b_Grammar_statement 139 = .ok (.iconst 1, 1) := by decide +kernel
theorem d_Grammar_statement_140 : decode b_Grammar_statement 140 = .ok (.invokevirtual 112, 3) := by decide +kernel
theorem d_Grammar_statement_143 : decode b_Grammar_statement 143 = .ok (.aload_n 0, 1) := by decide +kernel
theorem d_Grammar_statement_144 : decode b_Grammar_statement 144 = .ok (.getfield 9, 3) := by decide +kernel
theorem d_Grammar_statement_147 : decode b_Grammar_statement 147 = .ok (.bipush 41, 2) := by decide +kernel
theorem d_Grammar_statement_149 : decode b_Grammar_statement 149 = .ok (.invokevirtual 68, 3) := by decide +kernel
theorem d_Grammar_statement_152 : decode b_Grammar_statement 152 = .ok (.aload_n 0, 1) := by decide +kernel
theorem d_Grammar_statement_153 : decode b_Grammar_statement 153 = .ok (.getfield 9, 3) := by decide +kernel
theorem d_Grammar_statement_156 : decode b_Grammar_statement 156 = .ok (.bipush 59, 2) := by decide +kernel
theorem d_Grammar_statement_158 : decode b_Grammar_statement 158 = .ok (.invokevirtual 48, 3) := by decide +kernel
theorem d_Grammar_statement_161 : decode b_Grammar_statement 161 = .ok (.aload_n 0, 1) := by decide +kernel
theorem d_Grammar_statement_162 : decode b_Grammar_statement 162 = .ok (.getfield 23, 3) := by decide +kernel
theorem d_Grammar_statement_165 : decode b_Grammar_statement 165 = .ok (.bipush 9, 2) := by decide +kernel
theorem d_Grammar_statement_167 : decode b_Grammar_statement 167 = .ok (.iconst 0, 1) := by decide +kernel
theorem d_Grammar_statement_168 : decode b_Grammar_statement 168 = .ok (.iconst 0, 1) := by decide +kernel
theorem d_Grammar_statement_169 : decode b_Grammar_statement 169 = .ok (.invokevirtual 86, 3) := by decide +kernel
theorem d_Grammar_statement_172 : decode b_Grammar_statement 172 = .ok (.goto 24, 3) := by decide +kernel
theorem d_Grammar_statement_175 : decode b_Grammar_statement 175 = .ok (.aload_n 0, 1) := by decide +kernel
theorem d_Grammar_statement_176 : decode b_Grammar_statement 176 = .ok (.aload_n 0, 1) := by decide +kernel
theorem d_Grammar_statement_177 : decode b_Grammar_statement 177 = .ok (.getfield 9, 3) := by decide +kernel
theorem d_Grammar_statement_180 : decode b_Grammar_statement 180 = .ok (.getfield 52, 3) := by decide +kernel
theorem d_Grammar_statement_183 : decode b_Grammar_statement 183 = .ok (.invokevirtual 115, 3) := by decide +kernel
theorem d_Grammar_statement_186 : decode b_Grammar_statement 186 = .ok (.goto 10, 3) := by decide +kernel
theorem d_Grammar_statement_189 : decode b_Grammar_statement 189 = .ok (.aload_n 0, 1) := by decide +kernel
theorem d_Grammar_statement_190 : decode b_Grammar_statement 190 = .ok (.bipush 21, 2) := by decide +kernel
theorem d_Grammar_statement_192 : decode b_Grammar_statement 192 = .ok (.iconst 0, 1) := by decide +kernel
theorem d_Grammar_statement_193 : decode b_Grammar_statement 193 = .ok (.invokevirtual 109, 3) := by decide +kernel
theorem d_Grammar_statement_196 : decode b_Grammar_statement 196 = .ok (.return_, 1) := by decide +kernel
def tGrammar_statement (rec : Nat → St → Int32 → Int32 → Option (Int32 × St)) (σ : St) (a1 : Int32) : Option (Int32 × St) := b1 (tCursor_kind σ) (fun r1 => if r1 = 1 then b2 (rec 6 σ (σ.1 6) 0) (fun r3 u3 => some (0, u3)) else if r1 = 3 then b2 (rec 8 σ a1 0) (fun r5 u5 => some (0, u5)) else if r1 = 4 then b1 (tCursor_kind σ) (fun r7 => b2 (rec 1 σ r7 0) (fun r8 u8 => some (0, u8))) else if r1 = 6 then b1 (tCursor_kind σ) (fun r10 => b2 (rec 1 σ r10 0) (fun r11 u11 => some (0, u11))) else if r1 = 7 then b1 (tCursor_pass σ 7) (fun u13 => b2 (rec 4 u13 7 0) (fun r14 u14 => some (0, u14))) else if r1 = 9 then b1 (tCursor_pass σ 9) (fun u16 => b1 (tCursor_passOpening u16 40) (fun u17 => b2 (rec 16 u17 1 0) (fun r18 u18 => b1 (tCursor_passClosing u18 41) (fun u19 => b1 (tCursor_pass u19 59) (fun u20 => b1 (tProgram_add u20 9 0 0) (fun u21 => some (0, u21))))))) else if r1 = 123 then b2 (rec 0 σ 0 0) (fun r23 u23 => some (0, u23)) else b2 (rec 4 σ 21 0) (fun r24 u24 => some (0, u24)))
set_option maxHeartbeats 4000000 in
set_option maxRecDepth 100000 in
theorem ct_Grammar_statement (l : Launch) (dC : Nat → ClassId) (dI : Nat → Nat → Nat) (ad : Nat → Nat) (cA : Nat → ClassId) (sz : Nat) {σ : St} {a1 : Int32} {r : Int32} {σ' : St} {d : Nat} {rec : Nat → St → Int32 → Int32 → Option (Int32 × St)} (ih : tIH l d rec) (hF : tGrammar_statement rec σ a1 = some (r, σ')) : MV l y_Grammar_statement b_Grammar_statement 2 none (trm (d + 1)) (dC, dI) (ttys cA) ad (tcw ad cA) [.ref (ad 7), .int a1] σ sz σ' := by
  refine startM (own := "TinyForge$Grammar") (Qc := fun A => QV (dC, dI) (ttys cA) (tcw ad cA) A σ') rfl rfl (Nat.le_of_ble_eq_true rfl) ?_
  intro p e s m below meth c A H locs ls X hP hD hS hl
  have hl : lv_has ls 2 [(0, .ref (ad 7)), (1, .int a1)] := hl
  obtain ⟨hx, hb, hr, hml, hown, hlocks, hts, hA, hK, hZ⟩ := id X
  unfold tGrammar_statement at hF
  refine lv_aload_n hx hb d_Grammar_statement_0 rfl (lv_at hl 0 rfl) ?_
  refine va_get (D := (dC, dI)) (ci := 7) (v := .ref (ad 3)) hx hb hts i_Grammar hown hK hP 7 rfl rfl 0 (by decide) (hts _ w_a2db652071) (fun _ h9 => h9) rfl d_Grammar_statement_1 ?_
  obtain ⟨r1, h1, hF⟩ := b1E hF
  refine callVI (As := []) X (ct_Cursor_kind l dC dI ad cA H.size h1) lk_Grammar_44 (trm_go rfl rfl (by decide) (by decide)) 3 rfl rfl hP hD hS hl.1 rfl rfl (Nat.le_of_ble_eq_true rfl) d_Grammar_statement_4 (fun H locs hP hD hS => ?_)
  by_cases c_2 : r1 = 1
  · have hF := ifp hF c_2
    refine lv_lookup (tgt := 175) (off := 168) hx hb d_Grammar_statement_7 (by decide) (by rw [c_2]; rfl) (by decide) ?_
    refine lv_aload_n hx hb d_Grammar_statement_175 rfl (lv_at hl 0 rfl) ?_
    refine lv_aload_n hx hb d_Grammar_statement_176 rfl (lv_at hl 0 rfl) ?_
    refine va_get (D := (dC, dI)) (ci := 7) (v := .ref (ad 3)) hx hb hts i_Grammar hown hK hP 7 rfl rfl 0 (by decide) (hts _ w_a2db652071) (fun _ h9 => h9) rfl d_Grammar_statement_177 ?_
    refine va_get (D := (dC, dI)) (ci := 3) (v := .int (σ.1 6)) hx hb hts i_Cursor hown hK hP 3 rfl rfl 2 (by decide) (hts _ w_1aaaf03a26) (fun _ h9 => h9) rfl d_Grammar_statement_180 ?_
    obtain ⟨r3, u3, h3, hF⟩ := b2E hF
    refine callVV (As := [.int (σ.1 6)]) X (ih.2.2.2.2.2.2.1 dC dI ad cA H.size h3) lk_Grammar_115 (trm_gg (by decide)) 7 rfl rfl hP hD hS hl.1 rfl rfl (Nat.le_of_ble_eq_true rfl) d_Grammar_statement_183 (fun H locs hP hD hS => ?_)
    refine lv_goto (tgt := 196) hx hb d_Grammar_statement_186 (by decide) ?_
    cases hF
    exact leafV X hP hD hS d_Grammar_statement_196
  · have hF := ifn hF c_2
    by_cases c_4 : r1 = 3
    · have hF := ifp hF c_4
      refine lv_lookup (tgt := 79) (off := 72) hx hb d_Grammar_statement_7 (by decide) (by rw [c_4]; rfl) (by decide) ?_
      refine lv_aload_n hx hb d_Grammar_statement_79 rfl (lv_at hl 0 rfl) ?_
      refine lv_iload_n hx hb d_Grammar_statement_80 rfl (lv_at hl 1 rfl) ?_
      obtain ⟨r5, u5, h5, hF⟩ := b2E hF
      refine callVV (As := [.int a1]) X (ih.2.2.2.2.2.2.2.2.1 dC dI ad cA H.size h5) lk_Grammar_103 (trm_gg (by decide)) 7 rfl rfl hP hD hS hl.1 rfl rfl (Nat.le_of_ble_eq_true rfl) d_Grammar_statement_81 (fun H locs hP hD hS => ?_)
      refine lv_goto (tgt := 196) hx hb d_Grammar_statement_84 (by decide) ?_
      cases hF
      exact leafV X hP hD hS d_Grammar_statement_196
    · have hF := ifn hF c_4
      by_cases c_6 : r1 = 4
      · have hF := ifp hF c_6
        refine lv_lookup (tgt := 87) (off := 80) hx hb d_Grammar_statement_7 (by decide) (by rw [c_6]; rfl) (by decide) ?_
        refine lv_aload_n hx hb d_Grammar_statement_87 rfl (lv_at hl 0 rfl) ?_
        refine lv_aload_n hx hb d_Grammar_statement_88 rfl (lv_at hl 0 rfl) ?_
        refine va_get (D := (dC, dI)) (ci := 7) (v := .ref (ad 3)) hx hb hts i_Grammar hown hK hP 7 rfl rfl 0 (by decide) (hts _ w_a2db652071) (fun _ h9 => h9) rfl d_Grammar_statement_89 ?_
        obtain ⟨r7, h7, hF⟩ := b1E hF
        refine callVI (As := []) X (ct_Cursor_kind l dC dI ad cA H.size h7) lk_Grammar_44 (trm_go rfl rfl (by decide) (by decide)) 3 rfl rfl hP hD hS hl.1 rfl rfl (Nat.le_of_ble_eq_true rfl) d_Grammar_statement_92 (fun H locs hP hD hS => ?_)
        obtain ⟨r8, u8, h8, hF⟩ := b2E hF
        refine callVV (As := [.int r7]) X (ih.2.1 dC dI ad cA H.size h8) lk_Grammar_106 (trm_gg (by decide)) 7 rfl rfl hP hD hS hl.1 rfl rfl (Nat.le_of_ble_eq_true rfl) d_Grammar_statement_95 (fun H locs hP hD hS => ?_)
        refine lv_goto (tgt := 196) hx hb d_Grammar_statement_98 (by decide) ?_
        cases hF
        exact leafV X hP hD hS d_Grammar_statement_196
      · have hF := ifn hF c_6
        by_cases c_9 : r1 = 6
        · have hF := ifp hF c_9
          refine lv_lookup (tgt := 87) (off := 80) hx hb d_Grammar_statement_7 (by decide) (by rw [c_9]; rfl) (by decide) ?_
          refine lv_aload_n hx hb d_Grammar_statement_87 rfl (lv_at hl 0 rfl) ?_
          refine lv_aload_n hx hb d_Grammar_statement_88 rfl (lv_at hl 0 rfl) ?_
          refine va_get (D := (dC, dI)) (ci := 7) (v := .ref (ad 3)) hx hb hts i_Grammar hown hK hP 7 rfl rfl 0 (by decide) (hts _ w_a2db652071) (fun _ h9 => h9) rfl d_Grammar_statement_89 ?_
          obtain ⟨r10, h10, hF⟩ := b1E hF
          refine callVI (As := []) X (ct_Cursor_kind l dC dI ad cA H.size h10) lk_Grammar_44 (trm_go rfl rfl (by decide) (by decide)) 3 rfl rfl hP hD hS hl.1 rfl rfl (Nat.le_of_ble_eq_true rfl) d_Grammar_statement_92 (fun H locs hP hD hS => ?_)
          obtain ⟨r11, u11, h11, hF⟩ := b2E hF
          refine callVV (As := [.int r10]) X (ih.2.1 dC dI ad cA H.size h11) lk_Grammar_106 (trm_gg (by decide)) 7 rfl rfl hP hD hS hl.1 rfl rfl (Nat.le_of_ble_eq_true rfl) d_Grammar_statement_95 (fun H locs hP hD hS => ?_)
          refine lv_goto (tgt := 196) hx hb d_Grammar_statement_98 (by decide) ?_
          cases hF
          exact leafV X hP hD hS d_Grammar_statement_196
        · have hF := ifn hF c_9
          by_cases c_12 : r1 = 7
          · have hF := ifp hF c_12
            refine lv_lookup (tgt := 101) (off := 94) hx hb d_Grammar_statement_7 (by decide) (by rw [c_12]; rfl) (by decide) ?_
            refine lv_aload_n hx hb d_Grammar_statement_101 rfl (lv_at hl 0 rfl) ?_
            refine va_get (D := (dC, dI)) (ci := 7) (v := .ref (ad 3)) hx hb hts i_Grammar hown hK hP 7 rfl rfl 0 (by decide) (hts _ w_a2db652071) (fun _ h9 => h9) rfl d_Grammar_statement_102 ?_
            refine lv_bipush (v := 7) hx hb d_Grammar_statement_105 (by decide) ?_
            obtain ⟨u13, h13, hF⟩ := b1E hF
            refine callVV (As := [.int 7]) X (ct_Cursor_pass l dC dI ad cA H.size h13) lk_Grammar_48 (trm_go rfl rfl (by decide) (by decide)) 3 rfl rfl hP hD hS hl.1 rfl rfl (Nat.le_of_ble_eq_true rfl) d_Grammar_statement_107 (fun H locs hP hD hS => ?_)
            refine lv_aload_n hx hb d_Grammar_statement_110 rfl (lv_at hl 0 rfl) ?_
            refine lv_bipush (v := 7) hx hb d_Grammar_statement_111 (by decide) ?_
            refine lv_iconst (v := 0) hx hb d_Grammar_statement_113 (by decide) ?_
            obtain ⟨r14, u14, h14, hF⟩ := b2E hF
            refine callVV (As := [.int 7, .int 0]) X (ih.2.2.2.2.1 dC dI ad cA H.size h14) lk_Grammar_109 (trm_gg (by decide)) 7 rfl rfl hP hD hS hl.1 rfl rfl (Nat.le_of_ble_eq_true rfl) d_Grammar_statement_114 (fun H locs hP hD hS => ?_)
            refine lv_goto (tgt := 196) hx hb d_Grammar_statement_117 (by decide) ?_
            cases hF
            exact leafV X hP hD hS d_Grammar_statement_196
          · have hF := ifn hF c_12
            by_cases c_15 : r1 = 9
            · have hF := ifp hF c_15
              refine lv_lookup (tgt := 120) (off := 113) hx hb d_Grammar_statement_7 (by decide) (by rw [c_15]; rfl) (by decide) ?_
              refine lv_aload_n hx hb d_Grammar_statement_120 rfl (lv_at hl 0 rfl) ?_
              refine va_get (D := (dC, dI)) (ci := 7) (v := .ref (ad 3)) hx hb hts i_Grammar hown hK hP 7 rfl rfl 0 (by decide) (hts _ w_a2db652071) (fun _ h9 => h9) rfl d_Grammar_statement_121 ?_
              refine lv_bipush (v := 9) hx hb d_Grammar_statement_124 (by decide) ?_
              obtain ⟨u16, h16, hF⟩ := b1E hF
              refine callVV (As := [.int 9]) X (ct_Cursor_pass l dC dI ad cA H.size h16) lk_Grammar_48 (trm_go rfl rfl (by decide) (by decide)) 3 rfl rfl hP hD hS hl.1 rfl rfl (Nat.le_of_ble_eq_true rfl) d_Grammar_statement_126 (fun H locs hP hD hS => ?_)
              refine lv_aload_n hx hb d_Grammar_statement_129 rfl (lv_at hl 0 rfl) ?_
              refine va_get (D := (dC, dI)) (ci := 7) (v := .ref (ad 3)) hx hb hts i_Grammar hown hK hP 7 rfl rfl 0 (by decide) (hts _ w_a2db652071) (fun _ h9 => h9) rfl d_Grammar_statement_130 ?_
              refine lv_bipush (v := 40) hx hb d_Grammar_statement_133 (by decide) ?_
              obtain ⟨u17, h17, hF⟩ := b1E hF
              refine callVV (As := [.int 40]) X (ct_Cursor_passOpening l dC dI ad cA H.size h17) lk_Grammar_61 (trm_go rfl rfl (by decide) (by decide)) 3 rfl rfl hP hD hS hl.1 rfl rfl (Nat.le_of_ble_eq_true rfl) d_Grammar_statement_135 (fun H locs hP hD hS => ?_)
              refine lv_aload_n hx hb d_Grammar_statement_138 rfl (lv_at hl 0 rfl) ?_
              refine lv_iconst (v := 1) hx hb d_Grammar_statement_139 (by decide) ?_
              obtain ⟨r18, u18, h18, hF⟩ := b2E hF
              refine callVV (As := [.int 1]) X (ih.2.2.2.2.2.2.2.2.2.2.2.2.2.2.2.2 dC dI ad cA H.size h18) lk_Grammar_112 (trm_gg (by decide)) 7 rfl rfl hP hD hS hl.1 rfl rfl (Nat.le_of_ble_eq_true rfl) d_Grammar_statement_140 (fun H locs hP hD hS => ?_)
              refine lv_aload_n hx hb d_Grammar_statement_143 rfl (lv_at hl 0 rfl) ?_
              refine va_get (D := (dC, dI)) (ci := 7) (v := .ref (ad 3)) hx hb hts i_Grammar hown hK hP 7 rfl rfl 0 (by decide) (hts _ w_a2db652071) (fun _ h9 => h9) rfl d_Grammar_statement_144 ?_
              refine lv_bipush (v := 41) hx hb d_Grammar_statement_147 (by decide) ?_
              obtain ⟨u19, h19, hF⟩ := b1E hF
              refine callVV (As := [.int 41]) X (ct_Cursor_passClosing l dC dI ad cA H.size h19) lk_Grammar_68 (trm_go rfl rfl (by decide) (by decide)) 3 rfl rfl hP hD hS hl.1 rfl rfl (Nat.le_of_ble_eq_true rfl) d_Grammar_statement_149 (fun H locs hP hD hS => ?_)
              refine lv_aload_n hx hb d_Grammar_statement_152 rfl (lv_at hl 0 rfl) ?_
              refine va_get (D := (dC, dI)) (ci := 7) (v := .ref (ad 3)) hx hb hts i_Grammar hown hK hP 7 rfl rfl 0 (by decide) (hts _ w_a2db652071) (fun _ h9 => h9) rfl d_Grammar_statement_153 ?_
              refine lv_bipush (v := 59) hx hb d_Grammar_statement_156 (by decide) ?_
              obtain ⟨u20, h20, hF⟩ := b1E hF
              refine callVV (As := [.int 59]) X (ct_Cursor_pass l dC dI ad cA H.size h20) lk_Grammar_48 (trm_go rfl rfl (by decide) (by decide)) 3 rfl rfl hP hD hS hl.1 rfl rfl (Nat.le_of_ble_eq_true rfl) d_Grammar_statement_158 (fun H locs hP hD hS => ?_)
              refine lv_aload_n hx hb d_Grammar_statement_161 rfl (lv_at hl 0 rfl) ?_
              refine va_get (D := (dC, dI)) (ci := 7) (v := .ref (ad 6)) hx hb hts i_Grammar hown hK hP 7 rfl rfl 3 (by decide) (hts _ w_72b36bc41d) (fun _ h9 => h9) rfl d_Grammar_statement_162 ?_
              refine lv_bipush (v := 9) hx hb d_Grammar_statement_165 (by decide) ?_
              refine lv_iconst (v := 0) hx hb d_Grammar_statement_167 (by decide) ?_
              refine lv_iconst (v := 0) hx hb d_Grammar_statement_168 (by decide) ?_
              obtain ⟨u21, h21, hF⟩ := b1E hF
              refine callVV (As := [.int 9, .int 0, .int 0]) X (ct_Program_add l dC dI ad cA H.size h21) lk_Grammar_86 (trm_go rfl rfl (by decide) (by decide)) 6 rfl rfl hP hD hS hl.1 rfl rfl (Nat.le_of_ble_eq_true rfl) d_Grammar_statement_169 (fun H locs hP hD hS => ?_)
              refine lv_goto (tgt := 196) hx hb d_Grammar_statement_172 (by decide) ?_
              cases hF
              exact leafV X hP hD hS d_Grammar_statement_196
            · have hF := ifn hF c_15
              by_cases c_22 : r1 = 123
              · have hF := ifp hF c_22
                refine lv_lookup (tgt := 72) (off := 65) hx hb d_Grammar_statement_7 (by decide) (by rw [c_22]; rfl) (by decide) ?_
                refine lv_aload_n hx hb d_Grammar_statement_72 rfl (lv_at hl 0 rfl) ?_
                obtain ⟨r23, u23, h23, hF⟩ := b2E hF
                refine callVV (As := []) X (ih.1 dC dI ad cA H.size h23) lk_Grammar_100 (trm_gg (by decide)) 7 rfl rfl hP hD hS hl.1 rfl rfl (Nat.le_of_ble_eq_true rfl) d_Grammar_statement_73 (fun H locs hP hD hS => ?_)
                refine lv_goto (tgt := 196) hx hb d_Grammar_statement_76 (by decide) ?_
                cases hF
                exact leafV X hP hD hS d_Grammar_statement_196
              · have hF := ifn hF c_22
                refine lv_lookup (tgt := 189) (off := 182) hx hb d_Grammar_statement_7 (by decide) (by show Op.lookupswitch.offset [(1, 168), (3, 72), (4, 80), (6, 80), (7, 94), (9, 113), (123, 65)] 182 _ = _; rw [lv_osw (a := 1) c_2 (by decide), lv_osw (a := 3) c_4 (by decide), lv_osw (a := 4) c_6 (by decide), lv_osw (a := 6) c_9 (by decide), lv_osw (a := 7) c_12 (by decide), lv_osw (a := 9) c_15 (by decide), lv_osw (a := 123) c_22 (by decide)]; rfl) (by decide) ?_
                refine lv_aload_n hx hb d_Grammar_statement_189 rfl (lv_at hl 0 rfl) ?_
                refine lv_bipush (v := 21) hx hb d_Grammar_statement_190 (by decide) ?_
                refine lv_iconst (v := 0) hx hb d_Grammar_statement_192 (by decide) ?_
                obtain ⟨r24, u24, h24, hF⟩ := b2E hF
                refine callVV (As := [.int 21, .int 0]) X (ih.2.2.2.2.1 dC dI ad cA H.size h24) lk_Grammar_109 (trm_gg (by decide)) 7 rfl rfl hP hD hS hl.1 rfl rfl (Nat.le_of_ble_eq_true rfl) d_Grammar_statement_193 (fun H locs hP hD hS => ?_)
                cases hF
                exact leafV X hP hD hS d_Grammar_statement_196
theorem d_Grammar_statements_0 : decode b_Grammar_statements 0 = .ok (.iconst 0, 1) := by decide +kernel
theorem d_Grammar_statements_1 : decode b_Grammar_statements 1 = .ok (.istore_n 1, 1) := by decide +kernel
theorem d_Grammar_statements_2 : decode b_Grammar_statements 2 = .ok (.iload_n 1, 1) := by decide +kernel
theorem d_Grammar_statements_3 : decode b_Grammar_statements 3 = .ok (.sipush 220, 3) := by decide +kernel
theorem d_Grammar_statements_6 : decode b_Grammar_statements 6 = .ok (.if_icmp .ge 36, 3) := by decide +kernel
theorem d_Grammar_statements_9 : decode b_Grammar_statements 9 = .ok (.aload_n 0, 1) := by decide +kernel
theorem d_Grammar_statements_10 : decode b_Grammar_statements 10 = .ok (.getfield 9, 3) := by decide +kernel
theorem d_Grammar_statements_13 : decode b_Grammar_statements 13 = .ok (.invokevirtual 44, 3) := by decide +kernel
theorem d_Grammar_statements_16 : decode b_Grammar_statements 16 = .ok (.bipush 125, 2) := by decide +kernel
theorem d_Grammar_statements_18 : decode b_Grammar_statements 18 = .ok (.if_icmp .eq 24, 3) := by decide +kernel
theorem d_Grammar_statements_21 : decode b_Grammar_statements 21 = .ok (.aload_n 0, 1) := by decide +kernel
theorem d_Grammar_statements_22 : decode b_Grammar_statements 22 = .ok (.getfield 9, 3) := by decide +kernel
theorem d_Grammar_statements_25 : decode b_Grammar_statements 25 = .ok (.invokevirtual 44, 3) := by decide +kernel
theorem d_Grammar_statements_28 : decode b_Grammar_statements 28 = .ok (.ifCond .eq 14, 3) := by decide +kernel
theorem d_Grammar_statements_31 : decode b_Grammar_statements 31 = .ok (.aload_n 0, 1) := by decide +kernel
theorem d_Grammar_statements_32 : decode b_Grammar_statements 32 = .ok (.iconst 1, 1) := by decide +kernel
theorem d_Grammar_statements_33 : decode b_Grammar_statements 33 = .ok (.invokevirtual 96, 3) := by decide +kernel
theorem d_Grammar_statements_36 : decode b_Grammar_statements 36 = .ok (.iinc 1 1, 3) := by decide +kernel
theorem d_Grammar_statements_39 : decode b_Grammar_statements 39 = .ok (.goto (-37), 3) := by decide +kernel
theorem d_Grammar_statements_42 : decode b_Grammar_statements 42 = .ok (.return_, 1) := by decide +kernel
def tGrammar_statements_b1 (rec : Nat → St → Int32 → Int32 → Option (Int32 × St)) (k : Nat → St → Int32 → Option (Int32 × St)) (σ : St) (x1 : Int32) : Option (Int32 × St) := if (220 : Int32) ≤ x1 then some (0, σ) else b1 (tCursor_kind σ) (fun r2 => if r2 = 125 then some (0, σ) else b1 (tCursor_kind σ) (fun r4 => if r4 = 0 then some (0, σ) else b2 (rec 14 σ 1 0) (fun r6 u6 => k 1 u6 (x1 + 1))))
def tGrammar_statements_L (rec : Nat → St → Int32 → Int32 → Option (Int32 × St)) : Nat → Nat → St → Int32 → Option (Int32 × St)
  | 0, _, _, _ => none
  | n + 1, lab, σ, x1 => match lab with
    | 1 => tGrammar_statements_b1 rec (tGrammar_statements_L rec n) σ x1
    | _ => none
def tGrammar_statements (rec : Nat → St → Int32 → Int32 → Option (Int32 × St)) (σ : St) : Option (Int32 × St) := tGrammar_statements_L rec 2000 1 σ 0
set_option maxHeartbeats 4000000 in
set_option maxRecDepth 100000 in
theorem tGrammar_statements_blk {p : Program} {e : Env} {s : State} {m : MethodId} {args : Array Value} {below : List Frame} {meth : Method} {c : Code} {A : Nat → Prop} (l : Launch) (dC : Nat → ClassId) (dI : Nat → Nat → Nat) (ad : Nat → Nat) (cA : Nat → ClassId) {r : Int32} {σ' : St} {d : Nat} {rec : Nat → St → Int32 → Int32 → Option (Int32 × St)} (ih : tIH l d rec) (X : Cx p s m args meth c b_Grammar_statements 2 none "TinyForge$Grammar" (dC, dI) (ttys cA) ad A) : ∀ n : Nat, (∀ (σ : St) (x1 : Int32) (H : Heap) (locs : List Loc) (ls : Array Slot), tGrammar_statements_L rec n 1 σ x1 = some (r, σ') → va_P (dC, dI) vwCl (tcw ad cA σ) H → va_D A (tcw ad cA σ) → va_S A s.heap H locs → lv_has ls 2 [(0, .ref (ad 7)), (1, .int x1)] → W p l e (trm (d + 1)) s m args below meth c H locs 0 0 (MQ below (QV (dC, dI) (ttys cA) (tcw ad cA) A σ') args s 0 0 A) (F0 m 2 ls [])) := by
  obtain ⟨hx, hb, hr, hml, hown, hlocks, hts, hA, hK, hZ⟩ := id X
  intro n
  induction n with
  | zero => exact (fun σ x1 H locs ls hF => by cases hF)
  | succ n ihn =>
    refine fun σ x1 H locs ls hF hP hD hS hl => ?_
    · have hF : tGrammar_statements_b1 rec (tGrammar_statements_L rec n) σ x1 = some (r, σ') := hF
      unfold tGrammar_statements_b1 at hF
      refine lv_iload_n hx hb d_Grammar_statements_2 rfl (lv_at hl 1 rfl) ?_
      refine lv_sipush (v := 220) hx hb d_Grammar_statements_3 (by decide) ?_
      refine lv_icmp_ge (tgt := 42) hx hb d_Grammar_statements_6 (by decide) (fun c_1 => ?_) (fun c_1 => ?_)
      · have hF := ifp hF c_1
        cases hF
        exact leafV X hP hD hS d_Grammar_statements_42
      · have hF := ifn hF c_1
        refine lv_aload_n hx hb d_Grammar_statements_9 rfl (lv_at hl 0 rfl) ?_
        refine va_get (D := (dC, dI)) (ci := 7) (v := .ref (ad 3)) hx hb hts i_Grammar hown hK hP 7 rfl rfl 0 (by decide) (hts _ w_a2db652071) (fun _ h9 => h9) rfl d_Grammar_statements_10 ?_
        obtain ⟨r2, h2, hF⟩ := b1E hF
        refine callVI (As := []) X (ct_Cursor_kind l dC dI ad cA H.size h2) lk_Grammar_44 (trm_go rfl rfl (by decide) (by decide)) 3 rfl rfl hP hD hS hl.1 rfl rfl (Nat.le_of_ble_eq_true rfl) d_Grammar_statements_13 (fun H locs hP hD hS => ?_)
        refine lv_bipush (v := 125) hx hb d_Grammar_statements_16 (by decide) ?_
        refine lv_icmp_eq (tgt := 42) hx hb d_Grammar_statements_18 (by decide) (fun c_3 => ?_) (fun c_3 => ?_)
        · have hF := ifp hF c_3
          cases hF
          exact leafV X hP hD hS d_Grammar_statements_42
        · have hF := ifn hF c_3
          refine lv_aload_n hx hb d_Grammar_statements_21 rfl (lv_at hl 0 rfl) ?_
          refine va_get (D := (dC, dI)) (ci := 7) (v := .ref (ad 3)) hx hb hts i_Grammar hown hK hP 7 rfl rfl 0 (by decide) (hts _ w_a2db652071) (fun _ h9 => h9) rfl d_Grammar_statements_22 ?_
          obtain ⟨r4, h4, hF⟩ := b1E hF
          refine callVI (As := []) X (ct_Cursor_kind l dC dI ad cA H.size h4) lk_Grammar_44 (trm_go rfl rfl (by decide) (by decide)) 3 rfl rfl hP hD hS hl.1 rfl rfl (Nat.le_of_ble_eq_true rfl) d_Grammar_statements_25 (fun H locs hP hD hS => ?_)
          refine lv_if_eq (tgt := 42) hx hb d_Grammar_statements_28 (by decide) (fun c_5 => ?_) (fun c_5 => ?_)
          · have hF := ifp hF c_5
            cases hF
            exact leafV X hP hD hS d_Grammar_statements_42
          · have hF := ifn hF c_5
            refine lv_aload_n hx hb d_Grammar_statements_31 rfl (lv_at hl 0 rfl) ?_
            refine lv_iconst (v := 1) hx hb d_Grammar_statements_32 (by decide) ?_
            obtain ⟨r6, u6, h6, hF⟩ := b2E hF
            refine callVV (As := [.int 1]) X (ih.2.2.2.2.2.2.2.2.2.2.2.2.2.2.1 dC dI ad cA H.size h6) lk_Grammar_96 (trm_gg (by decide)) 7 rfl rfl hP hD hS hl.1 rfl rfl (Nat.le_of_ble_eq_true rfl) d_Grammar_statements_33 (fun H locs hP hD hS => ?_)
            refine lv_iinc (v := (x1 + 1)) (lv' := [(1, .int (x1 + 1)), (0, .ref (ad 7))]) hx hb d_Grammar_statements_36 hl (k := 1) rfl rfl (by decide) rfl (fun ls hl => ?_)
            refine lv_goto (tgt := 2) hx hb d_Grammar_statements_39 (by decide) ?_
            exact ihn u6 (x1 + 1) H locs ls hF hP hD hS (lv_sub hl [1, 0] rfl)
set_option maxHeartbeats 4000000 in
set_option maxRecDepth 100000 in
theorem ct_Grammar_statements (l : Launch) (dC : Nat → ClassId) (dI : Nat → Nat → Nat) (ad : Nat → Nat) (cA : Nat → ClassId) (sz : Nat) {σ : St} {r : Int32} {σ' : St} {d : Nat} {rec : Nat → St → Int32 → Int32 → Option (Int32 × St)} (ih : tIH l d rec) (hF : tGrammar_statements rec σ = some (r, σ')) : MV l y_Grammar_statements b_Grammar_statements 2 none (trm (d + 1)) (dC, dI) (ttys cA) ad (tcw ad cA) [.ref (ad 7)] σ sz σ' := by
  refine startM (own := "TinyForge$Grammar") (Qc := fun A => QV (dC, dI) (ttys cA) (tcw ad cA) A σ') rfl rfl (Nat.le_of_ble_eq_true rfl) ?_
  intro p e s m below meth c A H locs ls X hP hD hS hl
  have hl : lv_has ls 2 [(0, .ref (ad 7))] := hl
  obtain ⟨hx, hb, hr, hml, hown, hlocks, hts, hA, hK, hZ⟩ := id X
  unfold tGrammar_statements at hF
  refine lv_iconst (v := 0) hx hb d_Grammar_statements_0 (by decide) ?_
  refine lv_istore_n (lv' := [(1, .int 0), (0, .ref (ad 7))]) hx hb d_Grammar_statements_1 rfl hl (by decide) rfl (fun ls hl => ?_)
  exact (tGrammar_statements_blk l dC dI ad cA ih X 2000) σ 0 H locs ls hF hP hD hS (lv_sub hl [1, 0] rfl)
theorem d_Grammar_value_0 : decode b_Grammar_value 0 = .ok (.aload_n 0, 1) := by decide +kernel
theorem d_Grammar_value_1 : decode b_Grammar_value 1 = .ok (.invokevirtual 151, 3) := by decide +kernel
theorem d_Grammar_value_4 : decode b_Grammar_value 4 = .ok (.aload_n 0, 1) := by decide +kernel
theorem d_Grammar_value_5 : decode b_Grammar_value 5 = .ok (.iload_n 1, 1) := by decide +kernel
theorem d_Grammar_value_6 : decode b_Grammar_value 6 = .ok (.invokevirtual 148, 3) := by decide +kernel
theorem d_Grammar_value_9 : decode b_Grammar_value 9 = .ok (.return_, 1) := by decide +kernel
def tGrammar_value (rec : Nat → St → Int32 → Int32 → Option (Int32 × St)) (σ : St) (a1 : Int32) : Option (Int32 × St) := b2 (rec 9 σ 0 0) (fun r1 u1 => b2 (rec 13 u1 a1 0) (fun r2 u2 => some (0, u2)))
set_option maxHeartbeats 4000000 in
set_option maxRecDepth 100000 in
theorem ct_Grammar_value (l : Launch) (dC : Nat → ClassId) (dI : Nat → Nat → Nat) (ad : Nat → Nat) (cA : Nat → ClassId) (sz : Nat) {σ : St} {a1 : Int32} {r : Int32} {σ' : St} {d : Nat} {rec : Nat → St → Int32 → Int32 → Option (Int32 × St)} (ih : tIH l d rec) (hF : tGrammar_value rec σ a1 = some (r, σ')) : MV l y_Grammar_value b_Grammar_value 2 none (trm (d + 1)) (dC, dI) (ttys cA) ad (tcw ad cA) [.ref (ad 7), .int a1] σ sz σ' := by
  refine startM (own := "TinyForge$Grammar") (Qc := fun A => QV (dC, dI) (ttys cA) (tcw ad cA) A σ') rfl rfl (Nat.le_of_ble_eq_true rfl) ?_
  intro p e s m below meth c A H locs ls X hP hD hS hl
  have hl : lv_has ls 2 [(0, .ref (ad 7)), (1, .int a1)] := hl
  obtain ⟨hx, hb, hr, hml, hown, hlocks, hts, hA, hK, hZ⟩ := id X
  unfold tGrammar_value at hF
  refine lv_aload_n hx hb d_Grammar_value_0 rfl (lv_at hl 0 rfl) ?_
  obtain ⟨r1, u1, h1, hF⟩ := b2E hF
  refine callVV (As := []) X (ih.2.2.2.2.2.2.2.2.2.1 dC dI ad cA H.size h1) lk_Grammar_151 (trm_gg (by decide)) 7 rfl rfl hP hD hS hl.1 rfl rfl (Nat.le_of_ble_eq_true rfl) d_Grammar_value_1 (fun H locs hP hD hS => ?_)
  refine lv_aload_n hx hb d_Grammar_value_4 rfl (lv_at hl 0 rfl) ?_
  refine lv_iload_n hx hb d_Grammar_value_5 rfl (lv_at hl 1 rfl) ?_
  obtain ⟨r2, u2, h2, hF⟩ := b2E hF
  refine callVV (As := [.int a1]) X (ih.2.2.2.2.2.2.2.2.2.2.2.2.2.1 dC dI ad cA H.size h2) lk_Grammar_148 (trm_gg (by decide)) 7 rfl rfl hP hD hS hl.1 rfl rfl (Nat.le_of_ble_eq_true rfl) d_Grammar_value_6 (fun H locs hP hD hS => ?_)
  cases hF
  exact leafV X hP hD hS d_Grammar_value_9
def tG : Nat → Nat → St → Int32 → Int32 → Option (Int32 × St)
  | 0, _, _, _, _ => none
  | d + 1, tag, σ, a, b => match tag with
    | 0 => tGrammar_block (tG d) σ 
    | 1 => tGrammar_conditional (tG d) σ a
    | 2 => tGrammar_element (tG d) σ 
    | 3 => tGrammar_elementFirst (tG d) σ a
    | 4 => tGrammar_endWith (tG d) σ a b
    | 5 => tGrammar_given (tG d) σ 
    | 6 => tGrammar_namedStatement (tG d) σ a
    | 7 => tGrammar_namedValue (tG d) σ a
    | 8 => tGrammar_newVariable (tG d) σ a
    | 9 => tGrammar_one (tG d) σ 
    | 10 => tGrammar_otherwise (tG d) σ a
    | 11 => tGrammar_sign (tG d) σ a
    | 12 => tGrammar_signed (tG d) σ a
    | 13 => tGrammar_signs (tG d) σ a
    | 14 => tGrammar_statement (tG d) σ a
    | 15 => tGrammar_statements (tG d) σ 
    | 16 => tGrammar_value (tG d) σ a
    | _ => none
set_option maxRecDepth 100000 in
theorem tG_ok (l : Launch) : ∀ d : Nat, tIH l d (tG d) := by
  intro d
  induction d with
  | zero => exact ⟨(by intro _ _ _ _ _ _ _ _ hF; cases hF), (by intro _ _ _ _ _ _ _ _ _ hF; cases hF), (by intro _ _ _ _ _ _ _ _ hF; cases hF), (by intro _ _ _ _ _ _ _ _ _ hF; cases hF), (by intro _ _ _ _ _ _ _ _ _ _ hF; cases hF), (by intro _ _ _ _ _ _ _ _ hF; cases hF), (by intro _ _ _ _ _ _ _ _ _ hF; cases hF), (by intro _ _ _ _ _ _ _ _ _ hF; cases hF), (by intro _ _ _ _ _ _ _ _ _ hF; cases hF), (by intro _ _ _ _ _ _ _ _ hF; cases hF), (by intro _ _ _ _ _ _ _ _ _ hF; cases hF), (by intro _ _ _ _ _ _ _ _ _ hF; cases hF), (by intro _ _ _ _ _ _ _ _ _ hF; cases hF), (by intro _ _ _ _ _ _ _ _ _ hF; cases hF), (by intro _ _ _ _ _ _ _ _ _ hF; cases hF), (by intro _ _ _ _ _ _ _ _ hF; cases hF), (by intro _ _ _ _ _ _ _ _ _ hF; cases hF)⟩
  | succ d ih => exact ⟨(by intro dC dI ad cA sz _ _ _ hF; exact ct_Grammar_block l dC dI ad cA sz ih hF), (by intro dC dI ad cA sz _ _ _ _ hF; exact ct_Grammar_conditional l dC dI ad cA sz ih hF), (by intro dC dI ad cA sz _ _ _ hF; exact ct_Grammar_element l dC dI ad cA sz ih hF), (by intro dC dI ad cA sz _ _ _ _ hF; exact ct_Grammar_elementFirst l dC dI ad cA sz ih hF), (by intro dC dI ad cA sz _ _ _ _ _ hF; exact ct_Grammar_endWith l dC dI ad cA sz ih hF), (by intro dC dI ad cA sz _ _ _ hF; exact ct_Grammar_given l dC dI ad cA sz ih hF), (by intro dC dI ad cA sz _ _ _ _ hF; exact ct_Grammar_namedStatement l dC dI ad cA sz ih hF), (by intro dC dI ad cA sz _ _ _ _ hF; exact ct_Grammar_namedValue l dC dI ad cA sz ih hF), (by intro dC dI ad cA sz _ _ _ _ hF; exact ct_Grammar_newVariable l dC dI ad cA sz ih hF), (by intro dC dI ad cA sz _ _ _ hF; exact ct_Grammar_one l dC dI ad cA sz ih hF), (by intro dC dI ad cA sz _ _ _ _ hF; exact ct_Grammar_otherwise l dC dI ad cA sz ih hF), (by intro dC dI ad cA sz _ _ _ _ hF; exact ct_Grammar_sign l dC dI ad cA sz ih hF), (by intro dC dI ad cA sz _ _ _ _ hF; exact ct_Grammar_signed l dC dI ad cA sz ih hF), (by intro dC dI ad cA sz _ _ _ _ hF; exact ct_Grammar_signs l dC dI ad cA sz ih hF), (by intro dC dI ad cA sz _ _ _ _ hF; exact ct_Grammar_statement l dC dI ad cA sz ih hF), (by intro dC dI ad cA sz _ _ _ hF; exact ct_Grammar_statements l dC dI ad cA sz ih hF), (by intro dC dI ad cA sz _ _ _ _ hF; exact ct_Grammar_value l dC dI ad cA sz ih hF)⟩
