def trm (d : Nat) : Room := { frames := 4 + d, cells := 0, slots := 0, locals := 83 + d * 23 }
theorem trm_gg {d maxL : Nat} (h : 8 + (maxL + 11) ≤ 23) : RmOk (trm d) (trm (d + 1)) maxL := by
  refine ⟨rfl, rfl, ?_, ?_⟩
  · show 4 + d + 1 ≤ 4 + (d + 1)
    omega
  · show 8 + (maxL + 11) + (83 + d * 23) ≤ 83 + (d + 1) * 23
    omega
theorem trm_go {rm : Room} {d maxL : Nat} (h1 : rm.cells = 0) (h2 : rm.slots = 0) (h3 : rm.frames + 1 ≤ 4) (h4 : 8 + (maxL + 11) + rm.locals ≤ 83) : RmOk rm (trm (d + 1)) maxL := by
  refine ⟨h1, h2, ?_, ?_⟩
  · show rm.frames + 1 ≤ 4 + (d + 1)
    omega
  · show 8 + (maxL + 11) + rm.locals ≤ 83 + (d + 1) * 23
    omega
def tIH (l : Launch) (d : Nat) (rec : Nat → St → Int32 → Int32 → Option (Int32 × St)) : Prop := (∀ (dC : Nat → ClassId) (dI : Nat → Nat → Nat) (ad : Nat → Nat) (cA : Nat → ClassId) (sz : Nat) {σ : St} {r : Int32} {σ' : St}, rec 0 σ 0 0 = some (r, σ') → MV l y_Grammar_block b_Grammar_block 2 none (trm d) (dC, dI) (ttys cA) ad (tcw ad cA) [.ref (ad 7)] σ sz σ') ∧ (∀ (dC : Nat → ClassId) (dI : Nat → Nat → Nat) (ad : Nat → Nat) (cA : Nat → ClassId) (sz : Nat) {σ : St} {a1 : Int32} {r : Int32} {σ' : St}, rec 1 σ a1 0 = some (r, σ') → MV l y_Grammar_conditional b_Grammar_conditional 4 none (trm d) (dC, dI) (ttys cA) ad (tcw ad cA) [.ref (ad 7), .int a1] σ sz σ') ∧ (∀ (dC : Nat → ClassId) (dI : Nat → Nat → Nat) (ad : Nat → Nat) (cA : Nat → ClassId) (sz : Nat) {σ : St} {r : Int32} {σ' : St}, rec 2 σ 0 0 = some (r, σ') → MV l y_Grammar_element b_Grammar_element 1 none (trm d) (dC, dI) (ttys cA) ad (tcw ad cA) [.ref (ad 7)] σ sz σ') ∧ (∀ (dC : Nat → ClassId) (dI : Nat → Nat → Nat) (ad : Nat → Nat) (cA : Nat → ClassId) (sz : Nat) {σ : St} {a1 : Int32} {r : Int32} {σ' : St}, rec 3 σ a1 0 = some (r, σ') → MV l y_Grammar_elementFirst b_Grammar_elementFirst 2 none (trm d) (dC, dI) (ttys cA) ad (tcw ad cA) [.ref (ad 7), .int a1] σ sz σ') ∧ (∀ (dC : Nat → ClassId) (dI : Nat → Nat → Nat) (ad : Nat → Nat) (cA : Nat → ClassId) (sz : Nat) {σ : St} {a1 : Int32} {a2 : Int32} {r : Int32} {σ' : St}, rec 4 σ a1 a2 = some (r, σ') → MV l y_Grammar_endWith b_Grammar_endWith 3 none (trm d) (dC, dI) (ttys cA) ad (tcw ad cA) [.ref (ad 7), .int a1, .int a2] σ sz σ') ∧ (∀ (dC : Nat → ClassId) (dI : Nat → Nat → Nat) (ad : Nat → Nat) (cA : Nat → ClassId) (sz : Nat) {σ : St} {r : Int32} {σ' : St}, rec 5 σ 0 0 = some (r, σ') → MI l y_Grammar_given b_Grammar_given 2 (some .int) (trm d) (dC, dI) (ttys cA) ad (tcw ad cA) [.ref (ad 7)] σ sz r σ') ∧ (∀ (dC : Nat → ClassId) (dI : Nat → Nat → Nat) (ad : Nat → Nat) (cA : Nat → ClassId) (sz : Nat) {σ : St} {a1 : Int32} {r : Int32} {σ' : St}, rec 6 σ a1 0 = some (r, σ') → MV l y_Grammar_namedStatement b_Grammar_namedStatement 3 none (trm d) (dC, dI) (ttys cA) ad (tcw ad cA) [.ref (ad 7), .int a1] σ sz σ') ∧ (∀ (dC : Nat → ClassId) (dI : Nat → Nat → Nat) (ad : Nat → Nat) (cA : Nat → ClassId) (sz : Nat) {σ : St} {a1 : Int32} {r : Int32} {σ' : St}, rec 7 σ a1 0 = some (r, σ') → MV l y_Grammar_namedValue b_Grammar_namedValue 2 none (trm d) (dC, dI) (ttys cA) ad (tcw ad cA) [.ref (ad 7), .int a1] σ sz σ') ∧ (∀ (dC : Nat → ClassId) (dI : Nat → Nat → Nat) (ad : Nat → Nat) (cA : Nat → ClassId) (sz : Nat) {σ : St} {a1 : Int32} {r : Int32} {σ' : St}, rec 8 σ a1 0 = some (r, σ') → MV l y_Grammar_newVariable b_Grammar_newVariable 3 none (trm d) (dC, dI) (ttys cA) ad (tcw ad cA) [.ref (ad 7), .int a1] σ sz σ') ∧ (∀ (dC : Nat → ClassId) (dI : Nat → Nat → Nat) (ad : Nat → Nat) (cA : Nat → ClassId) (sz : Nat) {σ : St} {r : Int32} {σ' : St}, rec 9 σ 0 0 = some (r, σ') → MV l y_Grammar_one b_Grammar_one 1 none (trm d) (dC, dI) (ttys cA) ad (tcw ad cA) [.ref (ad 7)] σ sz σ') ∧ (∀ (dC : Nat → ClassId) (dI : Nat → Nat → Nat) (ad : Nat → Nat) (cA : Nat → ClassId) (sz : Nat) {σ : St} {a1 : Int32} {r : Int32} {σ' : St}, rec 10 σ a1 0 = some (r, σ') → MI l y_Grammar_otherwise b_Grammar_otherwise 3 (some .int) (trm d) (dC, dI) (ttys cA) ad (tcw ad cA) [.ref (ad 7), .int a1] σ sz r σ') ∧ (∀ (dC : Nat → ClassId) (dI : Nat → Nat → Nat) (ad : Nat → Nat) (cA : Nat → ClassId) (sz : Nat) {σ : St} {a1 : Int32} {r : Int32} {σ' : St}, rec 11 σ a1 0 = some (r, σ') → MV l y_Grammar_sign b_Grammar_sign 3 none (trm d) (dC, dI) (ttys cA) ad (tcw ad cA) [.ref (ad 7), .int a1] σ sz σ') ∧ (∀ (dC : Nat → ClassId) (dI : Nat → Nat → Nat) (ad : Nat → Nat) (cA : Nat → ClassId) (sz : Nat) {σ : St} {a1 : Int32} {r : Int32} {σ' : St}, rec 12 σ a1 0 = some (r, σ') → MV l y_Grammar_signed b_Grammar_signed 2 none (trm d) (dC, dI) (ttys cA) ad (tcw ad cA) [.ref (ad 7), .int a1] σ sz σ') ∧ (∀ (dC : Nat → ClassId) (dI : Nat → Nat → Nat) (ad : Nat → Nat) (cA : Nat → ClassId) (sz : Nat) {σ : St} {a1 : Int32} {r : Int32} {σ' : St}, rec 13 σ a1 0 = some (r, σ') → MV l y_Grammar_signs b_Grammar_signs 3 none (trm d) (dC, dI) (ttys cA) ad (tcw ad cA) [.ref (ad 7), .int a1] σ sz σ') ∧ (∀ (dC : Nat → ClassId) (dI : Nat → Nat → Nat) (ad : Nat → Nat) (cA : Nat → ClassId) (sz : Nat) {σ : St} {a1 : Int32} {r : Int32} {σ' : St}, rec 14 σ a1 0 = some (r, σ') → MV l y_Grammar_statement b_Grammar_statement 2 none (trm d) (dC, dI) (ttys cA) ad (tcw ad cA) [.ref (ad 7), .int a1] σ sz σ') ∧ (∀ (dC : Nat → ClassId) (dI : Nat → Nat → Nat) (ad : Nat → Nat) (cA : Nat → ClassId) (sz : Nat) {σ : St} {r : Int32} {σ' : St}, rec 15 σ 0 0 = some (r, σ') → MV l y_Grammar_statements b_Grammar_statements 2 none (trm d) (dC, dI) (ttys cA) ad (tcw ad cA) [.ref (ad 7)] σ sz σ') ∧ (∀ (dC : Nat → ClassId) (dI : Nat → Nat → Nat) (ad : Nat → Nat) (cA : Nat → ClassId) (sz : Nat) {σ : St} {a1 : Int32} {r : Int32} {σ' : St}, rec 16 σ a1 0 = some (r, σ') → MV l y_Grammar_value b_Grammar_value 2 none (trm d) (dC, dI) (ttys cA) ad (tcw ad cA) [.ref (ad 7), .int a1] σ sz σ')
theorem d_Grammar_block_0 : decode b_Grammar_block 0 = .ok (.aload_n 0, 1) := by decide +kernel
theorem d_Grammar_block_1 : decode b_Grammar_block 1 = .ok (.getfield 15, 3) := by decide +kernel
theorem d_Grammar_block_4 : decode b_Grammar_block 4 = .ok (.invokevirtual 118, 3) := by decide +kernel
theorem d_Grammar_block_7 : decode b_Grammar_block 7 = .ok (.istore_n 1, 1) := by decide +kernel
theorem d_Grammar_block_8 : decode b_Grammar_block 8 = .ok (.aload_n 0, 1) := by decide +kernel
theorem d_Grammar_block_9 : decode b_Grammar_block 9 = .ok (.getfield 9, 3) := by decide +kernel
theorem d_Grammar_block_12 : decode b_Grammar_block 12 = .ok (.bipush 123, 2) := by decide +kernel
theorem d_Grammar_block_14 : decode b_Grammar_block 14 = .ok (.invokevirtual 61, 3) := by decide +kernel
theorem d_Grammar_block_17 : decode b_Grammar_block 17 = .ok (.aload_n 0, 1) := by decide +kernel
theorem d_Grammar_block_18 : decode b_Grammar_block 18 = .ok (.invokevirtual 83, 3) := by decide +kernel
theorem d_Grammar_block_21 : decode b_Grammar_block 21 = .ok (.aload_n 0, 1) := by decide +kernel
theorem d_Grammar_block_22 : decode b_Grammar_block 22 = .ok (.getfield 9, 3) := by decide +kernel
theorem d_Grammar_block_25 : decode b_Grammar_block 25 = .ok (.bipush 125, 2) := by decide +kernel
theorem d_Grammar_block_27 : decode b_Grammar_block 27 = .ok (.invokevirtual 68, 3) := by decide +kernel
theorem d_Grammar_block_30 : decode b_Grammar_block 30 = .ok (.aload_n 0, 1) := by decide +kernel
theorem d_Grammar_block_31 : decode b_Grammar_block 31 = .ok (.getfield 15, 3) := by decide +kernel
theorem d_Grammar_block_34 : decode b_Grammar_block 34 = .ok (.iload_n 1, 1) := by decide +kernel
theorem d_Grammar_block_35 : decode b_Grammar_block 35 = .ok (.invokevirtual 121, 3) := by decide +kernel
theorem d_Grammar_block_38 : decode b_Grammar_block 38 = .ok (.return_, 1) := by decide +kernel
def tGrammar_block (rec : Nat → St → Int32 → Int32 → Option (Int32 × St)) (σ : St) : Option (Int32 × St) := b2 (tVariables_startBlock σ) (fun r1 u1 => b1 (tCursor_passOpening u1 123) (fun u2 => b2 (rec 15 u2 0 0) (fun r3 u3 => b1 (tCursor_passClosing u3 125) (fun u4 => b1 (tVariables_endBlock u4 r1) (fun u5 => some (0, u5))))))
set_option maxHeartbeats 4000000 in
set_option maxRecDepth 100000 in
theorem ct_Grammar_block (l : Launch) (dC : Nat → ClassId) (dI : Nat → Nat → Nat) (ad : Nat → Nat) (cA : Nat → ClassId) (sz : Nat) {σ : St} {r : Int32} {σ' : St} {d : Nat} {rec : Nat → St → Int32 → Int32 → Option (Int32 × St)} (ih : tIH l d rec) (hF : tGrammar_block rec σ = some (r, σ')) : MV l y_Grammar_block b_Grammar_block 2 none (trm (d + 1)) (dC, dI) (ttys cA) ad (tcw ad cA) [.ref (ad 7)] σ sz σ' := by
  refine startM (own := "TinyForge$Grammar") (Qc := fun A => QV (dC, dI) (ttys cA) (tcw ad cA) A σ') rfl rfl (Nat.le_of_ble_eq_true rfl) ?_
  intro p e s m below meth c A H locs ls X hP hD hS hl
  have hl : lv_has ls 2 [(0, .ref (ad 7))] := hl
  obtain ⟨hx, hb, hr, hml, hown, hlocks, hts, hA, hK, hZ⟩ := id X
  unfold tGrammar_block at hF
  refine lv_aload_n hx hb d_Grammar_block_0 rfl (lv_at hl 0 rfl) ?_
  refine va_get (D := (dC, dI)) (ci := 7) (v := .ref (ad 4)) hx hb hts i_Grammar hown hK hP 7 rfl rfl 1 (by decide) (hts _ w_6ad409d59f) (fun _ h9 => h9) rfl d_Grammar_block_1 ?_
  obtain ⟨r1, u1, h1, hF⟩ := b2E hF
  refine callVI (As := []) X (ct_Variables_startBlock l dC dI ad cA H.size h1) lk_Grammar_118 (trm_go rfl rfl (by decide) (by decide)) 4 rfl rfl hP hD hS hl.1 rfl rfl (Nat.le_of_ble_eq_true rfl) d_Grammar_block_4 (fun H locs hP hD hS => ?_)
  refine lv_istore_n (lv' := [(1, .int r1), (0, .ref (ad 7))]) hx hb d_Grammar_block_7 rfl hl (by decide) rfl (fun ls hl => ?_)
  refine lv_aload_n hx hb d_Grammar_block_8 rfl (lv_at hl 1 rfl) ?_
  refine va_get (D := (dC, dI)) (ci := 7) (v := .ref (ad 3)) hx hb hts i_Grammar hown hK hP 7 rfl rfl 0 (by decide) (hts _ w_a2db652071) (fun _ h9 => h9) rfl d_Grammar_block_9 ?_
  refine lv_bipush (v := 123) hx hb d_Grammar_block_12 (by decide) ?_
  obtain ⟨u2, h2, hF⟩ := b1E hF
  refine callVV (As := [.int 123]) X (ct_Cursor_passOpening l dC dI ad cA H.size h2) lk_Grammar_61 (trm_go rfl rfl (by decide) (by decide)) 3 rfl rfl hP hD hS hl.1 rfl rfl (Nat.le_of_ble_eq_true rfl) d_Grammar_block_14 (fun H locs hP hD hS => ?_)
  refine lv_aload_n hx hb d_Grammar_block_17 rfl (lv_at hl 1 rfl) ?_
  obtain ⟨r3, u3, h3, hF⟩ := b2E hF
  refine callVV (As := []) X (ih.2.2.2.2.2.2.2.2.2.2.2.2.2.2.2.1 dC dI ad cA H.size h3) lk_Grammar_83 (trm_gg (by decide)) 7 rfl rfl hP hD hS hl.1 rfl rfl (Nat.le_of_ble_eq_true rfl) d_Grammar_block_18 (fun H locs hP hD hS => ?_)
  refine lv_aload_n hx hb d_Grammar_block_21 rfl (lv_at hl 1 rfl) ?_
  refine va_get (D := (dC, dI)) (ci := 7) (v := .ref (ad 3)) hx hb hts i_Grammar hown hK hP 7 rfl rfl 0 (by decide) (hts _ w_a2db652071) (fun _ h9 => h9) rfl d_Grammar_block_22 ?_
  refine lv_bipush (v := 125) hx hb d_Grammar_block_25 (by decide) ?_
  obtain ⟨u4, h4, hF⟩ := b1E hF
  refine callVV (As := [.int 125]) X (ct_Cursor_passClosing l dC dI ad cA H.size h4) lk_Grammar_68 (trm_go rfl rfl (by decide) (by decide)) 3 rfl rfl hP hD hS hl.1 rfl rfl (Nat.le_of_ble_eq_true rfl) d_Grammar_block_27 (fun H locs hP hD hS => ?_)
  refine lv_aload_n hx hb d_Grammar_block_30 rfl (lv_at hl 1 rfl) ?_
  refine va_get (D := (dC, dI)) (ci := 7) (v := .ref (ad 4)) hx hb hts i_Grammar hown hK hP 7 rfl rfl 1 (by decide) (hts _ w_6ad409d59f) (fun _ h9 => h9) rfl d_Grammar_block_31 ?_
  refine lv_iload_n hx hb d_Grammar_block_34 rfl (lv_at hl 0 rfl) ?_
  obtain ⟨u5, h5, hF⟩ := b1E hF
  refine callVV (As := [.int r1]) X (ct_Variables_endBlock l dC dI ad cA H.size h5) lk_Grammar_121 (trm_go rfl rfl (by decide) (by decide)) 4 rfl rfl hP hD hS hl.1 rfl rfl (Nat.le_of_ble_eq_true rfl) d_Grammar_block_35 (fun H locs hP hD hS => ?_)
  cases hF
  exact leafV X hP hD hS d_Grammar_block_38
theorem d_Grammar_conditional_0 : decode b_Grammar_conditional 0 = .ok (.aload_n 0, 1) := by decide +kernel
theorem d_Grammar_conditional_1 : decode b_Grammar_conditional 1 = .ok (.getfield 23, 3) := by decide +kernel
theorem d_Grammar_conditional_4 : decode b_Grammar_conditional 4 = .ok (.getfield 35, 3) := by decide +kernel
theorem d_Grammar_conditional_7 : decode b_Grammar_conditional 7 = .ok (.istore_n 2, 1) := by decide +kernel
theorem d_Grammar_conditional_8 : decode b_Grammar_conditional 8 = .ok (.iload_n 1, 1) := by decide +kernel
theorem d_Grammar_conditional_9 : decode b_Grammar_conditional 9 = .ok (.bipush 6, 2) := by decide +kernel
theorem d_Grammar_conditional_11 : decode b_Grammar_conditional 11 = .ok (.if_icmp .ne 14, 3) := by decide +kernel
theorem d_Grammar_conditional_14 : decode b_Grammar_conditional 14 = .ok (.aload_n 0, 1) := by decide +kernel
theorem d_Grammar_conditional_15 : decode b_Grammar_conditional 15 = .ok (.getfield 23, 3) := by decide +kernel
theorem d_Grammar_conditional_18 : decode b_Grammar_conditional 18 = .ok (.bipush 20, 2) := by decide +kernel
theorem d_Grammar_conditional_20 : decode b_Grammar_conditional 20 = .ok (.iconst 0, 1) := by decide +kernel
theorem d_Grammar_conditional_21 : decode b_Grammar_conditional 21 = .ok (.iconst 0, 1) := by decide +kernel
theorem d_Grammar_conditional_22 : decode b_Grammar_conditional 22 = .ok (.invokevirtual 86, 3) := by decide +kernel
theorem d_Grammar_conditional_25 : decode b_Grammar_conditional 25 = .ok (.aload_n 0, 1) := by decide +kernel
theorem d_Grammar_conditional_26 : decode b_Grammar_conditional 26 = .ok (.getfield 9, 3) := by decide +kernel
theorem d_Grammar_conditional_29 : decode b_Grammar_conditional 29 = .ok (.iload_n 1, 1) := by decide +kernel
theorem d_Grammar_conditional_30 : decode b_Grammar_conditional 30 = .ok (.invokevirtual 48, 3) := by decide +kernel
theorem d_Grammar_conditional_33 : decode b_Grammar_conditional 33 = .ok (.aload_n 0, 1) := by decide +kernel
theorem d_Grammar_conditional_34 : decode b_Grammar_conditional 34 = .ok (.getfield 9, 3) := by decide +kernel
theorem d_Grammar_conditional_37 : decode b_Grammar_conditional 37 = .ok (.bipush 40, 2) := by decide +kernel
theorem d_Grammar_conditional_39 : decode b_Grammar_conditional 39 = .ok (.invokevirtual 61, 3) := by decide +kernel
theorem d_Grammar_conditional_42 : decode b_Grammar_conditional 42 = .ok (.aload_n 0, 1) := by decide +kernel
theorem d_Grammar_conditional_43 : decode b_Grammar_conditional 43 = .ok (.iconst 1, 1) := by decide +kernel
theorem d_Grammar_conditional_44 : decode b_Grammar_conditional 44 = .ok (.invokevirtual 112, 3) := by decide +kernel
theorem d_Grammar_conditional_47 : decode b_Grammar_conditional 47 = .ok (.aload_n 0, 1) := by decide +kernel
theorem d_Grammar_conditional_48 : decode b_Grammar_conditional 48 = .ok (.getfield 9, 3) := by decide +kernel
theorem d_Grammar_conditional_51 : decode b_Grammar_conditional 51 = .ok (.invokevirtual 124, 3) := by decide +kernel
theorem d_Grammar_conditional_54 : decode b_Grammar_conditional 54 = .ok (.aload_n 0, 1) := by decide +kernel
theorem d_Grammar_conditional_55 : decode b_Grammar_conditional 55 = .ok (.getfield 9, 3) := by decide +kernel
theorem d_Grammar_conditional_58 : decode b_Grammar_conditional 58 = .ok (.bipush 41, 2) := by decide +kernel
theorem d_Grammar_conditional_60 : decode b_Grammar_conditional 60 = .ok (.invokevirtual 61, 3) := by decide +kernel
theorem d_Grammar_conditional_63 : decode b_Grammar_conditional 63 = .ok (.aload_n 0, 1) := by decide +kernel
theorem d_Grammar_conditional_64 : decode b_Grammar_conditional 64 = .ok (.getfield 23, 3) := by decide +kernel
theorem d_Grammar_conditional_67 : decode b_Grammar_conditional 67 = .ok (.bipush 17, 2) := by decide +kernel
theorem d_Grammar_conditional_69 : decode b_Grammar_conditional 69 = .ok (.invokevirtual 127, 3) := by decide +kernel
theorem d_Grammar_conditional_72 : decode b_Grammar_conditional 72 = .ok (.istore_n 3, 1) := by decide +kernel
theorem d_Grammar_conditional_73 : decode b_Grammar_conditional 73 = .ok (.aload_n 0, 1) := by decide +kernel
theorem d_Grammar_conditional_74 : decode b_Grammar_conditional 74 = .ok (.iconst 0, 1) := by decide +kernel
theorem d_Grammar_conditional_75 : decode b_Grammar_conditional 75 = .ok (.invokevirtual 96, 3) := by decide +kernel
theorem d_Grammar_conditional_78 : decode b_Grammar_conditional 78 = .ok (.aload_n 0, 1) := by decide +kernel
theorem d_Grammar_conditional_79 : decode b_Grammar_conditional 79 = .ok (.getfield 9, 3) := by decide +kernel
theorem d_Grammar_conditional_82 : decode b_Grammar_conditional 82 = .ok (.invokevirtual 124, 3) := by decide +kernel
theorem d_Grammar_conditional_85 : decode b_Grammar_conditional 85 = .ok (.iload_n 1, 1) := by decide +kernel
theorem d_Grammar_conditional_86 : decode b_Grammar_conditional 86 = .ok (.bipush 6, 2) := by decide +kernel
theorem d_Grammar_conditional_88 : decode b_Grammar_conditional 88 = .ok (.if_icmp .ne 17, 3) := by decide +kernel
theorem d_Grammar_conditional_91 : decode b_Grammar_conditional 91 = .ok (.aload_n 0, 1) := by decide +kernel
theorem d_Grammar_conditional_92 : decode b_Grammar_conditional 92 = .ok (.getfield 23, 3) := by decide +kernel
theorem d_Grammar_conditional_95 : decode b_Grammar_conditional 95 = .ok (.bipush 16, 2) := by decide +kernel
theorem d_Grammar_conditional_97 : decode b_Grammar_conditional 97 = .ok (.iload_n 2, 1) := by decide +kernel
theorem d_Grammar_conditional_98 : decode b_Grammar_conditional 98 = .ok (.iconst 0, 1) := by decide +kernel
theorem d_Grammar_conditional_99 : decode b_Grammar_conditional 99 = .ok (.invokevirtual 86, 3) := by decide +kernel
theorem d_Grammar_conditional_102 : decode b_Grammar_conditional 102 = .ok (.goto 20, 3) := by decide +kernel
theorem d_Grammar_conditional_105 : decode b_Grammar_conditional 105 = .ok (.aload_n 0, 1) := by decide +kernel
theorem d_Grammar_conditional_106 : decode b_Grammar_conditional 106 = .ok (.getfield 9, 3) := by decide +kernel
theorem d_Grammar_conditional_109 : decode b_Grammar_conditional 109 = .ok (.invokevirtual 44, 3) := by decide +kernel
theorem d_Grammar_conditional_112 : decode b_Grammar_conditional 112 = .ok (.iconst 5, 1) := by decide +kernel
theorem d_Grammar_conditional_113 : decode b_Grammar_conditional 113 = .ok (.if_icmp .ne 9, 3) := by decide +kernel
theorem d_Grammar_conditional_116 : decode b_Grammar_conditional 116 = .ok (.aload_n 0, 1) := by decide +kernel
theorem d_Grammar_conditional_117 : decode b_Grammar_conditional 117 = .ok (.iload_n 3, 1) := by decide +kernel
theorem d_Grammar_conditional_118 : decode b_Grammar_conditional 118 = .ok (.invokevirtual 130, 3) := by decide +kernel
theorem d_Grammar_conditional_121 : decode b_Grammar_conditional 121 = .ok (.istore_n 3, 1) := by decide +kernel
theorem d_Grammar_conditional_122 : decode b_Grammar_conditional 122 = .ok (.aload_n 0, 1) := by decide +kernel
theorem d_Grammar_conditional_123 : decode b_Grammar_conditional 123 = .ok (.getfield 23, 3) := by decide +kernel
theorem d_Grammar_conditional_126 : decode b_Grammar_conditional 126 = .ok (.iload_n 3, 1) := by decide +kernel
theorem d_Grammar_conditional_127 : decode b_Grammar_conditional 127 = .ok (.invokevirtual 133, 3) := by decide +kernel
theorem d_Grammar_conditional_130 : decode b_Grammar_conditional 130 = .ok (.return_, 1) := by decide +kernel
def tGrammar_conditional_b1 (rec : Nat → St → Int32 → Int32 → Option (Int32 × St)) (k : Nat → St → Int32 → Int32 → Option (Int32 × St)) (σ : St) (x1 : Int32) (x2 : Int32) : Option (Int32 × St) := b1 (tCursor_pass σ x1) (fun u3 => b1 (tCursor_passOpening u3 40) (fun u4 => b2 (rec 16 u4 1 0) (fun r5 u5 => b1 (tCursor_close u5) (fun u6 => b1 (tCursor_passOpening u6 41) (fun u7 => b2 (tProgram_addJump u7 17) (fun r8 u8 => b2 (rec 14 u8 0 0) (fun r9 u9 => b1 (tCursor_close u9) (fun u10 => if x1 = 6 then b1 (tProgram_add u10 16 x2 0) (fun u17 => b1 (tProgram_land u17 r8) (fun u18 => some (0, u18))) else b1 (tCursor_kind u10) (fun r12 => if r12 = 5 then b2 (rec 10 u10 r8 0) (fun r15 u15 => b1 (tProgram_land u15 r15) (fun u16 => some (0, u16))) else b1 (tProgram_land u10 r8) (fun u14 => some (0, u14)))))))))))
def tGrammar_conditional_L (rec : Nat → St → Int32 → Int32 → Option (Int32 × St)) : Nat → Nat → St → Int32 → Int32 → Option (Int32 × St)
  | 0, _, _, _, _ => none
  | n + 1, lab, σ, x1, x2 => match lab with
    | 1 => tGrammar_conditional_b1 rec (tGrammar_conditional_L rec n) σ x1 x2
    | _ => none
def tGrammar_conditional (rec : Nat → St → Int32 → Int32 → Option (Int32 × St)) (σ : St) (a1 : Int32) : Option (Int32 × St) := if a1 = 6 then b1 (tProgram_add σ 20 0 0) (fun u2 => tGrammar_conditional_L rec 2000 1 u2 a1 (σ.1 13)) else tGrammar_conditional_L rec 2000 1 σ a1 (σ.1 13)
set_option maxHeartbeats 4000000 in
set_option maxRecDepth 100000 in
theorem tGrammar_conditional_blk {p : Program} {e : Env} {s : State} {m : MethodId} {args : Array Value} {below : List Frame} {meth : Method} {c : Code} {A : Nat → Prop} (l : Launch) (dC : Nat → ClassId) (dI : Nat → Nat → Nat) (ad : Nat → Nat) (cA : Nat → ClassId) {r : Int32} {σ' : St} {d : Nat} {rec : Nat → St → Int32 → Int32 → Option (Int32 × St)} (ih : tIH l d rec) (X : Cx p s m args meth c b_Grammar_conditional 4 none "TinyForge$Grammar" (dC, dI) (ttys cA) ad A) : ∀ n : Nat, (∀ (σ : St) (x1 : Int32) (x2 : Int32) (H : Heap) (locs : List Loc) (ls : Array Slot), tGrammar_conditional_L rec n 1 σ x1 x2 = some (r, σ') → va_P (dC, dI) vwCl (tcw ad cA σ) H → va_D A (tcw ad cA σ) → va_S A s.heap H locs → lv_has ls 4 [(0, .ref (ad 7)), (1, .int x1), (2, .int x2)] → W p l e (trm (d + 1)) s m args below meth c H locs 0 0 (MQ below (QV (dC, dI) (ttys cA) (tcw ad cA) A σ') args s 0 0 A) (F0 m 25 ls [])) := by
  obtain ⟨hx, hb, hr, hml, hown, hlocks, hts, hA, hK, hZ⟩ := id X
  intro n
  induction n with
  | zero => exact (fun σ x1 x2 H locs ls hF => by cases hF)
  | succ n ihn =>
    refine fun σ x1 x2 H locs ls hF hP hD hS hl => ?_
    · have hF : tGrammar_conditional_b1 rec (tGrammar_conditional_L rec n) σ x1 x2 = some (r, σ') := hF
      unfold tGrammar_conditional_b1 at hF
      refine lv_aload_n hx hb d_Grammar_conditional_25 rfl (lv_at hl 0 rfl) ?_
      refine va_get (D := (dC, dI)) (ci := 7) (v := .ref (ad 3)) hx hb hts i_Grammar hown hK hP 7 rfl rfl 0 (by decide) (hts _ w_a2db652071) (fun _ h9 => h9) rfl d_Grammar_conditional_26 ?_
      refine lv_iload_n hx hb d_Grammar_conditional_29 rfl (lv_at hl 1 rfl) ?_
      obtain ⟨u3, h3, hF⟩ := b1E hF
      refine callVV (As := [.int x1]) X (ct_Cursor_pass l dC dI ad cA H.size h3) lk_Grammar_48 (trm_go rfl rfl (by decide) (by decide)) 3 rfl rfl hP hD hS hl.1 rfl rfl (Nat.le_of_ble_eq_true rfl) d_Grammar_conditional_30 (fun H locs hP hD hS => ?_)
      refine lv_aload_n hx hb d_Grammar_conditional_33 rfl (lv_at hl 0 rfl) ?_
      refine va_get (D := (dC, dI)) (ci := 7) (v := .ref (ad 3)) hx hb hts i_Grammar hown hK hP 7 rfl rfl 0 (by decide) (hts _ w_a2db652071) (fun _ h9 => h9) rfl d_Grammar_conditional_34 ?_
      refine lv_bipush (v := 40) hx hb d_Grammar_conditional_37 (by decide) ?_
      obtain ⟨u4, h4, hF⟩ := b1E hF
      refine callVV (As := [.int 40]) X (ct_Cursor_passOpening l dC dI ad cA H.size h4) lk_Grammar_61 (trm_go rfl rfl (by decide) (by decide)) 3 rfl rfl hP hD hS hl.1 rfl rfl (Nat.le_of_ble_eq_true rfl) d_Grammar_conditional_39 (fun H locs hP hD hS => ?_)
      refine lv_aload_n hx hb d_Grammar_conditional_42 rfl (lv_at hl 0 rfl) ?_
      refine lv_iconst (v := 1) hx hb d_Grammar_conditional_43 (by decide) ?_
      obtain ⟨r5, u5, h5, hF⟩ := b2E hF
      refine callVV (As := [.int 1]) X (ih.2.2.2.2.2.2.2.2.2.2.2.2.2.2.2.2 dC dI ad cA H.size h5) lk_Grammar_112 (trm_gg (by decide)) 7 rfl rfl hP hD hS hl.1 rfl rfl (Nat.le_of_ble_eq_true rfl) d_Grammar_conditional_44 (fun H locs hP hD hS => ?_)
      refine lv_aload_n hx hb d_Grammar_conditional_47 rfl (lv_at hl 0 rfl) ?_
      refine va_get (D := (dC, dI)) (ci := 7) (v := .ref (ad 3)) hx hb hts i_Grammar hown hK hP 7 rfl rfl 0 (by decide) (hts _ w_a2db652071) (fun _ h9 => h9) rfl d_Grammar_conditional_48 ?_
      obtain ⟨u6, h6, hF⟩ := b1E hF
      refine callVV (As := []) X (ct_Cursor_close l dC dI ad cA H.size h6) lk_Grammar_124 (trm_go rfl rfl (by decide) (by decide)) 3 rfl rfl hP hD hS hl.1 rfl rfl (Nat.le_of_ble_eq_true rfl) d_Grammar_conditional_51 (fun H locs hP hD hS => ?_)
      refine lv_aload_n hx hb d_Grammar_conditional_54 rfl (lv_at hl 0 rfl) ?_
      refine va_get (D := (dC, dI)) (ci := 7) (v := .ref (ad 3)) hx hb hts i_Grammar hown hK hP 7 rfl rfl 0 (by decide) (hts _ w_a2db652071) (fun _ h9 => h9) rfl d_Grammar_conditional_55 ?_
      refine lv_bipush (v := 41) hx hb d_Grammar_conditional_58 (by decide) ?_
      obtain ⟨u7, h7, hF⟩ := b1E hF
      refine callVV (As := [.int 41]) X (ct_Cursor_passOpening l dC dI ad cA H.size h7) lk_Grammar_61 (trm_go rfl rfl (by decide) (by decide)) 3 rfl rfl hP hD hS hl.1 rfl rfl (Nat.le_of_ble_eq_true rfl) d_Grammar_conditional_60 (fun H locs hP hD hS => ?_)
      refine lv_aload_n hx hb d_Grammar_conditional_63 rfl (lv_at hl 0 rfl) ?_
      refine va_get (D := (dC, dI)) (ci := 7) (v := .ref (ad 6)) hx hb hts i_Grammar hown hK hP 7 rfl rfl 3 (by decide) (hts _ w_72b36bc41d) (fun _ h9 => h9) rfl d_Grammar_conditional_64 ?_
      refine lv_bipush (v := 17) hx hb d_Grammar_conditional_67 (by decide) ?_
      obtain ⟨r8, u8, h8, hF⟩ := b2E hF
      refine callVI (As := [.int 17]) X (ct_Program_addJump l dC dI ad cA H.size h8) lk_Grammar_127 (trm_go rfl rfl (by decide) (by decide)) 6 rfl rfl hP hD hS hl.1 rfl rfl (Nat.le_of_ble_eq_true rfl) d_Grammar_conditional_69 (fun H locs hP hD hS => ?_)
      refine lv_istore_n (lv' := [(3, .int r8), (0, .ref (ad 7)), (1, .int x1), (2, .int x2)]) hx hb d_Grammar_conditional_72 rfl hl (by decide) rfl (fun ls hl => ?_)
      refine lv_aload_n hx hb d_Grammar_conditional_73 rfl (lv_at hl 1 rfl) ?_
      refine lv_iconst (v := 0) hx hb d_Grammar_conditional_74 (by decide) ?_
      obtain ⟨r9, u9, h9, hF⟩ := b2E hF
      refine callVV (As := [.int 0]) X (ih.2.2.2.2.2.2.2.2.2.2.2.2.2.2.1 dC dI ad cA H.size h9) lk_Grammar_96 (trm_gg (by decide)) 7 rfl rfl hP hD hS hl.1 rfl rfl (Nat.le_of_ble_eq_true rfl) d_Grammar_conditional_75 (fun H locs hP hD hS => ?_)
      refine lv_aload_n hx hb d_Grammar_conditional_78 rfl (lv_at hl 1 rfl) ?_
      refine va_get (D := (dC, dI)) (ci := 7) (v := .ref (ad 3)) hx hb hts i_Grammar hown hK hP 7 rfl rfl 0 (by decide) (hts _ w_a2db652071) (fun _ h9 => h9) rfl d_Grammar_conditional_79 ?_
      obtain ⟨u10, h10, hF⟩ := b1E hF
      refine callVV (As := []) X (ct_Cursor_close l dC dI ad cA H.size h10) lk_Grammar_124 (trm_go rfl rfl (by decide) (by decide)) 3 rfl rfl hP hD hS hl.1 rfl rfl (Nat.le_of_ble_eq_true rfl) d_Grammar_conditional_82 (fun H locs hP hD hS => ?_)
      refine lv_iload_n hx hb d_Grammar_conditional_85 rfl (lv_at hl 2 rfl) ?_
      refine lv_bipush (v := 6) hx hb d_Grammar_conditional_86 (by decide) ?_
      refine lv_icmp_ne (tgt := 105) hx hb d_Grammar_conditional_88 (by decide) (fun c_11 => ?_) (fun c_11 => ?_)
      · have hF := ifn hF c_11
        refine lv_aload_n hx hb d_Grammar_conditional_105 rfl (lv_at hl 1 rfl) ?_
        refine va_get (D := (dC, dI)) (ci := 7) (v := .ref (ad 3)) hx hb hts i_Grammar hown hK hP 7 rfl rfl 0 (by decide) (hts _ w_a2db652071) (fun _ h9 => h9) rfl d_Grammar_conditional_106 ?_
        obtain ⟨r12, h12, hF⟩ := b1E hF
        refine callVI (As := []) X (ct_Cursor_kind l dC dI ad cA H.size h12) lk_Grammar_44 (trm_go rfl rfl (by decide) (by decide)) 3 rfl rfl hP hD hS hl.1 rfl rfl (Nat.le_of_ble_eq_true rfl) d_Grammar_conditional_109 (fun H locs hP hD hS => ?_)
        refine lv_iconst (v := 5) hx hb d_Grammar_conditional_112 (by decide) ?_
        refine lv_icmp_ne (tgt := 122) hx hb d_Grammar_conditional_113 (by decide) (fun c_13 => ?_) (fun c_13 => ?_)
        · have hF := ifn hF c_13
          refine lv_aload_n hx hb d_Grammar_conditional_122 rfl (lv_at hl 1 rfl) ?_
          refine va_get (D := (dC, dI)) (ci := 7) (v := .ref (ad 6)) hx hb hts i_Grammar hown hK hP 7 rfl rfl 3 (by decide) (hts _ w_72b36bc41d) (fun _ h9 => h9) rfl d_Grammar_conditional_123 ?_
          refine lv_iload_n hx hb d_Grammar_conditional_126 rfl (lv_at hl 0 rfl) ?_
          obtain ⟨u14, h14, hF⟩ := b1E hF
          refine callVV (As := [.int r8]) X (ct_Program_land l dC dI ad cA H.size h14) lk_Grammar_133 (trm_go rfl rfl (by decide) (by decide)) 6 rfl rfl hP hD hS hl.1 rfl rfl (Nat.le_of_ble_eq_true rfl) d_Grammar_conditional_127 (fun H locs hP hD hS => ?_)
          cases hF
          exact leafV X hP hD hS d_Grammar_conditional_130
        · have hF := ifp hF c_13
          refine lv_aload_n hx hb d_Grammar_conditional_116 rfl (lv_at hl 1 rfl) ?_
          refine lv_iload_n hx hb d_Grammar_conditional_117 rfl (lv_at hl 0 rfl) ?_
          obtain ⟨r15, u15, h15, hF⟩ := b2E hF
          refine callVI (As := [.int r8]) X (ih.2.2.2.2.2.2.2.2.2.2.1 dC dI ad cA H.size h15) lk_Grammar_130 (trm_gg (by decide)) 7 rfl rfl hP hD hS hl.1 rfl rfl (Nat.le_of_ble_eq_true rfl) d_Grammar_conditional_118 (fun H locs hP hD hS => ?_)
          refine lv_istore_n (lv' := [(3, .int r15), (0, .ref (ad 7)), (1, .int x1), (2, .int x2)]) hx hb d_Grammar_conditional_121 rfl hl (by decide) rfl (fun ls hl => ?_)
          refine lv_aload_n hx hb d_Grammar_conditional_122 rfl (lv_at hl 1 rfl) ?_
          refine va_get (D := (dC, dI)) (ci := 7) (v := .ref (ad 6)) hx hb hts i_Grammar hown hK hP 7 rfl rfl 3 (by decide) (hts _ w_72b36bc41d) (fun _ h9 => h9) rfl d_Grammar_conditional_123 ?_
          refine lv_iload_n hx hb d_Grammar_conditional_126 rfl (lv_at hl 0 rfl) ?_
          obtain ⟨u16, h16, hF⟩ := b1E hF
          refine callVV (As := [.int r15]) X (ct_Program_land l dC dI ad cA H.size h16) lk_Grammar_133 (trm_go rfl rfl (by decide) (by decide)) 6 rfl rfl hP hD hS hl.1 rfl rfl (Nat.le_of_ble_eq_true rfl) d_Grammar_conditional_127 (fun H locs hP hD hS => ?_)
          cases hF
          exact leafV X hP hD hS d_Grammar_conditional_130
      · have hF := ifp hF c_11
        refine lv_aload_n hx hb d_Grammar_conditional_91 rfl (lv_at hl 1 rfl) ?_
        refine va_get (D := (dC, dI)) (ci := 7) (v := .ref (ad 6)) hx hb hts i_Grammar hown hK hP 7 rfl rfl 3 (by decide) (hts _ w_72b36bc41d) (fun _ h9 => h9) rfl d_Grammar_conditional_92 ?_
        refine lv_bipush (v := 16) hx hb d_Grammar_conditional_95 (by decide) ?_
        refine lv_iload_n hx hb d_Grammar_conditional_97 rfl (lv_at hl 3 rfl) ?_
        refine lv_iconst (v := 0) hx hb d_Grammar_conditional_98 (by decide) ?_
        obtain ⟨u17, h17, hF⟩ := b1E hF
        refine callVV (As := [.int 16, .int x2, .int 0]) X (ct_Program_add l dC dI ad cA H.size h17) lk_Grammar_86 (trm_go rfl rfl (by decide) (by decide)) 6 rfl rfl hP hD hS hl.1 rfl rfl (Nat.le_of_ble_eq_true rfl) d_Grammar_conditional_99 (fun H locs hP hD hS => ?_)
        refine lv_goto (tgt := 122) hx hb d_Grammar_conditional_102 (by decide) ?_
        refine lv_aload_n hx hb d_Grammar_conditional_122 rfl (lv_at hl 1 rfl) ?_
        refine va_get (D := (dC, dI)) (ci := 7) (v := .ref (ad 6)) hx hb hts i_Grammar hown hK hP 7 rfl rfl 3 (by decide) (hts _ w_72b36bc41d) (fun _ h9 => h9) rfl d_Grammar_conditional_123 ?_
        refine lv_iload_n hx hb d_Grammar_conditional_126 rfl (lv_at hl 0 rfl) ?_
        obtain ⟨u18, h18, hF⟩ := b1E hF
        refine callVV (As := [.int r8]) X (ct_Program_land l dC dI ad cA H.size h18) lk_Grammar_133 (trm_go rfl rfl (by decide) (by decide)) 6 rfl rfl hP hD hS hl.1 rfl rfl (Nat.le_of_ble_eq_true rfl) d_Grammar_conditional_127 (fun H locs hP hD hS => ?_)
        cases hF
        exact leafV X hP hD hS d_Grammar_conditional_130
set_option maxHeartbeats 4000000 in
set_option maxRecDepth 100000 in
theorem ct_Grammar_conditional (l : Launch) (dC : Nat → ClassId) (dI : Nat → Nat → Nat) (ad : Nat → Nat) (cA : Nat → ClassId) (sz : Nat) {σ : St} {a1 : Int32} {r : Int32} {σ' : St} {d : Nat} {rec : Nat → St → Int32 → Int32 → Option (Int32 × St)} (ih : tIH l d rec) (hF : tGrammar_conditional rec σ a1 = some (r, σ')) : MV l y_Grammar_conditional b_Grammar_conditional 4 none (trm (d + 1)) (dC, dI) (ttys cA) ad (tcw ad cA) [.ref (ad 7), .int a1] σ sz σ' := by
  refine startM (own := "TinyForge$Grammar") (Qc := fun A => QV (dC, dI) (ttys cA) (tcw ad cA) A σ') rfl rfl (Nat.le_of_ble_eq_true rfl) ?_
  intro p e s m below meth c A H locs ls X hP hD hS hl
  have hl : lv_has ls 4 [(0, .ref (ad 7)), (1, .int a1)] := hl
  obtain ⟨hx, hb, hr, hml, hown, hlocks, hts, hA, hK, hZ⟩ := id X
  unfold tGrammar_conditional at hF
  refine lv_aload_n hx hb d_Grammar_conditional_0 rfl (lv_at hl 0 rfl) ?_
  refine va_get (D := (dC, dI)) (ci := 7) (v := .ref (ad 6)) hx hb hts i_Grammar hown hK hP 7 rfl rfl 3 (by decide) (hts _ w_72b36bc41d) (fun _ h9 => h9) rfl d_Grammar_conditional_1 ?_
  refine va_get (D := (dC, dI)) (ci := 6) (v := .int (σ.1 13)) hx hb hts i_Program hown hK hP 6 rfl rfl 3 (by decide) (hts _ w_36eee884fe) (fun _ h9 => h9) rfl d_Grammar_conditional_4 ?_
  refine lv_istore_n (lv' := [(2, .int (σ.1 13)), (0, .ref (ad 7)), (1, .int a1)]) hx hb d_Grammar_conditional_7 rfl hl (by decide) rfl (fun ls hl => ?_)
  refine lv_iload_n hx hb d_Grammar_conditional_8 rfl (lv_at hl 2 rfl) ?_
  refine lv_bipush (v := 6) hx hb d_Grammar_conditional_9 (by decide) ?_
  refine lv_icmp_ne (tgt := 25) hx hb d_Grammar_conditional_11 (by decide) (fun c_1 => ?_) (fun c_1 => ?_)
  · have hF := ifn hF c_1
    exact (tGrammar_conditional_blk l dC dI ad cA ih X 2000) σ a1 (σ.1 13) H locs ls hF hP hD hS (lv_sub hl [1, 2, 0] rfl)
  · have hF := ifp hF c_1
    refine lv_aload_n hx hb d_Grammar_conditional_14 rfl (lv_at hl 1 rfl) ?_
    refine va_get (D := (dC, dI)) (ci := 7) (v := .ref (ad 6)) hx hb hts i_Grammar hown hK hP 7 rfl rfl 3 (by decide) (hts _ w_72b36bc41d) (fun _ h9 => h9) rfl d_Grammar_conditional_15 ?_
    refine lv_bipush (v := 20) hx hb d_Grammar_conditional_18 (by decide) ?_
    refine lv_iconst (v := 0) hx hb d_Grammar_conditional_20 (by decide) ?_
    refine lv_iconst (v := 0) hx hb d_Grammar_conditional_21 (by decide) ?_
    obtain ⟨u2, h2, hF⟩ := b1E hF
    refine callVV (As := [.int 20, .int 0, .int 0]) X (ct_Program_add l dC dI ad cA H.size h2) lk_Grammar_86 (trm_go rfl rfl (by decide) (by decide)) 6 rfl rfl hP hD hS hl.1 rfl rfl (Nat.le_of_ble_eq_true rfl) d_Grammar_conditional_22 (fun H locs hP hD hS => ?_)
    exact (tGrammar_conditional_blk l dC dI ad cA ih X 2000) u2 a1 (σ.1 13) H locs ls hF hP hD hS (lv_sub hl [1, 2, 0] rfl)
theorem d_Grammar_element_0 : decode b_Grammar_element 0 = .ok (.aload_n 0, 1) := by decide +kernel
theorem d_Grammar_element_1 : decode b_Grammar_element 1 = .ok (.getfield 15, 3) := by decide +kernel
theorem d_Grammar_element_4 : decode b_Grammar_element 4 = .ok (.aload_n 0, 1) := by decide +kernel
theorem d_Grammar_element_5 : decode b_Grammar_element 5 = .ok (.getfield 9, 3) := by decide +kernel
theorem d_Grammar_element_8 : decode b_Grammar_element 8 = .ok (.getfield 52, 3) := by decide +kernel
theorem d_Grammar_element_11 : decode b_Grammar_element 11 = .ok (.invokevirtual 169, 3) := by decide +kernel
theorem d_Grammar_element_14 : decode b_Grammar_element 14 = .ok (.aload_n 0, 1) := by decide +kernel
theorem d_Grammar_element_15 : decode b_Grammar_element 15 = .ok (.getfield 9, 3) := by decide +kernel
theorem d_Grammar_element_18 : decode b_Grammar_element 18 = .ok (.iconst 1, 1) := by decide +kernel
theorem d_Grammar_element_19 : decode b_Grammar_element 19 = .ok (.invokevirtual 48, 3) := by decide +kernel
theorem d_Grammar_element_22 : decode b_Grammar_element 22 = .ok (.aload_n 0, 1) := by decide +kernel
theorem d_Grammar_element_23 : decode b_Grammar_element 23 = .ok (.getfield 9, 3) := by decide +kernel
theorem d_Grammar_element_26 : decode b_Grammar_element 26 = .ok (.bipush 91, 2) := by decide +kernel
theorem d_Grammar_element_28 : decode b_Grammar_element 28 = .ok (.invokevirtual 61, 3) := by decide +kernel
theorem d_Grammar_element_31 : decode b_Grammar_element 31 = .ok (.aload_n 0, 1) := by decide +kernel
theorem d_Grammar_element_32 : decode b_Grammar_element 32 = .ok (.iconst 1, 1) := by decide +kernel
theorem d_Grammar_element_33 : decode b_Grammar_element 33 = .ok (.invokevirtual 112, 3) := by decide +kernel
theorem d_Grammar_element_36 : decode b_Grammar_element 36 = .ok (.aload_n 0, 1) := by decide +kernel
theorem d_Grammar_element_37 : decode b_Grammar_element 37 = .ok (.getfield 9, 3) := by decide +kernel
theorem d_Grammar_element_40 : decode b_Grammar_element 40 = .ok (.bipush 93, 2) := by decide +kernel
theorem d_Grammar_element_42 : decode b_Grammar_element 42 = .ok (.invokevirtual 68, 3) := by decide +kernel
theorem d_Grammar_element_45 : decode b_Grammar_element 45 = .ok (.return_, 1) := by decide +kernel
def tGrammar_element (rec : Nat → St → Int32 → Int32 → Option (Int32 × St)) (σ : St) : Option (Int32 × St) := b1 (tVariables_mustNotHide σ (σ.1 6)) (fun u1 => b1 (tCursor_pass u1 1) (fun u2 => b1 (tCursor_passOpening u2 91) (fun u3 => b2 (rec 16 u3 1 0) (fun r4 u4 => b1 (tCursor_passClosing u4 93) (fun u5 => some (0, u5))))))
set_option maxHeartbeats 4000000 in
set_option maxRecDepth 100000 in
theorem ct_Grammar_element (l : Launch) (dC : Nat → ClassId) (dI : Nat → Nat → Nat) (ad : Nat → Nat) (cA : Nat → ClassId) (sz : Nat) {σ : St} {r : Int32} {σ' : St} {d : Nat} {rec : Nat → St → Int32 → Int32 → Option (Int32 × St)} (ih : tIH l d rec) (hF : tGrammar_element rec σ = some (r, σ')) : MV l y_Grammar_element b_Grammar_element 1 none (trm (d + 1)) (dC, dI) (ttys cA) ad (tcw ad cA) [.ref (ad 7)] σ sz σ' := by
  refine startM (own := "TinyForge$Grammar") (Qc := fun A => QV (dC, dI) (ttys cA) (tcw ad cA) A σ') rfl rfl (Nat.le_of_ble_eq_true rfl) ?_
  intro p e s m below meth c A H locs ls X hP hD hS hl
  have hl : lv_has ls 1 [(0, .ref (ad 7))] := hl
  obtain ⟨hx, hb, hr, hml, hown, hlocks, hts, hA, hK, hZ⟩ := id X
  unfold tGrammar_element at hF
  refine lv_aload_n hx hb d_Grammar_element_0 rfl (lv_at hl 0 rfl) ?_
  refine va_get (D := (dC, dI)) (ci := 7) (v := .ref (ad 4)) hx hb hts i_Grammar hown hK hP 7 rfl rfl 1 (by decide) (hts _ w_6ad409d59f) (fun _ h9 => h9) rfl d_Grammar_element_1 ?_
  refine lv_aload_n hx hb d_Grammar_element_4 rfl (lv_at hl 0 rfl) ?_
  refine va_get (D := (dC, dI)) (ci := 7) (v := .ref (ad 3)) hx hb hts i_Grammar hown hK hP 7 rfl rfl 0 (by decide) (hts _ w_a2db652071) (fun _ h9 => h9) rfl d_Grammar_element_5 ?_
  refine va_get (D := (dC, dI)) (ci := 3) (v := .int (σ.1 6)) hx hb hts i_Cursor hown hK hP 3 rfl rfl 2 (by decide) (hts _ w_1aaaf03a26) (fun _ h9 => h9) rfl d_Grammar_element_8 ?_
  obtain ⟨u1, h1, hF⟩ := b1E hF
  refine callVV (As := [.int (σ.1 6)]) X (ct_Variables_mustNotHide l dC dI ad cA H.size h1) lk_Grammar_169 (trm_go rfl rfl (by decide) (by decide)) 4 rfl rfl hP hD hS hl.1 rfl rfl (Nat.le_of_ble_eq_true rfl) d_Grammar_element_11 (fun H locs hP hD hS => ?_)
  refine lv_aload_n hx hb d_Grammar_element_14 rfl (lv_at hl 0 rfl) ?_
  refine va_get (D := (dC, dI)) (ci := 7) (v := .ref (ad 3)) hx hb hts i_Grammar hown hK hP 7 rfl rfl 0 (by decide) (hts _ w_a2db652071) (fun _ h9 => h9) rfl d_Grammar_element_15 ?_
  refine lv_iconst (v := 1) hx hb d_Grammar_element_18 (by decide) ?_
  obtain ⟨u2, h2, hF⟩ := b1E hF
  refine callVV (As := [.int 1]) X (ct_Cursor_pass l dC dI ad cA H.size h2) lk_Grammar_48 (trm_go rfl rfl (by decide) (by decide)) 3 rfl rfl hP hD hS hl.1 rfl rfl (Nat.le_of_ble_eq_true rfl) d_Grammar_element_19 (fun H locs hP hD hS => ?_)
  refine lv_aload_n hx hb d_Grammar_element_22 rfl (lv_at hl 0 rfl) ?_
  refine va_get (D := (dC, dI)) (ci := 7) (v := .ref (ad 3)) hx hb hts i_Grammar hown hK hP 7 rfl rfl 0 (by decide) (hts _ w_a2db652071) (fun _ h9 => h9) rfl d_Grammar_element_23 ?_
  refine lv_bipush (v := 91) hx hb d_Grammar_element_26 (by decide) ?_
  obtain ⟨u3, h3, hF⟩ := b1E hF
  refine callVV (As := [.int 91]) X (ct_Cursor_passOpening l dC dI ad cA H.size h3) lk_Grammar_61 (trm_go rfl rfl (by decide) (by decide)) 3 rfl rfl hP hD hS hl.1 rfl rfl (Nat.le_of_ble_eq_true rfl) d_Grammar_element_28 (fun H locs hP hD hS => ?_)
  refine lv_aload_n hx hb d_Grammar_element_31 rfl (lv_at hl 0 rfl) ?_
  refine lv_iconst (v := 1) hx hb d_Grammar_element_32 (by decide) ?_
  obtain ⟨r4, u4, h4, hF⟩ := b2E hF
  refine callVV (As := [.int 1]) X (ih.2.2.2.2.2.2.2.2.2.2.2.2.2.2.2.2 dC dI ad cA H.size h4) lk_Grammar_112 (trm_gg (by decide)) 7 rfl rfl hP hD hS hl.1 rfl rfl (Nat.le_of_ble_eq_true rfl) d_Grammar_element_33 (fun H locs hP hD hS => ?_)
  refine lv_aload_n hx hb d_Grammar_element_36 rfl (lv_at hl 0 rfl) ?_
  refine va_get (D := (dC, dI)) (ci := 7) (v := .ref (ad 3)) hx hb hts i_Grammar hown hK hP 7 rfl rfl 0 (by decide) (hts _ w_a2db652071) (fun _ h9 => h9) rfl d_Grammar_element_37 ?_
  refine lv_bipush (v := 93) hx hb d_Grammar_element_40 (by decide) ?_
  obtain ⟨u5, h5, hF⟩ := b1E hF
  refine callVV (As := [.int 93]) X (ct_Cursor_passClosing l dC dI ad cA H.size h5) lk_Grammar_68 (trm_go rfl rfl (by decide) (by decide)) 3 rfl rfl hP hD hS hl.1 rfl rfl (Nat.le_of_ble_eq_true rfl) d_Grammar_element_42 (fun H locs hP hD hS => ?_)
  cases hF
  exact leafV X hP hD hS d_Grammar_element_45
theorem d_Grammar_elementFirst_0 : decode b_Grammar_elementFirst 0 = .ok (.aload_n 0, 1) := by decide +kernel
theorem d_Grammar_elementFirst_1 : decode b_Grammar_elementFirst 1 = .ok (.invokevirtual 145, 3) := by decide +kernel
theorem d_Grammar_elementFirst_4 : decode b_Grammar_elementFirst 4 = .ok (.aload_n 0, 1) := by decide +kernel
theorem d_Grammar_elementFirst_5 : decode b_Grammar_elementFirst 5 = .ok (.getfield 9, 3) := by decide +kernel
theorem d_Grammar_elementFirst_8 : decode b_Grammar_elementFirst 8 = .ok (.invokevirtual 44, 3) := by decide +kernel
theorem d_Grammar_elementFirst_11 : decode b_Grammar_elementFirst 11 = .ok (.bipush 61, 2) := by decide +kernel
theorem d_Grammar_elementFirst_13 : decode b_Grammar_elementFirst 13 = .ok (.if_icmp .ne 22, 3) := by decide +kernel
theorem d_Grammar_elementFirst_16 : decode b_Grammar_elementFirst 16 = .ok (.aload_n 0, 1) := by decide +kernel
theorem d_Grammar_elementFirst_17 : decode b_Grammar_elementFirst 17 = .ok (.getfield 9, 3) := by decide +kernel
theorem d_Grammar_elementFirst_20 : decode b_Grammar_elementFirst 20 = .ok (.bipush 61, 2) := by decide +kernel
theorem d_Grammar_elementFirst_22 : decode b_Grammar_elementFirst 22 = .ok (.invokevirtual 48, 3) := by decide +kernel
theorem d_Grammar_elementFirst_25 : decode b_Grammar_elementFirst 25 = .ok (.aload_n 0, 1) := by decide +kernel
theorem d_Grammar_elementFirst_26 : decode b_Grammar_elementFirst 26 = .ok (.bipush 14, 2) := by decide +kernel
theorem d_Grammar_elementFirst_28 : decode b_Grammar_elementFirst 28 = .ok (.iload_n 1, 1) := by decide +kernel
theorem d_Grammar_elementFirst_29 : decode b_Grammar_elementFirst 29 = .ok (.invokevirtual 109, 3) := by decide +kernel
theorem d_Grammar_elementFirst_32 : decode b_Grammar_elementFirst 32 = .ok (.goto 39, 3) := by decide +kernel
theorem d_Grammar_elementFirst_35 : decode b_Grammar_elementFirst 35 = .ok (.aload_n 0, 1) := by decide +kernel
theorem d_Grammar_elementFirst_36 : decode b_Grammar_elementFirst 36 = .ok (.getfield 23, 3) := by decide +kernel
theorem d_Grammar_elementFirst_39 : decode b_Grammar_elementFirst 39 = .ok (.bipush 13, 2) := by decide +kernel
theorem d_Grammar_elementFirst_41 : decode b_Grammar_elementFirst 41 = .ok (.iload_n 1, 1) := by decide +kernel
theorem d_Grammar_elementFirst_42 : decode b_Grammar_elementFirst 42 = .ok (.iconst 0, 1) := by decide +kernel
theorem d_Grammar_elementFirst_43 : decode b_Grammar_elementFirst 43 = .ok (.invokevirtual 86, 3) := by decide +kernel
theorem d_Grammar_elementFirst_46 : decode b_Grammar_elementFirst 46 = .ok (.aload_n 0, 1) := by decide +kernel
theorem d_Grammar_elementFirst_47 : decode b_Grammar_elementFirst 47 = .ok (.iconst 1, 1) := by decide +kernel
theorem d_Grammar_elementFirst_48 : decode b_Grammar_elementFirst 48 = .ok (.invokevirtual 148, 3) := by decide +kernel
theorem d_Grammar_elementFirst_51 : decode b_Grammar_elementFirst 51 = .ok (.aload_n 0, 1) := by decide +kernel
theorem d_Grammar_elementFirst_52 : decode b_Grammar_elementFirst 52 = .ok (.getfield 9, 3) := by decide +kernel
theorem d_Grammar_elementFirst_55 : decode b_Grammar_elementFirst 55 = .ok (.bipush 59, 2) := by decide +kernel
theorem d_Grammar_elementFirst_57 : decode b_Grammar_elementFirst 57 = .ok (.invokevirtual 48, 3) := by decide +kernel
theorem d_Grammar_elementFirst_60 : decode b_Grammar_elementFirst 60 = .ok (.aload_n 0, 1) := by decide +kernel
theorem d_Grammar_elementFirst_61 : decode b_Grammar_elementFirst 61 = .ok (.getfield 23, 3) := by decide +kernel
theorem d_Grammar_elementFirst_64 : decode b_Grammar_elementFirst 64 = .ok (.bipush 21, 2) := by decide +kernel
theorem d_Grammar_elementFirst_66 : decode b_Grammar_elementFirst 66 = .ok (.iconst 0, 1) := by decide +kernel
theorem d_Grammar_elementFirst_67 : decode b_Grammar_elementFirst 67 = .ok (.iconst 0, 1) := by decide +kernel
theorem d_Grammar_elementFirst_68 : decode b_Grammar_elementFirst 68 = .ok (.invokevirtual 86, 3) := by decide +kernel
theorem d_Grammar_elementFirst_71 : decode b_Grammar_elementFirst 71 = .ok (.return_, 1) := by decide +kernel
def tGrammar_elementFirst (rec : Nat → St → Int32 → Int32 → Option (Int32 × St)) (σ : St) (a1 : Int32) : Option (Int32 × St) := b2 (rec 2 σ 0 0) (fun r1 u1 => b1 (tCursor_kind u1) (fun r2 => if r2 = 61 then b1 (tCursor_pass u1 61) (fun u8 => b2 (rec 4 u8 14 a1) (fun r9 u9 => some (0, u9))) else b1 (tProgram_add u1 13 a1 0) (fun u4 => b2 (rec 13 u4 1 0) (fun r5 u5 => b1 (tCursor_pass u5 59) (fun u6 => b1 (tProgram_add u6 21 0 0) (fun u7 => some (0, u7)))))))
set_option maxHeartbeats 4000000 in
set_option maxRecDepth 100000 in
theorem ct_Grammar_elementFirst (l : Launch) (dC : Nat → ClassId) (dI : Nat → Nat → Nat) (ad : Nat → Nat) (cA : Nat → ClassId) (sz : Nat) {σ : St} {a1 : Int32} {r : Int32} {σ' : St} {d : Nat} {rec : Nat → St → Int32 → Int32 → Option (Int32 × St)} (ih : tIH l d rec) (hF : tGrammar_elementFirst rec σ a1 = some (r, σ')) : MV l y_Grammar_elementFirst b_Grammar_elementFirst 2 none (trm (d + 1)) (dC, dI) (ttys cA) ad (tcw ad cA) [.ref (ad 7), .int a1] σ sz σ' := by
  refine startM (own := "TinyForge$Grammar") (Qc := fun A => QV (dC, dI) (ttys cA) (tcw ad cA) A σ') rfl rfl (Nat.le_of_ble_eq_true rfl) ?_
  intro p e s m below meth c A H locs ls X hP hD hS hl
  have hl : lv_has ls 2 [(0, .ref (ad 7)), (1, .int a1)] := hl
  obtain ⟨hx, hb, hr, hml, hown, hlocks, hts, hA, hK, hZ⟩ := id X
  unfold tGrammar_elementFirst at hF
  refine lv_aload_n hx hb d_Grammar_elementFirst_0 rfl (lv_at hl 0 rfl) ?_
  obtain ⟨r1, u1, h1, hF⟩ := b2E hF
  refine callVV (As := []) X (ih.2.2.1 dC dI ad cA H.size h1) lk_Grammar_145 (trm_gg (by decide)) 7 rfl rfl hP hD hS hl.1 rfl rfl (Nat.le_of_ble_eq_true rfl) d_Grammar_elementFirst_1 (fun H locs hP hD hS => ?_)
  refine lv_aload_n hx hb d_Grammar_elementFirst_4 rfl (lv_at hl 0 rfl) ?_
  refine va_get (D := (dC, dI)) (ci := 7) (v := .ref (ad 3)) hx hb hts i_Grammar hown hK hP 7 rfl rfl 0 (by decide) (hts _ w_a2db652071) (fun _ h9 => h9) rfl d_Grammar_elementFirst_5 ?_
  obtain ⟨r2, h2, hF⟩ := b1E hF
  refine callVI (As := []) X (ct_Cursor_kind l dC dI ad cA H.size h2) lk_Grammar_44 (trm_go rfl rfl (by decide) (by decide)) 3 rfl rfl hP hD hS hl.1 rfl rfl (Nat.le_of_ble_eq_true rfl) d_Grammar_elementFirst_8 (fun H locs hP hD hS => ?_)
  refine lv_bipush (v := 61) hx hb d_Grammar_elementFirst_11 (by decide) ?_
  refine lv_icmp_ne (tgt := 35) hx hb d_Grammar_elementFirst_13 (by decide) (fun c_3 => ?_) (fun c_3 => ?_)
  · have hF := ifn hF c_3
    refine lv_aload_n hx hb d_Grammar_elementFirst_35 rfl (lv_at hl 0 rfl) ?_
    refine va_get (D := (dC, dI)) (ci := 7) (v := .ref (ad 6)) hx hb hts i_Grammar hown hK hP 7 rfl rfl 3 (by decide) (hts _ w_72b36bc41d) (fun _ h9 => h9) rfl d_Grammar_elementFirst_36 ?_
    refine lv_bipush (v := 13) hx hb d_Grammar_elementFirst_39 (by decide) ?_
    refine lv_iload_n hx hb d_Grammar_elementFirst_41 rfl (lv_at hl 1 rfl) ?_
    refine lv_iconst (v := 0) hx hb d_Grammar_elementFirst_42 (by decide) ?_
    obtain ⟨u4, h4, hF⟩ := b1E hF
    refine callVV (As := [.int 13, .int a1, .int 0]) X (ct_Program_add l dC dI ad cA H.size h4) lk_Grammar_86 (trm_go rfl rfl (by decide) (by decide)) 6 rfl rfl hP hD hS hl.1 rfl rfl (Nat.le_of_ble_eq_true rfl) d_Grammar_elementFirst_43 (fun H locs hP hD hS => ?_)
    refine lv_aload_n hx hb d_Grammar_elementFirst_46 rfl (lv_at hl 0 rfl) ?_
    refine lv_iconst (v := 1) hx hb d_Grammar_elementFirst_47 (by decide) ?_
    obtain ⟨r5, u5, h5, hF⟩ := b2E hF
    refine callVV (As := [.int 1]) X (ih.2.2.2.2.2.2.2.2.2.2.2.2.2.1 dC dI ad cA H.size h5) lk_Grammar_148 (trm_gg (by decide)) 7 rfl rfl hP hD hS hl.1 rfl rfl (Nat.le_of_ble_eq_true rfl) d_Grammar_elementFirst_48 (fun H locs hP hD hS => ?_)
    refine lv_aload_n hx hb d_Grammar_elementFirst_51 rfl (lv_at hl 0 rfl) ?_
    refine va_get (D := (dC, dI)) (ci := 7) (v := .ref (ad 3)) hx hb hts i_Grammar hown hK hP 7 rfl rfl 0 (by decide) (hts _ w_a2db652071) (fun _ h9 => h9) rfl d_Grammar_elementFirst_52 ?_
    refine lv_bipush (v := 59) hx hb d_Grammar_elementFirst_55 (by decide) ?_
    obtain ⟨u6, h6, hF⟩ := b1E hF
    refine callVV (As := [.int 59]) X (ct_Cursor_pass l dC dI ad cA H.size h6) lk_Grammar_48 (trm_go rfl rfl (by decide) (by decide)) 3 rfl rfl hP hD hS hl.1 rfl rfl (Nat.le_of_ble_eq_true rfl) d_Grammar_elementFirst_57 (fun H locs hP hD hS => ?_)
    refine lv_aload_n hx hb d_Grammar_elementFirst_60 rfl (lv_at hl 0 rfl) ?_
    refine va_get (D := (dC, dI)) (ci := 7) (v := .ref (ad 6)) hx hb hts i_Grammar hown hK hP 7 rfl rfl 3 (by decide) (hts _ w_72b36bc41d) (fun _ h9 => h9) rfl d_Grammar_elementFirst_61 ?_
    refine lv_bipush (v := 21) hx hb d_Grammar_elementFirst_64 (by decide) ?_
    refine lv_iconst (v := 0) hx hb d_Grammar_elementFirst_66 (by decide) ?_
    refine lv_iconst (v := 0) hx hb d_Grammar_elementFirst_67 (by decide) ?_
    obtain ⟨u7, h7, hF⟩ := b1E hF
    refine callVV (As := [.int 21, .int 0, .int 0]) X (ct_Program_add l dC dI ad cA H.size h7) lk_Grammar_86 (trm_go rfl rfl (by decide) (by decide)) 6 rfl rfl hP hD hS hl.1 rfl rfl (Nat.le_of_ble_eq_true rfl) d_Grammar_elementFirst_68 (fun H locs hP hD hS => ?_)
    cases hF
    exact leafV X hP hD hS d_Grammar_elementFirst_71
  · have hF := ifp hF c_3
    refine lv_aload_n hx hb d_Grammar_elementFirst_16 rfl (lv_at hl 0 rfl) ?_
    refine va_get (D := (dC, dI)) (ci := 7) (v := .ref (ad 3)) hx hb hts i_Grammar hown hK hP 7 rfl rfl 0 (by decide) (hts _ w_a2db652071) (fun _ h9 => h9) rfl d_Grammar_elementFirst_17 ?_
    refine lv_bipush (v := 61) hx hb d_Grammar_elementFirst_20 (by decide) ?_
    obtain ⟨u8, h8, hF⟩ := b1E hF
    refine callVV (As := [.int 61]) X (ct_Cursor_pass l dC dI ad cA H.size h8) lk_Grammar_48 (trm_go rfl rfl (by decide) (by decide)) 3 rfl rfl hP hD hS hl.1 rfl rfl (Nat.le_of_ble_eq_true rfl) d_Grammar_elementFirst_22 (fun H locs hP hD hS => ?_)
    refine lv_aload_n hx hb d_Grammar_elementFirst_25 rfl (lv_at hl 0 rfl) ?_
    refine lv_bipush (v := 14) hx hb d_Grammar_elementFirst_26 (by decide) ?_
    refine lv_iload_n hx hb d_Grammar_elementFirst_28 rfl (lv_at hl 1 rfl) ?_
    obtain ⟨r9, u9, h9, hF⟩ := b2E hF
    refine callVV (As := [.int 14, .int a1]) X (ih.2.2.2.2.1 dC dI ad cA H.size h9) lk_Grammar_109 (trm_gg (by decide)) 7 rfl rfl hP hD hS hl.1 rfl rfl (Nat.le_of_ble_eq_true rfl) d_Grammar_elementFirst_29 (fun H locs hP hD hS => ?_)
    refine lv_goto (tgt := 71) hx hb d_Grammar_elementFirst_32 (by decide) ?_
    cases hF
    exact leafV X hP hD hS d_Grammar_elementFirst_71
theorem d_Grammar_endWith_0 : decode b_Grammar_endWith 0 = .ok (.aload_n 0, 1) := by decide +kernel
theorem d_Grammar_endWith_1 : decode b_Grammar_endWith 1 = .ok (.iconst 1, 1) := by decide +kernel
theorem d_Grammar_endWith_2 : decode b_Grammar_endWith 2 = .ok (.invokevirtual 112, 3) := by decide +kernel
theorem d_Grammar_endWith_5 : decode b_Grammar_endWith 5 = .ok (.aload_n 0, 1) := by decide +kernel
theorem d_Grammar_endWith_6 : decode b_Grammar_endWith 6 = .ok (.getfield 9, 3) := by decide +kernel
theorem d_Grammar_endWith_9 : decode b_Grammar_endWith 9 = .ok (.bipush 59, 2) := by decide +kernel
theorem d_Grammar_endWith_11 : decode b_Grammar_endWith 11 = .ok (.invokevirtual 48, 3) := by decide +kernel
theorem d_Grammar_endWith_14 : decode b_Grammar_endWith 14 = .ok (.aload_n 0, 1) := by decide +kernel
theorem d_Grammar_endWith_15 : decode b_Grammar_endWith 15 = .ok (.getfield 23, 3) := by decide +kernel
theorem d_Grammar_endWith_18 : decode b_Grammar_endWith 18 = .ok (.iload_n 1, 1) := by decide +kernel
theorem d_Grammar_endWith_19 : decode b_Grammar_endWith 19 = .ok (.iload_n 2, 1) := by decide +kernel
theorem d_Grammar_endWith_20 : decode b_Grammar_endWith 20 = .ok (.iconst 0, 1) := by decide +kernel
theorem d_Grammar_endWith_21 : decode b_Grammar_endWith 21 = .ok (.invokevirtual 86, 3) := by decide +kernel
theorem d_Grammar_endWith_24 : decode b_Grammar_endWith 24 = .ok (.return_, 1) := by decide +kernel
def tGrammar_endWith (rec : Nat → St → Int32 → Int32 → Option (Int32 × St)) (σ : St) (a1 : Int32) (a2 : Int32) : Option (Int32 × St) := b2 (rec 16 σ 1 0) (fun r1 u1 => b1 (tCursor_pass u1 59) (fun u2 => b1 (tProgram_add u2 a1 a2 0) (fun u3 => some (0, u3))))
set_option maxHeartbeats 4000000 in
set_option maxRecDepth 100000 in
theorem ct_Grammar_endWith (l : Launch) (dC : Nat → ClassId) (dI : Nat → Nat → Nat) (ad : Nat → Nat) (cA : Nat → ClassId) (sz : Nat) {σ : St} {a1 : Int32} {a2 : Int32} {r : Int32} {σ' : St} {d : Nat} {rec : Nat → St → Int32 → Int32 → Option (Int32 × St)} (ih : tIH l d rec) (hF : tGrammar_endWith rec σ a1 a2 = some (r, σ')) : MV l y_Grammar_endWith b_Grammar_endWith 3 none (trm (d + 1)) (dC, dI) (ttys cA) ad (tcw ad cA) [.ref (ad 7), .int a1, .int a2] σ sz σ' := by
  refine startM (own := "TinyForge$Grammar") (Qc := fun A => QV (dC, dI) (ttys cA) (tcw ad cA) A σ') rfl rfl (Nat.le_of_ble_eq_true rfl) ?_
  intro p e s m below meth c A H locs ls X hP hD hS hl
  have hl : lv_has ls 3 [(0, .ref (ad 7)), (1, .int a1), (2, .int a2)] := hl
  obtain ⟨hx, hb, hr, hml, hown, hlocks, hts, hA, hK, hZ⟩ := id X
  unfold tGrammar_endWith at hF
  refine lv_aload_n hx hb d_Grammar_endWith_0 rfl (lv_at hl 0 rfl) ?_
  refine lv_iconst (v := 1) hx hb d_Grammar_endWith_1 (by decide) ?_
  obtain ⟨r1, u1, h1, hF⟩ := b2E hF
  refine callVV (As := [.int 1]) X (ih.2.2.2.2.2.2.2.2.2.2.2.2.2.2.2.2 dC dI ad cA H.size h1) lk_Grammar_112 (trm_gg (by decide)) 7 rfl rfl hP hD hS hl.1 rfl rfl (Nat.le_of_ble_eq_true rfl) d_Grammar_endWith_2 (fun H locs hP hD hS => ?_)
  refine lv_aload_n hx hb d_Grammar_endWith_5 rfl (lv_at hl 0 rfl) ?_
  refine va_get (D := (dC, dI)) (ci := 7) (v := .ref (ad 3)) hx hb hts i_Grammar hown hK hP 7 rfl rfl 0 (by decide) (hts _ w_a2db652071) (fun _ h9 => h9) rfl d_Grammar_endWith_6 ?_
  refine lv_bipush (v := 59) hx hb d_Grammar_endWith_9 (by decide) ?_
  obtain ⟨u2, h2, hF⟩ := b1E hF
  refine callVV (As := [.int 59]) X (ct_Cursor_pass l dC dI ad cA H.size h2) lk_Grammar_48 (trm_go rfl rfl (by decide) (by decide)) 3 rfl rfl hP hD hS hl.1 rfl rfl (Nat.le_of_ble_eq_true rfl) d_Grammar_endWith_11 (fun H locs hP hD hS => ?_)
  refine lv_aload_n hx hb d_Grammar_endWith_14 rfl (lv_at hl 0 rfl) ?_
  refine va_get (D := (dC, dI)) (ci := 7) (v := .ref (ad 6)) hx hb hts i_Grammar hown hK hP 7 rfl rfl 3 (by decide) (hts _ w_72b36bc41d) (fun _ h9 => h9) rfl d_Grammar_endWith_15 ?_
  refine lv_iload_n hx hb d_Grammar_endWith_18 rfl (lv_at hl 1 rfl) ?_
  refine lv_iload_n hx hb d_Grammar_endWith_19 rfl (lv_at hl 2 rfl) ?_
  refine lv_iconst (v := 0) hx hb d_Grammar_endWith_20 (by decide) ?_
  obtain ⟨u3, h3, hF⟩ := b1E hF
  refine callVV (As := [.int a1, .int a2, .int 0]) X (ct_Program_add l dC dI ad cA H.size h3) lk_Grammar_86 (trm_go rfl rfl (by decide) (by decide)) 6 rfl rfl hP hD hS hl.1 rfl rfl (Nat.le_of_ble_eq_true rfl) d_Grammar_endWith_21 (fun H locs hP hD hS => ?_)
  cases hF
  exact leafV X hP hD hS d_Grammar_endWith_24
theorem d_Grammar_given_0 : decode b_Grammar_given 0 = .ok (.iconst 0, 1) := by decide +kernel
theorem d_Grammar_given_1 : decode b_Grammar_given 1 = .ok (.istore_n 1, 1) := by decide +kernel
theorem d_Grammar_given_2 : decode b_Grammar_given 2 = .ok (.aload_n 0, 1) := by decide +kernel
theorem d_Grammar_given_3 : decode b_Grammar_given 3 = .ok (.getfield 9, 3) := by decide +kernel
theorem d_Grammar_given_6 : decode b_Grammar_given 6 = .ok (.bipush 40, 2) := by decide +kernel
theorem d_Grammar_given_8 : decode b_Grammar_given 8 = .ok (.invokevirtual 61, 3) := by decide +kernel
theorem d_Grammar_given_11 : decode b_Grammar_given 11 = .ok (.aload_n 0, 1) := by decide +kernel
theorem d_Grammar_given_12 : decode b_Grammar_given 12 = .ok (.getfield 9, 3) := by decide +kernel
theorem d_Grammar_given_15 : decode b_Grammar_given 15 = .ok (.invokevirtual 44, 3) := by decide +kernel
theorem d_Grammar_given_18 : decode b_Grammar_given 18 = .ok (.bipush 41, 2) := by decide +kernel
theorem d_Grammar_given_20 : decode b_Grammar_given 20 = .ok (.if_icmp .eq 49, 3) := by decide +kernel
theorem d_Grammar_given_23 : decode b_Grammar_given 23 = .ok (.aload_n 0, 1) := by decide +kernel
theorem d_Grammar_given_24 : decode b_Grammar_given 24 = .ok (.iconst 1, 1) := by decide +kernel
theorem d_Grammar_given_25 : decode b_Grammar_given 25 = .ok (.invokevirtual 112, 3) := by decide +kernel
theorem d_Grammar_given_28 : decode b_Grammar_given 28 = .ok (.iconst 1, 1) := by decide +kernel
theorem d_Grammar_given_29 : decode b_Grammar_given 29 = .ok (.istore_n 1, 1) := by decide +kernel
theorem d_Grammar_given_30 : decode b_Grammar_given 30 = .ok (.iload_n 1, 1) := by decide +kernel
theorem d_Grammar_given_31 : decode b_Grammar_given 31 = .ok (.sipush 220, 3) := by decide +kernel
theorem d_Grammar_given_34 : decode b_Grammar_given 34 = .ok (.if_icmp .ge 35, 3) := by decide +kernel
theorem d_Grammar_given_37 : decode b_Grammar_given 37 = .ok (.aload_n 0, 1) := by decide +kernel
theorem d_Grammar_given_38 : decode b_Grammar_given 38 = .ok (.getfield 9, 3) := by decide +kernel
theorem d_Grammar_given_41 : decode b_Grammar_given 41 = .ok (.invokevirtual 44, 3) := by decide +kernel
theorem d_Grammar_given_44 : decode b_Grammar_given 44 = .ok (.bipush 44, 2) := by decide +kernel
theorem d_Grammar_given_46 : decode b_Grammar_given 46 = .ok (.if_icmp .ne 23, 3) := by decide +kernel
theorem d_Grammar_given_49 : decode b_Grammar_given 49 = .ok (.aload_n 0, 1) := by decide +kernel
theorem d_Grammar_given_50 : decode b_Grammar_given 50 = .ok (.getfield 9, 3) := by decide +kernel
theorem d_Grammar_given_53 : decode b_Grammar_given 53 = .ok (.bipush 44, 2) := by decide +kernel
theorem d_Grammar_given_55 : decode b_Grammar_given 55 = .ok (.invokevirtual 48, 3) := by decide +kernel
theorem d_Grammar_given_58 : decode b_Grammar_given 58 = .ok (.aload_n 0, 1) := by decide +kernel
theorem d_Grammar_given_59 : decode b_Grammar_given 59 = .ok (.iconst 1, 1) := by decide +kernel
theorem d_Grammar_given_60 : decode b_Grammar_given 60 = .ok (.invokevirtual 112, 3) := by decide +kernel
theorem d_Grammar_given_63 : decode b_Grammar_given 63 = .ok (.iinc 1 1, 3) := by decide +kernel
theorem d_Grammar_given_66 : decode b_Grammar_given 66 = .ok (.goto (-36), 3) := by decide +kernel
theorem d_Grammar_given_69 : decode b_Grammar_given 69 = .ok (.aload_n 0, 1) := by decide +kernel
theorem d_Grammar_given_70 : decode b_Grammar_given 70 = .ok (.getfield 9, 3) := by decide +kernel
theorem d_Grammar_given_73 : decode b_Grammar_given 73 = .ok (.bipush 41, 2) := by decide +kernel
theorem d_Grammar_given_75 : decode b_Grammar_given 75 = .ok (.invokevirtual 68, 3) := by decide +kernel
theorem d_Grammar_given_78 : decode b_Grammar_given 78 = .ok (.iload_n 1, 1) := by decide +kernel
theorem d_Grammar_given_79 : decode b_Grammar_given 79 = .ok (.ireturn, 1) := by decide +kernel
def tGrammar_given_b1 (rec : Nat → St → Int32 → Int32 → Option (Int32 × St)) (k : Nat → St → Int32 → Option (Int32 × St)) (σ : St) (x1 : Int32) : Option (Int32 × St) := if (220 : Int32) ≤ x1 then b1 (tCursor_passClosing σ 41) (fun u7 => some (x1, u7)) else b1 (tCursor_kind σ) (fun r8 => if r8 = 44 then b1 (tCursor_pass σ 44) (fun u11 => b2 (rec 16 u11 1 0) (fun r12 u12 => k 1 u12 (x1 + 1))) else b1 (tCursor_passClosing σ 41) (fun u10 => some (x1, u10)))
def tGrammar_given_L (rec : Nat → St → Int32 → Int32 → Option (Int32 × St)) : Nat → Nat → St → Int32 → Option (Int32 × St)
  | 0, _, _, _ => none
  | n + 1, lab, σ, x1 => match lab with
    | 1 => tGrammar_given_b1 rec (tGrammar_given_L rec n) σ x1
    | _ => none
def tGrammar_given (rec : Nat → St → Int32 → Int32 → Option (Int32 × St)) (σ : St) : Option (Int32 × St) := b1 (tCursor_passOpening σ 40) (fun u1 => b1 (tCursor_kind u1) (fun r2 => if r2 = 41 then b1 (tCursor_passClosing u1 41) (fun u4 => some (0, u4)) else b2 (rec 16 u1 1 0) (fun r5 u5 => tGrammar_given_L rec 2000 1 u5 1)))
set_option maxHeartbeats 4000000 in
set_option maxRecDepth 100000 in
theorem tGrammar_given_blk {p : Program} {e : Env} {s : State} {m : MethodId} {args : Array Value} {below : List Frame} {meth : Method} {c : Code} {A : Nat → Prop} (l : Launch) (dC : Nat → ClassId) (dI : Nat → Nat → Nat) (ad : Nat → Nat) (cA : Nat → ClassId) {r : Int32} {σ' : St} {d : Nat} {rec : Nat → St → Int32 → Int32 → Option (Int32 × St)} (ih : tIH l d rec) (X : Cx p s m args meth c b_Grammar_given 2 (some .int) "TinyForge$Grammar" (dC, dI) (ttys cA) ad A) : ∀ n : Nat, (∀ (σ : St) (x1 : Int32) (H : Heap) (locs : List Loc) (ls : Array Slot), tGrammar_given_L rec n 1 σ x1 = some (r, σ') → va_P (dC, dI) vwCl (tcw ad cA σ) H → va_D A (tcw ad cA σ) → va_S A s.heap H locs → lv_has ls 2 [(0, .ref (ad 7)), (1, .int x1)] → W p l e (trm (d + 1)) s m args below meth c H locs 0 0 (MQ below (QI (dC, dI) (ttys cA) (tcw ad cA) A r σ') args s 0 0 A) (F0 m 30 ls [])) := by
  obtain ⟨hx, hb, hr, hml, hown, hlocks, hts, hA, hK, hZ⟩ := id X
  intro n
  induction n with
  | zero => exact (fun σ x1 H locs ls hF => by cases hF)
  | succ n ihn =>
    refine fun σ x1 H locs ls hF hP hD hS hl => ?_
    · have hF : tGrammar_given_b1 rec (tGrammar_given_L rec n) σ x1 = some (r, σ') := hF
      unfold tGrammar_given_b1 at hF
      refine lv_iload_n hx hb d_Grammar_given_30 rfl (lv_at hl 1 rfl) ?_
      refine lv_sipush (v := 220) hx hb d_Grammar_given_31 (by decide) ?_
      refine lv_icmp_ge (tgt := 69) hx hb d_Grammar_given_34 (by decide) (fun c_6 => ?_) (fun c_6 => ?_)
      · have hF := ifp hF c_6
        refine lv_aload_n hx hb d_Grammar_given_69 rfl (lv_at hl 0 rfl) ?_
        refine va_get (D := (dC, dI)) (ci := 7) (v := .ref (ad 3)) hx hb hts i_Grammar hown hK hP 7 rfl rfl 0 (by decide) (hts _ w_a2db652071) (fun _ h9 => h9) rfl d_Grammar_given_70 ?_
        refine lv_bipush (v := 41) hx hb d_Grammar_given_73 (by decide) ?_
        obtain ⟨u7, h7, hF⟩ := b1E hF
        refine callVV (As := [.int 41]) X (ct_Cursor_passClosing l dC dI ad cA H.size h7) lk_Grammar_68 (trm_go rfl rfl (by decide) (by decide)) 3 rfl rfl hP hD hS hl.1 rfl rfl (Nat.le_of_ble_eq_true rfl) d_Grammar_given_75 (fun H locs hP hD hS => ?_)
        refine lv_iload_n hx hb d_Grammar_given_78 rfl (lv_at hl 1 rfl) ?_
        cases hF
        exact leafI X hP hD hS d_Grammar_given_79
      · have hF := ifn hF c_6
        refine lv_aload_n hx hb d_Grammar_given_37 rfl (lv_at hl 0 rfl) ?_
        refine va_get (D := (dC, dI)) (ci := 7) (v := .ref (ad 3)) hx hb hts i_Grammar hown hK hP 7 rfl rfl 0 (by decide) (hts _ w_a2db652071) (fun _ h9 => h9) rfl d_Grammar_given_38 ?_
        obtain ⟨r8, h8, hF⟩ := b1E hF
        refine callVI (As := []) X (ct_Cursor_kind l dC dI ad cA H.size h8) lk_Grammar_44 (trm_go rfl rfl (by decide) (by decide)) 3 rfl rfl hP hD hS hl.1 rfl rfl (Nat.le_of_ble_eq_true rfl) d_Grammar_given_41 (fun H locs hP hD hS => ?_)
        refine lv_bipush (v := 44) hx hb d_Grammar_given_44 (by decide) ?_
        refine lv_icmp_ne (tgt := 69) hx hb d_Grammar_given_46 (by decide) (fun c_9 => ?_) (fun c_9 => ?_)
        · have hF := ifn hF c_9
          refine lv_aload_n hx hb d_Grammar_given_69 rfl (lv_at hl 0 rfl) ?_
          refine va_get (D := (dC, dI)) (ci := 7) (v := .ref (ad 3)) hx hb hts i_Grammar hown hK hP 7 rfl rfl 0 (by decide) (hts _ w_a2db652071) (fun _ h9 => h9) rfl d_Grammar_given_70 ?_
          refine lv_bipush (v := 41) hx hb d_Grammar_given_73 (by decide) ?_
          obtain ⟨u10, h10, hF⟩ := b1E hF
          refine callVV (As := [.int 41]) X (ct_Cursor_passClosing l dC dI ad cA H.size h10) lk_Grammar_68 (trm_go rfl rfl (by decide) (by decide)) 3 rfl rfl hP hD hS hl.1 rfl rfl (Nat.le_of_ble_eq_true rfl) d_Grammar_given_75 (fun H locs hP hD hS => ?_)
          refine lv_iload_n hx hb d_Grammar_given_78 rfl (lv_at hl 1 rfl) ?_
          cases hF
          exact leafI X hP hD hS d_Grammar_given_79
        · have hF := ifp hF c_9
          refine lv_aload_n hx hb d_Grammar_given_49 rfl (lv_at hl 0 rfl) ?_
          refine va_get (D := (dC, dI)) (ci := 7) (v := .ref (ad 3)) hx hb hts i_Grammar hown hK hP 7 rfl rfl 0 (by decide) (hts _ w_a2db652071) (fun _ h9 => h9) rfl d_Grammar_given_50 ?_
          refine lv_bipush (v := 44) hx hb d_Grammar_given_53 (by decide) ?_
          obtain ⟨u11, h11, hF⟩ := b1E hF
          refine callVV (As := [.int 44]) X (ct_Cursor_pass l dC dI ad cA H.size h11) lk_Grammar_48 (trm_go rfl rfl (by decide) (by decide)) 3 rfl rfl hP hD hS hl.1 rfl rfl (Nat.le_of_ble_eq_true rfl) d_Grammar_given_55 (fun H locs hP hD hS => ?_)
          refine lv_aload_n hx hb d_Grammar_given_58 rfl (lv_at hl 0 rfl) ?_
          refine lv_iconst (v := 1) hx hb d_Grammar_given_59 (by decide) ?_
          obtain ⟨r12, u12, h12, hF⟩ := b2E hF
          refine callVV (As := [.int 1]) X (ih.2.2.2.2.2.2.2.2.2.2.2.2.2.2.2.2 dC dI ad cA H.size h12) lk_Grammar_112 (trm_gg (by decide)) 7 rfl rfl hP hD hS hl.1 rfl rfl (Nat.le_of_ble_eq_true rfl) d_Grammar_given_60 (fun H locs hP hD hS => ?_)
          refine lv_iinc (v := (x1 + 1)) (lv' := [(1, .int (x1 + 1)), (0, .ref (ad 7))]) hx hb d_Grammar_given_63 hl (k := 1) rfl rfl (by decide) rfl (fun ls hl => ?_)
          refine lv_goto (tgt := 30) hx hb d_Grammar_given_66 (by decide) ?_
          exact ihn u12 (x1 + 1) H locs ls hF hP hD hS (lv_sub hl [1, 0] rfl)
set_option maxHeartbeats 4000000 in
set_option maxRecDepth 100000 in
theorem ct_Grammar_given (l : Launch) (dC : Nat → ClassId) (dI : Nat → Nat → Nat) (ad : Nat → Nat) (cA : Nat → ClassId) (sz : Nat) {σ : St} {r : Int32} {σ' : St} {d : Nat} {rec : Nat → St → Int32 → Int32 → Option (Int32 × St)} (ih : tIH l d rec) (hF : tGrammar_given rec σ = some (r, σ')) : MI l y_Grammar_given b_Grammar_given 2 (some .int) (trm (d + 1)) (dC, dI) (ttys cA) ad (tcw ad cA) [.ref (ad 7)] σ sz r σ' := by
  refine startM (own := "TinyForge$Grammar") (Qc := fun A => QI (dC, dI) (ttys cA) (tcw ad cA) A r σ') rfl rfl (Nat.le_of_ble_eq_true rfl) ?_
  intro p e s m below meth c A H locs ls X hP hD hS hl
  have hl : lv_has ls 2 [(0, .ref (ad 7))] := hl
  obtain ⟨hx, hb, hr, hml, hown, hlocks, hts, hA, hK, hZ⟩ := id X
  unfold tGrammar_given at hF
  refine lv_iconst (v := 0) hx hb d_Grammar_given_0 (by decide) ?_
  refine lv_istore_n (lv' := [(1, .int 0), (0, .ref (ad 7))]) hx hb d_Grammar_given_1 rfl hl (by decide) rfl (fun ls hl => ?_)
  refine lv_aload_n hx hb d_Grammar_given_2 rfl (lv_at hl 1 rfl) ?_
  refine va_get (D := (dC, dI)) (ci := 7) (v := .ref (ad 3)) hx hb hts i_Grammar hown hK hP 7 rfl rfl 0 (by decide) (hts _ w_a2db652071) (fun _ h9 => h9) rfl d_Grammar_given_3 ?_
  refine lv_bipush (v := 40) hx hb d_Grammar_given_6 (by decide) ?_
  obtain ⟨u1, h1, hF⟩ := b1E hF
  refine callVV (As := [.int 40]) X (ct_Cursor_passOpening l dC dI ad cA H.size h1) lk_Grammar_61 (trm_go rfl rfl (by decide) (by decide)) 3 rfl rfl hP hD hS hl.1 rfl rfl (Nat.le_of_ble_eq_true rfl) d_Grammar_given_8 (fun H locs hP hD hS => ?_)
  refine lv_aload_n hx hb d_Grammar_given_11 rfl (lv_at hl 1 rfl) ?_
  refine va_get (D := (dC, dI)) (ci := 7) (v := .ref (ad 3)) hx hb hts i_Grammar hown hK hP 7 rfl rfl 0 (by decide) (hts _ w_a2db652071) (fun _ h9 => h9) rfl d_Grammar_given_12 ?_
  obtain ⟨r2, h2, hF⟩ := b1E hF
  refine callVI (As := []) X (ct_Cursor_kind l dC dI ad cA H.size h2) lk_Grammar_44 (trm_go rfl rfl (by decide) (by decide)) 3 rfl rfl hP hD hS hl.1 rfl rfl (Nat.le_of_ble_eq_true rfl) d_Grammar_given_15 (fun H locs hP hD hS => ?_)
  refine lv_bipush (v := 41) hx hb d_Grammar_given_18 (by decide) ?_
  refine lv_icmp_eq (tgt := 69) hx hb d_Grammar_given_20 (by decide) (fun c_3 => ?_) (fun c_3 => ?_)
  · have hF := ifp hF c_3
    refine lv_aload_n hx hb d_Grammar_given_69 rfl (lv_at hl 1 rfl) ?_
    refine va_get (D := (dC, dI)) (ci := 7) (v := .ref (ad 3)) hx hb hts i_Grammar hown hK hP 7 rfl rfl 0 (by decide) (hts _ w_a2db652071) (fun _ h9 => h9) rfl d_Grammar_given_70 ?_
    refine lv_bipush (v := 41) hx hb d_Grammar_given_73 (by decide) ?_
    obtain ⟨u4, h4, hF⟩ := b1E hF
    refine callVV (As := [.int 41]) X (ct_Cursor_passClosing l dC dI ad cA H.size h4) lk_Grammar_68 (trm_go rfl rfl (by decide) (by decide)) 3 rfl rfl hP hD hS hl.1 rfl rfl (Nat.le_of_ble_eq_true rfl) d_Grammar_given_75 (fun H locs hP hD hS => ?_)
    refine lv_iload_n hx hb d_Grammar_given_78 rfl (lv_at hl 0 rfl) ?_
    cases hF
    exact leafI X hP hD hS d_Grammar_given_79
  · have hF := ifn hF c_3
    refine lv_aload_n hx hb d_Grammar_given_23 rfl (lv_at hl 1 rfl) ?_
    refine lv_iconst (v := 1) hx hb d_Grammar_given_24 (by decide) ?_
    obtain ⟨r5, u5, h5, hF⟩ := b2E hF
    refine callVV (As := [.int 1]) X (ih.2.2.2.2.2.2.2.2.2.2.2.2.2.2.2.2 dC dI ad cA H.size h5) lk_Grammar_112 (trm_gg (by decide)) 7 rfl rfl hP hD hS hl.1 rfl rfl (Nat.le_of_ble_eq_true rfl) d_Grammar_given_25 (fun H locs hP hD hS => ?_)
    refine lv_iconst (v := 1) hx hb d_Grammar_given_28 (by decide) ?_
    refine lv_istore_n (lv' := [(1, .int 1), (0, .ref (ad 7))]) hx hb d_Grammar_given_29 rfl hl (by decide) rfl (fun ls hl => ?_)
    exact (tGrammar_given_blk l dC dI ad cA ih X 2000) u5 1 H locs ls hF hP hD hS (lv_sub hl [1, 0] rfl)
theorem d_Grammar_namedStatement_0 : decode b_Grammar_namedStatement 0 = .ok (.aload_n 0, 1) := by decide +kernel
theorem d_Grammar_namedStatement_1 : decode b_Grammar_namedStatement 1 = .ok (.getfield 9, 3) := by decide +kernel
theorem d_Grammar_namedStatement_4 : decode b_Grammar_namedStatement 4 = .ok (.invokevirtual 136, 3) := by decide +kernel
theorem d_Grammar_namedStatement_7 : decode b_Grammar_namedStatement 7 = .ok (.bipush 61, 2) := by decide +kernel
theorem d_Grammar_namedStatement_9 : decode b_Grammar_namedStatement 9 = .ok (.if_icmp .ne 39, 3) := by decide +kernel
theorem d_Grammar_namedStatement_12 : decode b_Grammar_namedStatement 12 = .ok (.aload_n 0, 1) := by decide +kernel
theorem d_Grammar_namedStatement_13 : decode b_Grammar_namedStatement 13 = .ok (.getfield 15, 3) := by decide +kernel
theorem d_Grammar_namedStatement_16 : decode b_Grammar_namedStatement 16 = .ok (.iload_n 1, 1) := by decide +kernel
theorem d_Grammar_namedStatement_17 : decode b_Grammar_namedStatement 17 = .ok (.invokevirtual 139, 3) := by decide +kernel
theorem d_Grammar_namedStatement_20 : decode b_Grammar_namedStatement 20 = .ok (.istore_n 2, 1) := by decide +kernel
theorem d_Grammar_namedStatement_21 : decode b_Grammar_namedStatement 21 = .ok (.aload_n 0, 1) := by decide +kernel
theorem d_Grammar_namedStatement_22 : decode b_Grammar_namedStatement 22 = .ok (.getfield 9, 3) := by decide +kernel
theorem d_Grammar_namedStatement_25 : decode b_Grammar_namedStatement 25 = .ok (.iconst 1, 1) := by decide +kernel
theorem d_Grammar_namedStatement_26 : decode b_Grammar_namedStatement 26 = .ok (.invokevirtual 48, 3) := by decide +kernel
theorem d_Grammar_namedStatement_29 : decode b_Grammar_namedStatement 29 = .ok (.aload_n 0, 1) := by decide +kernel
theorem d_Grammar_namedStatement_30 : decode b_Grammar_namedStatement 30 = .ok (.getfield 9, 3) := by decide +kernel
theorem d_Grammar_namedStatement_33 : decode b_Grammar_namedStatement 33 = .ok (.bipush 61, 2) := by decide +kernel
theorem d_Grammar_namedStatement_35 : decode b_Grammar_namedStatement 35 = .ok (.invokevirtual 48, 3) := by decide +kernel
theorem d_Grammar_namedStatement_38 : decode b_Grammar_namedStatement 38 = .ok (.aload_n 0, 1) := by decide +kernel
theorem d_Grammar_namedStatement_39 : decode b_Grammar_namedStatement 39 = .ok (.bipush 12, 2) := by decide +kernel
theorem d_Grammar_namedStatement_41 : decode b_Grammar_namedStatement 41 = .ok (.iload_n 2, 1) := by decide +kernel
theorem d_Grammar_namedStatement_42 : decode b_Grammar_namedStatement 42 = .ok (.invokevirtual 109, 3) := by decide +kernel
theorem d_Grammar_namedStatement_45 : decode b_Grammar_namedStatement 45 = .ok (.goto 30, 3) := by decide +kernel
theorem d_Grammar_namedStatement_48 : decode b_Grammar_namedStatement 48 = .ok (.aload_n 0, 1) := by decide +kernel
theorem d_Grammar_namedStatement_49 : decode b_Grammar_namedStatement 49 = .ok (.getfield 9, 3) := by decide +kernel
theorem d_Grammar_namedStatement_52 : decode b_Grammar_namedStatement 52 = .ok (.invokevirtual 136, 3) := by decide +kernel
theorem d_Grammar_namedStatement_55 : decode b_Grammar_namedStatement 55 = .ok (.bipush 91, 2) := by decide +kernel
theorem d_Grammar_namedStatement_57 : decode b_Grammar_namedStatement 57 = .ok (.if_icmp .ne 11, 3) := by decide +kernel
theorem d_Grammar_namedStatement_60 : decode b_Grammar_namedStatement 60 = .ok (.aload_n 0, 1) := by decide +kernel
theorem d_Grammar_namedStatement_61 : decode b_Grammar_namedStatement 61 = .ok (.iload_n 1, 1) := by decide +kernel
theorem d_Grammar_namedStatement_62 : decode b_Grammar_namedStatement 62 = .ok (.invokevirtual 142, 3) := by decide +kernel
theorem d_Grammar_namedStatement_65 : decode b_Grammar_namedStatement 65 = .ok (.goto 10, 3) := by decide +kernel
theorem d_Grammar_namedStatement_68 : decode b_Grammar_namedStatement 68 = .ok (.aload_n 0, 1) := by decide +kernel
theorem d_Grammar_namedStatement_69 : decode b_Grammar_namedStatement 69 = .ok (.bipush 21, 2) := by decide +kernel
theorem d_Grammar_namedStatement_71 : decode b_Grammar_namedStatement 71 = .ok (.iconst 0, 1) := by decide +kernel
theorem d_Grammar_namedStatement_72 : decode b_Grammar_namedStatement 72 = .ok (.invokevirtual 109, 3) := by decide +kernel
theorem d_Grammar_namedStatement_75 : decode b_Grammar_namedStatement 75 = .ok (.return_, 1) := by decide +kernel
def tGrammar_namedStatement (rec : Nat → St → Int32 → Int32 → Option (Int32 × St)) (σ : St) (a1 : Int32) : Option (Int32 × St) := b1 (tCursor_nextKind σ) (fun r1 => if r1 = 61 then b2 (tVariables_use σ a1) (fun r7 u7 => b1 (tCursor_pass u7 1) (fun u8 => b1 (tCursor_pass u8 61) (fun u9 => b2 (rec 4 u9 12 r7) (fun r10 u10 => some (0, u10))))) else b1 (tCursor_nextKind σ) (fun r3 => if r3 = 91 then b2 (rec 3 σ a1 0) (fun r6 u6 => some (0, u6)) else b2 (rec 4 σ 21 0) (fun r5 u5 => some (0, u5))))
set_option maxHeartbeats 4000000 in
set_option maxRecDepth 100000 in
theorem ct_Grammar_namedStatement (l : Launch) (dC : Nat → ClassId) (dI : Nat → Nat → Nat) (ad : Nat → Nat) (cA : Nat → ClassId) (sz : Nat) {σ : St} {a1 : Int32} {r : Int32} {σ' : St} {d : Nat} {rec : Nat → St → Int32 → Int32 → Option (Int32 × St)} (ih : tIH l d rec) (hF : tGrammar_namedStatement rec σ a1 = some (r, σ')) : MV l y_Grammar_namedStatement b_Grammar_namedStatement 3 none (trm (d + 1)) (dC, dI) (ttys cA) ad (tcw ad cA) [.ref (ad 7), .int a1] σ sz σ' := by
  refine startM (own := "TinyForge$Grammar") (Qc := fun A => QV (dC, dI) (ttys cA) (tcw ad cA) A σ') rfl rfl (Nat.le_of_ble_eq_true rfl) ?_
  intro p e s m below meth c A H locs ls X hP hD hS hl
  have hl : lv_has ls 3 [(0, .ref (ad 7)), (1, .int a1)] := hl
  obtain ⟨hx, hb, hr, hml, hown, hlocks, hts, hA, hK, hZ⟩ := id X
  unfold tGrammar_namedStatement at hF
  refine lv_aload_n hx hb d_Grammar_namedStatement_0 rfl (lv_at hl 0 rfl) ?_
  refine va_get (D := (dC, dI)) (ci := 7) (v := .ref (ad 3)) hx hb hts i_Grammar hown hK hP 7 rfl rfl 0 (by decide) (hts _ w_a2db652071) (fun _ h9 => h9) rfl d_Grammar_namedStatement_1 ?_
  obtain ⟨r1, h1, hF⟩ := b1E hF
  refine callVI (As := []) X (ct_Cursor_nextKind l dC dI ad cA H.size h1) lk_Grammar_136 (trm_go rfl rfl (by decide) (by decide)) 3 rfl rfl hP hD hS hl.1 rfl rfl (Nat.le_of_ble_eq_true rfl) d_Grammar_namedStatement_4 (fun H locs hP hD hS => ?_)
  refine lv_bipush (v := 61) hx hb d_Grammar_namedStatement_7 (by decide) ?_
  refine lv_icmp_ne (tgt := 48) hx hb d_Grammar_namedStatement_9 (by decide) (fun c_2 => ?_) (fun c_2 => ?_)
  · have hF := ifn hF c_2
    refine lv_aload_n hx hb d_Grammar_namedStatement_48 rfl (lv_at hl 0 rfl) ?_
    refine va_get (D := (dC, dI)) (ci := 7) (v := .ref (ad 3)) hx hb hts i_Grammar hown hK hP 7 rfl rfl 0 (by decide) (hts _ w_a2db652071) (fun _ h9 => h9) rfl d_Grammar_namedStatement_49 ?_
    obtain ⟨r3, h3, hF⟩ := b1E hF
    refine callVI (As := []) X (ct_Cursor_nextKind l dC dI ad cA H.size h3) lk_Grammar_136 (trm_go rfl rfl (by decide) (by decide)) 3 rfl rfl hP hD hS hl.1 rfl rfl (Nat.le_of_ble_eq_true rfl) d_Grammar_namedStatement_52 (fun H locs hP hD hS => ?_)
    refine lv_bipush (v := 91) hx hb d_Grammar_namedStatement_55 (by decide) ?_
    refine lv_icmp_ne (tgt := 68) hx hb d_Grammar_namedStatement_57 (by decide) (fun c_4 => ?_) (fun c_4 => ?_)
    · have hF := ifn hF c_4
      refine lv_aload_n hx hb d_Grammar_namedStatement_68 rfl (lv_at hl 0 rfl) ?_
      refine lv_bipush (v := 21) hx hb d_Grammar_namedStatement_69 (by decide) ?_
      refine lv_iconst (v := 0) hx hb d_Grammar_namedStatement_71 (by decide) ?_
      obtain ⟨r5, u5, h5, hF⟩ := b2E hF
      refine callVV (As := [.int 21, .int 0]) X (ih.2.2.2.2.1 dC dI ad cA H.size h5) lk_Grammar_109 (trm_gg (by decide)) 7 rfl rfl hP hD hS hl.1 rfl rfl (Nat.le_of_ble_eq_true rfl) d_Grammar_namedStatement_72 (fun H locs hP hD hS => ?_)
      cases hF
      exact leafV X hP hD hS d_Grammar_namedStatement_75
    · have hF := ifp hF c_4
      refine lv_aload_n hx hb d_Grammar_namedStatement_60 rfl (lv_at hl 0 rfl) ?_
      refine lv_iload_n hx hb d_Grammar_namedStatement_61 rfl (lv_at hl 1 rfl) ?_
      obtain ⟨r6, u6, h6, hF⟩ := b2E hF
      refine callVV (As := [.int a1]) X (ih.2.2.2.1 dC dI ad cA H.size h6) lk_Grammar_142 (trm_gg (by decide)) 7 rfl rfl hP hD hS hl.1 rfl rfl (Nat.le_of_ble_eq_true rfl) d_Grammar_namedStatement_62 (fun H locs hP hD hS => ?_)
      refine lv_goto (tgt := 75) hx hb d_Grammar_namedStatement_65 (by decide) ?_
      cases hF
      exact leafV X hP hD hS d_Grammar_namedStatement_75
  · have hF := ifp hF c_2
    refine lv_aload_n hx hb d_Grammar_namedStatement_12 rfl (lv_at hl 0 rfl) ?_
    refine va_get (D := (dC, dI)) (ci := 7) (v := .ref (ad 4)) hx hb hts i_Grammar hown hK hP 7 rfl rfl 1 (by decide) (hts _ w_6ad409d59f) (fun _ h9 => h9) rfl d_Grammar_namedStatement_13 ?_
    refine lv_iload_n hx hb d_Grammar_namedStatement_16 rfl (lv_at hl 1 rfl) ?_
    obtain ⟨r7, u7, h7, hF⟩ := b2E hF
    refine callVI (As := [.int a1]) X (ct_Variables_use l dC dI ad cA H.size h7) lk_Grammar_139 (trm_go rfl rfl (by decide) (by decide)) 4 rfl rfl hP hD hS hl.1 rfl rfl (Nat.le_of_ble_eq_true rfl) d_Grammar_namedStatement_17 (fun H locs hP hD hS => ?_)
    refine lv_istore_n (lv' := [(2, .int r7), (0, .ref (ad 7)), (1, .int a1)]) hx hb d_Grammar_namedStatement_20 rfl hl (by decide) rfl (fun ls hl => ?_)
    refine lv_aload_n hx hb d_Grammar_namedStatement_21 rfl (lv_at hl 1 rfl) ?_
    refine va_get (D := (dC, dI)) (ci := 7) (v := .ref (ad 3)) hx hb hts i_Grammar hown hK hP 7 rfl rfl 0 (by decide) (hts _ w_a2db652071) (fun _ h9 => h9) rfl d_Grammar_namedStatement_22 ?_
    refine lv_iconst (v := 1) hx hb d_Grammar_namedStatement_25 (by decide) ?_
    obtain ⟨u8, h8, hF⟩ := b1E hF
    refine callVV (As := [.int 1]) X (ct_Cursor_pass l dC dI ad cA H.size h8) lk_Grammar_48 (trm_go rfl rfl (by decide) (by decide)) 3 rfl rfl hP hD hS hl.1 rfl rfl (Nat.le_of_ble_eq_true rfl) d_Grammar_namedStatement_26 (fun H locs hP hD hS => ?_)
    refine lv_aload_n hx hb d_Grammar_namedStatement_29 rfl (lv_at hl 1 rfl) ?_
    refine va_get (D := (dC, dI)) (ci := 7) (v := .ref (ad 3)) hx hb hts i_Grammar hown hK hP 7 rfl rfl 0 (by decide) (hts _ w_a2db652071) (fun _ h9 => h9) rfl d_Grammar_namedStatement_30 ?_
    refine lv_bipush (v := 61) hx hb d_Grammar_namedStatement_33 (by decide) ?_
    obtain ⟨u9, h9, hF⟩ := b1E hF
    refine callVV (As := [.int 61]) X (ct_Cursor_pass l dC dI ad cA H.size h9) lk_Grammar_48 (trm_go rfl rfl (by decide) (by decide)) 3 rfl rfl hP hD hS hl.1 rfl rfl (Nat.le_of_ble_eq_true rfl) d_Grammar_namedStatement_35 (fun H locs hP hD hS => ?_)
    refine lv_aload_n hx hb d_Grammar_namedStatement_38 rfl (lv_at hl 1 rfl) ?_
    refine lv_bipush (v := 12) hx hb d_Grammar_namedStatement_39 (by decide) ?_
    refine lv_iload_n hx hb d_Grammar_namedStatement_41 rfl (lv_at hl 0 rfl) ?_
    obtain ⟨r10, u10, h10, hF⟩ := b2E hF
    refine callVV (As := [.int 12, .int r7]) X (ih.2.2.2.2.1 dC dI ad cA H.size h10) lk_Grammar_109 (trm_gg (by decide)) 7 rfl rfl hP hD hS hl.1 rfl rfl (Nat.le_of_ble_eq_true rfl) d_Grammar_namedStatement_42 (fun H locs hP hD hS => ?_)
    refine lv_goto (tgt := 75) hx hb d_Grammar_namedStatement_45 (by decide) ?_
    cases hF
    exact leafV X hP hD hS d_Grammar_namedStatement_75
theorem d_Grammar_namedValue_0 : decode b_Grammar_namedValue 0 = .ok (.aload_n 0, 1) := by decide +kernel
theorem d_Grammar_namedValue_1 : decode b_Grammar_namedValue 1 = .ok (.getfield 9, 3) := by decide +kernel
theorem d_Grammar_namedValue_4 : decode b_Grammar_namedValue 4 = .ok (.invokevirtual 136, 3) := by decide +kernel
theorem d_Grammar_namedValue_7 : decode b_Grammar_namedValue 7 = .ok (.bipush 91, 2) := by decide +kernel
theorem d_Grammar_namedValue_9 : decode b_Grammar_namedValue 9 = .ok (.if_icmp .ne 21, 3) := by decide +kernel
theorem d_Grammar_namedValue_12 : decode b_Grammar_namedValue 12 = .ok (.aload_n 0, 1) := by decide +kernel
theorem d_Grammar_namedValue_13 : decode b_Grammar_namedValue 13 = .ok (.invokevirtual 145, 3) := by decide +kernel
theorem d_Grammar_namedValue_16 : decode b_Grammar_namedValue 16 = .ok (.aload_n 0, 1) := by decide +kernel
theorem d_Grammar_namedValue_17 : decode b_Grammar_namedValue 17 = .ok (.getfield 23, 3) := by decide +kernel
theorem d_Grammar_namedValue_20 : decode b_Grammar_namedValue 20 = .ok (.bipush 13, 2) := by decide +kernel
theorem d_Grammar_namedValue_22 : decode b_Grammar_namedValue 22 = .ok (.iload_n 1, 1) := by decide +kernel
theorem d_Grammar_namedValue_23 : decode b_Grammar_namedValue 23 = .ok (.iconst 0, 1) := by decide +kernel
theorem d_Grammar_namedValue_24 : decode b_Grammar_namedValue 24 = .ok (.invokevirtual 86, 3) := by decide +kernel
theorem d_Grammar_namedValue_27 : decode b_Grammar_namedValue 27 = .ok (.goto 74, 3) := by decide +kernel
theorem d_Grammar_namedValue_30 : decode b_Grammar_namedValue 30 = .ok (.aload_n 0, 1) := by decide +kernel
theorem d_Grammar_namedValue_31 : decode b_Grammar_namedValue 31 = .ok (.getfield 9, 3) := by decide +kernel
theorem d_Grammar_namedValue_34 : decode b_Grammar_namedValue 34 = .ok (.invokevirtual 136, 3) := by decide +kernel
theorem d_Grammar_namedValue_37 : decode b_Grammar_namedValue 37 = .ok (.bipush 40, 2) := by decide +kernel
theorem d_Grammar_namedValue_39 : decode b_Grammar_namedValue 39 = .ok (.if_icmp .ne 36, 3) := by decide +kernel
theorem d_Grammar_namedValue_42 : decode b_Grammar_namedValue 42 = .ok (.aload_n 0, 1) := by decide +kernel
theorem d_Grammar_namedValue_43 : decode b_Grammar_namedValue 43 = .ok (.getfield 15, 3) := by decide +kernel
theorem d_Grammar_namedValue_46 : decode b_Grammar_namedValue 46 = .ok (.iload_n 1, 1) := by decide +kernel
theorem d_Grammar_namedValue_47 : decode b_Grammar_namedValue 47 = .ok (.invokevirtual 169, 3) := by decide +kernel
theorem d_Grammar_namedValue_50 : decode b_Grammar_namedValue 50 = .ok (.aload_n 0, 1) := by decide +kernel
theorem d_Grammar_namedValue_51 : decode b_Grammar_namedValue 51 = .ok (.getfield 9, 3) := by decide +kernel
theorem d_Grammar_namedValue_54 : decode b_Grammar_namedValue 54 = .ok (.iconst 1, 1) := by decide +kernel
theorem d_Grammar_namedValue_55 : decode b_Grammar_namedValue 55 = .ok (.invokevirtual 48, 3) := by decide +kernel
theorem d_Grammar_namedValue_58 : decode b_Grammar_namedValue 58 = .ok (.aload_n 0, 1) := by decide +kernel
theorem d_Grammar_namedValue_59 : decode b_Grammar_namedValue 59 = .ok (.getfield 23, 3) := by decide +kernel
theorem d_Grammar_namedValue_62 : decode b_Grammar_namedValue 62 = .ok (.bipush 15, 2) := by decide +kernel
theorem d_Grammar_namedValue_64 : decode b_Grammar_namedValue 64 = .ok (.iload_n 1, 1) := by decide +kernel
theorem d_Grammar_namedValue_65 : decode b_Grammar_namedValue 65 = .ok (.aload_n 0, 1) := by decide +kernel
theorem d_Grammar_namedValue_66 : decode b_Grammar_namedValue 66 = .ok (.invokevirtual 172, 3) := by decide +kernel
theorem d_Grammar_namedValue_69 : decode b_Grammar_namedValue 69 = .ok (.invokevirtual 86, 3) := by decide +kernel
theorem d_Grammar_namedValue_72 : decode b_Grammar_namedValue 72 = .ok (.goto 29, 3) := by decide +kernel
theorem d_Grammar_namedValue_75 : decode b_Grammar_namedValue 75 = .ok (.aload_n 0, 1) := by decide +kernel
theorem d_Grammar_namedValue_76 : decode b_Grammar_namedValue 76 = .ok (.getfield 23, 3) := by decide +kernel
theorem d_Grammar_namedValue_79 : decode b_Grammar_namedValue 79 = .ok (.bipush 11, 2) := by decide +kernel
theorem d_Grammar_namedValue_81 : decode b_Grammar_namedValue 81 = .ok (.aload_n 0, 1) := by decide +kernel
theorem d_Grammar_namedValue_82 : decode b_Grammar_namedValue 82 = .ok (.getfield 15, 3) := by decide +kernel
theorem d_Grammar_namedValue_85 : decode b_Grammar_namedValue 85 = .ok (.iload_n 1, 1) := by decide +kernel
theorem d_Grammar_namedValue_86 : decode b_Grammar_namedValue 86 = .ok (.invokevirtual 139, 3) := by decide +kernel
theorem d_Grammar_namedValue_89 : decode b_Grammar_namedValue 89 = .ok (.iconst 0, 1) := by decide +kernel
theorem d_Grammar_namedValue_90 : decode b_Grammar_namedValue 90 = .ok (.invokevirtual 86, 3) := by decide +kernel
theorem d_Grammar_namedValue_93 : decode b_Grammar_namedValue 93 = .ok (.aload_n 0, 1) := by decide +kernel
theorem d_Grammar_namedValue_94 : decode b_Grammar_namedValue 94 = .ok (.getfield 9, 3) := by decide +kernel
theorem d_Grammar_namedValue_97 : decode b_Grammar_namedValue 97 = .ok (.iconst 1, 1) := by decide +kernel
theorem d_Grammar_namedValue_98 : decode b_Grammar_namedValue 98 = .ok (.invokevirtual 48, 3) := by decide +kernel
theorem d_Grammar_namedValue_101 : decode b_Grammar_namedValue 101 = .ok (.return_, 1) := by decide +kernel
def tGrammar_namedValue (rec : Nat → St → Int32 → Int32 → Option (Int32 × St)) (σ : St) (a1 : Int32) : Option (Int32 × St) := b1 (tCursor_nextKind σ) (fun r1 => if r1 = 91 then b2 (rec 2 σ 0 0) (fun r12 u12 => b1 (tProgram_add u12 13 a1 0) (fun u13 => some (0, u13))) else b1 (tCursor_nextKind σ) (fun r3 => if r3 = 40 then b1 (tVariables_mustNotHide σ a1) (fun u8 => b1 (tCursor_pass u8 1) (fun u9 => b2 (rec 5 u9 0 0) (fun r10 u10 => b1 (tProgram_add u10 15 a1 r10) (fun u11 => some (0, u11))))) else b2 (tVariables_use σ a1) (fun r5 u5 => b1 (tProgram_add u5 11 r5 0) (fun u6 => b1 (tCursor_pass u6 1) (fun u7 => some (0, u7))))))
set_option maxHeartbeats 4000000 in
set_option maxRecDepth 100000 in
theorem ct_Grammar_namedValue (l : Launch) (dC : Nat → ClassId) (dI : Nat → Nat → Nat) (ad : Nat → Nat) (cA : Nat → ClassId) (sz : Nat) {σ : St} {a1 : Int32} {r : Int32} {σ' : St} {d : Nat} {rec : Nat → St → Int32 → Int32 → Option (Int32 × St)} (ih : tIH l d rec) (hF : tGrammar_namedValue rec σ a1 = some (r, σ')) : MV l y_Grammar_namedValue b_Grammar_namedValue 2 none (trm (d + 1)) (dC, dI) (ttys cA) ad (tcw ad cA) [.ref (ad 7), .int a1] σ sz σ' := by
  refine startM (own := "TinyForge$Grammar") (Qc := fun A => QV (dC, dI) (ttys cA) (tcw ad cA) A σ') rfl rfl (Nat.le_of_ble_eq_true rfl) ?_
  intro p e s m below meth c A H locs ls X hP hD hS hl
  have hl : lv_has ls 2 [(0, .ref (ad 7)), (1, .int a1)] := hl
  obtain ⟨hx, hb, hr, hml, hown, hlocks, hts, hA, hK, hZ⟩ := id X
  unfold tGrammar_namedValue at hF
  refine lv_aload_n hx hb d_Grammar_namedValue_0 rfl (lv_at hl 0 rfl) ?_
  refine va_get (D := (dC, dI)) (ci := 7) (v := .ref (ad 3)) hx hb hts i_Grammar hown hK hP 7 rfl rfl 0 (by decide) (hts _ w_a2db652071) (fun _ h9 => h9) rfl d_Grammar_namedValue_1 ?_
  obtain ⟨r1, h1, hF⟩ := b1E hF
  refine callVI (As := []) X (ct_Cursor_nextKind l dC dI ad cA H.size h1) lk_Grammar_136 (trm_go rfl rfl (by decide) (by decide)) 3 rfl rfl hP hD hS hl.1 rfl rfl (Nat.le_of_ble_eq_true rfl) d_Grammar_namedValue_4 (fun H locs hP hD hS => ?_)
  refine lv_bipush (v := 91) hx hb d_Grammar_namedValue_7 (by decide) ?_
  refine lv_icmp_ne (tgt := 30) hx hb d_Grammar_namedValue_9 (by decide) (fun c_2 => ?_) (fun c_2 => ?_)
  · have hF := ifn hF c_2
    refine lv_aload_n hx hb d_Grammar_namedValue_30 rfl (lv_at hl 0 rfl) ?_
    refine va_get (D := (dC, dI)) (ci := 7) (v := .ref (ad 3)) hx hb hts i_Grammar hown hK hP 7 rfl rfl 0 (by decide) (hts _ w_a2db652071) (fun _ h9 => h9) rfl d_Grammar_namedValue_31 ?_
    obtain ⟨r3, h3, hF⟩ := b1E hF
    refine callVI (As := []) X (ct_Cursor_nextKind l dC dI ad cA H.size h3) lk_Grammar_136 (trm_go rfl rfl (by decide) (by decide)) 3 rfl rfl hP hD hS hl.1 rfl rfl (Nat.le_of_ble_eq_true rfl) d_Grammar_namedValue_34 (fun H locs hP hD hS => ?_)
    refine lv_bipush (v := 40) hx hb d_Grammar_namedValue_37 (by decide) ?_
    refine lv_icmp_ne (tgt := 75) hx hb d_Grammar_namedValue_39 (by decide) (fun c_4 => ?_) (fun c_4 => ?_)
    · have hF := ifn hF c_4
      refine lv_aload_n hx hb d_Grammar_namedValue_75 rfl (lv_at hl 0 rfl) ?_
      refine va_get (D := (dC, dI)) (ci := 7) (v := .ref (ad 6)) hx hb hts i_Grammar hown hK hP 7 rfl rfl 3 (by decide) (hts _ w_72b36bc41d) (fun _ h9 => h9) rfl d_Grammar_namedValue_76 ?_
      refine lv_bipush (v := 11) hx hb d_Grammar_namedValue_79 (by decide) ?_
      refine lv_aload_n hx hb d_Grammar_namedValue_81 rfl (lv_at hl 0 rfl) ?_
      refine va_get (D := (dC, dI)) (ci := 7) (v := .ref (ad 4)) hx hb hts i_Grammar hown hK hP 7 rfl rfl 1 (by decide) (hts _ w_6ad409d59f) (fun _ h9 => h9) rfl d_Grammar_namedValue_82 ?_
      refine lv_iload_n hx hb d_Grammar_namedValue_85 rfl (lv_at hl 1 rfl) ?_
      obtain ⟨r5, u5, h5, hF⟩ := b2E hF
      refine callVI (As := [.int a1]) X (ct_Variables_use l dC dI ad cA H.size h5) lk_Grammar_139 (trm_go rfl rfl (by decide) (by decide)) 4 rfl rfl hP hD hS hl.1 rfl rfl (Nat.le_of_ble_eq_true rfl) d_Grammar_namedValue_86 (fun H locs hP hD hS => ?_)
      refine lv_iconst (v := 0) hx hb d_Grammar_namedValue_89 (by decide) ?_
      obtain ⟨u6, h6, hF⟩ := b1E hF
      refine callVV (As := [.int 11, .int r5, .int 0]) X (ct_Program_add l dC dI ad cA H.size h6) lk_Grammar_86 (trm_go rfl rfl (by decide) (by decide)) 6 rfl rfl hP hD hS hl.1 rfl rfl (Nat.le_of_ble_eq_true rfl) d_Grammar_namedValue_90 (fun H locs hP hD hS => ?_)
      refine lv_aload_n hx hb d_Grammar_namedValue_93 rfl (lv_at hl 0 rfl) ?_
      refine va_get (D := (dC, dI)) (ci := 7) (v := .ref (ad 3)) hx hb hts i_Grammar hown hK hP 7 rfl rfl 0 (by decide) (hts _ w_a2db652071) (fun _ h9 => h9) rfl d_Grammar_namedValue_94 ?_
      refine lv_iconst (v := 1) hx hb d_Grammar_namedValue_97 (by decide) ?_
      obtain ⟨u7, h7, hF⟩ := b1E hF
      refine callVV (As := [.int 1]) X (ct_Cursor_pass l dC dI ad cA H.size h7) lk_Grammar_48 (trm_go rfl rfl (by decide) (by decide)) 3 rfl rfl hP hD hS hl.1 rfl rfl (Nat.le_of_ble_eq_true rfl) d_Grammar_namedValue_98 (fun H locs hP hD hS => ?_)
      cases hF
      exact leafV X hP hD hS d_Grammar_namedValue_101
    · have hF := ifp hF c_4
      refine lv_aload_n hx hb d_Grammar_namedValue_42 rfl (lv_at hl 0 rfl) ?_
      refine va_get (D := (dC, dI)) (ci := 7) (v := .ref (ad 4)) hx hb hts i_Grammar hown hK hP 7 rfl rfl 1 (by decide) (hts _ w_6ad409d59f) (fun _ h9 => h9) rfl d_Grammar_namedValue_43 ?_
      refine lv_iload_n hx hb d_Grammar_namedValue_46 rfl (lv_at hl 1 rfl) ?_
      obtain ⟨u8, h8, hF⟩ := b1E hF
      refine callVV (As := [.int a1]) X (ct_Variables_mustNotHide l dC dI ad cA H.size h8) lk_Grammar_169 (trm_go rfl rfl (by decide) (by decide)) 4 rfl rfl hP hD hS hl.1 rfl rfl (Nat.le_of_ble_eq_true rfl) d_Grammar_namedValue_47 (fun H locs hP hD hS => ?_)
      refine lv_aload_n hx hb d_Grammar_namedValue_50 rfl (lv_at hl 0 rfl) ?_
      refine va_get (D := (dC, dI)) (ci := 7) (v := .ref (ad 3)) hx hb hts i_Grammar hown hK hP 7 rfl rfl 0 (by decide) (hts _ w_a2db652071) (fun _ h9 => h9) rfl d_Grammar_namedValue_51 ?_
      refine lv_iconst (v := 1) hx hb d_Grammar_namedValue_54 (by decide) ?_
      obtain ⟨u9, h9, hF⟩ := b1E hF
      refine callVV (As := [.int 1]) X (ct_Cursor_pass l dC dI ad cA H.size h9) lk_Grammar_48 (trm_go rfl rfl (by decide) (by decide)) 3 rfl rfl hP hD hS hl.1 rfl rfl (Nat.le_of_ble_eq_true rfl) d_Grammar_namedValue_55 (fun H locs hP hD hS => ?_)
      refine lv_aload_n hx hb d_Grammar_namedValue_58 rfl (lv_at hl 0 rfl) ?_
      refine va_get (D := (dC, dI)) (ci := 7) (v := .ref (ad 6)) hx hb hts i_Grammar hown hK hP 7 rfl rfl 3 (by decide) (hts _ w_72b36bc41d) (fun _ h9 => h9) rfl d_Grammar_namedValue_59 ?_
      refine lv_bipush (v := 15) hx hb d_Grammar_namedValue_62 (by decide) ?_
      refine lv_iload_n hx hb d_Grammar_namedValue_64 rfl (lv_at hl 1 rfl) ?_
      refine lv_aload_n hx hb d_Grammar_namedValue_65 rfl (lv_at hl 0 rfl) ?_
      obtain ⟨r10, u10, h10, hF⟩ := b2E hF
      refine callVI (As := []) X (ih.2.2.2.2.2.1 dC dI ad cA H.size h10) lk_Grammar_172 (trm_gg (by decide)) 7 rfl rfl hP hD hS hl.1 rfl rfl (Nat.le_of_ble_eq_true rfl) d_Grammar_namedValue_66 (fun H locs hP hD hS => ?_)
      obtain ⟨u11, h11, hF⟩ := b1E hF
      refine callVV (As := [.int 15, .int a1, .int r10]) X (ct_Program_add l dC dI ad cA H.size h11) lk_Grammar_86 (trm_go rfl rfl (by decide) (by decide)) 6 rfl rfl hP hD hS hl.1 rfl rfl (Nat.le_of_ble_eq_true rfl) d_Grammar_namedValue_69 (fun H locs hP hD hS => ?_)
      refine lv_goto (tgt := 101) hx hb d_Grammar_namedValue_72 (by decide) ?_
      cases hF
      exact leafV X hP hD hS d_Grammar_namedValue_101
  · have hF := ifp hF c_2
    refine lv_aload_n hx hb d_Grammar_namedValue_12 rfl (lv_at hl 0 rfl) ?_
    obtain ⟨r12, u12, h12, hF⟩ := b2E hF
    refine callVV (As := []) X (ih.2.2.1 dC dI ad cA H.size h12) lk_Grammar_145 (trm_gg (by decide)) 7 rfl rfl hP hD hS hl.1 rfl rfl (Nat.le_of_ble_eq_true rfl) d_Grammar_namedValue_13 (fun H locs hP hD hS => ?_)
    refine lv_aload_n hx hb d_Grammar_namedValue_16 rfl (lv_at hl 0 rfl) ?_
    refine va_get (D := (dC, dI)) (ci := 7) (v := .ref (ad 6)) hx hb hts i_Grammar hown hK hP 7 rfl rfl 3 (by decide) (hts _ w_72b36bc41d) (fun _ h9 => h9) rfl d_Grammar_namedValue_17 ?_
    refine lv_bipush (v := 13) hx hb d_Grammar_namedValue_20 (by decide) ?_
    refine lv_iload_n hx hb d_Grammar_namedValue_22 rfl (lv_at hl 1 rfl) ?_
    refine lv_iconst (v := 0) hx hb d_Grammar_namedValue_23 (by decide) ?_
    obtain ⟨u13, h13, hF⟩ := b1E hF
    refine callVV (As := [.int 13, .int a1, .int 0]) X (ct_Program_add l dC dI ad cA H.size h13) lk_Grammar_86 (trm_go rfl rfl (by decide) (by decide)) 6 rfl rfl hP hD hS hl.1 rfl rfl (Nat.le_of_ble_eq_true rfl) d_Grammar_namedValue_24 (fun H locs hP hD hS => ?_)
    refine lv_goto (tgt := 101) hx hb d_Grammar_namedValue_27 (by decide) ?_
    cases hF
    exact leafV X hP hD hS d_Grammar_namedValue_101
