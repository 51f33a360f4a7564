theorem d_Grammar_array_0 : decode b_Grammar_array 0 = .ok (.aload_n 0, 1) := by decide +kernel
theorem d_Grammar_array_1 : decode b_Grammar_array 1 = .ok (.getfield 9, 3) := by decide +kernel
theorem d_Grammar_array_4 : decode b_Grammar_array 4 = .ok (.bipush 91, 2) := by decide +kernel
theorem d_Grammar_array_6 : decode b_Grammar_array 6 = .ok (.invokevirtual 61, 3) := by decide +kernel
theorem d_Grammar_array_9 : decode b_Grammar_array 9 = .ok (.aload_n 0, 1) := by decide +kernel
theorem d_Grammar_array_10 : decode b_Grammar_array 10 = .ok (.getfield 19, 3) := by decide +kernel
theorem d_Grammar_array_13 : decode b_Grammar_array 13 = .ok (.iload_n 1, 1) := by decide +kernel
theorem d_Grammar_array_14 : decode b_Grammar_array 14 = .ok (.aload_n 0, 1) := by decide +kernel
theorem d_Grammar_array_15 : decode b_Grammar_array 15 = .ok (.getfield 9, 3) := by decide +kernel
theorem d_Grammar_array_18 : decode b_Grammar_array 18 = .ok (.getfield 52, 3) := by decide +kernel
theorem d_Grammar_array_21 : decode b_Grammar_array 21 = .ok (.invokevirtual 64, 3) := by decide +kernel
theorem d_Grammar_array_24 : decode b_Grammar_array 24 = .ok (.aload_n 0, 1) := by decide +kernel
theorem d_Grammar_array_25 : decode b_Grammar_array 25 = .ok (.getfield 9, 3) := by decide +kernel
theorem d_Grammar_array_28 : decode b_Grammar_array 28 = .ok (.iconst 2, 1) := by decide +kernel
theorem d_Grammar_array_29 : decode b_Grammar_array 29 = .ok (.invokevirtual 48, 3) := by decide +kernel
theorem d_Grammar_array_32 : decode b_Grammar_array 32 = .ok (.aload_n 0, 1) := by decide +kernel
theorem d_Grammar_array_33 : decode b_Grammar_array 33 = .ok (.getfield 9, 3) := by decide +kernel
theorem d_Grammar_array_36 : decode b_Grammar_array 36 = .ok (.bipush 93, 2) := by decide +kernel
theorem d_Grammar_array_38 : decode b_Grammar_array 38 = .ok (.invokevirtual 68, 3) := by decide +kernel
theorem d_Grammar_array_41 : decode b_Grammar_array 41 = .ok (.aload_n 0, 1) := by decide +kernel
theorem d_Grammar_array_42 : decode b_Grammar_array 42 = .ok (.getfield 9, 3) := by decide +kernel
theorem d_Grammar_array_45 : decode b_Grammar_array 45 = .ok (.bipush 59, 2) := by decide +kernel
theorem d_Grammar_array_47 : decode b_Grammar_array 47 = .ok (.invokevirtual 48, 3) := by decide +kernel
theorem d_Grammar_array_50 : decode b_Grammar_array 50 = .ok (.return_, 1) := by decide +kernel
def tGrammar_array (σ : St) (a1 : Int32) : Option (St) := b1 (tCursor_passOpening σ 91) (fun u1 => b1 (tGlobals_makeArray u1 a1 (u1.1 6)) (fun u2 => b1 (tCursor_pass u2 2) (fun u3 => b1 (tCursor_passClosing u3 93) (fun u4 => b1 (tCursor_pass u4 59) (fun u5 => some u5)))))
set_option maxHeartbeats 4000000 in
set_option maxRecDepth 100000 in
theorem ct_Grammar_array (l : Launch) (dC : Nat → ClassId) (dI : Nat → Nat → Nat) (ad : Nat → Nat) (cA : Nat → ClassId) (sz : Nat) {σ : St} {a1 : Int32} {σ' : St} (hF : tGrammar_array σ a1 = some σ') : MV l y_Grammar_array b_Grammar_array 2 none { frames := 4, cells := 0, slots := 0, locals := 83 } (dC, dI) (ttys cA) ad (tcw ad cA) [.ref (ad 7), .int a1] σ sz σ' := by
  refine startM (own := "TinyForge$Grammar") (Qc := fun A => QV (dC, dI) (ttys cA) (tcw ad cA) A σ') rfl rfl (Nat.le_of_ble_eq_true rfl) ?_
  intro p e s m below meth c A H locs ls X hP hD hS hl
  have hl : lv_has ls 2 [(0, .ref (ad 7)), (1, .int a1)] := hl
  obtain ⟨hx, hb, hr, hml, hown, hlocks, hts, hA, hK, hZ⟩ := id X
  unfold tGrammar_array at hF
  refine lv_aload_n hx hb d_Grammar_array_0 rfl (lv_at hl 0 rfl) ?_
  refine va_get (D := (dC, dI)) (ci := 7) (v := .ref (ad 3)) hx hb hts i_Grammar hown hK hP 7 rfl rfl 0 (by decide) (hts _ w_a2db652071) (fun _ h9 => h9) rfl d_Grammar_array_1 ?_
  refine lv_bipush (v := 91) hx hb d_Grammar_array_4 (by decide) ?_
  obtain ⟨u1, h1, hF⟩ := b1E hF
  refine callVV (As := [.int 91]) X (ct_Cursor_passOpening l dC dI ad cA H.size h1) lk_Grammar_61 ⟨rfl, rfl, by decide, by decide⟩ 3 rfl rfl hP hD hS hl.1 rfl rfl (Nat.le_of_ble_eq_true rfl) d_Grammar_array_6 (fun H locs hP hD hS => ?_)
  refine lv_aload_n hx hb d_Grammar_array_9 rfl (lv_at hl 0 rfl) ?_
  refine va_get (D := (dC, dI)) (ci := 7) (v := .ref (ad 5)) hx hb hts i_Grammar hown hK hP 7 rfl rfl 2 (by decide) (hts _ w_38d62a1ca9) (fun _ h9 => h9) rfl d_Grammar_array_10 ?_
  refine lv_iload_n hx hb d_Grammar_array_13 rfl (lv_at hl 1 rfl) ?_
  refine lv_aload_n hx hb d_Grammar_array_14 rfl (lv_at hl 0 rfl) ?_
  refine va_get (D := (dC, dI)) (ci := 7) (v := .ref (ad 3)) hx hb hts i_Grammar hown hK hP 7 rfl rfl 0 (by decide) (hts _ w_a2db652071) (fun _ h9 => h9) rfl d_Grammar_array_15 ?_
  refine va_get (D := (dC, dI)) (ci := 3) (v := .int (u1.1 6)) hx hb hts i_Cursor hown hK hP 3 rfl rfl 2 (by decide) (hts _ w_1aaaf03a26) (fun _ h9 => h9) rfl d_Grammar_array_18 ?_
  obtain ⟨u2, h2, hF⟩ := b1E hF
  refine callVV (As := [.int a1, .int (u1.1 6)]) X (ct_Globals_makeArray l dC dI ad cA H.size h2) lk_Grammar_64 ⟨rfl, rfl, by decide, by decide⟩ 5 rfl rfl hP hD hS hl.1 rfl rfl (Nat.le_of_ble_eq_true rfl) d_Grammar_array_21 (fun H locs hP hD hS => ?_)
  refine lv_aload_n hx hb d_Grammar_array_24 rfl (lv_at hl 0 rfl) ?_
  refine va_get (D := (dC, dI)) (ci := 7) (v := .ref (ad 3)) hx hb hts i_Grammar hown hK hP 7 rfl rfl 0 (by decide) (hts _ w_a2db652071) (fun _ h9 => h9) rfl d_Grammar_array_25 ?_
  refine lv_iconst (v := 2) hx hb d_Grammar_array_28 (by decide) ?_
  obtain ⟨u3, h3, hF⟩ := b1E hF
  refine callVV (As := [.int 2]) X (ct_Cursor_pass l dC dI ad cA H.size h3) lk_Grammar_48 ⟨rfl, rfl, by decide, by decide⟩ 3 rfl rfl hP hD hS hl.1 rfl rfl (Nat.le_of_ble_eq_true rfl) d_Grammar_array_29 (fun H locs hP hD hS => ?_)
  refine lv_aload_n hx hb d_Grammar_array_32 rfl (lv_at hl 0 rfl) ?_
  refine va_get (D := (dC, dI)) (ci := 7) (v := .ref (ad 3)) hx hb hts i_Grammar hown hK hP 7 rfl rfl 0 (by decide) (hts _ w_a2db652071) (fun _ h9 => h9) rfl d_Grammar_array_33 ?_
  refine lv_bipush (v := 93) hx hb d_Grammar_array_36 (by decide) ?_
  obtain ⟨u4, h4, hF⟩ := b1E hF
  refine callVV (As := [.int 93]) X (ct_Cursor_passClosing l dC dI ad cA H.size h4) lk_Grammar_68 ⟨rfl, rfl, by decide, by decide⟩ 3 rfl rfl hP hD hS hl.1 rfl rfl (Nat.le_of_ble_eq_true rfl) d_Grammar_array_38 (fun H locs hP hD hS => ?_)
  refine lv_aload_n hx hb d_Grammar_array_41 rfl (lv_at hl 0 rfl) ?_
  refine va_get (D := (dC, dI)) (ci := 7) (v := .ref (ad 3)) hx hb hts i_Grammar hown hK hP 7 rfl rfl 0 (by decide) (hts _ w_a2db652071) (fun _ h9 => h9) rfl d_Grammar_array_42 ?_
  refine lv_bipush (v := 59) hx hb d_Grammar_array_45 (by decide) ?_
  obtain ⟨u5, h5, hF⟩ := b1E hF
  refine callVV (As := [.int 59]) X (ct_Cursor_pass l dC dI ad cA H.size h5) lk_Grammar_48 ⟨rfl, rfl, by decide, by decide⟩ 3 rfl rfl hP hD hS hl.1 rfl rfl (Nat.le_of_ble_eq_true rfl) d_Grammar_array_47 (fun H locs hP hD hS => ?_)
  cases hF
  exact leafV X hP hD hS d_Grammar_array_50
theorem d_Grammar_parameters_0 : decode b_Grammar_parameters 0 = .ok (.iconst 0, 1) := by decide +kernel
theorem d_Grammar_parameters_1 : decode b_Grammar_parameters 1 = .ok (.istore_n 1, 1) := by decide +kernel
theorem d_Grammar_parameters_2 : decode b_Grammar_parameters 2 = .ok (.iload_n 1, 1) := by decide +kernel
theorem d_Grammar_parameters_3 : decode b_Grammar_parameters 3 = .ok (.ifCond .le 12, 3) := by decide +kernel
theorem d_Grammar_parameters_6 : decode b_Grammar_parameters 6 = .ok (.aload_n 0, 1) := by decide +kernel
theorem d_Grammar_parameters_7 : decode b_Grammar_parameters 7 = .ok (.getfield 9, 3) := by decide +kernel
theorem d_Grammar_parameters_10 : decode b_Grammar_parameters 10 = .ok (.bipush 44, 2) := by decide +kernel
theorem d_Grammar_parameters_12 : decode b_Grammar_parameters 12 = .ok (.invokevirtual 48, 3) := by decide +kernel
theorem d_Grammar_parameters_15 : decode b_Grammar_parameters 15 = .ok (.aload_n 0, 1) := by decide +kernel
theorem d_Grammar_parameters_16 : decode b_Grammar_parameters 16 = .ok (.getfield 9, 3) := by decide +kernel
theorem d_Grammar_parameters_19 : decode b_Grammar_parameters 19 = .ok (.iconst 3, 1) := by decide +kernel
theorem d_Grammar_parameters_20 : decode b_Grammar_parameters 20 = .ok (.invokevirtual 48, 3) := by decide +kernel
theorem d_Grammar_parameters_23 : decode b_Grammar_parameters 23 = .ok (.iload_n 1, 1) := by decide +kernel
theorem d_Grammar_parameters_24 : decode b_Grammar_parameters 24 = .ok (.iconst 4, 1) := by decide +kernel
theorem d_Grammar_parameters_25 : decode b_Grammar_parameters 25 = .ok (.if_icmp .lt 17, 3) := by decide +kernel
theorem d_Grammar_parameters_28 : decode b_Grammar_parameters 28 = .ok (.aload_n 0, 1) := by decide +kernel
theorem d_Grammar_parameters_29 : decode b_Grammar_parameters 29 = .ok (.getfield 15, 3) := by decide +kernel
theorem d_Grammar_parameters_32 : decode b_Grammar_parameters 32 = .ok (.aload_n 0, 1) := by decide +kernel
theorem d_Grammar_parameters_33 : decode b_Grammar_parameters 33 = .ok (.getfield 9, 3) := by decide +kernel
theorem d_Grammar_parameters_36 : decode b_Grammar_parameters 36 = .ok (.getfield 52, 3) := by decide +kernel
theorem d_Grammar_parameters_39 : decode b_Grammar_parameters 39 = .ok (.invokevirtual 89, 3) := by decide +kernel
theorem d_Grammar_parameters_42 : decode b_Grammar_parameters 42 = .ok (.aload_n 0, 1) := by decide +kernel
theorem d_Grammar_parameters_43 : decode b_Grammar_parameters 43 = .ok (.getfield 15, 3) := by decide +kernel
theorem d_Grammar_parameters_46 : decode b_Grammar_parameters 46 = .ok (.aload_n 0, 1) := by decide +kernel
theorem d_Grammar_parameters_47 : decode b_Grammar_parameters 47 = .ok (.getfield 9, 3) := by decide +kernel
theorem d_Grammar_parameters_50 : decode b_Grammar_parameters 50 = .ok (.getfield 52, 3) := by decide +kernel
theorem d_Grammar_parameters_53 : decode b_Grammar_parameters 53 = .ok (.invokevirtual 92, 3) := by decide +kernel
theorem d_Grammar_parameters_56 : decode b_Grammar_parameters 56 = .ok (.pop, 1) := by decide +kernel
theorem d_Grammar_parameters_57 : decode b_Grammar_parameters 57 = .ok (.aload_n 0, 1) := by decide +kernel
theorem d_Grammar_parameters_58 : decode b_Grammar_parameters 58 = .ok (.getfield 9, 3) := by decide +kernel
theorem d_Grammar_parameters_61 : decode b_Grammar_parameters 61 = .ok (.iconst 1, 1) := by decide +kernel
theorem d_Grammar_parameters_62 : decode b_Grammar_parameters 62 = .ok (.invokevirtual 48, 3) := by decide +kernel
theorem d_Grammar_parameters_65 : decode b_Grammar_parameters 65 = .ok (.iinc 1 1, 3) := by decide +kernel
theorem d_Grammar_parameters_68 : decode b_Grammar_parameters 68 = .ok (.iload_n 1, 1) := by decide +kernel
theorem d_Grammar_parameters_69 : decode b_Grammar_parameters 69 = .ok (.sipush 220, 3) := by decide +kernel
theorem d_Grammar_parameters_72 : decode b_Grammar_parameters 72 = .ok (.if_icmp .ge 15, 3) := by decide +kernel
theorem d_Grammar_parameters_75 : decode b_Grammar_parameters 75 = .ok (.aload_n 0, 1) := by decide +kernel
theorem d_Grammar_parameters_76 : decode b_Grammar_parameters 76 = .ok (.getfield 9, 3) := by decide +kernel
theorem d_Grammar_parameters_79 : decode b_Grammar_parameters 79 = .ok (.invokevirtual 44, 3) := by decide +kernel
theorem d_Grammar_parameters_82 : decode b_Grammar_parameters 82 = .ok (.bipush 44, 2) := by decide +kernel
theorem d_Grammar_parameters_84 : decode b_Grammar_parameters 84 = .ok (.if_icmp .eq (-82), 3) := by decide +kernel
theorem d_Grammar_parameters_87 : decode b_Grammar_parameters 87 = .ok (.iload_n 1, 1) := by decide +kernel
theorem d_Grammar_parameters_88 : decode b_Grammar_parameters 88 = .ok (.ireturn, 1) := by decide +kernel
def tGrammar_parameters_b1 (k : Nat → St → Int32 → Option (Int32 × St)) (σ : St) (x1 : Int32) : Option (Int32 × St) := if x1 ≤ 0 then k 2 σ x1 else b1 (tCursor_pass σ 44) (fun u2 => k 2 u2 x1)
def tGrammar_parameters_b2 (k : Nat → St → Int32 → Option (Int32 × St)) (σ : St) (x1 : Int32) : Option (Int32 × St) := b1 (tCursor_pass σ 3) (fun u3 => if x1 < 4 then k 3 u3 x1 else b1 (tVariables_mustNotMake u3 (u3.1 6)) (fun u5 => k 3 u5 x1))
def tGrammar_parameters_b3 (k : Nat → St → Int32 → Option (Int32 × St)) (σ : St) (x1 : Int32) : Option (Int32 × St) := b2 (tVariables_make σ (σ.1 6)) (fun r6 u6 => b1 (tCursor_pass u6 1) (fun u7 => if (220 : Int32) ≤ (x1 + 1) then some ((x1 + 1), u7) else b1 (tCursor_kind u7) (fun r9 => if r9 = 44 then k 1 u7 (x1 + 1) else some ((x1 + 1), u7))))
def tGrammar_parameters_L : Nat → Nat → St → Int32 → Option (Int32 × St)
  | 0, _, _, _ => none
  | n + 1, lab, σ, x1 => match lab with
    | 1 => tGrammar_parameters_b1 (tGrammar_parameters_L n) σ x1
    | 2 => tGrammar_parameters_b2 (tGrammar_parameters_L n) σ x1
    | 3 => tGrammar_parameters_b3 (tGrammar_parameters_L n) σ x1
    | _ => none
def tGrammar_parameters (σ : St) : Option (Int32 × St) := tGrammar_parameters_L 2000 1 σ 0
set_option maxHeartbeats 4000000 in
set_option maxRecDepth 100000 in
theorem tGrammar_parameters_blk {p : Program} {e : Env} {s : State} {m : MethodId} {args : Array Value} {below : List Frame} {meth : Method} {c : Code} {A : Nat → Prop} (l : Launch) (dC : Nat → ClassId) (dI : Nat → Nat → Nat) (ad : Nat → Nat) (cA : Nat → ClassId) {r : Int32} {σ' : St} (X : Cx p s m args meth c b_Grammar_parameters 2 (some .int) "TinyForge$Grammar" (dC, dI) (ttys cA) ad A) : ∀ n : Nat, (∀ (σ : St) (x1 : Int32) (H : Heap) (locs : List Loc) (ls : Array Slot), tGrammar_parameters_L n 1 σ x1 = some (r, σ') → va_P (dC, dI) vwCl (tcw ad cA σ) H → va_D A (tcw ad cA σ) → va_S A s.heap H locs → lv_has ls 2 [(0, .ref (ad 7)), (1, .int x1)] → W p l e { frames := 3, cells := 0, slots := 0, locals := 62 } s m args below meth c H locs 0 0 (MQ below (QI (dC, dI) (ttys cA) (tcw ad cA) A r σ') args s 0 0 A) (F0 m 2 ls [])) ∧ (∀ (σ : St) (x1 : Int32) (H : Heap) (locs : List Loc) (ls : Array Slot), tGrammar_parameters_L n 2 σ x1 = some (r, σ') → va_P (dC, dI) vwCl (tcw ad cA σ) H → va_D A (tcw ad cA σ) → va_S A s.heap H locs → lv_has ls 2 [(0, .ref (ad 7)), (1, .int x1)] → W p l e { frames := 3, cells := 0, slots := 0, locals := 62 } s m args below meth c H locs 0 0 (MQ below (QI (dC, dI) (ttys cA) (tcw ad cA) A r σ') args s 0 0 A) (F0 m 15 ls [])) ∧ (∀ (σ : St) (x1 : Int32) (H : Heap) (locs : List Loc) (ls : Array Slot), tGrammar_parameters_L n 3 σ x1 = some (r, σ') → va_P (dC, dI) vwCl (tcw ad cA σ) H → va_D A (tcw ad cA σ) → va_S A s.heap H locs → lv_has ls 2 [(0, .ref (ad 7)), (1, .int x1)] → W p l e { frames := 3, cells := 0, slots := 0, locals := 62 } s m args below meth c H locs 0 0 (MQ below (QI (dC, dI) (ttys cA) (tcw ad cA) A r σ') args s 0 0 A) (F0 m 42 ls [])) := by
  obtain ⟨hx, hb, hr, hml, hown, hlocks, hts, hA, hK, hZ⟩ := id X
  intro n
  induction n with
  | zero => exact ⟨(fun σ x1 H locs ls hF => by cases hF), (fun σ x1 H locs ls hF => by cases hF), (fun σ x1 H locs ls hF => by cases hF)⟩
  | succ n ihn =>
    refine ⟨fun σ x1 H locs ls hF hP hD hS hl => ?_, fun σ x1 H locs ls hF hP hD hS hl => ?_, fun σ x1 H locs ls hF hP hD hS hl => ?_⟩
    · have hF : tGrammar_parameters_b1 (tGrammar_parameters_L n) σ x1 = some (r, σ') := hF
      unfold tGrammar_parameters_b1 at hF
      refine lv_iload_n hx hb d_Grammar_parameters_2 rfl (lv_at hl 1 rfl) ?_
      refine lv_if_le (tgt := 15) hx hb d_Grammar_parameters_3 (by decide) (fun c_1 => ?_) (fun c_1 => ?_)
      · have hF := ifp hF c_1
        exact ihn.2.1 σ x1 H locs ls hF hP hD hS (lv_sub hl [0, 1] rfl)
      · have hF := ifn hF c_1
        refine lv_aload_n hx hb d_Grammar_parameters_6 rfl (lv_at hl 0 rfl) ?_
        refine va_get (D := (dC, dI)) (ci := 7) (v := .ref (ad 3)) hx hb hts i_Grammar hown hK hP 7 rfl rfl 0 (by decide) (hts _ w_a2db652071) (fun _ h9 => h9) rfl d_Grammar_parameters_7 ?_
        refine lv_bipush (v := 44) hx hb d_Grammar_parameters_10 (by decide) ?_
        obtain ⟨u2, h2, hF⟩ := b1E hF
        refine callVV (As := [.int 44]) X (ct_Cursor_pass l dC dI ad cA H.size h2) lk_Grammar_48 ⟨rfl, rfl, by decide, by decide⟩ 3 rfl rfl hP hD hS hl.1 rfl rfl (Nat.le_of_ble_eq_true rfl) d_Grammar_parameters_12 (fun H locs hP hD hS => ?_)
        exact ihn.2.1 u2 x1 H locs ls hF hP hD hS (lv_sub hl [0, 1] rfl)
    · have hF : tGrammar_parameters_b2 (tGrammar_parameters_L n) σ x1 = some (r, σ') := hF
      unfold tGrammar_parameters_b2 at hF
      refine lv_aload_n hx hb d_Grammar_parameters_15 rfl (lv_at hl 0 rfl) ?_
      refine va_get (D := (dC, dI)) (ci := 7) (v := .ref (ad 3)) hx hb hts i_Grammar hown hK hP 7 rfl rfl 0 (by decide) (hts _ w_a2db652071) (fun _ h9 => h9) rfl d_Grammar_parameters_16 ?_
      refine lv_iconst (v := 3) hx hb d_Grammar_parameters_19 (by decide) ?_
      obtain ⟨u3, h3, hF⟩ := b1E hF
      refine callVV (As := [.int 3]) X (ct_Cursor_pass l dC dI ad cA H.size h3) lk_Grammar_48 ⟨rfl, rfl, by decide, by decide⟩ 3 rfl rfl hP hD hS hl.1 rfl rfl (Nat.le_of_ble_eq_true rfl) d_Grammar_parameters_20 (fun H locs hP hD hS => ?_)
      refine lv_iload_n hx hb d_Grammar_parameters_23 rfl (lv_at hl 1 rfl) ?_
      refine lv_iconst (v := 4) hx hb d_Grammar_parameters_24 (by decide) ?_
      refine lv_icmp_lt (tgt := 42) hx hb d_Grammar_parameters_25 (by decide) (fun c_4 => ?_) (fun c_4 => ?_)
      · have hF := ifp hF c_4
        exact ihn.2.2 u3 x1 H locs ls hF hP hD hS (lv_sub hl [0, 1] rfl)
      · have hF := ifn hF c_4
        refine lv_aload_n hx hb d_Grammar_parameters_28 rfl (lv_at hl 0 rfl) ?_
        refine va_get (D := (dC, dI)) (ci := 7) (v := .ref (ad 4)) hx hb hts i_Grammar hown hK hP 7 rfl rfl 1 (by decide) (hts _ w_6ad409d59f) (fun _ h9 => h9) rfl d_Grammar_parameters_29 ?_
        refine lv_aload_n hx hb d_Grammar_parameters_32 rfl (lv_at hl 0 rfl) ?_
        refine va_get (D := (dC, dI)) (ci := 7) (v := .ref (ad 3)) hx hb hts i_Grammar hown hK hP 7 rfl rfl 0 (by decide) (hts _ w_a2db652071) (fun _ h9 => h9) rfl d_Grammar_parameters_33 ?_
        refine va_get (D := (dC, dI)) (ci := 3) (v := .int (u3.1 6)) hx hb hts i_Cursor hown hK hP 3 rfl rfl 2 (by decide) (hts _ w_1aaaf03a26) (fun _ h9 => h9) rfl d_Grammar_parameters_36 ?_
        obtain ⟨u5, h5, hF⟩ := b1E hF
        refine callVV (As := [.int (u3.1 6)]) X (ct_Variables_mustNotMake l dC dI ad cA H.size h5) lk_Grammar_89 ⟨rfl, rfl, by decide, by decide⟩ 4 rfl rfl hP hD hS hl.1 rfl rfl (Nat.le_of_ble_eq_true rfl) d_Grammar_parameters_39 (fun H locs hP hD hS => ?_)
        exact ihn.2.2 u5 x1 H locs ls hF hP hD hS (lv_sub hl [0, 1] rfl)
    · have hF : tGrammar_parameters_b3 (tGrammar_parameters_L n) σ x1 = some (r, σ') := hF
      unfold tGrammar_parameters_b3 at hF
      refine lv_aload_n hx hb d_Grammar_parameters_42 rfl (lv_at hl 0 rfl) ?_
      refine va_get (D := (dC, dI)) (ci := 7) (v := .ref (ad 4)) hx hb hts i_Grammar hown hK hP 7 rfl rfl 1 (by decide) (hts _ w_6ad409d59f) (fun _ h9 => h9) rfl d_Grammar_parameters_43 ?_
      refine lv_aload_n hx hb d_Grammar_parameters_46 rfl (lv_at hl 0 rfl) ?_
      refine va_get (D := (dC, dI)) (ci := 7) (v := .ref (ad 3)) hx hb hts i_Grammar hown hK hP 7 rfl rfl 0 (by decide) (hts _ w_a2db652071) (fun _ h9 => h9) rfl d_Grammar_parameters_47 ?_
      refine va_get (D := (dC, dI)) (ci := 3) (v := .int (σ.1 6)) hx hb hts i_Cursor hown hK hP 3 rfl rfl 2 (by decide) (hts _ w_1aaaf03a26) (fun _ h9 => h9) rfl d_Grammar_parameters_50 ?_
      obtain ⟨r6, u6, h6, hF⟩ := b2E hF
      refine callVI (As := [.int (σ.1 6)]) X (ct_Variables_make l dC dI ad cA H.size h6) lk_Grammar_92 ⟨rfl, rfl, by decide, by decide⟩ 4 rfl rfl hP hD hS hl.1 rfl rfl (Nat.le_of_ble_eq_true rfl) d_Grammar_parameters_53 (fun H locs hP hD hS => ?_)
      refine lv_pop hx hb d_Grammar_parameters_56 rfl ?_
      refine lv_aload_n hx hb d_Grammar_parameters_57 rfl (lv_at hl 0 rfl) ?_
      refine va_get (D := (dC, dI)) (ci := 7) (v := .ref (ad 3)) hx hb hts i_Grammar hown hK hP 7 rfl rfl 0 (by decide) (hts _ w_a2db652071) (fun _ h9 => h9) rfl d_Grammar_parameters_58 ?_
      refine lv_iconst (v := 1) hx hb d_Grammar_parameters_61 (by decide) ?_
      obtain ⟨u7, h7, hF⟩ := b1E hF
      refine callVV (As := [.int 1]) X (ct_Cursor_pass l dC dI ad cA H.size h7) lk_Grammar_48 ⟨rfl, rfl, by decide, by decide⟩ 3 rfl rfl hP hD hS hl.1 rfl rfl (Nat.le_of_ble_eq_true rfl) d_Grammar_parameters_62 (fun H locs hP hD hS => ?_)
      refine lv_iinc (v := (x1 + 1)) (lv' := [(1, .int (x1 + 1)), (0, .ref (ad 7))]) hx hb d_Grammar_parameters_65 hl (k := 1) rfl rfl (by decide) rfl (fun ls hl => ?_)
      refine lv_iload_n hx hb d_Grammar_parameters_68 rfl (lv_at hl 0 rfl) ?_
      refine lv_sipush (v := 220) hx hb d_Grammar_parameters_69 (by decide) ?_
      refine lv_icmp_ge (tgt := 87) hx hb d_Grammar_parameters_72 (by decide) (fun c_8 => ?_) (fun c_8 => ?_)
      · have hF := ifp hF c_8
        refine lv_iload_n hx hb d_Grammar_parameters_87 rfl (lv_at hl 0 rfl) ?_
        cases hF
        exact leafI X hP hD hS d_Grammar_parameters_88
      · have hF := ifn hF c_8
        refine lv_aload_n hx hb d_Grammar_parameters_75 rfl (lv_at hl 1 rfl) ?_
        refine va_get (D := (dC, dI)) (ci := 7) (v := .ref (ad 3)) hx hb hts i_Grammar hown hK hP 7 rfl rfl 0 (by decide) (hts _ w_a2db652071) (fun _ h9 => h9) rfl d_Grammar_parameters_76 ?_
        obtain ⟨r9, h9, hF⟩ := b1E hF
        refine callVI (As := []) X (ct_Cursor_kind l dC dI ad cA H.size h9) lk_Grammar_44 ⟨rfl, rfl, by decide, by decide⟩ 3 rfl rfl hP hD hS hl.1 rfl rfl (Nat.le_of_ble_eq_true rfl) d_Grammar_parameters_79 (fun H locs hP hD hS => ?_)
        refine lv_bipush (v := 44) hx hb d_Grammar_parameters_82 (by decide) ?_
        refine lv_icmp_eq (tgt := 2) hx hb d_Grammar_parameters_84 (by decide) (fun c_10 => ?_) (fun c_10 => ?_)
        · have hF := ifp hF c_10
          exact ihn.1 u7 (x1 + 1) H locs ls hF hP hD hS (lv_sub hl [1, 0] rfl)
        · have hF := ifn hF c_10
          refine lv_iload_n hx hb d_Grammar_parameters_87 rfl (lv_at hl 0 rfl) ?_
          cases hF
          exact leafI X hP hD hS d_Grammar_parameters_88
set_option maxHeartbeats 4000000 in
set_option maxRecDepth 100000 in
theorem ct_Grammar_parameters (l : Launch) (dC : Nat → ClassId) (dI : Nat → Nat → Nat) (ad : Nat → Nat) (cA : Nat → ClassId) (sz : Nat) {σ : St} {r : Int32} {σ' : St} (hF : tGrammar_parameters σ = some (r, σ')) : MI l y_Grammar_parameters b_Grammar_parameters 2 (some .int) { frames := 3, cells := 0, slots := 0, locals := 62 } (dC, dI) (ttys cA) ad (tcw ad cA) [.ref (ad 7)] σ sz r σ' := by
  refine startM (own := "TinyForge$Grammar") (Qc := fun A => QI (dC, dI) (ttys cA) (tcw ad cA) A r σ') rfl rfl (Nat.le_of_ble_eq_true rfl) ?_
  intro p e s m below meth c A H locs ls X hP hD hS hl
  have hl : lv_has ls 2 [(0, .ref (ad 7))] := hl
  obtain ⟨hx, hb, hr, hml, hown, hlocks, hts, hA, hK, hZ⟩ := id X
  unfold tGrammar_parameters at hF
  refine lv_iconst (v := 0) hx hb d_Grammar_parameters_0 (by decide) ?_
  refine lv_istore_n (lv' := [(1, .int 0), (0, .ref (ad 7))]) hx hb d_Grammar_parameters_1 rfl hl (by decide) rfl (fun ls hl => ?_)
  exact (tGrammar_parameters_blk l dC dI ad cA X 2000).1 σ 0 H locs ls hF hP hD hS (lv_sub hl [1, 0] rfl)
theorem d_Grammar_strengthOf_0 : decode b_Grammar_strengthOf 0 = .ok (.iload_n 0, 1) := by decide +kernel
theorem d_Grammar_strengthOf_1 : decode b_Grammar_strengthOf 1 = .ok (.lookupswitch 128 #[(37, 125), (42, 125), (43, 123), (45, 123), (47, 125), (60, 121), (62, 121), (289, 119), (294, 117), (316, 121), (317, 119), (318, 121), (380, 115)], 115) := by decide +kernel
theorem d_Grammar_strengthOf_116 : decode b_Grammar_strengthOf 116 = .ok (.iconst 1, 1) := by decide +kernel
theorem d_Grammar_strengthOf_117 : decode b_Grammar_strengthOf 117 = .ok (.ireturn, 1) := by decide +kernel
theorem d_Grammar_strengthOf_118 : decode b_Grammar_strengthOf 118 = .ok (.iconst 2, 1) := by decide +kernel
theorem d_Grammar_strengthOf_119 : decode b_Grammar_strengthOf 119 = .ok (.ireturn, 1) := by decide +kernel
theorem d_Grammar_strengthOf_120 : decode b_Grammar_strengthOf 120 = .ok (.iconst 3, 1) := by decide +kernel
theorem d_Grammar_strengthOf_121 : decode b_Grammar_strengthOf 121 = .ok (.ireturn, 1) := by decide +kernel
theorem d_Grammar_strengthOf_122 : decode b_Grammar_strengthOf 122 = .ok (.iconst 4, 1) := by decide +kernel
theorem d_Grammar_strengthOf_123 : decode b_Grammar_strengthOf 123 = .ok (.ireturn, 1) := by decide +kernel
theorem d_Grammar_strengthOf_124 : decode b_Grammar_strengthOf 124 = .ok (.iconst 5, 1) := by decide +kernel
theorem d_Grammar_strengthOf_125 : decode b_Grammar_strengthOf 125 = .ok (.ireturn, 1) := by decide +kernel
theorem d_Grammar_strengthOf_126 : decode b_Grammar_strengthOf 126 = .ok (.bipush 6, 2) := by decide +kernel
theorem d_Grammar_strengthOf_128 : decode b_Grammar_strengthOf 128 = .ok (.ireturn, 1) := by decide +kernel
theorem d_Grammar_strengthOf_129 : decode b_Grammar_strengthOf 129 = .ok (.iconst 0, 1) := by decide +kernel
theorem d_Grammar_strengthOf_130 : decode b_Grammar_strengthOf 130 = .ok (.ireturn, 1) := by decide +kernel
def tGrammar_strengthOf (σ : St) (a1 : Int32) : Option (Int32) := if a1 = 37 then some 6 else if a1 = 42 then some 6 else if a1 = 43 then some 5 else if a1 = 45 then some 5 else if a1 = 47 then some 6 else if a1 = 60 then some 4 else if a1 = 62 then some 4 else if a1 = 289 then some 3 else if a1 = 294 then some 2 else if a1 = 316 then some 4 else if a1 = 317 then some 3 else if a1 = 318 then some 4 else if a1 = 380 then some 1 else some 0
set_option maxHeartbeats 4000000 in
set_option maxRecDepth 100000 in
theorem ct_Grammar_strengthOf (l : Launch) (dC : Nat → ClassId) (dI : Nat → Nat → Nat) (ad : Nat → Nat) (cA : Nat → ClassId) (sz : Nat) {σ : St} {a1 : Int32} {r : Int32} (hF : tGrammar_strengthOf σ a1 = some r) : MI l y_Grammar_strengthOf b_Grammar_strengthOf 1 (some .int) { frames := 0, cells := 0, slots := 0, locals := 0 } (dC, dI) (ttys cA) ad (tcw ad cA) [.int a1] σ sz r σ := by
  refine startM (own := "TinyForge$Grammar") (Qc := fun A => QI (dC, dI) (ttys cA) (tcw ad cA) A r σ) rfl rfl (Nat.le_of_ble_eq_true rfl) ?_
  intro p e s m below meth c A H locs ls X hP hD hS hl
  have hl : lv_has ls 1 [(0, .int a1)] := hl
  obtain ⟨hx, hb, hr, hml, hown, hlocks, hts, hA, hK, hZ⟩ := id X
  unfold tGrammar_strengthOf at hF
  refine lv_iload_n hx hb d_Grammar_strengthOf_0 rfl (lv_at hl 0 rfl) ?_
  by_cases c_1 : a1 = 37
  · have hF := ifp hF c_1
    refine lv_lookup (tgt := 126) (off := 125) hx hb d_Grammar_strengthOf_1 (by decide) (by rw [c_1]; rfl) (by decide) ?_
    refine lv_bipush (v := 6) hx hb d_Grammar_strengthOf_126 (by decide) ?_
    cases hF
    exact leafI X hP hD hS d_Grammar_strengthOf_128
  · have hF := ifn hF c_1
    by_cases c_2 : a1 = 42
    · have hF := ifp hF c_2
      refine lv_lookup (tgt := 126) (off := 125) hx hb d_Grammar_strengthOf_1 (by decide) (by rw [c_2]; rfl) (by decide) ?_
      refine lv_bipush (v := 6) hx hb d_Grammar_strengthOf_126 (by decide) ?_
      cases hF
      exact leafI X hP hD hS d_Grammar_strengthOf_128
    · have hF := ifn hF c_2
      by_cases c_3 : a1 = 43
      · have hF := ifp hF c_3
        refine lv_lookup (tgt := 124) (off := 123) hx hb d_Grammar_strengthOf_1 (by decide) (by rw [c_3]; rfl) (by decide) ?_
        refine lv_iconst (v := 5) hx hb d_Grammar_strengthOf_124 (by decide) ?_
        cases hF
        exact leafI X hP hD hS d_Grammar_strengthOf_125
      · have hF := ifn hF c_3
        by_cases c_4 : a1 = 45
        · have hF := ifp hF c_4
          refine lv_lookup (tgt := 124) (off := 123) hx hb d_Grammar_strengthOf_1 (by decide) (by rw [c_4]; rfl) (by decide) ?_
          refine lv_iconst (v := 5) hx hb d_Grammar_strengthOf_124 (by decide) ?_
          cases hF
          exact leafI X hP hD hS d_Grammar_strengthOf_125
        · have hF := ifn hF c_4
          by_cases c_5 : a1 = 47
          · have hF := ifp hF c_5
            refine lv_lookup (tgt := 126) (off := 125) hx hb d_Grammar_strengthOf_1 (by decide) (by rw [c_5]; rfl) (by decide) ?_
            refine lv_bipush (v := 6) hx hb d_Grammar_strengthOf_126 (by decide) ?_
            cases hF
            exact leafI X hP hD hS d_Grammar_strengthOf_128
          · have hF := ifn hF c_5
            by_cases c_6 : a1 = 60
            · have hF := ifp hF c_6
              refine lv_lookup (tgt := 122) (off := 121) hx hb d_Grammar_strengthOf_1 (by decide) (by rw [c_6]; rfl) (by decide) ?_
              refine lv_iconst (v := 4) hx hb d_Grammar_strengthOf_122 (by decide) ?_
              cases hF
              exact leafI X hP hD hS d_Grammar_strengthOf_123
            · have hF := ifn hF c_6
              by_cases c_7 : a1 = 62
              · have hF := ifp hF c_7
                refine lv_lookup (tgt := 122) (off := 121) hx hb d_Grammar_strengthOf_1 (by decide) (by rw [c_7]; rfl) (by decide) ?_
                refine lv_iconst (v := 4) hx hb d_Grammar_strengthOf_122 (by decide) ?_
                cases hF
                exact leafI X hP hD hS d_Grammar_strengthOf_123
              · have hF := ifn hF c_7
                by_cases c_8 : a1 = 289
                · have hF := ifp hF c_8
                  refine lv_lookup (tgt := 120) (off := 119) hx hb d_Grammar_strengthOf_1 (by decide) (by rw [c_8]; rfl) (by decide) ?_
                  refine lv_iconst (v := 3) hx hb d_Grammar_strengthOf_120 (by decide) ?_
                  cases hF
                  exact leafI X hP hD hS d_Grammar_strengthOf_121
                · have hF := ifn hF c_8
                  by_cases c_9 : a1 = 294
                  · have hF := ifp hF c_9
                    refine lv_lookup (tgt := 118) (off := 117) hx hb d_Grammar_strengthOf_1 (by decide) (by rw [c_9]; rfl) (by decide) ?_
                    refine lv_iconst (v := 2) hx hb d_Grammar_strengthOf_118 (by decide) ?_
                    cases hF
                    exact leafI X hP hD hS d_Grammar_strengthOf_119
                  · have hF := ifn hF c_9
                    by_cases c_10 : a1 = 316
                    · have hF := ifp hF c_10
                      refine lv_lookup (tgt := 122) (off := 121) hx hb d_Grammar_strengthOf_1 (by decide) (by rw [c_10]; rfl) (by decide) ?_
                      refine lv_iconst (v := 4) hx hb d_Grammar_strengthOf_122 (by decide) ?_
                      cases hF
                      exact leafI X hP hD hS d_Grammar_strengthOf_123
                    · have hF := ifn hF c_10
                      by_cases c_11 : a1 = 317
                      · have hF := ifp hF c_11
                        refine lv_lookup (tgt := 120) (off := 119) hx hb d_Grammar_strengthOf_1 (by decide) (by rw [c_11]; rfl) (by decide) ?_
                        refine lv_iconst (v := 3) hx hb d_Grammar_strengthOf_120 (by decide) ?_
                        cases hF
                        exact leafI X hP hD hS d_Grammar_strengthOf_121
                      · have hF := ifn hF c_11
                        by_cases c_12 : a1 = 318
                        · have hF := ifp hF c_12
                          refine lv_lookup (tgt := 122) (off := 121) hx hb d_Grammar_strengthOf_1 (by decide) (by rw [c_12]; rfl) (by decide) ?_
                          refine lv_iconst (v := 4) hx hb d_Grammar_strengthOf_122 (by decide) ?_
                          cases hF
                          exact leafI X hP hD hS d_Grammar_strengthOf_123
                        · have hF := ifn hF c_12
                          by_cases c_13 : a1 = 380
                          · have hF := ifp hF c_13
                            refine lv_lookup (tgt := 116) (off := 115) hx hb d_Grammar_strengthOf_1 (by decide) (by rw [c_13]; rfl) (by decide) ?_
                            refine lv_iconst (v := 1) hx hb d_Grammar_strengthOf_116 (by decide) ?_
                            cases hF
                            exact leafI X hP hD hS d_Grammar_strengthOf_117
                          · have hF := ifn hF c_13
                            refine lv_lookup (tgt := 129) (off := 128) hx hb d_Grammar_strengthOf_1 (by decide) (by show Op.lookupswitch.offset [(37, 125), (42, 125), (43, 123), (45, 123), (47, 125), (60, 121), (62, 121), (289, 119), (294, 117), (316, 121), (317, 119), (318, 121), (380, 115)] 128 _ = _; rw [lv_osw (a := 37) c_1 (by decide), lv_osw (a := 42) c_2 (by decide), lv_osw (a := 43) c_3 (by decide), lv_osw (a := 45) c_4 (by decide), lv_osw (a := 47) c_5 (by decide), lv_osw (a := 60) c_6 (by decide), lv_osw (a := 62) c_7 (by decide), lv_osw (a := 289) c_8 (by decide), lv_osw (a := 294) c_9 (by decide), lv_osw (a := 316) c_10 (by decide), lv_osw (a := 317) c_11 (by decide), lv_osw (a := 318) c_12 (by decide), lv_osw (a := 380) c_13 (by decide)]; rfl) (by decide) ?_
                            refine lv_iconst (v := 0) hx hb d_Grammar_strengthOf_129 (by decide) ?_
                            cases hF
                            exact leafI X hP hD hS d_Grammar_strengthOf_130
