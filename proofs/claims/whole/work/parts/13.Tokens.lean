theorem d_Tokens_kindOfName_0 : decode b_Tokens_kindOfName 0 = .ok (.aload_n 0, 1) := by decide +kernel
theorem d_Tokens_kindOfName_1 : decode b_Tokens_kindOfName 1 = .ok (.getfield 29, 3) := by decide +kernel
theorem d_Tokens_kindOfName_4 : decode b_Tokens_kindOfName 4 = .ok (.ldc 83, 2) := by decide +kernel
theorem d_Tokens_kindOfName_6 : decode b_Tokens_kindOfName 6 = .ok (.iload_n 1, 1) := by decide +kernel
theorem d_Tokens_kindOfName_7 : decode b_Tokens_kindOfName 7 = .ok (.iload_n 2, 1) := by decide +kernel
theorem d_Tokens_kindOfName_8 : decode b_Tokens_kindOfName 8 = .ok (.invokevirtual 85, 3) := by decide +kernel
theorem d_Tokens_kindOfName_11 : decode b_Tokens_kindOfName 11 = .ok (.ifCond .eq 5, 3) := by decide +kernel
theorem d_Tokens_kindOfName_14 : decode b_Tokens_kindOfName 14 = .ok (.iconst 3, 1) := by decide +kernel
theorem d_Tokens_kindOfName_15 : decode b_Tokens_kindOfName 15 = .ok (.ireturn, 1) := by decide +kernel
theorem d_Tokens_kindOfName_16 : decode b_Tokens_kindOfName 16 = .ok (.aload_n 0, 1) := by decide +kernel
theorem d_Tokens_kindOfName_17 : decode b_Tokens_kindOfName 17 = .ok (.getfield 29, 3) := by decide +kernel
theorem d_Tokens_kindOfName_20 : decode b_Tokens_kindOfName 20 = .ok (.ldc 89, 2) := by decide +kernel
theorem d_Tokens_kindOfName_22 : decode b_Tokens_kindOfName 22 = .ok (.iload_n 1, 1) := by decide +kernel
theorem d_Tokens_kindOfName_23 : decode b_Tokens_kindOfName 23 = .ok (.iload_n 2, 1) := by decide +kernel
theorem d_Tokens_kindOfName_24 : decode b_Tokens_kindOfName 24 = .ok (.invokevirtual 85, 3) := by decide +kernel
theorem d_Tokens_kindOfName_27 : decode b_Tokens_kindOfName 27 = .ok (.ifCond .eq 5, 3) := by decide +kernel
theorem d_Tokens_kindOfName_30 : decode b_Tokens_kindOfName 30 = .ok (.iconst 4, 1) := by decide +kernel
theorem d_Tokens_kindOfName_31 : decode b_Tokens_kindOfName 31 = .ok (.ireturn, 1) := by decide +kernel
theorem d_Tokens_kindOfName_32 : decode b_Tokens_kindOfName 32 = .ok (.aload_n 0, 1) := by decide +kernel
theorem d_Tokens_kindOfName_33 : decode b_Tokens_kindOfName 33 = .ok (.getfield 29, 3) := by decide +kernel
theorem d_Tokens_kindOfName_36 : decode b_Tokens_kindOfName 36 = .ok (.ldc 91, 2) := by decide +kernel
theorem d_Tokens_kindOfName_38 : decode b_Tokens_kindOfName 38 = .ok (.iload_n 1, 1) := by decide +kernel
theorem d_Tokens_kindOfName_39 : decode b_Tokens_kindOfName 39 = .ok (.iload_n 2, 1) := by decide +kernel
theorem d_Tokens_kindOfName_40 : decode b_Tokens_kindOfName 40 = .ok (.invokevirtual 85, 3) := by decide +kernel
theorem d_Tokens_kindOfName_43 : decode b_Tokens_kindOfName 43 = .ok (.ifCond .eq 5, 3) := by decide +kernel
theorem d_Tokens_kindOfName_46 : decode b_Tokens_kindOfName 46 = .ok (.iconst 5, 1) := by decide +kernel
theorem d_Tokens_kindOfName_47 : decode b_Tokens_kindOfName 47 = .ok (.ireturn, 1) := by decide +kernel
theorem d_Tokens_kindOfName_48 : decode b_Tokens_kindOfName 48 = .ok (.aload_n 0, 1) := by decide +kernel
theorem d_Tokens_kindOfName_49 : decode b_Tokens_kindOfName 49 = .ok (.getfield 29, 3) := by decide +kernel
theorem d_Tokens_kindOfName_52 : decode b_Tokens_kindOfName 52 = .ok (.ldc 93, 2) := by decide +kernel
theorem d_Tokens_kindOfName_54 : decode b_Tokens_kindOfName 54 = .ok (.iload_n 1, 1) := by decide +kernel
theorem d_Tokens_kindOfName_55 : decode b_Tokens_kindOfName 55 = .ok (.iload_n 2, 1) := by decide +kernel
theorem d_Tokens_kindOfName_56 : decode b_Tokens_kindOfName 56 = .ok (.invokevirtual 85, 3) := by decide +kernel
theorem d_Tokens_kindOfName_59 : decode b_Tokens_kindOfName 59 = .ok (.ifCond .eq 6, 3) := by decide +kernel
theorem d_Tokens_kindOfName_62 : decode b_Tokens_kindOfName 62 = .ok (.bipush 6, 2) := by decide +kernel
theorem d_Tokens_kindOfName_64 : decode b_Tokens_kindOfName 64 = .ok (.ireturn, 1) := by decide +kernel
theorem d_Tokens_kindOfName_65 : decode b_Tokens_kindOfName 65 = .ok (.aload_n 0, 1) := by decide +kernel
theorem d_Tokens_kindOfName_66 : decode b_Tokens_kindOfName 66 = .ok (.getfield 29, 3) := by decide +kernel
theorem d_Tokens_kindOfName_69 : decode b_Tokens_kindOfName 69 = .ok (.ldc 95, 2) := by decide +kernel
theorem d_Tokens_kindOfName_71 : decode b_Tokens_kindOfName 71 = .ok (.iload_n 1, 1) := by decide +kernel
theorem d_Tokens_kindOfName_72 : decode b_Tokens_kindOfName 72 = .ok (.iload_n 2, 1) := by decide +kernel
theorem d_Tokens_kindOfName_73 : decode b_Tokens_kindOfName 73 = .ok (.invokevirtual 85, 3) := by decide +kernel
theorem d_Tokens_kindOfName_76 : decode b_Tokens_kindOfName 76 = .ok (.ifCond .eq 6, 3) := by decide +kernel
theorem d_Tokens_kindOfName_79 : decode b_Tokens_kindOfName 79 = .ok (.bipush 7, 2) := by decide +kernel
theorem d_Tokens_kindOfName_81 : decode b_Tokens_kindOfName 81 = .ok (.ireturn, 1) := by decide +kernel
theorem d_Tokens_kindOfName_82 : decode b_Tokens_kindOfName 82 = .ok (.aload_n 0, 1) := by decide +kernel
theorem d_Tokens_kindOfName_83 : decode b_Tokens_kindOfName 83 = .ok (.getfield 29, 3) := by decide +kernel
theorem d_Tokens_kindOfName_86 : decode b_Tokens_kindOfName 86 = .ok (.ldc 97, 2) := by decide +kernel
theorem d_Tokens_kindOfName_88 : decode b_Tokens_kindOfName 88 = .ok (.iload_n 1, 1) := by decide +kernel
theorem d_Tokens_kindOfName_89 : decode b_Tokens_kindOfName 89 = .ok (.iload_n 2, 1) := by decide +kernel
theorem d_Tokens_kindOfName_90 : decode b_Tokens_kindOfName 90 = .ok (.invokevirtual 85, 3) := by decide +kernel
theorem d_Tokens_kindOfName_93 : decode b_Tokens_kindOfName 93 = .ok (.ifCond .eq 6, 3) := by decide +kernel
theorem d_Tokens_kindOfName_96 : decode b_Tokens_kindOfName 96 = .ok (.bipush 8, 2) := by decide +kernel
theorem d_Tokens_kindOfName_98 : decode b_Tokens_kindOfName 98 = .ok (.ireturn, 1) := by decide +kernel
theorem d_Tokens_kindOfName_99 : decode b_Tokens_kindOfName 99 = .ok (.aload_n 0, 1) := by decide +kernel
theorem d_Tokens_kindOfName_100 : decode b_Tokens_kindOfName 100 = .ok (.getfield 29, 3) := by decide +kernel
theorem d_Tokens_kindOfName_103 : decode b_Tokens_kindOfName 103 = .ok (.ldc 99, 2) := by decide +kernel
theorem d_Tokens_kindOfName_105 : decode b_Tokens_kindOfName 105 = .ok (.iload_n 1, 1) := by decide +kernel
theorem d_Tokens_kindOfName_106 : decode b_Tokens_kindOfName 106 = .ok (.iload_n 2, 1) := by decide +kernel
theorem d_Tokens_kindOfName_107 : decode b_Tokens_kindOfName 107 = .ok (.invokevirtual 85, 3) := by decide +kernel
theorem d_Tokens_kindOfName_110 : decode b_Tokens_kindOfName 110 = .ok (.ifCond .eq 8, 3) := by decide +kernel
theorem d_Tokens_kindOfName_113 : decode b_Tokens_kindOfName 113 = .ok (.bipush 9, 2) := by decide +kernel
theorem d_Tokens_kindOfName_115 : decode b_Tokens_kindOfName 115 = .ok (.goto 4, 3) := by decide +kernel
theorem d_Tokens_kindOfName_118 : decode b_Tokens_kindOfName 118 = .ok (.iconst 1, 1) := by decide +kernel
theorem d_Tokens_kindOfName_119 : decode b_Tokens_kindOfName 119 = .ok (.ireturn, 1) := by decide +kernel
def tTokens_kindOfName (σ : St) (a1 : Int32) (a2 : Int32) : Option (Int32) := b1 (tText_spells σ 0 a1 a2) (fun r1 => if r1 = 0 then b1 (tText_spells σ 1 a1 a2) (fun r3 => if r3 = 0 then b1 (tText_spells σ 2 a1 a2) (fun r5 => if r5 = 0 then b1 (tText_spells σ 3 a1 a2) (fun r7 => if r7 = 0 then b1 (tText_spells σ 4 a1 a2) (fun r9 => if r9 = 0 then b1 (tText_spells σ 5 a1 a2) (fun r11 => if r11 = 0 then b1 (tText_spells σ 6 a1 a2) (fun r13 => if r13 = 0 then some 1 else some 9) else some 8) else some 7) else some 6) else some 5) else some 4) else some 3)
set_option maxHeartbeats 4000000 in
set_option maxRecDepth 100000 in
theorem ct_Tokens_kindOfName (l : Launch) (dC : Nat → ClassId) (dI : Nat → Nat → Nat) (ad : Nat → Nat) (cA : Nat → ClassId) (sz : Nat) {σ : St} {a1 : Int32} {a2 : Int32} {r : Int32} (hF : tTokens_kindOfName σ a1 a2 = some r) : MI l y_Tokens_kindOfName b_Tokens_kindOfName 3 (some .int) { frames := 5, cells := 0, slots := 0, locals := 109 } (dC, dI) (ttys cA) ad (tcw ad cA) [.ref (ad 2), .int a1, .int a2] σ sz r σ := by
  refine startM (own := "TinyForge$Tokens") (Qc := fun A => QI (dC, dI) (ttys cA) (tcw ad cA) A r σ) rfl rfl (Nat.le_of_ble_eq_true rfl) ?_
  intro p e s m below meth c A H locs ls X hP hD hS hl
  have hl : lv_has ls 3 [(0, .ref (ad 2)), (1, .int a1), (2, .int a2)] := hl
  obtain ⟨hx, hb, hr, hml, hown, hlocks, hts, hA, hK, hZ⟩ := id X
  unfold tTokens_kindOfName at hF
  refine lv_aload_n hx hb d_Tokens_kindOfName_0 rfl (lv_at hl 0 rfl) ?_
  refine va_get (D := (dC, dI)) (ci := 2) (v := .ref (ad 0)) hx hb hts i_Tokens hown hK hP 2 rfl rfl 0 (by decide) (hts _ w_c5b1da8661) (fun _ h9 => h9) rfl d_Tokens_kindOfName_1 ?_
  refine va_ldcS (own := "TinyForge$Tokens") (index := 83) (tx := "int") (q := ad (100 + 0)) hx hb hown (hZ.2.1 0 ("TinyForge$Tokens", 83, "int", [105, 110, 116]) rfl) d_Tokens_kindOfName_4 ?_
  refine lv_iload_n hx hb d_Tokens_kindOfName_6 rfl (lv_at hl 1 rfl) ?_
  refine lv_iload_n hx hb d_Tokens_kindOfName_7 rfl (lv_at hl 2 rfl) ?_
  obtain ⟨r1, h1, hF⟩ := b1E hF
  refine callVI (As := [.ref (ad (100 + 0)), .int a1, .int a2]) X (ct_Text_spells l dC dI ad cA H.size h1) lk_Tokens_85 ⟨rfl, rfl, by decide, by decide⟩ 0 rfl rfl hP hD hS hl.1 rfl rfl (Nat.le_of_ble_eq_true rfl) d_Tokens_kindOfName_8 (fun H locs hP hD hS => ?_)
  refine lv_if_eq (tgt := 16) hx hb d_Tokens_kindOfName_11 (by decide) (fun c_2 => ?_) (fun c_2 => ?_)
  · have hF := ifp hF c_2
    refine lv_aload_n hx hb d_Tokens_kindOfName_16 rfl (lv_at hl 0 rfl) ?_
    refine va_get (D := (dC, dI)) (ci := 2) (v := .ref (ad 0)) hx hb hts i_Tokens hown hK hP 2 rfl rfl 0 (by decide) (hts _ w_c5b1da8661) (fun _ h9 => h9) rfl d_Tokens_kindOfName_17 ?_
    refine va_ldcS (own := "TinyForge$Tokens") (index := 89) (tx := "if") (q := ad (100 + 1)) hx hb hown (hZ.2.1 1 ("TinyForge$Tokens", 89, "if", [105, 102]) rfl) d_Tokens_kindOfName_20 ?_
    refine lv_iload_n hx hb d_Tokens_kindOfName_22 rfl (lv_at hl 1 rfl) ?_
    refine lv_iload_n hx hb d_Tokens_kindOfName_23 rfl (lv_at hl 2 rfl) ?_
    obtain ⟨r3, h3, hF⟩ := b1E hF
    refine callVI (As := [.ref (ad (100 + 1)), .int a1, .int a2]) X (ct_Text_spells l dC dI ad cA H.size h3) lk_Tokens_85 ⟨rfl, rfl, by decide, by decide⟩ 0 rfl rfl hP hD hS hl.1 rfl rfl (Nat.le_of_ble_eq_true rfl) d_Tokens_kindOfName_24 (fun H locs hP hD hS => ?_)
    refine lv_if_eq (tgt := 32) hx hb d_Tokens_kindOfName_27 (by decide) (fun c_4 => ?_) (fun c_4 => ?_)
    · have hF := ifp hF c_4
      refine lv_aload_n hx hb d_Tokens_kindOfName_32 rfl (lv_at hl 0 rfl) ?_
      refine va_get (D := (dC, dI)) (ci := 2) (v := .ref (ad 0)) hx hb hts i_Tokens hown hK hP 2 rfl rfl 0 (by decide) (hts _ w_c5b1da8661) (fun _ h9 => h9) rfl d_Tokens_kindOfName_33 ?_
      refine va_ldcS (own := "TinyForge$Tokens") (index := 91) (tx := "else") (q := ad (100 + 2)) hx hb hown (hZ.2.1 2 ("TinyForge$Tokens", 91, "else", [101, 108, 115, 101]) rfl) d_Tokens_kindOfName_36 ?_
      refine lv_iload_n hx hb d_Tokens_kindOfName_38 rfl (lv_at hl 1 rfl) ?_
      refine lv_iload_n hx hb d_Tokens_kindOfName_39 rfl (lv_at hl 2 rfl) ?_
      obtain ⟨r5, h5, hF⟩ := b1E hF
      refine callVI (As := [.ref (ad (100 + 2)), .int a1, .int a2]) X (ct_Text_spells l dC dI ad cA H.size h5) lk_Tokens_85 ⟨rfl, rfl, by decide, by decide⟩ 0 rfl rfl hP hD hS hl.1 rfl rfl (Nat.le_of_ble_eq_true rfl) d_Tokens_kindOfName_40 (fun H locs hP hD hS => ?_)
      refine lv_if_eq (tgt := 48) hx hb d_Tokens_kindOfName_43 (by decide) (fun c_6 => ?_) (fun c_6 => ?_)
      · have hF := ifp hF c_6
        refine lv_aload_n hx hb d_Tokens_kindOfName_48 rfl (lv_at hl 0 rfl) ?_
        refine va_get (D := (dC, dI)) (ci := 2) (v := .ref (ad 0)) hx hb hts i_Tokens hown hK hP 2 rfl rfl 0 (by decide) (hts _ w_c5b1da8661) (fun _ h9 => h9) rfl d_Tokens_kindOfName_49 ?_
        refine va_ldcS (own := "TinyForge$Tokens") (index := 93) (tx := "while") (q := ad (100 + 3)) hx hb hown (hZ.2.1 3 ("TinyForge$Tokens", 93, "while", [119, 104, 105, 108, 101]) rfl) d_Tokens_kindOfName_52 ?_
        refine lv_iload_n hx hb d_Tokens_kindOfName_54 rfl (lv_at hl 1 rfl) ?_
        refine lv_iload_n hx hb d_Tokens_kindOfName_55 rfl (lv_at hl 2 rfl) ?_
        obtain ⟨r7, h7, hF⟩ := b1E hF
        refine callVI (As := [.ref (ad (100 + 3)), .int a1, .int a2]) X (ct_Text_spells l dC dI ad cA H.size h7) lk_Tokens_85 ⟨rfl, rfl, by decide, by decide⟩ 0 rfl rfl hP hD hS hl.1 rfl rfl (Nat.le_of_ble_eq_true rfl) d_Tokens_kindOfName_56 (fun H locs hP hD hS => ?_)
        refine lv_if_eq (tgt := 65) hx hb d_Tokens_kindOfName_59 (by decide) (fun c_8 => ?_) (fun c_8 => ?_)
        · have hF := ifp hF c_8
          refine lv_aload_n hx hb d_Tokens_kindOfName_65 rfl (lv_at hl 0 rfl) ?_
          refine va_get (D := (dC, dI)) (ci := 2) (v := .ref (ad 0)) hx hb hts i_Tokens hown hK hP 2 rfl rfl 0 (by decide) (hts _ w_c5b1da8661) (fun _ h9 => h9) rfl d_Tokens_kindOfName_66 ?_
          refine va_ldcS (own := "TinyForge$Tokens") (index := 95) (tx := "return") (q := ad (100 + 4)) hx hb hown (hZ.2.1 4 ("TinyForge$Tokens", 95, "return", [114, 101, 116, 117, 114, 110]) rfl) d_Tokens_kindOfName_69 ?_
          refine lv_iload_n hx hb d_Tokens_kindOfName_71 rfl (lv_at hl 1 rfl) ?_
          refine lv_iload_n hx hb d_Tokens_kindOfName_72 rfl (lv_at hl 2 rfl) ?_
          obtain ⟨r9, h9, hF⟩ := b1E hF
          refine callVI (As := [.ref (ad (100 + 4)), .int a1, .int a2]) X (ct_Text_spells l dC dI ad cA H.size h9) lk_Tokens_85 ⟨rfl, rfl, by decide, by decide⟩ 0 rfl rfl hP hD hS hl.1 rfl rfl (Nat.le_of_ble_eq_true rfl) d_Tokens_kindOfName_73 (fun H locs hP hD hS => ?_)
          refine lv_if_eq (tgt := 82) hx hb d_Tokens_kindOfName_76 (by decide) (fun c_10 => ?_) (fun c_10 => ?_)
          · have hF := ifp hF c_10
            refine lv_aload_n hx hb d_Tokens_kindOfName_82 rfl (lv_at hl 0 rfl) ?_
            refine va_get (D := (dC, dI)) (ci := 2) (v := .ref (ad 0)) hx hb hts i_Tokens hown hK hP 2 rfl rfl 0 (by decide) (hts _ w_c5b1da8661) (fun _ h9 => h9) rfl d_Tokens_kindOfName_83 ?_
            refine va_ldcS (own := "TinyForge$Tokens") (index := 97) (tx := "read") (q := ad (100 + 5)) hx hb hown (hZ.2.1 5 ("TinyForge$Tokens", 97, "read", [114, 101, 97, 100]) rfl) d_Tokens_kindOfName_86 ?_
            refine lv_iload_n hx hb d_Tokens_kindOfName_88 rfl (lv_at hl 1 rfl) ?_
            refine lv_iload_n hx hb d_Tokens_kindOfName_89 rfl (lv_at hl 2 rfl) ?_
            obtain ⟨r11, h11, hF⟩ := b1E hF
            refine callVI (As := [.ref (ad (100 + 5)), .int a1, .int a2]) X (ct_Text_spells l dC dI ad cA H.size h11) lk_Tokens_85 ⟨rfl, rfl, by decide, by decide⟩ 0 rfl rfl hP hD hS hl.1 rfl rfl (Nat.le_of_ble_eq_true rfl) d_Tokens_kindOfName_90 (fun H locs hP hD hS => ?_)
            refine lv_if_eq (tgt := 99) hx hb d_Tokens_kindOfName_93 (by decide) (fun c_12 => ?_) (fun c_12 => ?_)
            · have hF := ifp hF c_12
              refine lv_aload_n hx hb d_Tokens_kindOfName_99 rfl (lv_at hl 0 rfl) ?_
              refine va_get (D := (dC, dI)) (ci := 2) (v := .ref (ad 0)) hx hb hts i_Tokens hown hK hP 2 rfl rfl 0 (by decide) (hts _ w_c5b1da8661) (fun _ h9 => h9) rfl d_Tokens_kindOfName_100 ?_
              refine va_ldcS (own := "TinyForge$Tokens") (index := 99) (tx := "print") (q := ad (100 + 6)) hx hb hown (hZ.2.1 6 ("TinyForge$Tokens", 99, "print", [112, 114, 105, 110, 116]) rfl) d_Tokens_kindOfName_103 ?_
              refine lv_iload_n hx hb d_Tokens_kindOfName_105 rfl (lv_at hl 1 rfl) ?_
              refine lv_iload_n hx hb d_Tokens_kindOfName_106 rfl (lv_at hl 2 rfl) ?_
              obtain ⟨r13, h13, hF⟩ := b1E hF
              refine callVI (As := [.ref (ad (100 + 6)), .int a1, .int a2]) X (ct_Text_spells l dC dI ad cA H.size h13) lk_Tokens_85 ⟨rfl, rfl, by decide, by decide⟩ 0 rfl rfl hP hD hS hl.1 rfl rfl (Nat.le_of_ble_eq_true rfl) d_Tokens_kindOfName_107 (fun H locs hP hD hS => ?_)
              refine lv_if_eq (tgt := 118) hx hb d_Tokens_kindOfName_110 (by decide) (fun c_14 => ?_) (fun c_14 => ?_)
              · have hF := ifp hF c_14
                refine lv_iconst (v := 1) hx hb d_Tokens_kindOfName_118 (by decide) ?_
                cases hF
                exact leafI X hP hD hS d_Tokens_kindOfName_119
              · have hF := ifn hF c_14
                refine lv_bipush (v := 9) hx hb d_Tokens_kindOfName_113 (by decide) ?_
                refine lv_goto (tgt := 119) hx hb d_Tokens_kindOfName_115 (by decide) ?_
                cases hF
                exact leafI X hP hD hS d_Tokens_kindOfName_119
            · have hF := ifn hF c_12
              refine lv_bipush (v := 8) hx hb d_Tokens_kindOfName_96 (by decide) ?_
              cases hF
              exact leafI X hP hD hS d_Tokens_kindOfName_98
          · have hF := ifn hF c_10
            refine lv_bipush (v := 7) hx hb d_Tokens_kindOfName_79 (by decide) ?_
            cases hF
            exact leafI X hP hD hS d_Tokens_kindOfName_81
        · have hF := ifn hF c_8
          refine lv_bipush (v := 6) hx hb d_Tokens_kindOfName_62 (by decide) ?_
          cases hF
          exact leafI X hP hD hS d_Tokens_kindOfName_64
      · have hF := ifn hF c_6
        refine lv_iconst (v := 5) hx hb d_Tokens_kindOfName_46 (by decide) ?_
        cases hF
        exact leafI X hP hD hS d_Tokens_kindOfName_47
    · have hF := ifn hF c_4
      refine lv_iconst (v := 4) hx hb d_Tokens_kindOfName_30 (by decide) ?_
      cases hF
      exact leafI X hP hD hS d_Tokens_kindOfName_31
  · have hF := ifn hF c_2
    refine lv_iconst (v := 3) hx hb d_Tokens_kindOfName_14 (by decide) ?_
    cases hF
    exact leafI X hP hD hS d_Tokens_kindOfName_15
theorem d_Tokens_takeName_0 : decode b_Tokens_takeName 0 = .ok (.lconst 0, 1) := by decide +kernel
theorem d_Tokens_takeName_1 : decode b_Tokens_takeName 1 = .ok (.lstore_n 2, 1) := by decide +kernel
theorem d_Tokens_takeName_2 : decode b_Tokens_takeName 2 = .ok (.iload_n 1, 1) := by decide +kernel
theorem d_Tokens_takeName_3 : decode b_Tokens_takeName 3 = .ok (.istore 4, 2) := by decide +kernel
theorem d_Tokens_takeName_5 : decode b_Tokens_takeName 5 = .ok (.iload 4, 2) := by decide +kernel
theorem d_Tokens_takeName_7 : decode b_Tokens_takeName 7 = .ok (.aload_n 0, 1) := by decide +kernel
theorem d_Tokens_takeName_8 : decode b_Tokens_takeName 8 = .ok (.getfield 29, 3) := by decide +kernel
theorem d_Tokens_takeName_11 : decode b_Tokens_takeName 11 = .ok (.getfield 37, 3) := by decide +kernel
theorem d_Tokens_takeName_14 : decode b_Tokens_takeName 14 = .ok (.if_icmp .ge 49, 3) := by decide +kernel
theorem d_Tokens_takeName_17 : decode b_Tokens_takeName 17 = .ok (.aload_n 0, 1) := by decide +kernel
theorem d_Tokens_takeName_18 : decode b_Tokens_takeName 18 = .ok (.getfield 29, 3) := by decide +kernel
theorem d_Tokens_takeName_21 : decode b_Tokens_takeName 21 = .ok (.iload 4, 2) := by decide +kernel
theorem d_Tokens_takeName_23 : decode b_Tokens_takeName 23 = .ok (.invokevirtual 56, 3) := by decide +kernel
theorem d_Tokens_takeName_26 : decode b_Tokens_takeName 26 = .ok (.ifCond .ne 15, 3) := by decide +kernel
theorem d_Tokens_takeName_29 : decode b_Tokens_takeName 29 = .ok (.aload_n 0, 1) := by decide +kernel
theorem d_Tokens_takeName_30 : decode b_Tokens_takeName 30 = .ok (.getfield 29, 3) := by decide +kernel
theorem d_Tokens_takeName_33 : decode b_Tokens_takeName 33 = .ok (.iload 4, 2) := by decide +kernel
theorem d_Tokens_takeName_35 : decode b_Tokens_takeName 35 = .ok (.invokevirtual 62, 3) := by decide +kernel
theorem d_Tokens_takeName_38 : decode b_Tokens_takeName 38 = .ok (.ifCond .eq 25, 3) := by decide +kernel
theorem d_Tokens_takeName_41 : decode b_Tokens_takeName 41 = .ok (.lload_n 2, 1) := by decide +kernel
theorem d_Tokens_takeName_42 : decode b_Tokens_takeName 42 = .ok (.bipush 8, 2) := by decide +kernel
theorem d_Tokens_takeName_44 : decode b_Tokens_takeName 44 = .ok (.lshl, 1) := by decide +kernel
theorem d_Tokens_takeName_45 : decode b_Tokens_takeName 45 = .ok (.aload_n 0, 1) := by decide +kernel
theorem d_Tokens_takeName_46 : decode b_Tokens_takeName 46 = .ok (.getfield 29, 3) := by decide +kernel
theorem d_Tokens_takeName_49 : decode b_Tokens_takeName 49 = .ok (.iload 4, 2) := by decide +kernel
theorem d_Tokens_takeName_51 : decode b_Tokens_takeName 51 = .ok (.invokevirtual 71, 3) := by decide +kernel
theorem d_Tokens_takeName_54 : decode b_Tokens_takeName 54 = .ok (.i2l, 1) := by decide +kernel
theorem d_Tokens_takeName_55 : decode b_Tokens_takeName 55 = .ok (.lor, 1) := by decide +kernel
theorem d_Tokens_takeName_56 : decode b_Tokens_takeName 56 = .ok (.lstore_n 2, 1) := by decide +kernel
theorem d_Tokens_takeName_57 : decode b_Tokens_takeName 57 = .ok (.iinc 4 1, 3) := by decide +kernel
theorem d_Tokens_takeName_60 : decode b_Tokens_takeName 60 = .ok (.goto (-55), 3) := by decide +kernel
theorem d_Tokens_takeName_63 : decode b_Tokens_takeName 63 = .ok (.iload 4, 2) := by decide +kernel
theorem d_Tokens_takeName_65 : decode b_Tokens_takeName 65 = .ok (.iload_n 1, 1) := by decide +kernel
theorem d_Tokens_takeName_66 : decode b_Tokens_takeName 66 = .ok (.isub, 1) := by decide +kernel
theorem d_Tokens_takeName_67 : decode b_Tokens_takeName 67 = .ok (.bipush 8, 2) := by decide +kernel
theorem d_Tokens_takeName_69 : decode b_Tokens_takeName 69 = .ok (.if_icmp .le 12, 3) := by decide +kernel
theorem d_Tokens_takeName_72 : decode b_Tokens_takeName 72 = .ok (.aload_n 0, 1) := by decide +kernel
theorem d_Tokens_takeName_73 : decode b_Tokens_takeName 73 = .ok (.getfield 33, 3) := by decide +kernel
theorem d_Tokens_takeName_76 : decode b_Tokens_takeName 76 = .ok (.iconst 1, 1) := by decide +kernel
theorem d_Tokens_takeName_77 : decode b_Tokens_takeName 77 = .ok (.iload_n 1, 1) := by decide +kernel
theorem d_Tokens_takeName_78 : decode b_Tokens_takeName 78 = .ok (.invokevirtual 50, 3) := by decide +kernel
theorem d_Tokens_takeName_81 : decode b_Tokens_takeName 81 = .ok (.aload_n 0, 1) := by decide +kernel
theorem d_Tokens_takeName_82 : decode b_Tokens_takeName 82 = .ok (.aload_n 0, 1) := by decide +kernel
theorem d_Tokens_takeName_83 : decode b_Tokens_takeName 83 = .ok (.iload_n 1, 1) := by decide +kernel
theorem d_Tokens_takeName_84 : decode b_Tokens_takeName 84 = .ok (.iload 4, 2) := by decide +kernel
theorem d_Tokens_takeName_86 : decode b_Tokens_takeName 86 = .ok (.invokevirtual 75, 3) := by decide +kernel
theorem d_Tokens_takeName_89 : decode b_Tokens_takeName 89 = .ok (.iload_n 1, 1) := by decide +kernel
theorem d_Tokens_takeName_90 : decode b_Tokens_takeName 90 = .ok (.lload_n 2, 1) := by decide +kernel
theorem d_Tokens_takeName_91 : decode b_Tokens_takeName 91 = .ok (.invokevirtual 79, 3) := by decide +kernel
theorem d_Tokens_takeName_94 : decode b_Tokens_takeName 94 = .ok (.iload 4, 2) := by decide +kernel
theorem d_Tokens_takeName_96 : decode b_Tokens_takeName 96 = .ok (.ireturn, 1) := by decide +kernel
def tTokens_takeName_b1 (k : Nat → St → Int32 → Int32 → Int64 → Option (Int32 × St)) (σ : St) (x1 : Int32) (x2 : Int32) (y1 : Int64) : Option (Int32 × St) := if (σ.1 0) ≤ x2 then k 3 σ x1 x2 y1 else b1 (tText_isLetter σ x2) (fun r2 => if r2 = 0 then b1 (tText_isDigit σ x2) (fun r4 => if r4 = 0 then k 3 σ x1 x2 y1 else k 2 σ x1 x2 y1) else k 2 σ x1 x2 y1)
def tTokens_takeName_b2 (k : Nat → St → Int32 → Int32 → Int64 → Option (Int32 × St)) (σ : St) (x1 : Int32) (x2 : Int32) (y1 : Int64) : Option (Int32 × St) := b1 (tText_at σ x2) (fun r8 => k 1 σ x1 (x2 + 1) ((y1 <<< ((8 : Int32).toInt64 &&& 63)) ||| ((r8 : Int32).toInt64)))
def tTokens_takeName_b3 (k : Nat → St → Int32 → Int32 → Int64 → Option (Int32 × St)) (σ : St) (x1 : Int32) (x2 : Int32) (y1 : Int64) : Option (Int32 × St) := if (x2 - x1) ≤ 8 then k 4 σ x1 x2 y1 else b1 (tRefusal_refuse σ 1 x1) (fun u7 => k 4 u7 x1 x2 y1)
def tTokens_takeName_b4 (k : Nat → St → Int32 → Int32 → Int64 → Option (Int32 × St)) (σ : St) (x1 : Int32) (x2 : Int32) (y1 : Int64) : Option (Int32 × St) := b1 (tTokens_kindOfName σ x1 x2) (fun r9 => b1 (tTokens_add σ r9 x1 y1) (fun u10 => some (x2, u10)))
def tTokens_takeName_L : Nat → Nat → St → Int32 → Int32 → Int64 → Option (Int32 × St)
  | 0, _, _, _, _, _ => none
  | n + 1, lab, σ, x1, x2, y1 => match lab with
    | 1 => tTokens_takeName_b1 (tTokens_takeName_L n) σ x1 x2 y1
    | 2 => tTokens_takeName_b2 (tTokens_takeName_L n) σ x1 x2 y1
    | 3 => tTokens_takeName_b3 (tTokens_takeName_L n) σ x1 x2 y1
    | 4 => tTokens_takeName_b4 (tTokens_takeName_L n) σ x1 x2 y1
    | _ => none
def tTokens_takeName (σ : St) (a1 : Int32) : Option (Int32 × St) := tTokens_takeName_L 2000 1 σ a1 a1 0
set_option maxHeartbeats 4000000 in
set_option maxRecDepth 100000 in
theorem tTokens_takeName_blk {p : Program} {e : Env} {s : State} {m : MethodId} {args : Array Value} {below : List Frame} {meth : Method} {c : Code} {A : Nat → Prop} (l : Launch) (dC : Nat → ClassId) (dI : Nat → Nat → Nat) (ad : Nat → Nat) (cA : Nat → ClassId) {r : Int32} {σ' : St} (X : Cx p s m args meth c b_Tokens_takeName 5 (some .int) "TinyForge$Tokens" (dC, dI) (ttys cA) ad A) : ∀ n : Nat, (∀ (σ : St) (x1 : Int32) (x2 : Int32) (y1 : Int64) (H : Heap) (locs : List Loc) (ls : Array Slot), tTokens_takeName_L n 1 σ x1 x2 y1 = some (r, σ') → va_P (dC, dI) vwCl (tcw ad cA σ) H → va_D A (tcw ad cA σ) → va_S A s.heap H locs → lv_has ls 5 [(0, .ref (ad 2)), (1, .int x1), (2, .long y1), (4, .int x2)] → W p l e { frames := 6, cells := 0, slots := 0, locals := 131 } s m args below meth c H locs 0 0 (MQ below (QI (dC, dI) (ttys cA) (tcw ad cA) A r σ') args s 0 0 A) (F0 m 5 ls [])) ∧ (∀ (σ : St) (x1 : Int32) (x2 : Int32) (y1 : Int64) (H : Heap) (locs : List Loc) (ls : Array Slot), tTokens_takeName_L n 2 σ x1 x2 y1 = some (r, σ') → va_P (dC, dI) vwCl (tcw ad cA σ) H → va_D A (tcw ad cA σ) → va_S A s.heap H locs → lv_has ls 5 [(0, .ref (ad 2)), (1, .int x1), (2, .long y1), (4, .int x2)] → W p l e { frames := 6, cells := 0, slots := 0, locals := 131 } s m args below meth c H locs 0 0 (MQ below (QI (dC, dI) (ttys cA) (tcw ad cA) A r σ') args s 0 0 A) (F0 m 41 ls [])) ∧ (∀ (σ : St) (x1 : Int32) (x2 : Int32) (y1 : Int64) (H : Heap) (locs : List Loc) (ls : Array Slot), tTokens_takeName_L n 3 σ x1 x2 y1 = some (r, σ') → va_P (dC, dI) vwCl (tcw ad cA σ) H → va_D A (tcw ad cA σ) → va_S A s.heap H locs → lv_has ls 5 [(0, .ref (ad 2)), (1, .int x1), (2, .long y1), (4, .int x2)] → W p l e { frames := 6, cells := 0, slots := 0, locals := 131 } s m args below meth c H locs 0 0 (MQ below (QI (dC, dI) (ttys cA) (tcw ad cA) A r σ') args s 0 0 A) (F0 m 63 ls [])) ∧ (∀ (σ : St) (x1 : Int32) (x2 : Int32) (y1 : Int64) (H : Heap) (locs : List Loc) (ls : Array Slot), tTokens_takeName_L n 4 σ x1 x2 y1 = some (r, σ') → va_P (dC, dI) vwCl (tcw ad cA σ) H → va_D A (tcw ad cA σ) → va_S A s.heap H locs → lv_has ls 5 [(0, .ref (ad 2)), (1, .int x1), (2, .long y1), (4, .int x2)] → W p l e { frames := 6, cells := 0, slots := 0, locals := 131 } s m args below meth c H locs 0 0 (MQ below (QI (dC, dI) (ttys cA) (tcw ad cA) A r σ') args s 0 0 A) (F0 m 81 ls [])) := by
  obtain ⟨hx, hb, hr, hml, hown, hlocks, hts, hA, hK, hZ⟩ := id X
  intro n
  induction n with
  | zero => exact ⟨(fun σ x1 x2 y1 H locs ls hF => by cases hF), (fun σ x1 x2 y1 H locs ls hF => by cases hF), (fun σ x1 x2 y1 H locs ls hF => by cases hF), (fun σ x1 x2 y1 H locs ls hF => by cases hF)⟩
  | succ n ihn =>
    refine ⟨fun σ x1 x2 y1 H locs ls hF hP hD hS hl => ?_, fun σ x1 x2 y1 H locs ls hF hP hD hS hl => ?_, fun σ x1 x2 y1 H locs ls hF hP hD hS hl => ?_, fun σ x1 x2 y1 H locs ls hF hP hD hS hl => ?_⟩
    · have hF : tTokens_takeName_b1 (tTokens_takeName_L n) σ x1 x2 y1 = some (r, σ') := hF
      unfold tTokens_takeName_b1 at hF
      refine lv_iload hx hb d_Tokens_takeName_5 (lv_at hl 3 rfl) ?_
      refine lv_aload_n hx hb d_Tokens_takeName_7 rfl (lv_at hl 0 rfl) ?_
      refine va_get (D := (dC, dI)) (ci := 2) (v := .ref (ad 0)) hx hb hts i_Tokens hown hK hP 2 rfl rfl 0 (by decide) (hts _ w_c5b1da8661) (fun _ h9 => h9) rfl d_Tokens_takeName_8 ?_
      refine va_get (D := (dC, dI)) (ci := 0) (v := .int (σ.1 0)) hx hb hts i_Text hown hK hP 0 rfl rfl 1 (by decide) (hts _ w_56434b2ee8) (fun _ h9 => h9) rfl d_Tokens_takeName_11 ?_
      refine lv_icmp_ge (tgt := 63) hx hb d_Tokens_takeName_14 (by decide) (fun c_1 => ?_) (fun c_1 => ?_)
      · have hF := ifp hF c_1
        exact ihn.2.2.1 σ x1 x2 y1 H locs ls hF hP hD hS (lv_sub hl [0, 1, 2, 3] rfl)
      · have hF := ifn hF c_1
        refine lv_aload_n hx hb d_Tokens_takeName_17 rfl (lv_at hl 0 rfl) ?_
        refine va_get (D := (dC, dI)) (ci := 2) (v := .ref (ad 0)) hx hb hts i_Tokens hown hK hP 2 rfl rfl 0 (by decide) (hts _ w_c5b1da8661) (fun _ h9 => h9) rfl d_Tokens_takeName_18 ?_
        refine lv_iload hx hb d_Tokens_takeName_21 (lv_at hl 3 rfl) ?_
        obtain ⟨r2, h2, hF⟩ := b1E hF
        refine callVI (As := [.int x2]) X (ct_Text_isLetter l dC dI ad cA H.size h2) lk_Tokens_56 ⟨rfl, rfl, by decide, by decide⟩ 0 rfl rfl hP hD hS hl.1 rfl rfl (Nat.le_of_ble_eq_true rfl) d_Tokens_takeName_23 (fun H locs hP hD hS => ?_)
        refine lv_if_ne (tgt := 41) hx hb d_Tokens_takeName_26 (by decide) (fun c_3 => ?_) (fun c_3 => ?_)
        · have hF := ifn hF c_3
          exact ihn.2.1 σ x1 x2 y1 H locs ls hF hP hD hS (lv_sub hl [0, 1, 2, 3] rfl)
        · have hF := ifp hF c_3
          refine lv_aload_n hx hb d_Tokens_takeName_29 rfl (lv_at hl 0 rfl) ?_
          refine va_get (D := (dC, dI)) (ci := 2) (v := .ref (ad 0)) hx hb hts i_Tokens hown hK hP 2 rfl rfl 0 (by decide) (hts _ w_c5b1da8661) (fun _ h9 => h9) rfl d_Tokens_takeName_30 ?_
          refine lv_iload hx hb d_Tokens_takeName_33 (lv_at hl 3 rfl) ?_
          obtain ⟨r4, h4, hF⟩ := b1E hF
          refine callVI (As := [.int x2]) X (ct_Text_isDigit l dC dI ad cA H.size h4) lk_Tokens_62 ⟨rfl, rfl, by decide, by decide⟩ 0 rfl rfl hP hD hS hl.1 rfl rfl (Nat.le_of_ble_eq_true rfl) d_Tokens_takeName_35 (fun H locs hP hD hS => ?_)
          refine lv_if_eq (tgt := 63) hx hb d_Tokens_takeName_38 (by decide) (fun c_5 => ?_) (fun c_5 => ?_)
          · have hF := ifp hF c_5
            exact ihn.2.2.1 σ x1 x2 y1 H locs ls hF hP hD hS (lv_sub hl [0, 1, 2, 3] rfl)
          · have hF := ifn hF c_5
            exact ihn.2.1 σ x1 x2 y1 H locs ls hF hP hD hS (lv_sub hl [0, 1, 2, 3] rfl)
    · have hF : tTokens_takeName_b2 (tTokens_takeName_L n) σ x1 x2 y1 = some (r, σ') := hF
      unfold tTokens_takeName_b2 at hF
      refine lv_lload_n hx hb d_Tokens_takeName_41 rfl (lv_at hl 2 rfl) ?_
      refine lv_bipush (v := 8) hx hb d_Tokens_takeName_42 (by decide) ?_
      refine lv_lshl (v := (y1 <<< ((8 : Int32).toInt64 &&& 63))) hx hb d_Tokens_takeName_44 rfl ?_
      refine lv_aload_n hx hb d_Tokens_takeName_45 rfl (lv_at hl 0 rfl) ?_
      refine va_get (D := (dC, dI)) (ci := 2) (v := .ref (ad 0)) hx hb hts i_Tokens hown hK hP 2 rfl rfl 0 (by decide) (hts _ w_c5b1da8661) (fun _ h9 => h9) rfl d_Tokens_takeName_46 ?_
      refine lv_iload hx hb d_Tokens_takeName_49 (lv_at hl 3 rfl) ?_
      obtain ⟨r8, h8, hF⟩ := b1E hF
      refine callVI (As := [.int x2]) X (ct_Text_at l dC dI ad cA H.size h8) lk_Tokens_71 ⟨rfl, rfl, by decide, by decide⟩ 0 rfl rfl hP hD hS hl.1 rfl rfl (Nat.le_of_ble_eq_true rfl) d_Tokens_takeName_51 (fun H locs hP hD hS => ?_)
      refine lv_i2l (v := (r8 : Int32).toInt64) hx hb d_Tokens_takeName_54 rfl ?_
      refine lv_lor hx hb d_Tokens_takeName_55 ?_
      refine lv_lstore_n (lv' := [(2, .long ((y1 <<< ((8 : Int32).toInt64 &&& 63)) ||| ((r8 : Int32).toInt64))), (0, .ref (ad 2)), (1, .int x1), (4, .int x2)]) hx hb d_Tokens_takeName_56 rfl hl (by decide) rfl (fun ls hl => ?_)
      refine lv_iinc (v := (x2 + 1)) (lv' := [(4, .int (x2 + 1)), (2, .long ((y1 <<< ((8 : Int32).toInt64 &&& 63)) ||| ((r8 : Int32).toInt64))), (0, .ref (ad 2)), (1, .int x1)]) hx hb d_Tokens_takeName_57 hl (k := 3) rfl rfl (by decide) rfl (fun ls hl => ?_)
      refine lv_goto (tgt := 5) hx hb d_Tokens_takeName_60 (by decide) ?_
      exact ihn.1 σ x1 (x2 + 1) ((y1 <<< ((8 : Int32).toInt64 &&& 63)) ||| ((r8 : Int32).toInt64)) H locs ls hF hP hD hS (lv_sub hl [2, 3, 1, 0] rfl)
    · have hF : tTokens_takeName_b3 (tTokens_takeName_L n) σ x1 x2 y1 = some (r, σ') := hF
      unfold tTokens_takeName_b3 at hF
      refine lv_iload hx hb d_Tokens_takeName_63 (lv_at hl 3 rfl) ?_
      refine lv_iload_n hx hb d_Tokens_takeName_65 rfl (lv_at hl 1 rfl) ?_
      refine lv_isub hx hb d_Tokens_takeName_66 ?_
      refine lv_bipush (v := 8) hx hb d_Tokens_takeName_67 (by decide) ?_
      refine lv_icmp_le (tgt := 81) hx hb d_Tokens_takeName_69 (by decide) (fun c_6 => ?_) (fun c_6 => ?_)
      · have hF := ifp hF c_6
        exact ihn.2.2.2 σ x1 x2 y1 H locs ls hF hP hD hS (lv_sub hl [0, 1, 2, 3] rfl)
      · have hF := ifn hF c_6
        refine lv_aload_n hx hb d_Tokens_takeName_72 rfl (lv_at hl 0 rfl) ?_
        refine va_get (D := (dC, dI)) (ci := 2) (v := .ref (ad 1)) hx hb hts i_Tokens hown hK hP 2 rfl rfl 1 (by decide) (hts _ w_324bcc424f) (fun _ h9 => h9) rfl d_Tokens_takeName_73 ?_
        refine lv_iconst (v := 1) hx hb d_Tokens_takeName_76 (by decide) ?_
        refine lv_iload_n hx hb d_Tokens_takeName_77 rfl (lv_at hl 1 rfl) ?_
        obtain ⟨u7, h7, hF⟩ := b1E hF
        refine callVV (As := [.int 1, .int x1]) X (ct_Refusal_refuse l dC dI ad cA H.size h7) lk_Tokens_50 ⟨rfl, rfl, by decide, by decide⟩ 1 rfl rfl hP hD hS hl.1 rfl rfl (Nat.le_of_ble_eq_true rfl) d_Tokens_takeName_78 (fun H locs hP hD hS => ?_)
        exact ihn.2.2.2 u7 x1 x2 y1 H locs ls hF hP hD hS (lv_sub hl [0, 1, 2, 3] rfl)
    · have hF : tTokens_takeName_b4 (tTokens_takeName_L n) σ x1 x2 y1 = some (r, σ') := hF
      unfold tTokens_takeName_b4 at hF
      refine lv_aload_n hx hb d_Tokens_takeName_81 rfl (lv_at hl 0 rfl) ?_
      refine lv_aload_n hx hb d_Tokens_takeName_82 rfl (lv_at hl 0 rfl) ?_
      refine lv_iload_n hx hb d_Tokens_takeName_83 rfl (lv_at hl 1 rfl) ?_
      refine lv_iload hx hb d_Tokens_takeName_84 (lv_at hl 3 rfl) ?_
      obtain ⟨r9, h9, hF⟩ := b1E hF
      refine callVI (As := [.int x1, .int x2]) X (ct_Tokens_kindOfName l dC dI ad cA H.size h9) lk_Tokens_75 ⟨rfl, rfl, by decide, by decide⟩ 2 rfl rfl hP hD hS hl.1 rfl rfl (Nat.le_of_ble_eq_true rfl) d_Tokens_takeName_86 (fun H locs hP hD hS => ?_)
      refine lv_iload_n hx hb d_Tokens_takeName_89 rfl (lv_at hl 1 rfl) ?_
      refine lv_lload_n hx hb d_Tokens_takeName_90 rfl (lv_at hl 2 rfl) ?_
      obtain ⟨u10, h10, hF⟩ := b1E hF
      refine callVV (As := [.int r9, .int x1, .long y1]) X (ct_Tokens_add l dC dI ad cA H.size h10) lk_Tokens_79 ⟨rfl, rfl, by decide, by decide⟩ 2 rfl rfl hP hD hS hl.1 rfl rfl (Nat.le_of_ble_eq_true rfl) d_Tokens_takeName_91 (fun H locs hP hD hS => ?_)
      refine lv_iload hx hb d_Tokens_takeName_94 (lv_at hl 3 rfl) ?_
      cases hF
      exact leafI X hP hD hS d_Tokens_takeName_96
set_option maxHeartbeats 4000000 in
set_option maxRecDepth 100000 in
theorem ct_Tokens_takeName (l : Launch) (dC : Nat → ClassId) (dI : Nat → Nat → Nat) (ad : Nat → Nat) (cA : Nat → ClassId) (sz : Nat) {σ : St} {a1 : Int32} {r : Int32} {σ' : St} (hF : tTokens_takeName σ a1 = some (r, σ')) : MI l y_Tokens_takeName b_Tokens_takeName 5 (some .int) { frames := 6, cells := 0, slots := 0, locals := 131 } (dC, dI) (ttys cA) ad (tcw ad cA) [.ref (ad 2), .int a1] σ sz r σ' := by
  refine startM (own := "TinyForge$Tokens") (Qc := fun A => QI (dC, dI) (ttys cA) (tcw ad cA) A r σ') rfl rfl (Nat.le_of_ble_eq_true rfl) ?_
  intro p e s m below meth c A H locs ls X hP hD hS hl
  have hl : lv_has ls 5 [(0, .ref (ad 2)), (1, .int a1)] := hl
  obtain ⟨hx, hb, hr, hml, hown, hlocks, hts, hA, hK, hZ⟩ := id X
  unfold tTokens_takeName at hF
  refine lv_lconst (v := 0) hx hb d_Tokens_takeName_0 (by decide) ?_
  refine lv_lstore_n (lv' := [(2, .long 0), (0, .ref (ad 2)), (1, .int a1)]) hx hb d_Tokens_takeName_1 rfl hl (by decide) rfl (fun ls hl => ?_)
  refine lv_iload_n hx hb d_Tokens_takeName_2 rfl (lv_at hl 2 rfl) ?_
  refine lv_istore (lv' := [(4, .int a1), (2, .long 0), (0, .ref (ad 2)), (1, .int a1)]) hx hb d_Tokens_takeName_3 hl (by decide) rfl (fun ls hl => ?_)
  exact (tTokens_takeName_blk l dC dI ad cA X 2000).1 σ a1 a1 0 H locs ls hF hP hD hS (lv_sub hl [2, 3, 1, 0] rfl)
theorem d_Tokens_takeOne_0 : decode b_Tokens_takeOne 0 = .ok (.aload_n 0, 1) := by decide +kernel
theorem d_Tokens_takeOne_1 : decode b_Tokens_takeOne 1 = .ok (.getfield 29, 3) := by decide +kernel
theorem d_Tokens_takeOne_4 : decode b_Tokens_takeOne 4 = .ok (.iload_n 1, 1) := by decide +kernel
theorem d_Tokens_takeOne_5 : decode b_Tokens_takeOne 5 = .ok (.invokevirtual 56, 3) := by decide +kernel
theorem d_Tokens_takeOne_8 : decode b_Tokens_takeOne 8 = .ok (.ifCond .eq 9, 3) := by decide +kernel
theorem d_Tokens_takeOne_11 : decode b_Tokens_takeOne 11 = .ok (.aload_n 0, 1) := by decide +kernel
theorem d_Tokens_takeOne_12 : decode b_Tokens_takeOne 12 = .ok (.iload_n 1, 1) := by decide +kernel
theorem d_Tokens_takeOne_13 : decode b_Tokens_takeOne 13 = .ok (.invokevirtual 59, 3) := by decide +kernel
theorem d_Tokens_takeOne_16 : decode b_Tokens_takeOne 16 = .ok (.ireturn, 1) := by decide +kernel
theorem d_Tokens_takeOne_17 : decode b_Tokens_takeOne 17 = .ok (.aload_n 0, 1) := by decide +kernel
theorem d_Tokens_takeOne_18 : decode b_Tokens_takeOne 18 = .ok (.getfield 29, 3) := by decide +kernel
theorem d_Tokens_takeOne_21 : decode b_Tokens_takeOne 21 = .ok (.iload_n 1, 1) := by decide +kernel
theorem d_Tokens_takeOne_22 : decode b_Tokens_takeOne 22 = .ok (.invokevirtual 62, 3) := by decide +kernel
theorem d_Tokens_takeOne_25 : decode b_Tokens_takeOne 25 = .ok (.ifCond .eq 9, 3) := by decide +kernel
theorem d_Tokens_takeOne_28 : decode b_Tokens_takeOne 28 = .ok (.aload_n 0, 1) := by decide +kernel
theorem d_Tokens_takeOne_29 : decode b_Tokens_takeOne 29 = .ok (.iload_n 1, 1) := by decide +kernel
theorem d_Tokens_takeOne_30 : decode b_Tokens_takeOne 30 = .ok (.invokevirtual 65, 3) := by decide +kernel
theorem d_Tokens_takeOne_33 : decode b_Tokens_takeOne 33 = .ok (.ireturn, 1) := by decide +kernel
theorem d_Tokens_takeOne_34 : decode b_Tokens_takeOne 34 = .ok (.aload_n 0, 1) := by decide +kernel
theorem d_Tokens_takeOne_35 : decode b_Tokens_takeOne 35 = .ok (.iload_n 1, 1) := by decide +kernel
theorem d_Tokens_takeOne_36 : decode b_Tokens_takeOne 36 = .ok (.invokevirtual 68, 3) := by decide +kernel
theorem d_Tokens_takeOne_39 : decode b_Tokens_takeOne 39 = .ok (.ireturn, 1) := by decide +kernel
def tTokens_takeOne (σ : St) (a1 : Int32) : Option (Int32 × St) := b1 (tText_isLetter σ a1) (fun r1 => if r1 = 0 then b1 (tText_isDigit σ a1) (fun r3 => if r3 = 0 then b2 (tTokens_takeSign σ a1) (fun r5 u5 => some (r5, u5)) else b2 (tTokens_takeNumber σ a1) (fun r6 u6 => some (r6, u6))) else b2 (tTokens_takeName σ a1) (fun r7 u7 => some (r7, u7)))
set_option maxHeartbeats 4000000 in
set_option maxRecDepth 100000 in
theorem ct_Tokens_takeOne (l : Launch) (dC : Nat → ClassId) (dI : Nat → Nat → Nat) (ad : Nat → Nat) (cA : Nat → ClassId) (sz : Nat) {σ : St} {a1 : Int32} {r : Int32} {σ' : St} (hF : tTokens_takeOne σ a1 = some (r, σ')) : MI l y_Tokens_takeOne b_Tokens_takeOne 2 (some .int) { frames := 7, cells := 0, slots := 0, locals := 155 } (dC, dI) (ttys cA) ad (tcw ad cA) [.ref (ad 2), .int a1] σ sz r σ' := by
  refine startM (own := "TinyForge$Tokens") (Qc := fun A => QI (dC, dI) (ttys cA) (tcw ad cA) A r σ') rfl rfl (Nat.le_of_ble_eq_true rfl) ?_
  intro p e s m below meth c A H locs ls X hP hD hS hl
  have hl : lv_has ls 2 [(0, .ref (ad 2)), (1, .int a1)] := hl
  obtain ⟨hx, hb, hr, hml, hown, hlocks, hts, hA, hK, hZ⟩ := id X
  unfold tTokens_takeOne at hF
  refine lv_aload_n hx hb d_Tokens_takeOne_0 rfl (lv_at hl 0 rfl) ?_
  refine va_get (D := (dC, dI)) (ci := 2) (v := .ref (ad 0)) hx hb hts i_Tokens hown hK hP 2 rfl rfl 0 (by decide) (hts _ w_c5b1da8661) (fun _ h9 => h9) rfl d_Tokens_takeOne_1 ?_
  refine lv_iload_n hx hb d_Tokens_takeOne_4 rfl (lv_at hl 1 rfl) ?_
  obtain ⟨r1, h1, hF⟩ := b1E hF
  refine callVI (As := [.int a1]) X (ct_Text_isLetter l dC dI ad cA H.size h1) lk_Tokens_56 ⟨rfl, rfl, by decide, by decide⟩ 0 rfl rfl hP hD hS hl.1 rfl rfl (Nat.le_of_ble_eq_true rfl) d_Tokens_takeOne_5 (fun H locs hP hD hS => ?_)
  refine lv_if_eq (tgt := 17) hx hb d_Tokens_takeOne_8 (by decide) (fun c_2 => ?_) (fun c_2 => ?_)
  · have hF := ifp hF c_2
    refine lv_aload_n hx hb d_Tokens_takeOne_17 rfl (lv_at hl 0 rfl) ?_
    refine va_get (D := (dC, dI)) (ci := 2) (v := .ref (ad 0)) hx hb hts i_Tokens hown hK hP 2 rfl rfl 0 (by decide) (hts _ w_c5b1da8661) (fun _ h9 => h9) rfl d_Tokens_takeOne_18 ?_
    refine lv_iload_n hx hb d_Tokens_takeOne_21 rfl (lv_at hl 1 rfl) ?_
    obtain ⟨r3, h3, hF⟩ := b1E hF
    refine callVI (As := [.int a1]) X (ct_Text_isDigit l dC dI ad cA H.size h3) lk_Tokens_62 ⟨rfl, rfl, by decide, by decide⟩ 0 rfl rfl hP hD hS hl.1 rfl rfl (Nat.le_of_ble_eq_true rfl) d_Tokens_takeOne_22 (fun H locs hP hD hS => ?_)
    refine lv_if_eq (tgt := 34) hx hb d_Tokens_takeOne_25 (by decide) (fun c_4 => ?_) (fun c_4 => ?_)
    · have hF := ifp hF c_4
      refine lv_aload_n hx hb d_Tokens_takeOne_34 rfl (lv_at hl 0 rfl) ?_
      refine lv_iload_n hx hb d_Tokens_takeOne_35 rfl (lv_at hl 1 rfl) ?_
      obtain ⟨r5, u5, h5, hF⟩ := b2E hF
      refine callVI (As := [.int a1]) X (ct_Tokens_takeSign l dC dI ad cA H.size h5) lk_Tokens_68 ⟨rfl, rfl, by decide, by decide⟩ 2 rfl rfl hP hD hS hl.1 rfl rfl (Nat.le_of_ble_eq_true rfl) d_Tokens_takeOne_36 (fun H locs hP hD hS => ?_)
      cases hF
      exact leafI X hP hD hS d_Tokens_takeOne_39
    · have hF := ifn hF c_4
      refine lv_aload_n hx hb d_Tokens_takeOne_28 rfl (lv_at hl 0 rfl) ?_
      refine lv_iload_n hx hb d_Tokens_takeOne_29 rfl (lv_at hl 1 rfl) ?_
      obtain ⟨r6, u6, h6, hF⟩ := b2E hF
      refine callVI (As := [.int a1]) X (ct_Tokens_takeNumber l dC dI ad cA H.size h6) lk_Tokens_65 ⟨rfl, rfl, by decide, by decide⟩ 2 rfl rfl hP hD hS hl.1 rfl rfl (Nat.le_of_ble_eq_true rfl) d_Tokens_takeOne_30 (fun H locs hP hD hS => ?_)
      cases hF
      exact leafI X hP hD hS d_Tokens_takeOne_33
  · have hF := ifn hF c_2
    refine lv_aload_n hx hb d_Tokens_takeOne_11 rfl (lv_at hl 0 rfl) ?_
    refine lv_iload_n hx hb d_Tokens_takeOne_12 rfl (lv_at hl 1 rfl) ?_
    obtain ⟨r7, u7, h7, hF⟩ := b2E hF
    refine callVI (As := [.int a1]) X (ct_Tokens_takeName l dC dI ad cA H.size h7) lk_Tokens_59 ⟨rfl, rfl, by decide, by decide⟩ 2 rfl rfl hP hD hS hl.1 rfl rfl (Nat.le_of_ble_eq_true rfl) d_Tokens_takeOne_13 (fun H locs hP hD hS => ?_)
    cases hF
    exact leafI X hP hD hS d_Tokens_takeOne_16
theorem d_Tokens_takeAll_0 : decode b_Tokens_takeAll 0 = .ok (.aload_n 0, 1) := by decide +kernel
theorem d_Tokens_takeAll_1 : decode b_Tokens_takeAll 1 = .ok (.iconst 0, 1) := by decide +kernel
theorem d_Tokens_takeAll_2 : decode b_Tokens_takeAll 2 = .ok (.putfield 22, 3) := by decide +kernel
theorem d_Tokens_takeAll_5 : decode b_Tokens_takeAll 5 = .ok (.aload_n 0, 1) := by decide +kernel
theorem d_Tokens_takeAll_6 : decode b_Tokens_takeAll 6 = .ok (.iconst (-1), 1) := by decide +kernel
theorem d_Tokens_takeAll_7 : decode b_Tokens_takeAll 7 = .ok (.putfield 26, 3) := by decide +kernel
theorem d_Tokens_takeAll_10 : decode b_Tokens_takeAll 10 = .ok (.iconst 0, 1) := by decide +kernel
theorem d_Tokens_takeAll_11 : decode b_Tokens_takeAll 11 = .ok (.istore_n 1, 1) := by decide +kernel
theorem d_Tokens_takeAll_12 : decode b_Tokens_takeAll 12 = .ok (.iconst 0, 1) := by decide +kernel
theorem d_Tokens_takeAll_13 : decode b_Tokens_takeAll 13 = .ok (.istore_n 2, 1) := by decide +kernel
theorem d_Tokens_takeAll_14 : decode b_Tokens_takeAll 14 = .ok (.iload_n 2, 1) := by decide +kernel
theorem d_Tokens_takeAll_15 : decode b_Tokens_takeAll 15 = .ok (.sipush 480, 3) := by decide +kernel
theorem d_Tokens_takeAll_18 : decode b_Tokens_takeAll 18 = .ok (.if_icmp .ge 43, 3) := by decide +kernel
theorem d_Tokens_takeAll_21 : decode b_Tokens_takeAll 21 = .ok (.iload_n 1, 1) := by decide +kernel
theorem d_Tokens_takeAll_22 : decode b_Tokens_takeAll 22 = .ok (.aload_n 0, 1) := by decide +kernel
theorem d_Tokens_takeAll_23 : decode b_Tokens_takeAll 23 = .ok (.getfield 29, 3) := by decide +kernel
theorem d_Tokens_takeAll_26 : decode b_Tokens_takeAll 26 = .ok (.getfield 37, 3) := by decide +kernel
theorem d_Tokens_takeAll_29 : decode b_Tokens_takeAll 29 = .ok (.if_icmp .ge 32, 3) := by decide +kernel
theorem d_Tokens_takeAll_32 : decode b_Tokens_takeAll 32 = .ok (.aload_n 0, 1) := by decide +kernel
theorem d_Tokens_takeAll_33 : decode b_Tokens_takeAll 33 = .ok (.getfield 29, 3) := by decide +kernel
theorem d_Tokens_takeAll_36 : decode b_Tokens_takeAll 36 = .ok (.iload_n 1, 1) := by decide +kernel
theorem d_Tokens_takeAll_37 : decode b_Tokens_takeAll 37 = .ok (.invokevirtual 42, 3) := by decide +kernel
theorem d_Tokens_takeAll_40 : decode b_Tokens_takeAll 40 = .ok (.ifCond .eq 9, 3) := by decide +kernel
theorem d_Tokens_takeAll_43 : decode b_Tokens_takeAll 43 = .ok (.iload_n 1, 1) := by decide +kernel
theorem d_Tokens_takeAll_44 : decode b_Tokens_takeAll 44 = .ok (.iconst 1, 1) := by decide +kernel
theorem d_Tokens_takeAll_45 : decode b_Tokens_takeAll 45 = .ok (.iadd, 1) := by decide +kernel
theorem d_Tokens_takeAll_46 : decode b_Tokens_takeAll 46 = .ok (.goto 8, 3) := by decide +kernel
theorem d_Tokens_takeAll_49 : decode b_Tokens_takeAll 49 = .ok (.aload_n 0, 1) := by decide +kernel
theorem d_Tokens_takeAll_50 : decode b_Tokens_takeAll 50 = .ok (.iload_n 1, 1) := by decide +kernel
theorem d_Tokens_takeAll_51 : decode b_Tokens_takeAll 51 = .ok (.invokevirtual 46, 3) := by decide +kernel
theorem d_Tokens_takeAll_54 : decode b_Tokens_takeAll 54 = .ok (.istore_n 1, 1) := by decide +kernel
theorem d_Tokens_takeAll_55 : decode b_Tokens_takeAll 55 = .ok (.iinc 2 1, 3) := by decide +kernel
theorem d_Tokens_takeAll_58 : decode b_Tokens_takeAll 58 = .ok (.goto (-44), 3) := by decide +kernel
theorem d_Tokens_takeAll_61 : decode b_Tokens_takeAll 61 = .ok (.aload_n 0, 1) := by decide +kernel
theorem d_Tokens_takeAll_62 : decode b_Tokens_takeAll 62 = .ok (.getfield 26, 3) := by decide +kernel
theorem d_Tokens_takeAll_65 : decode b_Tokens_takeAll 65 = .ok (.ifCond .lt 15, 3) := by decide +kernel
theorem d_Tokens_takeAll_68 : decode b_Tokens_takeAll 68 = .ok (.aload_n 0, 1) := by decide +kernel
theorem d_Tokens_takeAll_69 : decode b_Tokens_takeAll 69 = .ok (.getfield 33, 3) := by decide +kernel
theorem d_Tokens_takeAll_72 : decode b_Tokens_takeAll 72 = .ok (.iconst 2, 1) := by decide +kernel
theorem d_Tokens_takeAll_73 : decode b_Tokens_takeAll 73 = .ok (.aload_n 0, 1) := by decide +kernel
theorem d_Tokens_takeAll_74 : decode b_Tokens_takeAll 74 = .ok (.getfield 26, 3) := by decide +kernel
theorem d_Tokens_takeAll_77 : decode b_Tokens_takeAll 77 = .ok (.invokevirtual 50, 3) := by decide +kernel
theorem d_Tokens_takeAll_80 : decode b_Tokens_takeAll 80 = .ok (.return_, 1) := by decide +kernel
def tTokens_takeAll_b1 (k : Nat → St → Int32 → Int32 → Option (St)) (σ : St) (x1 : Int32) (x2 : Int32) : Option (St) := if (480 : Int32) ≤ x2 then k 3 σ 0 0 else if (σ.1 0) ≤ x1 then k 3 σ 0 0 else b1 (tText_isBlank σ x1) (fun r3 => if r3 = 0 then b2 (tTokens_takeOne σ x1) (fun r5 u5 => k 2 u5 x2 r5) else k 2 σ x2 (x1 + 1))
def tTokens_takeAll_b2 (k : Nat → St → Int32 → Int32 → Option (St)) (σ : St) (x1 : Int32) (x2 : Int32) : Option (St) := k 1 σ x2 (x1 + 1)
def tTokens_takeAll_b3 (k : Nat → St → Int32 → Int32 → Option (St)) (σ : St) (x1 : Int32) (x2 : Int32) : Option (St) := if (σ.1 5) < 0 then some σ else b1 (tRefusal_refuse σ 2 (σ.1 5)) (fun u7 => some u7)
def tTokens_takeAll_L : Nat → Nat → St → Int32 → Int32 → Option (St)
  | 0, _, _, _, _ => none
  | n + 1, lab, σ, x1, x2 => match lab with
    | 1 => tTokens_takeAll_b1 (tTokens_takeAll_L n) σ x1 x2
    | 2 => tTokens_takeAll_b2 (tTokens_takeAll_L n) σ x1 x2
    | 3 => tTokens_takeAll_b3 (tTokens_takeAll_L n) σ x1 x2
    | _ => none
def tTokens_takeAll (σ : St) : Option (St) := tTokens_takeAll_L 2000 1 (sI (sI σ 4 0) 5 (-1)) 0 0
set_option maxHeartbeats 4000000 in
set_option maxRecDepth 100000 in
theorem tTokens_takeAll_blk {p : Program} {e : Env} {s : State} {m : MethodId} {args : Array Value} {below : List Frame} {meth : Method} {c : Code} {A : Nat → Prop} (l : Launch) (dC : Nat → ClassId) (dI : Nat → Nat → Nat) (ad : Nat → Nat) (cA : Nat → ClassId) {σ' : St} (X : Cx p s m args meth c b_Tokens_takeAll 3 none "TinyForge$Tokens" (dC, dI) (ttys cA) ad A) : ∀ n : Nat, (∀ (σ : St) (x1 : Int32) (x2 : Int32) (H : Heap) (locs : List Loc) (ls : Array Slot), tTokens_takeAll_L n 1 σ x1 x2 = some σ' → va_P (dC, dI) vwCl (tcw ad cA σ) H → va_D A (tcw ad cA σ) → va_S A s.heap H locs → lv_has ls 3 [(0, .ref (ad 2)), (1, .int x1), (2, .int x2)] → W p l e { frames := 8, cells := 0, slots := 0, locals := 176 } s m args below meth c H locs 0 0 (MQ below (QV (dC, dI) (ttys cA) (tcw ad cA) A σ') args s 0 0 A) (F0 m 14 ls [])) ∧ (∀ (σ : St) (x1 : Int32) (x2 : Int32) (H : Heap) (locs : List Loc) (ls : Array Slot), tTokens_takeAll_L n 2 σ x1 x2 = some σ' → va_P (dC, dI) vwCl (tcw ad cA σ) H → va_D A (tcw ad cA σ) → va_S A s.heap H locs → lv_has ls 3 [(0, .ref (ad 2)), (2, .int x1)] → W p l e { frames := 8, cells := 0, slots := 0, locals := 176 } s m args below meth c H locs 0 0 (MQ below (QV (dC, dI) (ttys cA) (tcw ad cA) A σ') args s 0 0 A) (F0 m 54 ls [.int x2])) ∧ (∀ (σ : St) (x1 : Int32) (x2 : Int32) (H : Heap) (locs : List Loc) (ls : Array Slot), tTokens_takeAll_L n 3 σ x1 x2 = some σ' → va_P (dC, dI) vwCl (tcw ad cA σ) H → va_D A (tcw ad cA σ) → va_S A s.heap H locs → lv_has ls 3 [(0, .ref (ad 2))] → W p l e { frames := 8, cells := 0, slots := 0, locals := 176 } s m args below meth c H locs 0 0 (MQ below (QV (dC, dI) (ttys cA) (tcw ad cA) A σ') args s 0 0 A) (F0 m 61 ls [])) := by
  obtain ⟨hx, hb, hr, hml, hown, hlocks, hts, hA, hK, hZ⟩ := id X
  intro n
  induction n with
  | zero => exact ⟨(fun σ x1 x2 H locs ls hF => by cases hF), (fun σ x1 x2 H locs ls hF => by cases hF), (fun σ x1 x2 H locs ls hF => by cases hF)⟩
  | succ n ihn =>
    refine ⟨fun σ x1 x2 H locs ls hF hP hD hS hl => ?_, fun σ x1 x2 H locs ls hF hP hD hS hl => ?_, fun σ x1 x2 H locs ls hF hP hD hS hl => ?_⟩
    · have hF : tTokens_takeAll_b1 (tTokens_takeAll_L n) σ x1 x2 = some σ' := hF
      unfold tTokens_takeAll_b1 at hF
      refine lv_iload_n hx hb d_Tokens_takeAll_14 rfl (lv_at hl 2 rfl) ?_
      refine lv_sipush (v := 480) hx hb d_Tokens_takeAll_15 (by decide) ?_
      refine lv_icmp_ge (tgt := 61) hx hb d_Tokens_takeAll_18 (by decide) (fun c_1 => ?_) (fun c_1 => ?_)
      · have hF := ifp hF c_1
        exact ihn.2.2 σ 0 0 H locs ls hF hP hD hS (lv_sub hl [0] rfl)
      · have hF := ifn hF c_1
        refine lv_iload_n hx hb d_Tokens_takeAll_21 rfl (lv_at hl 1 rfl) ?_
        refine lv_aload_n hx hb d_Tokens_takeAll_22 rfl (lv_at hl 0 rfl) ?_
        refine va_get (D := (dC, dI)) (ci := 2) (v := .ref (ad 0)) hx hb hts i_Tokens hown hK hP 2 rfl rfl 0 (by decide) (hts _ w_c5b1da8661) (fun _ h9 => h9) rfl d_Tokens_takeAll_23 ?_
        refine va_get (D := (dC, dI)) (ci := 0) (v := .int (σ.1 0)) hx hb hts i_Text hown hK hP 0 rfl rfl 1 (by decide) (hts _ w_56434b2ee8) (fun _ h9 => h9) rfl d_Tokens_takeAll_26 ?_
        refine lv_icmp_ge (tgt := 61) hx hb d_Tokens_takeAll_29 (by decide) (fun c_2 => ?_) (fun c_2 => ?_)
        · have hF := ifp hF c_2
          exact ihn.2.2 σ 0 0 H locs ls hF hP hD hS (lv_sub hl [0] rfl)
        · have hF := ifn hF c_2
          refine lv_aload_n hx hb d_Tokens_takeAll_32 rfl (lv_at hl 0 rfl) ?_
          refine va_get (D := (dC, dI)) (ci := 2) (v := .ref (ad 0)) hx hb hts i_Tokens hown hK hP 2 rfl rfl 0 (by decide) (hts _ w_c5b1da8661) (fun _ h9 => h9) rfl d_Tokens_takeAll_33 ?_
          refine lv_iload_n hx hb d_Tokens_takeAll_36 rfl (lv_at hl 1 rfl) ?_
          obtain ⟨r3, h3, hF⟩ := b1E hF
          refine callVI (As := [.int x1]) X (ct_Text_isBlank l dC dI ad cA H.size h3) lk_Tokens_42 ⟨rfl, rfl, by decide, by decide⟩ 0 rfl rfl hP hD hS hl.1 rfl rfl (Nat.le_of_ble_eq_true rfl) d_Tokens_takeAll_37 (fun H locs hP hD hS => ?_)
          refine lv_if_eq (tgt := 49) hx hb d_Tokens_takeAll_40 (by decide) (fun c_4 => ?_) (fun c_4 => ?_)
          · have hF := ifp hF c_4
            refine lv_aload_n hx hb d_Tokens_takeAll_49 rfl (lv_at hl 0 rfl) ?_
            refine lv_iload_n hx hb d_Tokens_takeAll_50 rfl (lv_at hl 1 rfl) ?_
            obtain ⟨r5, u5, h5, hF⟩ := b2E hF
            refine callVI (As := [.int x1]) X (ct_Tokens_takeOne l dC dI ad cA H.size h5) lk_Tokens_46 ⟨rfl, rfl, by decide, by decide⟩ 2 rfl rfl hP hD hS hl.1 rfl rfl (Nat.le_of_ble_eq_true rfl) d_Tokens_takeAll_51 (fun H locs hP hD hS => ?_)
            exact ihn.2.1 u5 x2 r5 H locs ls hF hP hD hS (lv_sub hl [0, 2] rfl)
          · have hF := ifn hF c_4
            refine lv_iload_n hx hb d_Tokens_takeAll_43 rfl (lv_at hl 1 rfl) ?_
            refine lv_iconst (v := 1) hx hb d_Tokens_takeAll_44 (by decide) ?_
            refine lv_iadd hx hb d_Tokens_takeAll_45 ?_
            refine lv_goto (tgt := 54) hx hb d_Tokens_takeAll_46 (by decide) ?_
            exact ihn.2.1 σ x2 (x1 + 1) H locs ls hF hP hD hS (lv_sub hl [0, 2] rfl)
    · have hF : tTokens_takeAll_b2 (tTokens_takeAll_L n) σ x1 x2 = some σ' := hF
      unfold tTokens_takeAll_b2 at hF
      refine lv_istore_n (lv' := [(1, .int x2), (0, .ref (ad 2)), (2, .int x1)]) hx hb d_Tokens_takeAll_54 rfl hl (by decide) rfl (fun ls hl => ?_)
      refine lv_iinc (v := (x1 + 1)) (lv' := [(2, .int (x1 + 1)), (1, .int x2), (0, .ref (ad 2))]) hx hb d_Tokens_takeAll_55 hl (k := 2) rfl rfl (by decide) rfl (fun ls hl => ?_)
      refine lv_goto (tgt := 14) hx hb d_Tokens_takeAll_58 (by decide) ?_
      exact ihn.1 σ x2 (x1 + 1) H locs ls hF hP hD hS (lv_sub hl [2, 1, 0] rfl)
    · have hF : tTokens_takeAll_b3 (tTokens_takeAll_L n) σ x1 x2 = some σ' := hF
      unfold tTokens_takeAll_b3 at hF
      refine lv_aload_n hx hb d_Tokens_takeAll_61 rfl (lv_at hl 0 rfl) ?_
      refine va_get (D := (dC, dI)) (ci := 2) (v := .int (σ.1 5)) hx hb hts i_Tokens hown hK hP 2 rfl rfl 6 (by decide) (hts _ w_62a2c989b2) (fun _ h9 => h9) rfl d_Tokens_takeAll_62 ?_
      refine lv_if_lt (tgt := 80) hx hb d_Tokens_takeAll_65 (by decide) (fun c_6 => ?_) (fun c_6 => ?_)
      · have hF := ifp hF c_6
        cases hF
        exact leafV X hP hD hS d_Tokens_takeAll_80
      · have hF := ifn hF c_6
        refine lv_aload_n hx hb d_Tokens_takeAll_68 rfl (lv_at hl 0 rfl) ?_
        refine va_get (D := (dC, dI)) (ci := 2) (v := .ref (ad 1)) hx hb hts i_Tokens hown hK hP 2 rfl rfl 1 (by decide) (hts _ w_324bcc424f) (fun _ h9 => h9) rfl d_Tokens_takeAll_69 ?_
        refine lv_iconst (v := 2) hx hb d_Tokens_takeAll_72 (by decide) ?_
        refine lv_aload_n hx hb d_Tokens_takeAll_73 rfl (lv_at hl 0 rfl) ?_
        refine va_get (D := (dC, dI)) (ci := 2) (v := .int (σ.1 5)) hx hb hts i_Tokens hown hK hP 2 rfl rfl 6 (by decide) (hts _ w_62a2c989b2) (fun _ h9 => h9) rfl d_Tokens_takeAll_74 ?_
        obtain ⟨u7, h7, hF⟩ := b1E hF
        refine callVV (As := [.int 2, .int (σ.1 5)]) X (ct_Refusal_refuse l dC dI ad cA H.size h7) lk_Tokens_50 ⟨rfl, rfl, by decide, by decide⟩ 1 rfl rfl hP hD hS hl.1 rfl rfl (Nat.le_of_ble_eq_true rfl) d_Tokens_takeAll_77 (fun H locs hP hD hS => ?_)
        cases hF
        exact leafV X hP hD hS d_Tokens_takeAll_80
set_option maxHeartbeats 4000000 in
set_option maxRecDepth 100000 in
theorem ct_Tokens_takeAll (l : Launch) (dC : Nat → ClassId) (dI : Nat → Nat → Nat) (ad : Nat → Nat) (cA : Nat → ClassId) (sz : Nat) {σ : St} {σ' : St} (hF : tTokens_takeAll σ = some σ') : MV l y_Tokens_takeAll b_Tokens_takeAll 3 none { frames := 8, cells := 0, slots := 0, locals := 176 } (dC, dI) (ttys cA) ad (tcw ad cA) [.ref (ad 2)] σ sz σ' := by
  refine startM (own := "TinyForge$Tokens") (Qc := fun A => QV (dC, dI) (ttys cA) (tcw ad cA) A σ') rfl rfl (Nat.le_of_ble_eq_true rfl) ?_
  intro p e s m below meth c A H locs ls X hP hD hS hl
  have hl : lv_has ls 3 [(0, .ref (ad 2))] := hl
  obtain ⟨hx, hb, hr, hml, hown, hlocks, hts, hA, hK, hZ⟩ := id X
  unfold tTokens_takeAll at hF
  refine lv_aload_n hx hb d_Tokens_takeAll_0 rfl (lv_at hl 0 rfl) ?_
  refine lv_iconst (v := 0) hx hb d_Tokens_takeAll_1 (by decide) ?_
  refine va_put (D := (dC, dI)) (ci := 2) (v := .int 0) (ty := .int) hx hb hts i_Tokens t_Tokens t_Tokens_ok n_Tokens hown hK hP hD hS 2 rfl rfl 5 (by decide) (hts _ w_3591416eac) (fun _ h9 => h9) rfl (by decide +kernel) rfl rfl (Nat.le_of_ble_eq_true rfl) d_Tokens_takeAll_2 (fun H locs hP hD hS => ?_)
  have hP : va_P (dC, dI) vwCl (tcw ad cA (sI σ 4 0)) H := hP
  have hD : va_D A (tcw ad cA (sI σ 4 0)) := hD
  refine lv_aload_n hx hb d_Tokens_takeAll_5 rfl (lv_at hl 0 rfl) ?_
  refine lv_iconst (v := (-1)) hx hb d_Tokens_takeAll_6 (by decide) ?_
  refine va_put (D := (dC, dI)) (ci := 2) (v := .int (-1)) (ty := .int) hx hb hts i_Tokens t_Tokens t_Tokens_ok n_Tokens hown hK hP hD hS 2 rfl rfl 6 (by decide) (hts _ w_62a2c989b2) (fun _ h9 => h9) rfl (by decide +kernel) rfl rfl (Nat.le_of_ble_eq_true rfl) d_Tokens_takeAll_7 (fun H locs hP hD hS => ?_)
  have hP : va_P (dC, dI) vwCl (tcw ad cA (sI (sI σ 4 0) 5 (-1))) H := hP
  have hD : va_D A (tcw ad cA (sI (sI σ 4 0) 5 (-1))) := hD
  refine lv_iconst (v := 0) hx hb d_Tokens_takeAll_10 (by decide) ?_
  refine lv_istore_n (lv' := [(1, .int 0), (0, .ref (ad 2))]) hx hb d_Tokens_takeAll_11 rfl hl (by decide) rfl (fun ls hl => ?_)
  refine lv_iconst (v := 0) hx hb d_Tokens_takeAll_12 (by decide) ?_
  refine lv_istore_n (lv' := [(2, .int 0), (1, .int 0), (0, .ref (ad 2))]) hx hb d_Tokens_takeAll_13 rfl hl (by decide) rfl (fun ls hl => ?_)
  exact (tTokens_takeAll_blk l dC dI ad cA X 2000).1 (sI (sI σ 4 0) 5 (-1)) 0 0 H locs ls hF hP hD hS (lv_sub hl [2, 1, 0] rfl)
