theorem d_Model_strength_0 : decode b_Model_strength 0 = .ok (.aload_n 0, 1) := by decide +kernel
theorem d_Model_strength_1 : decode b_Model_strength 1 = .ok (.getfield 17, 3) := by decide +kernel
theorem d_Model_strength_4 : decode b_Model_strength 4 = .ok (.iload_n 1, 1) := by decide +kernel
theorem d_Model_strength_5 : decode b_Model_strength 5 = .ok (.iaload, 1) := by decide +kernel
theorem d_Model_strength_6 : decode b_Model_strength 6 = .ok (.iconst 3, 1) := by decide +kernel
theorem d_Model_strength_7 : decode b_Model_strength 7 = .ok (.if_icmp .eq 7, 3) := by decide +kernel
theorem d_Model_strength_10 : decode b_Model_strength 10 = .ok (.iconst 0, 1) := by decide +kernel
theorem d_Model_strength_11 : decode b_Model_strength 11 = .ok (.goto 42, 3) := by decide +kernel
theorem d_Model_strength_14 : decode b_Model_strength 14 = .ok (.aload_n 0, 1) := by decide +kernel
theorem d_Model_strength_15 : decode b_Model_strength 15 = .ok (.aload_n 0, 1) := by decide +kernel
theorem d_Model_strength_16 : decode b_Model_strength 16 = .ok (.getfield 21, 3) := by decide +kernel
theorem d_Model_strength_19 : decode b_Model_strength 19 = .ok (.iload_n 1, 1) := by decide +kernel
theorem d_Model_strength_20 : decode b_Model_strength 20 = .ok (.iaload, 1) := by decide +kernel
theorem d_Model_strength_21 : decode b_Model_strength 21 = .ok (.invokevirtual 124, 3) := by decide +kernel
theorem d_Model_strength_24 : decode b_Model_strength 24 = .ok (.aload_n 0, 1) := by decide +kernel
theorem d_Model_strength_25 : decode b_Model_strength 25 = .ok (.getfield 24, 3) := by decide +kernel
theorem d_Model_strength_28 : decode b_Model_strength 28 = .ok (.iload_n 1, 1) := by decide +kernel
theorem d_Model_strength_29 : decode b_Model_strength 29 = .ok (.iaload, 1) := by decide +kernel
theorem d_Model_strength_30 : decode b_Model_strength 30 = .ok (.iconst 2, 1) := by decide +kernel
theorem d_Model_strength_31 : decode b_Model_strength 31 = .ok (.if_icmp .ne 18, 3) := by decide +kernel
theorem d_Model_strength_34 : decode b_Model_strength 34 = .ok (.aload_n 0, 1) := by decide +kernel
theorem d_Model_strength_35 : decode b_Model_strength 35 = .ok (.aload_n 0, 1) := by decide +kernel
theorem d_Model_strength_36 : decode b_Model_strength 36 = .ok (.getfield 21, 3) := by decide +kernel
theorem d_Model_strength_39 : decode b_Model_strength 39 = .ok (.iload_n 1, 1) := by decide +kernel
theorem d_Model_strength_40 : decode b_Model_strength 40 = .ok (.iaload, 1) := by decide +kernel
theorem d_Model_strength_41 : decode b_Model_strength 41 = .ok (.iconst 1, 1) := by decide +kernel
theorem d_Model_strength_42 : decode b_Model_strength 42 = .ok (.iadd, 1) := by decide +kernel
theorem d_Model_strength_43 : decode b_Model_strength 43 = .ok (.invokevirtual 124, 3) := by decide +kernel
theorem d_Model_strength_46 : decode b_Model_strength 46 = .ok (.goto 4, 3) := by decide +kernel
theorem d_Model_strength_49 : decode b_Model_strength 49 = .ok (.iconst 0, 1) := by decide +kernel
theorem d_Model_strength_50 : decode b_Model_strength 50 = .ok (.invokestatic 203, 3) := by decide +kernel
theorem d_Model_strength_53 : decode b_Model_strength 53 = .ok (.ireturn, 1) := by decide +kernel
def tModel_strength (σ : St) (a1 : Int32) : Option (Int32) := gd (inB a1 500) (if ((σ.2.2.1 16) a1.toNatClampNeg) = 3 then gd (inB a1 500) (b1 (tModel_sign σ ((σ.2.2.1 17) a1.toNatClampNeg)) (fun r4 => gd (inB a1 500) (if ((σ.2.2.1 18) a1.toNatClampNeg) = 2 then gd (inB a1 500) (b1 (tModel_sign σ (((σ.2.2.1 17) a1.toNatClampNeg) + 1)) (fun r9 => b1 (tModel_strengthOf σ r4 r9) (fun r10 => some r10))) else b1 (tModel_strengthOf σ r4 0) (fun r7 => some r7)))) else some 0)
set_option maxHeartbeats 4000000 in
set_option maxRecDepth 100000 in
theorem ct_Model_strength (l : Launch) (dC : Nat → ClassId) (dI : Nat → Nat → Nat) (ad : Nat → Nat) (cA : Nat → ClassId) (sz : Nat) {σ : St} {a1 : Int32} {r : Int32} (hF : tModel_strength σ a1 = some r) : MI l y_Model_strength b_Model_strength 2 (some .int) { frames := 1, cells := 0, slots := 0, locals := 21 } (dC, dI) (ttys cA) ad (tcw ad cA) [.ref (ad 11), .int a1] σ sz r σ := by
  refine startM (own := "TinyForgeModel") (Qc := fun A => QI (dC, dI) (ttys cA) (tcw ad cA) A r σ) rfl rfl (Nat.le_of_ble_eq_true rfl) ?_
  intro p e s m below meth c A H locs ls X hP hD hS hl
  have hl : lv_has ls 2 [(0, .ref (ad 11)), (1, .int a1)] := hl
  obtain ⟨hx, hb, hr, hml, hown, hlocks, hts, hA, hK, hZ⟩ := id X
  unfold tModel_strength at hF
  refine lv_aload_n hx hb d_Model_strength_0 rfl (lv_at hl 0 rfl) ?_
  refine va_get (D := (dC, dI)) (ci := 11) (v := .ref (ad 31)) hx hb hts i_Model hown hK hP 11 rfl rfl 9 (by decide) (hts _ w_f071529ab8) (fun _ h9 => h9) rfl d_Model_strength_1 ?_
  refine lv_iload_n hx hb d_Model_strength_4 rfl (lv_at hl 1 rfl) ?_
  obtain ⟨g_1, hF⟩ := gdE hF
  refine va_iald (f := (σ.2.2.1 16)) hx hb hK hP 31 0 rfl rfl (inE g_1) d_Model_strength_5 ?_
  refine lv_iconst (v := 3) hx hb d_Model_strength_6 (by decide) ?_
  refine lv_icmp_eq (tgt := 14) hx hb d_Model_strength_7 (by decide) (fun c_2 => ?_) (fun c_2 => ?_)
  · have hF := ifp hF c_2
    refine lv_aload_n hx hb d_Model_strength_14 rfl (lv_at hl 0 rfl) ?_
    refine lv_aload_n hx hb d_Model_strength_15 rfl (lv_at hl 0 rfl) ?_
    refine va_get (D := (dC, dI)) (ci := 11) (v := .ref (ad 32)) hx hb hts i_Model hown hK hP 11 rfl rfl 10 (by decide) (hts _ w_58d30b60eb) (fun _ h9 => h9) rfl d_Model_strength_16 ?_
    refine lv_iload_n hx hb d_Model_strength_19 rfl (lv_at hl 1 rfl) ?_
    obtain ⟨g_3, hF⟩ := gdE hF
    refine va_iald (f := (σ.2.2.1 17)) hx hb hK hP 32 0 rfl rfl (inE g_3) d_Model_strength_20 ?_
    obtain ⟨r4, h4, hF⟩ := b1E hF
    refine callVI (As := [.int ((σ.2.2.1 17) a1.toNatClampNeg)]) X (ct_Model_sign l dC dI ad cA H.size h4) lk_Model_124 ⟨rfl, rfl, by decide, by decide⟩ 11 rfl rfl hP hD hS hl.1 rfl rfl (Nat.le_of_ble_eq_true rfl) d_Model_strength_21 (fun H locs hP hD hS => ?_)
    refine lv_aload_n hx hb d_Model_strength_24 rfl (lv_at hl 0 rfl) ?_
    refine va_get (D := (dC, dI)) (ci := 11) (v := .ref (ad 33)) hx hb hts i_Model hown hK hP 11 rfl rfl 11 (by decide) (hts _ w_ba266638fe) (fun _ h9 => h9) rfl d_Model_strength_25 ?_
    refine lv_iload_n hx hb d_Model_strength_28 rfl (lv_at hl 1 rfl) ?_
    obtain ⟨g_5, hF⟩ := gdE hF
    refine va_iald (f := (σ.2.2.1 18)) hx hb hK hP 33 0 rfl rfl (inE g_5) d_Model_strength_29 ?_
    refine lv_iconst (v := 2) hx hb d_Model_strength_30 (by decide) ?_
    refine lv_icmp_ne (tgt := 49) hx hb d_Model_strength_31 (by decide) (fun c_6 => ?_) (fun c_6 => ?_)
    · have hF := ifn hF c_6
      refine lv_iconst (v := 0) hx hb d_Model_strength_49 (by decide) ?_
      obtain ⟨r7, h7, hF⟩ := b1E hF
      refine callSI (As := [.int r4, .int 0]) X (ct_Model_strengthOf l dC dI ad cA H.size h7) lk_Model_203 ⟨rfl, rfl, by decide, by decide⟩ hP hD hS hl.1 rfl rfl (Nat.le_of_ble_eq_true rfl) d_Model_strength_50 (fun H locs hP hD hS => ?_)
      cases hF
      exact leafI X hP hD hS d_Model_strength_53
    · have hF := ifp hF c_6
      refine lv_aload_n hx hb d_Model_strength_34 rfl (lv_at hl 0 rfl) ?_
      refine lv_aload_n hx hb d_Model_strength_35 rfl (lv_at hl 0 rfl) ?_
      refine va_get (D := (dC, dI)) (ci := 11) (v := .ref (ad 32)) hx hb hts i_Model hown hK hP 11 rfl rfl 10 (by decide) (hts _ w_58d30b60eb) (fun _ h9 => h9) rfl d_Model_strength_36 ?_
      refine lv_iload_n hx hb d_Model_strength_39 rfl (lv_at hl 1 rfl) ?_
      obtain ⟨g_8, hF⟩ := gdE hF
      refine va_iald (f := (σ.2.2.1 17)) hx hb hK hP 32 0 rfl rfl (inE g_8) d_Model_strength_40 ?_
      refine lv_iconst (v := 1) hx hb d_Model_strength_41 (by decide) ?_
      refine lv_iadd hx hb d_Model_strength_42 ?_
      obtain ⟨r9, h9, hF⟩ := b1E hF
      refine callVI (As := [.int (((σ.2.2.1 17) a1.toNatClampNeg) + 1)]) X (ct_Model_sign l dC dI ad cA H.size h9) lk_Model_124 ⟨rfl, rfl, by decide, by decide⟩ 11 rfl rfl hP hD hS hl.1 rfl rfl (Nat.le_of_ble_eq_true rfl) d_Model_strength_43 (fun H locs hP hD hS => ?_)
      refine lv_goto (tgt := 50) hx hb d_Model_strength_46 (by decide) ?_
      obtain ⟨r10, h10, hF⟩ := b1E hF
      refine callSI (As := [.int r4, .int r9]) X (ct_Model_strengthOf l dC dI ad cA H.size h10) lk_Model_203 ⟨rfl, rfl, by decide, by decide⟩ hP hD hS hl.1 rfl rfl (Nat.le_of_ble_eq_true rfl) d_Model_strength_50 (fun H locs hP hD hS => ?_)
      cases hF
      exact leafI X hP hD hS d_Model_strength_53
  · have hF := ifn hF c_2
    refine lv_iconst (v := 0) hx hb d_Model_strength_10 (by decide) ?_
    refine lv_goto (tgt := 53) hx hb d_Model_strength_11 (by decide) ?_
    cases hF
    exact leafI X hP hD hS d_Model_strength_53
theorem d_Model_settle_0 : decode b_Model_settle 0 = .ok (.iconst 1, 1) := by decide +kernel
theorem d_Model_settle_1 : decode b_Model_settle 1 = .ok (.istore_n 2, 1) := by decide +kernel
theorem d_Model_settle_2 : decode b_Model_settle 2 = .ok (.iload_n 2, 1) := by decide +kernel
theorem d_Model_settle_3 : decode b_Model_settle 3 = .ok (.ifCond .eq 213, 3) := by decide +kernel
theorem d_Model_settle_6 : decode b_Model_settle 6 = .ok (.aload_n 0, 1) := by decide +kernel
theorem d_Model_settle_7 : decode b_Model_settle 7 = .ok (.getfield 210, 3) := by decide +kernel
theorem d_Model_settle_10 : decode b_Model_settle 10 = .ok (.ifCond .le 17, 3) := by decide +kernel
theorem d_Model_settle_13 : decode b_Model_settle 13 = .ok (.aload_n 0, 1) := by decide +kernel
theorem d_Model_settle_14 : decode b_Model_settle 14 = .ok (.getfield 73, 3) := by decide +kernel
theorem d_Model_settle_17 : decode b_Model_settle 17 = .ok (.aload_n 0, 1) := by decide +kernel
theorem d_Model_settle_18 : decode b_Model_settle 18 = .ok (.getfield 210, 3) := by decide +kernel
theorem d_Model_settle_21 : decode b_Model_settle 21 = .ok (.iconst 1, 1) := by decide +kernel
theorem d_Model_settle_22 : decode b_Model_settle 22 = .ok (.isub, 1) := by decide +kernel
theorem d_Model_settle_23 : decode b_Model_settle 23 = .ok (.iaload, 1) := by decide +kernel
theorem d_Model_settle_24 : decode b_Model_settle 24 = .ok (.goto 4, 3) := by decide +kernel
theorem d_Model_settle_27 : decode b_Model_settle 27 = .ok (.iconst 0, 1) := by decide +kernel
theorem d_Model_settle_28 : decode b_Model_settle 28 = .ok (.istore_n 3, 1) := by decide +kernel
theorem d_Model_settle_29 : decode b_Model_settle 29 = .ok (.aload_n 0, 1) := by decide +kernel
theorem d_Model_settle_30 : decode b_Model_settle 30 = .ok (.getfield 210, 3) := by decide +kernel
theorem d_Model_settle_33 : decode b_Model_settle 33 = .ok (.ifCond .le 17, 3) := by decide +kernel
theorem d_Model_settle_36 : decode b_Model_settle 36 = .ok (.aload_n 0, 1) := by decide +kernel
theorem d_Model_settle_37 : decode b_Model_settle 37 = .ok (.getfield 76, 3) := by decide +kernel
theorem d_Model_settle_40 : decode b_Model_settle 40 = .ok (.aload_n 0, 1) := by decide +kernel
theorem d_Model_settle_41 : decode b_Model_settle 41 = .ok (.getfield 210, 3) := by decide +kernel
theorem d_Model_settle_44 : decode b_Model_settle 44 = .ok (.iconst 1, 1) := by decide +kernel
theorem d_Model_settle_45 : decode b_Model_settle 45 = .ok (.isub, 1) := by decide +kernel
theorem d_Model_settle_46 : decode b_Model_settle 46 = .ok (.iaload, 1) := by decide +kernel
theorem d_Model_settle_47 : decode b_Model_settle 47 = .ok (.goto 4, 3) := by decide +kernel
theorem d_Model_settle_50 : decode b_Model_settle 50 = .ok (.iconst 0, 1) := by decide +kernel
theorem d_Model_settle_51 : decode b_Model_settle 51 = .ok (.istore 4, 2) := by decide +kernel
theorem d_Model_settle_53 : decode b_Model_settle 53 = .ok (.iload_n 3, 1) := by decide +kernel
theorem d_Model_settle_54 : decode b_Model_settle 54 = .ok (.bipush 31, 2) := by decide +kernel
theorem d_Model_settle_56 : decode b_Model_settle 56 = .ok (.if_icmp .eq 19, 3) := by decide +kernel
theorem d_Model_settle_59 : decode b_Model_settle 59 = .ok (.iload_n 3, 1) := by decide +kernel
theorem d_Model_settle_60 : decode b_Model_settle 60 = .ok (.bipush 32, 2) := by decide +kernel
theorem d_Model_settle_62 : decode b_Model_settle 62 = .ok (.if_icmp .ne 17, 3) := by decide +kernel
theorem d_Model_settle_65 : decode b_Model_settle 65 = .ok (.aload_n 0, 1) := by decide +kernel
theorem d_Model_settle_66 : decode b_Model_settle 66 = .ok (.iload 4, 2) := by decide +kernel
theorem d_Model_settle_68 : decode b_Model_settle 68 = .ok (.invokevirtual 213, 3) := by decide +kernel
theorem d_Model_settle_71 : decode b_Model_settle 71 = .ok (.iload_n 1, 1) := by decide +kernel
theorem d_Model_settle_72 : decode b_Model_settle 72 = .ok (.if_icmp .lt 7, 3) := by decide +kernel
theorem d_Model_settle_75 : decode b_Model_settle 75 = .ok (.iconst 1, 1) := by decide +kernel
theorem d_Model_settle_76 : decode b_Model_settle 76 = .ok (.goto 4, 3) := by decide +kernel
theorem d_Model_settle_79 : decode b_Model_settle 79 = .ok (.iconst 0, 1) := by decide +kernel
theorem d_Model_settle_80 : decode b_Model_settle 80 = .ok (.istore_n 2, 1) := by decide +kernel
theorem d_Model_settle_81 : decode b_Model_settle 81 = .ok (.iload_n 2, 1) := by decide +kernel
theorem d_Model_settle_82 : decode b_Model_settle 82 = .ok (.ifCond .eq 131, 3) := by decide +kernel
theorem d_Model_settle_85 : decode b_Model_settle 85 = .ok (.aload_n 0, 1) := by decide +kernel
theorem d_Model_settle_86 : decode b_Model_settle 86 = .ok (.dup, 1) := by decide +kernel
theorem d_Model_settle_87 : decode b_Model_settle 87 = .ok (.getfield 210, 3) := by decide +kernel
theorem d_Model_settle_90 : decode b_Model_settle 90 = .ok (.iconst 1, 1) := by decide +kernel
theorem d_Model_settle_91 : decode b_Model_settle 91 = .ok (.isub, 1) := by decide +kernel
theorem d_Model_settle_92 : decode b_Model_settle 92 = .ok (.putfield 210, 3) := by decide +kernel
theorem d_Model_settle_95 : decode b_Model_settle 95 = .ok (.aload_n 0, 1) := by decide +kernel
theorem d_Model_settle_96 : decode b_Model_settle 96 = .ok (.dup, 1) := by decide +kernel
theorem d_Model_settle_97 : decode b_Model_settle 97 = .ok (.getfield 197, 3) := by decide +kernel
theorem d_Model_settle_100 : decode b_Model_settle 100 = .ok (.iconst 1, 1) := by decide +kernel
theorem d_Model_settle_101 : decode b_Model_settle 101 = .ok (.isub, 1) := by decide +kernel
theorem d_Model_settle_102 : decode b_Model_settle 102 = .ok (.putfield 197, 3) := by decide +kernel
theorem d_Model_settle_105 : decode b_Model_settle 105 = .ok (.aload_n 0, 1) := by decide +kernel
theorem d_Model_settle_106 : decode b_Model_settle 106 = .ok (.getfield 70, 3) := by decide +kernel
theorem d_Model_settle_109 : decode b_Model_settle 109 = .ok (.aload_n 0, 1) := by decide +kernel
theorem d_Model_settle_110 : decode b_Model_settle 110 = .ok (.getfield 207, 3) := by decide +kernel
theorem d_Model_settle_113 : decode b_Model_settle 113 = .ok (.iconst 1, 1) := by decide +kernel
theorem d_Model_settle_114 : decode b_Model_settle 114 = .ok (.isub, 1) := by decide +kernel
theorem d_Model_settle_115 : decode b_Model_settle 115 = .ok (.iaload, 1) := by decide +kernel
theorem d_Model_settle_116 : decode b_Model_settle 116 = .ok (.istore 5, 2) := by decide +kernel
theorem d_Model_settle_118 : decode b_Model_settle 118 = .ok (.aload_n 0, 1) := by decide +kernel
theorem d_Model_settle_119 : decode b_Model_settle 119 = .ok (.dup, 1) := by decide +kernel
theorem d_Model_settle_120 : decode b_Model_settle 120 = .ok (.getfield 207, 3) := by decide +kernel
theorem d_Model_settle_123 : decode b_Model_settle 123 = .ok (.iload_n 3, 1) := by decide +kernel
theorem d_Model_settle_124 : decode b_Model_settle 124 = .ok (.bipush 31, 2) := by decide +kernel
theorem d_Model_settle_126 : decode b_Model_settle 126 = .ok (.if_icmp .ne 7, 3) := by decide +kernel
theorem d_Model_settle_129 : decode b_Model_settle 129 = .ok (.iconst 1, 1) := by decide +kernel
theorem d_Model_settle_130 : decode b_Model_settle 130 = .ok (.goto 4, 3) := by decide +kernel
theorem d_Model_settle_133 : decode b_Model_settle 133 = .ok (.iconst 2, 1) := by decide +kernel
theorem d_Model_settle_134 : decode b_Model_settle 134 = .ok (.isub, 1) := by decide +kernel
theorem d_Model_settle_135 : decode b_Model_settle 135 = .ok (.putfield 207, 3) := by decide +kernel
theorem d_Model_settle_138 : decode b_Model_settle 138 = .ok (.aload_n 0, 1) := by decide +kernel
theorem d_Model_settle_139 : decode b_Model_settle 139 = .ok (.aload_n 0, 1) := by decide +kernel
theorem d_Model_settle_140 : decode b_Model_settle 140 = .ok (.getfield 21, 3) := by decide +kernel
theorem d_Model_settle_143 : decode b_Model_settle 143 = .ok (.iload 4, 2) := by decide +kernel
theorem d_Model_settle_145 : decode b_Model_settle 145 = .ok (.iaload, 1) := by decide +kernel
theorem d_Model_settle_146 : decode b_Model_settle 146 = .ok (.invokevirtual 124, 3) := by decide +kernel
theorem d_Model_settle_149 : decode b_Model_settle 149 = .ok (.aload_n 0, 1) := by decide +kernel
theorem d_Model_settle_150 : decode b_Model_settle 150 = .ok (.getfield 24, 3) := by decide +kernel
theorem d_Model_settle_153 : decode b_Model_settle 153 = .ok (.iload 4, 2) := by decide +kernel
theorem d_Model_settle_155 : decode b_Model_settle 155 = .ok (.iaload, 1) := by decide +kernel
theorem d_Model_settle_156 : decode b_Model_settle 156 = .ok (.iconst 2, 1) := by decide +kernel
theorem d_Model_settle_157 : decode b_Model_settle 157 = .ok (.if_icmp .ne 9, 3) := by decide +kernel
theorem d_Model_settle_160 : decode b_Model_settle 160 = .ok (.sipush 256, 3) := by decide +kernel
theorem d_Model_settle_163 : decode b_Model_settle 163 = .ok (.goto 4, 3) := by decide +kernel
theorem d_Model_settle_166 : decode b_Model_settle 166 = .ok (.iconst 0, 1) := by decide +kernel
theorem d_Model_settle_167 : decode b_Model_settle 167 = .ok (.iadd, 1) := by decide +kernel
theorem d_Model_settle_168 : decode b_Model_settle 168 = .ok (.istore 6, 2) := by decide +kernel
theorem d_Model_settle_170 : decode b_Model_settle 170 = .ok (.aload_n 0, 1) := by decide +kernel
theorem d_Model_settle_171 : decode b_Model_settle 171 = .ok (.iload_n 3, 1) := by decide +kernel
theorem d_Model_settle_172 : decode b_Model_settle 172 = .ok (.bipush 31, 2) := by decide +kernel
theorem d_Model_settle_174 : decode b_Model_settle 174 = .ok (.if_icmp .ne 17, 3) := by decide +kernel
theorem d_Model_settle_177 : decode b_Model_settle 177 = .ok (.aload_n 0, 1) := by decide +kernel
theorem d_Model_settle_178 : decode b_Model_settle 178 = .ok (.bipush 6, 2) := by decide +kernel
theorem d_Model_settle_180 : decode b_Model_settle 180 = .ok (.iload 6, 2) := by decide +kernel
theorem d_Model_settle_182 : decode b_Model_settle 182 = .ok (.iload 5, 2) := by decide +kernel
theorem d_Model_settle_184 : decode b_Model_settle 184 = .ok (.iconst (-1), 1) := by decide +kernel
theorem d_Model_settle_185 : decode b_Model_settle 185 = .ok (.invokevirtual 216, 3) := by decide +kernel
theorem d_Model_settle_188 : decode b_Model_settle 188 = .ok (.goto 22, 3) := by decide +kernel
theorem d_Model_settle_191 : decode b_Model_settle 191 = .ok (.aload_n 0, 1) := by decide +kernel
theorem d_Model_settle_192 : decode b_Model_settle 192 = .ok (.bipush 7, 2) := by decide +kernel
theorem d_Model_settle_194 : decode b_Model_settle 194 = .ok (.iload 6, 2) := by decide +kernel
theorem d_Model_settle_196 : decode b_Model_settle 196 = .ok (.aload_n 0, 1) := by decide +kernel
theorem d_Model_settle_197 : decode b_Model_settle 197 = .ok (.getfield 70, 3) := by decide +kernel
theorem d_Model_settle_200 : decode b_Model_settle 200 = .ok (.aload_n 0, 1) := by decide +kernel
theorem d_Model_settle_201 : decode b_Model_settle 201 = .ok (.getfield 207, 3) := by decide +kernel
theorem d_Model_settle_204 : decode b_Model_settle 204 = .ok (.iaload, 1) := by decide +kernel
theorem d_Model_settle_205 : decode b_Model_settle 205 = .ok (.iload 5, 2) := by decide +kernel
theorem d_Model_settle_207 : decode b_Model_settle 207 = .ok (.invokevirtual 216, 3) := by decide +kernel
theorem d_Model_settle_210 : decode b_Model_settle 210 = .ok (.invokevirtual 220, 3) := by decide +kernel
theorem d_Model_settle_213 : decode b_Model_settle 213 = .ok (.goto (-211), 3) := by decide +kernel
theorem d_Model_settle_216 : decode b_Model_settle 216 = .ok (.return_, 1) := by decide +kernel
def tModel_settle_b1 (k : Nat → St → Int32 → Int32 → Int32 → Int32 → Int32 → Int32 → Int32 → Option (St)) (σ : St) (x1 : Int32) (x2 : Int32) (x3 : Int32) (x4 : Int32) (x5 : Int32) (x6 : Int32) (x7 : Int32) : Option (St) := if x2 = 0 then some σ else if (σ.1 41) ≤ 0 then k 2 σ x1 0 0 0 0 0 0 else gd (inB ((σ.1 41) - 1) 60) (k 2 σ x1 ((σ.2.2.1 34) ((σ.1 41) - 1).toNatClampNeg) 0 0 0 0 0)
def tModel_settle_b2 (k : Nat → St → Int32 → Int32 → Int32 → Int32 → Int32 → Int32 → Int32 → Option (St)) (σ : St) (x1 : Int32) (x2 : Int32) (x3 : Int32) (x4 : Int32) (x5 : Int32) (x6 : Int32) (x7 : Int32) : Option (St) := if (σ.1 41) ≤ 0 then k 3 σ x1 x2 0 0 0 0 0 else gd (inB ((σ.1 41) - 1) 60) (k 3 σ x1 x2 ((σ.2.2.1 35) ((σ.1 41) - 1).toNatClampNeg) 0 0 0 0)
def tModel_settle_b3 (k : Nat → St → Int32 → Int32 → Int32 → Int32 → Int32 → Int32 → Int32 → Option (St)) (σ : St) (x1 : Int32) (x2 : Int32) (x3 : Int32) (x4 : Int32) (x5 : Int32) (x6 : Int32) (x7 : Int32) : Option (St) := if x2 = 31 then k 4 σ x1 x2 x3 0 0 0 0 else if x2 = 32 then b1 (tModel_strength σ x3) (fun r8 => if r8 < x1 then k 5 σ x1 x2 x3 0 0 0 0 else k 4 σ x1 x2 x3 0 0 0 0) else k 5 σ x1 x2 x3 0 0 0 0
def tModel_settle_b4 (k : Nat → St → Int32 → Int32 → Int32 → Int32 → Int32 → Int32 → Int32 → Option (St)) (σ : St) (x1 : Int32) (x2 : Int32) (x3 : Int32) (x4 : Int32) (x5 : Int32) (x6 : Int32) (x7 : Int32) : Option (St) := k 6 σ x1 x2 x3 1 0 0 0
def tModel_settle_b5 (k : Nat → St → Int32 → Int32 → Int32 → Int32 → Int32 → Int32 → Int32 → Option (St)) (σ : St) (x1 : Int32) (x2 : Int32) (x3 : Int32) (x4 : Int32) (x5 : Int32) (x6 : Int32) (x7 : Int32) : Option (St) := k 6 σ x1 x2 x3 0 0 0 0
def tModel_settle_b6 (k : Nat → St → Int32 → Int32 → Int32 → Int32 → Int32 → Int32 → Int32 → Option (St)) (σ : St) (x1 : Int32) (x2 : Int32) (x3 : Int32) (x4 : Int32) (x5 : Int32) (x6 : Int32) (x7 : Int32) : Option (St) := if x4 = 0 then k 10 σ x1 x4 0 0 0 0 0 else gd (inB ((σ.1 40) - 1) 60) (if x2 = 31 then k 7 (sI (sI σ 41 ((σ.1 41) - 1)) 32 ((σ.1 32) - 1)) x1 x4 x2 x3 ((σ.2.2.1 33) ((σ.1 40) - 1).toNatClampNeg) 1 (σ.1 40) else k 7 (sI (sI σ 41 ((σ.1 41) - 1)) 32 ((σ.1 32) - 1)) x1 x4 x2 x3 ((σ.2.2.1 33) ((σ.1 40) - 1).toNatClampNeg) 2 (σ.1 40))
def tModel_settle_b7 (k : Nat → St → Int32 → Int32 → Int32 → Int32 → Int32 → Int32 → Int32 → Option (St)) (σ : St) (x1 : Int32) (x2 : Int32) (x3 : Int32) (x4 : Int32) (x5 : Int32) (x6 : Int32) (x7 : Int32) : Option (St) := gd (inB x4 500) (b1 (tModel_sign (sI σ 40 (x7 - x6)) ((σ.2.2.1 17) x4.toNatClampNeg)) (fun r14 => gd (inB x4 500) (if ((σ.2.2.1 18) x4.toNatClampNeg) = 2 then k 8 (sI σ 40 (x7 - x6)) x1 x2 x3 x5 256 r14 0 else k 8 (sI σ 40 (x7 - x6)) x1 x2 x3 x5 0 r14 0)))
def tModel_settle_b8 (k : Nat → St → Int32 → Int32 → Int32 → Int32 → Int32 → Int32 → Int32 → Option (St)) (σ : St) (x1 : Int32) (x2 : Int32) (x3 : Int32) (x4 : Int32) (x5 : Int32) (x6 : Int32) (x7 : Int32) : Option (St) := if x3 = 31 then b2 (tModel_node σ 6 (x6 + x5) x4 (-1)) (fun r20 u20 => k 9 u20 x1 x2 r20 0 0 0 0) else gd (inB (σ.1 40) 60) (b2 (tModel_node σ 7 (x6 + x5) ((σ.2.2.1 33) (σ.1 40).toNatClampNeg) x4) (fun r19 u19 => k 9 u19 x1 x2 r19 0 0 0 0))
def tModel_settle_b9 (k : Nat → St → Int32 → Int32 → Int32 → Int32 → Int32 → Int32 → Int32 → Option (St)) (σ : St) (x1 : Int32) (x2 : Int32) (x3 : Int32) (x4 : Int32) (x5 : Int32) (x6 : Int32) (x7 : Int32) : Option (St) := b1 (tModel_operand σ x3) (fun u21 => k 10 u21 x1 x2 0 0 0 0 0)
def tModel_settle_b10 (k : Nat → St → Int32 → Int32 → Int32 → Int32 → Int32 → Int32 → Int32 → Option (St)) (σ : St) (x1 : Int32) (x2 : Int32) (x3 : Int32) (x4 : Int32) (x5 : Int32) (x6 : Int32) (x7 : Int32) : Option (St) := k 1 σ x1 x2 0 0 0 0 0
def tModel_settle_L : Nat → Nat → St → Int32 → Int32 → Int32 → Int32 → Int32 → Int32 → Int32 → Option (St)
  | 0, _, _, _, _, _, _, _, _, _ => none
  | n + 1, lab, σ, x1, x2, x3, x4, x5, x6, x7 => match lab with
    | 1 => tModel_settle_b1 (tModel_settle_L n) σ x1 x2 x3 x4 x5 x6 x7
    | 2 => tModel_settle_b2 (tModel_settle_L n) σ x1 x2 x3 x4 x5 x6 x7
    | 3 => tModel_settle_b3 (tModel_settle_L n) σ x1 x2 x3 x4 x5 x6 x7
    | 4 => tModel_settle_b4 (tModel_settle_L n) σ x1 x2 x3 x4 x5 x6 x7
    | 5 => tModel_settle_b5 (tModel_settle_L n) σ x1 x2 x3 x4 x5 x6 x7
    | 6 => tModel_settle_b6 (tModel_settle_L n) σ x1 x2 x3 x4 x5 x6 x7
    | 7 => tModel_settle_b7 (tModel_settle_L n) σ x1 x2 x3 x4 x5 x6 x7
    | 8 => tModel_settle_b8 (tModel_settle_L n) σ x1 x2 x3 x4 x5 x6 x7
    | 9 => tModel_settle_b9 (tModel_settle_L n) σ x1 x2 x3 x4 x5 x6 x7
    | 10 => tModel_settle_b10 (tModel_settle_L n) σ x1 x2 x3 x4 x5 x6 x7
    | _ => none
def tModel_settle (σ : St) (a1 : Int32) : Option (St) := tModel_settle_L 2000 1 σ a1 1 0 0 0 0 0
set_option maxHeartbeats 4000000 in
set_option maxRecDepth 100000 in
theorem tModel_settle_blk {p : Program} {e : Env} {s : State} {m : MethodId} {args : Array Value} {below : List Frame} {meth : Method} {c : Code} {A : Nat → Prop} (l : Launch) (dC : Nat → ClassId) (dI : Nat → Nat → Nat) (ad : Nat → Nat) (cA : Nat → ClassId) {σ' : St} (X : Cx p s m args meth c b_Model_settle 7 none "TinyForgeModel" (dC, dI) (ttys cA) ad A) : ∀ n : Nat, (∀ (σ : St) (x1 : Int32) (x2 : Int32) (x3 : Int32) (x4 : Int32) (x5 : Int32) (x6 : Int32) (x7 : Int32) (H : Heap) (locs : List Loc) (ls : Array Slot), tModel_settle_L n 1 σ x1 x2 x3 x4 x5 x6 x7 = some σ' → va_P (dC, dI) vwCl (tcw ad cA σ) H → va_D A (tcw ad cA σ) → va_S A s.heap H locs → lv_has ls 7 [(0, .ref (ad 11)), (1, .int x1), (2, .int x2)] → W p l e { frames := 2, cells := 0, slots := 0, locals := 42 } s m args below meth c H locs 0 0 (MQ below (QV (dC, dI) (ttys cA) (tcw ad cA) A σ') args s 0 0 A) (F0 m 2 ls [])) ∧ (∀ (σ : St) (x1 : Int32) (x2 : Int32) (x3 : Int32) (x4 : Int32) (x5 : Int32) (x6 : Int32) (x7 : Int32) (H : Heap) (locs : List Loc) (ls : Array Slot), tModel_settle_L n 2 σ x1 x2 x3 x4 x5 x6 x7 = some σ' → va_P (dC, dI) vwCl (tcw ad cA σ) H → va_D A (tcw ad cA σ) → va_S A s.heap H locs → lv_has ls 7 [(0, .ref (ad 11)), (1, .int x1)] → W p l e { frames := 2, cells := 0, slots := 0, locals := 42 } s m args below meth c H locs 0 0 (MQ below (QV (dC, dI) (ttys cA) (tcw ad cA) A σ') args s 0 0 A) (F0 m 28 ls [.int x2])) ∧ (∀ (σ : St) (x1 : Int32) (x2 : Int32) (x3 : Int32) (x4 : Int32) (x5 : Int32) (x6 : Int32) (x7 : Int32) (H : Heap) (locs : List Loc) (ls : Array Slot), tModel_settle_L n 3 σ x1 x2 x3 x4 x5 x6 x7 = some σ' → va_P (dC, dI) vwCl (tcw ad cA σ) H → va_D A (tcw ad cA σ) → va_S A s.heap H locs → lv_has ls 7 [(0, .ref (ad 11)), (1, .int x1), (3, .int x2)] → W p l e { frames := 2, cells := 0, slots := 0, locals := 42 } s m args below meth c H locs 0 0 (MQ below (QV (dC, dI) (ttys cA) (tcw ad cA) A σ') args s 0 0 A) (F0 m 51 ls [.int x3])) ∧ (∀ (σ : St) (x1 : Int32) (x2 : Int32) (x3 : Int32) (x4 : Int32) (x5 : Int32) (x6 : Int32) (x7 : Int32) (H : Heap) (locs : List Loc) (ls : Array Slot), tModel_settle_L n 4 σ x1 x2 x3 x4 x5 x6 x7 = some σ' → va_P (dC, dI) vwCl (tcw ad cA σ) H → va_D A (tcw ad cA σ) → va_S A s.heap H locs → lv_has ls 7 [(0, .ref (ad 11)), (1, .int x1), (3, .int x2), (4, .int x3)] → W p l e { frames := 2, cells := 0, slots := 0, locals := 42 } s m args below meth c H locs 0 0 (MQ below (QV (dC, dI) (ttys cA) (tcw ad cA) A σ') args s 0 0 A) (F0 m 75 ls [])) ∧ (∀ (σ : St) (x1 : Int32) (x2 : Int32) (x3 : Int32) (x4 : Int32) (x5 : Int32) (x6 : Int32) (x7 : Int32) (H : Heap) (locs : List Loc) (ls : Array Slot), tModel_settle_L n 5 σ x1 x2 x3 x4 x5 x6 x7 = some σ' → va_P (dC, dI) vwCl (tcw ad cA σ) H → va_D A (tcw ad cA σ) → va_S A s.heap H locs → lv_has ls 7 [(0, .ref (ad 11)), (1, .int x1), (3, .int x2), (4, .int x3)] → W p l e { frames := 2, cells := 0, slots := 0, locals := 42 } s m args below meth c H locs 0 0 (MQ below (QV (dC, dI) (ttys cA) (tcw ad cA) A σ') args s 0 0 A) (F0 m 79 ls [])) ∧ (∀ (σ : St) (x1 : Int32) (x2 : Int32) (x3 : Int32) (x4 : Int32) (x5 : Int32) (x6 : Int32) (x7 : Int32) (H : Heap) (locs : List Loc) (ls : Array Slot), tModel_settle_L n 6 σ x1 x2 x3 x4 x5 x6 x7 = some σ' → va_P (dC, dI) vwCl (tcw ad cA σ) H → va_D A (tcw ad cA σ) → va_S A s.heap H locs → lv_has ls 7 [(0, .ref (ad 11)), (1, .int x1), (3, .int x2), (4, .int x3)] → W p l e { frames := 2, cells := 0, slots := 0, locals := 42 } s m args below meth c H locs 0 0 (MQ below (QV (dC, dI) (ttys cA) (tcw ad cA) A σ') args s 0 0 A) (F0 m 80 ls [.int x4])) ∧ (∀ (σ : St) (x1 : Int32) (x2 : Int32) (x3 : Int32) (x4 : Int32) (x5 : Int32) (x6 : Int32) (x7 : Int32) (H : Heap) (locs : List Loc) (ls : Array Slot), tModel_settle_L n 7 σ x1 x2 x3 x4 x5 x6 x7 = some σ' → va_P (dC, dI) vwCl (tcw ad cA σ) H → va_D A (tcw ad cA σ) → va_S A s.heap H locs → lv_has ls 7 [(0, .ref (ad 11)), (1, .int x1), (2, .int x2), (3, .int x3), (4, .int x4), (5, .int x5)] → W p l e { frames := 2, cells := 0, slots := 0, locals := 42 } s m args below meth c H locs 0 0 (MQ below (QV (dC, dI) (ttys cA) (tcw ad cA) A σ') args s 0 0 A) (F0 m 134 ls [.int x6, .int x7, .ref (ad 11)])) ∧ (∀ (σ : St) (x1 : Int32) (x2 : Int32) (x3 : Int32) (x4 : Int32) (x5 : Int32) (x6 : Int32) (x7 : Int32) (H : Heap) (locs : List Loc) (ls : Array Slot), tModel_settle_L n 8 σ x1 x2 x3 x4 x5 x6 x7 = some σ' → va_P (dC, dI) vwCl (tcw ad cA σ) H → va_D A (tcw ad cA σ) → va_S A s.heap H locs → lv_has ls 7 [(0, .ref (ad 11)), (1, .int x1), (2, .int x2), (3, .int x3), (5, .int x4)] → W p l e { frames := 2, cells := 0, slots := 0, locals := 42 } s m args below meth c H locs 0 0 (MQ below (QV (dC, dI) (ttys cA) (tcw ad cA) A σ') args s 0 0 A) (F0 m 167 ls [.int x5, .int x6])) ∧ (∀ (σ : St) (x1 : Int32) (x2 : Int32) (x3 : Int32) (x4 : Int32) (x5 : Int32) (x6 : Int32) (x7 : Int32) (H : Heap) (locs : List Loc) (ls : Array Slot), tModel_settle_L n 9 σ x1 x2 x3 x4 x5 x6 x7 = some σ' → va_P (dC, dI) vwCl (tcw ad cA σ) H → va_D A (tcw ad cA σ) → va_S A s.heap H locs → lv_has ls 7 [(0, .ref (ad 11)), (1, .int x1), (2, .int x2)] → W p l e { frames := 2, cells := 0, slots := 0, locals := 42 } s m args below meth c H locs 0 0 (MQ below (QV (dC, dI) (ttys cA) (tcw ad cA) A σ') args s 0 0 A) (F0 m 210 ls [.int x3, .ref (ad 11)])) ∧ (∀ (σ : St) (x1 : Int32) (x2 : Int32) (x3 : Int32) (x4 : Int32) (x5 : Int32) (x6 : Int32) (x7 : Int32) (H : Heap) (locs : List Loc) (ls : Array Slot), tModel_settle_L n 10 σ x1 x2 x3 x4 x5 x6 x7 = some σ' → va_P (dC, dI) vwCl (tcw ad cA σ) H → va_D A (tcw ad cA σ) → va_S A s.heap H locs → lv_has ls 7 [(0, .ref (ad 11)), (1, .int x1), (2, .int x2)] → W p l e { frames := 2, cells := 0, slots := 0, locals := 42 } s m args below meth c H locs 0 0 (MQ below (QV (dC, dI) (ttys cA) (tcw ad cA) A σ') args s 0 0 A) (F0 m 213 ls [])) := by
  obtain ⟨hx, hb, hr, hml, hown, hlocks, hts, hA, hK, hZ⟩ := id X
  intro n
  induction n with
  | zero => exact ⟨(fun σ x1 x2 x3 x4 x5 x6 x7 H locs ls hF => by cases hF), (fun σ x1 x2 x3 x4 x5 x6 x7 H locs ls hF => by cases hF), (fun σ x1 x2 x3 x4 x5 x6 x7 H locs ls hF => by cases hF), (fun σ x1 x2 x3 x4 x5 x6 x7 H locs ls hF => by cases hF), (fun σ x1 x2 x3 x4 x5 x6 x7 H locs ls hF => by cases hF), (fun σ x1 x2 x3 x4 x5 x6 x7 H locs ls hF => by cases hF), (fun σ x1 x2 x3 x4 x5 x6 x7 H locs ls hF => by cases hF), (fun σ x1 x2 x3 x4 x5 x6 x7 H locs ls hF => by cases hF), (fun σ x1 x2 x3 x4 x5 x6 x7 H locs ls hF => by cases hF), (fun σ x1 x2 x3 x4 x5 x6 x7 H locs ls hF => by cases hF)⟩
  | succ n ihn =>
    refine ⟨fun σ x1 x2 x3 x4 x5 x6 x7 H locs ls hF hP hD hS hl => ?_, fun σ x1 x2 x3 x4 x5 x6 x7 H locs ls hF hP hD hS hl => ?_, fun σ x1 x2 x3 x4 x5 x6 x7 H locs ls hF hP hD hS hl => ?_, fun σ x1 x2 x3 x4 x5 x6 x7 H locs ls hF hP hD hS hl => ?_, fun σ x1 x2 x3 x4 x5 x6 x7 H locs ls hF hP hD hS hl => ?_, fun σ x1 x2 x3 x4 x5 x6 x7 H locs ls hF hP hD hS hl => ?_, fun σ x1 x2 x3 x4 x5 x6 x7 H locs ls hF hP hD hS hl => ?_, fun σ x1 x2 x3 x4 x5 x6 x7 H locs ls hF hP hD hS hl => ?_, fun σ x1 x2 x3 x4 x5 x6 x7 H locs ls hF hP hD hS hl => ?_, fun σ x1 x2 x3 x4 x5 x6 x7 H locs ls hF hP hD hS hl => ?_⟩
    · have hF : tModel_settle_b1 (tModel_settle_L n) σ x1 x2 x3 x4 x5 x6 x7 = some σ' := hF
      unfold tModel_settle_b1 at hF
      refine lv_iload_n hx hb d_Model_settle_2 rfl (lv_at hl 2 rfl) ?_
      refine lv_if_eq (tgt := 216) hx hb d_Model_settle_3 (by decide) (fun c_1 => ?_) (fun c_1 => ?_)
      · have hF := ifp hF c_1
        cases hF
        exact leafV X hP hD hS d_Model_settle_216
      · have hF := ifn hF c_1
        refine lv_aload_n hx hb d_Model_settle_6 rfl (lv_at hl 0 rfl) ?_
        refine va_get (D := (dC, dI)) (ci := 11) (v := .int (σ.1 41)) hx hb hts i_Model hown hK hP 11 rfl rfl 34 (by decide) (hts _ w_98d35192b7) (fun _ h9 => h9) rfl d_Model_settle_7 ?_
        refine lv_if_le (tgt := 27) hx hb d_Model_settle_10 (by decide) (fun c_2 => ?_) (fun c_2 => ?_)
        · have hF := ifp hF c_2
          refine lv_iconst (v := 0) hx hb d_Model_settle_27 (by decide) ?_
          exact ihn.2.1 σ x1 0 0 0 0 0 0 H locs ls hF hP hD hS (lv_sub hl [0, 1] rfl)
        · have hF := ifn hF c_2
          refine lv_aload_n hx hb d_Model_settle_13 rfl (lv_at hl 0 rfl) ?_
          refine va_get (D := (dC, dI)) (ci := 11) (v := .ref (ad 49)) hx hb hts i_Model hown hK hP 11 rfl rfl 36 (by decide) (hts _ w_2d771b9611) (fun _ h9 => h9) rfl d_Model_settle_14 ?_
          refine lv_aload_n hx hb d_Model_settle_17 rfl (lv_at hl 0 rfl) ?_
          refine va_get (D := (dC, dI)) (ci := 11) (v := .int (σ.1 41)) hx hb hts i_Model hown hK hP 11 rfl rfl 34 (by decide) (hts _ w_98d35192b7) (fun _ h9 => h9) rfl d_Model_settle_18 ?_
          refine lv_iconst (v := 1) hx hb d_Model_settle_21 (by decide) ?_
          refine lv_isub hx hb d_Model_settle_22 ?_
          obtain ⟨g_3, hF⟩ := gdE hF
          refine va_iald (f := (σ.2.2.1 34)) hx hb hK hP 49 0 rfl rfl (inE g_3) d_Model_settle_23 ?_
          refine lv_goto (tgt := 28) hx hb d_Model_settle_24 (by decide) ?_
          exact ihn.2.1 σ x1 ((σ.2.2.1 34) ((σ.1 41) - 1).toNatClampNeg) 0 0 0 0 0 H locs ls hF hP hD hS (lv_sub hl [0, 1] rfl)
    · have hF : tModel_settle_b2 (tModel_settle_L n) σ x1 x2 x3 x4 x5 x6 x7 = some σ' := hF
      unfold tModel_settle_b2 at hF
      refine lv_istore_n (lv' := [(3, .int x2), (0, .ref (ad 11)), (1, .int x1)]) hx hb d_Model_settle_28 rfl hl (by decide) rfl (fun ls hl => ?_)
      refine lv_aload_n hx hb d_Model_settle_29 rfl (lv_at hl 1 rfl) ?_
      refine va_get (D := (dC, dI)) (ci := 11) (v := .int (σ.1 41)) hx hb hts i_Model hown hK hP 11 rfl rfl 34 (by decide) (hts _ w_98d35192b7) (fun _ h9 => h9) rfl d_Model_settle_30 ?_
      refine lv_if_le (tgt := 50) hx hb d_Model_settle_33 (by decide) (fun c_4 => ?_) (fun c_4 => ?_)
      · have hF := ifp hF c_4
        refine lv_iconst (v := 0) hx hb d_Model_settle_50 (by decide) ?_
        exact ihn.2.2.1 σ x1 x2 0 0 0 0 0 H locs ls hF hP hD hS (lv_sub hl [1, 2, 0] rfl)
      · have hF := ifn hF c_4
        refine lv_aload_n hx hb d_Model_settle_36 rfl (lv_at hl 1 rfl) ?_
        refine va_get (D := (dC, dI)) (ci := 11) (v := .ref (ad 50)) hx hb hts i_Model hown hK hP 11 rfl rfl 37 (by decide) (hts _ w_4d94d4f137) (fun _ h9 => h9) rfl d_Model_settle_37 ?_
        refine lv_aload_n hx hb d_Model_settle_40 rfl (lv_at hl 1 rfl) ?_
        refine va_get (D := (dC, dI)) (ci := 11) (v := .int (σ.1 41)) hx hb hts i_Model hown hK hP 11 rfl rfl 34 (by decide) (hts _ w_98d35192b7) (fun _ h9 => h9) rfl d_Model_settle_41 ?_
        refine lv_iconst (v := 1) hx hb d_Model_settle_44 (by decide) ?_
        refine lv_isub hx hb d_Model_settle_45 ?_
        obtain ⟨g_5, hF⟩ := gdE hF
        refine va_iald (f := (σ.2.2.1 35)) hx hb hK hP 50 0 rfl rfl (inE g_5) d_Model_settle_46 ?_
        refine lv_goto (tgt := 51) hx hb d_Model_settle_47 (by decide) ?_
        exact ihn.2.2.1 σ x1 x2 ((σ.2.2.1 35) ((σ.1 41) - 1).toNatClampNeg) 0 0 0 0 H locs ls hF hP hD hS (lv_sub hl [1, 2, 0] rfl)
    · have hF : tModel_settle_b3 (tModel_settle_L n) σ x1 x2 x3 x4 x5 x6 x7 = some σ' := hF
      unfold tModel_settle_b3 at hF
      refine lv_istore (lv' := [(4, .int x3), (0, .ref (ad 11)), (1, .int x1), (3, .int x2)]) hx hb d_Model_settle_51 hl (by decide) rfl (fun ls hl => ?_)
      refine lv_iload_n hx hb d_Model_settle_53 rfl (lv_at hl 3 rfl) ?_
      refine lv_bipush (v := 31) hx hb d_Model_settle_54 (by decide) ?_
      refine lv_icmp_eq (tgt := 75) hx hb d_Model_settle_56 (by decide) (fun c_6 => ?_) (fun c_6 => ?_)
      · have hF := ifp hF c_6
        exact ihn.2.2.2.1 σ x1 x2 x3 0 0 0 0 H locs ls hF hP hD hS (lv_sub hl [1, 2, 3, 0] rfl)
      · have hF := ifn hF c_6
        refine lv_iload_n hx hb d_Model_settle_59 rfl (lv_at hl 3 rfl) ?_
        refine lv_bipush (v := 32) hx hb d_Model_settle_60 (by decide) ?_
        refine lv_icmp_ne (tgt := 79) hx hb d_Model_settle_62 (by decide) (fun c_7 => ?_) (fun c_7 => ?_)
        · have hF := ifn hF c_7
          exact ihn.2.2.2.2.1 σ x1 x2 x3 0 0 0 0 H locs ls hF hP hD hS (lv_sub hl [1, 2, 3, 0] rfl)
        · have hF := ifp hF c_7
          refine lv_aload_n hx hb d_Model_settle_65 rfl (lv_at hl 1 rfl) ?_
          refine lv_iload hx hb d_Model_settle_66 (lv_at hl 0 rfl) ?_
          obtain ⟨r8, h8, hF⟩ := b1E hF
          refine callVI (As := [.int x3]) X (ct_Model_strength l dC dI ad cA H.size h8) lk_Model_213 ⟨rfl, rfl, by decide, by decide⟩ 11 rfl rfl hP hD hS hl.1 rfl rfl (Nat.le_of_ble_eq_true rfl) d_Model_settle_68 (fun H locs hP hD hS => ?_)
          refine lv_iload_n hx hb d_Model_settle_71 rfl (lv_at hl 2 rfl) ?_
          refine lv_icmp_lt (tgt := 79) hx hb d_Model_settle_72 (by decide) (fun c_9 => ?_) (fun c_9 => ?_)
          · have hF := ifp hF c_9
            exact ihn.2.2.2.2.1 σ x1 x2 x3 0 0 0 0 H locs ls hF hP hD hS (lv_sub hl [1, 2, 3, 0] rfl)
          · have hF := ifn hF c_9
            exact ihn.2.2.2.1 σ x1 x2 x3 0 0 0 0 H locs ls hF hP hD hS (lv_sub hl [1, 2, 3, 0] rfl)
    · have hF : tModel_settle_b4 (tModel_settle_L n) σ x1 x2 x3 x4 x5 x6 x7 = some σ' := hF
      unfold tModel_settle_b4 at hF
      refine lv_iconst (v := 1) hx hb d_Model_settle_75 (by decide) ?_
      refine lv_goto (tgt := 80) hx hb d_Model_settle_76 (by decide) ?_
      exact ihn.2.2.2.2.2.1 σ x1 x2 x3 1 0 0 0 H locs ls hF hP hD hS (lv_sub hl [0, 1, 2, 3] rfl)
    · have hF : tModel_settle_b5 (tModel_settle_L n) σ x1 x2 x3 x4 x5 x6 x7 = some σ' := hF
      unfold tModel_settle_b5 at hF
      refine lv_iconst (v := 0) hx hb d_Model_settle_79 (by decide) ?_
      exact ihn.2.2.2.2.2.1 σ x1 x2 x3 0 0 0 0 H locs ls hF hP hD hS (lv_sub hl [0, 1, 2, 3] rfl)
    · have hF : tModel_settle_b6 (tModel_settle_L n) σ x1 x2 x3 x4 x5 x6 x7 = some σ' := hF
      unfold tModel_settle_b6 at hF
      refine lv_istore_n (lv' := [(2, .int x4), (0, .ref (ad 11)), (1, .int x1), (3, .int x2), (4, .int x3)]) hx hb d_Model_settle_80 rfl hl (by decide) rfl (fun ls hl => ?_)
      refine lv_iload_n hx hb d_Model_settle_81 rfl (lv_at hl 0 rfl) ?_
      refine lv_if_eq (tgt := 213) hx hb d_Model_settle_82 (by decide) (fun c_10 => ?_) (fun c_10 => ?_)
      · have hF := ifp hF c_10
        exact ihn.2.2.2.2.2.2.2.2.2 σ x1 x4 0 0 0 0 0 H locs ls hF hP hD hS (lv_sub hl [1, 2, 0] rfl)
      · have hF := ifn hF c_10
        refine lv_aload_n hx hb d_Model_settle_85 rfl (lv_at hl 1 rfl) ?_
        refine lv_dup hx hb d_Model_settle_86 rfl ?_
        refine va_get (D := (dC, dI)) (ci := 11) (v := .int (σ.1 41)) hx hb hts i_Model hown hK hP 11 rfl rfl 34 (by decide) (hts _ w_98d35192b7) (fun _ h9 => h9) rfl d_Model_settle_87 ?_
        refine lv_iconst (v := 1) hx hb d_Model_settle_90 (by decide) ?_
        refine lv_isub hx hb d_Model_settle_91 ?_
        refine va_put (D := (dC, dI)) (ci := 11) (v := .int ((σ.1 41) - 1)) (ty := .int) hx hb hts i_Model t_Model t_Model_ok n_Model hown hK hP hD hS 11 rfl rfl 34 (by decide) (hts _ w_98d35192b7) (fun _ h9 => h9) rfl (by decide +kernel) rfl rfl (Nat.le_of_ble_eq_true rfl) d_Model_settle_92 (fun H locs hP hD hS => ?_)
        have hP : va_P (dC, dI) vwCl (tcw ad cA (sI σ 41 ((σ.1 41) - 1))) H := hP
        have hD : va_D A (tcw ad cA (sI σ 41 ((σ.1 41) - 1))) := hD
        refine lv_aload_n hx hb d_Model_settle_95 rfl (lv_at hl 1 rfl) ?_
        refine lv_dup hx hb d_Model_settle_96 rfl ?_
        refine va_get (D := (dC, dI)) (ci := 11) (v := .int (σ.1 32)) hx hb hts i_Model hown hK hP 11 rfl rfl 7 (by decide) (hts _ w_eb874fa0f0) (fun _ h9 => h9) rfl d_Model_settle_97 ?_
        refine lv_iconst (v := 1) hx hb d_Model_settle_100 (by decide) ?_
        refine lv_isub hx hb d_Model_settle_101 ?_
        refine va_put (D := (dC, dI)) (ci := 11) (v := .int ((σ.1 32) - 1)) (ty := .int) hx hb hts i_Model t_Model t_Model_ok n_Model hown hK hP hD hS 11 rfl rfl 7 (by decide) (hts _ w_eb874fa0f0) (fun _ h9 => h9) rfl (by decide +kernel) rfl rfl (Nat.le_of_ble_eq_true rfl) d_Model_settle_102 (fun H locs hP hD hS => ?_)
        have hP : va_P (dC, dI) vwCl (tcw ad cA (sI (sI σ 41 ((σ.1 41) - 1)) 32 ((σ.1 32) - 1))) H := hP
        have hD : va_D A (tcw ad cA (sI (sI σ 41 ((σ.1 41) - 1)) 32 ((σ.1 32) - 1))) := hD
        refine lv_aload_n hx hb d_Model_settle_105 rfl (lv_at hl 1 rfl) ?_
        refine va_get (D := (dC, dI)) (ci := 11) (v := .ref (ad 48)) hx hb hts i_Model hown hK hP 11 rfl rfl 32 (by decide) (hts _ w_231baed428) (fun _ h9 => h9) rfl d_Model_settle_106 ?_
        refine lv_aload_n hx hb d_Model_settle_109 rfl (lv_at hl 1 rfl) ?_
        refine va_get (D := (dC, dI)) (ci := 11) (v := .int (σ.1 40)) hx hb hts i_Model hown hK hP 11 rfl rfl 33 (by decide) (hts _ w_270be961d1) (fun _ h9 => h9) rfl d_Model_settle_110 ?_
        refine lv_iconst (v := 1) hx hb d_Model_settle_113 (by decide) ?_
        refine lv_isub hx hb d_Model_settle_114 ?_
        obtain ⟨g_11, hF⟩ := gdE hF
        refine va_iald (f := (σ.2.2.1 33)) hx hb hK hP 48 0 rfl rfl (inE g_11) d_Model_settle_115 ?_
        refine lv_istore (lv' := [(5, .int ((σ.2.2.1 33) ((σ.1 40) - 1).toNatClampNeg)), (2, .int x4), (0, .ref (ad 11)), (1, .int x1), (3, .int x2), (4, .int x3)]) hx hb d_Model_settle_116 hl (by decide) rfl (fun ls hl => ?_)
        refine lv_aload_n hx hb d_Model_settle_118 rfl (lv_at hl 2 rfl) ?_
        refine lv_dup hx hb d_Model_settle_119 rfl ?_
        refine va_get (D := (dC, dI)) (ci := 11) (v := .int (σ.1 40)) hx hb hts i_Model hown hK hP 11 rfl rfl 33 (by decide) (hts _ w_270be961d1) (fun _ h9 => h9) rfl d_Model_settle_120 ?_
        refine lv_iload_n hx hb d_Model_settle_123 rfl (lv_at hl 4 rfl) ?_
        refine lv_bipush (v := 31) hx hb d_Model_settle_124 (by decide) ?_
        refine lv_icmp_ne (tgt := 133) hx hb d_Model_settle_126 (by decide) (fun c_12 => ?_) (fun c_12 => ?_)
        · have hF := ifn hF c_12
          refine lv_iconst (v := 2) hx hb d_Model_settle_133 (by decide) ?_
          exact ihn.2.2.2.2.2.2.1 (sI (sI σ 41 ((σ.1 41) - 1)) 32 ((σ.1 32) - 1)) x1 x4 x2 x3 ((σ.2.2.1 33) ((σ.1 40) - 1).toNatClampNeg) 2 (σ.1 40) H locs ls hF hP hD hS (lv_sub hl [2, 3, 1, 4, 5, 0] rfl)
        · have hF := ifp hF c_12
          refine lv_iconst (v := 1) hx hb d_Model_settle_129 (by decide) ?_
          refine lv_goto (tgt := 134) hx hb d_Model_settle_130 (by decide) ?_
          exact ihn.2.2.2.2.2.2.1 (sI (sI σ 41 ((σ.1 41) - 1)) 32 ((σ.1 32) - 1)) x1 x4 x2 x3 ((σ.2.2.1 33) ((σ.1 40) - 1).toNatClampNeg) 1 (σ.1 40) H locs ls hF hP hD hS (lv_sub hl [2, 3, 1, 4, 5, 0] rfl)
    · have hF : tModel_settle_b7 (tModel_settle_L n) σ x1 x2 x3 x4 x5 x6 x7 = some σ' := hF
      unfold tModel_settle_b7 at hF
      refine lv_isub hx hb d_Model_settle_134 ?_
      refine va_put (D := (dC, dI)) (ci := 11) (v := .int (x7 - x6)) (ty := .int) hx hb hts i_Model t_Model t_Model_ok n_Model hown hK hP hD hS 11 rfl rfl 33 (by decide) (hts _ w_270be961d1) (fun _ h9 => h9) rfl (by decide +kernel) rfl rfl (Nat.le_of_ble_eq_true rfl) d_Model_settle_135 (fun H locs hP hD hS => ?_)
      have hP : va_P (dC, dI) vwCl (tcw ad cA (sI σ 40 (x7 - x6))) H := hP
      have hD : va_D A (tcw ad cA (sI σ 40 (x7 - x6))) := hD
      refine lv_aload_n hx hb d_Model_settle_138 rfl (lv_at hl 0 rfl) ?_
      refine lv_aload_n hx hb d_Model_settle_139 rfl (lv_at hl 0 rfl) ?_
      refine va_get (D := (dC, dI)) (ci := 11) (v := .ref (ad 32)) hx hb hts i_Model hown hK hP 11 rfl rfl 10 (by decide) (hts _ w_58d30b60eb) (fun _ h9 => h9) rfl d_Model_settle_140 ?_
      refine lv_iload hx hb d_Model_settle_143 (lv_at hl 4 rfl) ?_
      obtain ⟨g_13, hF⟩ := gdE hF
      refine va_iald (f := (σ.2.2.1 17)) hx hb hK hP 32 0 rfl rfl (inE g_13) d_Model_settle_145 ?_
      obtain ⟨r14, h14, hF⟩ := b1E hF
      refine callVI (As := [.int ((σ.2.2.1 17) x4.toNatClampNeg)]) X (ct_Model_sign l dC dI ad cA H.size h14) lk_Model_124 ⟨rfl, rfl, by decide, by decide⟩ 11 rfl rfl hP hD hS hl.1 rfl rfl (Nat.le_of_ble_eq_true rfl) d_Model_settle_146 (fun H locs hP hD hS => ?_)
      refine lv_aload_n hx hb d_Model_settle_149 rfl (lv_at hl 0 rfl) ?_
      refine va_get (D := (dC, dI)) (ci := 11) (v := .ref (ad 33)) hx hb hts i_Model hown hK hP 11 rfl rfl 11 (by decide) (hts _ w_ba266638fe) (fun _ h9 => h9) rfl d_Model_settle_150 ?_
      refine lv_iload hx hb d_Model_settle_153 (lv_at hl 4 rfl) ?_
      obtain ⟨g_15, hF⟩ := gdE hF
      refine va_iald (f := (σ.2.2.1 18)) hx hb hK hP 33 0 rfl rfl (inE g_15) d_Model_settle_155 ?_
      refine lv_iconst (v := 2) hx hb d_Model_settle_156 (by decide) ?_
      refine lv_icmp_ne (tgt := 166) hx hb d_Model_settle_157 (by decide) (fun c_16 => ?_) (fun c_16 => ?_)
      · have hF := ifn hF c_16
        refine lv_iconst (v := 0) hx hb d_Model_settle_166 (by decide) ?_
        exact ihn.2.2.2.2.2.2.2.1 (sI σ 40 (x7 - x6)) x1 x2 x3 x5 0 r14 0 H locs ls hF hP hD hS (lv_sub hl [0, 1, 2, 3, 5] rfl)
      · have hF := ifp hF c_16
        refine lv_sipush (v := 256) hx hb d_Model_settle_160 (by decide) ?_
        refine lv_goto (tgt := 167) hx hb d_Model_settle_163 (by decide) ?_
        exact ihn.2.2.2.2.2.2.2.1 (sI σ 40 (x7 - x6)) x1 x2 x3 x5 256 r14 0 H locs ls hF hP hD hS (lv_sub hl [0, 1, 2, 3, 5] rfl)
    · have hF : tModel_settle_b8 (tModel_settle_L n) σ x1 x2 x3 x4 x5 x6 x7 = some σ' := hF
      unfold tModel_settle_b8 at hF
      refine lv_iadd hx hb d_Model_settle_167 ?_
      refine lv_istore (lv' := [(6, .int (x6 + x5)), (0, .ref (ad 11)), (1, .int x1), (2, .int x2), (3, .int x3), (5, .int x4)]) hx hb d_Model_settle_168 hl (by decide) rfl (fun ls hl => ?_)
      refine lv_aload_n hx hb d_Model_settle_170 rfl (lv_at hl 1 rfl) ?_
      refine lv_iload_n hx hb d_Model_settle_171 rfl (lv_at hl 4 rfl) ?_
      refine lv_bipush (v := 31) hx hb d_Model_settle_172 (by decide) ?_
      refine lv_icmp_ne (tgt := 191) hx hb d_Model_settle_174 (by decide) (fun c_17 => ?_) (fun c_17 => ?_)
      · have hF := ifn hF c_17
        refine lv_aload_n hx hb d_Model_settle_191 rfl (lv_at hl 1 rfl) ?_
        refine lv_bipush (v := 7) hx hb d_Model_settle_192 (by decide) ?_
        refine lv_iload hx hb d_Model_settle_194 (lv_at hl 0 rfl) ?_
        refine lv_aload_n hx hb d_Model_settle_196 rfl (lv_at hl 1 rfl) ?_
        refine va_get (D := (dC, dI)) (ci := 11) (v := .ref (ad 48)) hx hb hts i_Model hown hK hP 11 rfl rfl 32 (by decide) (hts _ w_231baed428) (fun _ h9 => h9) rfl d_Model_settle_197 ?_
        refine lv_aload_n hx hb d_Model_settle_200 rfl (lv_at hl 1 rfl) ?_
        refine va_get (D := (dC, dI)) (ci := 11) (v := .int (σ.1 40)) hx hb hts i_Model hown hK hP 11 rfl rfl 33 (by decide) (hts _ w_270be961d1) (fun _ h9 => h9) rfl d_Model_settle_201 ?_
        obtain ⟨g_18, hF⟩ := gdE hF
        refine va_iald (f := (σ.2.2.1 33)) hx hb hK hP 48 0 rfl rfl (inE g_18) d_Model_settle_204 ?_
        refine lv_iload hx hb d_Model_settle_205 (lv_at hl 5 rfl) ?_
        obtain ⟨r19, u19, h19, hF⟩ := b2E hF
        refine callVI (As := [.int 7, .int (x6 + x5), .int ((σ.2.2.1 33) (σ.1 40).toNatClampNeg), .int x4]) X (ct_Model_node l dC dI ad cA H.size h19) lk_Model_216 ⟨rfl, rfl, by decide, by decide⟩ 11 rfl rfl hP hD hS hl.1 rfl rfl (Nat.le_of_ble_eq_true rfl) d_Model_settle_207 (fun H locs hP hD hS => ?_)
        exact ihn.2.2.2.2.2.2.2.2.1 u19 x1 x2 r19 0 0 0 0 H locs ls hF hP hD hS (lv_sub hl [1, 2, 3] rfl)
      · have hF := ifp hF c_17
        refine lv_aload_n hx hb d_Model_settle_177 rfl (lv_at hl 1 rfl) ?_
        refine lv_bipush (v := 6) hx hb d_Model_settle_178 (by decide) ?_
        refine lv_iload hx hb d_Model_settle_180 (lv_at hl 0 rfl) ?_
        refine lv_iload hx hb d_Model_settle_182 (lv_at hl 5 rfl) ?_
        refine lv_iconst (v := (-1)) hx hb d_Model_settle_184 (by decide) ?_
        obtain ⟨r20, u20, h20, hF⟩ := b2E hF
        refine callVI (As := [.int 6, .int (x6 + x5), .int x4, .int (-1)]) X (ct_Model_node l dC dI ad cA H.size h20) lk_Model_216 ⟨rfl, rfl, by decide, by decide⟩ 11 rfl rfl hP hD hS hl.1 rfl rfl (Nat.le_of_ble_eq_true rfl) d_Model_settle_185 (fun H locs hP hD hS => ?_)
        refine lv_goto (tgt := 210) hx hb d_Model_settle_188 (by decide) ?_
        exact ihn.2.2.2.2.2.2.2.2.1 u20 x1 x2 r20 0 0 0 0 H locs ls hF hP hD hS (lv_sub hl [1, 2, 3] rfl)
    · have hF : tModel_settle_b9 (tModel_settle_L n) σ x1 x2 x3 x4 x5 x6 x7 = some σ' := hF
      unfold tModel_settle_b9 at hF
      obtain ⟨u21, h21, hF⟩ := b1E hF
      refine callVV (As := [.int x3]) X (ct_Model_operand l dC dI ad cA H.size h21) lk_Model_220 ⟨rfl, rfl, by decide, by decide⟩ 11 rfl rfl hP hD hS hl.1 rfl rfl (Nat.le_of_ble_eq_true rfl) d_Model_settle_210 (fun H locs hP hD hS => ?_)
      exact ihn.2.2.2.2.2.2.2.2.2 u21 x1 x2 0 0 0 0 0 H locs ls hF hP hD hS (lv_sub hl [0, 1, 2] rfl)
    · have hF : tModel_settle_b10 (tModel_settle_L n) σ x1 x2 x3 x4 x5 x6 x7 = some σ' := hF
      unfold tModel_settle_b10 at hF
      refine lv_goto (tgt := 2) hx hb d_Model_settle_213 (by decide) ?_
      exact ihn.1 σ x1 x2 0 0 0 0 0 H locs ls hF hP hD hS (lv_sub hl [0, 1, 2] rfl)
set_option maxHeartbeats 4000000 in
set_option maxRecDepth 100000 in
theorem ct_Model_settle (l : Launch) (dC : Nat → ClassId) (dI : Nat → Nat → Nat) (ad : Nat → Nat) (cA : Nat → ClassId) (sz : Nat) {σ : St} {a1 : Int32} {σ' : St} (hF : tModel_settle σ a1 = some σ') : MV l y_Model_settle b_Model_settle 7 none { frames := 2, cells := 0, slots := 0, locals := 42 } (dC, dI) (ttys cA) ad (tcw ad cA) [.ref (ad 11), .int a1] σ sz σ' := by
  refine startM (own := "TinyForgeModel") (Qc := fun A => QV (dC, dI) (ttys cA) (tcw ad cA) A σ') rfl rfl (Nat.le_of_ble_eq_true rfl) ?_
  intro p e s m below meth c A H locs ls X hP hD hS hl
  have hl : lv_has ls 7 [(0, .ref (ad 11)), (1, .int a1)] := hl
  obtain ⟨hx, hb, hr, hml, hown, hlocks, hts, hA, hK, hZ⟩ := id X
  unfold tModel_settle at hF
  refine lv_iconst (v := 1) hx hb d_Model_settle_0 (by decide) ?_
  refine lv_istore_n (lv' := [(2, .int 1), (0, .ref (ad 11)), (1, .int a1)]) hx hb d_Model_settle_1 rfl hl (by decide) rfl (fun ls hl => ?_)
  exact (tModel_settle_blk l dC dI ad cA X 2000).1 σ a1 1 0 0 0 0 0 H locs ls hF hP hD hS (lv_sub hl [1, 2, 0] rfl)
theorem d_Model_value_0 : decode b_Model_value 0 = .ok (.aload_n 0, 1) := by decide +kernel
theorem d_Model_value_1 : decode b_Model_value 1 = .ok (.iconst 0, 1) := by decide +kernel
theorem d_Model_value_2 : decode b_Model_value 2 = .ok (.putfield 207, 3) := by decide +kernel
theorem d_Model_value_5 : decode b_Model_value 5 = .ok (.aload_n 0, 1) := by decide +kernel
theorem d_Model_value_6 : decode b_Model_value 6 = .ok (.iconst 0, 1) := by decide +kernel
theorem d_Model_value_7 : decode b_Model_value 7 = .ok (.putfield 210, 3) := by decide +kernel
theorem d_Model_value_10 : decode b_Model_value 10 = .ok (.iload_n 1, 1) := by decide +kernel
theorem d_Model_value_11 : decode b_Model_value 11 = .ok (.ifCond .ge 7, 3) := by decide +kernel
theorem d_Model_value_14 : decode b_Model_value 14 = .ok (.iconst 1, 1) := by decide +kernel
theorem d_Model_value_15 : decode b_Model_value 15 = .ok (.goto 4, 3) := by decide +kernel
theorem d_Model_value_18 : decode b_Model_value 18 = .ok (.iconst 0, 1) := by decide +kernel
theorem d_Model_value_19 : decode b_Model_value 19 = .ok (.istore_n 2, 1) := by decide +kernel
theorem d_Model_value_20 : decode b_Model_value 20 = .ok (.iload_n 1, 1) := by decide +kernel
theorem d_Model_value_21 : decode b_Model_value 21 = .ok (.ifCond .lt 8, 3) := by decide +kernel
theorem d_Model_value_24 : decode b_Model_value 24 = .ok (.aload_n 0, 1) := by decide +kernel
theorem d_Model_value_25 : decode b_Model_value 25 = .ok (.iload_n 1, 1) := by decide +kernel
theorem d_Model_value_26 : decode b_Model_value 26 = .ok (.invokevirtual 220, 3) := by decide +kernel
theorem d_Model_value_29 : decode b_Model_value 29 = .ok (.iconst 0, 1) := by decide +kernel
theorem d_Model_value_30 : decode b_Model_value 30 = .ok (.istore_n 3, 1) := by decide +kernel
theorem d_Model_value_31 : decode b_Model_value 31 = .ok (.iload_n 3, 1) := by decide +kernel
theorem d_Model_value_32 : decode b_Model_value 32 = .ok (.ifCond .ne 104, 3) := by decide +kernel
theorem d_Model_value_35 : decode b_Model_value 35 = .ok (.aload_n 0, 1) := by decide +kernel
theorem d_Model_value_36 : decode b_Model_value 36 = .ok (.getfield 121, 3) := by decide +kernel
theorem d_Model_value_39 : decode b_Model_value 39 = .ok (.ifCond .ne 97, 3) := by decide +kernel
theorem d_Model_value_42 : decode b_Model_value 42 = .ok (.iload_n 2, 1) := by decide +kernel
theorem d_Model_value_43 : decode b_Model_value 43 = .ok (.ifCond .eq 11, 3) := by decide +kernel
theorem d_Model_value_46 : decode b_Model_value 46 = .ok (.aload_n 0, 1) := by decide +kernel
theorem d_Model_value_47 : decode b_Model_value 47 = .ok (.invokevirtual 277, 3) := by decide +kernel
theorem d_Model_value_50 : decode b_Model_value 50 = .ok (.istore_n 2, 1) := by decide +kernel
theorem d_Model_value_51 : decode b_Model_value 51 = .ok (.goto (-20), 3) := by decide +kernel
theorem d_Model_value_54 : decode b_Model_value 54 = .ok (.aload_n 0, 1) := by decide +kernel
theorem d_Model_value_55 : decode b_Model_value 55 = .ok (.aload_n 0, 1) := by decide +kernel
theorem d_Model_value_56 : decode b_Model_value 56 = .ok (.getfield 184, 3) := by decide +kernel
theorem d_Model_value_59 : decode b_Model_value 59 = .ok (.invokevirtual 213, 3) := by decide +kernel
theorem d_Model_value_62 : decode b_Model_value 62 = .ok (.istore 4, 2) := by decide +kernel
theorem d_Model_value_64 : decode b_Model_value 64 = .ok (.aload_n 0, 1) := by decide +kernel
theorem d_Model_value_65 : decode b_Model_value 65 = .ok (.iload 4, 2) := by decide +kernel
theorem d_Model_value_67 : decode b_Model_value 67 = .ok (.ifCond .le 8, 3) := by decide +kernel
theorem d_Model_value_70 : decode b_Model_value 70 = .ok (.iload 4, 2) := by decide +kernel
theorem d_Model_value_72 : decode b_Model_value 72 = .ok (.goto 4, 3) := by decide +kernel
theorem d_Model_value_75 : decode b_Model_value 75 = .ok (.iconst 1, 1) := by decide +kernel
theorem d_Model_value_76 : decode b_Model_value 76 = .ok (.invokevirtual 280, 3) := by decide +kernel
theorem d_Model_value_79 : decode b_Model_value 79 = .ok (.iload 4, 2) := by decide +kernel
theorem d_Model_value_81 : decode b_Model_value 81 = .ok (.ifCond .le 26, 3) := by decide +kernel
theorem d_Model_value_84 : decode b_Model_value 84 = .ok (.aload_n 0, 1) := by decide +kernel
theorem d_Model_value_85 : decode b_Model_value 85 = .ok (.getfield 184, 3) := by decide +kernel
theorem d_Model_value_88 : decode b_Model_value 88 = .ok (.istore 5, 2) := by decide +kernel
theorem d_Model_value_90 : decode b_Model_value 90 = .ok (.aload_n 0, 1) := by decide +kernel
theorem d_Model_value_91 : decode b_Model_value 91 = .ok (.invokevirtual 233, 3) := by decide +kernel
theorem d_Model_value_94 : decode b_Model_value 94 = .ok (.aload_n 0, 1) := by decide +kernel
theorem d_Model_value_95 : decode b_Model_value 95 = .ok (.bipush 32, 2) := by decide +kernel
theorem d_Model_value_97 : decode b_Model_value 97 = .ok (.iload 5, 2) := by decide +kernel
theorem d_Model_value_99 : decode b_Model_value 99 = .ok (.invokevirtual 236, 3) := by decide +kernel
theorem d_Model_value_102 : decode b_Model_value 102 = .ok (.iconst 1, 1) := by decide +kernel
theorem d_Model_value_103 : decode b_Model_value 103 = .ok (.istore_n 2, 1) := by decide +kernel
theorem d_Model_value_104 : decode b_Model_value 104 = .ok (.goto 29, 3) := by decide +kernel
theorem d_Model_value_107 : decode b_Model_value 107 = .ok (.aload_n 0, 1) := by decide +kernel
theorem d_Model_value_108 : decode b_Model_value 108 = .ok (.getfield 210, 3) := by decide +kernel
theorem d_Model_value_111 : decode b_Model_value 111 = .ok (.ifCond .le 20, 3) := by decide +kernel
theorem d_Model_value_114 : decode b_Model_value 114 = .ok (.aload_n 0, 1) := by decide +kernel
theorem d_Model_value_115 : decode b_Model_value 115 = .ok (.invokevirtual 283, 3) := by decide +kernel
theorem d_Model_value_118 : decode b_Model_value 118 = .ok (.iconst 1, 1) := by decide +kernel
theorem d_Model_value_119 : decode b_Model_value 119 = .ok (.if_icmp .ne 7, 3) := by decide +kernel
theorem d_Model_value_122 : decode b_Model_value 122 = .ok (.iconst 1, 1) := by decide +kernel
theorem d_Model_value_123 : decode b_Model_value 123 = .ok (.goto 4, 3) := by decide +kernel
theorem d_Model_value_126 : decode b_Model_value 126 = .ok (.iconst 0, 1) := by decide +kernel
theorem d_Model_value_127 : decode b_Model_value 127 = .ok (.istore_n 2, 1) := by decide +kernel
theorem d_Model_value_128 : decode b_Model_value 128 = .ok (.goto 5, 3) := by decide +kernel
theorem d_Model_value_131 : decode b_Model_value 131 = .ok (.iconst 1, 1) := by decide +kernel
theorem d_Model_value_132 : decode b_Model_value 132 = .ok (.istore_n 3, 1) := by decide +kernel
theorem d_Model_value_133 : decode b_Model_value 133 = .ok (.goto (-102), 3) := by decide +kernel
theorem d_Model_value_136 : decode b_Model_value 136 = .ok (.aload_n 0, 1) := by decide +kernel
theorem d_Model_value_137 : decode b_Model_value 137 = .ok (.getfield 121, 3) := by decide +kernel
theorem d_Model_value_140 : decode b_Model_value 140 = .ok (.ifCond .ne 12, 3) := by decide +kernel
theorem d_Model_value_143 : decode b_Model_value 143 = .ok (.aload_n 0, 1) := by decide +kernel
theorem d_Model_value_144 : decode b_Model_value 144 = .ok (.getfield 70, 3) := by decide +kernel
theorem d_Model_value_147 : decode b_Model_value 147 = .ok (.iconst 0, 1) := by decide +kernel
theorem d_Model_value_148 : decode b_Model_value 148 = .ok (.iaload, 1) := by decide +kernel
theorem d_Model_value_149 : decode b_Model_value 149 = .ok (.goto 4, 3) := by decide +kernel
theorem d_Model_value_152 : decode b_Model_value 152 = .ok (.iconst 0, 1) := by decide +kernel
theorem d_Model_value_153 : decode b_Model_value 153 = .ok (.ireturn, 1) := by decide +kernel
def tModel_value_b1 (k : Nat → St → Int32 → Int32 → Int32 → Int32 → Option (Int32 × St)) (σ : St) (x1 : Int32) (x2 : Int32) (x3 : Int32) (x4 : Int32) : Option (Int32 × St) := if x1 < 0 then k 2 σ x2 0 0 0 else b1 (tModel_operand σ x1) (fun u3 => k 2 u3 x2 0 0 0)
def tModel_value_b2 (k : Nat → St → Int32 → Int32 → Int32 → Int32 → Option (Int32 × St)) (σ : St) (x1 : Int32) (x2 : Int32) (x3 : Int32) (x4 : Int32) : Option (Int32 × St) := k 3 σ x1 0 0 0
def tModel_value_b3 (k : Nat → St → Int32 → Int32 → Int32 → Int32 → Option (Int32 × St)) (σ : St) (x1 : Int32) (x2 : Int32) (x3 : Int32) (x4 : Int32) : Option (Int32 × St) := if x2 = 0 then if (σ.1 29) = 0 then if x1 = 0 then b1 (tModel_strength σ (σ.1 31)) (fun r7 => if r7 ≤ 0 then k 4 σ x1 x2 r7 1 else k 4 σ x1 x2 r7 r7) else b2 (tModel_beginValue σ) (fun r9 u9 => k 3 u9 r9 x2 0 0) else k 7 σ 0 0 0 0 else k 7 σ 0 0 0 0
def tModel_value_b4 (k : Nat → St → Int32 → Int32 → Int32 → Int32 → Option (Int32 × St)) (σ : St) (x1 : Int32) (x2 : Int32) (x3 : Int32) (x4 : Int32) : Option (Int32 × St) := b1 (tModel_settle σ x4) (fun u12 => if x3 ≤ 0 then if (u12.1 41) ≤ 0 then k 6 u12 x1 1 0 0 else b2 (tModel_closeBracket u12) (fun r15 u15 => if r15 = 1 then k 5 u15 x2 1 0 0 else k 5 u15 x2 0 0 0) else b1 (tModel_opens u12) (fun u17 => b1 (tModel_hold u17 32 (u12.1 31)) (fun u18 => k 6 u18 1 x2 0 0)))
def tModel_value_b5 (k : Nat → St → Int32 → Int32 → Int32 → Int32 → Option (Int32 × St)) (σ : St) (x1 : Int32) (x2 : Int32) (x3 : Int32) (x4 : Int32) : Option (Int32 × St) := k 6 σ x2 x1 0 0
def tModel_value_b6 (k : Nat → St → Int32 → Int32 → Int32 → Int32 → Option (Int32 × St)) (σ : St) (x1 : Int32) (x2 : Int32) (x3 : Int32) (x4 : Int32) : Option (Int32 × St) := k 3 σ x1 x2 0 0
def tModel_value_b7 (k : Nat → St → Int32 → Int32 → Int32 → Int32 → Option (Int32 × St)) (σ : St) (x1 : Int32) (x2 : Int32) (x3 : Int32) (x4 : Int32) : Option (Int32 × St) := if (σ.1 29) = 0 then gd (inB 0 60) (some (((σ.2.2.1 33) (0 : Int32).toNatClampNeg), σ)) else some (0, σ)
def tModel_value_L : Nat → Nat → St → Int32 → Int32 → Int32 → Int32 → Option (Int32 × St)
  | 0, _, _, _, _, _, _ => none
  | n + 1, lab, σ, x1, x2, x3, x4 => match lab with
    | 1 => tModel_value_b1 (tModel_value_L n) σ x1 x2 x3 x4
    | 2 => tModel_value_b2 (tModel_value_L n) σ x1 x2 x3 x4
    | 3 => tModel_value_b3 (tModel_value_L n) σ x1 x2 x3 x4
    | 4 => tModel_value_b4 (tModel_value_L n) σ x1 x2 x3 x4
    | 5 => tModel_value_b5 (tModel_value_L n) σ x1 x2 x3 x4
    | 6 => tModel_value_b6 (tModel_value_L n) σ x1 x2 x3 x4
    | 7 => tModel_value_b7 (tModel_value_L n) σ x1 x2 x3 x4
    | _ => none
def tModel_value (σ : St) (a1 : Int32) : Option (Int32 × St) := if (0 : Int32) ≤ a1 then tModel_value_L 2000 1 (sI (sI σ 40 0) 41 0) a1 0 0 0 else tModel_value_L 2000 1 (sI (sI σ 40 0) 41 0) a1 1 0 0
set_option maxHeartbeats 4000000 in
set_option maxRecDepth 100000 in
theorem tModel_value_blk {p : Program} {e : Env} {s : State} {m : MethodId} {args : Array Value} {below : List Frame} {meth : Method} {c : Code} {A : Nat → Prop} (l : Launch) (dC : Nat → ClassId) (dI : Nat → Nat → Nat) (ad : Nat → Nat) (cA : Nat → ClassId) {r : Int32} {σ' : St} (X : Cx p s m args meth c b_Model_value 6 (some .int) "TinyForgeModel" (dC, dI) (ttys cA) ad A) : ∀ n : Nat, (∀ (σ : St) (x1 : Int32) (x2 : Int32) (x3 : Int32) (x4 : Int32) (H : Heap) (locs : List Loc) (ls : Array Slot), tModel_value_L n 1 σ x1 x2 x3 x4 = some (r, σ') → va_P (dC, dI) vwCl (tcw ad cA σ) H → va_D A (tcw ad cA σ) → va_S A s.heap H locs → lv_has ls 6 [(0, .ref (ad 11)), (1, .int x1)] → W p l e { frames := 5, cells := 0, slots := 0, locals := 111 } s m args below meth c H locs 0 0 (MQ below (QI (dC, dI) (ttys cA) (tcw ad cA) A r σ') args s 0 0 A) (F0 m 19 ls [.int x2])) ∧ (∀ (σ : St) (x1 : Int32) (x2 : Int32) (x3 : Int32) (x4 : Int32) (H : Heap) (locs : List Loc) (ls : Array Slot), tModel_value_L n 2 σ x1 x2 x3 x4 = some (r, σ') → va_P (dC, dI) vwCl (tcw ad cA σ) H → va_D A (tcw ad cA σ) → va_S A s.heap H locs → lv_has ls 6 [(0, .ref (ad 11)), (2, .int x1)] → W p l e { frames := 5, cells := 0, slots := 0, locals := 111 } s m args below meth c H locs 0 0 (MQ below (QI (dC, dI) (ttys cA) (tcw ad cA) A r σ') args s 0 0 A) (F0 m 29 ls [])) ∧ (∀ (σ : St) (x1 : Int32) (x2 : Int32) (x3 : Int32) (x4 : Int32) (H : Heap) (locs : List Loc) (ls : Array Slot), tModel_value_L n 3 σ x1 x2 x3 x4 = some (r, σ') → va_P (dC, dI) vwCl (tcw ad cA σ) H → va_D A (tcw ad cA σ) → va_S A s.heap H locs → lv_has ls 6 [(0, .ref (ad 11)), (2, .int x1), (3, .int x2)] → W p l e { frames := 5, cells := 0, slots := 0, locals := 111 } s m args below meth c H locs 0 0 (MQ below (QI (dC, dI) (ttys cA) (tcw ad cA) A r σ') args s 0 0 A) (F0 m 31 ls [])) ∧ (∀ (σ : St) (x1 : Int32) (x2 : Int32) (x3 : Int32) (x4 : Int32) (H : Heap) (locs : List Loc) (ls : Array Slot), tModel_value_L n 4 σ x1 x2 x3 x4 = some (r, σ') → va_P (dC, dI) vwCl (tcw ad cA σ) H → va_D A (tcw ad cA σ) → va_S A s.heap H locs → lv_has ls 6 [(0, .ref (ad 11)), (2, .int x1), (3, .int x2), (4, .int x3)] → W p l e { frames := 5, cells := 0, slots := 0, locals := 111 } s m args below meth c H locs 0 0 (MQ below (QI (dC, dI) (ttys cA) (tcw ad cA) A r σ') args s 0 0 A) (F0 m 76 ls [.int x4, .ref (ad 11)])) ∧ (∀ (σ : St) (x1 : Int32) (x2 : Int32) (x3 : Int32) (x4 : Int32) (H : Heap) (locs : List Loc) (ls : Array Slot), tModel_value_L n 5 σ x1 x2 x3 x4 = some (r, σ') → va_P (dC, dI) vwCl (tcw ad cA σ) H → va_D A (tcw ad cA σ) → va_S A s.heap H locs → lv_has ls 6 [(0, .ref (ad 11)), (3, .int x1)] → W p l e { frames := 5, cells := 0, slots := 0, locals := 111 } s m args below meth c H locs 0 0 (MQ below (QI (dC, dI) (ttys cA) (tcw ad cA) A r σ') args s 0 0 A) (F0 m 127 ls [.int x2])) ∧ (∀ (σ : St) (x1 : Int32) (x2 : Int32) (x3 : Int32) (x4 : Int32) (H : Heap) (locs : List Loc) (ls : Array Slot), tModel_value_L n 6 σ x1 x2 x3 x4 = some (r, σ') → va_P (dC, dI) vwCl (tcw ad cA σ) H → va_D A (tcw ad cA σ) → va_S A s.heap H locs → lv_has ls 6 [(0, .ref (ad 11)), (2, .int x1), (3, .int x2)] → W p l e { frames := 5, cells := 0, slots := 0, locals := 111 } s m args below meth c H locs 0 0 (MQ below (QI (dC, dI) (ttys cA) (tcw ad cA) A r σ') args s 0 0 A) (F0 m 133 ls [])) ∧ (∀ (σ : St) (x1 : Int32) (x2 : Int32) (x3 : Int32) (x4 : Int32) (H : Heap) (locs : List Loc) (ls : Array Slot), tModel_value_L n 7 σ x1 x2 x3 x4 = some (r, σ') → va_P (dC, dI) vwCl (tcw ad cA σ) H → va_D A (tcw ad cA σ) → va_S A s.heap H locs → lv_has ls 6 [(0, .ref (ad 11))] → W p l e { frames := 5, cells := 0, slots := 0, locals := 111 } s m args below meth c H locs 0 0 (MQ below (QI (dC, dI) (ttys cA) (tcw ad cA) A r σ') args s 0 0 A) (F0 m 136 ls [])) := by
  obtain ⟨hx, hb, hr, hml, hown, hlocks, hts, hA, hK, hZ⟩ := id X
  intro n
  induction n with
  | zero => exact ⟨(fun σ x1 x2 x3 x4 H locs ls hF => by cases hF), (fun σ x1 x2 x3 x4 H locs ls hF => by cases hF), (fun σ x1 x2 x3 x4 H locs ls hF => by cases hF), (fun σ x1 x2 x3 x4 H locs ls hF => by cases hF), (fun σ x1 x2 x3 x4 H locs ls hF => by cases hF), (fun σ x1 x2 x3 x4 H locs ls hF => by cases hF), (fun σ x1 x2 x3 x4 H locs ls hF => by cases hF)⟩
  | succ n ihn =>
    refine ⟨fun σ x1 x2 x3 x4 H locs ls hF hP hD hS hl => ?_, fun σ x1 x2 x3 x4 H locs ls hF hP hD hS hl => ?_, fun σ x1 x2 x3 x4 H locs ls hF hP hD hS hl => ?_, fun σ x1 x2 x3 x4 H locs ls hF hP hD hS hl => ?_, fun σ x1 x2 x3 x4 H locs ls hF hP hD hS hl => ?_, fun σ x1 x2 x3 x4 H locs ls hF hP hD hS hl => ?_, fun σ x1 x2 x3 x4 H locs ls hF hP hD hS hl => ?_⟩
    · have hF : tModel_value_b1 (tModel_value_L n) σ x1 x2 x3 x4 = some (r, σ') := hF
      unfold tModel_value_b1 at hF
      refine lv_istore_n (lv' := [(2, .int x2), (0, .ref (ad 11)), (1, .int x1)]) hx hb d_Model_value_19 rfl hl (by decide) rfl (fun ls hl => ?_)
      refine lv_iload_n hx hb d_Model_value_20 rfl (lv_at hl 2 rfl) ?_
      refine lv_if_lt (tgt := 29) hx hb d_Model_value_21 (by decide) (fun c_2 => ?_) (fun c_2 => ?_)
      · have hF := ifp hF c_2
        exact ihn.2.1 σ x2 0 0 0 H locs ls hF hP hD hS (lv_sub hl [1, 0] rfl)
      · have hF := ifn hF c_2
        refine lv_aload_n hx hb d_Model_value_24 rfl (lv_at hl 1 rfl) ?_
        refine lv_iload_n hx hb d_Model_value_25 rfl (lv_at hl 2 rfl) ?_
        obtain ⟨u3, h3, hF⟩ := b1E hF
        refine callVV (As := [.int x1]) X (ct_Model_operand l dC dI ad cA H.size h3) lk_Model_220 ⟨rfl, rfl, by decide, by decide⟩ 11 rfl rfl hP hD hS hl.1 rfl rfl (Nat.le_of_ble_eq_true rfl) d_Model_value_26 (fun H locs hP hD hS => ?_)
        exact ihn.2.1 u3 x2 0 0 0 H locs ls hF hP hD hS (lv_sub hl [1, 0] rfl)
    · have hF : tModel_value_b2 (tModel_value_L n) σ x1 x2 x3 x4 = some (r, σ') := hF
      unfold tModel_value_b2 at hF
      refine lv_iconst (v := 0) hx hb d_Model_value_29 (by decide) ?_
      refine lv_istore_n (lv' := [(3, .int 0), (0, .ref (ad 11)), (2, .int x1)]) hx hb d_Model_value_30 rfl hl (by decide) rfl (fun ls hl => ?_)
      exact ihn.2.2.1 σ x1 0 0 0 H locs ls hF hP hD hS (lv_sub hl [1, 2, 0] rfl)
    · have hF : tModel_value_b3 (tModel_value_L n) σ x1 x2 x3 x4 = some (r, σ') := hF
      unfold tModel_value_b3 at hF
      refine lv_iload_n hx hb d_Model_value_31 rfl (lv_at hl 2 rfl) ?_
      refine lv_if_ne (tgt := 136) hx hb d_Model_value_32 (by decide) (fun c_4 => ?_) (fun c_4 => ?_)
      · have hF := ifn hF c_4
        exact ihn.2.2.2.2.2.2 σ 0 0 0 0 H locs ls hF hP hD hS (lv_sub hl [0] rfl)
      · have hF := ifp hF c_4
        refine lv_aload_n hx hb d_Model_value_35 rfl (lv_at hl 0 rfl) ?_
        refine va_get (D := (dC, dI)) (ci := 11) (v := .int (σ.1 29)) hx hb hts i_Model hown hK hP 11 rfl rfl 4 (by decide) (hts _ w_0464dc4398) (fun _ h9 => h9) rfl d_Model_value_36 ?_
        refine lv_if_ne (tgt := 136) hx hb d_Model_value_39 (by decide) (fun c_5 => ?_) (fun c_5 => ?_)
        · have hF := ifn hF c_5
          exact ihn.2.2.2.2.2.2 σ 0 0 0 0 H locs ls hF hP hD hS (lv_sub hl [0] rfl)
        · have hF := ifp hF c_5
          refine lv_iload_n hx hb d_Model_value_42 rfl (lv_at hl 1 rfl) ?_
          refine lv_if_eq (tgt := 54) hx hb d_Model_value_43 (by decide) (fun c_6 => ?_) (fun c_6 => ?_)
          · have hF := ifp hF c_6
            refine lv_aload_n hx hb d_Model_value_54 rfl (lv_at hl 0 rfl) ?_
            refine lv_aload_n hx hb d_Model_value_55 rfl (lv_at hl 0 rfl) ?_
            refine va_get (D := (dC, dI)) (ci := 11) (v := .int (σ.1 31)) hx hb hts i_Model hown hK hP 11 rfl rfl 6 (by decide) (hts _ w_13cd8e7698) (fun _ h9 => h9) rfl d_Model_value_56 ?_
            obtain ⟨r7, h7, hF⟩ := b1E hF
            refine callVI (As := [.int (σ.1 31)]) X (ct_Model_strength l dC dI ad cA H.size h7) lk_Model_213 ⟨rfl, rfl, by decide, by decide⟩ 11 rfl rfl hP hD hS hl.1 rfl rfl (Nat.le_of_ble_eq_true rfl) d_Model_value_59 (fun H locs hP hD hS => ?_)
            refine lv_istore (lv' := [(4, .int r7), (0, .ref (ad 11)), (2, .int x1), (3, .int x2)]) hx hb d_Model_value_62 hl (by decide) rfl (fun ls hl => ?_)
            refine lv_aload_n hx hb d_Model_value_64 rfl (lv_at hl 1 rfl) ?_
            refine lv_iload hx hb d_Model_value_65 (lv_at hl 0 rfl) ?_
            refine lv_if_le (tgt := 75) hx hb d_Model_value_67 (by decide) (fun c_8 => ?_) (fun c_8 => ?_)
            · have hF := ifp hF c_8
              refine lv_iconst (v := 1) hx hb d_Model_value_75 (by decide) ?_
              exact ihn.2.2.2.1 σ x1 x2 r7 1 H locs ls hF hP hD hS (lv_sub hl [1, 2, 3, 0] rfl)
            · have hF := ifn hF c_8
              refine lv_iload hx hb d_Model_value_70 (lv_at hl 0 rfl) ?_
              refine lv_goto (tgt := 76) hx hb d_Model_value_72 (by decide) ?_
              exact ihn.2.2.2.1 σ x1 x2 r7 r7 H locs ls hF hP hD hS (lv_sub hl [1, 2, 3, 0] rfl)
          · have hF := ifn hF c_6
            refine lv_aload_n hx hb d_Model_value_46 rfl (lv_at hl 0 rfl) ?_
            obtain ⟨r9, u9, h9, hF⟩ := b2E hF
            refine callVI (As := []) X (ct_Model_beginValue l dC dI ad cA H.size h9) lk_Model_277 ⟨rfl, rfl, by decide, by decide⟩ 11 rfl rfl hP hD hS hl.1 rfl rfl (Nat.le_of_ble_eq_true rfl) d_Model_value_47 (fun H locs hP hD hS => ?_)
            refine lv_istore_n (lv' := [(2, .int r9), (0, .ref (ad 11)), (3, .int x2)]) hx hb d_Model_value_50 rfl hl (by decide) rfl (fun ls hl => ?_)
            refine lv_goto (tgt := 31) hx hb d_Model_value_51 (by decide) ?_
            exact ihn.2.2.1 u9 r9 x2 0 0 H locs ls hF hP hD hS (lv_sub hl [1, 0, 2] rfl)
    · have hF : tModel_value_b4 (tModel_value_L n) σ x1 x2 x3 x4 = some (r, σ') := hF
      unfold tModel_value_b4 at hF
      obtain ⟨u12, h12, hF⟩ := b1E hF
      refine callVV (As := [.int x4]) X (ct_Model_settle l dC dI ad cA H.size h12) lk_Model_280 ⟨rfl, rfl, by decide, by decide⟩ 11 rfl rfl hP hD hS hl.1 rfl rfl (Nat.le_of_ble_eq_true rfl) d_Model_value_76 (fun H locs hP hD hS => ?_)
      refine lv_iload hx hb d_Model_value_79 (lv_at hl 3 rfl) ?_
      refine lv_if_le (tgt := 107) hx hb d_Model_value_81 (by decide) (fun c_13 => ?_) (fun c_13 => ?_)
      · have hF := ifp hF c_13
        refine lv_aload_n hx hb d_Model_value_107 rfl (lv_at hl 0 rfl) ?_
        refine va_get (D := (dC, dI)) (ci := 11) (v := .int (u12.1 41)) hx hb hts i_Model hown hK hP 11 rfl rfl 34 (by decide) (hts _ w_98d35192b7) (fun _ h9 => h9) rfl d_Model_value_108 ?_
        refine lv_if_le (tgt := 131) hx hb d_Model_value_111 (by decide) (fun c_14 => ?_) (fun c_14 => ?_)
        · have hF := ifp hF c_14
          refine lv_iconst (v := 1) hx hb d_Model_value_131 (by decide) ?_
          refine lv_istore_n (lv' := [(3, .int 1), (0, .ref (ad 11)), (2, .int x1), (4, .int x3)]) hx hb d_Model_value_132 rfl hl (by decide) rfl (fun ls hl => ?_)
          exact ihn.2.2.2.2.2.1 u12 x1 1 0 0 H locs ls hF hP hD hS (lv_sub hl [1, 2, 0] rfl)
        · have hF := ifn hF c_14
          refine lv_aload_n hx hb d_Model_value_114 rfl (lv_at hl 0 rfl) ?_
          obtain ⟨r15, u15, h15, hF⟩ := b2E hF
          refine callVI (As := []) X (ct_Model_closeBracket l dC dI ad cA H.size h15) lk_Model_283 ⟨rfl, rfl, by decide, by decide⟩ 11 rfl rfl hP hD hS hl.1 rfl rfl (Nat.le_of_ble_eq_true rfl) d_Model_value_115 (fun H locs hP hD hS => ?_)
          refine lv_iconst (v := 1) hx hb d_Model_value_118 (by decide) ?_
          refine lv_icmp_ne (tgt := 126) hx hb d_Model_value_119 (by decide) (fun c_16 => ?_) (fun c_16 => ?_)
          · have hF := ifn hF c_16
            refine lv_iconst (v := 0) hx hb d_Model_value_126 (by decide) ?_
            exact ihn.2.2.2.2.1 u15 x2 0 0 0 H locs ls hF hP hD hS (lv_sub hl [0, 2] rfl)
          · have hF := ifp hF c_16
            refine lv_iconst (v := 1) hx hb d_Model_value_122 (by decide) ?_
            refine lv_goto (tgt := 127) hx hb d_Model_value_123 (by decide) ?_
            exact ihn.2.2.2.2.1 u15 x2 1 0 0 H locs ls hF hP hD hS (lv_sub hl [0, 2] rfl)
      · have hF := ifn hF c_13
        refine lv_aload_n hx hb d_Model_value_84 rfl (lv_at hl 0 rfl) ?_
        refine va_get (D := (dC, dI)) (ci := 11) (v := .int (u12.1 31)) hx hb hts i_Model hown hK hP 11 rfl rfl 6 (by decide) (hts _ w_13cd8e7698) (fun _ h9 => h9) rfl d_Model_value_85 ?_
        refine lv_istore (lv' := [(5, .int (u12.1 31)), (0, .ref (ad 11)), (2, .int x1), (3, .int x2), (4, .int x3)]) hx hb d_Model_value_88 hl (by decide) rfl (fun ls hl => ?_)
        refine lv_aload_n hx hb d_Model_value_90 rfl (lv_at hl 1 rfl) ?_
        obtain ⟨u17, h17, hF⟩ := b1E hF
        refine callVV (As := []) X (ct_Model_opens l dC dI ad cA H.size h17) lk_Model_233 ⟨rfl, rfl, by decide, by decide⟩ 11 rfl rfl hP hD hS hl.1 rfl rfl (Nat.le_of_ble_eq_true rfl) d_Model_value_91 (fun H locs hP hD hS => ?_)
        refine lv_aload_n hx hb d_Model_value_94 rfl (lv_at hl 1 rfl) ?_
        refine lv_bipush (v := 32) hx hb d_Model_value_95 (by decide) ?_
        refine lv_iload hx hb d_Model_value_97 (lv_at hl 0 rfl) ?_
        obtain ⟨u18, h18, hF⟩ := b1E hF
        refine callVV (As := [.int 32, .int (u12.1 31)]) X (ct_Model_hold l dC dI ad cA H.size h18) lk_Model_236 ⟨rfl, rfl, by decide, by decide⟩ 11 rfl rfl hP hD hS hl.1 rfl rfl (Nat.le_of_ble_eq_true rfl) d_Model_value_99 (fun H locs hP hD hS => ?_)
        refine lv_iconst (v := 1) hx hb d_Model_value_102 (by decide) ?_
        refine lv_istore_n (lv' := [(2, .int 1), (5, .int (u12.1 31)), (0, .ref (ad 11)), (3, .int x2), (4, .int x3)]) hx hb d_Model_value_103 rfl hl (by decide) rfl (fun ls hl => ?_)
        refine lv_goto (tgt := 133) hx hb d_Model_value_104 (by decide) ?_
        exact ihn.2.2.2.2.2.1 u18 1 x2 0 0 H locs ls hF hP hD hS (lv_sub hl [2, 0, 3] rfl)
    · have hF : tModel_value_b5 (tModel_value_L n) σ x1 x2 x3 x4 = some (r, σ') := hF
      unfold tModel_value_b5 at hF
      refine lv_istore_n (lv' := [(2, .int x2), (0, .ref (ad 11)), (3, .int x1)]) hx hb d_Model_value_127 rfl hl (by decide) rfl (fun ls hl => ?_)
      refine lv_goto (tgt := 133) hx hb d_Model_value_128 (by decide) ?_
      exact ihn.2.2.2.2.2.1 σ x2 x1 0 0 H locs ls hF hP hD hS (lv_sub hl [1, 0, 2] rfl)
    · have hF : tModel_value_b6 (tModel_value_L n) σ x1 x2 x3 x4 = some (r, σ') := hF
      unfold tModel_value_b6 at hF
      refine lv_goto (tgt := 31) hx hb d_Model_value_133 (by decide) ?_
      exact ihn.2.2.1 σ x1 x2 0 0 H locs ls hF hP hD hS (lv_sub hl [0, 1, 2] rfl)
    · have hF : tModel_value_b7 (tModel_value_L n) σ x1 x2 x3 x4 = some (r, σ') := hF
      unfold tModel_value_b7 at hF
      refine lv_aload_n hx hb d_Model_value_136 rfl (lv_at hl 0 rfl) ?_
      refine va_get (D := (dC, dI)) (ci := 11) (v := .int (σ.1 29)) hx hb hts i_Model hown hK hP 11 rfl rfl 4 (by decide) (hts _ w_0464dc4398) (fun _ h9 => h9) rfl d_Model_value_137 ?_
      refine lv_if_ne (tgt := 152) hx hb d_Model_value_140 (by decide) (fun c_10 => ?_) (fun c_10 => ?_)
      · have hF := ifn hF c_10
        refine lv_iconst (v := 0) hx hb d_Model_value_152 (by decide) ?_
        cases hF
        exact leafI X hP hD hS d_Model_value_153
      · have hF := ifp hF c_10
        refine lv_aload_n hx hb d_Model_value_143 rfl (lv_at hl 0 rfl) ?_
        refine va_get (D := (dC, dI)) (ci := 11) (v := .ref (ad 48)) hx hb hts i_Model hown hK hP 11 rfl rfl 32 (by decide) (hts _ w_231baed428) (fun _ h9 => h9) rfl d_Model_value_144 ?_
        refine lv_iconst (v := 0) hx hb d_Model_value_147 (by decide) ?_
        obtain ⟨g_11, hF⟩ := gdE hF
        refine va_iald (f := (σ.2.2.1 33)) hx hb hK hP 48 0 rfl rfl (inE g_11) d_Model_value_148 ?_
        refine lv_goto (tgt := 153) hx hb d_Model_value_149 (by decide) ?_
        cases hF
        exact leafI X hP hD hS d_Model_value_153
set_option maxHeartbeats 4000000 in
set_option maxRecDepth 100000 in
theorem ct_Model_value (l : Launch) (dC : Nat → ClassId) (dI : Nat → Nat → Nat) (ad : Nat → Nat) (cA : Nat → ClassId) (sz : Nat) {σ : St} {a1 : Int32} {r : Int32} {σ' : St} (hF : tModel_value σ a1 = some (r, σ')) : MI l y_Model_value b_Model_value 6 (some .int) { frames := 5, cells := 0, slots := 0, locals := 111 } (dC, dI) (ttys cA) ad (tcw ad cA) [.ref (ad 11), .int a1] σ sz r σ' := by
  refine startM (own := "TinyForgeModel") (Qc := fun A => QI (dC, dI) (ttys cA) (tcw ad cA) A r σ') rfl rfl (Nat.le_of_ble_eq_true rfl) ?_
  intro p e s m below meth c A H locs ls X hP hD hS hl
  have hl : lv_has ls 6 [(0, .ref (ad 11)), (1, .int a1)] := hl
  obtain ⟨hx, hb, hr, hml, hown, hlocks, hts, hA, hK, hZ⟩ := id X
  unfold tModel_value at hF
  refine lv_aload_n hx hb d_Model_value_0 rfl (lv_at hl 0 rfl) ?_
  refine lv_iconst (v := 0) hx hb d_Model_value_1 (by decide) ?_
  refine va_put (D := (dC, dI)) (ci := 11) (v := .int 0) (ty := .int) hx hb hts i_Model t_Model t_Model_ok n_Model hown hK hP hD hS 11 rfl rfl 33 (by decide) (hts _ w_270be961d1) (fun _ h9 => h9) rfl (by decide +kernel) rfl rfl (Nat.le_of_ble_eq_true rfl) d_Model_value_2 (fun H locs hP hD hS => ?_)
  have hP : va_P (dC, dI) vwCl (tcw ad cA (sI σ 40 0)) H := hP
  have hD : va_D A (tcw ad cA (sI σ 40 0)) := hD
  refine lv_aload_n hx hb d_Model_value_5 rfl (lv_at hl 0 rfl) ?_
  refine lv_iconst (v := 0) hx hb d_Model_value_6 (by decide) ?_
  refine va_put (D := (dC, dI)) (ci := 11) (v := .int 0) (ty := .int) hx hb hts i_Model t_Model t_Model_ok n_Model hown hK hP hD hS 11 rfl rfl 34 (by decide) (hts _ w_98d35192b7) (fun _ h9 => h9) rfl (by decide +kernel) rfl rfl (Nat.le_of_ble_eq_true rfl) d_Model_value_7 (fun H locs hP hD hS => ?_)
  have hP : va_P (dC, dI) vwCl (tcw ad cA (sI (sI σ 40 0) 41 0)) H := hP
  have hD : va_D A (tcw ad cA (sI (sI σ 40 0) 41 0)) := hD
  refine lv_iload_n hx hb d_Model_value_10 rfl (lv_at hl 1 rfl) ?_
  refine lv_if_ge (tgt := 18) hx hb d_Model_value_11 (by decide) (fun c_1 => ?_) (fun c_1 => ?_)
  · have hF := ifp hF c_1
    refine lv_iconst (v := 0) hx hb d_Model_value_18 (by decide) ?_
    exact (tModel_value_blk l dC dI ad cA X 2000).1 (sI (sI σ 40 0) 41 0) a1 0 0 0 H locs ls hF hP hD hS (lv_sub hl [0, 1] rfl)
  · have hF := ifn hF c_1
    refine lv_iconst (v := 1) hx hb d_Model_value_14 (by decide) ?_
    refine lv_goto (tgt := 19) hx hb d_Model_value_15 (by decide) ?_
    exact (tModel_value_blk l dC dI ad cA X 2000).1 (sI (sI σ 40 0) 41 0) a1 1 0 0 H locs ls hF hP hD hS (lv_sub hl [0, 1] rfl)
theorem d_Model_inBrackets_0 : decode b_Model_inBrackets 0 = .ok (.aload_n 0, 1) := by decide +kernel
theorem d_Model_inBrackets_1 : decode b_Model_inBrackets 1 = .ok (.dup, 1) := by decide +kernel
theorem d_Model_inBrackets_2 : decode b_Model_inBrackets 2 = .ok (.getfield 184, 3) := by decide +kernel
theorem d_Model_inBrackets_5 : decode b_Model_inBrackets 5 = .ok (.iconst 1, 1) := by decide +kernel
theorem d_Model_inBrackets_6 : decode b_Model_inBrackets 6 = .ok (.iadd, 1) := by decide +kernel
theorem d_Model_inBrackets_7 : decode b_Model_inBrackets 7 = .ok (.putfield 184, 3) := by decide +kernel
theorem d_Model_inBrackets_10 : decode b_Model_inBrackets 10 = .ok (.aload_n 0, 1) := by decide +kernel
theorem d_Model_inBrackets_11 : decode b_Model_inBrackets 11 = .ok (.ldc2_w 239, 3) := by decide +kernel
theorem d_Model_inBrackets_14 : decode b_Model_inBrackets 14 = .ok (.invokevirtual 190, 3) := by decide +kernel
theorem d_Model_inBrackets_17 : decode b_Model_inBrackets 17 = .ok (.ifCond .eq 10, 3) := by decide +kernel
theorem d_Model_inBrackets_20 : decode b_Model_inBrackets 20 = .ok (.aload_n 0, 1) := by decide +kernel
theorem d_Model_inBrackets_21 : decode b_Model_inBrackets 21 = .ok (.invokevirtual 233, 3) := by decide +kernel
theorem d_Model_inBrackets_24 : decode b_Model_inBrackets 24 = .ok (.goto 7, 3) := by decide +kernel
theorem d_Model_inBrackets_27 : decode b_Model_inBrackets 27 = .ok (.aload_n 0, 1) := by decide +kernel
theorem d_Model_inBrackets_28 : decode b_Model_inBrackets 28 = .ok (.invokevirtual 194, 3) := by decide +kernel
theorem d_Model_inBrackets_31 : decode b_Model_inBrackets 31 = .ok (.aload_n 0, 1) := by decide +kernel
theorem d_Model_inBrackets_32 : decode b_Model_inBrackets 32 = .ok (.iconst (-1), 1) := by decide +kernel
theorem d_Model_inBrackets_33 : decode b_Model_inBrackets 33 = .ok (.invokevirtual 296, 3) := by decide +kernel
theorem d_Model_inBrackets_36 : decode b_Model_inBrackets 36 = .ok (.istore_n 1, 1) := by decide +kernel
theorem d_Model_inBrackets_37 : decode b_Model_inBrackets 37 = .ok (.aload_n 0, 1) := by decide +kernel
theorem d_Model_inBrackets_38 : decode b_Model_inBrackets 38 = .ok (.ldc2_w 244, 3) := by decide +kernel
theorem d_Model_inBrackets_41 : decode b_Model_inBrackets 41 = .ok (.invokevirtual 190, 3) := by decide +kernel
theorem d_Model_inBrackets_44 : decode b_Model_inBrackets 44 = .ok (.ifCond .ne 7, 3) := by decide +kernel
theorem d_Model_inBrackets_47 : decode b_Model_inBrackets 47 = .ok (.aload_n 0, 1) := by decide +kernel
theorem d_Model_inBrackets_48 : decode b_Model_inBrackets 48 = .ok (.invokevirtual 194, 3) := by decide +kernel
theorem d_Model_inBrackets_51 : decode b_Model_inBrackets 51 = .ok (.aload_n 0, 1) := by decide +kernel
theorem d_Model_inBrackets_52 : decode b_Model_inBrackets 52 = .ok (.dup, 1) := by decide +kernel
theorem d_Model_inBrackets_53 : decode b_Model_inBrackets 53 = .ok (.getfield 197, 3) := by decide +kernel
theorem d_Model_inBrackets_56 : decode b_Model_inBrackets 56 = .ok (.iconst 1, 1) := by decide +kernel
theorem d_Model_inBrackets_57 : decode b_Model_inBrackets 57 = .ok (.isub, 1) := by decide +kernel
theorem d_Model_inBrackets_58 : decode b_Model_inBrackets 58 = .ok (.putfield 197, 3) := by decide +kernel
theorem d_Model_inBrackets_61 : decode b_Model_inBrackets 61 = .ok (.iload_n 1, 1) := by decide +kernel
theorem d_Model_inBrackets_62 : decode b_Model_inBrackets 62 = .ok (.ireturn, 1) := by decide +kernel
def tModel_inBrackets_b1 (k : Nat → St → Int32 → Option (Int32 × St)) (σ : St) (x1 : Int32) : Option (Int32 × St) := b2 (tModel_value σ (-1)) (fun r5 u5 => b1 (tModel_sees u5 41) (fun r6 => if r6 = 0 then b1 (tModel_spoil u5) (fun u8 => k 2 u8 r5) else k 2 u5 r5))
def tModel_inBrackets_b2 (k : Nat → St → Int32 → Option (Int32 × St)) (σ : St) (x1 : Int32) : Option (Int32 × St) := some (x1, (sI σ 32 ((σ.1 32) - 1)))
def tModel_inBrackets_L : Nat → Nat → St → Int32 → Option (Int32 × St)
  | 0, _, _, _ => none
  | n + 1, lab, σ, x1 => match lab with
    | 1 => tModel_inBrackets_b1 (tModel_inBrackets_L n) σ x1
    | 2 => tModel_inBrackets_b2 (tModel_inBrackets_L n) σ x1
    | _ => none
def tModel_inBrackets (σ : St) : Option (Int32 × St) := b1 (tModel_sees (sI σ 31 ((σ.1 31) + 1)) 40) (fun r1 => if r1 = 0 then b1 (tModel_spoil (sI σ 31 ((σ.1 31) + 1))) (fun u3 => tModel_inBrackets_L 2000 1 u3 0) else b1 (tModel_opens (sI σ 31 ((σ.1 31) + 1))) (fun u4 => tModel_inBrackets_L 2000 1 u4 0))
set_option maxHeartbeats 4000000 in
set_option maxRecDepth 100000 in
theorem tModel_inBrackets_blk {p : Program} {e : Env} {s : State} {m : MethodId} {args : Array Value} {below : List Frame} {meth : Method} {c : Code} {A : Nat → Prop} (l : Launch) (dC : Nat → ClassId) (dI : Nat → Nat → Nat) (ad : Nat → Nat) (cA : Nat → ClassId) {r : Int32} {σ' : St} (X : Cx p s m args meth c b_Model_inBrackets 2 (some .int) "TinyForgeModel" (dC, dI) (ttys cA) ad A) : ∀ n : Nat, (∀ (σ : St) (x1 : Int32) (H : Heap) (locs : List Loc) (ls : Array Slot), tModel_inBrackets_L n 1 σ x1 = some (r, σ') → va_P (dC, dI) vwCl (tcw ad cA σ) H → va_D A (tcw ad cA σ) → va_S A s.heap H locs → lv_has ls 2 [(0, .ref (ad 11))] → W p l e { frames := 6, cells := 0, slots := 0, locals := 136 } s m args below meth c H locs 0 0 (MQ below (QI (dC, dI) (ttys cA) (tcw ad cA) A r σ') args s 0 0 A) (F0 m 31 ls [])) ∧ (∀ (σ : St) (x1 : Int32) (H : Heap) (locs : List Loc) (ls : Array Slot), tModel_inBrackets_L n 2 σ x1 = some (r, σ') → va_P (dC, dI) vwCl (tcw ad cA σ) H → va_D A (tcw ad cA σ) → va_S A s.heap H locs → lv_has ls 2 [(0, .ref (ad 11)), (1, .int x1)] → W p l e { frames := 6, cells := 0, slots := 0, locals := 136 } s m args below meth c H locs 0 0 (MQ below (QI (dC, dI) (ttys cA) (tcw ad cA) A r σ') args s 0 0 A) (F0 m 51 ls [])) := by
  obtain ⟨hx, hb, hr, hml, hown, hlocks, hts, hA, hK, hZ⟩ := id X
  intro n
  induction n with
  | zero => exact ⟨(fun σ x1 H locs ls hF => by cases hF), (fun σ x1 H locs ls hF => by cases hF)⟩
  | succ n ihn =>
    refine ⟨fun σ x1 H locs ls hF hP hD hS hl => ?_, fun σ x1 H locs ls hF hP hD hS hl => ?_⟩
    · have hF : tModel_inBrackets_b1 (tModel_inBrackets_L n) σ x1 = some (r, σ') := hF
      unfold tModel_inBrackets_b1 at hF
      refine lv_aload_n hx hb d_Model_inBrackets_31 rfl (lv_at hl 0 rfl) ?_
      refine lv_iconst (v := (-1)) hx hb d_Model_inBrackets_32 (by decide) ?_
      obtain ⟨r5, u5, h5, hF⟩ := b2E hF
      refine callVI (As := [.int (-1)]) X (ct_Model_value l dC dI ad cA H.size h5) lk_Model_296 ⟨rfl, rfl, by decide, by decide⟩ 11 rfl rfl hP hD hS hl.1 rfl rfl (Nat.le_of_ble_eq_true rfl) d_Model_inBrackets_33 (fun H locs hP hD hS => ?_)
      refine lv_istore_n (lv' := [(1, .int r5), (0, .ref (ad 11))]) hx hb d_Model_inBrackets_36 rfl hl (by decide) rfl (fun ls hl => ?_)
      refine lv_aload_n hx hb d_Model_inBrackets_37 rfl (lv_at hl 1 rfl) ?_
      refine lv_ldc2 (v := 41) hx hb hown (hts _ w_c6b9d4f3a9) d_Model_inBrackets_38 ?_
      obtain ⟨r6, h6, hF⟩ := b1E hF
      refine callVI (As := [.long 41]) X (ct_Model_sees l dC dI ad cA H.size h6) lk_Model_190 ⟨rfl, rfl, by decide, by decide⟩ 11 rfl rfl hP hD hS hl.1 rfl rfl (Nat.le_of_ble_eq_true rfl) d_Model_inBrackets_41 (fun H locs hP hD hS => ?_)
      refine lv_if_ne (tgt := 51) hx hb d_Model_inBrackets_44 (by decide) (fun c_7 => ?_) (fun c_7 => ?_)
      · have hF := ifn hF c_7
        exact ihn.2 u5 r5 H locs ls hF hP hD hS (lv_sub hl [1, 0] rfl)
      · have hF := ifp hF c_7
        refine lv_aload_n hx hb d_Model_inBrackets_47 rfl (lv_at hl 1 rfl) ?_
        obtain ⟨u8, h8, hF⟩ := b1E hF
        refine callVV (As := []) X (ct_Model_spoil l dC dI ad cA H.size h8) lk_Model_194 ⟨rfl, rfl, by decide, by decide⟩ 11 rfl rfl hP hD hS hl.1 rfl rfl (Nat.le_of_ble_eq_true rfl) d_Model_inBrackets_48 (fun H locs hP hD hS => ?_)
        exact ihn.2 u8 r5 H locs ls hF hP hD hS (lv_sub hl [1, 0] rfl)
    · have hF : tModel_inBrackets_b2 (tModel_inBrackets_L n) σ x1 = some (r, σ') := hF
      unfold tModel_inBrackets_b2 at hF
      refine lv_aload_n hx hb d_Model_inBrackets_51 rfl (lv_at hl 0 rfl) ?_
      refine lv_dup hx hb d_Model_inBrackets_52 rfl ?_
      refine va_get (D := (dC, dI)) (ci := 11) (v := .int (σ.1 32)) hx hb hts i_Model hown hK hP 11 rfl rfl 7 (by decide) (hts _ w_eb874fa0f0) (fun _ h9 => h9) rfl d_Model_inBrackets_53 ?_
      refine lv_iconst (v := 1) hx hb d_Model_inBrackets_56 (by decide) ?_
      refine lv_isub hx hb d_Model_inBrackets_57 ?_
      refine va_put (D := (dC, dI)) (ci := 11) (v := .int ((σ.1 32) - 1)) (ty := .int) hx hb hts i_Model t_Model t_Model_ok n_Model hown hK hP hD hS 11 rfl rfl 7 (by decide) (hts _ w_eb874fa0f0) (fun _ h9 => h9) rfl (by decide +kernel) rfl rfl (Nat.le_of_ble_eq_true rfl) d_Model_inBrackets_58 (fun H locs hP hD hS => ?_)
      have hP : va_P (dC, dI) vwCl (tcw ad cA (sI σ 32 ((σ.1 32) - 1))) H := hP
      have hD : va_D A (tcw ad cA (sI σ 32 ((σ.1 32) - 1))) := hD
      refine lv_iload_n hx hb d_Model_inBrackets_61 rfl (lv_at hl 1 rfl) ?_
      cases hF
      exact leafI X hP hD hS d_Model_inBrackets_62
set_option maxHeartbeats 4000000 in
set_option maxRecDepth 100000 in
theorem ct_Model_inBrackets (l : Launch) (dC : Nat → ClassId) (dI : Nat → Nat → Nat) (ad : Nat → Nat) (cA : Nat → ClassId) (sz : Nat) {σ : St} {r : Int32} {σ' : St} (hF : tModel_inBrackets σ = some (r, σ')) : MI l y_Model_inBrackets b_Model_inBrackets 2 (some .int) { frames := 6, cells := 0, slots := 0, locals := 136 } (dC, dI) (ttys cA) ad (tcw ad cA) [.ref (ad 11)] σ sz r σ' := by
  refine startM (own := "TinyForgeModel") (Qc := fun A => QI (dC, dI) (ttys cA) (tcw ad cA) A r σ') rfl rfl (Nat.le_of_ble_eq_true rfl) ?_
  intro p e s m below meth c A H locs ls X hP hD hS hl
  have hl : lv_has ls 2 [(0, .ref (ad 11))] := hl
  obtain ⟨hx, hb, hr, hml, hown, hlocks, hts, hA, hK, hZ⟩ := id X
  unfold tModel_inBrackets at hF
  refine lv_aload_n hx hb d_Model_inBrackets_0 rfl (lv_at hl 0 rfl) ?_
  refine lv_dup hx hb d_Model_inBrackets_1 rfl ?_
  refine va_get (D := (dC, dI)) (ci := 11) (v := .int (σ.1 31)) hx hb hts i_Model hown hK hP 11 rfl rfl 6 (by decide) (hts _ w_13cd8e7698) (fun _ h9 => h9) rfl d_Model_inBrackets_2 ?_
  refine lv_iconst (v := 1) hx hb d_Model_inBrackets_5 (by decide) ?_
  refine lv_iadd hx hb d_Model_inBrackets_6 ?_
  refine va_put (D := (dC, dI)) (ci := 11) (v := .int ((σ.1 31) + 1)) (ty := .int) hx hb hts i_Model t_Model t_Model_ok n_Model hown hK hP hD hS 11 rfl rfl 6 (by decide) (hts _ w_13cd8e7698) (fun _ h9 => h9) rfl (by decide +kernel) rfl rfl (Nat.le_of_ble_eq_true rfl) d_Model_inBrackets_7 (fun H locs hP hD hS => ?_)
  have hP : va_P (dC, dI) vwCl (tcw ad cA (sI σ 31 ((σ.1 31) + 1))) H := hP
  have hD : va_D A (tcw ad cA (sI σ 31 ((σ.1 31) + 1))) := hD
  refine lv_aload_n hx hb d_Model_inBrackets_10 rfl (lv_at hl 0 rfl) ?_
  refine lv_ldc2 (v := 40) hx hb hown (hts _ w_8030e055df) d_Model_inBrackets_11 ?_
  obtain ⟨r1, h1, hF⟩ := b1E hF
  refine callVI (As := [.long 40]) X (ct_Model_sees l dC dI ad cA H.size h1) lk_Model_190 ⟨rfl, rfl, by decide, by decide⟩ 11 rfl rfl hP hD hS hl.1 rfl rfl (Nat.le_of_ble_eq_true rfl) d_Model_inBrackets_14 (fun H locs hP hD hS => ?_)
  refine lv_if_eq (tgt := 27) hx hb d_Model_inBrackets_17 (by decide) (fun c_2 => ?_) (fun c_2 => ?_)
  · have hF := ifp hF c_2
    refine lv_aload_n hx hb d_Model_inBrackets_27 rfl (lv_at hl 0 rfl) ?_
    obtain ⟨u3, h3, hF⟩ := b1E hF
    refine callVV (As := []) X (ct_Model_spoil l dC dI ad cA H.size h3) lk_Model_194 ⟨rfl, rfl, by decide, by decide⟩ 11 rfl rfl hP hD hS hl.1 rfl rfl (Nat.le_of_ble_eq_true rfl) d_Model_inBrackets_28 (fun H locs hP hD hS => ?_)
    exact (tModel_inBrackets_blk l dC dI ad cA X 2000).1 u3 0 H locs ls hF hP hD hS (lv_sub hl [0] rfl)
  · have hF := ifn hF c_2
    refine lv_aload_n hx hb d_Model_inBrackets_20 rfl (lv_at hl 0 rfl) ?_
    obtain ⟨u4, h4, hF⟩ := b1E hF
    refine callVV (As := []) X (ct_Model_opens l dC dI ad cA H.size h4) lk_Model_233 ⟨rfl, rfl, by decide, by decide⟩ 11 rfl rfl hP hD hS hl.1 rfl rfl (Nat.le_of_ble_eq_true rfl) d_Model_inBrackets_21 (fun H locs hP hD hS => ?_)
    refine lv_goto (tgt := 31) hx hb d_Model_inBrackets_24 (by decide) ?_
    exact (tModel_inBrackets_blk l dC dI ad cA X 2000).1 u4 0 H locs ls hF hP hD hS (lv_sub hl [0] rfl)
theorem d_Model_conditional_0 : decode b_Model_conditional 0 = .ok (.aload_n 0, 1) := by decide +kernel
theorem d_Model_conditional_1 : decode b_Model_conditional 1 = .ok (.invokevirtual 299, 3) := by decide +kernel
theorem d_Model_conditional_4 : decode b_Model_conditional 4 = .ok (.istore_n 2, 1) := by decide +kernel
theorem d_Model_conditional_5 : decode b_Model_conditional 5 = .ok (.aload_n 0, 1) := by decide +kernel
theorem d_Model_conditional_6 : decode b_Model_conditional 6 = .ok (.iload_n 1, 1) := by decide +kernel
theorem d_Model_conditional_7 : decode b_Model_conditional 7 = .ok (.iconst 0, 1) := by decide +kernel
theorem d_Model_conditional_8 : decode b_Model_conditional 8 = .ok (.iload_n 2, 1) := by decide +kernel
theorem d_Model_conditional_9 : decode b_Model_conditional 9 = .ok (.iconst (-1), 1) := by decide +kernel
theorem d_Model_conditional_10 : decode b_Model_conditional 10 = .ok (.invokevirtual 216, 3) := by decide +kernel
theorem d_Model_conditional_13 : decode b_Model_conditional 13 = .ok (.istore_n 3, 1) := by decide +kernel
theorem d_Model_conditional_14 : decode b_Model_conditional 14 = .ok (.aload_n 0, 1) := by decide +kernel
theorem d_Model_conditional_15 : decode b_Model_conditional 15 = .ok (.getfield 121, 3) := by decide +kernel
theorem d_Model_conditional_18 : decode b_Model_conditional 18 = .ok (.ifCond .ne 7, 3) := by decide +kernel
theorem d_Model_conditional_21 : decode b_Model_conditional 21 = .ok (.aload_n 0, 1) := by decide +kernel
theorem d_Model_conditional_22 : decode b_Model_conditional 22 = .ok (.invokevirtual 233, 3) := by decide +kernel
theorem d_Model_conditional_25 : decode b_Model_conditional 25 = .ok (.aload_n 0, 1) := by decide +kernel
theorem d_Model_conditional_26 : decode b_Model_conditional 26 = .ok (.iload_n 3, 1) := by decide +kernel
theorem d_Model_conditional_27 : decode b_Model_conditional 27 = .ok (.invokevirtual 293, 3) := by decide +kernel
theorem d_Model_conditional_30 : decode b_Model_conditional 30 = .ok (.return_, 1) := by decide +kernel
def tModel_conditional (σ : St) (a1 : Int32) : Option (St) := b2 (tModel_inBrackets σ) (fun r1 u1 => b2 (tModel_node u1 a1 0 r1 (-1)) (fun r2 u2 => if (u2.1 29) = 0 then b1 (tModel_opens u2) (fun u5 => b1 (tModel_begin u5 r2) (fun u6 => some u6)) else b1 (tModel_begin u2 r2) (fun u4 => some u4)))
set_option maxHeartbeats 4000000 in
set_option maxRecDepth 100000 in
theorem ct_Model_conditional (l : Launch) (dC : Nat → ClassId) (dI : Nat → Nat → Nat) (ad : Nat → Nat) (cA : Nat → ClassId) (sz : Nat) {σ : St} {a1 : Int32} {σ' : St} (hF : tModel_conditional σ a1 = some σ') : MV l y_Model_conditional b_Model_conditional 4 none { frames := 7, cells := 0, slots := 0, locals := 157 } (dC, dI) (ttys cA) ad (tcw ad cA) [.ref (ad 11), .int a1] σ sz σ' := by
  refine startM (own := "TinyForgeModel") (Qc := fun A => QV (dC, dI) (ttys cA) (tcw ad cA) A σ') rfl rfl (Nat.le_of_ble_eq_true rfl) ?_
  intro p e s m below meth c A H locs ls X hP hD hS hl
  have hl : lv_has ls 4 [(0, .ref (ad 11)), (1, .int a1)] := hl
  obtain ⟨hx, hb, hr, hml, hown, hlocks, hts, hA, hK, hZ⟩ := id X
  unfold tModel_conditional at hF
  refine lv_aload_n hx hb d_Model_conditional_0 rfl (lv_at hl 0 rfl) ?_
  obtain ⟨r1, u1, h1, hF⟩ := b2E hF
  refine callVI (As := []) X (ct_Model_inBrackets l dC dI ad cA H.size h1) lk_Model_299 ⟨rfl, rfl, by decide, by decide⟩ 11 rfl rfl hP hD hS hl.1 rfl rfl (Nat.le_of_ble_eq_true rfl) d_Model_conditional_1 (fun H locs hP hD hS => ?_)
  refine lv_istore_n (lv' := [(2, .int r1), (0, .ref (ad 11)), (1, .int a1)]) hx hb d_Model_conditional_4 rfl hl (by decide) rfl (fun ls hl => ?_)
  refine lv_aload_n hx hb d_Model_conditional_5 rfl (lv_at hl 1 rfl) ?_
  refine lv_iload_n hx hb d_Model_conditional_6 rfl (lv_at hl 2 rfl) ?_
  refine lv_iconst (v := 0) hx hb d_Model_conditional_7 (by decide) ?_
  refine lv_iload_n hx hb d_Model_conditional_8 rfl (lv_at hl 0 rfl) ?_
  refine lv_iconst (v := (-1)) hx hb d_Model_conditional_9 (by decide) ?_
  obtain ⟨r2, u2, h2, hF⟩ := b2E hF
  refine callVI (As := [.int a1, .int 0, .int r1, .int (-1)]) X (ct_Model_node l dC dI ad cA H.size h2) lk_Model_216 ⟨rfl, rfl, by decide, by decide⟩ 11 rfl rfl hP hD hS hl.1 rfl rfl (Nat.le_of_ble_eq_true rfl) d_Model_conditional_10 (fun H locs hP hD hS => ?_)
  refine lv_istore_n (lv' := [(3, .int r2), (2, .int r1), (0, .ref (ad 11)), (1, .int a1)]) hx hb d_Model_conditional_13 rfl hl (by decide) rfl (fun ls hl => ?_)
  refine lv_aload_n hx hb d_Model_conditional_14 rfl (lv_at hl 2 rfl) ?_
  refine va_get (D := (dC, dI)) (ci := 11) (v := .int (u2.1 29)) hx hb hts i_Model hown hK hP 11 rfl rfl 4 (by decide) (hts _ w_0464dc4398) (fun _ h9 => h9) rfl d_Model_conditional_15 ?_
  refine lv_if_ne (tgt := 25) hx hb d_Model_conditional_18 (by decide) (fun c_3 => ?_) (fun c_3 => ?_)
  · have hF := ifn hF c_3
    refine lv_aload_n hx hb d_Model_conditional_25 rfl (lv_at hl 2 rfl) ?_
    refine lv_iload_n hx hb d_Model_conditional_26 rfl (lv_at hl 0 rfl) ?_
    obtain ⟨u4, h4, hF⟩ := b1E hF
    refine callVV (As := [.int r2]) X (ct_Model_begin l dC dI ad cA H.size h4) lk_Model_293 ⟨rfl, rfl, by decide, by decide⟩ 11 rfl rfl hP hD hS hl.1 rfl rfl (Nat.le_of_ble_eq_true rfl) d_Model_conditional_27 (fun H locs hP hD hS => ?_)
    cases hF
    exact leafV X hP hD hS d_Model_conditional_30
  · have hF := ifp hF c_3
    refine lv_aload_n hx hb d_Model_conditional_21 rfl (lv_at hl 2 rfl) ?_
    obtain ⟨u5, h5, hF⟩ := b1E hF
    refine callVV (As := []) X (ct_Model_opens l dC dI ad cA H.size h5) lk_Model_233 ⟨rfl, rfl, by decide, by decide⟩ 11 rfl rfl hP hD hS hl.1 rfl rfl (Nat.le_of_ble_eq_true rfl) d_Model_conditional_22 (fun H locs hP hD hS => ?_)
    refine lv_aload_n hx hb d_Model_conditional_25 rfl (lv_at hl 2 rfl) ?_
    refine lv_iload_n hx hb d_Model_conditional_26 rfl (lv_at hl 0 rfl) ?_
    obtain ⟨u6, h6, hF⟩ := b1E hF
    refine callVV (As := [.int r2]) X (ct_Model_begin l dC dI ad cA H.size h6) lk_Model_293 ⟨rfl, rfl, by decide, by decide⟩ 11 rfl rfl hP hD hS hl.1 rfl rfl (Nat.le_of_ble_eq_true rfl) d_Model_conditional_27 (fun H locs hP hD hS => ?_)
    cases hF
    exact leafV X hP hD hS d_Model_conditional_30
theorem d_Model_empty_0 : decode b_Model_empty 0 = .ok (.aload_n 0, 1) := by decide +kernel
theorem d_Model_empty_1 : decode b_Model_empty 1 = .ok (.iconst 0, 1) := by decide +kernel
theorem d_Model_empty_2 : decode b_Model_empty 2 = .ok (.putfield 103, 3) := by decide +kernel
theorem d_Model_empty_5 : decode b_Model_empty 5 = .ok (.aload_n 0, 1) := by decide +kernel
theorem d_Model_empty_6 : decode b_Model_empty 6 = .ok (.getfield 398, 3) := by decide +kernel
theorem d_Model_empty_9 : decode b_Model_empty 9 = .ok (.istore_n 1, 1) := by decide +kernel
theorem d_Model_empty_10 : decode b_Model_empty 10 = .ok (.aload_n 0, 1) := by decide +kernel
theorem d_Model_empty_11 : decode b_Model_empty 11 = .ok (.iconst 0, 1) := by decide +kernel
theorem d_Model_empty_12 : decode b_Model_empty 12 = .ok (.putfield 398, 3) := by decide +kernel
theorem d_Model_empty_15 : decode b_Model_empty 15 = .ok (.iload_n 1, 1) := by decide +kernel
theorem d_Model_empty_16 : decode b_Model_empty 16 = .ok (.ireturn, 1) := by decide +kernel
def tModel_empty (σ : St) : Option (Int32 × St) := some ((σ.1 45), (sI (sI σ 26 0) 45 0))
set_option maxHeartbeats 4000000 in
set_option maxRecDepth 100000 in
theorem ct_Model_empty (l : Launch) (dC : Nat → ClassId) (dI : Nat → Nat → Nat) (ad : Nat → Nat) (cA : Nat → ClassId) (sz : Nat) {σ : St} {r : Int32} {σ' : St} (hF : tModel_empty σ = some (r, σ')) : MI l y_Model_empty b_Model_empty 2 (some .int) { frames := 0, cells := 0, slots := 0, locals := 0 } (dC, dI) (ttys cA) ad (tcw ad cA) [.ref (ad 11)] σ sz r σ' := by
  refine startM (own := "TinyForgeModel") (Qc := fun A => QI (dC, dI) (ttys cA) (tcw ad cA) A r σ') rfl rfl (Nat.le_of_ble_eq_true rfl) ?_
  intro p e s m below meth c A H locs ls X hP hD hS hl
  have hl : lv_has ls 2 [(0, .ref (ad 11))] := hl
  obtain ⟨hx, hb, hr, hml, hown, hlocks, hts, hA, hK, hZ⟩ := id X
  unfold tModel_empty at hF
  refine lv_aload_n hx hb d_Model_empty_0 rfl (lv_at hl 0 rfl) ?_
  refine lv_iconst (v := 0) hx hb d_Model_empty_1 (by decide) ?_
  refine va_put (D := (dC, dI)) (ci := 11) (v := .int 0) (ty := .int) hx hb hts i_Model t_Model t_Model_ok n_Model hown hK hP hD hS 11 rfl rfl 0 (by decide) (hts _ w_06eb2805f0) (fun _ h9 => h9) rfl (by decide +kernel) rfl rfl (Nat.le_of_ble_eq_true rfl) d_Model_empty_2 (fun H locs hP hD hS => ?_)
  have hP : va_P (dC, dI) vwCl (tcw ad cA (sI σ 26 0)) H := hP
  have hD : va_D A (tcw ad cA (sI σ 26 0)) := hD
  refine lv_aload_n hx hb d_Model_empty_5 rfl (lv_at hl 0 rfl) ?_
  refine va_get (D := (dC, dI)) (ci := 11) (v := .int (σ.1 45)) hx hb hts i_Model hown hK hP 11 rfl rfl 41 (by decide) (hts _ w_bd13b37505) (fun _ h9 => h9) rfl d_Model_empty_6 ?_
  refine lv_istore_n (lv' := [(1, .int (σ.1 45)), (0, .ref (ad 11))]) hx hb d_Model_empty_9 rfl hl (by decide) rfl (fun ls hl => ?_)
  refine lv_aload_n hx hb d_Model_empty_10 rfl (lv_at hl 1 rfl) ?_
  refine lv_iconst (v := 0) hx hb d_Model_empty_11 (by decide) ?_
  refine va_put (D := (dC, dI)) (ci := 11) (v := .int 0) (ty := .int) hx hb hts i_Model t_Model t_Model_ok n_Model hown hK hP hD hS 11 rfl rfl 41 (by decide) (hts _ w_bd13b37505) (fun _ h9 => h9) rfl (by decide +kernel) rfl rfl (Nat.le_of_ble_eq_true rfl) d_Model_empty_12 (fun H locs hP hD hS => ?_)
  have hP : va_P (dC, dI) vwCl (tcw ad cA (sI (sI σ 26 0) 45 0)) H := hP
  have hD : va_D A (tcw ad cA (sI (sI σ 26 0) 45 0)) := hD
  refine lv_iload_n hx hb d_Model_empty_15 rfl (lv_at hl 0 rfl) ?_
  cases hF
  exact leafI X hP hD hS d_Model_empty_16
theorem d_Model_whole_0 : decode b_Model_whole 0 = .ok (.iload_n 1, 1) := by decide +kernel
theorem d_Model_whole_1 : decode b_Model_whole 1 = .ok (.istore_n 2, 1) := by decide +kernel
theorem d_Model_whole_2 : decode b_Model_whole 2 = .ok (.iconst 1, 1) := by decide +kernel
theorem d_Model_whole_3 : decode b_Model_whole 3 = .ok (.istore_n 3, 1) := by decide +kernel
theorem d_Model_whole_4 : decode b_Model_whole 4 = .ok (.iload_n 3, 1) := by decide +kernel
theorem d_Model_whole_5 : decode b_Model_whole 5 = .ok (.ifCond .eq 177, 3) := by decide +kernel
theorem d_Model_whole_8 : decode b_Model_whole 8 = .ok (.aload_n 0, 1) := by decide +kernel
theorem d_Model_whole_9 : decode b_Model_whole 9 = .ok (.getfield 290, 3) := by decide +kernel
theorem d_Model_whole_12 : decode b_Model_whole 12 = .ok (.ifCond .le 170, 3) := by decide +kernel
theorem d_Model_whole_15 : decode b_Model_whole 15 = .ok (.aload_n 0, 1) := by decide +kernel
theorem d_Model_whole_16 : decode b_Model_whole 16 = .ok (.getfield 121, 3) := by decide +kernel
theorem d_Model_whole_19 : decode b_Model_whole 19 = .ok (.ifCond .ne 163, 3) := by decide +kernel
theorem d_Model_whole_22 : decode b_Model_whole 22 = .ok (.aload_n 0, 1) := by decide +kernel
theorem d_Model_whole_23 : decode b_Model_whole 23 = .ok (.getfield 79, 3) := by decide +kernel
theorem d_Model_whole_26 : decode b_Model_whole 26 = .ok (.aload_n 0, 1) := by decide +kernel
theorem d_Model_whole_27 : decode b_Model_whole 27 = .ok (.getfield 290, 3) := by decide +kernel
theorem d_Model_whole_30 : decode b_Model_whole 30 = .ok (.iconst 1, 1) := by decide +kernel
theorem d_Model_whole_31 : decode b_Model_whole 31 = .ok (.isub, 1) := by decide +kernel
theorem d_Model_whole_32 : decode b_Model_whole 32 = .ok (.iaload, 1) := by decide +kernel
theorem d_Model_whole_33 : decode b_Model_whole 33 = .ok (.istore 4, 2) := by decide +kernel
theorem d_Model_whole_35 : decode b_Model_whole 35 = .ok (.aload_n 0, 1) := by decide +kernel
theorem d_Model_whole_36 : decode b_Model_whole 36 = .ok (.getfield 30, 3) := by decide +kernel
theorem d_Model_whole_39 : decode b_Model_whole 39 = .ok (.iload 4, 2) := by decide +kernel
theorem d_Model_whole_41 : decode b_Model_whole 41 = .ok (.iaload, 1) := by decide +kernel
theorem d_Model_whole_42 : decode b_Model_whole 42 = .ok (.bipush 10, 2) := by decide +kernel
theorem d_Model_whole_44 : decode b_Model_whole 44 = .ok (.if_icmp .ne 15, 3) := by decide +kernel
theorem d_Model_whole_47 : decode b_Model_whole 47 = .ok (.aload_n 0, 1) := by decide +kernel
theorem d_Model_whole_48 : decode b_Model_whole 48 = .ok (.iload 4, 2) := by decide +kernel
theorem d_Model_whole_50 : decode b_Model_whole 50 = .ok (.iload_n 2, 1) := by decide +kernel
theorem d_Model_whole_51 : decode b_Model_whole 51 = .ok (.invokevirtual 269, 3) := by decide +kernel
theorem d_Model_whole_54 : decode b_Model_whole 54 = .ok (.iconst 0, 1) := by decide +kernel
theorem d_Model_whole_55 : decode b_Model_whole 55 = .ok (.istore_n 3, 1) := by decide +kernel
theorem d_Model_whole_56 : decode b_Model_whole 56 = .ok (.goto 123, 3) := by decide +kernel
theorem d_Model_whole_59 : decode b_Model_whole 59 = .ok (.aload_n 0, 1) := by decide +kernel
theorem d_Model_whole_60 : decode b_Model_whole 60 = .ok (.dup, 1) := by decide +kernel
theorem d_Model_whole_61 : decode b_Model_whole 61 = .ok (.getfield 197, 3) := by decide +kernel
theorem d_Model_whole_64 : decode b_Model_whole 64 = .ok (.iconst 1, 1) := by decide +kernel
theorem d_Model_whole_65 : decode b_Model_whole 65 = .ok (.isub, 1) := by decide +kernel
theorem d_Model_whole_66 : decode b_Model_whole 66 = .ok (.putfield 197, 3) := by decide +kernel
theorem d_Model_whole_69 : decode b_Model_whole 69 = .ok (.aload_n 0, 1) := by decide +kernel
theorem d_Model_whole_70 : decode b_Model_whole 70 = .ok (.getfield 30, 3) := by decide +kernel
theorem d_Model_whole_73 : decode b_Model_whole 73 = .ok (.iload 4, 2) := by decide +kernel
theorem d_Model_whole_75 : decode b_Model_whole 75 = .ok (.iaload, 1) := by decide +kernel
theorem d_Model_whole_76 : decode b_Model_whole 76 = .ok (.bipush 13, 2) := by decide +kernel
theorem d_Model_whole_78 : decode b_Model_whole 78 = .ok (.if_icmp .ne 17, 3) := by decide +kernel
theorem d_Model_whole_81 : decode b_Model_whole 81 = .ok (.aload_n 0, 1) := by decide +kernel
theorem d_Model_whole_82 : decode b_Model_whole 82 = .ok (.getfield 39, 3) := by decide +kernel
theorem d_Model_whole_85 : decode b_Model_whole 85 = .ok (.iload 4, 2) := by decide +kernel
theorem d_Model_whole_87 : decode b_Model_whole 87 = .ok (.iaload, 1) := by decide +kernel
theorem d_Model_whole_88 : decode b_Model_whole 88 = .ok (.ifCond .ge 7, 3) := by decide +kernel
theorem d_Model_whole_91 : decode b_Model_whole 91 = .ok (.iconst 1, 1) := by decide +kernel
theorem d_Model_whole_92 : decode b_Model_whole 92 = .ok (.goto 4, 3) := by decide +kernel
theorem d_Model_whole_95 : decode b_Model_whole 95 = .ok (.iconst 0, 1) := by decide +kernel
theorem d_Model_whole_96 : decode b_Model_whole 96 = .ok (.istore 5, 2) := by decide +kernel
theorem d_Model_whole_98 : decode b_Model_whole 98 = .ok (.aload_n 0, 1) := by decide +kernel
theorem d_Model_whole_99 : decode b_Model_whole 99 = .ok (.getfield 30, 3) := by decide +kernel
theorem d_Model_whole_102 : decode b_Model_whole 102 = .ok (.iload 4, 2) := by decide +kernel
theorem d_Model_whole_104 : decode b_Model_whole 104 = .ok (.iaload, 1) := by decide +kernel
theorem d_Model_whole_105 : decode b_Model_whole 105 = .ok (.bipush 13, 2) := by decide +kernel
theorem d_Model_whole_107 : decode b_Model_whole 107 = .ok (.if_icmp .ne 19, 3) := by decide +kernel
theorem d_Model_whole_110 : decode b_Model_whole 110 = .ok (.iload 5, 2) := by decide +kernel
theorem d_Model_whole_112 : decode b_Model_whole 112 = .ok (.ifCond .ne 14, 3) := by decide +kernel
theorem d_Model_whole_115 : decode b_Model_whole 115 = .ok (.aload_n 0, 1) := by decide +kernel
theorem d_Model_whole_116 : decode b_Model_whole 116 = .ok (.getfield 42, 3) := by decide +kernel
theorem d_Model_whole_119 : decode b_Model_whole 119 = .ok (.iload 4, 2) := by decide +kernel
theorem d_Model_whole_121 : decode b_Model_whole 121 = .ok (.iload_n 2, 1) := by decide +kernel
theorem d_Model_whole_122 : decode b_Model_whole 122 = .ok (.iastore, 1) := by decide +kernel
theorem d_Model_whole_123 : decode b_Model_whole 123 = .ok (.goto 11, 3) := by decide +kernel
theorem d_Model_whole_126 : decode b_Model_whole 126 = .ok (.aload_n 0, 1) := by decide +kernel
theorem d_Model_whole_127 : decode b_Model_whole 127 = .ok (.getfield 39, 3) := by decide +kernel
theorem d_Model_whole_130 : decode b_Model_whole 130 = .ok (.iload 4, 2) := by decide +kernel
theorem d_Model_whole_132 : decode b_Model_whole 132 = .ok (.iload_n 2, 1) := by decide +kernel
theorem d_Model_whole_133 : decode b_Model_whole 133 = .ok (.iastore, 1) := by decide +kernel
theorem d_Model_whole_134 : decode b_Model_whole 134 = .ok (.iload 5, 2) := by decide +kernel
theorem d_Model_whole_136 : decode b_Model_whole 136 = .ok (.ifCond .eq 13, 3) := by decide +kernel
theorem d_Model_whole_139 : decode b_Model_whole 139 = .ok (.aload_n 0, 1) := by decide +kernel
theorem d_Model_whole_140 : decode b_Model_whole 140 = .ok (.ldc2_w 174, 3) := by decide +kernel
theorem d_Model_whole_143 : decode b_Model_whole 143 = .ok (.invokevirtual 190, 3) := by decide +kernel
theorem d_Model_whole_146 : decode b_Model_whole 146 = .ok (.ifCond .ne 7, 3) := by decide +kernel
theorem d_Model_whole_149 : decode b_Model_whole 149 = .ok (.iconst 1, 1) := by decide +kernel
theorem d_Model_whole_150 : decode b_Model_whole 150 = .ok (.goto 4, 3) := by decide +kernel
theorem d_Model_whole_153 : decode b_Model_whole 153 = .ok (.iconst 0, 1) := by decide +kernel
theorem d_Model_whole_154 : decode b_Model_whole 154 = .ok (.istore_n 3, 1) := by decide +kernel
theorem d_Model_whole_155 : decode b_Model_whole 155 = .ok (.iload_n 3, 1) := by decide +kernel
theorem d_Model_whole_156 : decode b_Model_whole 156 = .ok (.ifCond .eq 16, 3) := by decide +kernel
theorem d_Model_whole_159 : decode b_Model_whole 159 = .ok (.aload_n 0, 1) := by decide +kernel
theorem d_Model_whole_160 : decode b_Model_whole 160 = .ok (.dup, 1) := by decide +kernel
theorem d_Model_whole_161 : decode b_Model_whole 161 = .ok (.getfield 290, 3) := by decide +kernel
theorem d_Model_whole_164 : decode b_Model_whole 164 = .ok (.iconst 1, 1) := by decide +kernel
theorem d_Model_whole_165 : decode b_Model_whole 165 = .ok (.isub, 1) := by decide +kernel
theorem d_Model_whole_166 : decode b_Model_whole 166 = .ok (.putfield 290, 3) := by decide +kernel
theorem d_Model_whole_169 : decode b_Model_whole 169 = .ok (.goto 7, 3) := by decide +kernel
theorem d_Model_whole_172 : decode b_Model_whole 172 = .ok (.aload_n 0, 1) := by decide +kernel
theorem d_Model_whole_173 : decode b_Model_whole 173 = .ok (.invokevirtual 233, 3) := by decide +kernel
theorem d_Model_whole_176 : decode b_Model_whole 176 = .ok (.iload 4, 2) := by decide +kernel
theorem d_Model_whole_178 : decode b_Model_whole 178 = .ok (.istore_n 2, 1) := by decide +kernel
theorem d_Model_whole_179 : decode b_Model_whole 179 = .ok (.goto (-175), 3) := by decide +kernel
theorem d_Model_whole_182 : decode b_Model_whole 182 = .ok (.return_, 1) := by decide +kernel
def tModel_whole_b1 (k : Nat → St → Int32 → Int32 → Int32 → Option (St)) (σ : St) (x1 : Int32) (x2 : Int32) (x3 : Int32) : Option (St) := if x2 = 0 then some σ else if (σ.1 42) ≤ 0 then some σ else if (σ.1 29) = 0 then gd (inB ((σ.1 42) - 1) 60) (gd (inB ((σ.2.2.1 36) ((σ.1 42) - 1).toNatClampNeg) 500) (if ((σ.2.2.1 20) ((σ.2.2.1 36) ((σ.1 42) - 1).toNatClampNeg).toNatClampNeg) = 10 then b1 (tModel_addLast σ ((σ.2.2.1 36) ((σ.1 42) - 1).toNatClampNeg) x1) (fun u11 => k 9 u11 x1 0 0) else gd (inB ((σ.2.2.1 36) ((σ.1 42) - 1).toNatClampNeg) 500) (if ((σ.2.2.1 20) ((σ.2.2.1 36) ((σ.1 42) - 1).toNatClampNeg).toNatClampNeg) = 13 then gd (inB ((σ.2.2.1 36) ((σ.1 42) - 1).toNatClampNeg) 500) (if (0 : Int32) ≤ ((σ.2.2.1 23) ((σ.2.2.1 36) ((σ.1 42) - 1).toNatClampNeg).toNatClampNeg) then k 2 (sI σ 32 ((σ.1 32) - 1)) x1 ((σ.2.2.1 36) ((σ.1 42) - 1).toNatClampNeg) 0 else k 3 (sI σ 32 ((σ.1 32) - 1)) x1 ((σ.2.2.1 36) ((σ.1 42) - 1).toNatClampNeg) 1) else k 2 (sI σ 32 ((σ.1 32) - 1)) x1 ((σ.2.2.1 36) ((σ.1 42) - 1).toNatClampNeg) 0))) else some σ
def tModel_whole_b2 (k : Nat → St → Int32 → Int32 → Int32 → Option (St)) (σ : St) (x1 : Int32) (x2 : Int32) (x3 : Int32) : Option (St) := k 3 σ x1 x2 0
def tModel_whole_b3 (k : Nat → St → Int32 → Int32 → Int32 → Option (St)) (σ : St) (x1 : Int32) (x2 : Int32) (x3 : Int32) : Option (St) := gd (inB x2 500) (if ((σ.2.2.1 20) x2.toNatClampNeg) = 13 then if x3 = 0 then gd (inB x2 500) (k 5 (sA σ 24 (upd (σ.2.2.1 24) x2.toNatClampNeg x1)) x2 x3 0) else k 4 σ x1 x2 x3 else k 4 σ x1 x2 x3)
def tModel_whole_b4 (k : Nat → St → Int32 → Int32 → Int32 → Option (St)) (σ : St) (x1 : Int32) (x2 : Int32) (x3 : Int32) : Option (St) := gd (inB x2 500) (k 5 (sA σ 23 (upd (σ.2.2.1 23) x2.toNatClampNeg x1)) x2 x3 0)
def tModel_whole_b5 (k : Nat → St → Int32 → Int32 → Int32 → Option (St)) (σ : St) (x1 : Int32) (x2 : Int32) (x3 : Int32) : Option (St) := if x2 = 0 then k 6 σ x1 0 0 else b1 (tModel_sees σ 1702063205) (fun r18 => if r18 = 0 then k 6 σ x1 0 0 else k 7 σ x1 0 0)
def tModel_whole_b6 (k : Nat → St → Int32 → Int32 → Int32 → Option (St)) (σ : St) (x1 : Int32) (x2 : Int32) (x3 : Int32) : Option (St) := k 7 σ x1 1 0
def tModel_whole_b7 (k : Nat → St → Int32 → Int32 → Int32 → Option (St)) (σ : St) (x1 : Int32) (x2 : Int32) (x3 : Int32) : Option (St) := if x2 = 0 then b1 (tModel_opens σ) (fun u21 => k 8 u21 x2 x1 0) else k 8 (sI σ 42 ((σ.1 42) - 1)) x2 x1 0
def tModel_whole_b8 (k : Nat → St → Int32 → Int32 → Int32 → Option (St)) (σ : St) (x1 : Int32) (x2 : Int32) (x3 : Int32) : Option (St) := k 9 σ x2 x1 0
def tModel_whole_b9 (k : Nat → St → Int32 → Int32 → Int32 → Option (St)) (σ : St) (x1 : Int32) (x2 : Int32) (x3 : Int32) : Option (St) := k 1 σ x1 x2 0
def tModel_whole_L : Nat → Nat → St → Int32 → Int32 → Int32 → Option (St)
  | 0, _, _, _, _, _ => none
  | n + 1, lab, σ, x1, x2, x3 => match lab with
    | 1 => tModel_whole_b1 (tModel_whole_L n) σ x1 x2 x3
    | 2 => tModel_whole_b2 (tModel_whole_L n) σ x1 x2 x3
    | 3 => tModel_whole_b3 (tModel_whole_L n) σ x1 x2 x3
    | 4 => tModel_whole_b4 (tModel_whole_L n) σ x1 x2 x3
    | 5 => tModel_whole_b5 (tModel_whole_L n) σ x1 x2 x3
    | 6 => tModel_whole_b6 (tModel_whole_L n) σ x1 x2 x3
    | 7 => tModel_whole_b7 (tModel_whole_L n) σ x1 x2 x3
    | 8 => tModel_whole_b8 (tModel_whole_L n) σ x1 x2 x3
    | 9 => tModel_whole_b9 (tModel_whole_L n) σ x1 x2 x3
    | _ => none
def tModel_whole (σ : St) (a1 : Int32) : Option (St) := tModel_whole_L 2000 1 σ a1 1 0
set_option maxHeartbeats 4000000 in
set_option maxRecDepth 100000 in
theorem tModel_whole_blk {p : Program} {e : Env} {s : State} {m : MethodId} {args : Array Value} {below : List Frame} {meth : Method} {c : Code} {A : Nat → Prop} (l : Launch) (dC : Nat → ClassId) (dI : Nat → Nat → Nat) (ad : Nat → Nat) (cA : Nat → ClassId) {σ' : St} (X : Cx p s m args meth c b_Model_whole 6 none "TinyForgeModel" (dC, dI) (ttys cA) ad A) : ∀ n : Nat, (∀ (σ : St) (x1 : Int32) (x2 : Int32) (x3 : Int32) (H : Heap) (locs : List Loc) (ls : Array Slot), tModel_whole_L n 1 σ x1 x2 x3 = some σ' → va_P (dC, dI) vwCl (tcw ad cA σ) H → va_D A (tcw ad cA σ) → va_S A s.heap H locs → lv_has ls 6 [(0, .ref (ad 11)), (2, .int x1), (3, .int x2)] → W p l e { frames := 2, cells := 0, slots := 0, locals := 48 } s m args below meth c H locs 0 0 (MQ below (QV (dC, dI) (ttys cA) (tcw ad cA) A σ') args s 0 0 A) (F0 m 4 ls [])) ∧ (∀ (σ : St) (x1 : Int32) (x2 : Int32) (x3 : Int32) (H : Heap) (locs : List Loc) (ls : Array Slot), tModel_whole_L n 2 σ x1 x2 x3 = some σ' → va_P (dC, dI) vwCl (tcw ad cA σ) H → va_D A (tcw ad cA σ) → va_S A s.heap H locs → lv_has ls 6 [(0, .ref (ad 11)), (2, .int x1), (4, .int x2)] → W p l e { frames := 2, cells := 0, slots := 0, locals := 48 } s m args below meth c H locs 0 0 (MQ below (QV (dC, dI) (ttys cA) (tcw ad cA) A σ') args s 0 0 A) (F0 m 95 ls [])) ∧ (∀ (σ : St) (x1 : Int32) (x2 : Int32) (x3 : Int32) (H : Heap) (locs : List Loc) (ls : Array Slot), tModel_whole_L n 3 σ x1 x2 x3 = some σ' → va_P (dC, dI) vwCl (tcw ad cA σ) H → va_D A (tcw ad cA σ) → va_S A s.heap H locs → lv_has ls 6 [(0, .ref (ad 11)), (2, .int x1), (4, .int x2)] → W p l e { frames := 2, cells := 0, slots := 0, locals := 48 } s m args below meth c H locs 0 0 (MQ below (QV (dC, dI) (ttys cA) (tcw ad cA) A σ') args s 0 0 A) (F0 m 96 ls [.int x3])) ∧ (∀ (σ : St) (x1 : Int32) (x2 : Int32) (x3 : Int32) (H : Heap) (locs : List Loc) (ls : Array Slot), tModel_whole_L n 4 σ x1 x2 x3 = some σ' → va_P (dC, dI) vwCl (tcw ad cA σ) H → va_D A (tcw ad cA σ) → va_S A s.heap H locs → lv_has ls 6 [(0, .ref (ad 11)), (2, .int x1), (4, .int x2), (5, .int x3)] → W p l e { frames := 2, cells := 0, slots := 0, locals := 48 } s m args below meth c H locs 0 0 (MQ below (QV (dC, dI) (ttys cA) (tcw ad cA) A σ') args s 0 0 A) (F0 m 126 ls [])) ∧ (∀ (σ : St) (x1 : Int32) (x2 : Int32) (x3 : Int32) (H : Heap) (locs : List Loc) (ls : Array Slot), tModel_whole_L n 5 σ x1 x2 x3 = some σ' → va_P (dC, dI) vwCl (tcw ad cA σ) H → va_D A (tcw ad cA σ) → va_S A s.heap H locs → lv_has ls 6 [(0, .ref (ad 11)), (4, .int x1), (5, .int x2)] → W p l e { frames := 2, cells := 0, slots := 0, locals := 48 } s m args below meth c H locs 0 0 (MQ below (QV (dC, dI) (ttys cA) (tcw ad cA) A σ') args s 0 0 A) (F0 m 134 ls [])) ∧ (∀ (σ : St) (x1 : Int32) (x2 : Int32) (x3 : Int32) (H : Heap) (locs : List Loc) (ls : Array Slot), tModel_whole_L n 6 σ x1 x2 x3 = some σ' → va_P (dC, dI) vwCl (tcw ad cA σ) H → va_D A (tcw ad cA σ) → va_S A s.heap H locs → lv_has ls 6 [(0, .ref (ad 11)), (4, .int x1)] → W p l e { frames := 2, cells := 0, slots := 0, locals := 48 } s m args below meth c H locs 0 0 (MQ below (QV (dC, dI) (ttys cA) (tcw ad cA) A σ') args s 0 0 A) (F0 m 149 ls [])) ∧ (∀ (σ : St) (x1 : Int32) (x2 : Int32) (x3 : Int32) (H : Heap) (locs : List Loc) (ls : Array Slot), tModel_whole_L n 7 σ x1 x2 x3 = some σ' → va_P (dC, dI) vwCl (tcw ad cA σ) H → va_D A (tcw ad cA σ) → va_S A s.heap H locs → lv_has ls 6 [(0, .ref (ad 11)), (4, .int x1)] → W p l e { frames := 2, cells := 0, slots := 0, locals := 48 } s m args below meth c H locs 0 0 (MQ below (QV (dC, dI) (ttys cA) (tcw ad cA) A σ') args s 0 0 A) (F0 m 154 ls [.int x2])) ∧ (∀ (σ : St) (x1 : Int32) (x2 : Int32) (x3 : Int32) (H : Heap) (locs : List Loc) (ls : Array Slot), tModel_whole_L n 8 σ x1 x2 x3 = some σ' → va_P (dC, dI) vwCl (tcw ad cA σ) H → va_D A (tcw ad cA σ) → va_S A s.heap H locs → lv_has ls 6 [(0, .ref (ad 11)), (3, .int x1), (4, .int x2)] → W p l e { frames := 2, cells := 0, slots := 0, locals := 48 } s m args below meth c H locs 0 0 (MQ below (QV (dC, dI) (ttys cA) (tcw ad cA) A σ') args s 0 0 A) (F0 m 176 ls [])) ∧ (∀ (σ : St) (x1 : Int32) (x2 : Int32) (x3 : Int32) (H : Heap) (locs : List Loc) (ls : Array Slot), tModel_whole_L n 9 σ x1 x2 x3 = some σ' → va_P (dC, dI) vwCl (tcw ad cA σ) H → va_D A (tcw ad cA σ) → va_S A s.heap H locs → lv_has ls 6 [(0, .ref (ad 11)), (2, .int x1), (3, .int x2)] → W p l e { frames := 2, cells := 0, slots := 0, locals := 48 } s m args below meth c H locs 0 0 (MQ below (QV (dC, dI) (ttys cA) (tcw ad cA) A σ') args s 0 0 A) (F0 m 179 ls [])) := by
  obtain ⟨hx, hb, hr, hml, hown, hlocks, hts, hA, hK, hZ⟩ := id X
  intro n
  induction n with
  | zero => exact ⟨(fun σ x1 x2 x3 H locs ls hF => by cases hF), (fun σ x1 x2 x3 H locs ls hF => by cases hF), (fun σ x1 x2 x3 H locs ls hF => by cases hF), (fun σ x1 x2 x3 H locs ls hF => by cases hF), (fun σ x1 x2 x3 H locs ls hF => by cases hF), (fun σ x1 x2 x3 H locs ls hF => by cases hF), (fun σ x1 x2 x3 H locs ls hF => by cases hF), (fun σ x1 x2 x3 H locs ls hF => by cases hF), (fun σ x1 x2 x3 H locs ls hF => by cases hF)⟩
  | succ n ihn =>
    refine ⟨fun σ x1 x2 x3 H locs ls hF hP hD hS hl => ?_, fun σ x1 x2 x3 H locs ls hF hP hD hS hl => ?_, fun σ x1 x2 x3 H locs ls hF hP hD hS hl => ?_, fun σ x1 x2 x3 H locs ls hF hP hD hS hl => ?_, fun σ x1 x2 x3 H locs ls hF hP hD hS hl => ?_, fun σ x1 x2 x3 H locs ls hF hP hD hS hl => ?_, fun σ x1 x2 x3 H locs ls hF hP hD hS hl => ?_, fun σ x1 x2 x3 H locs ls hF hP hD hS hl => ?_, fun σ x1 x2 x3 H locs ls hF hP hD hS hl => ?_⟩
    · have hF : tModel_whole_b1 (tModel_whole_L n) σ x1 x2 x3 = some σ' := hF
      unfold tModel_whole_b1 at hF
      refine lv_iload_n hx hb d_Model_whole_4 rfl (lv_at hl 2 rfl) ?_
      refine lv_if_eq (tgt := 182) hx hb d_Model_whole_5 (by decide) (fun c_1 => ?_) (fun c_1 => ?_)
      · have hF := ifp hF c_1
        cases hF
        exact leafV X hP hD hS d_Model_whole_182
      · have hF := ifn hF c_1
        refine lv_aload_n hx hb d_Model_whole_8 rfl (lv_at hl 0 rfl) ?_
        refine va_get (D := (dC, dI)) (ci := 11) (v := .int (σ.1 42)) hx hb hts i_Model hown hK hP 11 rfl rfl 35 (by decide) (hts _ w_d470deee69) (fun _ h9 => h9) rfl d_Model_whole_9 ?_
        refine lv_if_le (tgt := 182) hx hb d_Model_whole_12 (by decide) (fun c_2 => ?_) (fun c_2 => ?_)
        · have hF := ifp hF c_2
          cases hF
          exact leafV X hP hD hS d_Model_whole_182
        · have hF := ifn hF c_2
          refine lv_aload_n hx hb d_Model_whole_15 rfl (lv_at hl 0 rfl) ?_
          refine va_get (D := (dC, dI)) (ci := 11) (v := .int (σ.1 29)) hx hb hts i_Model hown hK hP 11 rfl rfl 4 (by decide) (hts _ w_0464dc4398) (fun _ h9 => h9) rfl d_Model_whole_16 ?_
          refine lv_if_ne (tgt := 182) hx hb d_Model_whole_19 (by decide) (fun c_3 => ?_) (fun c_3 => ?_)
          · have hF := ifn hF c_3
            cases hF
            exact leafV X hP hD hS d_Model_whole_182
          · have hF := ifp hF c_3
            refine lv_aload_n hx hb d_Model_whole_22 rfl (lv_at hl 0 rfl) ?_
            refine va_get (D := (dC, dI)) (ci := 11) (v := .ref (ad 51)) hx hb hts i_Model hown hK hP 11 rfl rfl 38 (by decide) (hts _ w_250ac790e4) (fun _ h9 => h9) rfl d_Model_whole_23 ?_
            refine lv_aload_n hx hb d_Model_whole_26 rfl (lv_at hl 0 rfl) ?_
            refine va_get (D := (dC, dI)) (ci := 11) (v := .int (σ.1 42)) hx hb hts i_Model hown hK hP 11 rfl rfl 35 (by decide) (hts _ w_d470deee69) (fun _ h9 => h9) rfl d_Model_whole_27 ?_
            refine lv_iconst (v := 1) hx hb d_Model_whole_30 (by decide) ?_
            refine lv_isub hx hb d_Model_whole_31 ?_
            obtain ⟨g_4, hF⟩ := gdE hF
            refine va_iald (f := (σ.2.2.1 36)) hx hb hK hP 51 0 rfl rfl (inE g_4) d_Model_whole_32 ?_
            refine lv_istore (lv' := [(4, .int ((σ.2.2.1 36) ((σ.1 42) - 1).toNatClampNeg)), (0, .ref (ad 11)), (2, .int x1), (3, .int x2)]) hx hb d_Model_whole_33 hl (by decide) rfl (fun ls hl => ?_)
            refine lv_aload_n hx hb d_Model_whole_35 rfl (lv_at hl 1 rfl) ?_
            refine va_get (D := (dC, dI)) (ci := 11) (v := .ref (ad 35)) hx hb hts i_Model hown hK hP 11 rfl rfl 14 (by decide) (hts _ w_0e6df3fb4c) (fun _ h9 => h9) rfl d_Model_whole_36 ?_
            refine lv_iload hx hb d_Model_whole_39 (lv_at hl 0 rfl) ?_
            obtain ⟨g_5, hF⟩ := gdE hF
            refine va_iald (f := (σ.2.2.1 20)) hx hb hK hP 35 0 rfl rfl (inE g_5) d_Model_whole_41 ?_
            refine lv_bipush (v := 10) hx hb d_Model_whole_42 (by decide) ?_
            refine lv_icmp_ne (tgt := 59) hx hb d_Model_whole_44 (by decide) (fun c_6 => ?_) (fun c_6 => ?_)
            · have hF := ifn hF c_6
              refine lv_aload_n hx hb d_Model_whole_59 rfl (lv_at hl 1 rfl) ?_
              refine lv_dup hx hb d_Model_whole_60 rfl ?_
              refine va_get (D := (dC, dI)) (ci := 11) (v := .int (σ.1 32)) hx hb hts i_Model hown hK hP 11 rfl rfl 7 (by decide) (hts _ w_eb874fa0f0) (fun _ h9 => h9) rfl d_Model_whole_61 ?_
              refine lv_iconst (v := 1) hx hb d_Model_whole_64 (by decide) ?_
              refine lv_isub hx hb d_Model_whole_65 ?_
              refine va_put (D := (dC, dI)) (ci := 11) (v := .int ((σ.1 32) - 1)) (ty := .int) hx hb hts i_Model t_Model t_Model_ok n_Model hown hK hP hD hS 11 rfl rfl 7 (by decide) (hts _ w_eb874fa0f0) (fun _ h9 => h9) rfl (by decide +kernel) rfl rfl (Nat.le_of_ble_eq_true rfl) d_Model_whole_66 (fun H locs hP hD hS => ?_)
              have hP : va_P (dC, dI) vwCl (tcw ad cA (sI σ 32 ((σ.1 32) - 1))) H := hP
              have hD : va_D A (tcw ad cA (sI σ 32 ((σ.1 32) - 1))) := hD
              refine lv_aload_n hx hb d_Model_whole_69 rfl (lv_at hl 1 rfl) ?_
              refine va_get (D := (dC, dI)) (ci := 11) (v := .ref (ad 35)) hx hb hts i_Model hown hK hP 11 rfl rfl 14 (by decide) (hts _ w_0e6df3fb4c) (fun _ h9 => h9) rfl d_Model_whole_70 ?_
              refine lv_iload hx hb d_Model_whole_73 (lv_at hl 0 rfl) ?_
              obtain ⟨g_7, hF⟩ := gdE hF
              refine va_iald (f := (σ.2.2.1 20)) hx hb hK hP 35 0 rfl rfl (inE g_7) d_Model_whole_75 ?_
              refine lv_bipush (v := 13) hx hb d_Model_whole_76 (by decide) ?_
              refine lv_icmp_ne (tgt := 95) hx hb d_Model_whole_78 (by decide) (fun c_8 => ?_) (fun c_8 => ?_)
              · have hF := ifn hF c_8
                exact ihn.2.1 (sI σ 32 ((σ.1 32) - 1)) x1 ((σ.2.2.1 36) ((σ.1 42) - 1).toNatClampNeg) 0 H locs ls hF hP hD hS (lv_sub hl [1, 2, 0] rfl)
              · have hF := ifp hF c_8
                refine lv_aload_n hx hb d_Model_whole_81 rfl (lv_at hl 1 rfl) ?_
                refine va_get (D := (dC, dI)) (ci := 11) (v := .ref (ad 38)) hx hb hts i_Model hown hK hP 11 rfl rfl 17 (by decide) (hts _ w_d96db777d5) (fun _ h9 => h9) rfl d_Model_whole_82 ?_
                refine lv_iload hx hb d_Model_whole_85 (lv_at hl 0 rfl) ?_
                obtain ⟨g_9, hF⟩ := gdE hF
                refine va_iald (f := (σ.2.2.1 23)) hx hb hK hP 38 0 rfl rfl (inE g_9) d_Model_whole_87 ?_
                refine lv_if_ge (tgt := 95) hx hb d_Model_whole_88 (by decide) (fun c_10 => ?_) (fun c_10 => ?_)
                · have hF := ifp hF c_10
                  exact ihn.2.1 (sI σ 32 ((σ.1 32) - 1)) x1 ((σ.2.2.1 36) ((σ.1 42) - 1).toNatClampNeg) 0 H locs ls hF hP hD hS (lv_sub hl [1, 2, 0] rfl)
                · have hF := ifn hF c_10
                  refine lv_iconst (v := 1) hx hb d_Model_whole_91 (by decide) ?_
                  refine lv_goto (tgt := 96) hx hb d_Model_whole_92 (by decide) ?_
                  exact ihn.2.2.1 (sI σ 32 ((σ.1 32) - 1)) x1 ((σ.2.2.1 36) ((σ.1 42) - 1).toNatClampNeg) 1 H locs ls hF hP hD hS (lv_sub hl [1, 2, 0] rfl)
            · have hF := ifp hF c_6
              refine lv_aload_n hx hb d_Model_whole_47 rfl (lv_at hl 1 rfl) ?_
              refine lv_iload hx hb d_Model_whole_48 (lv_at hl 0 rfl) ?_
              refine lv_iload_n hx hb d_Model_whole_50 rfl (lv_at hl 2 rfl) ?_
              obtain ⟨u11, h11, hF⟩ := b1E hF
              refine callVV (As := [.int ((σ.2.2.1 36) ((σ.1 42) - 1).toNatClampNeg), .int x1]) X (ct_Model_addLast l dC dI ad cA H.size h11) lk_Model_269 ⟨rfl, rfl, by decide, by decide⟩ 11 rfl rfl hP hD hS hl.1 rfl rfl (Nat.le_of_ble_eq_true rfl) d_Model_whole_51 (fun H locs hP hD hS => ?_)
              refine lv_iconst (v := 0) hx hb d_Model_whole_54 (by decide) ?_
              refine lv_istore_n (lv' := [(3, .int 0), (4, .int ((σ.2.2.1 36) ((σ.1 42) - 1).toNatClampNeg)), (0, .ref (ad 11)), (2, .int x1)]) hx hb d_Model_whole_55 rfl hl (by decide) rfl (fun ls hl => ?_)
              refine lv_goto (tgt := 179) hx hb d_Model_whole_56 (by decide) ?_
              exact ihn.2.2.2.2.2.2.2.2 u11 x1 0 0 H locs ls hF hP hD hS (lv_sub hl [2, 3, 0] rfl)
    · have hF : tModel_whole_b2 (tModel_whole_L n) σ x1 x2 x3 = some σ' := hF
      unfold tModel_whole_b2 at hF
      refine lv_iconst (v := 0) hx hb d_Model_whole_95 (by decide) ?_
      exact ihn.2.2.1 σ x1 x2 0 H locs ls hF hP hD hS (lv_sub hl [0, 1, 2] rfl)
    · have hF : tModel_whole_b3 (tModel_whole_L n) σ x1 x2 x3 = some σ' := hF
      unfold tModel_whole_b3 at hF
      refine lv_istore (lv' := [(5, .int x3), (0, .ref (ad 11)), (2, .int x1), (4, .int x2)]) hx hb d_Model_whole_96 hl (by decide) rfl (fun ls hl => ?_)
      refine lv_aload_n hx hb d_Model_whole_98 rfl (lv_at hl 1 rfl) ?_
      refine va_get (D := (dC, dI)) (ci := 11) (v := .ref (ad 35)) hx hb hts i_Model hown hK hP 11 rfl rfl 14 (by decide) (hts _ w_0e6df3fb4c) (fun _ h9 => h9) rfl d_Model_whole_99 ?_
      refine lv_iload hx hb d_Model_whole_102 (lv_at hl 3 rfl) ?_
      obtain ⟨g_12, hF⟩ := gdE hF
      refine va_iald (f := (σ.2.2.1 20)) hx hb hK hP 35 0 rfl rfl (inE g_12) d_Model_whole_104 ?_
      refine lv_bipush (v := 13) hx hb d_Model_whole_105 (by decide) ?_
      refine lv_icmp_ne (tgt := 126) hx hb d_Model_whole_107 (by decide) (fun c_13 => ?_) (fun c_13 => ?_)
      · have hF := ifn hF c_13
        exact ihn.2.2.2.1 σ x1 x2 x3 H locs ls hF hP hD hS (lv_sub hl [1, 2, 3, 0] rfl)
      · have hF := ifp hF c_13
        refine lv_iload hx hb d_Model_whole_110 (lv_at hl 0 rfl) ?_
        refine lv_if_ne (tgt := 126) hx hb d_Model_whole_112 (by decide) (fun c_14 => ?_) (fun c_14 => ?_)
        · have hF := ifn hF c_14
          exact ihn.2.2.2.1 σ x1 x2 x3 H locs ls hF hP hD hS (lv_sub hl [1, 2, 3, 0] rfl)
        · have hF := ifp hF c_14
          refine lv_aload_n hx hb d_Model_whole_115 rfl (lv_at hl 1 rfl) ?_
          refine va_get (D := (dC, dI)) (ci := 11) (v := .ref (ad 39)) hx hb hts i_Model hown hK hP 11 rfl rfl 18 (by decide) (hts _ w_7d7d4091fc) (fun _ h9 => h9) rfl d_Model_whole_116 ?_
          refine lv_iload hx hb d_Model_whole_119 (lv_at hl 3 rfl) ?_
          refine lv_iload_n hx hb d_Model_whole_121 rfl (lv_at hl 2 rfl) ?_
          obtain ⟨g_15, hF⟩ := gdE hF
          refine va_iast (f := (σ.2.2.1 24)) hx hb hK hP hD hS 39 0 rfl rfl (inE g_15) d_Model_whole_122 (fun H locs hP hD hS => ?_)
          have hP : va_P (dC, dI) vwCl (tcw ad cA (sA σ 24 (upd (σ.2.2.1 24) x2.toNatClampNeg x1))) H := hP
          have hD : va_D A (tcw ad cA (sA σ 24 (upd (σ.2.2.1 24) x2.toNatClampNeg x1))) := hD
          refine lv_goto (tgt := 134) hx hb d_Model_whole_123 (by decide) ?_
          exact ihn.2.2.2.2.1 (sA σ 24 (upd (σ.2.2.1 24) x2.toNatClampNeg x1)) x2 x3 0 H locs ls hF hP hD hS (lv_sub hl [1, 3, 0] rfl)
    · have hF : tModel_whole_b4 (tModel_whole_L n) σ x1 x2 x3 = some σ' := hF
      unfold tModel_whole_b4 at hF
      refine lv_aload_n hx hb d_Model_whole_126 rfl (lv_at hl 0 rfl) ?_
      refine va_get (D := (dC, dI)) (ci := 11) (v := .ref (ad 38)) hx hb hts i_Model hown hK hP 11 rfl rfl 17 (by decide) (hts _ w_d96db777d5) (fun _ h9 => h9) rfl d_Model_whole_127 ?_
      refine lv_iload hx hb d_Model_whole_130 (lv_at hl 2 rfl) ?_
      refine lv_iload_n hx hb d_Model_whole_132 rfl (lv_at hl 1 rfl) ?_
      obtain ⟨g_16, hF⟩ := gdE hF
      refine va_iast (f := (σ.2.2.1 23)) hx hb hK hP hD hS 38 0 rfl rfl (inE g_16) d_Model_whole_133 (fun H locs hP hD hS => ?_)
      have hP : va_P (dC, dI) vwCl (tcw ad cA (sA σ 23 (upd (σ.2.2.1 23) x2.toNatClampNeg x1))) H := hP
      have hD : va_D A (tcw ad cA (sA σ 23 (upd (σ.2.2.1 23) x2.toNatClampNeg x1))) := hD
      exact ihn.2.2.2.2.1 (sA σ 23 (upd (σ.2.2.1 23) x2.toNatClampNeg x1)) x2 x3 0 H locs ls hF hP hD hS (lv_sub hl [0, 2, 3] rfl)
    · have hF : tModel_whole_b5 (tModel_whole_L n) σ x1 x2 x3 = some σ' := hF
      unfold tModel_whole_b5 at hF
      refine lv_iload hx hb d_Model_whole_134 (lv_at hl 2 rfl) ?_
      refine lv_if_eq (tgt := 149) hx hb d_Model_whole_136 (by decide) (fun c_17 => ?_) (fun c_17 => ?_)
      · have hF := ifp hF c_17
        exact ihn.2.2.2.2.2.1 σ x1 0 0 H locs ls hF hP hD hS (lv_sub hl [0, 1] rfl)
      · have hF := ifn hF c_17
        refine lv_aload_n hx hb d_Model_whole_139 rfl (lv_at hl 0 rfl) ?_
        refine lv_ldc2 (v := 1702063205) hx hb hown (hts _ w_9b3bb4e9f4) d_Model_whole_140 ?_
        obtain ⟨r18, h18, hF⟩ := b1E hF
        refine callVI (As := [.long 1702063205]) X (ct_Model_sees l dC dI ad cA H.size h18) lk_Model_190 ⟨rfl, rfl, by decide, by decide⟩ 11 rfl rfl hP hD hS hl.1 rfl rfl (Nat.le_of_ble_eq_true rfl) d_Model_whole_143 (fun H locs hP hD hS => ?_)
        refine lv_if_ne (tgt := 153) hx hb d_Model_whole_146 (by decide) (fun c_19 => ?_) (fun c_19 => ?_)
        · have hF := ifn hF c_19
          refine lv_iconst (v := 0) hx hb d_Model_whole_153 (by decide) ?_
          exact ihn.2.2.2.2.2.2.1 σ x1 0 0 H locs ls hF hP hD hS (lv_sub hl [0, 1] rfl)
        · have hF := ifp hF c_19
          exact ihn.2.2.2.2.2.1 σ x1 0 0 H locs ls hF hP hD hS (lv_sub hl [0, 1] rfl)
    · have hF : tModel_whole_b6 (tModel_whole_L n) σ x1 x2 x3 = some σ' := hF
      unfold tModel_whole_b6 at hF
      refine lv_iconst (v := 1) hx hb d_Model_whole_149 (by decide) ?_
      refine lv_goto (tgt := 154) hx hb d_Model_whole_150 (by decide) ?_
      exact ihn.2.2.2.2.2.2.1 σ x1 1 0 H locs ls hF hP hD hS (lv_sub hl [0, 1] rfl)
    · have hF : tModel_whole_b7 (tModel_whole_L n) σ x1 x2 x3 = some σ' := hF
      unfold tModel_whole_b7 at hF
      refine lv_istore_n (lv' := [(3, .int x2), (0, .ref (ad 11)), (4, .int x1)]) hx hb d_Model_whole_154 rfl hl (by decide) rfl (fun ls hl => ?_)
      refine lv_iload_n hx hb d_Model_whole_155 rfl (lv_at hl 0 rfl) ?_
      refine lv_if_eq (tgt := 172) hx hb d_Model_whole_156 (by decide) (fun c_20 => ?_) (fun c_20 => ?_)
      · have hF := ifp hF c_20
        refine lv_aload_n hx hb d_Model_whole_172 rfl (lv_at hl 1 rfl) ?_
        obtain ⟨u21, h21, hF⟩ := b1E hF
        refine callVV (As := []) X (ct_Model_opens l dC dI ad cA H.size h21) lk_Model_233 ⟨rfl, rfl, by decide, by decide⟩ 11 rfl rfl hP hD hS hl.1 rfl rfl (Nat.le_of_ble_eq_true rfl) d_Model_whole_173 (fun H locs hP hD hS => ?_)
        exact ihn.2.2.2.2.2.2.2.1 u21 x2 x1 0 H locs ls hF hP hD hS (lv_sub hl [1, 0, 2] rfl)
      · have hF := ifn hF c_20
        refine lv_aload_n hx hb d_Model_whole_159 rfl (lv_at hl 1 rfl) ?_
        refine lv_dup hx hb d_Model_whole_160 rfl ?_
        refine va_get (D := (dC, dI)) (ci := 11) (v := .int (σ.1 42)) hx hb hts i_Model hown hK hP 11 rfl rfl 35 (by decide) (hts _ w_d470deee69) (fun _ h9 => h9) rfl d_Model_whole_161 ?_
        refine lv_iconst (v := 1) hx hb d_Model_whole_164 (by decide) ?_
        refine lv_isub hx hb d_Model_whole_165 ?_
        refine va_put (D := (dC, dI)) (ci := 11) (v := .int ((σ.1 42) - 1)) (ty := .int) hx hb hts i_Model t_Model t_Model_ok n_Model hown hK hP hD hS 11 rfl rfl 35 (by decide) (hts _ w_d470deee69) (fun _ h9 => h9) rfl (by decide +kernel) rfl rfl (Nat.le_of_ble_eq_true rfl) d_Model_whole_166 (fun H locs hP hD hS => ?_)
        have hP : va_P (dC, dI) vwCl (tcw ad cA (sI σ 42 ((σ.1 42) - 1))) H := hP
        have hD : va_D A (tcw ad cA (sI σ 42 ((σ.1 42) - 1))) := hD
        refine lv_goto (tgt := 176) hx hb d_Model_whole_169 (by decide) ?_
        exact ihn.2.2.2.2.2.2.2.1 (sI σ 42 ((σ.1 42) - 1)) x2 x1 0 H locs ls hF hP hD hS (lv_sub hl [1, 0, 2] rfl)
    · have hF : tModel_whole_b8 (tModel_whole_L n) σ x1 x2 x3 = some σ' := hF
      unfold tModel_whole_b8 at hF
      refine lv_iload hx hb d_Model_whole_176 (lv_at hl 2 rfl) ?_
      refine lv_istore_n (lv' := [(2, .int x2), (0, .ref (ad 11)), (3, .int x1), (4, .int x2)]) hx hb d_Model_whole_178 rfl hl (by decide) rfl (fun ls hl => ?_)
      exact ihn.2.2.2.2.2.2.2.2 σ x2 x1 0 H locs ls hF hP hD hS (lv_sub hl [1, 0, 2] rfl)
    · have hF : tModel_whole_b9 (tModel_whole_L n) σ x1 x2 x3 = some σ' := hF
      unfold tModel_whole_b9 at hF
      refine lv_goto (tgt := 4) hx hb d_Model_whole_179 (by decide) ?_
      exact ihn.1 σ x1 x2 0 H locs ls hF hP hD hS (lv_sub hl [0, 1, 2] rfl)
set_option maxHeartbeats 4000000 in
set_option maxRecDepth 100000 in
theorem ct_Model_whole (l : Launch) (dC : Nat → ClassId) (dI : Nat → Nat → Nat) (ad : Nat → Nat) (cA : Nat → ClassId) (sz : Nat) {σ : St} {a1 : Int32} {σ' : St} (hF : tModel_whole σ a1 = some σ') : MV l y_Model_whole b_Model_whole 6 none { frames := 2, cells := 0, slots := 0, locals := 48 } (dC, dI) (ttys cA) ad (tcw ad cA) [.ref (ad 11), .int a1] σ sz σ' := by
  refine startM (own := "TinyForgeModel") (Qc := fun A => QV (dC, dI) (ttys cA) (tcw ad cA) A σ') rfl rfl (Nat.le_of_ble_eq_true rfl) ?_
  intro p e s m below meth c A H locs ls X hP hD hS hl
  have hl : lv_has ls 6 [(0, .ref (ad 11)), (1, .int a1)] := hl
  obtain ⟨hx, hb, hr, hml, hown, hlocks, hts, hA, hK, hZ⟩ := id X
  unfold tModel_whole at hF
  refine lv_iload_n hx hb d_Model_whole_0 rfl (lv_at hl 1 rfl) ?_
  refine lv_istore_n (lv' := [(2, .int a1), (0, .ref (ad 11)), (1, .int a1)]) hx hb d_Model_whole_1 rfl hl (by decide) rfl (fun ls hl => ?_)
  refine lv_iconst (v := 1) hx hb d_Model_whole_2 (by decide) ?_
  refine lv_istore_n (lv' := [(3, .int 1), (2, .int a1), (0, .ref (ad 11)), (1, .int a1)]) hx hb d_Model_whole_3 rfl hl (by decide) rfl (fun ls hl => ?_)
  exact (tModel_whole_blk l dC dI ad cA X 2000).1 σ a1 1 0 H locs ls hF hP hD hS (lv_sub hl [2, 1, 0] rfl)
theorem d_Model_ends_0 : decode b_Model_ends 0 = .ok (.aload_n 0, 1) := by decide +kernel
theorem d_Model_ends_1 : decode b_Model_ends 1 = .ok (.iload_n 2, 1) := by decide +kernel
theorem d_Model_ends_2 : decode b_Model_ends 2 = .ok (.invokevirtual 296, 3) := by decide +kernel
theorem d_Model_ends_5 : decode b_Model_ends 5 = .ok (.istore_n 3, 1) := by decide +kernel
theorem d_Model_ends_6 : decode b_Model_ends 6 = .ok (.aload_n 0, 1) := by decide +kernel
theorem d_Model_ends_7 : decode b_Model_ends 7 = .ok (.ldc2_w 304, 3) := by decide +kernel
theorem d_Model_ends_10 : decode b_Model_ends 10 = .ok (.invokevirtual 252, 3) := by decide +kernel
theorem d_Model_ends_13 : decode b_Model_ends 13 = .ok (.aload_n 0, 1) := by decide +kernel
theorem d_Model_ends_14 : decode b_Model_ends 14 = .ok (.getfield 121, 3) := by decide +kernel
theorem d_Model_ends_17 : decode b_Model_ends 17 = .ok (.ifCond .ne 15, 3) := by decide +kernel
theorem d_Model_ends_20 : decode b_Model_ends 20 = .ok (.aload_n 0, 1) := by decide +kernel
theorem d_Model_ends_21 : decode b_Model_ends 21 = .ok (.aload_n 0, 1) := by decide +kernel
theorem d_Model_ends_22 : decode b_Model_ends 22 = .ok (.iload_n 1, 1) := by decide +kernel
theorem d_Model_ends_23 : decode b_Model_ends 23 = .ok (.iconst 0, 1) := by decide +kernel
theorem d_Model_ends_24 : decode b_Model_ends 24 = .ok (.iload_n 3, 1) := by decide +kernel
theorem d_Model_ends_25 : decode b_Model_ends 25 = .ok (.iconst (-1), 1) := by decide +kernel
theorem d_Model_ends_26 : decode b_Model_ends 26 = .ok (.invokevirtual 216, 3) := by decide +kernel
theorem d_Model_ends_29 : decode b_Model_ends 29 = .ok (.invokevirtual 309, 3) := by decide +kernel
theorem d_Model_ends_32 : decode b_Model_ends 32 = .ok (.return_, 1) := by decide +kernel
def tModel_ends (σ : St) (a1 : Int32) (a2 : Int32) : Option (St) := b2 (tModel_value σ a2) (fun r1 u1 => b1 (tModel_need u1 59) (fun u2 => if (u2.1 29) = 0 then b2 (tModel_node u2 a1 0 r1 (-1)) (fun r4 u4 => b1 (tModel_whole u4 r4) (fun u5 => some u5)) else some u2))
set_option maxHeartbeats 4000000 in
set_option maxRecDepth 100000 in
theorem ct_Model_ends (l : Launch) (dC : Nat → ClassId) (dI : Nat → Nat → Nat) (ad : Nat → Nat) (cA : Nat → ClassId) (sz : Nat) {σ : St} {a1 : Int32} {a2 : Int32} {σ' : St} (hF : tModel_ends σ a1 a2 = some σ') : MV l y_Model_ends b_Model_ends 4 none { frames := 6, cells := 0, slots := 0, locals := 136 } (dC, dI) (ttys cA) ad (tcw ad cA) [.ref (ad 11), .int a1, .int a2] σ sz σ' := by
  refine startM (own := "TinyForgeModel") (Qc := fun A => QV (dC, dI) (ttys cA) (tcw ad cA) A σ') rfl rfl (Nat.le_of_ble_eq_true rfl) ?_
  intro p e s m below meth c A H locs ls X hP hD hS hl
  have hl : lv_has ls 4 [(0, .ref (ad 11)), (1, .int a1), (2, .int a2)] := hl
  obtain ⟨hx, hb, hr, hml, hown, hlocks, hts, hA, hK, hZ⟩ := id X
  unfold tModel_ends at hF
  refine lv_aload_n hx hb d_Model_ends_0 rfl (lv_at hl 0 rfl) ?_
  refine lv_iload_n hx hb d_Model_ends_1 rfl (lv_at hl 2 rfl) ?_
  obtain ⟨r1, u1, h1, hF⟩ := b2E hF
  refine callVI (As := [.int a2]) X (ct_Model_value l dC dI ad cA H.size h1) lk_Model_296 ⟨rfl, rfl, by decide, by decide⟩ 11 rfl rfl hP hD hS hl.1 rfl rfl (Nat.le_of_ble_eq_true rfl) d_Model_ends_2 (fun H locs hP hD hS => ?_)
  refine lv_istore_n (lv' := [(3, .int r1), (0, .ref (ad 11)), (1, .int a1), (2, .int a2)]) hx hb d_Model_ends_5 rfl hl (by decide) rfl (fun ls hl => ?_)
  refine lv_aload_n hx hb d_Model_ends_6 rfl (lv_at hl 1 rfl) ?_
  refine lv_ldc2 (v := 59) hx hb hown (hts _ w_bf42dcc438) d_Model_ends_7 ?_
  obtain ⟨u2, h2, hF⟩ := b1E hF
  refine callVV (As := [.long 59]) X (ct_Model_need l dC dI ad cA H.size h2) lk_Model_252 ⟨rfl, rfl, by decide, by decide⟩ 11 rfl rfl hP hD hS hl.1 rfl rfl (Nat.le_of_ble_eq_true rfl) d_Model_ends_10 (fun H locs hP hD hS => ?_)
  refine lv_aload_n hx hb d_Model_ends_13 rfl (lv_at hl 1 rfl) ?_
  refine va_get (D := (dC, dI)) (ci := 11) (v := .int (u2.1 29)) hx hb hts i_Model hown hK hP 11 rfl rfl 4 (by decide) (hts _ w_0464dc4398) (fun _ h9 => h9) rfl d_Model_ends_14 ?_
  refine lv_if_ne (tgt := 32) hx hb d_Model_ends_17 (by decide) (fun c_3 => ?_) (fun c_3 => ?_)
  · have hF := ifn hF c_3
    cases hF
    exact leafV X hP hD hS d_Model_ends_32
  · have hF := ifp hF c_3
    refine lv_aload_n hx hb d_Model_ends_20 rfl (lv_at hl 1 rfl) ?_
    refine lv_aload_n hx hb d_Model_ends_21 rfl (lv_at hl 1 rfl) ?_
    refine lv_iload_n hx hb d_Model_ends_22 rfl (lv_at hl 2 rfl) ?_
    refine lv_iconst (v := 0) hx hb d_Model_ends_23 (by decide) ?_
    refine lv_iload_n hx hb d_Model_ends_24 rfl (lv_at hl 0 rfl) ?_
    refine lv_iconst (v := (-1)) hx hb d_Model_ends_25 (by decide) ?_
    obtain ⟨r4, u4, h4, hF⟩ := b2E hF
    refine callVI (As := [.int a1, .int 0, .int r1, .int (-1)]) X (ct_Model_node l dC dI ad cA H.size h4) lk_Model_216 ⟨rfl, rfl, by decide, by decide⟩ 11 rfl rfl hP hD hS hl.1 rfl rfl (Nat.le_of_ble_eq_true rfl) d_Model_ends_26 (fun H locs hP hD hS => ?_)
    obtain ⟨u5, h5, hF⟩ := b1E hF
    refine callVV (As := [.int r4]) X (ct_Model_whole l dC dI ad cA H.size h5) lk_Model_309 ⟨rfl, rfl, by decide, by decide⟩ 11 rfl rfl hP hD hS hl.1 rfl rfl (Nat.le_of_ble_eq_true rfl) d_Model_ends_29 (fun H locs hP hD hS => ?_)
    cases hF
    exact leafV X hP hD hS d_Model_ends_32
theorem d_Model_mainFunction_0 : decode b_Model_mainFunction 0 = .ok (.iconst (-1), 1) := by decide +kernel
theorem d_Model_mainFunction_1 : decode b_Model_mainFunction 1 = .ok (.istore_n 1, 1) := by decide +kernel
theorem d_Model_mainFunction_2 : decode b_Model_mainFunction 2 = .ok (.aload_n 0, 1) := by decide +kernel
theorem d_Model_mainFunction_3 : decode b_Model_mainFunction 3 = .ok (.getfield 337, 3) := by decide +kernel
theorem d_Model_mainFunction_6 : decode b_Model_mainFunction 6 = .ok (.iconst 1, 1) := by decide +kernel
theorem d_Model_mainFunction_7 : decode b_Model_mainFunction 7 = .ok (.isub, 1) := by decide +kernel
theorem d_Model_mainFunction_8 : decode b_Model_mainFunction 8 = .ok (.istore_n 2, 1) := by decide +kernel
theorem d_Model_mainFunction_9 : decode b_Model_mainFunction 9 = .ok (.iload_n 2, 1) := by decide +kernel
theorem d_Model_mainFunction_10 : decode b_Model_mainFunction 10 = .ok (.ifCond .lt 49, 3) := by decide +kernel
theorem d_Model_mainFunction_13 : decode b_Model_mainFunction 13 = .ok (.aload_n 0, 1) := by decide +kernel
theorem d_Model_mainFunction_14 : decode b_Model_mainFunction 14 = .ok (.getfield 54, 3) := by decide +kernel
theorem d_Model_mainFunction_17 : decode b_Model_mainFunction 17 = .ok (.iload_n 2, 1) := by decide +kernel
theorem d_Model_mainFunction_18 : decode b_Model_mainFunction 18 = .ok (.baload, 1) := by decide +kernel
theorem d_Model_mainFunction_19 : decode b_Model_mainFunction 19 = .ok (.ifCond .eq 32, 3) := by decide +kernel
theorem d_Model_mainFunction_22 : decode b_Model_mainFunction 22 = .ok (.aload_n 0, 1) := by decide +kernel
theorem d_Model_mainFunction_23 : decode b_Model_mainFunction 23 = .ok (.getfield 58, 3) := by decide +kernel
theorem d_Model_mainFunction_26 : decode b_Model_mainFunction 26 = .ok (.iload_n 2, 1) := by decide +kernel
theorem d_Model_mainFunction_27 : decode b_Model_mainFunction 27 = .ok (.iaload, 1) := by decide +kernel
theorem d_Model_mainFunction_28 : decode b_Model_mainFunction 28 = .ok (.ifCond .ne 23, 3) := by decide +kernel
theorem d_Model_mainFunction_31 : decode b_Model_mainFunction 31 = .ok (.aload_n 0, 1) := by decide +kernel
theorem d_Model_mainFunction_32 : decode b_Model_mainFunction 32 = .ok (.aload_n 0, 1) := by decide +kernel
theorem d_Model_mainFunction_33 : decode b_Model_mainFunction 33 = .ok (.getfield 51, 3) := by decide +kernel
theorem d_Model_mainFunction_36 : decode b_Model_mainFunction 36 = .ok (.iload_n 2, 1) := by decide +kernel
theorem d_Model_mainFunction_37 : decode b_Model_mainFunction 37 = .ok (.iaload, 1) := by decide +kernel
theorem d_Model_mainFunction_38 : decode b_Model_mainFunction 38 = .ok (.ldc2_w 365, 3) := by decide +kernel
theorem d_Model_mainFunction_41 : decode b_Model_mainFunction 41 = .ok (.invokevirtual 168, 3) := by decide +kernel
theorem d_Model_mainFunction_44 : decode b_Model_mainFunction 44 = .ok (.ifCond .eq 7, 3) := by decide +kernel
theorem d_Model_mainFunction_47 : decode b_Model_mainFunction 47 = .ok (.iload_n 2, 1) := by decide +kernel
theorem d_Model_mainFunction_48 : decode b_Model_mainFunction 48 = .ok (.goto 4, 3) := by decide +kernel
theorem d_Model_mainFunction_51 : decode b_Model_mainFunction 51 = .ok (.iload_n 1, 1) := by decide +kernel
theorem d_Model_mainFunction_52 : decode b_Model_mainFunction 52 = .ok (.istore_n 1, 1) := by decide +kernel
theorem d_Model_mainFunction_53 : decode b_Model_mainFunction 53 = .ok (.iinc 2 (-1), 3) := by decide +kernel
theorem d_Model_mainFunction_56 : decode b_Model_mainFunction 56 = .ok (.goto (-47), 3) := by decide +kernel
theorem d_Model_mainFunction_59 : decode b_Model_mainFunction 59 = .ok (.iload_n 1, 1) := by decide +kernel
theorem d_Model_mainFunction_60 : decode b_Model_mainFunction 60 = .ok (.ireturn, 1) := by decide +kernel
def tModel_mainFunction_b1 (k : Nat → St → Int32 → Int32 → Option (Int32)) (σ : St) (x1 : Int32) (x2 : Int32) : Option (Int32) := if x2 < 0 then some x1 else gd (inB x2 60) (if ((σ.2.2.1 28) x2.toNatClampNeg) = 0 then k 2 σ x1 x2 else gd (inB x2 60) (if ((σ.2.2.1 29) x2.toNatClampNeg) = 0 then gd (inB x2 60) (b1 (tModel_is σ ((σ.2.2.1 27) x2.toNatClampNeg) 1852399981) (fun r7 => if r7 = 0 then k 2 σ x1 x2 else k 3 σ x2 x2)) else k 2 σ x1 x2))
def tModel_mainFunction_b2 (k : Nat → St → Int32 → Int32 → Option (Int32)) (σ : St) (x1 : Int32) (x2 : Int32) : Option (Int32) := k 3 σ x2 x1
def tModel_mainFunction_b3 (k : Nat → St → Int32 → Int32 → Option (Int32)) (σ : St) (x1 : Int32) (x2 : Int32) : Option (Int32) := k 1 σ x2 (x1 + (-1))
def tModel_mainFunction_L : Nat → Nat → St → Int32 → Int32 → Option (Int32)
  | 0, _, _, _, _ => none
  | n + 1, lab, σ, x1, x2 => match lab with
    | 1 => tModel_mainFunction_b1 (tModel_mainFunction_L n) σ x1 x2
    | 2 => tModel_mainFunction_b2 (tModel_mainFunction_L n) σ x1 x2
    | 3 => tModel_mainFunction_b3 (tModel_mainFunction_L n) σ x1 x2
    | _ => none
def tModel_mainFunction (σ : St) : Option (Int32) := tModel_mainFunction_L 2000 1 σ (-1) ((σ.1 35) - 1)
set_option maxHeartbeats 4000000 in
set_option maxRecDepth 100000 in
theorem tModel_mainFunction_blk {p : Program} {e : Env} {s : State} {m : MethodId} {args : Array Value} {below : List Frame} {meth : Method} {c : Code} {A : Nat → Prop} (l : Launch) (dC : Nat → ClassId) (dI : Nat → Nat → Nat) (ad : Nat → Nat) (cA : Nat → ClassId) {r : Int32} (X : Cx p s m args meth c b_Model_mainFunction 3 (some .int) "TinyForgeModel" (dC, dI) (ttys cA) ad A) : ∀ n : Nat, (∀ (σ : St) (x1 : Int32) (x2 : Int32) (H : Heap) (locs : List Loc) (ls : Array Slot), tModel_mainFunction_L n 1 σ x1 x2 = some r → va_P (dC, dI) vwCl (tcw ad cA σ) H → va_D A (tcw ad cA σ) → va_S A s.heap H locs → lv_has ls 3 [(0, .ref (ad 11)), (1, .int x1), (2, .int x2)] → W p l e { frames := 1, cells := 0, slots := 0, locals := 26 } s m args below meth c H locs 0 0 (MQ below (QI (dC, dI) (ttys cA) (tcw ad cA) A r σ) args s 0 0 A) (F0 m 9 ls [])) ∧ (∀ (σ : St) (x1 : Int32) (x2 : Int32) (H : Heap) (locs : List Loc) (ls : Array Slot), tModel_mainFunction_L n 2 σ x1 x2 = some r → va_P (dC, dI) vwCl (tcw ad cA σ) H → va_D A (tcw ad cA σ) → va_S A s.heap H locs → lv_has ls 3 [(0, .ref (ad 11)), (1, .int x1), (2, .int x2)] → W p l e { frames := 1, cells := 0, slots := 0, locals := 26 } s m args below meth c H locs 0 0 (MQ below (QI (dC, dI) (ttys cA) (tcw ad cA) A r σ) args s 0 0 A) (F0 m 51 ls [])) ∧ (∀ (σ : St) (x1 : Int32) (x2 : Int32) (H : Heap) (locs : List Loc) (ls : Array Slot), tModel_mainFunction_L n 3 σ x1 x2 = some r → va_P (dC, dI) vwCl (tcw ad cA σ) H → va_D A (tcw ad cA σ) → va_S A s.heap H locs → lv_has ls 3 [(0, .ref (ad 11)), (2, .int x1)] → W p l e { frames := 1, cells := 0, slots := 0, locals := 26 } s m args below meth c H locs 0 0 (MQ below (QI (dC, dI) (ttys cA) (tcw ad cA) A r σ) args s 0 0 A) (F0 m 52 ls [.int x2])) := by
  obtain ⟨hx, hb, hr, hml, hown, hlocks, hts, hA, hK, hZ⟩ := id X
  intro n
  induction n with
  | zero => exact ⟨(fun σ x1 x2 H locs ls hF => by cases hF), (fun σ x1 x2 H locs ls hF => by cases hF), (fun σ x1 x2 H locs ls hF => by cases hF)⟩
  | succ n ihn =>
    refine ⟨fun σ x1 x2 H locs ls hF hP hD hS hl => ?_, fun σ x1 x2 H locs ls hF hP hD hS hl => ?_, fun σ x1 x2 H locs ls hF hP hD hS hl => ?_⟩
    · have hF : tModel_mainFunction_b1 (tModel_mainFunction_L n) σ x1 x2 = some r := hF
      unfold tModel_mainFunction_b1 at hF
      refine lv_iload_n hx hb d_Model_mainFunction_9 rfl (lv_at hl 2 rfl) ?_
      refine lv_if_lt (tgt := 59) hx hb d_Model_mainFunction_10 (by decide) (fun c_1 => ?_) (fun c_1 => ?_)
      · have hF := ifp hF c_1
        refine lv_iload_n hx hb d_Model_mainFunction_59 rfl (lv_at hl 1 rfl) ?_
        cases hF
        exact leafI X hP hD hS d_Model_mainFunction_60
      · have hF := ifn hF c_1
        refine lv_aload_n hx hb d_Model_mainFunction_13 rfl (lv_at hl 0 rfl) ?_
        refine va_get (D := (dC, dI)) (ci := 11) (v := .ref (ad 43)) hx hb hts i_Model hown hK hP 11 rfl rfl 25 (by decide) (hts _ w_1c464885ec) (fun _ h9 => h9) rfl d_Model_mainFunction_14 ?_
        refine lv_iload_n hx hb d_Model_mainFunction_17 rfl (lv_at hl 2 rfl) ?_
        obtain ⟨g_2, hF⟩ := gdE hF
        refine va_zald (f := (σ.2.2.1 28)) hx hb hK hP 43 3 rfl rfl (inE g_2) d_Model_mainFunction_18 ?_
        refine lv_if_eq (tgt := 51) hx hb d_Model_mainFunction_19 (by decide) (fun c_3 => ?_) (fun c_3 => ?_)
        · have hF := ifp hF c_3
          exact ihn.2.1 σ x1 x2 H locs ls hF hP hD hS (lv_sub hl [0, 1, 2] rfl)
        · have hF := ifn hF c_3
          refine lv_aload_n hx hb d_Model_mainFunction_22 rfl (lv_at hl 0 rfl) ?_
          refine va_get (D := (dC, dI)) (ci := 11) (v := .ref (ad 44)) hx hb hts i_Model hown hK hP 11 rfl rfl 26 (by decide) (hts _ w_3f8fbd1572) (fun _ h9 => h9) rfl d_Model_mainFunction_23 ?_
          refine lv_iload_n hx hb d_Model_mainFunction_26 rfl (lv_at hl 2 rfl) ?_
          obtain ⟨g_4, hF⟩ := gdE hF
          refine va_iald (f := (σ.2.2.1 29)) hx hb hK hP 44 0 rfl rfl (inE g_4) d_Model_mainFunction_27 ?_
          refine lv_if_ne (tgt := 51) hx hb d_Model_mainFunction_28 (by decide) (fun c_5 => ?_) (fun c_5 => ?_)
          · have hF := ifn hF c_5
            exact ihn.2.1 σ x1 x2 H locs ls hF hP hD hS (lv_sub hl [0, 1, 2] rfl)
          · have hF := ifp hF c_5
            refine lv_aload_n hx hb d_Model_mainFunction_31 rfl (lv_at hl 0 rfl) ?_
            refine lv_aload_n hx hb d_Model_mainFunction_32 rfl (lv_at hl 0 rfl) ?_
            refine va_get (D := (dC, dI)) (ci := 11) (v := .ref (ad 42)) hx hb hts i_Model hown hK hP 11 rfl rfl 24 (by decide) (hts _ w_47dac5b7a5) (fun _ h9 => h9) rfl d_Model_mainFunction_33 ?_
            refine lv_iload_n hx hb d_Model_mainFunction_36 rfl (lv_at hl 2 rfl) ?_
            obtain ⟨g_6, hF⟩ := gdE hF
            refine va_iald (f := (σ.2.2.1 27)) hx hb hK hP 42 0 rfl rfl (inE g_6) d_Model_mainFunction_37 ?_
            refine lv_ldc2 (v := 1852399981) hx hb hown (hts _ w_786953840c) d_Model_mainFunction_38 ?_
            obtain ⟨r7, h7, hF⟩ := b1E hF
            refine callVI (As := [.int ((σ.2.2.1 27) x2.toNatClampNeg), .long 1852399981]) X (ct_Model_is l dC dI ad cA H.size h7) lk_Model_168 ⟨rfl, rfl, by decide, by decide⟩ 11 rfl rfl hP hD hS hl.1 rfl rfl (Nat.le_of_ble_eq_true rfl) d_Model_mainFunction_41 (fun H locs hP hD hS => ?_)
            refine lv_if_eq (tgt := 51) hx hb d_Model_mainFunction_44 (by decide) (fun c_8 => ?_) (fun c_8 => ?_)
            · have hF := ifp hF c_8
              exact ihn.2.1 σ x1 x2 H locs ls hF hP hD hS (lv_sub hl [0, 1, 2] rfl)
            · have hF := ifn hF c_8
              refine lv_iload_n hx hb d_Model_mainFunction_47 rfl (lv_at hl 2 rfl) ?_
              refine lv_goto (tgt := 52) hx hb d_Model_mainFunction_48 (by decide) ?_
              exact ihn.2.2 σ x2 x2 H locs ls hF hP hD hS (lv_sub hl [0, 2] rfl)
    · have hF : tModel_mainFunction_b2 (tModel_mainFunction_L n) σ x1 x2 = some r := hF
      unfold tModel_mainFunction_b2 at hF
      refine lv_iload_n hx hb d_Model_mainFunction_51 rfl (lv_at hl 1 rfl) ?_
      exact ihn.2.2 σ x2 x1 H locs ls hF hP hD hS (lv_sub hl [0, 2] rfl)
    · have hF : tModel_mainFunction_b3 (tModel_mainFunction_L n) σ x1 x2 = some r := hF
      unfold tModel_mainFunction_b3 at hF
      refine lv_istore_n (lv' := [(1, .int x2), (0, .ref (ad 11)), (2, .int x1)]) hx hb d_Model_mainFunction_52 rfl hl (by decide) rfl (fun ls hl => ?_)
      refine lv_iinc (v := (x1 + (-1))) (lv' := [(2, .int (x1 + (-1))), (1, .int x2), (0, .ref (ad 11))]) hx hb d_Model_mainFunction_53 hl (k := 2) rfl rfl (by decide) rfl (fun ls hl => ?_)
      refine lv_goto (tgt := 9) hx hb d_Model_mainFunction_56 (by decide) ?_
      exact ihn.1 σ x2 (x1 + (-1)) H locs ls hF hP hD hS (lv_sub hl [2, 1, 0] rfl)
set_option maxHeartbeats 4000000 in
set_option maxRecDepth 100000 in
theorem ct_Model_mainFunction (l : Launch) (dC : Nat → ClassId) (dI : Nat → Nat → Nat) (ad : Nat → Nat) (cA : Nat → ClassId) (sz : Nat) {σ : St} {r : Int32} (hF : tModel_mainFunction σ = some r) : MI l y_Model_mainFunction b_Model_mainFunction 3 (some .int) { frames := 1, cells := 0, slots := 0, locals := 26 } (dC, dI) (ttys cA) ad (tcw ad cA) [.ref (ad 11)] σ sz r σ := by
  refine startM (own := "TinyForgeModel") (Qc := fun A => QI (dC, dI) (ttys cA) (tcw ad cA) A r σ) rfl rfl (Nat.le_of_ble_eq_true rfl) ?_
  intro p e s m below meth c A H locs ls X hP hD hS hl
  have hl : lv_has ls 3 [(0, .ref (ad 11))] := hl
  obtain ⟨hx, hb, hr, hml, hown, hlocks, hts, hA, hK, hZ⟩ := id X
  unfold tModel_mainFunction at hF
  refine lv_iconst (v := (-1)) hx hb d_Model_mainFunction_0 (by decide) ?_
  refine lv_istore_n (lv' := [(1, .int (-1)), (0, .ref (ad 11))]) hx hb d_Model_mainFunction_1 rfl hl (by decide) rfl (fun ls hl => ?_)
  refine lv_aload_n hx hb d_Model_mainFunction_2 rfl (lv_at hl 1 rfl) ?_
  refine va_get (D := (dC, dI)) (ci := 11) (v := .int (σ.1 35)) hx hb hts i_Model hown hK hP 11 rfl rfl 21 (by decide) (hts _ w_c69217944e) (fun _ h9 => h9) rfl d_Model_mainFunction_3 ?_
  refine lv_iconst (v := 1) hx hb d_Model_mainFunction_6 (by decide) ?_
  refine lv_isub hx hb d_Model_mainFunction_7 ?_
  refine lv_istore_n (lv' := [(2, .int ((σ.1 35) - 1)), (1, .int (-1)), (0, .ref (ad 11))]) hx hb d_Model_mainFunction_8 rfl hl (by decide) rfl (fun ls hl => ?_)
  exact (tModel_mainFunction_blk l dC dI ad cA X 2000).1 σ (-1) ((σ.1 35) - 1) H locs ls hF hP hD hS (lv_sub hl [2, 1, 0] rfl)
theorem d_Model_makeVariable_0 : decode b_Model_makeVariable 0 = .ok (.iconst 0, 1) := by decide +kernel
theorem d_Model_makeVariable_1 : decode b_Model_makeVariable 1 = .ok (.istore_n 2, 1) := by decide +kernel
theorem d_Model_makeVariable_2 : decode b_Model_makeVariable 2 = .ok (.iconst 0, 1) := by decide +kernel
theorem d_Model_makeVariable_3 : decode b_Model_makeVariable 3 = .ok (.istore_n 3, 1) := by decide +kernel
theorem d_Model_makeVariable_4 : decode b_Model_makeVariable 4 = .ok (.iload_n 3, 1) := by decide +kernel
theorem d_Model_makeVariable_5 : decode b_Model_makeVariable 5 = .ok (.aload_n 0, 1) := by decide +kernel
theorem d_Model_makeVariable_6 : decode b_Model_makeVariable 6 = .ok (.getfield 224, 3) := by decide +kernel
theorem d_Model_makeVariable_9 : decode b_Model_makeVariable 9 = .ok (.if_icmp .ge 46, 3) := by decide +kernel
theorem d_Model_makeVariable_12 : decode b_Model_makeVariable 12 = .ok (.iload_n 2, 1) := by decide +kernel
theorem d_Model_makeVariable_13 : decode b_Model_makeVariable 13 = .ok (.ifCond .ne 30, 3) := by decide +kernel
theorem d_Model_makeVariable_16 : decode b_Model_makeVariable 16 = .ok (.aload_n 0, 1) := by decide +kernel
theorem d_Model_makeVariable_17 : decode b_Model_makeVariable 17 = .ok (.getfield 67, 3) := by decide +kernel
theorem d_Model_makeVariable_20 : decode b_Model_makeVariable 20 = .ok (.iload_n 3, 1) := by decide +kernel
theorem d_Model_makeVariable_21 : decode b_Model_makeVariable 21 = .ok (.iaload, 1) := by decide +kernel
theorem d_Model_makeVariable_22 : decode b_Model_makeVariable 22 = .ok (.aload_n 0, 1) := by decide +kernel
theorem d_Model_makeVariable_23 : decode b_Model_makeVariable 23 = .ok (.getfield 287, 3) := by decide +kernel
theorem d_Model_makeVariable_26 : decode b_Model_makeVariable 26 = .ok (.if_icmp .ne 21, 3) := by decide +kernel
theorem d_Model_makeVariable_29 : decode b_Model_makeVariable 29 = .ok (.aload_n 0, 1) := by decide +kernel
theorem d_Model_makeVariable_30 : decode b_Model_makeVariable 30 = .ok (.aload_n 0, 1) := by decide +kernel
theorem d_Model_makeVariable_31 : decode b_Model_makeVariable 31 = .ok (.getfield 64, 3) := by decide +kernel
theorem d_Model_makeVariable_34 : decode b_Model_makeVariable 34 = .ok (.iload_n 3, 1) := by decide +kernel
theorem d_Model_makeVariable_35 : decode b_Model_makeVariable 35 = .ok (.iaload, 1) := by decide +kernel
theorem d_Model_makeVariable_36 : decode b_Model_makeVariable 36 = .ok (.iload_n 1, 1) := by decide +kernel
theorem d_Model_makeVariable_37 : decode b_Model_makeVariable 37 = .ok (.invokevirtual 227, 3) := by decide +kernel
theorem d_Model_makeVariable_40 : decode b_Model_makeVariable 40 = .ok (.ifCond .eq 7, 3) := by decide +kernel
theorem d_Model_makeVariable_43 : decode b_Model_makeVariable 43 = .ok (.iconst 1, 1) := by decide +kernel
theorem d_Model_makeVariable_44 : decode b_Model_makeVariable 44 = .ok (.goto 4, 3) := by decide +kernel
theorem d_Model_makeVariable_47 : decode b_Model_makeVariable 47 = .ok (.iconst 0, 1) := by decide +kernel
theorem d_Model_makeVariable_48 : decode b_Model_makeVariable 48 = .ok (.istore_n 2, 1) := by decide +kernel
theorem d_Model_makeVariable_49 : decode b_Model_makeVariable 49 = .ok (.iinc 3 1, 3) := by decide +kernel
theorem d_Model_makeVariable_52 : decode b_Model_makeVariable 52 = .ok (.goto (-48), 3) := by decide +kernel
theorem d_Model_makeVariable_55 : decode b_Model_makeVariable 55 = .ok (.iload_n 2, 1) := by decide +kernel
theorem d_Model_makeVariable_56 : decode b_Model_makeVariable 56 = .ok (.ifCond .ne 12, 3) := by decide +kernel
theorem d_Model_makeVariable_59 : decode b_Model_makeVariable 59 = .ok (.aload_n 0, 1) := by decide +kernel
theorem d_Model_makeVariable_60 : decode b_Model_makeVariable 60 = .ok (.getfield 224, 3) := by decide +kernel
theorem d_Model_makeVariable_63 : decode b_Model_makeVariable 63 = .ok (.bipush 12, 2) := by decide +kernel
theorem d_Model_makeVariable_65 : decode b_Model_makeVariable 65 = .ok (.if_icmp .lt 8, 3) := by decide +kernel
theorem d_Model_makeVariable_68 : decode b_Model_makeVariable 68 = .ok (.aload_n 0, 1) := by decide +kernel
theorem d_Model_makeVariable_69 : decode b_Model_makeVariable 69 = .ok (.iload_n 1, 1) := by decide +kernel
theorem d_Model_makeVariable_70 : decode b_Model_makeVariable 70 = .ok (.invokevirtual 249, 3) := by decide +kernel
theorem d_Model_makeVariable_73 : decode b_Model_makeVariable 73 = .ok (.aload_n 0, 1) := by decide +kernel
theorem d_Model_makeVariable_74 : decode b_Model_makeVariable 74 = .ok (.getfield 64, 3) := by decide +kernel
theorem d_Model_makeVariable_77 : decode b_Model_makeVariable 77 = .ok (.aload_n 0, 1) := by decide +kernel
theorem d_Model_makeVariable_78 : decode b_Model_makeVariable 78 = .ok (.getfield 224, 3) := by decide +kernel
theorem d_Model_makeVariable_81 : decode b_Model_makeVariable 81 = .ok (.iload_n 1, 1) := by decide +kernel
theorem d_Model_makeVariable_82 : decode b_Model_makeVariable 82 = .ok (.iastore, 1) := by decide +kernel
theorem d_Model_makeVariable_83 : decode b_Model_makeVariable 83 = .ok (.aload_n 0, 1) := by decide +kernel
theorem d_Model_makeVariable_84 : decode b_Model_makeVariable 84 = .ok (.getfield 67, 3) := by decide +kernel
theorem d_Model_makeVariable_87 : decode b_Model_makeVariable 87 = .ok (.aload_n 0, 1) := by decide +kernel
theorem d_Model_makeVariable_88 : decode b_Model_makeVariable 88 = .ok (.getfield 224, 3) := by decide +kernel
theorem d_Model_makeVariable_91 : decode b_Model_makeVariable 91 = .ok (.aload_n 0, 1) := by decide +kernel
theorem d_Model_makeVariable_92 : decode b_Model_makeVariable 92 = .ok (.getfield 287, 3) := by decide +kernel
theorem d_Model_makeVariable_95 : decode b_Model_makeVariable 95 = .ok (.iastore, 1) := by decide +kernel
theorem d_Model_makeVariable_96 : decode b_Model_makeVariable 96 = .ok (.aload_n 0, 1) := by decide +kernel
theorem d_Model_makeVariable_97 : decode b_Model_makeVariable 97 = .ok (.dup, 1) := by decide +kernel
theorem d_Model_makeVariable_98 : decode b_Model_makeVariable 98 = .ok (.getfield 224, 3) := by decide +kernel
theorem d_Model_makeVariable_101 : decode b_Model_makeVariable 101 = .ok (.aload_n 0, 1) := by decide +kernel
theorem d_Model_makeVariable_102 : decode b_Model_makeVariable 102 = .ok (.getfield 224, 3) := by decide +kernel
theorem d_Model_makeVariable_105 : decode b_Model_makeVariable 105 = .ok (.bipush 119, 2) := by decide +kernel
theorem d_Model_makeVariable_107 : decode b_Model_makeVariable 107 = .ok (.if_icmp .ge 7, 3) := by decide +kernel
theorem d_Model_makeVariable_110 : decode b_Model_makeVariable 110 = .ok (.iconst 1, 1) := by decide +kernel
theorem d_Model_makeVariable_111 : decode b_Model_makeVariable 111 = .ok (.goto 4, 3) := by decide +kernel
theorem d_Model_makeVariable_114 : decode b_Model_makeVariable 114 = .ok (.iconst 0, 1) := by decide +kernel
theorem d_Model_makeVariable_115 : decode b_Model_makeVariable 115 = .ok (.iadd, 1) := by decide +kernel
theorem d_Model_makeVariable_116 : decode b_Model_makeVariable 116 = .ok (.putfield 224, 3) := by decide +kernel
theorem d_Model_makeVariable_119 : decode b_Model_makeVariable 119 = .ok (.return_, 1) := by decide +kernel
def tModel_makeVariable_b1 (k : Nat → St → Int32 → Int32 → Int32 → Option (St)) (σ : St) (x1 : Int32) (x2 : Int32) (x3 : Int32) : Option (St) := if (σ.1 38) ≤ x3 then if x2 = 0 then if (σ.1 38) < 12 then k 6 σ x1 0 0 else k 5 σ x1 0 0 else k 5 σ x1 0 0 else if x2 = 0 then gd (inB x3 120) (if ((σ.2.2.1 32) x3.toNatClampNeg) = (σ.1 39) then gd (inB x3 120) (b1 (tModel_areAlike σ ((σ.2.2.1 31) x3.toNatClampNeg) x1) (fun r8 => if r8 = 0 then k 3 σ x1 x3 0 else k 2 σ x1 x3 0)) else k 3 σ x1 x3 0) else k 2 σ x1 x3 0
def tModel_makeVariable_b2 (k : Nat → St → Int32 → Int32 → Int32 → Option (St)) (σ : St) (x1 : Int32) (x2 : Int32) (x3 : Int32) : Option (St) := k 4 σ x1 x2 1
def tModel_makeVariable_b3 (k : Nat → St → Int32 → Int32 → Int32 → Option (St)) (σ : St) (x1 : Int32) (x2 : Int32) (x3 : Int32) : Option (St) := k 4 σ x1 x2 0
def tModel_makeVariable_b4 (k : Nat → St → Int32 → Int32 → Int32 → Option (St)) (σ : St) (x1 : Int32) (x2 : Int32) (x3 : Int32) : Option (St) := k 1 σ x1 x3 (x2 + 1)
def tModel_makeVariable_b5 (k : Nat → St → Int32 → Int32 → Int32 → Option (St)) (σ : St) (x1 : Int32) (x2 : Int32) (x3 : Int32) : Option (St) := b1 (tModel_notName σ x1) (fun u10 => k 6 u10 x1 0 0)
def tModel_makeVariable_b6 (k : Nat → St → Int32 → Int32 → Int32 → Option (St)) (σ : St) (x1 : Int32) (x2 : Int32) (x3 : Int32) : Option (St) := gd (inB (σ.1 38) 120) (gd (inB (σ.1 38) 120) (if (119 : Int32) ≤ (σ.1 38) then some (sI (sA (sA σ 31 (upd (σ.2.2.1 31) (σ.1 38).toNatClampNeg x1)) 32 (upd (σ.2.2.1 32) (σ.1 38).toNatClampNeg (σ.1 39))) 38 ((σ.1 38) + 0)) else some (sI (sA (sA σ 31 (upd (σ.2.2.1 31) (σ.1 38).toNatClampNeg x1)) 32 (upd (σ.2.2.1 32) (σ.1 38).toNatClampNeg (σ.1 39))) 38 ((σ.1 38) + 1))))
def tModel_makeVariable_L : Nat → Nat → St → Int32 → Int32 → Int32 → Option (St)
  | 0, _, _, _, _, _ => none
  | n + 1, lab, σ, x1, x2, x3 => match lab with
    | 1 => tModel_makeVariable_b1 (tModel_makeVariable_L n) σ x1 x2 x3
    | 2 => tModel_makeVariable_b2 (tModel_makeVariable_L n) σ x1 x2 x3
    | 3 => tModel_makeVariable_b3 (tModel_makeVariable_L n) σ x1 x2 x3
    | 4 => tModel_makeVariable_b4 (tModel_makeVariable_L n) σ x1 x2 x3
    | 5 => tModel_makeVariable_b5 (tModel_makeVariable_L n) σ x1 x2 x3
    | 6 => tModel_makeVariable_b6 (tModel_makeVariable_L n) σ x1 x2 x3
    | _ => none
def tModel_makeVariable (σ : St) (a1 : Int32) : Option (St) := tModel_makeVariable_L 2000 1 σ a1 0 0
set_option maxHeartbeats 4000000 in
set_option maxRecDepth 100000 in
theorem tModel_makeVariable_blk {p : Program} {e : Env} {s : State} {m : MethodId} {args : Array Value} {below : List Frame} {meth : Method} {c : Code} {A : Nat → Prop} (l : Launch) (dC : Nat → ClassId) (dI : Nat → Nat → Nat) (ad : Nat → Nat) (cA : Nat → ClassId) {σ' : St} (X : Cx p s m args meth c b_Model_makeVariable 4 none "TinyForgeModel" (dC, dI) (ttys cA) ad A) : ∀ n : Nat, (∀ (σ : St) (x1 : Int32) (x2 : Int32) (x3 : Int32) (H : Heap) (locs : List Loc) (ls : Array Slot), tModel_makeVariable_L n 1 σ x1 x2 x3 = some σ' → va_P (dC, dI) vwCl (tcw ad cA σ) H → va_D A (tcw ad cA σ) → va_S A s.heap H locs → lv_has ls 4 [(0, .ref (ad 11)), (1, .int x1), (2, .int x2), (3, .int x3)] → W p l e { frames := 1, cells := 0, slots := 0, locals := 24 } s m args below meth c H locs 0 0 (MQ below (QV (dC, dI) (ttys cA) (tcw ad cA) A σ') args s 0 0 A) (F0 m 4 ls [])) ∧ (∀ (σ : St) (x1 : Int32) (x2 : Int32) (x3 : Int32) (H : Heap) (locs : List Loc) (ls : Array Slot), tModel_makeVariable_L n 2 σ x1 x2 x3 = some σ' → va_P (dC, dI) vwCl (tcw ad cA σ) H → va_D A (tcw ad cA σ) → va_S A s.heap H locs → lv_has ls 4 [(0, .ref (ad 11)), (1, .int x1), (3, .int x2)] → W p l e { frames := 1, cells := 0, slots := 0, locals := 24 } s m args below meth c H locs 0 0 (MQ below (QV (dC, dI) (ttys cA) (tcw ad cA) A σ') args s 0 0 A) (F0 m 43 ls [])) ∧ (∀ (σ : St) (x1 : Int32) (x2 : Int32) (x3 : Int32) (H : Heap) (locs : List Loc) (ls : Array Slot), tModel_makeVariable_L n 3 σ x1 x2 x3 = some σ' → va_P (dC, dI) vwCl (tcw ad cA σ) H → va_D A (tcw ad cA σ) → va_S A s.heap H locs → lv_has ls 4 [(0, .ref (ad 11)), (1, .int x1), (3, .int x2)] → W p l e { frames := 1, cells := 0, slots := 0, locals := 24 } s m args below meth c H locs 0 0 (MQ below (QV (dC, dI) (ttys cA) (tcw ad cA) A σ') args s 0 0 A) (F0 m 47 ls [])) ∧ (∀ (σ : St) (x1 : Int32) (x2 : Int32) (x3 : Int32) (H : Heap) (locs : List Loc) (ls : Array Slot), tModel_makeVariable_L n 4 σ x1 x2 x3 = some σ' → va_P (dC, dI) vwCl (tcw ad cA σ) H → va_D A (tcw ad cA σ) → va_S A s.heap H locs → lv_has ls 4 [(0, .ref (ad 11)), (1, .int x1), (3, .int x2)] → W p l e { frames := 1, cells := 0, slots := 0, locals := 24 } s m args below meth c H locs 0 0 (MQ below (QV (dC, dI) (ttys cA) (tcw ad cA) A σ') args s 0 0 A) (F0 m 48 ls [.int x3])) ∧ (∀ (σ : St) (x1 : Int32) (x2 : Int32) (x3 : Int32) (H : Heap) (locs : List Loc) (ls : Array Slot), tModel_makeVariable_L n 5 σ x1 x2 x3 = some σ' → va_P (dC, dI) vwCl (tcw ad cA σ) H → va_D A (tcw ad cA σ) → va_S A s.heap H locs → lv_has ls 4 [(0, .ref (ad 11)), (1, .int x1)] → W p l e { frames := 1, cells := 0, slots := 0, locals := 24 } s m args below meth c H locs 0 0 (MQ below (QV (dC, dI) (ttys cA) (tcw ad cA) A σ') args s 0 0 A) (F0 m 68 ls [])) ∧ (∀ (σ : St) (x1 : Int32) (x2 : Int32) (x3 : Int32) (H : Heap) (locs : List Loc) (ls : Array Slot), tModel_makeVariable_L n 6 σ x1 x2 x3 = some σ' → va_P (dC, dI) vwCl (tcw ad cA σ) H → va_D A (tcw ad cA σ) → va_S A s.heap H locs → lv_has ls 4 [(0, .ref (ad 11)), (1, .int x1)] → W p l e { frames := 1, cells := 0, slots := 0, locals := 24 } s m args below meth c H locs 0 0 (MQ below (QV (dC, dI) (ttys cA) (tcw ad cA) A σ') args s 0 0 A) (F0 m 73 ls [])) := by
  obtain ⟨hx, hb, hr, hml, hown, hlocks, hts, hA, hK, hZ⟩ := id X
  intro n
  induction n with
  | zero => exact ⟨(fun σ x1 x2 x3 H locs ls hF => by cases hF), (fun σ x1 x2 x3 H locs ls hF => by cases hF), (fun σ x1 x2 x3 H locs ls hF => by cases hF), (fun σ x1 x2 x3 H locs ls hF => by cases hF), (fun σ x1 x2 x3 H locs ls hF => by cases hF), (fun σ x1 x2 x3 H locs ls hF => by cases hF)⟩
  | succ n ihn =>
    refine ⟨fun σ x1 x2 x3 H locs ls hF hP hD hS hl => ?_, fun σ x1 x2 x3 H locs ls hF hP hD hS hl => ?_, fun σ x1 x2 x3 H locs ls hF hP hD hS hl => ?_, fun σ x1 x2 x3 H locs ls hF hP hD hS hl => ?_, fun σ x1 x2 x3 H locs ls hF hP hD hS hl => ?_, fun σ x1 x2 x3 H locs ls hF hP hD hS hl => ?_⟩
    · have hF : tModel_makeVariable_b1 (tModel_makeVariable_L n) σ x1 x2 x3 = some σ' := hF
      unfold tModel_makeVariable_b1 at hF
      refine lv_iload_n hx hb d_Model_makeVariable_4 rfl (lv_at hl 3 rfl) ?_
      refine lv_aload_n hx hb d_Model_makeVariable_5 rfl (lv_at hl 0 rfl) ?_
      refine va_get (D := (dC, dI)) (ci := 11) (v := .int (σ.1 38)) hx hb hts i_Model hown hK hP 11 rfl rfl 28 (by decide) (hts _ w_805d5a2f41) (fun _ h9 => h9) rfl d_Model_makeVariable_6 ?_
      refine lv_icmp_ge (tgt := 55) hx hb d_Model_makeVariable_9 (by decide) (fun c_1 => ?_) (fun c_1 => ?_)
      · have hF := ifp hF c_1
        refine lv_iload_n hx hb d_Model_makeVariable_55 rfl (lv_at hl 2 rfl) ?_
        refine lv_if_ne (tgt := 68) hx hb d_Model_makeVariable_56 (by decide) (fun c_2 => ?_) (fun c_2 => ?_)
        · have hF := ifn hF c_2
          exact ihn.2.2.2.2.1 σ x1 0 0 H locs ls hF hP hD hS (lv_sub hl [0, 1] rfl)
        · have hF := ifp hF c_2
          refine lv_aload_n hx hb d_Model_makeVariable_59 rfl (lv_at hl 0 rfl) ?_
          refine va_get (D := (dC, dI)) (ci := 11) (v := .int (σ.1 38)) hx hb hts i_Model hown hK hP 11 rfl rfl 28 (by decide) (hts _ w_805d5a2f41) (fun _ h9 => h9) rfl d_Model_makeVariable_60 ?_
          refine lv_bipush (v := 12) hx hb d_Model_makeVariable_63 (by decide) ?_
          refine lv_icmp_lt (tgt := 73) hx hb d_Model_makeVariable_65 (by decide) (fun c_3 => ?_) (fun c_3 => ?_)
          · have hF := ifp hF c_3
            exact ihn.2.2.2.2.2 σ x1 0 0 H locs ls hF hP hD hS (lv_sub hl [0, 1] rfl)
          · have hF := ifn hF c_3
            exact ihn.2.2.2.2.1 σ x1 0 0 H locs ls hF hP hD hS (lv_sub hl [0, 1] rfl)
      · have hF := ifn hF c_1
        refine lv_iload_n hx hb d_Model_makeVariable_12 rfl (lv_at hl 2 rfl) ?_
        refine lv_if_ne (tgt := 43) hx hb d_Model_makeVariable_13 (by decide) (fun c_4 => ?_) (fun c_4 => ?_)
        · have hF := ifn hF c_4
          exact ihn.2.1 σ x1 x3 0 H locs ls hF hP hD hS (lv_sub hl [0, 1, 3] rfl)
        · have hF := ifp hF c_4
          refine lv_aload_n hx hb d_Model_makeVariable_16 rfl (lv_at hl 0 rfl) ?_
          refine va_get (D := (dC, dI)) (ci := 11) (v := .ref (ad 47)) hx hb hts i_Model hown hK hP 11 rfl rfl 31 (by decide) (hts _ w_50ab1184d5) (fun _ h9 => h9) rfl d_Model_makeVariable_17 ?_
          refine lv_iload_n hx hb d_Model_makeVariable_20 rfl (lv_at hl 3 rfl) ?_
          obtain ⟨g_5, hF⟩ := gdE hF
          refine va_iald (f := (σ.2.2.1 32)) hx hb hK hP 47 0 rfl rfl (inE g_5) d_Model_makeVariable_21 ?_
          refine lv_aload_n hx hb d_Model_makeVariable_22 rfl (lv_at hl 0 rfl) ?_
          refine va_get (D := (dC, dI)) (ci := 11) (v := .int (σ.1 39)) hx hb hts i_Model hown hK hP 11 rfl rfl 29 (by decide) (hts _ w_fd102d3787) (fun _ h9 => h9) rfl d_Model_makeVariable_23 ?_
          refine lv_icmp_ne (tgt := 47) hx hb d_Model_makeVariable_26 (by decide) (fun c_6 => ?_) (fun c_6 => ?_)
          · have hF := ifn hF c_6
            exact ihn.2.2.1 σ x1 x3 0 H locs ls hF hP hD hS (lv_sub hl [0, 1, 3] rfl)
          · have hF := ifp hF c_6
            refine lv_aload_n hx hb d_Model_makeVariable_29 rfl (lv_at hl 0 rfl) ?_
            refine lv_aload_n hx hb d_Model_makeVariable_30 rfl (lv_at hl 0 rfl) ?_
            refine va_get (D := (dC, dI)) (ci := 11) (v := .ref (ad 46)) hx hb hts i_Model hown hK hP 11 rfl rfl 30 (by decide) (hts _ w_c6f89adc81) (fun _ h9 => h9) rfl d_Model_makeVariable_31 ?_
            refine lv_iload_n hx hb d_Model_makeVariable_34 rfl (lv_at hl 3 rfl) ?_
            obtain ⟨g_7, hF⟩ := gdE hF
            refine va_iald (f := (σ.2.2.1 31)) hx hb hK hP 46 0 rfl rfl (inE g_7) d_Model_makeVariable_35 ?_
            refine lv_iload_n hx hb d_Model_makeVariable_36 rfl (lv_at hl 1 rfl) ?_
            obtain ⟨r8, h8, hF⟩ := b1E hF
            refine callVI (As := [.int ((σ.2.2.1 31) x3.toNatClampNeg), .int x1]) X (ct_Model_areAlike l dC dI ad cA H.size h8) lk_Model_227 ⟨rfl, rfl, by decide, by decide⟩ 11 rfl rfl hP hD hS hl.1 rfl rfl (Nat.le_of_ble_eq_true rfl) d_Model_makeVariable_37 (fun H locs hP hD hS => ?_)
            refine lv_if_eq (tgt := 47) hx hb d_Model_makeVariable_40 (by decide) (fun c_9 => ?_) (fun c_9 => ?_)
            · have hF := ifp hF c_9
              exact ihn.2.2.1 σ x1 x3 0 H locs ls hF hP hD hS (lv_sub hl [0, 1, 3] rfl)
            · have hF := ifn hF c_9
              exact ihn.2.1 σ x1 x3 0 H locs ls hF hP hD hS (lv_sub hl [0, 1, 3] rfl)
    · have hF : tModel_makeVariable_b2 (tModel_makeVariable_L n) σ x1 x2 x3 = some σ' := hF
      unfold tModel_makeVariable_b2 at hF
      refine lv_iconst (v := 1) hx hb d_Model_makeVariable_43 (by decide) ?_
      refine lv_goto (tgt := 48) hx hb d_Model_makeVariable_44 (by decide) ?_
      exact ihn.2.2.2.1 σ x1 x2 1 H locs ls hF hP hD hS (lv_sub hl [0, 1, 2] rfl)
    · have hF : tModel_makeVariable_b3 (tModel_makeVariable_L n) σ x1 x2 x3 = some σ' := hF
      unfold tModel_makeVariable_b3 at hF
      refine lv_iconst (v := 0) hx hb d_Model_makeVariable_47 (by decide) ?_
      exact ihn.2.2.2.1 σ x1 x2 0 H locs ls hF hP hD hS (lv_sub hl [0, 1, 2] rfl)
    · have hF : tModel_makeVariable_b4 (tModel_makeVariable_L n) σ x1 x2 x3 = some σ' := hF
      unfold tModel_makeVariable_b4 at hF
      refine lv_istore_n (lv' := [(2, .int x3), (0, .ref (ad 11)), (1, .int x1), (3, .int x2)]) hx hb d_Model_makeVariable_48 rfl hl (by decide) rfl (fun ls hl => ?_)
      refine lv_iinc (v := (x2 + 1)) (lv' := [(3, .int (x2 + 1)), (2, .int x3), (0, .ref (ad 11)), (1, .int x1)]) hx hb d_Model_makeVariable_49 hl (k := 3) rfl rfl (by decide) rfl (fun ls hl => ?_)
      refine lv_goto (tgt := 4) hx hb d_Model_makeVariable_52 (by decide) ?_
      exact ihn.1 σ x1 x3 (x2 + 1) H locs ls hF hP hD hS (lv_sub hl [2, 3, 1, 0] rfl)
    · have hF : tModel_makeVariable_b5 (tModel_makeVariable_L n) σ x1 x2 x3 = some σ' := hF
      unfold tModel_makeVariable_b5 at hF
      refine lv_aload_n hx hb d_Model_makeVariable_68 rfl (lv_at hl 0 rfl) ?_
      refine lv_iload_n hx hb d_Model_makeVariable_69 rfl (lv_at hl 1 rfl) ?_
      obtain ⟨u10, h10, hF⟩ := b1E hF
      refine callVV (As := [.int x1]) X (ct_Model_notName l dC dI ad cA H.size h10) lk_Model_249 ⟨rfl, rfl, by decide, by decide⟩ 11 rfl rfl hP hD hS hl.1 rfl rfl (Nat.le_of_ble_eq_true rfl) d_Model_makeVariable_70 (fun H locs hP hD hS => ?_)
      exact ihn.2.2.2.2.2 u10 x1 0 0 H locs ls hF hP hD hS (lv_sub hl [0, 1] rfl)
    · have hF : tModel_makeVariable_b6 (tModel_makeVariable_L n) σ x1 x2 x3 = some σ' := hF
      unfold tModel_makeVariable_b6 at hF
      refine lv_aload_n hx hb d_Model_makeVariable_73 rfl (lv_at hl 0 rfl) ?_
      refine va_get (D := (dC, dI)) (ci := 11) (v := .ref (ad 46)) hx hb hts i_Model hown hK hP 11 rfl rfl 30 (by decide) (hts _ w_c6f89adc81) (fun _ h9 => h9) rfl d_Model_makeVariable_74 ?_
      refine lv_aload_n hx hb d_Model_makeVariable_77 rfl (lv_at hl 0 rfl) ?_
      refine va_get (D := (dC, dI)) (ci := 11) (v := .int (σ.1 38)) hx hb hts i_Model hown hK hP 11 rfl rfl 28 (by decide) (hts _ w_805d5a2f41) (fun _ h9 => h9) rfl d_Model_makeVariable_78 ?_
      refine lv_iload_n hx hb d_Model_makeVariable_81 rfl (lv_at hl 1 rfl) ?_
      obtain ⟨g_11, hF⟩ := gdE hF
      refine va_iast (f := (σ.2.2.1 31)) hx hb hK hP hD hS 46 0 rfl rfl (inE g_11) d_Model_makeVariable_82 (fun H locs hP hD hS => ?_)
      have hP : va_P (dC, dI) vwCl (tcw ad cA (sA σ 31 (upd (σ.2.2.1 31) (σ.1 38).toNatClampNeg x1))) H := hP
      have hD : va_D A (tcw ad cA (sA σ 31 (upd (σ.2.2.1 31) (σ.1 38).toNatClampNeg x1))) := hD
      refine lv_aload_n hx hb d_Model_makeVariable_83 rfl (lv_at hl 0 rfl) ?_
      refine va_get (D := (dC, dI)) (ci := 11) (v := .ref (ad 47)) hx hb hts i_Model hown hK hP 11 rfl rfl 31 (by decide) (hts _ w_50ab1184d5) (fun _ h9 => h9) rfl d_Model_makeVariable_84 ?_
      refine lv_aload_n hx hb d_Model_makeVariable_87 rfl (lv_at hl 0 rfl) ?_
      refine va_get (D := (dC, dI)) (ci := 11) (v := .int (σ.1 38)) hx hb hts i_Model hown hK hP 11 rfl rfl 28 (by decide) (hts _ w_805d5a2f41) (fun _ h9 => h9) rfl d_Model_makeVariable_88 ?_
      refine lv_aload_n hx hb d_Model_makeVariable_91 rfl (lv_at hl 0 rfl) ?_
      refine va_get (D := (dC, dI)) (ci := 11) (v := .int (σ.1 39)) hx hb hts i_Model hown hK hP 11 rfl rfl 29 (by decide) (hts _ w_fd102d3787) (fun _ h9 => h9) rfl d_Model_makeVariable_92 ?_
      obtain ⟨g_12, hF⟩ := gdE hF
      refine va_iast (f := (σ.2.2.1 32)) hx hb hK hP hD hS 47 0 rfl rfl (inE g_12) d_Model_makeVariable_95 (fun H locs hP hD hS => ?_)
      have hP : va_P (dC, dI) vwCl (tcw ad cA (sA (sA σ 31 (upd (σ.2.2.1 31) (σ.1 38).toNatClampNeg x1)) 32 (upd (σ.2.2.1 32) (σ.1 38).toNatClampNeg (σ.1 39)))) H := hP
      have hD : va_D A (tcw ad cA (sA (sA σ 31 (upd (σ.2.2.1 31) (σ.1 38).toNatClampNeg x1)) 32 (upd (σ.2.2.1 32) (σ.1 38).toNatClampNeg (σ.1 39)))) := hD
      refine lv_aload_n hx hb d_Model_makeVariable_96 rfl (lv_at hl 0 rfl) ?_
      refine lv_dup hx hb d_Model_makeVariable_97 rfl ?_
      refine va_get (D := (dC, dI)) (ci := 11) (v := .int (σ.1 38)) hx hb hts i_Model hown hK hP 11 rfl rfl 28 (by decide) (hts _ w_805d5a2f41) (fun _ h9 => h9) rfl d_Model_makeVariable_98 ?_
      refine lv_aload_n hx hb d_Model_makeVariable_101 rfl (lv_at hl 0 rfl) ?_
      refine va_get (D := (dC, dI)) (ci := 11) (v := .int (σ.1 38)) hx hb hts i_Model hown hK hP 11 rfl rfl 28 (by decide) (hts _ w_805d5a2f41) (fun _ h9 => h9) rfl d_Model_makeVariable_102 ?_
      refine lv_bipush (v := 119) hx hb d_Model_makeVariable_105 (by decide) ?_
      refine lv_icmp_ge (tgt := 114) hx hb d_Model_makeVariable_107 (by decide) (fun c_13 => ?_) (fun c_13 => ?_)
      · have hF := ifp hF c_13
        refine lv_iconst (v := 0) hx hb d_Model_makeVariable_114 (by decide) ?_
        refine lv_iadd hx hb d_Model_makeVariable_115 ?_
        refine va_put (D := (dC, dI)) (ci := 11) (v := .int ((σ.1 38) + 0)) (ty := .int) hx hb hts i_Model t_Model t_Model_ok n_Model hown hK hP hD hS 11 rfl rfl 28 (by decide) (hts _ w_805d5a2f41) (fun _ h9 => h9) rfl (by decide +kernel) rfl rfl (Nat.le_of_ble_eq_true rfl) d_Model_makeVariable_116 (fun H locs hP hD hS => ?_)
        have hP : va_P (dC, dI) vwCl (tcw ad cA (sI (sA (sA σ 31 (upd (σ.2.2.1 31) (σ.1 38).toNatClampNeg x1)) 32 (upd (σ.2.2.1 32) (σ.1 38).toNatClampNeg (σ.1 39))) 38 ((σ.1 38) + 0))) H := hP
        have hD : va_D A (tcw ad cA (sI (sA (sA σ 31 (upd (σ.2.2.1 31) (σ.1 38).toNatClampNeg x1)) 32 (upd (σ.2.2.1 32) (σ.1 38).toNatClampNeg (σ.1 39))) 38 ((σ.1 38) + 0))) := hD
        cases hF
        exact leafV X hP hD hS d_Model_makeVariable_119
      · have hF := ifn hF c_13
        refine lv_iconst (v := 1) hx hb d_Model_makeVariable_110 (by decide) ?_
        refine lv_goto (tgt := 115) hx hb d_Model_makeVariable_111 (by decide) ?_
        refine lv_iadd hx hb d_Model_makeVariable_115 ?_
        refine va_put (D := (dC, dI)) (ci := 11) (v := .int ((σ.1 38) + 1)) (ty := .int) hx hb hts i_Model t_Model t_Model_ok n_Model hown hK hP hD hS 11 rfl rfl 28 (by decide) (hts _ w_805d5a2f41) (fun _ h9 => h9) rfl (by decide +kernel) rfl rfl (Nat.le_of_ble_eq_true rfl) d_Model_makeVariable_116 (fun H locs hP hD hS => ?_)
        have hP : va_P (dC, dI) vwCl (tcw ad cA (sI (sA (sA σ 31 (upd (σ.2.2.1 31) (σ.1 38).toNatClampNeg x1)) 32 (upd (σ.2.2.1 32) (σ.1 38).toNatClampNeg (σ.1 39))) 38 ((σ.1 38) + 1))) H := hP
        have hD : va_D A (tcw ad cA (sI (sA (sA σ 31 (upd (σ.2.2.1 31) (σ.1 38).toNatClampNeg x1)) 32 (upd (σ.2.2.1 32) (σ.1 38).toNatClampNeg (σ.1 39))) 38 ((σ.1 38) + 1))) := hD
        cases hF
        exact leafV X hP hD hS d_Model_makeVariable_119
set_option maxHeartbeats 4000000 in
set_option maxRecDepth 100000 in
theorem ct_Model_makeVariable (l : Launch) (dC : Nat → ClassId) (dI : Nat → Nat → Nat) (ad : Nat → Nat) (cA : Nat → ClassId) (sz : Nat) {σ : St} {a1 : Int32} {σ' : St} (hF : tModel_makeVariable σ a1 = some σ') : MV l y_Model_makeVariable b_Model_makeVariable 4 none { frames := 1, cells := 0, slots := 0, locals := 24 } (dC, dI) (ttys cA) ad (tcw ad cA) [.ref (ad 11), .int a1] σ sz σ' := by
  refine startM (own := "TinyForgeModel") (Qc := fun A => QV (dC, dI) (ttys cA) (tcw ad cA) A σ') rfl rfl (Nat.le_of_ble_eq_true rfl) ?_
  intro p e s m below meth c A H locs ls X hP hD hS hl
  have hl : lv_has ls 4 [(0, .ref (ad 11)), (1, .int a1)] := hl
  obtain ⟨hx, hb, hr, hml, hown, hlocks, hts, hA, hK, hZ⟩ := id X
  unfold tModel_makeVariable at hF
  refine lv_iconst (v := 0) hx hb d_Model_makeVariable_0 (by decide) ?_
  refine lv_istore_n (lv' := [(2, .int 0), (0, .ref (ad 11)), (1, .int a1)]) hx hb d_Model_makeVariable_1 rfl hl (by decide) rfl (fun ls hl => ?_)
  refine lv_iconst (v := 0) hx hb d_Model_makeVariable_2 (by decide) ?_
  refine lv_istore_n (lv' := [(3, .int 0), (2, .int 0), (0, .ref (ad 11)), (1, .int a1)]) hx hb d_Model_makeVariable_3 rfl hl (by decide) rfl (fun ls hl => ?_)
  exact (tModel_makeVariable_blk l dC dI ad cA X 2000).1 σ a1 0 0 H locs ls hF hP hD hS (lv_sub hl [2, 3, 1, 0] rfl)
theorem d_Model_parameters_0 : decode b_Model_parameters 0 = .ok (.iconst 0, 1) := by decide +kernel
theorem d_Model_parameters_1 : decode b_Model_parameters 1 = .ok (.istore_n 1, 1) := by decide +kernel
theorem d_Model_parameters_2 : decode b_Model_parameters 2 = .ok (.aload_n 0, 1) := by decide +kernel
theorem d_Model_parameters_3 : decode b_Model_parameters 3 = .ok (.ldc2_w 244, 3) := by decide +kernel
theorem d_Model_parameters_6 : decode b_Model_parameters 6 = .ok (.invokevirtual 190, 3) := by decide +kernel
theorem d_Model_parameters_9 : decode b_Model_parameters 9 = .ok (.ifCond .ne 7, 3) := by decide +kernel
theorem d_Model_parameters_12 : decode b_Model_parameters 12 = .ok (.iconst 1, 1) := by decide +kernel
theorem d_Model_parameters_13 : decode b_Model_parameters 13 = .ok (.goto 4, 3) := by decide +kernel
theorem d_Model_parameters_16 : decode b_Model_parameters 16 = .ok (.iconst 0, 1) := by decide +kernel
theorem d_Model_parameters_17 : decode b_Model_parameters 17 = .ok (.istore_n 2, 1) := by decide +kernel
theorem d_Model_parameters_18 : decode b_Model_parameters 18 = .ok (.iload_n 2, 1) := by decide +kernel
theorem d_Model_parameters_19 : decode b_Model_parameters 19 = .ok (.ifCond .eq 114, 3) := by decide +kernel
theorem d_Model_parameters_22 : decode b_Model_parameters 22 = .ok (.aload_n 0, 1) := by decide +kernel
theorem d_Model_parameters_23 : decode b_Model_parameters 23 = .ok (.getfield 121, 3) := by decide +kernel
theorem d_Model_parameters_26 : decode b_Model_parameters 26 = .ok (.ifCond .ne 107, 3) := by decide +kernel
theorem d_Model_parameters_29 : decode b_Model_parameters 29 = .ok (.aload_n 0, 1) := by decide +kernel
theorem d_Model_parameters_30 : decode b_Model_parameters 30 = .ok (.ldc2_w 166, 3) := by decide +kernel
theorem d_Model_parameters_33 : decode b_Model_parameters 33 = .ok (.invokevirtual 252, 3) := by decide +kernel
theorem d_Model_parameters_36 : decode b_Model_parameters 36 = .ok (.aload_n 0, 1) := by decide +kernel
theorem d_Model_parameters_37 : decode b_Model_parameters 37 = .ok (.getfield 121, 3) := by decide +kernel
theorem d_Model_parameters_40 : decode b_Model_parameters 40 = .ok (.ifCond .ne 20, 3) := by decide +kernel
theorem d_Model_parameters_43 : decode b_Model_parameters 43 = .ok (.aload_n 0, 1) := by decide +kernel
theorem d_Model_parameters_44 : decode b_Model_parameters 44 = .ok (.getfield 17, 3) := by decide +kernel
theorem d_Model_parameters_47 : decode b_Model_parameters 47 = .ok (.aload_n 0, 1) := by decide +kernel
theorem d_Model_parameters_48 : decode b_Model_parameters 48 = .ok (.getfield 184, 3) := by decide +kernel
theorem d_Model_parameters_51 : decode b_Model_parameters 51 = .ok (.iaload, 1) := by decide +kernel
theorem d_Model_parameters_52 : decode b_Model_parameters 52 = .ok (.iconst 1, 1) := by decide +kernel
theorem d_Model_parameters_53 : decode b_Model_parameters 53 = .ok (.if_icmp .eq 7, 3) := by decide +kernel
theorem d_Model_parameters_56 : decode b_Model_parameters 56 = .ok (.aload_n 0, 1) := by decide +kernel
theorem d_Model_parameters_57 : decode b_Model_parameters 57 = .ok (.invokevirtual 194, 3) := by decide +kernel
theorem d_Model_parameters_60 : decode b_Model_parameters 60 = .ok (.aload_n 0, 1) := by decide +kernel
theorem d_Model_parameters_61 : decode b_Model_parameters 61 = .ok (.getfield 121, 3) := by decide +kernel
theorem d_Model_parameters_64 : decode b_Model_parameters 64 = .ok (.ifCond .ne 37, 3) := by decide +kernel
theorem d_Model_parameters_67 : decode b_Model_parameters 67 = .ok (.aload_n 0, 1) := by decide +kernel
theorem d_Model_parameters_68 : decode b_Model_parameters 68 = .ok (.aload_n 0, 1) := by decide +kernel
theorem d_Model_parameters_69 : decode b_Model_parameters 69 = .ok (.getfield 184, 3) := by decide +kernel
theorem d_Model_parameters_72 : decode b_Model_parameters 72 = .ok (.invokevirtual 306, 3) := by decide +kernel
theorem d_Model_parameters_75 : decode b_Model_parameters 75 = .ok (.iinc 1 1, 3) := by decide +kernel
theorem d_Model_parameters_78 : decode b_Model_parameters 78 = .ok (.iload_n 1, 1) := by decide +kernel
theorem d_Model_parameters_79 : decode b_Model_parameters 79 = .ok (.iconst 4, 1) := by decide +kernel
theorem d_Model_parameters_80 : decode b_Model_parameters 80 = .ok (.if_icmp .le 11, 3) := by decide +kernel
theorem d_Model_parameters_83 : decode b_Model_parameters 83 = .ok (.aload_n 0, 1) := by decide +kernel
theorem d_Model_parameters_84 : decode b_Model_parameters 84 = .ok (.aload_n 0, 1) := by decide +kernel
theorem d_Model_parameters_85 : decode b_Model_parameters 85 = .ok (.getfield 184, 3) := by decide +kernel
theorem d_Model_parameters_88 : decode b_Model_parameters 88 = .ok (.invokevirtual 249, 3) := by decide +kernel
theorem d_Model_parameters_91 : decode b_Model_parameters 91 = .ok (.aload_n 0, 1) := by decide +kernel
theorem d_Model_parameters_92 : decode b_Model_parameters 92 = .ok (.dup, 1) := by decide +kernel
theorem d_Model_parameters_93 : decode b_Model_parameters 93 = .ok (.getfield 184, 3) := by decide +kernel
theorem d_Model_parameters_96 : decode b_Model_parameters 96 = .ok (.iconst 1, 1) := by decide +kernel
theorem d_Model_parameters_97 : decode b_Model_parameters 97 = .ok (.iadd, 1) := by decide +kernel
theorem d_Model_parameters_98 : decode b_Model_parameters 98 = .ok (.putfield 184, 3) := by decide +kernel
theorem d_Model_parameters_101 : decode b_Model_parameters 101 = .ok (.aload_n 0, 1) := by decide +kernel
theorem d_Model_parameters_102 : decode b_Model_parameters 102 = .ok (.ldc2_w 267, 3) := by decide +kernel
theorem d_Model_parameters_105 : decode b_Model_parameters 105 = .ok (.invokevirtual 190, 3) := by decide +kernel
theorem d_Model_parameters_108 : decode b_Model_parameters 108 = .ok (.istore_n 2, 1) := by decide +kernel
theorem d_Model_parameters_109 : decode b_Model_parameters 109 = .ok (.iload_n 2, 1) := by decide +kernel
theorem d_Model_parameters_110 : decode b_Model_parameters 110 = .ok (.ifCond .eq (-92), 3) := by decide +kernel
theorem d_Model_parameters_113 : decode b_Model_parameters 113 = .ok (.aload_n 0, 1) := by decide +kernel
theorem d_Model_parameters_114 : decode b_Model_parameters 114 = .ok (.getfield 121, 3) := by decide +kernel
theorem d_Model_parameters_117 : decode b_Model_parameters 117 = .ok (.ifCond .ne (-99), 3) := by decide +kernel
theorem d_Model_parameters_120 : decode b_Model_parameters 120 = .ok (.aload_n 0, 1) := by decide +kernel
theorem d_Model_parameters_121 : decode b_Model_parameters 121 = .ok (.dup, 1) := by decide +kernel
theorem d_Model_parameters_122 : decode b_Model_parameters 122 = .ok (.getfield 184, 3) := by decide +kernel
theorem d_Model_parameters_125 : decode b_Model_parameters 125 = .ok (.iconst 1, 1) := by decide +kernel
theorem d_Model_parameters_126 : decode b_Model_parameters 126 = .ok (.iadd, 1) := by decide +kernel
theorem d_Model_parameters_127 : decode b_Model_parameters 127 = .ok (.putfield 184, 3) := by decide +kernel
theorem d_Model_parameters_130 : decode b_Model_parameters 130 = .ok (.goto (-112), 3) := by decide +kernel
theorem d_Model_parameters_133 : decode b_Model_parameters 133 = .ok (.aload_n 0, 1) := by decide +kernel
theorem d_Model_parameters_134 : decode b_Model_parameters 134 = .ok (.ldc2_w 244, 3) := by decide +kernel
theorem d_Model_parameters_137 : decode b_Model_parameters 137 = .ok (.invokevirtual 252, 3) := by decide +kernel
theorem d_Model_parameters_140 : decode b_Model_parameters 140 = .ok (.iload_n 1, 1) := by decide +kernel
theorem d_Model_parameters_141 : decode b_Model_parameters 141 = .ok (.ireturn, 1) := by decide +kernel
def tModel_parameters_b1 (k : Nat → St → Int32 → Int32 → Option (Int32 × St)) (σ : St) (x1 : Int32) (x2 : Int32) : Option (Int32 × St) := k 2 σ x1 x2
def tModel_parameters_b2 (k : Nat → St → Int32 → Int32 → Option (Int32 × St)) (σ : St) (x1 : Int32) (x2 : Int32) : Option (Int32 × St) := if x2 = 0 then b1 (tModel_need σ 41) (fun u4 => some (x1, u4)) else if (σ.1 29) = 0 then b1 (tModel_need σ 7630441) (fun u7 => if (u7.1 29) = 0 then gd (inB (u7.1 31) 500) (if ((u7.2.2.1 16) (u7.1 31).toNatClampNeg) = 1 then k 3 u7 x1 0 else b1 (tModel_spoil u7) (fun u11 => k 3 u11 x1 0)) else k 3 u7 x1 0) else b1 (tModel_need σ 41) (fun u6 => some (x1, u6))
def tModel_parameters_b3 (k : Nat → St → Int32 → Int32 → Option (Int32 × St)) (σ : St) (x1 : Int32) (x2 : Int32) : Option (Int32 × St) := if (σ.1 29) = 0 then b1 (tModel_makeVariable σ (σ.1 31)) (fun u13 => if (x1 + 1) ≤ 4 then k 4 u13 (x1 + 1) 0 else b1 (tModel_notName u13 (u13.1 31)) (fun u15 => k 4 u15 (x1 + 1) 0)) else k 5 σ x1 0
def tModel_parameters_b4 (k : Nat → St → Int32 → Int32 → Option (Int32 × St)) (σ : St) (x1 : Int32) (x2 : Int32) : Option (Int32 × St) := k 5 (sI σ 31 ((σ.1 31) + 1)) x1 0
def tModel_parameters_b5 (k : Nat → St → Int32 → Int32 → Option (Int32 × St)) (σ : St) (x1 : Int32) (x2 : Int32) : Option (Int32 × St) := b1 (tModel_sees σ 44) (fun r16 => if r16 = 0 then k 2 σ x1 r16 else if (σ.1 29) = 0 then k 2 (sI σ 31 ((σ.1 31) + 1)) x1 r16 else k 2 σ x1 r16)
def tModel_parameters_L : Nat → Nat → St → Int32 → Int32 → Option (Int32 × St)
  | 0, _, _, _, _ => none
  | n + 1, lab, σ, x1, x2 => match lab with
    | 1 => tModel_parameters_b1 (tModel_parameters_L n) σ x1 x2
    | 2 => tModel_parameters_b2 (tModel_parameters_L n) σ x1 x2
    | 3 => tModel_parameters_b3 (tModel_parameters_L n) σ x1 x2
    | 4 => tModel_parameters_b4 (tModel_parameters_L n) σ x1 x2
    | 5 => tModel_parameters_b5 (tModel_parameters_L n) σ x1 x2
    | _ => none
def tModel_parameters (σ : St) : Option (Int32 × St) := b1 (tModel_sees σ 41) (fun r1 => if r1 = 0 then tModel_parameters_L 2000 1 σ 0 1 else tModel_parameters_L 2000 1 σ 0 0)
set_option maxHeartbeats 4000000 in
set_option maxRecDepth 100000 in
theorem tModel_parameters_blk {p : Program} {e : Env} {s : State} {m : MethodId} {args : Array Value} {below : List Frame} {meth : Method} {c : Code} {A : Nat → Prop} (l : Launch) (dC : Nat → ClassId) (dI : Nat → Nat → Nat) (ad : Nat → Nat) (cA : Nat → ClassId) {r : Int32} {σ' : St} (X : Cx p s m args meth c b_Model_parameters 3 (some .int) "TinyForgeModel" (dC, dI) (ttys cA) ad A) : ∀ n : Nat, (∀ (σ : St) (x1 : Int32) (x2 : Int32) (H : Heap) (locs : List Loc) (ls : Array Slot), tModel_parameters_L n 1 σ x1 x2 = some (r, σ') → va_P (dC, dI) vwCl (tcw ad cA σ) H → va_D A (tcw ad cA σ) → va_S A s.heap H locs → lv_has ls 3 [(0, .ref (ad 11)), (1, .int x1)] → W p l e { frames := 3, cells := 0, slots := 0, locals := 70 } s m args below meth c H locs 0 0 (MQ below (QI (dC, dI) (ttys cA) (tcw ad cA) A r σ') args s 0 0 A) (F0 m 17 ls [.int x2])) ∧ (∀ (σ : St) (x1 : Int32) (x2 : Int32) (H : Heap) (locs : List Loc) (ls : Array Slot), tModel_parameters_L n 2 σ x1 x2 = some (r, σ') → va_P (dC, dI) vwCl (tcw ad cA σ) H → va_D A (tcw ad cA σ) → va_S A s.heap H locs → lv_has ls 3 [(0, .ref (ad 11)), (1, .int x1), (2, .int x2)] → W p l e { frames := 3, cells := 0, slots := 0, locals := 70 } s m args below meth c H locs 0 0 (MQ below (QI (dC, dI) (ttys cA) (tcw ad cA) A r σ') args s 0 0 A) (F0 m 18 ls [])) ∧ (∀ (σ : St) (x1 : Int32) (x2 : Int32) (H : Heap) (locs : List Loc) (ls : Array Slot), tModel_parameters_L n 3 σ x1 x2 = some (r, σ') → va_P (dC, dI) vwCl (tcw ad cA σ) H → va_D A (tcw ad cA σ) → va_S A s.heap H locs → lv_has ls 3 [(0, .ref (ad 11)), (1, .int x1)] → W p l e { frames := 3, cells := 0, slots := 0, locals := 70 } s m args below meth c H locs 0 0 (MQ below (QI (dC, dI) (ttys cA) (tcw ad cA) A r σ') args s 0 0 A) (F0 m 60 ls [])) ∧ (∀ (σ : St) (x1 : Int32) (x2 : Int32) (H : Heap) (locs : List Loc) (ls : Array Slot), tModel_parameters_L n 4 σ x1 x2 = some (r, σ') → va_P (dC, dI) vwCl (tcw ad cA σ) H → va_D A (tcw ad cA σ) → va_S A s.heap H locs → lv_has ls 3 [(0, .ref (ad 11)), (1, .int x1)] → W p l e { frames := 3, cells := 0, slots := 0, locals := 70 } s m args below meth c H locs 0 0 (MQ below (QI (dC, dI) (ttys cA) (tcw ad cA) A r σ') args s 0 0 A) (F0 m 91 ls [])) ∧ (∀ (σ : St) (x1 : Int32) (x2 : Int32) (H : Heap) (locs : List Loc) (ls : Array Slot), tModel_parameters_L n 5 σ x1 x2 = some (r, σ') → va_P (dC, dI) vwCl (tcw ad cA σ) H → va_D A (tcw ad cA σ) → va_S A s.heap H locs → lv_has ls 3 [(0, .ref (ad 11)), (1, .int x1)] → W p l e { frames := 3, cells := 0, slots := 0, locals := 70 } s m args below meth c H locs 0 0 (MQ below (QI (dC, dI) (ttys cA) (tcw ad cA) A r σ') args s 0 0 A) (F0 m 101 ls [])) := by
  obtain ⟨hx, hb, hr, hml, hown, hlocks, hts, hA, hK, hZ⟩ := id X
  intro n
  induction n with
  | zero => exact ⟨(fun σ x1 x2 H locs ls hF => by cases hF), (fun σ x1 x2 H locs ls hF => by cases hF), (fun σ x1 x2 H locs ls hF => by cases hF), (fun σ x1 x2 H locs ls hF => by cases hF), (fun σ x1 x2 H locs ls hF => by cases hF)⟩
  | succ n ihn =>
    refine ⟨fun σ x1 x2 H locs ls hF hP hD hS hl => ?_, fun σ x1 x2 H locs ls hF hP hD hS hl => ?_, fun σ x1 x2 H locs ls hF hP hD hS hl => ?_, fun σ x1 x2 H locs ls hF hP hD hS hl => ?_, fun σ x1 x2 H locs ls hF hP hD hS hl => ?_⟩
    · have hF : tModel_parameters_b1 (tModel_parameters_L n) σ x1 x2 = some (r, σ') := hF
      unfold tModel_parameters_b1 at hF
      refine lv_istore_n (lv' := [(2, .int x2), (0, .ref (ad 11)), (1, .int x1)]) hx hb d_Model_parameters_17 rfl hl (by decide) rfl (fun ls hl => ?_)
      exact ihn.2.1 σ x1 x2 H locs ls hF hP hD hS (lv_sub hl [1, 2, 0] rfl)
    · have hF : tModel_parameters_b2 (tModel_parameters_L n) σ x1 x2 = some (r, σ') := hF
      unfold tModel_parameters_b2 at hF
      refine lv_iload_n hx hb d_Model_parameters_18 rfl (lv_at hl 2 rfl) ?_
      refine lv_if_eq (tgt := 133) hx hb d_Model_parameters_19 (by decide) (fun c_3 => ?_) (fun c_3 => ?_)
      · have hF := ifp hF c_3
        refine lv_aload_n hx hb d_Model_parameters_133 rfl (lv_at hl 0 rfl) ?_
        refine lv_ldc2 (v := 41) hx hb hown (hts _ w_c6b9d4f3a9) d_Model_parameters_134 ?_
        obtain ⟨u4, h4, hF⟩ := b1E hF
        refine callVV (As := [.long 41]) X (ct_Model_need l dC dI ad cA H.size h4) lk_Model_252 ⟨rfl, rfl, by decide, by decide⟩ 11 rfl rfl hP hD hS hl.1 rfl rfl (Nat.le_of_ble_eq_true rfl) d_Model_parameters_137 (fun H locs hP hD hS => ?_)
        refine lv_iload_n hx hb d_Model_parameters_140 rfl (lv_at hl 1 rfl) ?_
        cases hF
        exact leafI X hP hD hS d_Model_parameters_141
      · have hF := ifn hF c_3
        refine lv_aload_n hx hb d_Model_parameters_22 rfl (lv_at hl 0 rfl) ?_
        refine va_get (D := (dC, dI)) (ci := 11) (v := .int (σ.1 29)) hx hb hts i_Model hown hK hP 11 rfl rfl 4 (by decide) (hts _ w_0464dc4398) (fun _ h9 => h9) rfl d_Model_parameters_23 ?_
        refine lv_if_ne (tgt := 133) hx hb d_Model_parameters_26 (by decide) (fun c_5 => ?_) (fun c_5 => ?_)
        · have hF := ifn hF c_5
          refine lv_aload_n hx hb d_Model_parameters_133 rfl (lv_at hl 0 rfl) ?_
          refine lv_ldc2 (v := 41) hx hb hown (hts _ w_c6b9d4f3a9) d_Model_parameters_134 ?_
          obtain ⟨u6, h6, hF⟩ := b1E hF
          refine callVV (As := [.long 41]) X (ct_Model_need l dC dI ad cA H.size h6) lk_Model_252 ⟨rfl, rfl, by decide, by decide⟩ 11 rfl rfl hP hD hS hl.1 rfl rfl (Nat.le_of_ble_eq_true rfl) d_Model_parameters_137 (fun H locs hP hD hS => ?_)
          refine lv_iload_n hx hb d_Model_parameters_140 rfl (lv_at hl 1 rfl) ?_
          cases hF
          exact leafI X hP hD hS d_Model_parameters_141
        · have hF := ifp hF c_5
          refine lv_aload_n hx hb d_Model_parameters_29 rfl (lv_at hl 0 rfl) ?_
          refine lv_ldc2 (v := 7630441) hx hb hown (hts _ w_97d8ebda3c) d_Model_parameters_30 ?_
          obtain ⟨u7, h7, hF⟩ := b1E hF
          refine callVV (As := [.long 7630441]) X (ct_Model_need l dC dI ad cA H.size h7) lk_Model_252 ⟨rfl, rfl, by decide, by decide⟩ 11 rfl rfl hP hD hS hl.1 rfl rfl (Nat.le_of_ble_eq_true rfl) d_Model_parameters_33 (fun H locs hP hD hS => ?_)
          refine lv_aload_n hx hb d_Model_parameters_36 rfl (lv_at hl 0 rfl) ?_
          refine va_get (D := (dC, dI)) (ci := 11) (v := .int (u7.1 29)) hx hb hts i_Model hown hK hP 11 rfl rfl 4 (by decide) (hts _ w_0464dc4398) (fun _ h9 => h9) rfl d_Model_parameters_37 ?_
          refine lv_if_ne (tgt := 60) hx hb d_Model_parameters_40 (by decide) (fun c_8 => ?_) (fun c_8 => ?_)
          · have hF := ifn hF c_8
            exact ihn.2.2.1 u7 x1 0 H locs ls hF hP hD hS (lv_sub hl [0, 1] rfl)
          · have hF := ifp hF c_8
            refine lv_aload_n hx hb d_Model_parameters_43 rfl (lv_at hl 0 rfl) ?_
            refine va_get (D := (dC, dI)) (ci := 11) (v := .ref (ad 31)) hx hb hts i_Model hown hK hP 11 rfl rfl 9 (by decide) (hts _ w_f071529ab8) (fun _ h9 => h9) rfl d_Model_parameters_44 ?_
            refine lv_aload_n hx hb d_Model_parameters_47 rfl (lv_at hl 0 rfl) ?_
            refine va_get (D := (dC, dI)) (ci := 11) (v := .int (u7.1 31)) hx hb hts i_Model hown hK hP 11 rfl rfl 6 (by decide) (hts _ w_13cd8e7698) (fun _ h9 => h9) rfl d_Model_parameters_48 ?_
            obtain ⟨g_9, hF⟩ := gdE hF
            refine va_iald (f := (u7.2.2.1 16)) hx hb hK hP 31 0 rfl rfl (inE g_9) d_Model_parameters_51 ?_
            refine lv_iconst (v := 1) hx hb d_Model_parameters_52 (by decide) ?_
            refine lv_icmp_eq (tgt := 60) hx hb d_Model_parameters_53 (by decide) (fun c_10 => ?_) (fun c_10 => ?_)
            · have hF := ifp hF c_10
              exact ihn.2.2.1 u7 x1 0 H locs ls hF hP hD hS (lv_sub hl [0, 1] rfl)
            · have hF := ifn hF c_10
              refine lv_aload_n hx hb d_Model_parameters_56 rfl (lv_at hl 0 rfl) ?_
              obtain ⟨u11, h11, hF⟩ := b1E hF
              refine callVV (As := []) X (ct_Model_spoil l dC dI ad cA H.size h11) lk_Model_194 ⟨rfl, rfl, by decide, by decide⟩ 11 rfl rfl hP hD hS hl.1 rfl rfl (Nat.le_of_ble_eq_true rfl) d_Model_parameters_57 (fun H locs hP hD hS => ?_)
              exact ihn.2.2.1 u11 x1 0 H locs ls hF hP hD hS (lv_sub hl [0, 1] rfl)
    · have hF : tModel_parameters_b3 (tModel_parameters_L n) σ x1 x2 = some (r, σ') := hF
      unfold tModel_parameters_b3 at hF
      refine lv_aload_n hx hb d_Model_parameters_60 rfl (lv_at hl 0 rfl) ?_
      refine va_get (D := (dC, dI)) (ci := 11) (v := .int (σ.1 29)) hx hb hts i_Model hown hK hP 11 rfl rfl 4 (by decide) (hts _ w_0464dc4398) (fun _ h9 => h9) rfl d_Model_parameters_61 ?_
      refine lv_if_ne (tgt := 101) hx hb d_Model_parameters_64 (by decide) (fun c_12 => ?_) (fun c_12 => ?_)
      · have hF := ifn hF c_12
        exact ihn.2.2.2.2 σ x1 0 H locs ls hF hP hD hS (lv_sub hl [0, 1] rfl)
      · have hF := ifp hF c_12
        refine lv_aload_n hx hb d_Model_parameters_67 rfl (lv_at hl 0 rfl) ?_
        refine lv_aload_n hx hb d_Model_parameters_68 rfl (lv_at hl 0 rfl) ?_
        refine va_get (D := (dC, dI)) (ci := 11) (v := .int (σ.1 31)) hx hb hts i_Model hown hK hP 11 rfl rfl 6 (by decide) (hts _ w_13cd8e7698) (fun _ h9 => h9) rfl d_Model_parameters_69 ?_
        obtain ⟨u13, h13, hF⟩ := b1E hF
        refine callVV (As := [.int (σ.1 31)]) X (ct_Model_makeVariable l dC dI ad cA H.size h13) lk_Model_306 ⟨rfl, rfl, by decide, by decide⟩ 11 rfl rfl hP hD hS hl.1 rfl rfl (Nat.le_of_ble_eq_true rfl) d_Model_parameters_72 (fun H locs hP hD hS => ?_)
        refine lv_iinc (v := (x1 + 1)) (lv' := [(1, .int (x1 + 1)), (0, .ref (ad 11))]) hx hb d_Model_parameters_75 hl (k := 1) rfl rfl (by decide) rfl (fun ls hl => ?_)
        refine lv_iload_n hx hb d_Model_parameters_78 rfl (lv_at hl 0 rfl) ?_
        refine lv_iconst (v := 4) hx hb d_Model_parameters_79 (by decide) ?_
        refine lv_icmp_le (tgt := 91) hx hb d_Model_parameters_80 (by decide) (fun c_14 => ?_) (fun c_14 => ?_)
        · have hF := ifp hF c_14
          exact ihn.2.2.2.1 u13 (x1 + 1) 0 H locs ls hF hP hD hS (lv_sub hl [1, 0] rfl)
        · have hF := ifn hF c_14
          refine lv_aload_n hx hb d_Model_parameters_83 rfl (lv_at hl 1 rfl) ?_
          refine lv_aload_n hx hb d_Model_parameters_84 rfl (lv_at hl 1 rfl) ?_
          refine va_get (D := (dC, dI)) (ci := 11) (v := .int (u13.1 31)) hx hb hts i_Model hown hK hP 11 rfl rfl 6 (by decide) (hts _ w_13cd8e7698) (fun _ h9 => h9) rfl d_Model_parameters_85 ?_
          obtain ⟨u15, h15, hF⟩ := b1E hF
          refine callVV (As := [.int (u13.1 31)]) X (ct_Model_notName l dC dI ad cA H.size h15) lk_Model_249 ⟨rfl, rfl, by decide, by decide⟩ 11 rfl rfl hP hD hS hl.1 rfl rfl (Nat.le_of_ble_eq_true rfl) d_Model_parameters_88 (fun H locs hP hD hS => ?_)
          exact ihn.2.2.2.1 u15 (x1 + 1) 0 H locs ls hF hP hD hS (lv_sub hl [1, 0] rfl)
    · have hF : tModel_parameters_b4 (tModel_parameters_L n) σ x1 x2 = some (r, σ') := hF
      unfold tModel_parameters_b4 at hF
      refine lv_aload_n hx hb d_Model_parameters_91 rfl (lv_at hl 0 rfl) ?_
      refine lv_dup hx hb d_Model_parameters_92 rfl ?_
      refine va_get (D := (dC, dI)) (ci := 11) (v := .int (σ.1 31)) hx hb hts i_Model hown hK hP 11 rfl rfl 6 (by decide) (hts _ w_13cd8e7698) (fun _ h9 => h9) rfl d_Model_parameters_93 ?_
      refine lv_iconst (v := 1) hx hb d_Model_parameters_96 (by decide) ?_
      refine lv_iadd hx hb d_Model_parameters_97 ?_
      refine va_put (D := (dC, dI)) (ci := 11) (v := .int ((σ.1 31) + 1)) (ty := .int) hx hb hts i_Model t_Model t_Model_ok n_Model hown hK hP hD hS 11 rfl rfl 6 (by decide) (hts _ w_13cd8e7698) (fun _ h9 => h9) rfl (by decide +kernel) rfl rfl (Nat.le_of_ble_eq_true rfl) d_Model_parameters_98 (fun H locs hP hD hS => ?_)
      have hP : va_P (dC, dI) vwCl (tcw ad cA (sI σ 31 ((σ.1 31) + 1))) H := hP
      have hD : va_D A (tcw ad cA (sI σ 31 ((σ.1 31) + 1))) := hD
      exact ihn.2.2.2.2 (sI σ 31 ((σ.1 31) + 1)) x1 0 H locs ls hF hP hD hS (lv_sub hl [0, 1] rfl)
    · have hF : tModel_parameters_b5 (tModel_parameters_L n) σ x1 x2 = some (r, σ') := hF
      unfold tModel_parameters_b5 at hF
      refine lv_aload_n hx hb d_Model_parameters_101 rfl (lv_at hl 0 rfl) ?_
      refine lv_ldc2 (v := 44) hx hb hown (hts _ w_0f4ae4318f) d_Model_parameters_102 ?_
      obtain ⟨r16, h16, hF⟩ := b1E hF
      refine callVI (As := [.long 44]) X (ct_Model_sees l dC dI ad cA H.size h16) lk_Model_190 ⟨rfl, rfl, by decide, by decide⟩ 11 rfl rfl hP hD hS hl.1 rfl rfl (Nat.le_of_ble_eq_true rfl) d_Model_parameters_105 (fun H locs hP hD hS => ?_)
      refine lv_istore_n (lv' := [(2, .int r16), (0, .ref (ad 11)), (1, .int x1)]) hx hb d_Model_parameters_108 rfl hl (by decide) rfl (fun ls hl => ?_)
      refine lv_iload_n hx hb d_Model_parameters_109 rfl (lv_at hl 0 rfl) ?_
      refine lv_if_eq (tgt := 18) hx hb d_Model_parameters_110 (by decide) (fun c_17 => ?_) (fun c_17 => ?_)
      · have hF := ifp hF c_17
        exact ihn.2.1 σ x1 r16 H locs ls hF hP hD hS (lv_sub hl [1, 2, 0] rfl)
      · have hF := ifn hF c_17
        refine lv_aload_n hx hb d_Model_parameters_113 rfl (lv_at hl 1 rfl) ?_
        refine va_get (D := (dC, dI)) (ci := 11) (v := .int (σ.1 29)) hx hb hts i_Model hown hK hP 11 rfl rfl 4 (by decide) (hts _ w_0464dc4398) (fun _ h9 => h9) rfl d_Model_parameters_114 ?_
        refine lv_if_ne (tgt := 18) hx hb d_Model_parameters_117 (by decide) (fun c_18 => ?_) (fun c_18 => ?_)
        · have hF := ifn hF c_18
          exact ihn.2.1 σ x1 r16 H locs ls hF hP hD hS (lv_sub hl [1, 2, 0] rfl)
        · have hF := ifp hF c_18
          refine lv_aload_n hx hb d_Model_parameters_120 rfl (lv_at hl 1 rfl) ?_
          refine lv_dup hx hb d_Model_parameters_121 rfl ?_
          refine va_get (D := (dC, dI)) (ci := 11) (v := .int (σ.1 31)) hx hb hts i_Model hown hK hP 11 rfl rfl 6 (by decide) (hts _ w_13cd8e7698) (fun _ h9 => h9) rfl d_Model_parameters_122 ?_
          refine lv_iconst (v := 1) hx hb d_Model_parameters_125 (by decide) ?_
          refine lv_iadd hx hb d_Model_parameters_126 ?_
          refine va_put (D := (dC, dI)) (ci := 11) (v := .int ((σ.1 31) + 1)) (ty := .int) hx hb hts i_Model t_Model t_Model_ok n_Model hown hK hP hD hS 11 rfl rfl 6 (by decide) (hts _ w_13cd8e7698) (fun _ h9 => h9) rfl (by decide +kernel) rfl rfl (Nat.le_of_ble_eq_true rfl) d_Model_parameters_127 (fun H locs hP hD hS => ?_)
          have hP : va_P (dC, dI) vwCl (tcw ad cA (sI σ 31 ((σ.1 31) + 1))) H := hP
          have hD : va_D A (tcw ad cA (sI σ 31 ((σ.1 31) + 1))) := hD
          refine lv_goto (tgt := 18) hx hb d_Model_parameters_130 (by decide) ?_
          exact ihn.2.1 (sI σ 31 ((σ.1 31) + 1)) x1 r16 H locs ls hF hP hD hS (lv_sub hl [1, 2, 0] rfl)
set_option maxHeartbeats 4000000 in
set_option maxRecDepth 100000 in
theorem ct_Model_parameters (l : Launch) (dC : Nat → ClassId) (dI : Nat → Nat → Nat) (ad : Nat → Nat) (cA : Nat → ClassId) (sz : Nat) {σ : St} {r : Int32} {σ' : St} (hF : tModel_parameters σ = some (r, σ')) : MI l y_Model_parameters b_Model_parameters 3 (some .int) { frames := 3, cells := 0, slots := 0, locals := 70 } (dC, dI) (ttys cA) ad (tcw ad cA) [.ref (ad 11)] σ sz r σ' := by
  refine startM (own := "TinyForgeModel") (Qc := fun A => QI (dC, dI) (ttys cA) (tcw ad cA) A r σ') rfl rfl (Nat.le_of_ble_eq_true rfl) ?_
  intro p e s m below meth c A H locs ls X hP hD hS hl
  have hl : lv_has ls 3 [(0, .ref (ad 11))] := hl
  obtain ⟨hx, hb, hr, hml, hown, hlocks, hts, hA, hK, hZ⟩ := id X
  unfold tModel_parameters at hF
  refine lv_iconst (v := 0) hx hb d_Model_parameters_0 (by decide) ?_
  refine lv_istore_n (lv' := [(1, .int 0), (0, .ref (ad 11))]) hx hb d_Model_parameters_1 rfl hl (by decide) rfl (fun ls hl => ?_)
  refine lv_aload_n hx hb d_Model_parameters_2 rfl (lv_at hl 1 rfl) ?_
  refine lv_ldc2 (v := 41) hx hb hown (hts _ w_c6b9d4f3a9) d_Model_parameters_3 ?_
  obtain ⟨r1, h1, hF⟩ := b1E hF
  refine callVI (As := [.long 41]) X (ct_Model_sees l dC dI ad cA H.size h1) lk_Model_190 ⟨rfl, rfl, by decide, by decide⟩ 11 rfl rfl hP hD hS hl.1 rfl rfl (Nat.le_of_ble_eq_true rfl) d_Model_parameters_6 (fun H locs hP hD hS => ?_)
  refine lv_if_ne (tgt := 16) hx hb d_Model_parameters_9 (by decide) (fun c_2 => ?_) (fun c_2 => ?_)
  · have hF := ifn hF c_2
    refine lv_iconst (v := 0) hx hb d_Model_parameters_16 (by decide) ?_
    exact (tModel_parameters_blk l dC dI ad cA X 2000).1 σ 0 0 H locs ls hF hP hD hS (lv_sub hl [1, 0] rfl)
  · have hF := ifp hF c_2
    refine lv_iconst (v := 1) hx hb d_Model_parameters_12 (by decide) ?_
    refine lv_goto (tgt := 17) hx hb d_Model_parameters_13 (by decide) ?_
    exact (tModel_parameters_blk l dC dI ad cA X 2000).1 σ 0 1 H locs ls hF hP hD hS (lv_sub hl [1, 0] rfl)
theorem d_Model_leaveBlock_0 : decode b_Model_leaveBlock 0 = .ok (.aload_n 0, 1) := by decide +kernel
theorem d_Model_leaveBlock_1 : decode b_Model_leaveBlock 1 = .ok (.getfield 224, 3) := by decide +kernel
theorem d_Model_leaveBlock_4 : decode b_Model_leaveBlock 4 = .ok (.ifCond .le 34, 3) := by decide +kernel
theorem d_Model_leaveBlock_7 : decode b_Model_leaveBlock 7 = .ok (.aload_n 0, 1) := by decide +kernel
theorem d_Model_leaveBlock_8 : decode b_Model_leaveBlock 8 = .ok (.getfield 67, 3) := by decide +kernel
theorem d_Model_leaveBlock_11 : decode b_Model_leaveBlock 11 = .ok (.aload_n 0, 1) := by decide +kernel
theorem d_Model_leaveBlock_12 : decode b_Model_leaveBlock 12 = .ok (.getfield 224, 3) := by decide +kernel
theorem d_Model_leaveBlock_15 : decode b_Model_leaveBlock 15 = .ok (.iconst 1, 1) := by decide +kernel
theorem d_Model_leaveBlock_16 : decode b_Model_leaveBlock 16 = .ok (.isub, 1) := by decide +kernel
theorem d_Model_leaveBlock_17 : decode b_Model_leaveBlock 17 = .ok (.iaload, 1) := by decide +kernel
theorem d_Model_leaveBlock_18 : decode b_Model_leaveBlock 18 = .ok (.aload_n 0, 1) := by decide +kernel
theorem d_Model_leaveBlock_19 : decode b_Model_leaveBlock 19 = .ok (.getfield 287, 3) := by decide +kernel
theorem d_Model_leaveBlock_22 : decode b_Model_leaveBlock 22 = .ok (.if_icmp .ne 16, 3) := by decide +kernel
theorem d_Model_leaveBlock_25 : decode b_Model_leaveBlock 25 = .ok (.aload_n 0, 1) := by decide +kernel
theorem d_Model_leaveBlock_26 : decode b_Model_leaveBlock 26 = .ok (.dup, 1) := by decide +kernel
theorem d_Model_leaveBlock_27 : decode b_Model_leaveBlock 27 = .ok (.getfield 224, 3) := by decide +kernel
theorem d_Model_leaveBlock_30 : decode b_Model_leaveBlock 30 = .ok (.iconst 1, 1) := by decide +kernel
theorem d_Model_leaveBlock_31 : decode b_Model_leaveBlock 31 = .ok (.isub, 1) := by decide +kernel
theorem d_Model_leaveBlock_32 : decode b_Model_leaveBlock 32 = .ok (.putfield 224, 3) := by decide +kernel
theorem d_Model_leaveBlock_35 : decode b_Model_leaveBlock 35 = .ok (.goto (-35), 3) := by decide +kernel
theorem d_Model_leaveBlock_38 : decode b_Model_leaveBlock 38 = .ok (.aload_n 0, 1) := by decide +kernel
theorem d_Model_leaveBlock_39 : decode b_Model_leaveBlock 39 = .ok (.dup, 1) := by decide +kernel
theorem d_Model_leaveBlock_40 : decode b_Model_leaveBlock 40 = .ok (.getfield 287, 3) := by decide +kernel
theorem d_Model_leaveBlock_43 : decode b_Model_leaveBlock 43 = .ok (.iconst 1, 1) := by decide +kernel
theorem d_Model_leaveBlock_44 : decode b_Model_leaveBlock 44 = .ok (.isub, 1) := by decide +kernel
theorem d_Model_leaveBlock_45 : decode b_Model_leaveBlock 45 = .ok (.putfield 287, 3) := by decide +kernel
theorem d_Model_leaveBlock_48 : decode b_Model_leaveBlock 48 = .ok (.aload_n 0, 1) := by decide +kernel
theorem d_Model_leaveBlock_49 : decode b_Model_leaveBlock 49 = .ok (.dup, 1) := by decide +kernel
theorem d_Model_leaveBlock_50 : decode b_Model_leaveBlock 50 = .ok (.getfield 197, 3) := by decide +kernel
theorem d_Model_leaveBlock_53 : decode b_Model_leaveBlock 53 = .ok (.iconst 1, 1) := by decide +kernel
theorem d_Model_leaveBlock_54 : decode b_Model_leaveBlock 54 = .ok (.isub, 1) := by decide +kernel
theorem d_Model_leaveBlock_55 : decode b_Model_leaveBlock 55 = .ok (.putfield 197, 3) := by decide +kernel
theorem d_Model_leaveBlock_58 : decode b_Model_leaveBlock 58 = .ok (.return_, 1) := by decide +kernel
def tModel_leaveBlock_b1 (k : Nat → St → Option (St)) (σ : St) : Option (St) := if (σ.1 38) ≤ 0 then k 2 σ  else gd (inB ((σ.1 38) - 1) 120) (if ((σ.2.2.1 32) ((σ.1 38) - 1).toNatClampNeg) = (σ.1 39) then k 1 (sI σ 38 ((σ.1 38) - 1))  else k 2 σ )
def tModel_leaveBlock_b2 (k : Nat → St → Option (St)) (σ : St) : Option (St) := some (sI (sI σ 39 ((σ.1 39) - 1)) 32 ((σ.1 32) - 1))
def tModel_leaveBlock_L : Nat → Nat → St → Option (St)
  | 0, _, _ => none
  | n + 1, lab, σ => match lab with
    | 1 => tModel_leaveBlock_b1 (tModel_leaveBlock_L n) σ 
    | 2 => tModel_leaveBlock_b2 (tModel_leaveBlock_L n) σ 
    | _ => none
def tModel_leaveBlock (σ : St) : Option (St) := tModel_leaveBlock_L 2000 1 σ 
set_option maxHeartbeats 4000000 in
set_option maxRecDepth 100000 in
theorem tModel_leaveBlock_blk {p : Program} {e : Env} {s : State} {m : MethodId} {args : Array Value} {below : List Frame} {meth : Method} {c : Code} {A : Nat → Prop} (l : Launch) (dC : Nat → ClassId) (dI : Nat → Nat → Nat) (ad : Nat → Nat) (cA : Nat → ClassId) {σ' : St} (X : Cx p s m args meth c b_Model_leaveBlock 1 none "TinyForgeModel" (dC, dI) (ttys cA) ad A) : ∀ n : Nat, (∀ (σ : St) (H : Heap) (locs : List Loc) (ls : Array Slot), tModel_leaveBlock_L n 1 σ  = some σ' → va_P (dC, dI) vwCl (tcw ad cA σ) H → va_D A (tcw ad cA σ) → va_S A s.heap H locs → lv_has ls 1 [(0, .ref (ad 11))] → W p l e { frames := 0, cells := 0, slots := 0, locals := 0 } s m args below meth c H locs 0 0 (MQ below (QV (dC, dI) (ttys cA) (tcw ad cA) A σ') args s 0 0 A) (F0 m 0 ls [])) ∧ (∀ (σ : St) (H : Heap) (locs : List Loc) (ls : Array Slot), tModel_leaveBlock_L n 2 σ  = some σ' → va_P (dC, dI) vwCl (tcw ad cA σ) H → va_D A (tcw ad cA σ) → va_S A s.heap H locs → lv_has ls 1 [(0, .ref (ad 11))] → W p l e { frames := 0, cells := 0, slots := 0, locals := 0 } s m args below meth c H locs 0 0 (MQ below (QV (dC, dI) (ttys cA) (tcw ad cA) A σ') args s 0 0 A) (F0 m 38 ls [])) := by
  obtain ⟨hx, hb, hr, hml, hown, hlocks, hts, hA, hK, hZ⟩ := id X
  intro n
  induction n with
  | zero => exact ⟨(fun σ  H locs ls hF => by cases hF), (fun σ  H locs ls hF => by cases hF)⟩
  | succ n ihn =>
    refine ⟨fun σ  H locs ls hF hP hD hS hl => ?_, fun σ  H locs ls hF hP hD hS hl => ?_⟩
    · have hF : tModel_leaveBlock_b1 (tModel_leaveBlock_L n) σ  = some σ' := hF
      unfold tModel_leaveBlock_b1 at hF
      refine lv_aload_n hx hb d_Model_leaveBlock_0 rfl (lv_at hl 0 rfl) ?_
      refine va_get (D := (dC, dI)) (ci := 11) (v := .int (σ.1 38)) hx hb hts i_Model hown hK hP 11 rfl rfl 28 (by decide) (hts _ w_805d5a2f41) (fun _ h9 => h9) rfl d_Model_leaveBlock_1 ?_
      refine lv_if_le (tgt := 38) hx hb d_Model_leaveBlock_4 (by decide) (fun c_1 => ?_) (fun c_1 => ?_)
      · have hF := ifp hF c_1
        exact ihn.2 σ  H locs ls hF hP hD hS (lv_sub hl [0] rfl)
      · have hF := ifn hF c_1
        refine lv_aload_n hx hb d_Model_leaveBlock_7 rfl (lv_at hl 0 rfl) ?_
        refine va_get (D := (dC, dI)) (ci := 11) (v := .ref (ad 47)) hx hb hts i_Model hown hK hP 11 rfl rfl 31 (by decide) (hts _ w_50ab1184d5) (fun _ h9 => h9) rfl d_Model_leaveBlock_8 ?_
        refine lv_aload_n hx hb d_Model_leaveBlock_11 rfl (lv_at hl 0 rfl) ?_
        refine va_get (D := (dC, dI)) (ci := 11) (v := .int (σ.1 38)) hx hb hts i_Model hown hK hP 11 rfl rfl 28 (by decide) (hts _ w_805d5a2f41) (fun _ h9 => h9) rfl d_Model_leaveBlock_12 ?_
        refine lv_iconst (v := 1) hx hb d_Model_leaveBlock_15 (by decide) ?_
        refine lv_isub hx hb d_Model_leaveBlock_16 ?_
        obtain ⟨g_2, hF⟩ := gdE hF
        refine va_iald (f := (σ.2.2.1 32)) hx hb hK hP 47 0 rfl rfl (inE g_2) d_Model_leaveBlock_17 ?_
        refine lv_aload_n hx hb d_Model_leaveBlock_18 rfl (lv_at hl 0 rfl) ?_
        refine va_get (D := (dC, dI)) (ci := 11) (v := .int (σ.1 39)) hx hb hts i_Model hown hK hP 11 rfl rfl 29 (by decide) (hts _ w_fd102d3787) (fun _ h9 => h9) rfl d_Model_leaveBlock_19 ?_
        refine lv_icmp_ne (tgt := 38) hx hb d_Model_leaveBlock_22 (by decide) (fun c_3 => ?_) (fun c_3 => ?_)
        · have hF := ifn hF c_3
          exact ihn.2 σ  H locs ls hF hP hD hS (lv_sub hl [0] rfl)
        · have hF := ifp hF c_3
          refine lv_aload_n hx hb d_Model_leaveBlock_25 rfl (lv_at hl 0 rfl) ?_
          refine lv_dup hx hb d_Model_leaveBlock_26 rfl ?_
          refine va_get (D := (dC, dI)) (ci := 11) (v := .int (σ.1 38)) hx hb hts i_Model hown hK hP 11 rfl rfl 28 (by decide) (hts _ w_805d5a2f41) (fun _ h9 => h9) rfl d_Model_leaveBlock_27 ?_
          refine lv_iconst (v := 1) hx hb d_Model_leaveBlock_30 (by decide) ?_
          refine lv_isub hx hb d_Model_leaveBlock_31 ?_
          refine va_put (D := (dC, dI)) (ci := 11) (v := .int ((σ.1 38) - 1)) (ty := .int) hx hb hts i_Model t_Model t_Model_ok n_Model hown hK hP hD hS 11 rfl rfl 28 (by decide) (hts _ w_805d5a2f41) (fun _ h9 => h9) rfl (by decide +kernel) rfl rfl (Nat.le_of_ble_eq_true rfl) d_Model_leaveBlock_32 (fun H locs hP hD hS => ?_)
          have hP : va_P (dC, dI) vwCl (tcw ad cA (sI σ 38 ((σ.1 38) - 1))) H := hP
          have hD : va_D A (tcw ad cA (sI σ 38 ((σ.1 38) - 1))) := hD
          refine lv_goto (tgt := 0) hx hb d_Model_leaveBlock_35 (by decide) ?_
          exact ihn.1 (sI σ 38 ((σ.1 38) - 1))  H locs ls hF hP hD hS (lv_sub hl [0] rfl)
    · have hF : tModel_leaveBlock_b2 (tModel_leaveBlock_L n) σ  = some σ' := hF
      unfold tModel_leaveBlock_b2 at hF
      refine lv_aload_n hx hb d_Model_leaveBlock_38 rfl (lv_at hl 0 rfl) ?_
      refine lv_dup hx hb d_Model_leaveBlock_39 rfl ?_
      refine va_get (D := (dC, dI)) (ci := 11) (v := .int (σ.1 39)) hx hb hts i_Model hown hK hP 11 rfl rfl 29 (by decide) (hts _ w_fd102d3787) (fun _ h9 => h9) rfl d_Model_leaveBlock_40 ?_
      refine lv_iconst (v := 1) hx hb d_Model_leaveBlock_43 (by decide) ?_
      refine lv_isub hx hb d_Model_leaveBlock_44 ?_
      refine va_put (D := (dC, dI)) (ci := 11) (v := .int ((σ.1 39) - 1)) (ty := .int) hx hb hts i_Model t_Model t_Model_ok n_Model hown hK hP hD hS 11 rfl rfl 29 (by decide) (hts _ w_fd102d3787) (fun _ h9 => h9) rfl (by decide +kernel) rfl rfl (Nat.le_of_ble_eq_true rfl) d_Model_leaveBlock_45 (fun H locs hP hD hS => ?_)
      have hP : va_P (dC, dI) vwCl (tcw ad cA (sI σ 39 ((σ.1 39) - 1))) H := hP
      have hD : va_D A (tcw ad cA (sI σ 39 ((σ.1 39) - 1))) := hD
      refine lv_aload_n hx hb d_Model_leaveBlock_48 rfl (lv_at hl 0 rfl) ?_
      refine lv_dup hx hb d_Model_leaveBlock_49 rfl ?_
      refine va_get (D := (dC, dI)) (ci := 11) (v := .int (σ.1 32)) hx hb hts i_Model hown hK hP 11 rfl rfl 7 (by decide) (hts _ w_eb874fa0f0) (fun _ h9 => h9) rfl d_Model_leaveBlock_50 ?_
      refine lv_iconst (v := 1) hx hb d_Model_leaveBlock_53 (by decide) ?_
      refine lv_isub hx hb d_Model_leaveBlock_54 ?_
      refine va_put (D := (dC, dI)) (ci := 11) (v := .int ((σ.1 32) - 1)) (ty := .int) hx hb hts i_Model t_Model t_Model_ok n_Model hown hK hP hD hS 11 rfl rfl 7 (by decide) (hts _ w_eb874fa0f0) (fun _ h9 => h9) rfl (by decide +kernel) rfl rfl (Nat.le_of_ble_eq_true rfl) d_Model_leaveBlock_55 (fun H locs hP hD hS => ?_)
      have hP : va_P (dC, dI) vwCl (tcw ad cA (sI (sI σ 39 ((σ.1 39) - 1)) 32 ((σ.1 32) - 1))) H := hP
      have hD : va_D A (tcw ad cA (sI (sI σ 39 ((σ.1 39) - 1)) 32 ((σ.1 32) - 1))) := hD
      cases hF
      exact leafV X hP hD hS d_Model_leaveBlock_58
set_option maxHeartbeats 4000000 in
set_option maxRecDepth 100000 in
theorem ct_Model_leaveBlock (l : Launch) (dC : Nat → ClassId) (dI : Nat → Nat → Nat) (ad : Nat → Nat) (cA : Nat → ClassId) (sz : Nat) {σ : St} {σ' : St} (hF : tModel_leaveBlock σ = some σ') : MV l y_Model_leaveBlock b_Model_leaveBlock 1 none { frames := 0, cells := 0, slots := 0, locals := 0 } (dC, dI) (ttys cA) ad (tcw ad cA) [.ref (ad 11)] σ sz σ' := by
  refine startM (own := "TinyForgeModel") (Qc := fun A => QV (dC, dI) (ttys cA) (tcw ad cA) A σ') rfl rfl (Nat.le_of_ble_eq_true rfl) ?_
  intro p e s m below meth c A H locs ls X hP hD hS hl
  have hl : lv_has ls 1 [(0, .ref (ad 11))] := hl
  obtain ⟨hx, hb, hr, hml, hown, hlocks, hts, hA, hK, hZ⟩ := id X
  unfold tModel_leaveBlock at hF
  exact (tModel_leaveBlock_blk l dC dI ad cA X 2000).1 σ  H locs ls hF hP hD hS (lv_sub hl [0] rfl)
