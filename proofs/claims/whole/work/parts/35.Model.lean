theorem d_Model_makes_0 : decode b_Model_makes 0 = .ok (.aload_n 0, 1) := by decide +kernel
theorem d_Model_makes_1 : decode b_Model_makes 1 = .ok (.getfield 30, 3) := by decide +kernel
theorem d_Model_makes_4 : decode b_Model_makes 4 = .ok (.aload_n 0, 1) := by decide +kernel
theorem d_Model_makes_5 : decode b_Model_makes 5 = .ok (.getfield 79, 3) := by decide +kernel
theorem d_Model_makes_8 : decode b_Model_makes 8 = .ok (.aload_n 0, 1) := by decide +kernel
theorem d_Model_makes_9 : decode b_Model_makes 9 = .ok (.getfield 290, 3) := by decide +kernel
theorem d_Model_makes_12 : decode b_Model_makes 12 = .ok (.iconst 1, 1) := by decide +kernel
theorem d_Model_makes_13 : decode b_Model_makes 13 = .ok (.isub, 1) := by decide +kernel
theorem d_Model_makes_14 : decode b_Model_makes 14 = .ok (.iaload, 1) := by decide +kernel
theorem d_Model_makes_15 : decode b_Model_makes 15 = .ok (.iaload, 1) := by decide +kernel
theorem d_Model_makes_16 : decode b_Model_makes 16 = .ok (.bipush 10, 2) := by decide +kernel
theorem d_Model_makes_18 : decode b_Model_makes 18 = .ok (.if_icmp .eq 11, 3) := by decide +kernel
theorem d_Model_makes_21 : decode b_Model_makes 21 = .ok (.aload_n 0, 1) := by decide +kernel
theorem d_Model_makes_22 : decode b_Model_makes 22 = .ok (.aload_n 0, 1) := by decide +kernel
theorem d_Model_makes_23 : decode b_Model_makes 23 = .ok (.getfield 184, 3) := by decide +kernel
theorem d_Model_makes_26 : decode b_Model_makes 26 = .ok (.invokevirtual 249, 3) := by decide +kernel
theorem d_Model_makes_29 : decode b_Model_makes 29 = .ok (.aload_n 0, 1) := by decide +kernel
theorem d_Model_makes_30 : decode b_Model_makes 30 = .ok (.dup, 1) := by decide +kernel
theorem d_Model_makes_31 : decode b_Model_makes 31 = .ok (.getfield 184, 3) := by decide +kernel
theorem d_Model_makes_34 : decode b_Model_makes 34 = .ok (.iconst 1, 1) := by decide +kernel
theorem d_Model_makes_35 : decode b_Model_makes 35 = .ok (.iadd, 1) := by decide +kernel
theorem d_Model_makes_36 : decode b_Model_makes 36 = .ok (.putfield 184, 3) := by decide +kernel
theorem d_Model_makes_39 : decode b_Model_makes 39 = .ok (.aload_n 0, 1) := by decide +kernel
theorem d_Model_makes_40 : decode b_Model_makes 40 = .ok (.getfield 184, 3) := by decide +kernel
theorem d_Model_makes_43 : decode b_Model_makes 43 = .ok (.istore_n 1, 1) := by decide +kernel
theorem d_Model_makes_44 : decode b_Model_makes 44 = .ok (.aload_n 0, 1) := by decide +kernel
theorem d_Model_makes_45 : decode b_Model_makes 45 = .ok (.getfield 17, 3) := by decide +kernel
theorem d_Model_makes_48 : decode b_Model_makes 48 = .ok (.aload_n 0, 1) := by decide +kernel
theorem d_Model_makes_49 : decode b_Model_makes 49 = .ok (.getfield 184, 3) := by decide +kernel
theorem d_Model_makes_52 : decode b_Model_makes 52 = .ok (.iaload, 1) := by decide +kernel
theorem d_Model_makes_53 : decode b_Model_makes 53 = .ok (.iconst 1, 1) := by decide +kernel
theorem d_Model_makes_54 : decode b_Model_makes 54 = .ok (.if_icmp .eq 10, 3) := by decide +kernel
theorem d_Model_makes_57 : decode b_Model_makes 57 = .ok (.aload_n 0, 1) := by decide +kernel
theorem d_Model_makes_58 : decode b_Model_makes 58 = .ok (.invokevirtual 194, 3) := by decide +kernel
theorem d_Model_makes_61 : decode b_Model_makes 61 = .ok (.goto 13, 3) := by decide +kernel
theorem d_Model_makes_64 : decode b_Model_makes 64 = .ok (.aload_n 0, 1) := by decide +kernel
theorem d_Model_makes_65 : decode b_Model_makes 65 = .ok (.dup, 1) := by decide +kernel
theorem d_Model_makes_66 : decode b_Model_makes 66 = .ok (.getfield 184, 3) := by decide +kernel
theorem d_Model_makes_69 : decode b_Model_makes 69 = .ok (.iconst 1, 1) := by decide +kernel
theorem d_Model_makes_70 : decode b_Model_makes 70 = .ok (.iadd, 1) := by decide +kernel
theorem d_Model_makes_71 : decode b_Model_makes 71 = .ok (.putfield 184, 3) := by decide +kernel
theorem d_Model_makes_74 : decode b_Model_makes 74 = .ok (.aload_n 0, 1) := by decide +kernel
theorem d_Model_makes_75 : decode b_Model_makes 75 = .ok (.ldc2_w 302, 3) := by decide +kernel
theorem d_Model_makes_78 : decode b_Model_makes 78 = .ok (.invokevirtual 252, 3) := by decide +kernel
theorem d_Model_makes_81 : decode b_Model_makes 81 = .ok (.aload_n 0, 1) := by decide +kernel
theorem d_Model_makes_82 : decode b_Model_makes 82 = .ok (.getfield 121, 3) := by decide +kernel
theorem d_Model_makes_85 : decode b_Model_makes 85 = .ok (.ifCond .ne 11, 3) := by decide +kernel
theorem d_Model_makes_88 : decode b_Model_makes 88 = .ok (.aload_n 0, 1) := by decide +kernel
theorem d_Model_makes_89 : decode b_Model_makes 89 = .ok (.iconst (-1), 1) := by decide +kernel
theorem d_Model_makes_90 : decode b_Model_makes 90 = .ok (.invokevirtual 296, 3) := by decide +kernel
theorem d_Model_makes_93 : decode b_Model_makes 93 = .ok (.goto 4, 3) := by decide +kernel
theorem d_Model_makes_96 : decode b_Model_makes 96 = .ok (.iconst 0, 1) := by decide +kernel
theorem d_Model_makes_97 : decode b_Model_makes 97 = .ok (.istore_n 2, 1) := by decide +kernel
theorem d_Model_makes_98 : decode b_Model_makes 98 = .ok (.aload_n 0, 1) := by decide +kernel
theorem d_Model_makes_99 : decode b_Model_makes 99 = .ok (.ldc2_w 304, 3) := by decide +kernel
theorem d_Model_makes_102 : decode b_Model_makes 102 = .ok (.invokevirtual 252, 3) := by decide +kernel
theorem d_Model_makes_105 : decode b_Model_makes 105 = .ok (.aload_n 0, 1) := by decide +kernel
theorem d_Model_makes_106 : decode b_Model_makes 106 = .ok (.getfield 121, 3) := by decide +kernel
theorem d_Model_makes_109 : decode b_Model_makes 109 = .ok (.ifCond .eq 4, 3) := by decide +kernel
theorem d_Model_makes_112 : decode b_Model_makes 112 = .ok (.return_, 1) := by decide +kernel
theorem d_Model_makes_113 : decode b_Model_makes 113 = .ok (.aload_n 0, 1) := by decide +kernel
theorem d_Model_makes_114 : decode b_Model_makes 114 = .ok (.iload_n 1, 1) := by decide +kernel
theorem d_Model_makes_115 : decode b_Model_makes 115 = .ok (.invokevirtual 306, 3) := by decide +kernel
theorem d_Model_makes_118 : decode b_Model_makes 118 = .ok (.aload_n 0, 1) := by decide +kernel
theorem d_Model_makes_119 : decode b_Model_makes 119 = .ok (.aload_n 0, 1) := by decide +kernel
theorem d_Model_makes_120 : decode b_Model_makes 120 = .ok (.bipush 11, 2) := by decide +kernel
theorem d_Model_makes_122 : decode b_Model_makes 122 = .ok (.aload_n 0, 1) := by decide +kernel
theorem d_Model_makes_123 : decode b_Model_makes 123 = .ok (.getfield 224, 3) := by decide +kernel
theorem d_Model_makes_126 : decode b_Model_makes 126 = .ok (.iconst 1, 1) := by decide +kernel
theorem d_Model_makes_127 : decode b_Model_makes 127 = .ok (.isub, 1) := by decide +kernel
theorem d_Model_makes_128 : decode b_Model_makes 128 = .ok (.iload_n 2, 1) := by decide +kernel
theorem d_Model_makes_129 : decode b_Model_makes 129 = .ok (.iconst (-1), 1) := by decide +kernel
theorem d_Model_makes_130 : decode b_Model_makes 130 = .ok (.invokevirtual 216, 3) := by decide +kernel
theorem d_Model_makes_133 : decode b_Model_makes 133 = .ok (.invokevirtual 309, 3) := by decide +kernel
theorem d_Model_makes_136 : decode b_Model_makes 136 = .ok (.return_, 1) := by decide +kernel
def tModel_makes_b1 (k : Nat → St → Int32 → Int32 → Option (St)) (σ : St) (x1 : Int32) (x2 : Int32) : Option (St) := gd (inB ((σ.1 31) + 1) 500) (if ((σ.2.2.1 16) ((σ.1 31) + 1).toNatClampNeg) = 1 then k 2 (sI (sI σ 31 ((σ.1 31) + 1)) 31 (((σ.1 31) + 1) + 1)) ((σ.1 31) + 1) 0 else b1 (tModel_spoil (sI σ 31 ((σ.1 31) + 1))) (fun u7 => k 2 u7 ((σ.1 31) + 1) 0))
def tModel_makes_b2 (k : Nat → St → Int32 → Int32 → Option (St)) (σ : St) (x1 : Int32) (x2 : Int32) : Option (St) := b1 (tModel_need σ 61) (fun u8 => if (u8.1 29) = 0 then b2 (tModel_value u8 (-1)) (fun r10 u10 => k 3 u10 x1 r10) else k 3 u8 x1 0)
def tModel_makes_b3 (k : Nat → St → Int32 → Int32 → Option (St)) (σ : St) (x1 : Int32) (x2 : Int32) : Option (St) := b1 (tModel_need σ 59) (fun u11 => if (u11.1 29) = 0 then b1 (tModel_makeVariable u11 x1) (fun u13 => b2 (tModel_node u13 11 ((u13.1 38) - 1) x2 (-1)) (fun r14 u14 => b1 (tModel_whole u14 r14) (fun u15 => some u15))) else some u11)
def tModel_makes_L : Nat → Nat → St → Int32 → Int32 → Option (St)
  | 0, _, _, _, _ => none
  | n + 1, lab, σ, x1, x2 => match lab with
    | 1 => tModel_makes_b1 (tModel_makes_L n) σ x1 x2
    | 2 => tModel_makes_b2 (tModel_makes_L n) σ x1 x2
    | 3 => tModel_makes_b3 (tModel_makes_L n) σ x1 x2
    | _ => none
def tModel_makes (σ : St) : Option (St) := gd (inB ((σ.1 42) - 1) 60) (gd (inB ((σ.2.2.1 36) ((σ.1 42) - 1).toNatClampNeg) 500) (if ((σ.2.2.1 20) ((σ.2.2.1 36) ((σ.1 42) - 1).toNatClampNeg).toNatClampNeg) = 10 then tModel_makes_L 2000 1 σ 0 0 else b1 (tModel_notName σ (σ.1 31)) (fun u4 => tModel_makes_L 2000 1 u4 0 0)))
set_option maxHeartbeats 4000000 in
set_option maxRecDepth 100000 in
theorem tModel_makes_blk {p : Program} {e : Env} {s : State} {m : MethodId} {args : Array Value} {below : List Frame} {meth : Method} {c : Code} {A : Nat → Prop} (l : Launch) (dC : Nat → ClassId) (dI : Nat → Nat → Nat) (ad : Nat → Nat) (cA : Nat → ClassId) {σ' : St} (X : Cx p s m args meth c b_Model_makes 3 none "TinyForgeModel" (dC, dI) (ttys cA) ad A) : ∀ n : Nat, (∀ (σ : St) (x1 : Int32) (x2 : Int32) (H : Heap) (locs : List Loc) (ls : Array Slot), tModel_makes_L n 1 σ x1 x2 = some σ' → va_P (dC, dI) vwCl (tcw ad cA σ) H → va_D A (tcw ad cA σ) → va_S A s.heap H locs → lv_has ls 3 [(0, .ref (ad 11))] → W p l e { frames := 6, cells := 0, slots := 0, locals := 136 } s m args below meth c H locs 0 0 (MQ below (QV (dC, dI) (ttys cA) (tcw ad cA) A σ') args s 0 0 A) (F0 m 29 ls [])) ∧ (∀ (σ : St) (x1 : Int32) (x2 : Int32) (H : Heap) (locs : List Loc) (ls : Array Slot), tModel_makes_L n 2 σ x1 x2 = some σ' → va_P (dC, dI) vwCl (tcw ad cA σ) H → va_D A (tcw ad cA σ) → va_S A s.heap H locs → lv_has ls 3 [(0, .ref (ad 11)), (1, .int x1)] → W p l e { frames := 6, cells := 0, slots := 0, locals := 136 } s m args below meth c H locs 0 0 (MQ below (QV (dC, dI) (ttys cA) (tcw ad cA) A σ') args s 0 0 A) (F0 m 74 ls [])) ∧ (∀ (σ : St) (x1 : Int32) (x2 : Int32) (H : Heap) (locs : List Loc) (ls : Array Slot), tModel_makes_L n 3 σ x1 x2 = some σ' → va_P (dC, dI) vwCl (tcw ad cA σ) H → va_D A (tcw ad cA σ) → va_S A s.heap H locs → lv_has ls 3 [(0, .ref (ad 11)), (1, .int x1)] → W p l e { frames := 6, cells := 0, slots := 0, locals := 136 } s m args below meth c H locs 0 0 (MQ below (QV (dC, dI) (ttys cA) (tcw ad cA) A σ') args s 0 0 A) (F0 m 97 ls [.int x2])) := by
  obtain ⟨hx, hb, hr, hml, hown, hlocks, hts, hA, hK, hZ⟩ := id X
  intro n
  induction n with
  | zero => exact ⟨(fun σ x1 x2 H locs ls hF => by cases hF), (fun σ x1 x2 H locs ls hF => by cases hF), (fun σ x1 x2 H locs ls hF => by cases hF)⟩
  | succ n ihn =>
    refine ⟨fun σ x1 x2 H locs ls hF hP hD hS hl => ?_, fun σ x1 x2 H locs ls hF hP hD hS hl => ?_, fun σ x1 x2 H locs ls hF hP hD hS hl => ?_⟩
    · have hF : tModel_makes_b1 (tModel_makes_L n) σ x1 x2 = some σ' := hF
      unfold tModel_makes_b1 at hF
      refine lv_aload_n hx hb d_Model_makes_29 rfl (lv_at hl 0 rfl) ?_
      refine lv_dup hx hb d_Model_makes_30 rfl ?_
      refine va_get (D := (dC, dI)) (ci := 11) (v := .int (σ.1 31)) hx hb hts i_Model hown hK hP 11 rfl rfl 6 (by decide) (hts _ w_13cd8e7698) (fun _ h9 => h9) rfl d_Model_makes_31 ?_
      refine lv_iconst (v := 1) hx hb d_Model_makes_34 (by decide) ?_
      refine lv_iadd hx hb d_Model_makes_35 ?_
      refine va_put (D := (dC, dI)) (ci := 11) (v := .int ((σ.1 31) + 1)) (ty := .int) hx hb hts i_Model t_Model t_Model_ok n_Model hown hK hP hD hS 11 rfl rfl 6 (by decide) (hts _ w_13cd8e7698) (fun _ h9 => h9) rfl (by decide +kernel) rfl rfl (Nat.le_of_ble_eq_true rfl) d_Model_makes_36 (fun H locs hP hD hS => ?_)
      have hP : va_P (dC, dI) vwCl (tcw ad cA (sI σ 31 ((σ.1 31) + 1))) H := hP
      have hD : va_D A (tcw ad cA (sI σ 31 ((σ.1 31) + 1))) := hD
      refine lv_aload_n hx hb d_Model_makes_39 rfl (lv_at hl 0 rfl) ?_
      refine va_get (D := (dC, dI)) (ci := 11) (v := .int ((σ.1 31) + 1)) hx hb hts i_Model hown hK hP 11 rfl rfl 6 (by decide) (hts _ w_13cd8e7698) (fun _ h9 => h9) rfl d_Model_makes_40 ?_
      refine lv_istore_n (lv' := [(1, .int ((σ.1 31) + 1)), (0, .ref (ad 11))]) hx hb d_Model_makes_43 rfl hl (by decide) rfl (fun ls hl => ?_)
      refine lv_aload_n hx hb d_Model_makes_44 rfl (lv_at hl 1 rfl) ?_
      refine va_get (D := (dC, dI)) (ci := 11) (v := .ref (ad 31)) hx hb hts i_Model hown hK hP 11 rfl rfl 9 (by decide) (hts _ w_f071529ab8) (fun _ h9 => h9) rfl d_Model_makes_45 ?_
      refine lv_aload_n hx hb d_Model_makes_48 rfl (lv_at hl 1 rfl) ?_
      refine va_get (D := (dC, dI)) (ci := 11) (v := .int ((σ.1 31) + 1)) hx hb hts i_Model hown hK hP 11 rfl rfl 6 (by decide) (hts _ w_13cd8e7698) (fun _ h9 => h9) rfl d_Model_makes_49 ?_
      obtain ⟨g_5, hF⟩ := gdE hF
      refine va_iald (f := (σ.2.2.1 16)) hx hb hK hP 31 0 rfl rfl (inE g_5) d_Model_makes_52 ?_
      refine lv_iconst (v := 1) hx hb d_Model_makes_53 (by decide) ?_
      refine lv_icmp_eq (tgt := 64) hx hb d_Model_makes_54 (by decide) (fun c_6 => ?_) (fun c_6 => ?_)
      · have hF := ifp hF c_6
        refine lv_aload_n hx hb d_Model_makes_64 rfl (lv_at hl 1 rfl) ?_
        refine lv_dup hx hb d_Model_makes_65 rfl ?_
        refine va_get (D := (dC, dI)) (ci := 11) (v := .int ((σ.1 31) + 1)) hx hb hts i_Model hown hK hP 11 rfl rfl 6 (by decide) (hts _ w_13cd8e7698) (fun _ h9 => h9) rfl d_Model_makes_66 ?_
        refine lv_iconst (v := 1) hx hb d_Model_makes_69 (by decide) ?_
        refine lv_iadd hx hb d_Model_makes_70 ?_
        refine va_put (D := (dC, dI)) (ci := 11) (v := .int (((σ.1 31) + 1) + 1)) (ty := .int) hx hb hts i_Model t_Model t_Model_ok n_Model hown hK hP hD hS 11 rfl rfl 6 (by decide) (hts _ w_13cd8e7698) (fun _ h9 => h9) rfl (by decide +kernel) rfl rfl (Nat.le_of_ble_eq_true rfl) d_Model_makes_71 (fun H locs hP hD hS => ?_)
        have hP : va_P (dC, dI) vwCl (tcw ad cA (sI (sI σ 31 ((σ.1 31) + 1)) 31 (((σ.1 31) + 1) + 1))) H := hP
        have hD : va_D A (tcw ad cA (sI (sI σ 31 ((σ.1 31) + 1)) 31 (((σ.1 31) + 1) + 1))) := hD
        exact ihn.2.1 (sI (sI σ 31 ((σ.1 31) + 1)) 31 (((σ.1 31) + 1) + 1)) ((σ.1 31) + 1) 0 H locs ls hF hP hD hS (lv_sub hl [1, 0] rfl)
      · have hF := ifn hF c_6
        refine lv_aload_n hx hb d_Model_makes_57 rfl (lv_at hl 1 rfl) ?_
        obtain ⟨u7, h7, hF⟩ := b1E hF
        refine callVV (As := []) X (ct_Model_spoil l dC dI ad cA H.size h7) lk_Model_194 ⟨rfl, rfl, by decide, by decide⟩ 11 rfl rfl hP hD hS hl.1 rfl rfl (Nat.le_of_ble_eq_true rfl) d_Model_makes_58 (fun H locs hP hD hS => ?_)
        refine lv_goto (tgt := 74) hx hb d_Model_makes_61 (by decide) ?_
        exact ihn.2.1 u7 ((σ.1 31) + 1) 0 H locs ls hF hP hD hS (lv_sub hl [1, 0] rfl)
    · have hF : tModel_makes_b2 (tModel_makes_L n) σ x1 x2 = some σ' := hF
      unfold tModel_makes_b2 at hF
      refine lv_aload_n hx hb d_Model_makes_74 rfl (lv_at hl 0 rfl) ?_
      refine lv_ldc2 (v := 61) hx hb hown (hts _ w_e4b38f1f68) d_Model_makes_75 ?_
      obtain ⟨u8, h8, hF⟩ := b1E hF
      refine callVV (As := [.long 61]) X (ct_Model_need l dC dI ad cA H.size h8) lk_Model_252 ⟨rfl, rfl, by decide, by decide⟩ 11 rfl rfl hP hD hS hl.1 rfl rfl (Nat.le_of_ble_eq_true rfl) d_Model_makes_78 (fun H locs hP hD hS => ?_)
      refine lv_aload_n hx hb d_Model_makes_81 rfl (lv_at hl 0 rfl) ?_
      refine va_get (D := (dC, dI)) (ci := 11) (v := .int (u8.1 29)) hx hb hts i_Model hown hK hP 11 rfl rfl 4 (by decide) (hts _ w_0464dc4398) (fun _ h9 => h9) rfl d_Model_makes_82 ?_
      refine lv_if_ne (tgt := 96) hx hb d_Model_makes_85 (by decide) (fun c_9 => ?_) (fun c_9 => ?_)
      · have hF := ifn hF c_9
        refine lv_iconst (v := 0) hx hb d_Model_makes_96 (by decide) ?_
        exact ihn.2.2 u8 x1 0 H locs ls hF hP hD hS (lv_sub hl [0, 1] rfl)
      · have hF := ifp hF c_9
        refine lv_aload_n hx hb d_Model_makes_88 rfl (lv_at hl 0 rfl) ?_
        refine lv_iconst (v := (-1)) hx hb d_Model_makes_89 (by decide) ?_
        obtain ⟨r10, u10, h10, hF⟩ := b2E hF
        refine callVI (As := [.int (-1)]) X (ct_Model_value l dC dI ad cA H.size h10) lk_Model_296 ⟨rfl, rfl, by decide, by decide⟩ 11 rfl rfl hP hD hS hl.1 rfl rfl (Nat.le_of_ble_eq_true rfl) d_Model_makes_90 (fun H locs hP hD hS => ?_)
        refine lv_goto (tgt := 97) hx hb d_Model_makes_93 (by decide) ?_
        exact ihn.2.2 u10 x1 r10 H locs ls hF hP hD hS (lv_sub hl [0, 1] rfl)
    · have hF : tModel_makes_b3 (tModel_makes_L n) σ x1 x2 = some σ' := hF
      unfold tModel_makes_b3 at hF
      refine lv_istore_n (lv' := [(2, .int x2), (0, .ref (ad 11)), (1, .int x1)]) hx hb d_Model_makes_97 rfl hl (by decide) rfl (fun ls hl => ?_)
      refine lv_aload_n hx hb d_Model_makes_98 rfl (lv_at hl 1 rfl) ?_
      refine lv_ldc2 (v := 59) hx hb hown (hts _ w_bf42dcc438) d_Model_makes_99 ?_
      obtain ⟨u11, h11, hF⟩ := b1E hF
      refine callVV (As := [.long 59]) X (ct_Model_need l dC dI ad cA H.size h11) lk_Model_252 ⟨rfl, rfl, by decide, by decide⟩ 11 rfl rfl hP hD hS hl.1 rfl rfl (Nat.le_of_ble_eq_true rfl) d_Model_makes_102 (fun H locs hP hD hS => ?_)
      refine lv_aload_n hx hb d_Model_makes_105 rfl (lv_at hl 1 rfl) ?_
      refine va_get (D := (dC, dI)) (ci := 11) (v := .int (u11.1 29)) hx hb hts i_Model hown hK hP 11 rfl rfl 4 (by decide) (hts _ w_0464dc4398) (fun _ h9 => h9) rfl d_Model_makes_106 ?_
      refine lv_if_eq (tgt := 113) hx hb d_Model_makes_109 (by decide) (fun c_12 => ?_) (fun c_12 => ?_)
      · have hF := ifp hF c_12
        refine lv_aload_n hx hb d_Model_makes_113 rfl (lv_at hl 1 rfl) ?_
        refine lv_iload_n hx hb d_Model_makes_114 rfl (lv_at hl 2 rfl) ?_
        obtain ⟨u13, h13, hF⟩ := b1E hF
        refine callVV (As := [.int x1]) X (ct_Model_makeVariable l dC dI ad cA H.size h13) lk_Model_306 ⟨rfl, rfl, by decide, by decide⟩ 11 rfl rfl hP hD hS hl.1 rfl rfl (Nat.le_of_ble_eq_true rfl) d_Model_makes_115 (fun H locs hP hD hS => ?_)
        refine lv_aload_n hx hb d_Model_makes_118 rfl (lv_at hl 1 rfl) ?_
        refine lv_aload_n hx hb d_Model_makes_119 rfl (lv_at hl 1 rfl) ?_
        refine lv_bipush (v := 11) hx hb d_Model_makes_120 (by decide) ?_
        refine lv_aload_n hx hb d_Model_makes_122 rfl (lv_at hl 1 rfl) ?_
        refine va_get (D := (dC, dI)) (ci := 11) (v := .int (u13.1 38)) hx hb hts i_Model hown hK hP 11 rfl rfl 28 (by decide) (hts _ w_805d5a2f41) (fun _ h9 => h9) rfl d_Model_makes_123 ?_
        refine lv_iconst (v := 1) hx hb d_Model_makes_126 (by decide) ?_
        refine lv_isub hx hb d_Model_makes_127 ?_
        refine lv_iload_n hx hb d_Model_makes_128 rfl (lv_at hl 0 rfl) ?_
        refine lv_iconst (v := (-1)) hx hb d_Model_makes_129 (by decide) ?_
        obtain ⟨r14, u14, h14, hF⟩ := b2E hF
        refine callVI (As := [.int 11, .int ((u13.1 38) - 1), .int x2, .int (-1)]) X (ct_Model_node l dC dI ad cA H.size h14) lk_Model_216 ⟨rfl, rfl, by decide, by decide⟩ 11 rfl rfl hP hD hS hl.1 rfl rfl (Nat.le_of_ble_eq_true rfl) d_Model_makes_130 (fun H locs hP hD hS => ?_)
        obtain ⟨u15, h15, hF⟩ := b1E hF
        refine callVV (As := [.int r14]) X (ct_Model_whole l dC dI ad cA H.size h15) lk_Model_309 ⟨rfl, rfl, by decide, by decide⟩ 11 rfl rfl hP hD hS hl.1 rfl rfl (Nat.le_of_ble_eq_true rfl) d_Model_makes_133 (fun H locs hP hD hS => ?_)
        cases hF
        exact leafV X hP hD hS d_Model_makes_136
      · have hF := ifn hF c_12
        cases hF
        exact leafV X hP hD hS d_Model_makes_112
set_option maxHeartbeats 4000000 in
set_option maxRecDepth 100000 in
theorem ct_Model_makes (l : Launch) (dC : Nat → ClassId) (dI : Nat → Nat → Nat) (ad : Nat → Nat) (cA : Nat → ClassId) (sz : Nat) {σ : St} {σ' : St} (hF : tModel_makes σ = some σ') : MV l y_Model_makes b_Model_makes 3 none { frames := 6, cells := 0, slots := 0, locals := 136 } (dC, dI) (ttys cA) ad (tcw ad cA) [.ref (ad 11)] σ sz σ' := by
  refine startM (own := "TinyForgeModel") (Qc := fun A => QV (dC, dI) (ttys cA) (tcw ad cA) A σ') rfl rfl (Nat.le_of_ble_eq_true rfl) ?_
  intro p e s m below meth c A H locs ls X hP hD hS hl
  have hl : lv_has ls 3 [(0, .ref (ad 11))] := hl
  obtain ⟨hx, hb, hr, hml, hown, hlocks, hts, hA, hK, hZ⟩ := id X
  unfold tModel_makes at hF
  refine lv_aload_n hx hb d_Model_makes_0 rfl (lv_at hl 0 rfl) ?_
  refine va_get (D := (dC, dI)) (ci := 11) (v := .ref (ad 35)) hx hb hts i_Model hown hK hP 11 rfl rfl 14 (by decide) (hts _ w_0e6df3fb4c) (fun _ h9 => h9) rfl d_Model_makes_1 ?_
  refine lv_aload_n hx hb d_Model_makes_4 rfl (lv_at hl 0 rfl) ?_
  refine va_get (D := (dC, dI)) (ci := 11) (v := .ref (ad 51)) hx hb hts i_Model hown hK hP 11 rfl rfl 38 (by decide) (hts _ w_250ac790e4) (fun _ h9 => h9) rfl d_Model_makes_5 ?_
  refine lv_aload_n hx hb d_Model_makes_8 rfl (lv_at hl 0 rfl) ?_
  refine va_get (D := (dC, dI)) (ci := 11) (v := .int (σ.1 42)) hx hb hts i_Model hown hK hP 11 rfl rfl 35 (by decide) (hts _ w_d470deee69) (fun _ h9 => h9) rfl d_Model_makes_9 ?_
  refine lv_iconst (v := 1) hx hb d_Model_makes_12 (by decide) ?_
  refine lv_isub hx hb d_Model_makes_13 ?_
  obtain ⟨g_1, hF⟩ := gdE hF
  refine va_iald (f := (σ.2.2.1 36)) hx hb hK hP 51 0 rfl rfl (inE g_1) d_Model_makes_14 ?_
  obtain ⟨g_2, hF⟩ := gdE hF
  refine va_iald (f := (σ.2.2.1 20)) hx hb hK hP 35 0 rfl rfl (inE g_2) d_Model_makes_15 ?_
  refine lv_bipush (v := 10) hx hb d_Model_makes_16 (by decide) ?_
  refine lv_icmp_eq (tgt := 29) hx hb d_Model_makes_18 (by decide) (fun c_3 => ?_) (fun c_3 => ?_)
  · have hF := ifp hF c_3
    exact (tModel_makes_blk l dC dI ad cA X 2000).1 σ 0 0 H locs ls hF hP hD hS (lv_sub hl [0] rfl)
  · have hF := ifn hF c_3
    refine lv_aload_n hx hb d_Model_makes_21 rfl (lv_at hl 0 rfl) ?_
    refine lv_aload_n hx hb d_Model_makes_22 rfl (lv_at hl 0 rfl) ?_
    refine va_get (D := (dC, dI)) (ci := 11) (v := .int (σ.1 31)) hx hb hts i_Model hown hK hP 11 rfl rfl 6 (by decide) (hts _ w_13cd8e7698) (fun _ h9 => h9) rfl d_Model_makes_23 ?_
    obtain ⟨u4, h4, hF⟩ := b1E hF
    refine callVV (As := [.int (σ.1 31)]) X (ct_Model_notName l dC dI ad cA H.size h4) lk_Model_249 ⟨rfl, rfl, by decide, by decide⟩ 11 rfl rfl hP hD hS hl.1 rfl rfl (Nat.le_of_ble_eq_true rfl) d_Model_makes_26 (fun H locs hP hD hS => ?_)
    exact (tModel_makes_blk l dC dI ad cA X 2000).1 u4 0 0 H locs ls hF hP hD hS (lv_sub hl [0] rfl)
theorem d_Model_named_0 : decode b_Model_named 0 = .ok (.aload_n 0, 1) := by decide +kernel
theorem d_Model_named_1 : decode b_Model_named 1 = .ok (.getfield 184, 3) := by decide +kernel
theorem d_Model_named_4 : decode b_Model_named 4 = .ok (.istore_n 1, 1) := by decide +kernel
theorem d_Model_named_5 : decode b_Model_named 5 = .ok (.aload_n 0, 1) := by decide +kernel
theorem d_Model_named_6 : decode b_Model_named 6 = .ok (.aload_n 0, 1) := by decide +kernel
theorem d_Model_named_7 : decode b_Model_named 7 = .ok (.getfield 184, 3) := by decide +kernel
theorem d_Model_named_10 : decode b_Model_named 10 = .ok (.iconst 1, 1) := by decide +kernel
theorem d_Model_named_11 : decode b_Model_named 11 = .ok (.iadd, 1) := by decide +kernel
theorem d_Model_named_12 : decode b_Model_named 12 = .ok (.ldc2_w 302, 3) := by decide +kernel
theorem d_Model_named_15 : decode b_Model_named 15 = .ok (.invokevirtual 168, 3) := by decide +kernel
theorem d_Model_named_18 : decode b_Model_named 18 = .ok (.ifCond .eq 62, 3) := by decide +kernel
theorem d_Model_named_21 : decode b_Model_named 21 = .ok (.aload_n 0, 1) := by decide +kernel
theorem d_Model_named_22 : decode b_Model_named 22 = .ok (.dup, 1) := by decide +kernel
theorem d_Model_named_23 : decode b_Model_named 23 = .ok (.getfield 184, 3) := by decide +kernel
theorem d_Model_named_26 : decode b_Model_named 26 = .ok (.iconst 2, 1) := by decide +kernel
theorem d_Model_named_27 : decode b_Model_named 27 = .ok (.iadd, 1) := by decide +kernel
theorem d_Model_named_28 : decode b_Model_named 28 = .ok (.putfield 184, 3) := by decide +kernel
theorem d_Model_named_31 : decode b_Model_named 31 = .ok (.aload_n 0, 1) := by decide +kernel
theorem d_Model_named_32 : decode b_Model_named 32 = .ok (.iload_n 1, 1) := by decide +kernel
theorem d_Model_named_33 : decode b_Model_named 33 = .ok (.invokevirtual 241, 3) := by decide +kernel
theorem d_Model_named_36 : decode b_Model_named 36 = .ok (.istore_n 2, 1) := by decide +kernel
theorem d_Model_named_37 : decode b_Model_named 37 = .ok (.iload_n 2, 1) := by decide +kernel
theorem d_Model_named_38 : decode b_Model_named 38 = .ok (.ifCond .ge 8, 3) := by decide +kernel
theorem d_Model_named_41 : decode b_Model_named 41 = .ok (.aload_n 0, 1) := by decide +kernel
theorem d_Model_named_42 : decode b_Model_named 42 = .ok (.iload_n 1, 1) := by decide +kernel
theorem d_Model_named_43 : decode b_Model_named 43 = .ok (.invokevirtual 249, 3) := by decide +kernel
theorem d_Model_named_46 : decode b_Model_named 46 = .ok (.aload_n 0, 1) := by decide +kernel
theorem d_Model_named_47 : decode b_Model_named 47 = .ok (.iconst (-1), 1) := by decide +kernel
theorem d_Model_named_48 : decode b_Model_named 48 = .ok (.invokevirtual 296, 3) := by decide +kernel
theorem d_Model_named_51 : decode b_Model_named 51 = .ok (.istore_n 3, 1) := by decide +kernel
theorem d_Model_named_52 : decode b_Model_named 52 = .ok (.aload_n 0, 1) := by decide +kernel
theorem d_Model_named_53 : decode b_Model_named 53 = .ok (.ldc2_w 304, 3) := by decide +kernel
theorem d_Model_named_56 : decode b_Model_named 56 = .ok (.invokevirtual 252, 3) := by decide +kernel
theorem d_Model_named_59 : decode b_Model_named 59 = .ok (.aload_n 0, 1) := by decide +kernel
theorem d_Model_named_60 : decode b_Model_named 60 = .ok (.getfield 121, 3) := by decide +kernel
theorem d_Model_named_63 : decode b_Model_named 63 = .ok (.ifCond .ne 16, 3) := by decide +kernel
theorem d_Model_named_66 : decode b_Model_named 66 = .ok (.aload_n 0, 1) := by decide +kernel
theorem d_Model_named_67 : decode b_Model_named 67 = .ok (.aload_n 0, 1) := by decide +kernel
theorem d_Model_named_68 : decode b_Model_named 68 = .ok (.bipush 11, 2) := by decide +kernel
theorem d_Model_named_70 : decode b_Model_named 70 = .ok (.iload_n 2, 1) := by decide +kernel
theorem d_Model_named_71 : decode b_Model_named 71 = .ok (.iload_n 3, 1) := by decide +kernel
theorem d_Model_named_72 : decode b_Model_named 72 = .ok (.iconst (-1), 1) := by decide +kernel
theorem d_Model_named_73 : decode b_Model_named 73 = .ok (.invokevirtual 216, 3) := by decide +kernel
theorem d_Model_named_76 : decode b_Model_named 76 = .ok (.invokevirtual 309, 3) := by decide +kernel
theorem d_Model_named_79 : decode b_Model_named 79 = .ok (.return_, 1) := by decide +kernel
theorem d_Model_named_80 : decode b_Model_named 80 = .ok (.aload_n 0, 1) := by decide +kernel
theorem d_Model_named_81 : decode b_Model_named 81 = .ok (.aload_n 0, 1) := by decide +kernel
theorem d_Model_named_82 : decode b_Model_named 82 = .ok (.getfield 184, 3) := by decide +kernel
theorem d_Model_named_85 : decode b_Model_named 85 = .ok (.iconst 1, 1) := by decide +kernel
theorem d_Model_named_86 : decode b_Model_named 86 = .ok (.iadd, 1) := by decide +kernel
theorem d_Model_named_87 : decode b_Model_named 87 = .ok (.ldc2_w 231, 3) := by decide +kernel
theorem d_Model_named_90 : decode b_Model_named 90 = .ok (.invokevirtual 168, 3) := by decide +kernel
theorem d_Model_named_93 : decode b_Model_named 93 = .ok (.ifCond .ne 11, 3) := by decide +kernel
theorem d_Model_named_96 : decode b_Model_named 96 = .ok (.aload_n 0, 1) := by decide +kernel
theorem d_Model_named_97 : decode b_Model_named 97 = .ok (.bipush 17, 2) := by decide +kernel
theorem d_Model_named_99 : decode b_Model_named 99 = .ok (.iconst (-1), 1) := by decide +kernel
theorem d_Model_named_100 : decode b_Model_named 100 = .ok (.invokevirtual 312, 3) := by decide +kernel
theorem d_Model_named_103 : decode b_Model_named 103 = .ok (.return_, 1) := by decide +kernel
theorem d_Model_named_104 : decode b_Model_named 104 = .ok (.aload_n 0, 1) := by decide +kernel
theorem d_Model_named_105 : decode b_Model_named 105 = .ok (.dup, 1) := by decide +kernel
theorem d_Model_named_106 : decode b_Model_named 106 = .ok (.getfield 184, 3) := by decide +kernel
theorem d_Model_named_109 : decode b_Model_named 109 = .ok (.iconst 1, 1) := by decide +kernel
theorem d_Model_named_110 : decode b_Model_named 110 = .ok (.iadd, 1) := by decide +kernel
theorem d_Model_named_111 : decode b_Model_named 111 = .ok (.putfield 184, 3) := by decide +kernel
theorem d_Model_named_114 : decode b_Model_named 114 = .ok (.aload_n 0, 1) := by decide +kernel
theorem d_Model_named_115 : decode b_Model_named 115 = .ok (.invokevirtual 233, 3) := by decide +kernel
theorem d_Model_named_118 : decode b_Model_named 118 = .ok (.aload_n 0, 1) := by decide +kernel
theorem d_Model_named_119 : decode b_Model_named 119 = .ok (.getfield 121, 3) := by decide +kernel
theorem d_Model_named_122 : decode b_Model_named 122 = .ok (.ifCond .ne 11, 3) := by decide +kernel
theorem d_Model_named_125 : decode b_Model_named 125 = .ok (.aload_n 0, 1) := by decide +kernel
theorem d_Model_named_126 : decode b_Model_named 126 = .ok (.iconst (-1), 1) := by decide +kernel
theorem d_Model_named_127 : decode b_Model_named 127 = .ok (.invokevirtual 296, 3) := by decide +kernel
theorem d_Model_named_130 : decode b_Model_named 130 = .ok (.goto 4, 3) := by decide +kernel
theorem d_Model_named_133 : decode b_Model_named 133 = .ok (.iconst 0, 1) := by decide +kernel
theorem d_Model_named_134 : decode b_Model_named 134 = .ok (.istore_n 2, 1) := by decide +kernel
theorem d_Model_named_135 : decode b_Model_named 135 = .ok (.aload_n 0, 1) := by decide +kernel
theorem d_Model_named_136 : decode b_Model_named 136 = .ok (.ldc2_w 272, 3) := by decide +kernel
theorem d_Model_named_139 : decode b_Model_named 139 = .ok (.invokevirtual 190, 3) := by decide +kernel
theorem d_Model_named_142 : decode b_Model_named 142 = .ok (.ifCond .ne 7, 3) := by decide +kernel
theorem d_Model_named_145 : decode b_Model_named 145 = .ok (.aload_n 0, 1) := by decide +kernel
theorem d_Model_named_146 : decode b_Model_named 146 = .ok (.invokevirtual 194, 3) := by decide +kernel
theorem d_Model_named_149 : decode b_Model_named 149 = .ok (.aload_n 0, 1) := by decide +kernel
theorem d_Model_named_150 : decode b_Model_named 150 = .ok (.dup, 1) := by decide +kernel
theorem d_Model_named_151 : decode b_Model_named 151 = .ok (.getfield 197, 3) := by decide +kernel
theorem d_Model_named_154 : decode b_Model_named 154 = .ok (.iconst 1, 1) := by decide +kernel
theorem d_Model_named_155 : decode b_Model_named 155 = .ok (.isub, 1) := by decide +kernel
theorem d_Model_named_156 : decode b_Model_named 156 = .ok (.putfield 197, 3) := by decide +kernel
theorem d_Model_named_159 : decode b_Model_named 159 = .ok (.aload_n 0, 1) := by decide +kernel
theorem d_Model_named_160 : decode b_Model_named 160 = .ok (.getfield 121, 3) := by decide +kernel
theorem d_Model_named_163 : decode b_Model_named 163 = .ok (.ifCond .eq 4, 3) := by decide +kernel
theorem d_Model_named_166 : decode b_Model_named 166 = .ok (.return_, 1) := by decide +kernel
theorem d_Model_named_167 : decode b_Model_named 167 = .ok (.aload_n 0, 1) := by decide +kernel
theorem d_Model_named_168 : decode b_Model_named 168 = .ok (.dup, 1) := by decide +kernel
theorem d_Model_named_169 : decode b_Model_named 169 = .ok (.getfield 184, 3) := by decide +kernel
theorem d_Model_named_172 : decode b_Model_named 172 = .ok (.iconst 1, 1) := by decide +kernel
theorem d_Model_named_173 : decode b_Model_named 173 = .ok (.iadd, 1) := by decide +kernel
theorem d_Model_named_174 : decode b_Model_named 174 = .ok (.putfield 184, 3) := by decide +kernel
theorem d_Model_named_177 : decode b_Model_named 177 = .ok (.aload_n 0, 1) := by decide +kernel
theorem d_Model_named_178 : decode b_Model_named 178 = .ok (.iload_n 1, 1) := by decide +kernel
theorem d_Model_named_179 : decode b_Model_named 179 = .ok (.iload_n 2, 1) := by decide +kernel
theorem d_Model_named_180 : decode b_Model_named 180 = .ok (.invokevirtual 274, 3) := by decide +kernel
theorem d_Model_named_183 : decode b_Model_named 183 = .ok (.istore_n 3, 1) := by decide +kernel
theorem d_Model_named_184 : decode b_Model_named 184 = .ok (.aload_n 0, 1) := by decide +kernel
theorem d_Model_named_185 : decode b_Model_named 185 = .ok (.ldc2_w 302, 3) := by decide +kernel
theorem d_Model_named_188 : decode b_Model_named 188 = .ok (.invokevirtual 190, 3) := by decide +kernel
theorem d_Model_named_191 : decode b_Model_named 191 = .ok (.ifCond .ne 11, 3) := by decide +kernel
theorem d_Model_named_194 : decode b_Model_named 194 = .ok (.aload_n 0, 1) := by decide +kernel
theorem d_Model_named_195 : decode b_Model_named 195 = .ok (.bipush 17, 2) := by decide +kernel
theorem d_Model_named_197 : decode b_Model_named 197 = .ok (.iload_n 3, 1) := by decide +kernel
theorem d_Model_named_198 : decode b_Model_named 198 = .ok (.invokevirtual 312, 3) := by decide +kernel
theorem d_Model_named_201 : decode b_Model_named 201 = .ok (.return_, 1) := by decide +kernel
theorem d_Model_named_202 : decode b_Model_named 202 = .ok (.aload_n 0, 1) := by decide +kernel
theorem d_Model_named_203 : decode b_Model_named 203 = .ok (.dup, 1) := by decide +kernel
theorem d_Model_named_204 : decode b_Model_named 204 = .ok (.getfield 184, 3) := by decide +kernel
theorem d_Model_named_207 : decode b_Model_named 207 = .ok (.iconst 1, 1) := by decide +kernel
theorem d_Model_named_208 : decode b_Model_named 208 = .ok (.iadd, 1) := by decide +kernel
theorem d_Model_named_209 : decode b_Model_named 209 = .ok (.putfield 184, 3) := by decide +kernel
theorem d_Model_named_212 : decode b_Model_named 212 = .ok (.aload_n 0, 1) := by decide +kernel
theorem d_Model_named_213 : decode b_Model_named 213 = .ok (.iconst (-1), 1) := by decide +kernel
theorem d_Model_named_214 : decode b_Model_named 214 = .ok (.invokevirtual 296, 3) := by decide +kernel
theorem d_Model_named_217 : decode b_Model_named 217 = .ok (.istore 4, 2) := by decide +kernel
theorem d_Model_named_219 : decode b_Model_named 219 = .ok (.aload_n 0, 1) := by decide +kernel
theorem d_Model_named_220 : decode b_Model_named 220 = .ok (.ldc2_w 304, 3) := by decide +kernel
theorem d_Model_named_223 : decode b_Model_named 223 = .ok (.invokevirtual 252, 3) := by decide +kernel
theorem d_Model_named_226 : decode b_Model_named 226 = .ok (.aload_n 0, 1) := by decide +kernel
theorem d_Model_named_227 : decode b_Model_named 227 = .ok (.getfield 121, 3) := by decide +kernel
theorem d_Model_named_230 : decode b_Model_named 230 = .ok (.ifCond .eq 4, 3) := by decide +kernel
theorem d_Model_named_233 : decode b_Model_named 233 = .ok (.return_, 1) := by decide +kernel
theorem d_Model_named_234 : decode b_Model_named 234 = .ok (.aload_n 0, 1) := by decide +kernel
theorem d_Model_named_235 : decode b_Model_named 235 = .ok (.getfield 30, 3) := by decide +kernel
theorem d_Model_named_238 : decode b_Model_named 238 = .ok (.iload_n 3, 1) := by decide +kernel
theorem d_Model_named_239 : decode b_Model_named 239 = .ok (.bipush 12, 2) := by decide +kernel
theorem d_Model_named_241 : decode b_Model_named 241 = .ok (.iastore, 1) := by decide +kernel
theorem d_Model_named_242 : decode b_Model_named 242 = .ok (.aload_n 0, 1) := by decide +kernel
theorem d_Model_named_243 : decode b_Model_named 243 = .ok (.getfield 39, 3) := by decide +kernel
theorem d_Model_named_246 : decode b_Model_named 246 = .ok (.iload_n 3, 1) := by decide +kernel
theorem d_Model_named_247 : decode b_Model_named 247 = .ok (.iload 4, 2) := by decide +kernel
theorem d_Model_named_249 : decode b_Model_named 249 = .ok (.iastore, 1) := by decide +kernel
theorem d_Model_named_250 : decode b_Model_named 250 = .ok (.aload_n 0, 1) := by decide +kernel
theorem d_Model_named_251 : decode b_Model_named 251 = .ok (.iload_n 3, 1) := by decide +kernel
theorem d_Model_named_252 : decode b_Model_named 252 = .ok (.invokevirtual 309, 3) := by decide +kernel
theorem d_Model_named_255 : decode b_Model_named 255 = .ok (.return_, 1) := by decide +kernel
def tModel_named_b1 (k : Nat → St → Int32 → Int32 → Option (St)) (σ : St) (x1 : Int32) (x2 : Int32) : Option (St) := b2 (tModel_value σ (-1)) (fun r15 u15 => b1 (tModel_need u15 59) (fun u16 => if (u16.1 29) = 0 then b2 (tModel_node u16 11 x1 r15 (-1)) (fun r18 u18 => b1 (tModel_whole u18 r18) (fun u19 => some u19)) else some u16))
def tModel_named_b2 (k : Nat → St → Int32 → Int32 → Option (St)) (σ : St) (x1 : Int32) (x2 : Int32) : Option (St) := b1 (tModel_sees σ 93) (fun r12 => if r12 = 0 then b1 (tModel_spoil σ) (fun u14 => k 3 u14 x1 x2) else k 3 σ x1 x2)
def tModel_named_b3 (k : Nat → St → Int32 → Int32 → Option (St)) (σ : St) (x1 : Int32) (x2 : Int32) : Option (St) := if (σ.1 29) = 0 then b2 (tModel_element (sI (sI σ 32 ((σ.1 32) - 1)) 31 ((σ.1 31) + 1)) x1 x2) (fun r21 u21 => b1 (tModel_sees u21 61) (fun r22 => if r22 = 0 then b1 (tModel_ends u21 17 r21) (fun u30 => some u30) else b2 (tModel_value (sI u21 31 ((u21.1 31) + 1)) (-1)) (fun r24 u24 => b1 (tModel_need u24 59) (fun u25 => if (u25.1 29) = 0 then gd (inB r21 500) (gd (inB r21 500) (b1 (tModel_whole (sA (sA u25 20 (upd (u25.2.2.1 20) r21.toNatClampNeg 12)) 23 (upd (u25.2.2.1 23) r21.toNatClampNeg r24)) r21) (fun u29 => some u29))) else some u25)))) else some (sI σ 32 ((σ.1 32) - 1))
def tModel_named_L : Nat → Nat → St → Int32 → Int32 → Option (St)
  | 0, _, _, _, _ => none
  | n + 1, lab, σ, x1, x2 => match lab with
    | 1 => tModel_named_b1 (tModel_named_L n) σ x1 x2
    | 2 => tModel_named_b2 (tModel_named_L n) σ x1 x2
    | 3 => tModel_named_b3 (tModel_named_L n) σ x1 x2
    | _ => none
def tModel_named (σ : St) : Option (St) := b1 (tModel_is σ ((σ.1 31) + 1) 61) (fun r1 => if r1 = 0 then b1 (tModel_is σ ((σ.1 31) + 1) 91) (fun r3 => if r3 = 0 then b1 (tModel_ends σ 17 (-1)) (fun u8 => some u8) else b1 (tModel_opens (sI σ 31 ((σ.1 31) + 1))) (fun u5 => if (u5.1 29) = 0 then b2 (tModel_value u5 (-1)) (fun r7 u7 => tModel_named_L 2000 2 u7 (σ.1 31) r7) else tModel_named_L 2000 2 u5 (σ.1 31) 0)) else b1 (tModel_variable (sI σ 31 ((σ.1 31) + 2)) (σ.1 31)) (fun r9 => if (0 : Int32) ≤ r9 then tModel_named_L 2000 1 (sI σ 31 ((σ.1 31) + 2)) r9 0 else b1 (tModel_notName (sI σ 31 ((σ.1 31) + 2)) (σ.1 31)) (fun u11 => tModel_named_L 2000 1 u11 r9 0)))
set_option maxHeartbeats 4000000 in
set_option maxRecDepth 100000 in
theorem tModel_named_blk {p : Program} {e : Env} {s : State} {m : MethodId} {args : Array Value} {below : List Frame} {meth : Method} {c : Code} {A : Nat → Prop} (l : Launch) (dC : Nat → ClassId) (dI : Nat → Nat → Nat) (ad : Nat → Nat) (cA : Nat → ClassId) {σ' : St} (X : Cx p s m args meth c b_Model_named 5 none "TinyForgeModel" (dC, dI) (ttys cA) ad A) : ∀ n : Nat, (∀ (σ : St) (x1 : Int32) (x2 : Int32) (H : Heap) (locs : List Loc) (ls : Array Slot), tModel_named_L n 1 σ x1 x2 = some σ' → va_P (dC, dI) vwCl (tcw ad cA σ) H → va_D A (tcw ad cA σ) → va_S A s.heap H locs → lv_has ls 5 [(0, .ref (ad 11)), (2, .int x1)] → W p l e { frames := 7, cells := 0, slots := 0, locals := 159 } s m args below meth c H locs 0 0 (MQ below (QV (dC, dI) (ttys cA) (tcw ad cA) A σ') args s 0 0 A) (F0 m 46 ls [])) ∧ (∀ (σ : St) (x1 : Int32) (x2 : Int32) (H : Heap) (locs : List Loc) (ls : Array Slot), tModel_named_L n 2 σ x1 x2 = some σ' → va_P (dC, dI) vwCl (tcw ad cA σ) H → va_D A (tcw ad cA σ) → va_S A s.heap H locs → lv_has ls 5 [(0, .ref (ad 11)), (1, .int x1)] → W p l e { frames := 7, cells := 0, slots := 0, locals := 159 } s m args below meth c H locs 0 0 (MQ below (QV (dC, dI) (ttys cA) (tcw ad cA) A σ') args s 0 0 A) (F0 m 134 ls [.int x2])) ∧ (∀ (σ : St) (x1 : Int32) (x2 : Int32) (H : Heap) (locs : List Loc) (ls : Array Slot), tModel_named_L n 3 σ x1 x2 = some σ' → va_P (dC, dI) vwCl (tcw ad cA σ) H → va_D A (tcw ad cA σ) → va_S A s.heap H locs → lv_has ls 5 [(0, .ref (ad 11)), (1, .int x1), (2, .int x2)] → W p l e { frames := 7, cells := 0, slots := 0, locals := 159 } s m args below meth c H locs 0 0 (MQ below (QV (dC, dI) (ttys cA) (tcw ad cA) A σ') args s 0 0 A) (F0 m 149 ls [])) := by
  obtain ⟨hx, hb, hr, hml, hown, hlocks, hts, hA, hK, hZ⟩ := id X
  intro n
  induction n with
  | zero => exact ⟨(fun σ x1 x2 H locs ls hF => by cases hF), (fun σ x1 x2 H locs ls hF => by cases hF), (fun σ x1 x2 H locs ls hF => by cases hF)⟩
  | succ n ihn =>
    refine ⟨fun σ x1 x2 H locs ls hF hP hD hS hl => ?_, fun σ x1 x2 H locs ls hF hP hD hS hl => ?_, fun σ x1 x2 H locs ls hF hP hD hS hl => ?_⟩
    · have hF : tModel_named_b1 (tModel_named_L n) σ x1 x2 = some σ' := hF
      unfold tModel_named_b1 at hF
      refine lv_aload_n hx hb d_Model_named_46 rfl (lv_at hl 0 rfl) ?_
      refine lv_iconst (v := (-1)) hx hb d_Model_named_47 (by decide) ?_
      obtain ⟨r15, u15, h15, hF⟩ := b2E hF
      refine callVI (As := [.int (-1)]) X (ct_Model_value l dC dI ad cA H.size h15) lk_Model_296 ⟨rfl, rfl, by decide, by decide⟩ 11 rfl rfl hP hD hS hl.1 rfl rfl (Nat.le_of_ble_eq_true rfl) d_Model_named_48 (fun H locs hP hD hS => ?_)
      refine lv_istore_n (lv' := [(3, .int r15), (0, .ref (ad 11)), (2, .int x1)]) hx hb d_Model_named_51 rfl hl (by decide) rfl (fun ls hl => ?_)
      refine lv_aload_n hx hb d_Model_named_52 rfl (lv_at hl 1 rfl) ?_
      refine lv_ldc2 (v := 59) hx hb hown (hts _ w_bf42dcc438) d_Model_named_53 ?_
      obtain ⟨u16, h16, hF⟩ := b1E hF
      refine callVV (As := [.long 59]) X (ct_Model_need l dC dI ad cA H.size h16) lk_Model_252 ⟨rfl, rfl, by decide, by decide⟩ 11 rfl rfl hP hD hS hl.1 rfl rfl (Nat.le_of_ble_eq_true rfl) d_Model_named_56 (fun H locs hP hD hS => ?_)
      refine lv_aload_n hx hb d_Model_named_59 rfl (lv_at hl 1 rfl) ?_
      refine va_get (D := (dC, dI)) (ci := 11) (v := .int (u16.1 29)) hx hb hts i_Model hown hK hP 11 rfl rfl 4 (by decide) (hts _ w_0464dc4398) (fun _ h9 => h9) rfl d_Model_named_60 ?_
      refine lv_if_ne (tgt := 79) hx hb d_Model_named_63 (by decide) (fun c_17 => ?_) (fun c_17 => ?_)
      · have hF := ifn hF c_17
        cases hF
        exact leafV X hP hD hS d_Model_named_79
      · have hF := ifp hF c_17
        refine lv_aload_n hx hb d_Model_named_66 rfl (lv_at hl 1 rfl) ?_
        refine lv_aload_n hx hb d_Model_named_67 rfl (lv_at hl 1 rfl) ?_
        refine lv_bipush (v := 11) hx hb d_Model_named_68 (by decide) ?_
        refine lv_iload_n hx hb d_Model_named_70 rfl (lv_at hl 2 rfl) ?_
        refine lv_iload_n hx hb d_Model_named_71 rfl (lv_at hl 0 rfl) ?_
        refine lv_iconst (v := (-1)) hx hb d_Model_named_72 (by decide) ?_
        obtain ⟨r18, u18, h18, hF⟩ := b2E hF
        refine callVI (As := [.int 11, .int x1, .int r15, .int (-1)]) X (ct_Model_node l dC dI ad cA H.size h18) lk_Model_216 ⟨rfl, rfl, by decide, by decide⟩ 11 rfl rfl hP hD hS hl.1 rfl rfl (Nat.le_of_ble_eq_true rfl) d_Model_named_73 (fun H locs hP hD hS => ?_)
        obtain ⟨u19, h19, hF⟩ := b1E hF
        refine callVV (As := [.int r18]) X (ct_Model_whole l dC dI ad cA H.size h19) lk_Model_309 ⟨rfl, rfl, by decide, by decide⟩ 11 rfl rfl hP hD hS hl.1 rfl rfl (Nat.le_of_ble_eq_true rfl) d_Model_named_76 (fun H locs hP hD hS => ?_)
        cases hF
        exact leafV X hP hD hS d_Model_named_79
    · have hF : tModel_named_b2 (tModel_named_L n) σ x1 x2 = some σ' := hF
      unfold tModel_named_b2 at hF
      refine lv_istore_n (lv' := [(2, .int x2), (0, .ref (ad 11)), (1, .int x1)]) hx hb d_Model_named_134 rfl hl (by decide) rfl (fun ls hl => ?_)
      refine lv_aload_n hx hb d_Model_named_135 rfl (lv_at hl 1 rfl) ?_
      refine lv_ldc2 (v := 93) hx hb hown (hts _ w_61319408b8) d_Model_named_136 ?_
      obtain ⟨r12, h12, hF⟩ := b1E hF
      refine callVI (As := [.long 93]) X (ct_Model_sees l dC dI ad cA H.size h12) lk_Model_190 ⟨rfl, rfl, by decide, by decide⟩ 11 rfl rfl hP hD hS hl.1 rfl rfl (Nat.le_of_ble_eq_true rfl) d_Model_named_139 (fun H locs hP hD hS => ?_)
      refine lv_if_ne (tgt := 149) hx hb d_Model_named_142 (by decide) (fun c_13 => ?_) (fun c_13 => ?_)
      · have hF := ifn hF c_13
        exact ihn.2.2 σ x1 x2 H locs ls hF hP hD hS (lv_sub hl [1, 2, 0] rfl)
      · have hF := ifp hF c_13
        refine lv_aload_n hx hb d_Model_named_145 rfl (lv_at hl 1 rfl) ?_
        obtain ⟨u14, h14, hF⟩ := b1E hF
        refine callVV (As := []) X (ct_Model_spoil l dC dI ad cA H.size h14) lk_Model_194 ⟨rfl, rfl, by decide, by decide⟩ 11 rfl rfl hP hD hS hl.1 rfl rfl (Nat.le_of_ble_eq_true rfl) d_Model_named_146 (fun H locs hP hD hS => ?_)
        exact ihn.2.2 u14 x1 x2 H locs ls hF hP hD hS (lv_sub hl [1, 2, 0] rfl)
    · have hF : tModel_named_b3 (tModel_named_L n) σ x1 x2 = some σ' := hF
      unfold tModel_named_b3 at hF
      refine lv_aload_n hx hb d_Model_named_149 rfl (lv_at hl 0 rfl) ?_
      refine lv_dup hx hb d_Model_named_150 rfl ?_
      refine va_get (D := (dC, dI)) (ci := 11) (v := .int (σ.1 32)) hx hb hts i_Model hown hK hP 11 rfl rfl 7 (by decide) (hts _ w_eb874fa0f0) (fun _ h9 => h9) rfl d_Model_named_151 ?_
      refine lv_iconst (v := 1) hx hb d_Model_named_154 (by decide) ?_
      refine lv_isub hx hb d_Model_named_155 ?_
      refine va_put (D := (dC, dI)) (ci := 11) (v := .int ((σ.1 32) - 1)) (ty := .int) hx hb hts i_Model t_Model t_Model_ok n_Model hown hK hP hD hS 11 rfl rfl 7 (by decide) (hts _ w_eb874fa0f0) (fun _ h9 => h9) rfl (by decide +kernel) rfl rfl (Nat.le_of_ble_eq_true rfl) d_Model_named_156 (fun H locs hP hD hS => ?_)
      have hP : va_P (dC, dI) vwCl (tcw ad cA (sI σ 32 ((σ.1 32) - 1))) H := hP
      have hD : va_D A (tcw ad cA (sI σ 32 ((σ.1 32) - 1))) := hD
      refine lv_aload_n hx hb d_Model_named_159 rfl (lv_at hl 0 rfl) ?_
      refine va_get (D := (dC, dI)) (ci := 11) (v := .int (σ.1 29)) hx hb hts i_Model hown hK hP 11 rfl rfl 4 (by decide) (hts _ w_0464dc4398) (fun _ h9 => h9) rfl d_Model_named_160 ?_
      refine lv_if_eq (tgt := 167) hx hb d_Model_named_163 (by decide) (fun c_20 => ?_) (fun c_20 => ?_)
      · have hF := ifp hF c_20
        refine lv_aload_n hx hb d_Model_named_167 rfl (lv_at hl 0 rfl) ?_
        refine lv_dup hx hb d_Model_named_168 rfl ?_
        refine va_get (D := (dC, dI)) (ci := 11) (v := .int (σ.1 31)) hx hb hts i_Model hown hK hP 11 rfl rfl 6 (by decide) (hts _ w_13cd8e7698) (fun _ h9 => h9) rfl d_Model_named_169 ?_
        refine lv_iconst (v := 1) hx hb d_Model_named_172 (by decide) ?_
        refine lv_iadd hx hb d_Model_named_173 ?_
        refine va_put (D := (dC, dI)) (ci := 11) (v := .int ((σ.1 31) + 1)) (ty := .int) hx hb hts i_Model t_Model t_Model_ok n_Model hown hK hP hD hS 11 rfl rfl 6 (by decide) (hts _ w_13cd8e7698) (fun _ h9 => h9) rfl (by decide +kernel) rfl rfl (Nat.le_of_ble_eq_true rfl) d_Model_named_174 (fun H locs hP hD hS => ?_)
        have hP : va_P (dC, dI) vwCl (tcw ad cA (sI (sI σ 32 ((σ.1 32) - 1)) 31 ((σ.1 31) + 1))) H := hP
        have hD : va_D A (tcw ad cA (sI (sI σ 32 ((σ.1 32) - 1)) 31 ((σ.1 31) + 1))) := hD
        refine lv_aload_n hx hb d_Model_named_177 rfl (lv_at hl 0 rfl) ?_
        refine lv_iload_n hx hb d_Model_named_178 rfl (lv_at hl 1 rfl) ?_
        refine lv_iload_n hx hb d_Model_named_179 rfl (lv_at hl 2 rfl) ?_
        obtain ⟨r21, u21, h21, hF⟩ := b2E hF
        refine callVI (As := [.int x1, .int x2]) X (ct_Model_element l dC dI ad cA H.size h21) lk_Model_274 ⟨rfl, rfl, by decide, by decide⟩ 11 rfl rfl hP hD hS hl.1 rfl rfl (Nat.le_of_ble_eq_true rfl) d_Model_named_180 (fun H locs hP hD hS => ?_)
        refine lv_istore_n (lv' := [(3, .int r21), (0, .ref (ad 11)), (1, .int x1), (2, .int x2)]) hx hb d_Model_named_183 rfl hl (by decide) rfl (fun ls hl => ?_)
        refine lv_aload_n hx hb d_Model_named_184 rfl (lv_at hl 1 rfl) ?_
        refine lv_ldc2 (v := 61) hx hb hown (hts _ w_e4b38f1f68) d_Model_named_185 ?_
        obtain ⟨r22, h22, hF⟩ := b1E hF
        refine callVI (As := [.long 61]) X (ct_Model_sees l dC dI ad cA H.size h22) lk_Model_190 ⟨rfl, rfl, by decide, by decide⟩ 11 rfl rfl hP hD hS hl.1 rfl rfl (Nat.le_of_ble_eq_true rfl) d_Model_named_188 (fun H locs hP hD hS => ?_)
        refine lv_if_ne (tgt := 202) hx hb d_Model_named_191 (by decide) (fun c_23 => ?_) (fun c_23 => ?_)
        · have hF := ifn hF c_23
          refine lv_aload_n hx hb d_Model_named_202 rfl (lv_at hl 1 rfl) ?_
          refine lv_dup hx hb d_Model_named_203 rfl ?_
          refine va_get (D := (dC, dI)) (ci := 11) (v := .int (u21.1 31)) hx hb hts i_Model hown hK hP 11 rfl rfl 6 (by decide) (hts _ w_13cd8e7698) (fun _ h9 => h9) rfl d_Model_named_204 ?_
          refine lv_iconst (v := 1) hx hb d_Model_named_207 (by decide) ?_
          refine lv_iadd hx hb d_Model_named_208 ?_
          refine va_put (D := (dC, dI)) (ci := 11) (v := .int ((u21.1 31) + 1)) (ty := .int) hx hb hts i_Model t_Model t_Model_ok n_Model hown hK hP hD hS 11 rfl rfl 6 (by decide) (hts _ w_13cd8e7698) (fun _ h9 => h9) rfl (by decide +kernel) rfl rfl (Nat.le_of_ble_eq_true rfl) d_Model_named_209 (fun H locs hP hD hS => ?_)
          have hP : va_P (dC, dI) vwCl (tcw ad cA (sI u21 31 ((u21.1 31) + 1))) H := hP
          have hD : va_D A (tcw ad cA (sI u21 31 ((u21.1 31) + 1))) := hD
          refine lv_aload_n hx hb d_Model_named_212 rfl (lv_at hl 1 rfl) ?_
          refine lv_iconst (v := (-1)) hx hb d_Model_named_213 (by decide) ?_
          obtain ⟨r24, u24, h24, hF⟩ := b2E hF
          refine callVI (As := [.int (-1)]) X (ct_Model_value l dC dI ad cA H.size h24) lk_Model_296 ⟨rfl, rfl, by decide, by decide⟩ 11 rfl rfl hP hD hS hl.1 rfl rfl (Nat.le_of_ble_eq_true rfl) d_Model_named_214 (fun H locs hP hD hS => ?_)
          refine lv_istore (lv' := [(4, .int r24), (3, .int r21), (0, .ref (ad 11)), (1, .int x1), (2, .int x2)]) hx hb d_Model_named_217 hl (by decide) rfl (fun ls hl => ?_)
          refine lv_aload_n hx hb d_Model_named_219 rfl (lv_at hl 2 rfl) ?_
          refine lv_ldc2 (v := 59) hx hb hown (hts _ w_bf42dcc438) d_Model_named_220 ?_
          obtain ⟨u25, h25, hF⟩ := b1E hF
          refine callVV (As := [.long 59]) X (ct_Model_need l dC dI ad cA H.size h25) lk_Model_252 ⟨rfl, rfl, by decide, by decide⟩ 11 rfl rfl hP hD hS hl.1 rfl rfl (Nat.le_of_ble_eq_true rfl) d_Model_named_223 (fun H locs hP hD hS => ?_)
          refine lv_aload_n hx hb d_Model_named_226 rfl (lv_at hl 2 rfl) ?_
          refine va_get (D := (dC, dI)) (ci := 11) (v := .int (u25.1 29)) hx hb hts i_Model hown hK hP 11 rfl rfl 4 (by decide) (hts _ w_0464dc4398) (fun _ h9 => h9) rfl d_Model_named_227 ?_
          refine lv_if_eq (tgt := 234) hx hb d_Model_named_230 (by decide) (fun c_26 => ?_) (fun c_26 => ?_)
          · have hF := ifp hF c_26
            refine lv_aload_n hx hb d_Model_named_234 rfl (lv_at hl 2 rfl) ?_
            refine va_get (D := (dC, dI)) (ci := 11) (v := .ref (ad 35)) hx hb hts i_Model hown hK hP 11 rfl rfl 14 (by decide) (hts _ w_0e6df3fb4c) (fun _ h9 => h9) rfl d_Model_named_235 ?_
            refine lv_iload_n hx hb d_Model_named_238 rfl (lv_at hl 1 rfl) ?_
            refine lv_bipush (v := 12) hx hb d_Model_named_239 (by decide) ?_
            obtain ⟨g_27, hF⟩ := gdE hF
            refine va_iast (f := (u25.2.2.1 20)) hx hb hK hP hD hS 35 0 rfl rfl (inE g_27) d_Model_named_241 (fun H locs hP hD hS => ?_)
            have hP : va_P (dC, dI) vwCl (tcw ad cA (sA u25 20 (upd (u25.2.2.1 20) r21.toNatClampNeg 12))) H := hP
            have hD : va_D A (tcw ad cA (sA u25 20 (upd (u25.2.2.1 20) r21.toNatClampNeg 12))) := hD
            refine lv_aload_n hx hb d_Model_named_242 rfl (lv_at hl 2 rfl) ?_
            refine va_get (D := (dC, dI)) (ci := 11) (v := .ref (ad 38)) hx hb hts i_Model hown hK hP 11 rfl rfl 17 (by decide) (hts _ w_d96db777d5) (fun _ h9 => h9) rfl d_Model_named_243 ?_
            refine lv_iload_n hx hb d_Model_named_246 rfl (lv_at hl 1 rfl) ?_
            refine lv_iload hx hb d_Model_named_247 (lv_at hl 0 rfl) ?_
            obtain ⟨g_28, hF⟩ := gdE hF
            refine va_iast (f := (u25.2.2.1 23)) hx hb hK hP hD hS 38 0 rfl rfl (inE g_28) d_Model_named_249 (fun H locs hP hD hS => ?_)
            have hP : va_P (dC, dI) vwCl (tcw ad cA (sA (sA u25 20 (upd (u25.2.2.1 20) r21.toNatClampNeg 12)) 23 (upd (u25.2.2.1 23) r21.toNatClampNeg r24))) H := hP
            have hD : va_D A (tcw ad cA (sA (sA u25 20 (upd (u25.2.2.1 20) r21.toNatClampNeg 12)) 23 (upd (u25.2.2.1 23) r21.toNatClampNeg r24))) := hD
            refine lv_aload_n hx hb d_Model_named_250 rfl (lv_at hl 2 rfl) ?_
            refine lv_iload_n hx hb d_Model_named_251 rfl (lv_at hl 1 rfl) ?_
            obtain ⟨u29, h29, hF⟩ := b1E hF
            refine callVV (As := [.int r21]) X (ct_Model_whole l dC dI ad cA H.size h29) lk_Model_309 ⟨rfl, rfl, by decide, by decide⟩ 11 rfl rfl hP hD hS hl.1 rfl rfl (Nat.le_of_ble_eq_true rfl) d_Model_named_252 (fun H locs hP hD hS => ?_)
            cases hF
            exact leafV X hP hD hS d_Model_named_255
          · have hF := ifn hF c_26
            cases hF
            exact leafV X hP hD hS d_Model_named_233
        · have hF := ifp hF c_23
          refine lv_aload_n hx hb d_Model_named_194 rfl (lv_at hl 1 rfl) ?_
          refine lv_bipush (v := 17) hx hb d_Model_named_195 (by decide) ?_
          refine lv_iload_n hx hb d_Model_named_197 rfl (lv_at hl 0 rfl) ?_
          obtain ⟨u30, h30, hF⟩ := b1E hF
          refine callVV (As := [.int 17, .int r21]) X (ct_Model_ends l dC dI ad cA H.size h30) lk_Model_312 ⟨rfl, rfl, by decide, by decide⟩ 11 rfl rfl hP hD hS hl.1 rfl rfl (Nat.le_of_ble_eq_true rfl) d_Model_named_198 (fun H locs hP hD hS => ?_)
          cases hF
          exact leafV X hP hD hS d_Model_named_201
      · have hF := ifn hF c_20
        cases hF
        exact leafV X hP hD hS d_Model_named_166
set_option maxHeartbeats 4000000 in
set_option maxRecDepth 100000 in
theorem ct_Model_named (l : Launch) (dC : Nat → ClassId) (dI : Nat → Nat → Nat) (ad : Nat → Nat) (cA : Nat → ClassId) (sz : Nat) {σ : St} {σ' : St} (hF : tModel_named σ = some σ') : MV l y_Model_named b_Model_named 5 none { frames := 7, cells := 0, slots := 0, locals := 159 } (dC, dI) (ttys cA) ad (tcw ad cA) [.ref (ad 11)] σ sz σ' := by
  refine startM (own := "TinyForgeModel") (Qc := fun A => QV (dC, dI) (ttys cA) (tcw ad cA) A σ') rfl rfl (Nat.le_of_ble_eq_true rfl) ?_
  intro p e s m below meth c A H locs ls X hP hD hS hl
  have hl : lv_has ls 5 [(0, .ref (ad 11))] := hl
  obtain ⟨hx, hb, hr, hml, hown, hlocks, hts, hA, hK, hZ⟩ := id X
  unfold tModel_named at hF
  refine lv_aload_n hx hb d_Model_named_0 rfl (lv_at hl 0 rfl) ?_
  refine va_get (D := (dC, dI)) (ci := 11) (v := .int (σ.1 31)) hx hb hts i_Model hown hK hP 11 rfl rfl 6 (by decide) (hts _ w_13cd8e7698) (fun _ h9 => h9) rfl d_Model_named_1 ?_
  refine lv_istore_n (lv' := [(1, .int (σ.1 31)), (0, .ref (ad 11))]) hx hb d_Model_named_4 rfl hl (by decide) rfl (fun ls hl => ?_)
  refine lv_aload_n hx hb d_Model_named_5 rfl (lv_at hl 1 rfl) ?_
  refine lv_aload_n hx hb d_Model_named_6 rfl (lv_at hl 1 rfl) ?_
  refine va_get (D := (dC, dI)) (ci := 11) (v := .int (σ.1 31)) hx hb hts i_Model hown hK hP 11 rfl rfl 6 (by decide) (hts _ w_13cd8e7698) (fun _ h9 => h9) rfl d_Model_named_7 ?_
  refine lv_iconst (v := 1) hx hb d_Model_named_10 (by decide) ?_
  refine lv_iadd hx hb d_Model_named_11 ?_
  refine lv_ldc2 (v := 61) hx hb hown (hts _ w_e4b38f1f68) d_Model_named_12 ?_
  obtain ⟨r1, h1, hF⟩ := b1E hF
  refine callVI (As := [.int ((σ.1 31) + 1), .long 61]) X (ct_Model_is l dC dI ad cA H.size h1) lk_Model_168 ⟨rfl, rfl, by decide, by decide⟩ 11 rfl rfl hP hD hS hl.1 rfl rfl (Nat.le_of_ble_eq_true rfl) d_Model_named_15 (fun H locs hP hD hS => ?_)
  refine lv_if_eq (tgt := 80) hx hb d_Model_named_18 (by decide) (fun c_2 => ?_) (fun c_2 => ?_)
  · have hF := ifp hF c_2
    refine lv_aload_n hx hb d_Model_named_80 rfl (lv_at hl 1 rfl) ?_
    refine lv_aload_n hx hb d_Model_named_81 rfl (lv_at hl 1 rfl) ?_
    refine va_get (D := (dC, dI)) (ci := 11) (v := .int (σ.1 31)) hx hb hts i_Model hown hK hP 11 rfl rfl 6 (by decide) (hts _ w_13cd8e7698) (fun _ h9 => h9) rfl d_Model_named_82 ?_
    refine lv_iconst (v := 1) hx hb d_Model_named_85 (by decide) ?_
    refine lv_iadd hx hb d_Model_named_86 ?_
    refine lv_ldc2 (v := 91) hx hb hown (hts _ w_6ea7e12f2f) d_Model_named_87 ?_
    obtain ⟨r3, h3, hF⟩ := b1E hF
    refine callVI (As := [.int ((σ.1 31) + 1), .long 91]) X (ct_Model_is l dC dI ad cA H.size h3) lk_Model_168 ⟨rfl, rfl, by decide, by decide⟩ 11 rfl rfl hP hD hS hl.1 rfl rfl (Nat.le_of_ble_eq_true rfl) d_Model_named_90 (fun H locs hP hD hS => ?_)
    refine lv_if_ne (tgt := 104) hx hb d_Model_named_93 (by decide) (fun c_4 => ?_) (fun c_4 => ?_)
    · have hF := ifn hF c_4
      refine lv_aload_n hx hb d_Model_named_104 rfl (lv_at hl 1 rfl) ?_
      refine lv_dup hx hb d_Model_named_105 rfl ?_
      refine va_get (D := (dC, dI)) (ci := 11) (v := .int (σ.1 31)) hx hb hts i_Model hown hK hP 11 rfl rfl 6 (by decide) (hts _ w_13cd8e7698) (fun _ h9 => h9) rfl d_Model_named_106 ?_
      refine lv_iconst (v := 1) hx hb d_Model_named_109 (by decide) ?_
      refine lv_iadd hx hb d_Model_named_110 ?_
      refine va_put (D := (dC, dI)) (ci := 11) (v := .int ((σ.1 31) + 1)) (ty := .int) hx hb hts i_Model t_Model t_Model_ok n_Model hown hK hP hD hS 11 rfl rfl 6 (by decide) (hts _ w_13cd8e7698) (fun _ h9 => h9) rfl (by decide +kernel) rfl rfl (Nat.le_of_ble_eq_true rfl) d_Model_named_111 (fun H locs hP hD hS => ?_)
      have hP : va_P (dC, dI) vwCl (tcw ad cA (sI σ 31 ((σ.1 31) + 1))) H := hP
      have hD : va_D A (tcw ad cA (sI σ 31 ((σ.1 31) + 1))) := hD
      refine lv_aload_n hx hb d_Model_named_114 rfl (lv_at hl 1 rfl) ?_
      obtain ⟨u5, h5, hF⟩ := b1E hF
      refine callVV (As := []) X (ct_Model_opens l dC dI ad cA H.size h5) lk_Model_233 ⟨rfl, rfl, by decide, by decide⟩ 11 rfl rfl hP hD hS hl.1 rfl rfl (Nat.le_of_ble_eq_true rfl) d_Model_named_115 (fun H locs hP hD hS => ?_)
      refine lv_aload_n hx hb d_Model_named_118 rfl (lv_at hl 1 rfl) ?_
      refine va_get (D := (dC, dI)) (ci := 11) (v := .int (u5.1 29)) hx hb hts i_Model hown hK hP 11 rfl rfl 4 (by decide) (hts _ w_0464dc4398) (fun _ h9 => h9) rfl d_Model_named_119 ?_
      refine lv_if_ne (tgt := 133) hx hb d_Model_named_122 (by decide) (fun c_6 => ?_) (fun c_6 => ?_)
      · have hF := ifn hF c_6
        refine lv_iconst (v := 0) hx hb d_Model_named_133 (by decide) ?_
        exact (tModel_named_blk l dC dI ad cA X 2000).2.1 u5 (σ.1 31) 0 H locs ls hF hP hD hS (lv_sub hl [1, 0] rfl)
      · have hF := ifp hF c_6
        refine lv_aload_n hx hb d_Model_named_125 rfl (lv_at hl 1 rfl) ?_
        refine lv_iconst (v := (-1)) hx hb d_Model_named_126 (by decide) ?_
        obtain ⟨r7, u7, h7, hF⟩ := b2E hF
        refine callVI (As := [.int (-1)]) X (ct_Model_value l dC dI ad cA H.size h7) lk_Model_296 ⟨rfl, rfl, by decide, by decide⟩ 11 rfl rfl hP hD hS hl.1 rfl rfl (Nat.le_of_ble_eq_true rfl) d_Model_named_127 (fun H locs hP hD hS => ?_)
        refine lv_goto (tgt := 134) hx hb d_Model_named_130 (by decide) ?_
        exact (tModel_named_blk l dC dI ad cA X 2000).2.1 u7 (σ.1 31) r7 H locs ls hF hP hD hS (lv_sub hl [1, 0] rfl)
    · have hF := ifp hF c_4
      refine lv_aload_n hx hb d_Model_named_96 rfl (lv_at hl 1 rfl) ?_
      refine lv_bipush (v := 17) hx hb d_Model_named_97 (by decide) ?_
      refine lv_iconst (v := (-1)) hx hb d_Model_named_99 (by decide) ?_
      obtain ⟨u8, h8, hF⟩ := b1E hF
      refine callVV (As := [.int 17, .int (-1)]) X (ct_Model_ends l dC dI ad cA H.size h8) lk_Model_312 ⟨rfl, rfl, by decide, by decide⟩ 11 rfl rfl hP hD hS hl.1 rfl rfl (Nat.le_of_ble_eq_true rfl) d_Model_named_100 (fun H locs hP hD hS => ?_)
      cases hF
      exact leafV X hP hD hS d_Model_named_103
  · have hF := ifn hF c_2
    refine lv_aload_n hx hb d_Model_named_21 rfl (lv_at hl 1 rfl) ?_
    refine lv_dup hx hb d_Model_named_22 rfl ?_
    refine va_get (D := (dC, dI)) (ci := 11) (v := .int (σ.1 31)) hx hb hts i_Model hown hK hP 11 rfl rfl 6 (by decide) (hts _ w_13cd8e7698) (fun _ h9 => h9) rfl d_Model_named_23 ?_
    refine lv_iconst (v := 2) hx hb d_Model_named_26 (by decide) ?_
    refine lv_iadd hx hb d_Model_named_27 ?_
    refine va_put (D := (dC, dI)) (ci := 11) (v := .int ((σ.1 31) + 2)) (ty := .int) hx hb hts i_Model t_Model t_Model_ok n_Model hown hK hP hD hS 11 rfl rfl 6 (by decide) (hts _ w_13cd8e7698) (fun _ h9 => h9) rfl (by decide +kernel) rfl rfl (Nat.le_of_ble_eq_true rfl) d_Model_named_28 (fun H locs hP hD hS => ?_)
    have hP : va_P (dC, dI) vwCl (tcw ad cA (sI σ 31 ((σ.1 31) + 2))) H := hP
    have hD : va_D A (tcw ad cA (sI σ 31 ((σ.1 31) + 2))) := hD
    refine lv_aload_n hx hb d_Model_named_31 rfl (lv_at hl 1 rfl) ?_
    refine lv_iload_n hx hb d_Model_named_32 rfl (lv_at hl 0 rfl) ?_
    obtain ⟨r9, h9, hF⟩ := b1E hF
    refine callVI (As := [.int (σ.1 31)]) X (ct_Model_variable l dC dI ad cA H.size h9) lk_Model_241 ⟨rfl, rfl, by decide, by decide⟩ 11 rfl rfl hP hD hS hl.1 rfl rfl (Nat.le_of_ble_eq_true rfl) d_Model_named_33 (fun H locs hP hD hS => ?_)
    refine lv_istore_n (lv' := [(2, .int r9), (1, .int (σ.1 31)), (0, .ref (ad 11))]) hx hb d_Model_named_36 rfl hl (by decide) rfl (fun ls hl => ?_)
    refine lv_iload_n hx hb d_Model_named_37 rfl (lv_at hl 0 rfl) ?_
    refine lv_if_ge (tgt := 46) hx hb d_Model_named_38 (by decide) (fun c_10 => ?_) (fun c_10 => ?_)
    · have hF := ifp hF c_10
      exact (tModel_named_blk l dC dI ad cA X 2000).1 (sI σ 31 ((σ.1 31) + 2)) r9 0 H locs ls hF hP hD hS (lv_sub hl [2, 0] rfl)
    · have hF := ifn hF c_10
      refine lv_aload_n hx hb d_Model_named_41 rfl (lv_at hl 2 rfl) ?_
      refine lv_iload_n hx hb d_Model_named_42 rfl (lv_at hl 1 rfl) ?_
      obtain ⟨u11, h11, hF⟩ := b1E hF
      refine callVV (As := [.int (σ.1 31)]) X (ct_Model_notName l dC dI ad cA H.size h11) lk_Model_249 ⟨rfl, rfl, by decide, by decide⟩ 11 rfl rfl hP hD hS hl.1 rfl rfl (Nat.le_of_ble_eq_true rfl) d_Model_named_43 (fun H locs hP hD hS => ?_)
      exact (tModel_named_blk l dC dI ad cA X 2000).1 u11 r9 0 H locs ls hF hP hD hS (lv_sub hl [2, 0] rfl)
theorem d_Model_prints_0 : decode b_Model_prints 0 = .ok (.aload_n 0, 1) := by decide +kernel
theorem d_Model_prints_1 : decode b_Model_prints 1 = .ok (.invokevirtual 299, 3) := by decide +kernel
theorem d_Model_prints_4 : decode b_Model_prints 4 = .ok (.istore_n 1, 1) := by decide +kernel
theorem d_Model_prints_5 : decode b_Model_prints 5 = .ok (.aload_n 0, 1) := by decide +kernel
theorem d_Model_prints_6 : decode b_Model_prints 6 = .ok (.ldc2_w 244, 3) := by decide +kernel
theorem d_Model_prints_9 : decode b_Model_prints 9 = .ok (.invokevirtual 252, 3) := by decide +kernel
theorem d_Model_prints_12 : decode b_Model_prints 12 = .ok (.aload_n 0, 1) := by decide +kernel
theorem d_Model_prints_13 : decode b_Model_prints 13 = .ok (.ldc2_w 304, 3) := by decide +kernel
theorem d_Model_prints_16 : decode b_Model_prints 16 = .ok (.invokevirtual 252, 3) := by decide +kernel
theorem d_Model_prints_19 : decode b_Model_prints 19 = .ok (.aload_n 0, 1) := by decide +kernel
theorem d_Model_prints_20 : decode b_Model_prints 20 = .ok (.getfield 121, 3) := by decide +kernel
theorem d_Model_prints_23 : decode b_Model_prints 23 = .ok (.ifCond .ne 16, 3) := by decide +kernel
theorem d_Model_prints_26 : decode b_Model_prints 26 = .ok (.aload_n 0, 1) := by decide +kernel
theorem d_Model_prints_27 : decode b_Model_prints 27 = .ok (.aload_n 0, 1) := by decide +kernel
theorem d_Model_prints_28 : decode b_Model_prints 28 = .ok (.bipush 16, 2) := by decide +kernel
theorem d_Model_prints_30 : decode b_Model_prints 30 = .ok (.iconst 0, 1) := by decide +kernel
theorem d_Model_prints_31 : decode b_Model_prints 31 = .ok (.iload_n 1, 1) := by decide +kernel
theorem d_Model_prints_32 : decode b_Model_prints 32 = .ok (.iconst (-1), 1) := by decide +kernel
theorem d_Model_prints_33 : decode b_Model_prints 33 = .ok (.invokevirtual 216, 3) := by decide +kernel
theorem d_Model_prints_36 : decode b_Model_prints 36 = .ok (.invokevirtual 309, 3) := by decide +kernel
theorem d_Model_prints_39 : decode b_Model_prints 39 = .ok (.return_, 1) := by decide +kernel
def tModel_prints (σ : St) : Option (St) := b2 (tModel_inBrackets σ) (fun r1 u1 => b1 (tModel_need u1 41) (fun u2 => b1 (tModel_need u2 59) (fun u3 => if (u3.1 29) = 0 then b2 (tModel_node u3 16 0 r1 (-1)) (fun r5 u5 => b1 (tModel_whole u5 r5) (fun u6 => some u6)) else some u3)))
set_option maxHeartbeats 4000000 in
set_option maxRecDepth 100000 in
theorem ct_Model_prints (l : Launch) (dC : Nat → ClassId) (dI : Nat → Nat → Nat) (ad : Nat → Nat) (cA : Nat → ClassId) (sz : Nat) {σ : St} {σ' : St} (hF : tModel_prints σ = some σ') : MV l y_Model_prints b_Model_prints 2 none { frames := 7, cells := 0, slots := 0, locals := 157 } (dC, dI) (ttys cA) ad (tcw ad cA) [.ref (ad 11)] σ sz σ' := by
  refine startM (own := "TinyForgeModel") (Qc := fun A => QV (dC, dI) (ttys cA) (tcw ad cA) A σ') rfl rfl (Nat.le_of_ble_eq_true rfl) ?_
  intro p e s m below meth c A H locs ls X hP hD hS hl
  have hl : lv_has ls 2 [(0, .ref (ad 11))] := hl
  obtain ⟨hx, hb, hr, hml, hown, hlocks, hts, hA, hK, hZ⟩ := id X
  unfold tModel_prints at hF
  refine lv_aload_n hx hb d_Model_prints_0 rfl (lv_at hl 0 rfl) ?_
  obtain ⟨r1, u1, h1, hF⟩ := b2E hF
  refine callVI (As := []) X (ct_Model_inBrackets l dC dI ad cA H.size h1) lk_Model_299 ⟨rfl, rfl, by decide, by decide⟩ 11 rfl rfl hP hD hS hl.1 rfl rfl (Nat.le_of_ble_eq_true rfl) d_Model_prints_1 (fun H locs hP hD hS => ?_)
  refine lv_istore_n (lv' := [(1, .int r1), (0, .ref (ad 11))]) hx hb d_Model_prints_4 rfl hl (by decide) rfl (fun ls hl => ?_)
  refine lv_aload_n hx hb d_Model_prints_5 rfl (lv_at hl 1 rfl) ?_
  refine lv_ldc2 (v := 41) hx hb hown (hts _ w_c6b9d4f3a9) d_Model_prints_6 ?_
  obtain ⟨u2, h2, hF⟩ := b1E hF
  refine callVV (As := [.long 41]) X (ct_Model_need l dC dI ad cA H.size h2) lk_Model_252 ⟨rfl, rfl, by decide, by decide⟩ 11 rfl rfl hP hD hS hl.1 rfl rfl (Nat.le_of_ble_eq_true rfl) d_Model_prints_9 (fun H locs hP hD hS => ?_)
  refine lv_aload_n hx hb d_Model_prints_12 rfl (lv_at hl 1 rfl) ?_
  refine lv_ldc2 (v := 59) hx hb hown (hts _ w_bf42dcc438) d_Model_prints_13 ?_
  obtain ⟨u3, h3, hF⟩ := b1E hF
  refine callVV (As := [.long 59]) X (ct_Model_need l dC dI ad cA H.size h3) lk_Model_252 ⟨rfl, rfl, by decide, by decide⟩ 11 rfl rfl hP hD hS hl.1 rfl rfl (Nat.le_of_ble_eq_true rfl) d_Model_prints_16 (fun H locs hP hD hS => ?_)
  refine lv_aload_n hx hb d_Model_prints_19 rfl (lv_at hl 1 rfl) ?_
  refine va_get (D := (dC, dI)) (ci := 11) (v := .int (u3.1 29)) hx hb hts i_Model hown hK hP 11 rfl rfl 4 (by decide) (hts _ w_0464dc4398) (fun _ h9 => h9) rfl d_Model_prints_20 ?_
  refine lv_if_ne (tgt := 39) hx hb d_Model_prints_23 (by decide) (fun c_4 => ?_) (fun c_4 => ?_)
  · have hF := ifn hF c_4
    cases hF
    exact leafV X hP hD hS d_Model_prints_39
  · have hF := ifp hF c_4
    refine lv_aload_n hx hb d_Model_prints_26 rfl (lv_at hl 1 rfl) ?_
    refine lv_aload_n hx hb d_Model_prints_27 rfl (lv_at hl 1 rfl) ?_
    refine lv_bipush (v := 16) hx hb d_Model_prints_28 (by decide) ?_
    refine lv_iconst (v := 0) hx hb d_Model_prints_30 (by decide) ?_
    refine lv_iload_n hx hb d_Model_prints_31 rfl (lv_at hl 0 rfl) ?_
    refine lv_iconst (v := (-1)) hx hb d_Model_prints_32 (by decide) ?_
    obtain ⟨r5, u5, h5, hF⟩ := b2E hF
    refine callVI (As := [.int 16, .int 0, .int r1, .int (-1)]) X (ct_Model_node l dC dI ad cA H.size h5) lk_Model_216 ⟨rfl, rfl, by decide, by decide⟩ 11 rfl rfl hP hD hS hl.1 rfl rfl (Nat.le_of_ble_eq_true rfl) d_Model_prints_33 (fun H locs hP hD hS => ?_)
    obtain ⟨u6, h6, hF⟩ := b1E hF
    refine callVV (As := [.int r5]) X (ct_Model_whole l dC dI ad cA H.size h6) lk_Model_309 ⟨rfl, rfl, by decide, by decide⟩ 11 rfl rfl hP hD hS hl.1 rfl rfl (Nat.le_of_ble_eq_true rfl) d_Model_prints_36 (fun H locs hP hD hS => ?_)
    cases hF
    exact leafV X hP hD hS d_Model_prints_39
theorem d_Model_statement_0 : decode b_Model_statement 0 = .ok (.aload_n 0, 1) := by decide +kernel
theorem d_Model_statement_1 : decode b_Model_statement 1 = .ok (.getfield 79, 3) := by decide +kernel
theorem d_Model_statement_4 : decode b_Model_statement 4 = .ok (.aload_n 0, 1) := by decide +kernel
theorem d_Model_statement_5 : decode b_Model_statement 5 = .ok (.getfield 290, 3) := by decide +kernel
theorem d_Model_statement_8 : decode b_Model_statement 8 = .ok (.iconst 1, 1) := by decide +kernel
theorem d_Model_statement_9 : decode b_Model_statement 9 = .ok (.isub, 1) := by decide +kernel
theorem d_Model_statement_10 : decode b_Model_statement 10 = .ok (.iaload, 1) := by decide +kernel
theorem d_Model_statement_11 : decode b_Model_statement 11 = .ok (.istore_n 1, 1) := by decide +kernel
theorem d_Model_statement_12 : decode b_Model_statement 12 = .ok (.aload_n 0, 1) := by decide +kernel
theorem d_Model_statement_13 : decode b_Model_statement 13 = .ok (.getfield 30, 3) := by decide +kernel
theorem d_Model_statement_16 : decode b_Model_statement 16 = .ok (.iload_n 1, 1) := by decide +kernel
theorem d_Model_statement_17 : decode b_Model_statement 17 = .ok (.iaload, 1) := by decide +kernel
theorem d_Model_statement_18 : decode b_Model_statement 18 = .ok (.bipush 10, 2) := by decide +kernel
theorem d_Model_statement_20 : decode b_Model_statement 20 = .ok (.if_icmp .ne 45, 3) := by decide +kernel
theorem d_Model_statement_23 : decode b_Model_statement 23 = .ok (.aload_n 0, 1) := by decide +kernel
theorem d_Model_statement_24 : decode b_Model_statement 24 = .ok (.ldc2_w 315, 3) := by decide +kernel
theorem d_Model_statement_27 : decode b_Model_statement 27 = .ok (.invokevirtual 190, 3) := by decide +kernel
theorem d_Model_statement_30 : decode b_Model_statement 30 = .ok (.ifCond .eq 35, 3) := by decide +kernel
theorem d_Model_statement_33 : decode b_Model_statement 33 = .ok (.aload_n 0, 1) := by decide +kernel
theorem d_Model_statement_34 : decode b_Model_statement 34 = .ok (.dup, 1) := by decide +kernel
theorem d_Model_statement_35 : decode b_Model_statement 35 = .ok (.getfield 184, 3) := by decide +kernel
theorem d_Model_statement_38 : decode b_Model_statement 38 = .ok (.iconst 1, 1) := by decide +kernel
theorem d_Model_statement_39 : decode b_Model_statement 39 = .ok (.iadd, 1) := by decide +kernel
theorem d_Model_statement_40 : decode b_Model_statement 40 = .ok (.putfield 184, 3) := by decide +kernel
theorem d_Model_statement_43 : decode b_Model_statement 43 = .ok (.aload_n 0, 1) := by decide +kernel
theorem d_Model_statement_44 : decode b_Model_statement 44 = .ok (.invokevirtual 317, 3) := by decide +kernel
theorem d_Model_statement_47 : decode b_Model_statement 47 = .ok (.aload_n 0, 1) := by decide +kernel
theorem d_Model_statement_48 : decode b_Model_statement 48 = .ok (.dup, 1) := by decide +kernel
theorem d_Model_statement_49 : decode b_Model_statement 49 = .ok (.getfield 290, 3) := by decide +kernel
theorem d_Model_statement_52 : decode b_Model_statement 52 = .ok (.iconst 1, 1) := by decide +kernel
theorem d_Model_statement_53 : decode b_Model_statement 53 = .ok (.isub, 1) := by decide +kernel
theorem d_Model_statement_54 : decode b_Model_statement 54 = .ok (.putfield 290, 3) := by decide +kernel
theorem d_Model_statement_57 : decode b_Model_statement 57 = .ok (.aload_n 0, 1) := by decide +kernel
theorem d_Model_statement_58 : decode b_Model_statement 58 = .ok (.iload_n 1, 1) := by decide +kernel
theorem d_Model_statement_59 : decode b_Model_statement 59 = .ok (.invokevirtual 309, 3) := by decide +kernel
theorem d_Model_statement_62 : decode b_Model_statement 62 = .ok (.goto 149, 3) := by decide +kernel
theorem d_Model_statement_65 : decode b_Model_statement 65 = .ok (.aload_n 0, 1) := by decide +kernel
theorem d_Model_statement_66 : decode b_Model_statement 66 = .ok (.ldc2_w 178, 3) := by decide +kernel
theorem d_Model_statement_69 : decode b_Model_statement 69 = .ok (.invokevirtual 190, 3) := by decide +kernel
theorem d_Model_statement_72 : decode b_Model_statement 72 = .ok (.ifCond .eq 23, 3) := by decide +kernel
theorem d_Model_statement_75 : decode b_Model_statement 75 = .ok (.aload_n 0, 1) := by decide +kernel
theorem d_Model_statement_76 : decode b_Model_statement 76 = .ok (.dup, 1) := by decide +kernel
theorem d_Model_statement_77 : decode b_Model_statement 77 = .ok (.getfield 184, 3) := by decide +kernel
theorem d_Model_statement_80 : decode b_Model_statement 80 = .ok (.iconst 1, 1) := by decide +kernel
theorem d_Model_statement_81 : decode b_Model_statement 81 = .ok (.iadd, 1) := by decide +kernel
theorem d_Model_statement_82 : decode b_Model_statement 82 = .ok (.putfield 184, 3) := by decide +kernel
theorem d_Model_statement_85 : decode b_Model_statement 85 = .ok (.aload_n 0, 1) := by decide +kernel
theorem d_Model_statement_86 : decode b_Model_statement 86 = .ok (.bipush 15, 2) := by decide +kernel
theorem d_Model_statement_88 : decode b_Model_statement 88 = .ok (.iconst (-1), 1) := by decide +kernel
theorem d_Model_statement_89 : decode b_Model_statement 89 = .ok (.invokevirtual 312, 3) := by decide +kernel
theorem d_Model_statement_92 : decode b_Model_statement 92 = .ok (.goto 119, 3) := by decide +kernel
theorem d_Model_statement_95 : decode b_Model_statement 95 = .ok (.aload_n 0, 1) := by decide +kernel
theorem d_Model_statement_96 : decode b_Model_statement 96 = .ok (.ldc2_w 320, 3) := by decide +kernel
theorem d_Model_statement_99 : decode b_Model_statement 99 = .ok (.invokevirtual 190, 3) := by decide +kernel
theorem d_Model_statement_102 : decode b_Model_statement 102 = .ok (.ifCond .eq 10, 3) := by decide +kernel
theorem d_Model_statement_105 : decode b_Model_statement 105 = .ok (.aload_n 0, 1) := by decide +kernel
theorem d_Model_statement_106 : decode b_Model_statement 106 = .ok (.invokevirtual 322, 3) := by decide +kernel
theorem d_Model_statement_109 : decode b_Model_statement 109 = .ok (.goto 102, 3) := by decide +kernel
theorem d_Model_statement_112 : decode b_Model_statement 112 = .ok (.aload_n 0, 1) := by decide +kernel
theorem d_Model_statement_113 : decode b_Model_statement 113 = .ok (.ldc2_w 166, 3) := by decide +kernel
theorem d_Model_statement_116 : decode b_Model_statement 116 = .ok (.invokevirtual 190, 3) := by decide +kernel
theorem d_Model_statement_119 : decode b_Model_statement 119 = .ok (.ifCond .eq 10, 3) := by decide +kernel
theorem d_Model_statement_122 : decode b_Model_statement 122 = .ok (.aload_n 0, 1) := by decide +kernel
theorem d_Model_statement_123 : decode b_Model_statement 123 = .ok (.invokevirtual 325, 3) := by decide +kernel
theorem d_Model_statement_126 : decode b_Model_statement 126 = .ok (.goto 85, 3) := by decide +kernel
theorem d_Model_statement_129 : decode b_Model_statement 129 = .ok (.aload_n 0, 1) := by decide +kernel
theorem d_Model_statement_130 : decode b_Model_statement 130 = .ok (.ldc2_w 172, 3) := by decide +kernel
theorem d_Model_statement_133 : decode b_Model_statement 133 = .ok (.invokevirtual 190, 3) := by decide +kernel
theorem d_Model_statement_136 : decode b_Model_statement 136 = .ok (.ifCond .eq 12, 3) := by decide +kernel
theorem d_Model_statement_139 : decode b_Model_statement 139 = .ok (.aload_n 0, 1) := by decide +kernel
theorem d_Model_statement_140 : decode b_Model_statement 140 = .ok (.bipush 13, 2) := by decide +kernel
theorem d_Model_statement_142 : decode b_Model_statement 142 = .ok (.invokevirtual 328, 3) := by decide +kernel
theorem d_Model_statement_145 : decode b_Model_statement 145 = .ok (.goto 66, 3) := by decide +kernel
theorem d_Model_statement_148 : decode b_Model_statement 148 = .ok (.aload_n 0, 1) := by decide +kernel
theorem d_Model_statement_149 : decode b_Model_statement 149 = .ok (.ldc2_w 176, 3) := by decide +kernel
theorem d_Model_statement_152 : decode b_Model_statement 152 = .ok (.invokevirtual 190, 3) := by decide +kernel
theorem d_Model_statement_155 : decode b_Model_statement 155 = .ok (.ifCond .eq 12, 3) := by decide +kernel
theorem d_Model_statement_158 : decode b_Model_statement 158 = .ok (.aload_n 0, 1) := by decide +kernel
theorem d_Model_statement_159 : decode b_Model_statement 159 = .ok (.bipush 14, 2) := by decide +kernel
theorem d_Model_statement_161 : decode b_Model_statement 161 = .ok (.invokevirtual 328, 3) := by decide +kernel
theorem d_Model_statement_164 : decode b_Model_statement 164 = .ok (.goto 47, 3) := by decide +kernel
theorem d_Model_statement_167 : decode b_Model_statement 167 = .ok (.aload_n 0, 1) := by decide +kernel
theorem d_Model_statement_168 : decode b_Model_statement 168 = .ok (.ldc2_w 182, 3) := by decide +kernel
theorem d_Model_statement_171 : decode b_Model_statement 171 = .ok (.invokevirtual 190, 3) := by decide +kernel
theorem d_Model_statement_174 : decode b_Model_statement 174 = .ok (.ifCond .eq 10, 3) := by decide +kernel
theorem d_Model_statement_177 : decode b_Model_statement 177 = .ok (.aload_n 0, 1) := by decide +kernel
theorem d_Model_statement_178 : decode b_Model_statement 178 = .ok (.invokevirtual 331, 3) := by decide +kernel
theorem d_Model_statement_181 : decode b_Model_statement 181 = .ok (.goto 30, 3) := by decide +kernel
theorem d_Model_statement_184 : decode b_Model_statement 184 = .ok (.aload_n 0, 1) := by decide +kernel
theorem d_Model_statement_185 : decode b_Model_statement 185 = .ok (.getfield 17, 3) := by decide +kernel
theorem d_Model_statement_188 : decode b_Model_statement 188 = .ok (.aload_n 0, 1) := by decide +kernel
theorem d_Model_statement_189 : decode b_Model_statement 189 = .ok (.getfield 184, 3) := by decide +kernel
theorem d_Model_statement_192 : decode b_Model_statement 192 = .ok (.iaload, 1) := by decide +kernel
theorem d_Model_statement_193 : decode b_Model_statement 193 = .ok (.iconst 1, 1) := by decide +kernel
theorem d_Model_statement_194 : decode b_Model_statement 194 = .ok (.if_icmp .ne 10, 3) := by decide +kernel
theorem d_Model_statement_197 : decode b_Model_statement 197 = .ok (.aload_n 0, 1) := by decide +kernel
theorem d_Model_statement_198 : decode b_Model_statement 198 = .ok (.invokevirtual 334, 3) := by decide +kernel
theorem d_Model_statement_201 : decode b_Model_statement 201 = .ok (.goto 10, 3) := by decide +kernel
theorem d_Model_statement_204 : decode b_Model_statement 204 = .ok (.aload_n 0, 1) := by decide +kernel
theorem d_Model_statement_205 : decode b_Model_statement 205 = .ok (.bipush 17, 2) := by decide +kernel
theorem d_Model_statement_207 : decode b_Model_statement 207 = .ok (.iconst (-1), 1) := by decide +kernel
theorem d_Model_statement_208 : decode b_Model_statement 208 = .ok (.invokevirtual 312, 3) := by decide +kernel
theorem d_Model_statement_211 : decode b_Model_statement 211 = .ok (.return_, 1) := by decide +kernel
def tModel_statement_b1 (k : Nat → St → Option (St)) (σ : St) : Option (St) := b1 (tModel_sees σ 121437875889522) (fun r8 => if r8 = 0 then b1 (tModel_sees σ 123) (fun r10 => if r10 = 0 then b1 (tModel_sees σ 7630441) (fun r12 => if r12 = 0 then b1 (tModel_sees σ 26217) (fun r14 => if r14 = 0 then b1 (tModel_sees σ 435610544247) (fun r16 => if r16 = 0 then b1 (tModel_sees σ 500068610672) (fun r18 => if r18 = 0 then gd (inB (σ.1 31) 500) (if ((σ.2.2.1 16) (σ.1 31).toNatClampNeg) = 1 then b1 (tModel_named σ) (fun u23 => some u23) else b1 (tModel_ends σ 17 (-1)) (fun u22 => some u22)) else b1 (tModel_prints σ) (fun u24 => some u24)) else b1 (tModel_conditional σ 14) (fun u25 => some u25)) else b1 (tModel_conditional σ 13) (fun u26 => some u26)) else b1 (tModel_makes σ) (fun u27 => some u27)) else b1 (tModel_beginBlock σ) (fun u28 => some u28)) else b1 (tModel_ends (sI σ 31 ((σ.1 31) + 1)) 15 (-1)) (fun u29 => some u29))
def tModel_statement_L : Nat → Nat → St → Option (St)
  | 0, _, _ => none
  | n + 1, lab, σ => match lab with
    | 1 => tModel_statement_b1 (tModel_statement_L n) σ 
    | _ => none
def tModel_statement (σ : St) : Option (St) := gd (inB ((σ.1 42) - 1) 60) (gd (inB ((σ.2.2.1 36) ((σ.1 42) - 1).toNatClampNeg) 500) (if ((σ.2.2.1 20) ((σ.2.2.1 36) ((σ.1 42) - 1).toNatClampNeg).toNatClampNeg) = 10 then b1 (tModel_sees σ 125) (fun r4 => if r4 = 0 then tModel_statement_L 2000 1 σ  else b1 (tModel_leaveBlock (sI σ 31 ((σ.1 31) + 1))) (fun u6 => b1 (tModel_whole (sI u6 42 ((u6.1 42) - 1)) ((σ.2.2.1 36) ((σ.1 42) - 1).toNatClampNeg)) (fun u7 => some u7))) else tModel_statement_L 2000 1 σ ))
set_option maxHeartbeats 4000000 in
set_option maxRecDepth 100000 in
theorem tModel_statement_blk {p : Program} {e : Env} {s : State} {m : MethodId} {args : Array Value} {below : List Frame} {meth : Method} {c : Code} {A : Nat → Prop} (l : Launch) (dC : Nat → ClassId) (dI : Nat → Nat → Nat) (ad : Nat → Nat) (cA : Nat → ClassId) {σ' : St} (X : Cx p s m args meth c b_Model_statement 2 none "TinyForgeModel" (dC, dI) (ttys cA) ad A) : ∀ n : Nat, (∀ (σ : St) (H : Heap) (locs : List Loc) (ls : Array Slot), tModel_statement_L n 1 σ  = some σ' → va_P (dC, dI) vwCl (tcw ad cA σ) H → va_D A (tcw ad cA σ) → va_S A s.heap H locs → lv_has ls 2 [(0, .ref (ad 11))] → W p l e { frames := 8, cells := 0, slots := 0, locals := 183 } s m args below meth c H locs 0 0 (MQ below (QV (dC, dI) (ttys cA) (tcw ad cA) A σ') args s 0 0 A) (F0 m 65 ls [])) := by
  obtain ⟨hx, hb, hr, hml, hown, hlocks, hts, hA, hK, hZ⟩ := id X
  intro n
  induction n with
  | zero => exact (fun σ  H locs ls hF => by cases hF)
  | succ n ihn =>
    refine fun σ  H locs ls hF hP hD hS hl => ?_
    · have hF : tModel_statement_b1 (tModel_statement_L n) σ  = some σ' := hF
      unfold tModel_statement_b1 at hF
      refine lv_aload_n hx hb d_Model_statement_65 rfl (lv_at hl 0 rfl) ?_
      refine lv_ldc2 (v := 121437875889522) hx hb hown (hts _ w_33f9ca17d2) d_Model_statement_66 ?_
      obtain ⟨r8, h8, hF⟩ := b1E hF
      refine callVI (As := [.long 121437875889522]) X (ct_Model_sees l dC dI ad cA H.size h8) lk_Model_190 ⟨rfl, rfl, by decide, by decide⟩ 11 rfl rfl hP hD hS hl.1 rfl rfl (Nat.le_of_ble_eq_true rfl) d_Model_statement_69 (fun H locs hP hD hS => ?_)
      refine lv_if_eq (tgt := 95) hx hb d_Model_statement_72 (by decide) (fun c_9 => ?_) (fun c_9 => ?_)
      · have hF := ifp hF c_9
        refine lv_aload_n hx hb d_Model_statement_95 rfl (lv_at hl 0 rfl) ?_
        refine lv_ldc2 (v := 123) hx hb hown (hts _ w_cb193d7566) d_Model_statement_96 ?_
        obtain ⟨r10, h10, hF⟩ := b1E hF
        refine callVI (As := [.long 123]) X (ct_Model_sees l dC dI ad cA H.size h10) lk_Model_190 ⟨rfl, rfl, by decide, by decide⟩ 11 rfl rfl hP hD hS hl.1 rfl rfl (Nat.le_of_ble_eq_true rfl) d_Model_statement_99 (fun H locs hP hD hS => ?_)
        refine lv_if_eq (tgt := 112) hx hb d_Model_statement_102 (by decide) (fun c_11 => ?_) (fun c_11 => ?_)
        · have hF := ifp hF c_11
          refine lv_aload_n hx hb d_Model_statement_112 rfl (lv_at hl 0 rfl) ?_
          refine lv_ldc2 (v := 7630441) hx hb hown (hts _ w_97d8ebda3c) d_Model_statement_113 ?_
          obtain ⟨r12, h12, hF⟩ := b1E hF
          refine callVI (As := [.long 7630441]) X (ct_Model_sees l dC dI ad cA H.size h12) lk_Model_190 ⟨rfl, rfl, by decide, by decide⟩ 11 rfl rfl hP hD hS hl.1 rfl rfl (Nat.le_of_ble_eq_true rfl) d_Model_statement_116 (fun H locs hP hD hS => ?_)
          refine lv_if_eq (tgt := 129) hx hb d_Model_statement_119 (by decide) (fun c_13 => ?_) (fun c_13 => ?_)
          · have hF := ifp hF c_13
            refine lv_aload_n hx hb d_Model_statement_129 rfl (lv_at hl 0 rfl) ?_
            refine lv_ldc2 (v := 26217) hx hb hown (hts _ w_6d84aaa1b1) d_Model_statement_130 ?_
            obtain ⟨r14, h14, hF⟩ := b1E hF
            refine callVI (As := [.long 26217]) X (ct_Model_sees l dC dI ad cA H.size h14) lk_Model_190 ⟨rfl, rfl, by decide, by decide⟩ 11 rfl rfl hP hD hS hl.1 rfl rfl (Nat.le_of_ble_eq_true rfl) d_Model_statement_133 (fun H locs hP hD hS => ?_)
            refine lv_if_eq (tgt := 148) hx hb d_Model_statement_136 (by decide) (fun c_15 => ?_) (fun c_15 => ?_)
            · have hF := ifp hF c_15
              refine lv_aload_n hx hb d_Model_statement_148 rfl (lv_at hl 0 rfl) ?_
              refine lv_ldc2 (v := 435610544247) hx hb hown (hts _ w_cd1043e3c0) d_Model_statement_149 ?_
              obtain ⟨r16, h16, hF⟩ := b1E hF
              refine callVI (As := [.long 435610544247]) X (ct_Model_sees l dC dI ad cA H.size h16) lk_Model_190 ⟨rfl, rfl, by decide, by decide⟩ 11 rfl rfl hP hD hS hl.1 rfl rfl (Nat.le_of_ble_eq_true rfl) d_Model_statement_152 (fun H locs hP hD hS => ?_)
              refine lv_if_eq (tgt := 167) hx hb d_Model_statement_155 (by decide) (fun c_17 => ?_) (fun c_17 => ?_)
              · have hF := ifp hF c_17
                refine lv_aload_n hx hb d_Model_statement_167 rfl (lv_at hl 0 rfl) ?_
                refine lv_ldc2 (v := 500068610672) hx hb hown (hts _ w_7f6202ed2b) d_Model_statement_168 ?_
                obtain ⟨r18, h18, hF⟩ := b1E hF
                refine callVI (As := [.long 500068610672]) X (ct_Model_sees l dC dI ad cA H.size h18) lk_Model_190 ⟨rfl, rfl, by decide, by decide⟩ 11 rfl rfl hP hD hS hl.1 rfl rfl (Nat.le_of_ble_eq_true rfl) d_Model_statement_171 (fun H locs hP hD hS => ?_)
                refine lv_if_eq (tgt := 184) hx hb d_Model_statement_174 (by decide) (fun c_19 => ?_) (fun c_19 => ?_)
                · have hF := ifp hF c_19
                  refine lv_aload_n hx hb d_Model_statement_184 rfl (lv_at hl 0 rfl) ?_
                  refine va_get (D := (dC, dI)) (ci := 11) (v := .ref (ad 31)) hx hb hts i_Model hown hK hP 11 rfl rfl 9 (by decide) (hts _ w_f071529ab8) (fun _ h9 => h9) rfl d_Model_statement_185 ?_
                  refine lv_aload_n hx hb d_Model_statement_188 rfl (lv_at hl 0 rfl) ?_
                  refine va_get (D := (dC, dI)) (ci := 11) (v := .int (σ.1 31)) hx hb hts i_Model hown hK hP 11 rfl rfl 6 (by decide) (hts _ w_13cd8e7698) (fun _ h9 => h9) rfl d_Model_statement_189 ?_
                  obtain ⟨g_20, hF⟩ := gdE hF
                  refine va_iald (f := (σ.2.2.1 16)) hx hb hK hP 31 0 rfl rfl (inE g_20) d_Model_statement_192 ?_
                  refine lv_iconst (v := 1) hx hb d_Model_statement_193 (by decide) ?_
                  refine lv_icmp_ne (tgt := 204) hx hb d_Model_statement_194 (by decide) (fun c_21 => ?_) (fun c_21 => ?_)
                  · have hF := ifn hF c_21
                    refine lv_aload_n hx hb d_Model_statement_204 rfl (lv_at hl 0 rfl) ?_
                    refine lv_bipush (v := 17) hx hb d_Model_statement_205 (by decide) ?_
                    refine lv_iconst (v := (-1)) hx hb d_Model_statement_207 (by decide) ?_
                    obtain ⟨u22, h22, hF⟩ := b1E hF
                    refine callVV (As := [.int 17, .int (-1)]) X (ct_Model_ends l dC dI ad cA H.size h22) lk_Model_312 ⟨rfl, rfl, by decide, by decide⟩ 11 rfl rfl hP hD hS hl.1 rfl rfl (Nat.le_of_ble_eq_true rfl) d_Model_statement_208 (fun H locs hP hD hS => ?_)
                    cases hF
                    exact leafV X hP hD hS d_Model_statement_211
                  · have hF := ifp hF c_21
                    refine lv_aload_n hx hb d_Model_statement_197 rfl (lv_at hl 0 rfl) ?_
                    obtain ⟨u23, h23, hF⟩ := b1E hF
                    refine callVV (As := []) X (ct_Model_named l dC dI ad cA H.size h23) lk_Model_334 ⟨rfl, rfl, by decide, by decide⟩ 11 rfl rfl hP hD hS hl.1 rfl rfl (Nat.le_of_ble_eq_true rfl) d_Model_statement_198 (fun H locs hP hD hS => ?_)
                    refine lv_goto (tgt := 211) hx hb d_Model_statement_201 (by decide) ?_
                    cases hF
                    exact leafV X hP hD hS d_Model_statement_211
                · have hF := ifn hF c_19
                  refine lv_aload_n hx hb d_Model_statement_177 rfl (lv_at hl 0 rfl) ?_
                  obtain ⟨u24, h24, hF⟩ := b1E hF
                  refine callVV (As := []) X (ct_Model_prints l dC dI ad cA H.size h24) lk_Model_331 ⟨rfl, rfl, by decide, by decide⟩ 11 rfl rfl hP hD hS hl.1 rfl rfl (Nat.le_of_ble_eq_true rfl) d_Model_statement_178 (fun H locs hP hD hS => ?_)
                  refine lv_goto (tgt := 211) hx hb d_Model_statement_181 (by decide) ?_
                  cases hF
                  exact leafV X hP hD hS d_Model_statement_211
              · have hF := ifn hF c_17
                refine lv_aload_n hx hb d_Model_statement_158 rfl (lv_at hl 0 rfl) ?_
                refine lv_bipush (v := 14) hx hb d_Model_statement_159 (by decide) ?_
                obtain ⟨u25, h25, hF⟩ := b1E hF
                refine callVV (As := [.int 14]) X (ct_Model_conditional l dC dI ad cA H.size h25) lk_Model_328 ⟨rfl, rfl, by decide, by decide⟩ 11 rfl rfl hP hD hS hl.1 rfl rfl (Nat.le_of_ble_eq_true rfl) d_Model_statement_161 (fun H locs hP hD hS => ?_)
                refine lv_goto (tgt := 211) hx hb d_Model_statement_164 (by decide) ?_
                cases hF
                exact leafV X hP hD hS d_Model_statement_211
            · have hF := ifn hF c_15
              refine lv_aload_n hx hb d_Model_statement_139 rfl (lv_at hl 0 rfl) ?_
              refine lv_bipush (v := 13) hx hb d_Model_statement_140 (by decide) ?_
              obtain ⟨u26, h26, hF⟩ := b1E hF
              refine callVV (As := [.int 13]) X (ct_Model_conditional l dC dI ad cA H.size h26) lk_Model_328 ⟨rfl, rfl, by decide, by decide⟩ 11 rfl rfl hP hD hS hl.1 rfl rfl (Nat.le_of_ble_eq_true rfl) d_Model_statement_142 (fun H locs hP hD hS => ?_)
              refine lv_goto (tgt := 211) hx hb d_Model_statement_145 (by decide) ?_
              cases hF
              exact leafV X hP hD hS d_Model_statement_211
          · have hF := ifn hF c_13
            refine lv_aload_n hx hb d_Model_statement_122 rfl (lv_at hl 0 rfl) ?_
            obtain ⟨u27, h27, hF⟩ := b1E hF
            refine callVV (As := []) X (ct_Model_makes l dC dI ad cA H.size h27) lk_Model_325 ⟨rfl, rfl, by decide, by decide⟩ 11 rfl rfl hP hD hS hl.1 rfl rfl (Nat.le_of_ble_eq_true rfl) d_Model_statement_123 (fun H locs hP hD hS => ?_)
            refine lv_goto (tgt := 211) hx hb d_Model_statement_126 (by decide) ?_
            cases hF
            exact leafV X hP hD hS d_Model_statement_211
        · have hF := ifn hF c_11
          refine lv_aload_n hx hb d_Model_statement_105 rfl (lv_at hl 0 rfl) ?_
          obtain ⟨u28, h28, hF⟩ := b1E hF
          refine callVV (As := []) X (ct_Model_beginBlock l dC dI ad cA H.size h28) lk_Model_322 ⟨rfl, rfl, by decide, by decide⟩ 11 rfl rfl hP hD hS hl.1 rfl rfl (Nat.le_of_ble_eq_true rfl) d_Model_statement_106 (fun H locs hP hD hS => ?_)
          refine lv_goto (tgt := 211) hx hb d_Model_statement_109 (by decide) ?_
          cases hF
          exact leafV X hP hD hS d_Model_statement_211
      · have hF := ifn hF c_9
        refine lv_aload_n hx hb d_Model_statement_75 rfl (lv_at hl 0 rfl) ?_
        refine lv_dup hx hb d_Model_statement_76 rfl ?_
        refine va_get (D := (dC, dI)) (ci := 11) (v := .int (σ.1 31)) hx hb hts i_Model hown hK hP 11 rfl rfl 6 (by decide) (hts _ w_13cd8e7698) (fun _ h9 => h9) rfl d_Model_statement_77 ?_
        refine lv_iconst (v := 1) hx hb d_Model_statement_80 (by decide) ?_
        refine lv_iadd hx hb d_Model_statement_81 ?_
        refine va_put (D := (dC, dI)) (ci := 11) (v := .int ((σ.1 31) + 1)) (ty := .int) hx hb hts i_Model t_Model t_Model_ok n_Model hown hK hP hD hS 11 rfl rfl 6 (by decide) (hts _ w_13cd8e7698) (fun _ h9 => h9) rfl (by decide +kernel) rfl rfl (Nat.le_of_ble_eq_true rfl) d_Model_statement_82 (fun H locs hP hD hS => ?_)
        have hP : va_P (dC, dI) vwCl (tcw ad cA (sI σ 31 ((σ.1 31) + 1))) H := hP
        have hD : va_D A (tcw ad cA (sI σ 31 ((σ.1 31) + 1))) := hD
        refine lv_aload_n hx hb d_Model_statement_85 rfl (lv_at hl 0 rfl) ?_
        refine lv_bipush (v := 15) hx hb d_Model_statement_86 (by decide) ?_
        refine lv_iconst (v := (-1)) hx hb d_Model_statement_88 (by decide) ?_
        obtain ⟨u29, h29, hF⟩ := b1E hF
        refine callVV (As := [.int 15, .int (-1)]) X (ct_Model_ends l dC dI ad cA H.size h29) lk_Model_312 ⟨rfl, rfl, by decide, by decide⟩ 11 rfl rfl hP hD hS hl.1 rfl rfl (Nat.le_of_ble_eq_true rfl) d_Model_statement_89 (fun H locs hP hD hS => ?_)
        refine lv_goto (tgt := 211) hx hb d_Model_statement_92 (by decide) ?_
        cases hF
        exact leafV X hP hD hS d_Model_statement_211
set_option maxHeartbeats 4000000 in
set_option maxRecDepth 100000 in
theorem ct_Model_statement (l : Launch) (dC : Nat → ClassId) (dI : Nat → Nat → Nat) (ad : Nat → Nat) (cA : Nat → ClassId) (sz : Nat) {σ : St} {σ' : St} (hF : tModel_statement σ = some σ') : MV l y_Model_statement b_Model_statement 2 none { frames := 8, cells := 0, slots := 0, locals := 183 } (dC, dI) (ttys cA) ad (tcw ad cA) [.ref (ad 11)] σ sz σ' := by
  refine startM (own := "TinyForgeModel") (Qc := fun A => QV (dC, dI) (ttys cA) (tcw ad cA) A σ') rfl rfl (Nat.le_of_ble_eq_true rfl) ?_
  intro p e s m below meth c A H locs ls X hP hD hS hl
  have hl : lv_has ls 2 [(0, .ref (ad 11))] := hl
  obtain ⟨hx, hb, hr, hml, hown, hlocks, hts, hA, hK, hZ⟩ := id X
  unfold tModel_statement at hF
  refine lv_aload_n hx hb d_Model_statement_0 rfl (lv_at hl 0 rfl) ?_
  refine va_get (D := (dC, dI)) (ci := 11) (v := .ref (ad 51)) hx hb hts i_Model hown hK hP 11 rfl rfl 38 (by decide) (hts _ w_250ac790e4) (fun _ h9 => h9) rfl d_Model_statement_1 ?_
  refine lv_aload_n hx hb d_Model_statement_4 rfl (lv_at hl 0 rfl) ?_
  refine va_get (D := (dC, dI)) (ci := 11) (v := .int (σ.1 42)) hx hb hts i_Model hown hK hP 11 rfl rfl 35 (by decide) (hts _ w_d470deee69) (fun _ h9 => h9) rfl d_Model_statement_5 ?_
  refine lv_iconst (v := 1) hx hb d_Model_statement_8 (by decide) ?_
  refine lv_isub hx hb d_Model_statement_9 ?_
  obtain ⟨g_1, hF⟩ := gdE hF
  refine va_iald (f := (σ.2.2.1 36)) hx hb hK hP 51 0 rfl rfl (inE g_1) d_Model_statement_10 ?_
  refine lv_istore_n (lv' := [(1, .int ((σ.2.2.1 36) ((σ.1 42) - 1).toNatClampNeg)), (0, .ref (ad 11))]) hx hb d_Model_statement_11 rfl hl (by decide) rfl (fun ls hl => ?_)
  refine lv_aload_n hx hb d_Model_statement_12 rfl (lv_at hl 1 rfl) ?_
  refine va_get (D := (dC, dI)) (ci := 11) (v := .ref (ad 35)) hx hb hts i_Model hown hK hP 11 rfl rfl 14 (by decide) (hts _ w_0e6df3fb4c) (fun _ h9 => h9) rfl d_Model_statement_13 ?_
  refine lv_iload_n hx hb d_Model_statement_16 rfl (lv_at hl 0 rfl) ?_
  obtain ⟨g_2, hF⟩ := gdE hF
  refine va_iald (f := (σ.2.2.1 20)) hx hb hK hP 35 0 rfl rfl (inE g_2) d_Model_statement_17 ?_
  refine lv_bipush (v := 10) hx hb d_Model_statement_18 (by decide) ?_
  refine lv_icmp_ne (tgt := 65) hx hb d_Model_statement_20 (by decide) (fun c_3 => ?_) (fun c_3 => ?_)
  · have hF := ifn hF c_3
    exact (tModel_statement_blk l dC dI ad cA X 2000) σ  H locs ls hF hP hD hS (lv_sub hl [1] rfl)
  · have hF := ifp hF c_3
    refine lv_aload_n hx hb d_Model_statement_23 rfl (lv_at hl 1 rfl) ?_
    refine lv_ldc2 (v := 125) hx hb hown (hts _ w_666a5ab422) d_Model_statement_24 ?_
    obtain ⟨r4, h4, hF⟩ := b1E hF
    refine callVI (As := [.long 125]) X (ct_Model_sees l dC dI ad cA H.size h4) lk_Model_190 ⟨rfl, rfl, by decide, by decide⟩ 11 rfl rfl hP hD hS hl.1 rfl rfl (Nat.le_of_ble_eq_true rfl) d_Model_statement_27 (fun H locs hP hD hS => ?_)
    refine lv_if_eq (tgt := 65) hx hb d_Model_statement_30 (by decide) (fun c_5 => ?_) (fun c_5 => ?_)
    · have hF := ifp hF c_5
      exact (tModel_statement_blk l dC dI ad cA X 2000) σ  H locs ls hF hP hD hS (lv_sub hl [1] rfl)
    · have hF := ifn hF c_5
      refine lv_aload_n hx hb d_Model_statement_33 rfl (lv_at hl 1 rfl) ?_
      refine lv_dup hx hb d_Model_statement_34 rfl ?_
      refine va_get (D := (dC, dI)) (ci := 11) (v := .int (σ.1 31)) hx hb hts i_Model hown hK hP 11 rfl rfl 6 (by decide) (hts _ w_13cd8e7698) (fun _ h9 => h9) rfl d_Model_statement_35 ?_
      refine lv_iconst (v := 1) hx hb d_Model_statement_38 (by decide) ?_
      refine lv_iadd hx hb d_Model_statement_39 ?_
      refine va_put (D := (dC, dI)) (ci := 11) (v := .int ((σ.1 31) + 1)) (ty := .int) hx hb hts i_Model t_Model t_Model_ok n_Model hown hK hP hD hS 11 rfl rfl 6 (by decide) (hts _ w_13cd8e7698) (fun _ h9 => h9) rfl (by decide +kernel) rfl rfl (Nat.le_of_ble_eq_true rfl) d_Model_statement_40 (fun H locs hP hD hS => ?_)
      have hP : va_P (dC, dI) vwCl (tcw ad cA (sI σ 31 ((σ.1 31) + 1))) H := hP
      have hD : va_D A (tcw ad cA (sI σ 31 ((σ.1 31) + 1))) := hD
      refine lv_aload_n hx hb d_Model_statement_43 rfl (lv_at hl 1 rfl) ?_
      obtain ⟨u6, h6, hF⟩ := b1E hF
      refine callVV (As := []) X (ct_Model_leaveBlock l dC dI ad cA H.size h6) lk_Model_317 ⟨rfl, rfl, by decide, by decide⟩ 11 rfl rfl hP hD hS hl.1 rfl rfl (Nat.le_of_ble_eq_true rfl) d_Model_statement_44 (fun H locs hP hD hS => ?_)
      refine lv_aload_n hx hb d_Model_statement_47 rfl (lv_at hl 1 rfl) ?_
      refine lv_dup hx hb d_Model_statement_48 rfl ?_
      refine va_get (D := (dC, dI)) (ci := 11) (v := .int (u6.1 42)) hx hb hts i_Model hown hK hP 11 rfl rfl 35 (by decide) (hts _ w_d470deee69) (fun _ h9 => h9) rfl d_Model_statement_49 ?_
      refine lv_iconst (v := 1) hx hb d_Model_statement_52 (by decide) ?_
      refine lv_isub hx hb d_Model_statement_53 ?_
      refine va_put (D := (dC, dI)) (ci := 11) (v := .int ((u6.1 42) - 1)) (ty := .int) hx hb hts i_Model t_Model t_Model_ok n_Model hown hK hP hD hS 11 rfl rfl 35 (by decide) (hts _ w_d470deee69) (fun _ h9 => h9) rfl (by decide +kernel) rfl rfl (Nat.le_of_ble_eq_true rfl) d_Model_statement_54 (fun H locs hP hD hS => ?_)
      have hP : va_P (dC, dI) vwCl (tcw ad cA (sI u6 42 ((u6.1 42) - 1))) H := hP
      have hD : va_D A (tcw ad cA (sI u6 42 ((u6.1 42) - 1))) := hD
      refine lv_aload_n hx hb d_Model_statement_57 rfl (lv_at hl 1 rfl) ?_
      refine lv_iload_n hx hb d_Model_statement_58 rfl (lv_at hl 0 rfl) ?_
      obtain ⟨u7, h7, hF⟩ := b1E hF
      refine callVV (As := [.int ((σ.2.2.1 36) ((σ.1 42) - 1).toNatClampNeg)]) X (ct_Model_whole l dC dI ad cA H.size h7) lk_Model_309 ⟨rfl, rfl, by decide, by decide⟩ 11 rfl rfl hP hD hS hl.1 rfl rfl (Nat.le_of_ble_eq_true rfl) d_Model_statement_59 (fun H locs hP hD hS => ?_)
      refine lv_goto (tgt := 211) hx hb d_Model_statement_62 (by decide) ?_
      cases hF
      exact leafV X hP hD hS d_Model_statement_211
theorem d_Model_functionPart_0 : decode b_Model_functionPart 0 = .ok (.aload_n 0, 1) := by decide +kernel
theorem d_Model_functionPart_1 : decode b_Model_functionPart 1 = .ok (.dup, 1) := by decide +kernel
theorem d_Model_functionPart_2 : decode b_Model_functionPart 2 = .ok (.getfield 184, 3) := by decide +kernel
theorem d_Model_functionPart_5 : decode b_Model_functionPart 5 = .ok (.iconst 1, 1) := by decide +kernel
theorem d_Model_functionPart_6 : decode b_Model_functionPart 6 = .ok (.iadd, 1) := by decide +kernel
theorem d_Model_functionPart_7 : decode b_Model_functionPart 7 = .ok (.putfield 184, 3) := by decide +kernel
theorem d_Model_functionPart_10 : decode b_Model_functionPart 10 = .ok (.aload_n 0, 1) := by decide +kernel
theorem d_Model_functionPart_11 : decode b_Model_functionPart 11 = .ok (.iconst 0, 1) := by decide +kernel
theorem d_Model_functionPart_12 : decode b_Model_functionPart 12 = .ok (.putfield 224, 3) := by decide +kernel
theorem d_Model_functionPart_15 : decode b_Model_functionPart 15 = .ok (.aload_n 0, 1) := by decide +kernel
theorem d_Model_functionPart_16 : decode b_Model_functionPart 16 = .ok (.iconst 1, 1) := by decide +kernel
theorem d_Model_functionPart_17 : decode b_Model_functionPart 17 = .ok (.putfield 287, 3) := by decide +kernel
theorem d_Model_functionPart_20 : decode b_Model_functionPart 20 = .ok (.aload_n 0, 1) := by decide +kernel
theorem d_Model_functionPart_21 : decode b_Model_functionPart 21 = .ok (.iload_n 1, 1) := by decide +kernel
theorem d_Model_functionPart_22 : decode b_Model_functionPart 22 = .ok (.iconst 1, 1) := by decide +kernel
theorem d_Model_functionPart_23 : decode b_Model_functionPart 23 = .ok (.iconst 0, 1) := by decide +kernel
theorem d_Model_functionPart_24 : decode b_Model_functionPart 24 = .ok (.invokevirtual 349, 3) := by decide +kernel
theorem d_Model_functionPart_27 : decode b_Model_functionPart 27 = .ok (.istore_n 2, 1) := by decide +kernel
theorem d_Model_functionPart_28 : decode b_Model_functionPart 28 = .ok (.aload_n 0, 1) := by decide +kernel
theorem d_Model_functionPart_29 : decode b_Model_functionPart 29 = .ok (.getfield 58, 3) := by decide +kernel
theorem d_Model_functionPart_32 : decode b_Model_functionPart 32 = .ok (.iload_n 2, 1) := by decide +kernel
theorem d_Model_functionPart_33 : decode b_Model_functionPart 33 = .ok (.aload_n 0, 1) := by decide +kernel
theorem d_Model_functionPart_34 : decode b_Model_functionPart 34 = .ok (.invokevirtual 353, 3) := by decide +kernel
theorem d_Model_functionPart_37 : decode b_Model_functionPart 37 = .ok (.iastore, 1) := by decide +kernel
theorem d_Model_functionPart_38 : decode b_Model_functionPart 38 = .ok (.aload_n 0, 1) := by decide +kernel
theorem d_Model_functionPart_39 : decode b_Model_functionPart 39 = .ok (.getfield 121, 3) := by decide +kernel
theorem d_Model_functionPart_42 : decode b_Model_functionPart 42 = .ok (.ifCond .ne 17, 3) := by decide +kernel
theorem d_Model_functionPart_45 : decode b_Model_functionPart 45 = .ok (.aload_n 0, 1) := by decide +kernel
theorem d_Model_functionPart_46 : decode b_Model_functionPart 46 = .ok (.ldc2_w 320, 3) := by decide +kernel
theorem d_Model_functionPart_49 : decode b_Model_functionPart 49 = .ok (.invokevirtual 190, 3) := by decide +kernel
theorem d_Model_functionPart_52 : decode b_Model_functionPart 52 = .ok (.ifCond .ne 7, 3) := by decide +kernel
theorem d_Model_functionPart_55 : decode b_Model_functionPart 55 = .ok (.aload_n 0, 1) := by decide +kernel
theorem d_Model_functionPart_56 : decode b_Model_functionPart 56 = .ok (.invokevirtual 194, 3) := by decide +kernel
theorem d_Model_functionPart_59 : decode b_Model_functionPart 59 = .ok (.aload_n 0, 1) := by decide +kernel
theorem d_Model_functionPart_60 : decode b_Model_functionPart 60 = .ok (.getfield 121, 3) := by decide +kernel
theorem d_Model_functionPart_63 : decode b_Model_functionPart 63 = .ok (.ifCond .eq 4, 3) := by decide +kernel
theorem d_Model_functionPart_66 : decode b_Model_functionPart 66 = .ok (.return_, 1) := by decide +kernel
theorem d_Model_functionPart_67 : decode b_Model_functionPart 67 = .ok (.aload_n 0, 1) := by decide +kernel
theorem d_Model_functionPart_68 : decode b_Model_functionPart 68 = .ok (.iconst 0, 1) := by decide +kernel
theorem d_Model_functionPart_69 : decode b_Model_functionPart 69 = .ok (.putfield 290, 3) := by decide +kernel
theorem d_Model_functionPart_72 : decode b_Model_functionPart 72 = .ok (.aload_n 0, 1) := by decide +kernel
theorem d_Model_functionPart_73 : decode b_Model_functionPart 73 = .ok (.iconst 0, 1) := by decide +kernel
theorem d_Model_functionPart_74 : decode b_Model_functionPart 74 = .ok (.putfield 287, 3) := by decide +kernel
theorem d_Model_functionPart_77 : decode b_Model_functionPart 77 = .ok (.aload_n 0, 1) := by decide +kernel
theorem d_Model_functionPart_78 : decode b_Model_functionPart 78 = .ok (.invokevirtual 322, 3) := by decide +kernel
theorem d_Model_functionPart_81 : decode b_Model_functionPart 81 = .ok (.aload_n 0, 1) := by decide +kernel
theorem d_Model_functionPart_82 : decode b_Model_functionPart 82 = .ok (.getfield 79, 3) := by decide +kernel
theorem d_Model_functionPart_85 : decode b_Model_functionPart 85 = .ok (.iconst 0, 1) := by decide +kernel
theorem d_Model_functionPart_86 : decode b_Model_functionPart 86 = .ok (.iaload, 1) := by decide +kernel
theorem d_Model_functionPart_87 : decode b_Model_functionPart 87 = .ok (.istore_n 3, 1) := by decide +kernel
theorem d_Model_functionPart_88 : decode b_Model_functionPart 88 = .ok (.aload_n 0, 1) := by decide +kernel
theorem d_Model_functionPart_89 : decode b_Model_functionPart 89 = .ok (.getfield 290, 3) := by decide +kernel
theorem d_Model_functionPart_92 : decode b_Model_functionPart 92 = .ok (.ifCond .le 17, 3) := by decide +kernel
theorem d_Model_functionPart_95 : decode b_Model_functionPart 95 = .ok (.aload_n 0, 1) := by decide +kernel
theorem d_Model_functionPart_96 : decode b_Model_functionPart 96 = .ok (.getfield 121, 3) := by decide +kernel
theorem d_Model_functionPart_99 : decode b_Model_functionPart 99 = .ok (.ifCond .ne 10, 3) := by decide +kernel
theorem d_Model_functionPart_102 : decode b_Model_functionPart 102 = .ok (.aload_n 0, 1) := by decide +kernel
theorem d_Model_functionPart_103 : decode b_Model_functionPart 103 = .ok (.invokevirtual 356, 3) := by decide +kernel
theorem d_Model_functionPart_106 : decode b_Model_functionPart 106 = .ok (.goto (-18), 3) := by decide +kernel
theorem d_Model_functionPart_109 : decode b_Model_functionPart 109 = .ok (.aload_n 0, 1) := by decide +kernel
theorem d_Model_functionPart_110 : decode b_Model_functionPart 110 = .ok (.getfield 61, 3) := by decide +kernel
theorem d_Model_functionPart_113 : decode b_Model_functionPart 113 = .ok (.iload_n 2, 1) := by decide +kernel
theorem d_Model_functionPart_114 : decode b_Model_functionPart 114 = .ok (.iload_n 3, 1) := by decide +kernel
theorem d_Model_functionPart_115 : decode b_Model_functionPart 115 = .ok (.iastore, 1) := by decide +kernel
theorem d_Model_functionPart_116 : decode b_Model_functionPart 116 = .ok (.return_, 1) := by decide +kernel
def tModel_functionPart_b1 (k : Nat → St → Int32 → Int32 → Option (St)) (σ : St) (x1 : Int32) (x2 : Int32) : Option (St) := if (σ.1 29) = 0 then b1 (tModel_beginBlock (sI (sI σ 42 0) 39 0)) (fun u9 => gd (inB 0 60) (k 2 u9 x1 ((u9.2.2.1 36) (0 : Int32).toNatClampNeg))) else some σ
def tModel_functionPart_b2 (k : Nat → St → Int32 → Int32 → Option (St)) (σ : St) (x1 : Int32) (x2 : Int32) : Option (St) := if (σ.1 42) ≤ 0 then gd (inB x1 60) (some (sA σ 30 (upd (σ.2.2.1 30) x1.toNatClampNeg x2))) else if (σ.1 29) = 0 then b1 (tModel_statement σ) (fun u15 => k 2 u15 x1 x2) else gd (inB x1 60) (some (sA σ 30 (upd (σ.2.2.1 30) x1.toNatClampNeg x2)))
def tModel_functionPart_L : Nat → Nat → St → Int32 → Int32 → Option (St)
  | 0, _, _, _, _ => none
  | n + 1, lab, σ, x1, x2 => match lab with
    | 1 => tModel_functionPart_b1 (tModel_functionPart_L n) σ x1 x2
    | 2 => tModel_functionPart_b2 (tModel_functionPart_L n) σ x1 x2
    | _ => none
def tModel_functionPart (σ : St) (a1 : Int32) : Option (St) := b2 (tModel_makeGlobal (sI (sI (sI σ 31 ((σ.1 31) + 1)) 38 0) 39 1) a1 1 0) (fun r1 u1 => b2 (tModel_parameters u1) (fun r2 u2 => gd (inB r1 60) (if (u2.1 29) = 0 then b1 (tModel_sees (sA u2 29 (upd (u2.2.2.1 29) r1.toNatClampNeg r2)) 123) (fun r5 => if r5 = 0 then b1 (tModel_spoil (sA u2 29 (upd (u2.2.2.1 29) r1.toNatClampNeg r2))) (fun u7 => tModel_functionPart_L 2000 1 u7 r1 0) else tModel_functionPart_L 2000 1 (sA u2 29 (upd (u2.2.2.1 29) r1.toNatClampNeg r2)) r1 0) else tModel_functionPart_L 2000 1 (sA u2 29 (upd (u2.2.2.1 29) r1.toNatClampNeg r2)) r1 0)))
set_option maxHeartbeats 4000000 in
set_option maxRecDepth 100000 in
theorem tModel_functionPart_blk {p : Program} {e : Env} {s : State} {m : MethodId} {args : Array Value} {below : List Frame} {meth : Method} {c : Code} {A : Nat → Prop} (l : Launch) (dC : Nat → ClassId) (dI : Nat → Nat → Nat) (ad : Nat → Nat) (cA : Nat → ClassId) {σ' : St} (X : Cx p s m args meth c b_Model_functionPart 4 none "TinyForgeModel" (dC, dI) (ttys cA) ad A) : ∀ n : Nat, (∀ (σ : St) (x1 : Int32) (x2 : Int32) (H : Heap) (locs : List Loc) (ls : Array Slot), tModel_functionPart_L n 1 σ x1 x2 = some σ' → va_P (dC, dI) vwCl (tcw ad cA σ) H → va_D A (tcw ad cA σ) → va_S A s.heap H locs → lv_has ls 4 [(0, .ref (ad 11)), (2, .int x1)] → W p l e { frames := 9, cells := 0, slots := 0, locals := 204 } s m args below meth c H locs 0 0 (MQ below (QV (dC, dI) (ttys cA) (tcw ad cA) A σ') args s 0 0 A) (F0 m 59 ls [])) ∧ (∀ (σ : St) (x1 : Int32) (x2 : Int32) (H : Heap) (locs : List Loc) (ls : Array Slot), tModel_functionPart_L n 2 σ x1 x2 = some σ' → va_P (dC, dI) vwCl (tcw ad cA σ) H → va_D A (tcw ad cA σ) → va_S A s.heap H locs → lv_has ls 4 [(0, .ref (ad 11)), (2, .int x1), (3, .int x2)] → W p l e { frames := 9, cells := 0, slots := 0, locals := 204 } s m args below meth c H locs 0 0 (MQ below (QV (dC, dI) (ttys cA) (tcw ad cA) A σ') args s 0 0 A) (F0 m 88 ls [])) := by
  obtain ⟨hx, hb, hr, hml, hown, hlocks, hts, hA, hK, hZ⟩ := id X
  intro n
  induction n with
  | zero => exact ⟨(fun σ x1 x2 H locs ls hF => by cases hF), (fun σ x1 x2 H locs ls hF => by cases hF)⟩
  | succ n ihn =>
    refine ⟨fun σ x1 x2 H locs ls hF hP hD hS hl => ?_, fun σ x1 x2 H locs ls hF hP hD hS hl => ?_⟩
    · have hF : tModel_functionPart_b1 (tModel_functionPart_L n) σ x1 x2 = some σ' := hF
      unfold tModel_functionPart_b1 at hF
      refine lv_aload_n hx hb d_Model_functionPart_59 rfl (lv_at hl 0 rfl) ?_
      refine va_get (D := (dC, dI)) (ci := 11) (v := .int (σ.1 29)) hx hb hts i_Model hown hK hP 11 rfl rfl 4 (by decide) (hts _ w_0464dc4398) (fun _ h9 => h9) rfl d_Model_functionPart_60 ?_
      refine lv_if_eq (tgt := 67) hx hb d_Model_functionPart_63 (by decide) (fun c_8 => ?_) (fun c_8 => ?_)
      · have hF := ifp hF c_8
        refine lv_aload_n hx hb d_Model_functionPart_67 rfl (lv_at hl 0 rfl) ?_
        refine lv_iconst (v := 0) hx hb d_Model_functionPart_68 (by decide) ?_
        refine va_put (D := (dC, dI)) (ci := 11) (v := .int 0) (ty := .int) hx hb hts i_Model t_Model t_Model_ok n_Model hown hK hP hD hS 11 rfl rfl 35 (by decide) (hts _ w_d470deee69) (fun _ h9 => h9) rfl (by decide +kernel) rfl rfl (Nat.le_of_ble_eq_true rfl) d_Model_functionPart_69 (fun H locs hP hD hS => ?_)
        have hP : va_P (dC, dI) vwCl (tcw ad cA (sI σ 42 0)) H := hP
        have hD : va_D A (tcw ad cA (sI σ 42 0)) := hD
        refine lv_aload_n hx hb d_Model_functionPart_72 rfl (lv_at hl 0 rfl) ?_
        refine lv_iconst (v := 0) hx hb d_Model_functionPart_73 (by decide) ?_
        refine va_put (D := (dC, dI)) (ci := 11) (v := .int 0) (ty := .int) hx hb hts i_Model t_Model t_Model_ok n_Model hown hK hP hD hS 11 rfl rfl 29 (by decide) (hts _ w_fd102d3787) (fun _ h9 => h9) rfl (by decide +kernel) rfl rfl (Nat.le_of_ble_eq_true rfl) d_Model_functionPart_74 (fun H locs hP hD hS => ?_)
        have hP : va_P (dC, dI) vwCl (tcw ad cA (sI (sI σ 42 0) 39 0)) H := hP
        have hD : va_D A (tcw ad cA (sI (sI σ 42 0) 39 0)) := hD
        refine lv_aload_n hx hb d_Model_functionPart_77 rfl (lv_at hl 0 rfl) ?_
        obtain ⟨u9, h9, hF⟩ := b1E hF
        refine callVV (As := []) X (ct_Model_beginBlock l dC dI ad cA H.size h9) lk_Model_322 ⟨rfl, rfl, by decide, by decide⟩ 11 rfl rfl hP hD hS hl.1 rfl rfl (Nat.le_of_ble_eq_true rfl) d_Model_functionPart_78 (fun H locs hP hD hS => ?_)
        refine lv_aload_n hx hb d_Model_functionPart_81 rfl (lv_at hl 0 rfl) ?_
        refine va_get (D := (dC, dI)) (ci := 11) (v := .ref (ad 51)) hx hb hts i_Model hown hK hP 11 rfl rfl 38 (by decide) (hts _ w_250ac790e4) (fun _ h9 => h9) rfl d_Model_functionPart_82 ?_
        refine lv_iconst (v := 0) hx hb d_Model_functionPart_85 (by decide) ?_
        obtain ⟨g_10, hF⟩ := gdE hF
        refine va_iald (f := (u9.2.2.1 36)) hx hb hK hP 51 0 rfl rfl (inE g_10) d_Model_functionPart_86 ?_
        refine lv_istore_n (lv' := [(3, .int ((u9.2.2.1 36) (0 : Int32).toNatClampNeg)), (0, .ref (ad 11)), (2, .int x1)]) hx hb d_Model_functionPart_87 rfl hl (by decide) rfl (fun ls hl => ?_)
        exact ihn.2 u9 x1 ((u9.2.2.1 36) (0 : Int32).toNatClampNeg) H locs ls hF hP hD hS (lv_sub hl [1, 2, 0] rfl)
      · have hF := ifn hF c_8
        cases hF
        exact leafV X hP hD hS d_Model_functionPart_66
    · have hF : tModel_functionPart_b2 (tModel_functionPart_L n) σ x1 x2 = some σ' := hF
      unfold tModel_functionPart_b2 at hF
      refine lv_aload_n hx hb d_Model_functionPart_88 rfl (lv_at hl 0 rfl) ?_
      refine va_get (D := (dC, dI)) (ci := 11) (v := .int (σ.1 42)) hx hb hts i_Model hown hK hP 11 rfl rfl 35 (by decide) (hts _ w_d470deee69) (fun _ h9 => h9) rfl d_Model_functionPart_89 ?_
      refine lv_if_le (tgt := 109) hx hb d_Model_functionPart_92 (by decide) (fun c_11 => ?_) (fun c_11 => ?_)
      · have hF := ifp hF c_11
        refine lv_aload_n hx hb d_Model_functionPart_109 rfl (lv_at hl 0 rfl) ?_
        refine va_get (D := (dC, dI)) (ci := 11) (v := .ref (ad 45)) hx hb hts i_Model hown hK hP 11 rfl rfl 27 (by decide) (hts _ w_04aab809f2) (fun _ h9 => h9) rfl d_Model_functionPart_110 ?_
        refine lv_iload_n hx hb d_Model_functionPart_113 rfl (lv_at hl 1 rfl) ?_
        refine lv_iload_n hx hb d_Model_functionPart_114 rfl (lv_at hl 2 rfl) ?_
        obtain ⟨g_12, hF⟩ := gdE hF
        refine va_iast (f := (σ.2.2.1 30)) hx hb hK hP hD hS 45 0 rfl rfl (inE g_12) d_Model_functionPart_115 (fun H locs hP hD hS => ?_)
        have hP : va_P (dC, dI) vwCl (tcw ad cA (sA σ 30 (upd (σ.2.2.1 30) x1.toNatClampNeg x2))) H := hP
        have hD : va_D A (tcw ad cA (sA σ 30 (upd (σ.2.2.1 30) x1.toNatClampNeg x2))) := hD
        cases hF
        exact leafV X hP hD hS d_Model_functionPart_116
      · have hF := ifn hF c_11
        refine lv_aload_n hx hb d_Model_functionPart_95 rfl (lv_at hl 0 rfl) ?_
        refine va_get (D := (dC, dI)) (ci := 11) (v := .int (σ.1 29)) hx hb hts i_Model hown hK hP 11 rfl rfl 4 (by decide) (hts _ w_0464dc4398) (fun _ h9 => h9) rfl d_Model_functionPart_96 ?_
        refine lv_if_ne (tgt := 109) hx hb d_Model_functionPart_99 (by decide) (fun c_13 => ?_) (fun c_13 => ?_)
        · have hF := ifn hF c_13
          refine lv_aload_n hx hb d_Model_functionPart_109 rfl (lv_at hl 0 rfl) ?_
          refine va_get (D := (dC, dI)) (ci := 11) (v := .ref (ad 45)) hx hb hts i_Model hown hK hP 11 rfl rfl 27 (by decide) (hts _ w_04aab809f2) (fun _ h9 => h9) rfl d_Model_functionPart_110 ?_
          refine lv_iload_n hx hb d_Model_functionPart_113 rfl (lv_at hl 1 rfl) ?_
          refine lv_iload_n hx hb d_Model_functionPart_114 rfl (lv_at hl 2 rfl) ?_
          obtain ⟨g_14, hF⟩ := gdE hF
          refine va_iast (f := (σ.2.2.1 30)) hx hb hK hP hD hS 45 0 rfl rfl (inE g_14) d_Model_functionPart_115 (fun H locs hP hD hS => ?_)
          have hP : va_P (dC, dI) vwCl (tcw ad cA (sA σ 30 (upd (σ.2.2.1 30) x1.toNatClampNeg x2))) H := hP
          have hD : va_D A (tcw ad cA (sA σ 30 (upd (σ.2.2.1 30) x1.toNatClampNeg x2))) := hD
          cases hF
          exact leafV X hP hD hS d_Model_functionPart_116
        · have hF := ifp hF c_13
          refine lv_aload_n hx hb d_Model_functionPart_102 rfl (lv_at hl 0 rfl) ?_
          obtain ⟨u15, h15, hF⟩ := b1E hF
          refine callVV (As := []) X (ct_Model_statement l dC dI ad cA H.size h15) lk_Model_356 ⟨rfl, rfl, by decide, by decide⟩ 11 rfl rfl hP hD hS hl.1 rfl rfl (Nat.le_of_ble_eq_true rfl) d_Model_functionPart_103 (fun H locs hP hD hS => ?_)
          refine lv_goto (tgt := 88) hx hb d_Model_functionPart_106 (by decide) ?_
          exact ihn.2 u15 x1 x2 H locs ls hF hP hD hS (lv_sub hl [0, 1, 2] rfl)
set_option maxHeartbeats 4000000 in
set_option maxRecDepth 100000 in
theorem ct_Model_functionPart (l : Launch) (dC : Nat → ClassId) (dI : Nat → Nat → Nat) (ad : Nat → Nat) (cA : Nat → ClassId) (sz : Nat) {σ : St} {a1 : Int32} {σ' : St} (hF : tModel_functionPart σ a1 = some σ') : MV l y_Model_functionPart b_Model_functionPart 4 none { frames := 9, cells := 0, slots := 0, locals := 204 } (dC, dI) (ttys cA) ad (tcw ad cA) [.ref (ad 11), .int a1] σ sz σ' := by
  refine startM (own := "TinyForgeModel") (Qc := fun A => QV (dC, dI) (ttys cA) (tcw ad cA) A σ') rfl rfl (Nat.le_of_ble_eq_true rfl) ?_
  intro p e s m below meth c A H locs ls X hP hD hS hl
  have hl : lv_has ls 4 [(0, .ref (ad 11)), (1, .int a1)] := hl
  obtain ⟨hx, hb, hr, hml, hown, hlocks, hts, hA, hK, hZ⟩ := id X
  unfold tModel_functionPart at hF
  refine lv_aload_n hx hb d_Model_functionPart_0 rfl (lv_at hl 0 rfl) ?_
  refine lv_dup hx hb d_Model_functionPart_1 rfl ?_
  refine va_get (D := (dC, dI)) (ci := 11) (v := .int (σ.1 31)) hx hb hts i_Model hown hK hP 11 rfl rfl 6 (by decide) (hts _ w_13cd8e7698) (fun _ h9 => h9) rfl d_Model_functionPart_2 ?_
  refine lv_iconst (v := 1) hx hb d_Model_functionPart_5 (by decide) ?_
  refine lv_iadd hx hb d_Model_functionPart_6 ?_
  refine va_put (D := (dC, dI)) (ci := 11) (v := .int ((σ.1 31) + 1)) (ty := .int) hx hb hts i_Model t_Model t_Model_ok n_Model hown hK hP hD hS 11 rfl rfl 6 (by decide) (hts _ w_13cd8e7698) (fun _ h9 => h9) rfl (by decide +kernel) rfl rfl (Nat.le_of_ble_eq_true rfl) d_Model_functionPart_7 (fun H locs hP hD hS => ?_)
  have hP : va_P (dC, dI) vwCl (tcw ad cA (sI σ 31 ((σ.1 31) + 1))) H := hP
  have hD : va_D A (tcw ad cA (sI σ 31 ((σ.1 31) + 1))) := hD
  refine lv_aload_n hx hb d_Model_functionPart_10 rfl (lv_at hl 0 rfl) ?_
  refine lv_iconst (v := 0) hx hb d_Model_functionPart_11 (by decide) ?_
  refine va_put (D := (dC, dI)) (ci := 11) (v := .int 0) (ty := .int) hx hb hts i_Model t_Model t_Model_ok n_Model hown hK hP hD hS 11 rfl rfl 28 (by decide) (hts _ w_805d5a2f41) (fun _ h9 => h9) rfl (by decide +kernel) rfl rfl (Nat.le_of_ble_eq_true rfl) d_Model_functionPart_12 (fun H locs hP hD hS => ?_)
  have hP : va_P (dC, dI) vwCl (tcw ad cA (sI (sI σ 31 ((σ.1 31) + 1)) 38 0)) H := hP
  have hD : va_D A (tcw ad cA (sI (sI σ 31 ((σ.1 31) + 1)) 38 0)) := hD
  refine lv_aload_n hx hb d_Model_functionPart_15 rfl (lv_at hl 0 rfl) ?_
  refine lv_iconst (v := 1) hx hb d_Model_functionPart_16 (by decide) ?_
  refine va_put (D := (dC, dI)) (ci := 11) (v := .int 1) (ty := .int) hx hb hts i_Model t_Model t_Model_ok n_Model hown hK hP hD hS 11 rfl rfl 29 (by decide) (hts _ w_fd102d3787) (fun _ h9 => h9) rfl (by decide +kernel) rfl rfl (Nat.le_of_ble_eq_true rfl) d_Model_functionPart_17 (fun H locs hP hD hS => ?_)
  have hP : va_P (dC, dI) vwCl (tcw ad cA (sI (sI (sI σ 31 ((σ.1 31) + 1)) 38 0) 39 1)) H := hP
  have hD : va_D A (tcw ad cA (sI (sI (sI σ 31 ((σ.1 31) + 1)) 38 0) 39 1)) := hD
  refine lv_aload_n hx hb d_Model_functionPart_20 rfl (lv_at hl 0 rfl) ?_
  refine lv_iload_n hx hb d_Model_functionPart_21 rfl (lv_at hl 1 rfl) ?_
  refine lv_iconst (v := 1) hx hb d_Model_functionPart_22 (by decide) ?_
  refine lv_iconst (v := 0) hx hb d_Model_functionPart_23 (by decide) ?_
  obtain ⟨r1, u1, h1, hF⟩ := b2E hF
  refine callVI (As := [.int a1, .int 1, .int 0]) X (ct_Model_makeGlobal l dC dI ad cA H.size h1) lk_Model_349 ⟨rfl, rfl, by decide, by decide⟩ 11 rfl rfl hP hD hS hl.1 rfl rfl (Nat.le_of_ble_eq_true rfl) d_Model_functionPart_24 (fun H locs hP hD hS => ?_)
  refine lv_istore_n (lv' := [(2, .int r1), (0, .ref (ad 11)), (1, .int a1)]) hx hb d_Model_functionPart_27 rfl hl (by decide) rfl (fun ls hl => ?_)
  refine lv_aload_n hx hb d_Model_functionPart_28 rfl (lv_at hl 1 rfl) ?_
  refine va_get (D := (dC, dI)) (ci := 11) (v := .ref (ad 44)) hx hb hts i_Model hown hK hP 11 rfl rfl 26 (by decide) (hts _ w_3f8fbd1572) (fun _ h9 => h9) rfl d_Model_functionPart_29 ?_
  refine lv_iload_n hx hb d_Model_functionPart_32 rfl (lv_at hl 0 rfl) ?_
  refine lv_aload_n hx hb d_Model_functionPart_33 rfl (lv_at hl 1 rfl) ?_
  obtain ⟨r2, u2, h2, hF⟩ := b2E hF
  refine callVI (As := []) X (ct_Model_parameters l dC dI ad cA H.size h2) lk_Model_353 ⟨rfl, rfl, by decide, by decide⟩ 11 rfl rfl hP hD hS hl.1 rfl rfl (Nat.le_of_ble_eq_true rfl) d_Model_functionPart_34 (fun H locs hP hD hS => ?_)
  obtain ⟨g_3, hF⟩ := gdE hF
  refine va_iast (f := (u2.2.2.1 29)) hx hb hK hP hD hS 44 0 rfl rfl (inE g_3) d_Model_functionPart_37 (fun H locs hP hD hS => ?_)
  have hP : va_P (dC, dI) vwCl (tcw ad cA (sA u2 29 (upd (u2.2.2.1 29) r1.toNatClampNeg r2))) H := hP
  have hD : va_D A (tcw ad cA (sA u2 29 (upd (u2.2.2.1 29) r1.toNatClampNeg r2))) := hD
  refine lv_aload_n hx hb d_Model_functionPart_38 rfl (lv_at hl 1 rfl) ?_
  refine va_get (D := (dC, dI)) (ci := 11) (v := .int (u2.1 29)) hx hb hts i_Model hown hK hP 11 rfl rfl 4 (by decide) (hts _ w_0464dc4398) (fun _ h9 => h9) rfl d_Model_functionPart_39 ?_
  refine lv_if_ne (tgt := 59) hx hb d_Model_functionPart_42 (by decide) (fun c_4 => ?_) (fun c_4 => ?_)
  · have hF := ifn hF c_4
    exact (tModel_functionPart_blk l dC dI ad cA X 2000).1 (sA u2 29 (upd (u2.2.2.1 29) r1.toNatClampNeg r2)) r1 0 H locs ls hF hP hD hS (lv_sub hl [1, 0] rfl)
  · have hF := ifp hF c_4
    refine lv_aload_n hx hb d_Model_functionPart_45 rfl (lv_at hl 1 rfl) ?_
    refine lv_ldc2 (v := 123) hx hb hown (hts _ w_cb193d7566) d_Model_functionPart_46 ?_
    obtain ⟨r5, h5, hF⟩ := b1E hF
    refine callVI (As := [.long 123]) X (ct_Model_sees l dC dI ad cA H.size h5) lk_Model_190 ⟨rfl, rfl, by decide, by decide⟩ 11 rfl rfl hP hD hS hl.1 rfl rfl (Nat.le_of_ble_eq_true rfl) d_Model_functionPart_49 (fun H locs hP hD hS => ?_)
    refine lv_if_ne (tgt := 59) hx hb d_Model_functionPart_52 (by decide) (fun c_6 => ?_) (fun c_6 => ?_)
    · have hF := ifn hF c_6
      exact (tModel_functionPart_blk l dC dI ad cA X 2000).1 (sA u2 29 (upd (u2.2.2.1 29) r1.toNatClampNeg r2)) r1 0 H locs ls hF hP hD hS (lv_sub hl [1, 0] rfl)
    · have hF := ifp hF c_6
      refine lv_aload_n hx hb d_Model_functionPart_55 rfl (lv_at hl 1 rfl) ?_
      obtain ⟨u7, h7, hF⟩ := b1E hF
      refine callVV (As := []) X (ct_Model_spoil l dC dI ad cA H.size h7) lk_Model_194 ⟨rfl, rfl, by decide, by decide⟩ 11 rfl rfl hP hD hS hl.1 rfl rfl (Nat.le_of_ble_eq_true rfl) d_Model_functionPart_56 (fun H locs hP hD hS => ?_)
      exact (tModel_functionPart_blk l dC dI ad cA X 2000).1 u7 r1 0 H locs ls hF hP hD hS (lv_sub hl [1, 0] rfl)
theorem d_Model_part_0 : decode b_Model_part 0 = .ok (.aload_n 0, 1) := by decide +kernel
theorem d_Model_part_1 : decode b_Model_part 1 = .ok (.ldc2_w 166, 3) := by decide +kernel
theorem d_Model_part_4 : decode b_Model_part 4 = .ok (.invokevirtual 252, 3) := by decide +kernel
theorem d_Model_part_7 : decode b_Model_part 7 = .ok (.aload_n 0, 1) := by decide +kernel
theorem d_Model_part_8 : decode b_Model_part 8 = .ok (.getfield 121, 3) := by decide +kernel
theorem d_Model_part_11 : decode b_Model_part 11 = .ok (.ifCond .ne 20, 3) := by decide +kernel
theorem d_Model_part_14 : decode b_Model_part 14 = .ok (.aload_n 0, 1) := by decide +kernel
theorem d_Model_part_15 : decode b_Model_part 15 = .ok (.getfield 17, 3) := by decide +kernel
theorem d_Model_part_18 : decode b_Model_part 18 = .ok (.aload_n 0, 1) := by decide +kernel
theorem d_Model_part_19 : decode b_Model_part 19 = .ok (.getfield 184, 3) := by decide +kernel
theorem d_Model_part_22 : decode b_Model_part 22 = .ok (.iaload, 1) := by decide +kernel
theorem d_Model_part_23 : decode b_Model_part 23 = .ok (.iconst 1, 1) := by decide +kernel
theorem d_Model_part_24 : decode b_Model_part 24 = .ok (.if_icmp .eq 7, 3) := by decide +kernel
theorem d_Model_part_27 : decode b_Model_part 27 = .ok (.aload_n 0, 1) := by decide +kernel
theorem d_Model_part_28 : decode b_Model_part 28 = .ok (.invokevirtual 194, 3) := by decide +kernel
theorem d_Model_part_31 : decode b_Model_part 31 = .ok (.aload_n 0, 1) := by decide +kernel
theorem d_Model_part_32 : decode b_Model_part 32 = .ok (.getfield 121, 3) := by decide +kernel
theorem d_Model_part_35 : decode b_Model_part 35 = .ok (.ifCond .eq 4, 3) := by decide +kernel
theorem d_Model_part_38 : decode b_Model_part 38 = .ok (.return_, 1) := by decide +kernel
theorem d_Model_part_39 : decode b_Model_part 39 = .ok (.aload_n 0, 1) := by decide +kernel
theorem d_Model_part_40 : decode b_Model_part 40 = .ok (.getfield 184, 3) := by decide +kernel
theorem d_Model_part_43 : decode b_Model_part 43 = .ok (.istore_n 1, 1) := by decide +kernel
theorem d_Model_part_44 : decode b_Model_part 44 = .ok (.aload_n 0, 1) := by decide +kernel
theorem d_Model_part_45 : decode b_Model_part 45 = .ok (.dup, 1) := by decide +kernel
theorem d_Model_part_46 : decode b_Model_part 46 = .ok (.getfield 184, 3) := by decide +kernel
theorem d_Model_part_49 : decode b_Model_part 49 = .ok (.iconst 1, 1) := by decide +kernel
theorem d_Model_part_50 : decode b_Model_part 50 = .ok (.iadd, 1) := by decide +kernel
theorem d_Model_part_51 : decode b_Model_part 51 = .ok (.putfield 184, 3) := by decide +kernel
theorem d_Model_part_54 : decode b_Model_part 54 = .ok (.aload_n 0, 1) := by decide +kernel
theorem d_Model_part_55 : decode b_Model_part 55 = .ok (.ldc2_w 231, 3) := by decide +kernel
theorem d_Model_part_58 : decode b_Model_part 58 = .ok (.invokevirtual 190, 3) := by decide +kernel
theorem d_Model_part_61 : decode b_Model_part 61 = .ok (.ifCond .eq 11, 3) := by decide +kernel
theorem d_Model_part_64 : decode b_Model_part 64 = .ok (.aload_n 0, 1) := by decide +kernel
theorem d_Model_part_65 : decode b_Model_part 65 = .ok (.iload_n 1, 1) := by decide +kernel
theorem d_Model_part_66 : decode b_Model_part 66 = .ok (.invokevirtual 359, 3) := by decide +kernel
theorem d_Model_part_69 : decode b_Model_part 69 = .ok (.goto 25, 3) := by decide +kernel
theorem d_Model_part_72 : decode b_Model_part 72 = .ok (.aload_n 0, 1) := by decide +kernel
theorem d_Model_part_73 : decode b_Model_part 73 = .ok (.ldc2_w 239, 3) := by decide +kernel
theorem d_Model_part_76 : decode b_Model_part 76 = .ok (.invokevirtual 190, 3) := by decide +kernel
theorem d_Model_part_79 : decode b_Model_part 79 = .ok (.ifCond .eq 11, 3) := by decide +kernel
theorem d_Model_part_82 : decode b_Model_part 82 = .ok (.aload_n 0, 1) := by decide +kernel
theorem d_Model_part_83 : decode b_Model_part 83 = .ok (.iload_n 1, 1) := by decide +kernel
theorem d_Model_part_84 : decode b_Model_part 84 = .ok (.invokevirtual 362, 3) := by decide +kernel
theorem d_Model_part_87 : decode b_Model_part 87 = .ok (.goto 7, 3) := by decide +kernel
theorem d_Model_part_90 : decode b_Model_part 90 = .ok (.aload_n 0, 1) := by decide +kernel
theorem d_Model_part_91 : decode b_Model_part 91 = .ok (.invokevirtual 194, 3) := by decide +kernel
theorem d_Model_part_94 : decode b_Model_part 94 = .ok (.return_, 1) := by decide +kernel
def tModel_part_b1 (k : Nat → St → Option (St)) (σ : St) : Option (St) := if (σ.1 29) = 0 then b1 (tModel_sees (sI σ 31 ((σ.1 31) + 1)) 91) (fun r7 => if r7 = 0 then b1 (tModel_sees (sI σ 31 ((σ.1 31) + 1)) 40) (fun r9 => if r9 = 0 then b1 (tModel_spoil (sI σ 31 ((σ.1 31) + 1))) (fun u11 => some u11) else b1 (tModel_functionPart (sI σ 31 ((σ.1 31) + 1)) (σ.1 31)) (fun u12 => some u12)) else b1 (tModel_arrayPart (sI σ 31 ((σ.1 31) + 1)) (σ.1 31)) (fun u13 => some u13)) else some σ
def tModel_part_L : Nat → Nat → St → Option (St)
  | 0, _, _ => none
  | n + 1, lab, σ => match lab with
    | 1 => tModel_part_b1 (tModel_part_L n) σ 
    | _ => none
def tModel_part (σ : St) : Option (St) := b1 (tModel_need σ 7630441) (fun u1 => if (u1.1 29) = 0 then gd (inB (u1.1 31) 500) (if ((u1.2.2.1 16) (u1.1 31).toNatClampNeg) = 1 then tModel_part_L 2000 1 u1  else b1 (tModel_spoil u1) (fun u5 => tModel_part_L 2000 1 u5 )) else tModel_part_L 2000 1 u1 )
set_option maxHeartbeats 4000000 in
set_option maxRecDepth 100000 in
theorem tModel_part_blk {p : Program} {e : Env} {s : State} {m : MethodId} {args : Array Value} {below : List Frame} {meth : Method} {c : Code} {A : Nat → Prop} (l : Launch) (dC : Nat → ClassId) (dI : Nat → Nat → Nat) (ad : Nat → Nat) (cA : Nat → ClassId) {σ' : St} (X : Cx p s m args meth c b_Model_part 2 none "TinyForgeModel" (dC, dI) (ttys cA) ad A) : ∀ n : Nat, (∀ (σ : St) (H : Heap) (locs : List Loc) (ls : Array Slot), tModel_part_L n 1 σ  = some σ' → va_P (dC, dI) vwCl (tcw ad cA σ) H → va_D A (tcw ad cA σ) → va_S A s.heap H locs → lv_has ls 2 [(0, .ref (ad 11))] → W p l e { frames := 10, cells := 0, slots := 0, locals := 227 } s m args below meth c H locs 0 0 (MQ below (QV (dC, dI) (ttys cA) (tcw ad cA) A σ') args s 0 0 A) (F0 m 31 ls [])) := by
  obtain ⟨hx, hb, hr, hml, hown, hlocks, hts, hA, hK, hZ⟩ := id X
  intro n
  induction n with
  | zero => exact (fun σ  H locs ls hF => by cases hF)
  | succ n ihn =>
    refine fun σ  H locs ls hF hP hD hS hl => ?_
    · have hF : tModel_part_b1 (tModel_part_L n) σ  = some σ' := hF
      unfold tModel_part_b1 at hF
      refine lv_aload_n hx hb d_Model_part_31 rfl (lv_at hl 0 rfl) ?_
      refine va_get (D := (dC, dI)) (ci := 11) (v := .int (σ.1 29)) hx hb hts i_Model hown hK hP 11 rfl rfl 4 (by decide) (hts _ w_0464dc4398) (fun _ h9 => h9) rfl d_Model_part_32 ?_
      refine lv_if_eq (tgt := 39) hx hb d_Model_part_35 (by decide) (fun c_6 => ?_) (fun c_6 => ?_)
      · have hF := ifp hF c_6
        refine lv_aload_n hx hb d_Model_part_39 rfl (lv_at hl 0 rfl) ?_
        refine va_get (D := (dC, dI)) (ci := 11) (v := .int (σ.1 31)) hx hb hts i_Model hown hK hP 11 rfl rfl 6 (by decide) (hts _ w_13cd8e7698) (fun _ h9 => h9) rfl d_Model_part_40 ?_
        refine lv_istore_n (lv' := [(1, .int (σ.1 31)), (0, .ref (ad 11))]) hx hb d_Model_part_43 rfl hl (by decide) rfl (fun ls hl => ?_)
        refine lv_aload_n hx hb d_Model_part_44 rfl (lv_at hl 1 rfl) ?_
        refine lv_dup hx hb d_Model_part_45 rfl ?_
        refine va_get (D := (dC, dI)) (ci := 11) (v := .int (σ.1 31)) hx hb hts i_Model hown hK hP 11 rfl rfl 6 (by decide) (hts _ w_13cd8e7698) (fun _ h9 => h9) rfl d_Model_part_46 ?_
        refine lv_iconst (v := 1) hx hb d_Model_part_49 (by decide) ?_
        refine lv_iadd hx hb d_Model_part_50 ?_
        refine va_put (D := (dC, dI)) (ci := 11) (v := .int ((σ.1 31) + 1)) (ty := .int) hx hb hts i_Model t_Model t_Model_ok n_Model hown hK hP hD hS 11 rfl rfl 6 (by decide) (hts _ w_13cd8e7698) (fun _ h9 => h9) rfl (by decide +kernel) rfl rfl (Nat.le_of_ble_eq_true rfl) d_Model_part_51 (fun H locs hP hD hS => ?_)
        have hP : va_P (dC, dI) vwCl (tcw ad cA (sI σ 31 ((σ.1 31) + 1))) H := hP
        have hD : va_D A (tcw ad cA (sI σ 31 ((σ.1 31) + 1))) := hD
        refine lv_aload_n hx hb d_Model_part_54 rfl (lv_at hl 1 rfl) ?_
        refine lv_ldc2 (v := 91) hx hb hown (hts _ w_6ea7e12f2f) d_Model_part_55 ?_
        obtain ⟨r7, h7, hF⟩ := b1E hF
        refine callVI (As := [.long 91]) X (ct_Model_sees l dC dI ad cA H.size h7) lk_Model_190 ⟨rfl, rfl, by decide, by decide⟩ 11 rfl rfl hP hD hS hl.1 rfl rfl (Nat.le_of_ble_eq_true rfl) d_Model_part_58 (fun H locs hP hD hS => ?_)
        refine lv_if_eq (tgt := 72) hx hb d_Model_part_61 (by decide) (fun c_8 => ?_) (fun c_8 => ?_)
        · have hF := ifp hF c_8
          refine lv_aload_n hx hb d_Model_part_72 rfl (lv_at hl 1 rfl) ?_
          refine lv_ldc2 (v := 40) hx hb hown (hts _ w_8030e055df) d_Model_part_73 ?_
          obtain ⟨r9, h9, hF⟩ := b1E hF
          refine callVI (As := [.long 40]) X (ct_Model_sees l dC dI ad cA H.size h9) lk_Model_190 ⟨rfl, rfl, by decide, by decide⟩ 11 rfl rfl hP hD hS hl.1 rfl rfl (Nat.le_of_ble_eq_true rfl) d_Model_part_76 (fun H locs hP hD hS => ?_)
          refine lv_if_eq (tgt := 90) hx hb d_Model_part_79 (by decide) (fun c_10 => ?_) (fun c_10 => ?_)
          · have hF := ifp hF c_10
            refine lv_aload_n hx hb d_Model_part_90 rfl (lv_at hl 1 rfl) ?_
            obtain ⟨u11, h11, hF⟩ := b1E hF
            refine callVV (As := []) X (ct_Model_spoil l dC dI ad cA H.size h11) lk_Model_194 ⟨rfl, rfl, by decide, by decide⟩ 11 rfl rfl hP hD hS hl.1 rfl rfl (Nat.le_of_ble_eq_true rfl) d_Model_part_91 (fun H locs hP hD hS => ?_)
            cases hF
            exact leafV X hP hD hS d_Model_part_94
          · have hF := ifn hF c_10
            refine lv_aload_n hx hb d_Model_part_82 rfl (lv_at hl 1 rfl) ?_
            refine lv_iload_n hx hb d_Model_part_83 rfl (lv_at hl 0 rfl) ?_
            obtain ⟨u12, h12, hF⟩ := b1E hF
            refine callVV (As := [.int (σ.1 31)]) X (ct_Model_functionPart l dC dI ad cA H.size h12) lk_Model_362 ⟨rfl, rfl, by decide, by decide⟩ 11 rfl rfl hP hD hS hl.1 rfl rfl (Nat.le_of_ble_eq_true rfl) d_Model_part_84 (fun H locs hP hD hS => ?_)
            refine lv_goto (tgt := 94) hx hb d_Model_part_87 (by decide) ?_
            cases hF
            exact leafV X hP hD hS d_Model_part_94
        · have hF := ifn hF c_8
          refine lv_aload_n hx hb d_Model_part_64 rfl (lv_at hl 1 rfl) ?_
          refine lv_iload_n hx hb d_Model_part_65 rfl (lv_at hl 0 rfl) ?_
          obtain ⟨u13, h13, hF⟩ := b1E hF
          refine callVV (As := [.int (σ.1 31)]) X (ct_Model_arrayPart l dC dI ad cA H.size h13) lk_Model_359 ⟨rfl, rfl, by decide, by decide⟩ 11 rfl rfl hP hD hS hl.1 rfl rfl (Nat.le_of_ble_eq_true rfl) d_Model_part_66 (fun H locs hP hD hS => ?_)
          refine lv_goto (tgt := 94) hx hb d_Model_part_69 (by decide) ?_
          cases hF
          exact leafV X hP hD hS d_Model_part_94
      · have hF := ifn hF c_6
        cases hF
        exact leafV X hP hD hS d_Model_part_38
set_option maxHeartbeats 4000000 in
set_option maxRecDepth 100000 in
theorem ct_Model_part (l : Launch) (dC : Nat → ClassId) (dI : Nat → Nat → Nat) (ad : Nat → Nat) (cA : Nat → ClassId) (sz : Nat) {σ : St} {σ' : St} (hF : tModel_part σ = some σ') : MV l y_Model_part b_Model_part 2 none { frames := 10, cells := 0, slots := 0, locals := 227 } (dC, dI) (ttys cA) ad (tcw ad cA) [.ref (ad 11)] σ sz σ' := by
  refine startM (own := "TinyForgeModel") (Qc := fun A => QV (dC, dI) (ttys cA) (tcw ad cA) A σ') rfl rfl (Nat.le_of_ble_eq_true rfl) ?_
  intro p e s m below meth c A H locs ls X hP hD hS hl
  have hl : lv_has ls 2 [(0, .ref (ad 11))] := hl
  obtain ⟨hx, hb, hr, hml, hown, hlocks, hts, hA, hK, hZ⟩ := id X
  unfold tModel_part at hF
  refine lv_aload_n hx hb d_Model_part_0 rfl (lv_at hl 0 rfl) ?_
  refine lv_ldc2 (v := 7630441) hx hb hown (hts _ w_97d8ebda3c) d_Model_part_1 ?_
  obtain ⟨u1, h1, hF⟩ := b1E hF
  refine callVV (As := [.long 7630441]) X (ct_Model_need l dC dI ad cA H.size h1) lk_Model_252 ⟨rfl, rfl, by decide, by decide⟩ 11 rfl rfl hP hD hS hl.1 rfl rfl (Nat.le_of_ble_eq_true rfl) d_Model_part_4 (fun H locs hP hD hS => ?_)
  refine lv_aload_n hx hb d_Model_part_7 rfl (lv_at hl 0 rfl) ?_
  refine va_get (D := (dC, dI)) (ci := 11) (v := .int (u1.1 29)) hx hb hts i_Model hown hK hP 11 rfl rfl 4 (by decide) (hts _ w_0464dc4398) (fun _ h9 => h9) rfl d_Model_part_8 ?_
  refine lv_if_ne (tgt := 31) hx hb d_Model_part_11 (by decide) (fun c_2 => ?_) (fun c_2 => ?_)
  · have hF := ifn hF c_2
    exact (tModel_part_blk l dC dI ad cA X 2000) u1  H locs ls hF hP hD hS (lv_sub hl [0] rfl)
  · have hF := ifp hF c_2
    refine lv_aload_n hx hb d_Model_part_14 rfl (lv_at hl 0 rfl) ?_
    refine va_get (D := (dC, dI)) (ci := 11) (v := .ref (ad 31)) hx hb hts i_Model hown hK hP 11 rfl rfl 9 (by decide) (hts _ w_f071529ab8) (fun _ h9 => h9) rfl d_Model_part_15 ?_
    refine lv_aload_n hx hb d_Model_part_18 rfl (lv_at hl 0 rfl) ?_
    refine va_get (D := (dC, dI)) (ci := 11) (v := .int (u1.1 31)) hx hb hts i_Model hown hK hP 11 rfl rfl 6 (by decide) (hts _ w_13cd8e7698) (fun _ h9 => h9) rfl d_Model_part_19 ?_
    obtain ⟨g_3, hF⟩ := gdE hF
    refine va_iald (f := (u1.2.2.1 16)) hx hb hK hP 31 0 rfl rfl (inE g_3) d_Model_part_22 ?_
    refine lv_iconst (v := 1) hx hb d_Model_part_23 (by decide) ?_
    refine lv_icmp_eq (tgt := 31) hx hb d_Model_part_24 (by decide) (fun c_4 => ?_) (fun c_4 => ?_)
    · have hF := ifp hF c_4
      exact (tModel_part_blk l dC dI ad cA X 2000) u1  H locs ls hF hP hD hS (lv_sub hl [0] rfl)
    · have hF := ifn hF c_4
      refine lv_aload_n hx hb d_Model_part_27 rfl (lv_at hl 0 rfl) ?_
      obtain ⟨u5, h5, hF⟩ := b1E hF
      refine callVV (As := []) X (ct_Model_spoil l dC dI ad cA H.size h5) lk_Model_194 ⟨rfl, rfl, by decide, by decide⟩ 11 rfl rfl hP hD hS hl.1 rfl rfl (Nat.le_of_ble_eq_true rfl) d_Model_part_28 (fun H locs hP hD hS => ?_)
      exact (tModel_part_blk l dC dI ad cA X 2000) u5  H locs ls hF hP hD hS (lv_sub hl [0] rfl)
theorem d_Model_settleNames_0 : decode b_Model_settleNames 0 = .ok (.iconst 0, 1) := by decide +kernel
theorem d_Model_settleNames_1 : decode b_Model_settleNames 1 = .ok (.istore_n 1, 1) := by decide +kernel
theorem d_Model_settleNames_2 : decode b_Model_settleNames 2 = .ok (.iload_n 1, 1) := by decide +kernel
theorem d_Model_settleNames_3 : decode b_Model_settleNames 3 = .ok (.aload_n 0, 1) := by decide +kernel
theorem d_Model_settleNames_4 : decode b_Model_settleNames 4 = .ok (.getfield 187, 3) := by decide +kernel
theorem d_Model_settleNames_7 : decode b_Model_settleNames 7 = .ok (.if_icmp .ge 124, 3) := by decide +kernel
theorem d_Model_settleNames_10 : decode b_Model_settleNames 10 = .ok (.aload_n 0, 1) := by decide +kernel
theorem d_Model_settleNames_11 : decode b_Model_settleNames 11 = .ok (.getfield 30, 3) := by decide +kernel
theorem d_Model_settleNames_14 : decode b_Model_settleNames 14 = .ok (.iload_n 1, 1) := by decide +kernel
theorem d_Model_settleNames_15 : decode b_Model_settleNames 15 = .ok (.iaload, 1) := by decide +kernel
theorem d_Model_settleNames_16 : decode b_Model_settleNames 16 = .ok (.iconst 5, 1) := by decide +kernel
theorem d_Model_settleNames_17 : decode b_Model_settleNames 17 = .ok (.if_icmp .ne 7, 3) := by decide +kernel
theorem d_Model_settleNames_20 : decode b_Model_settleNames 20 = .ok (.iconst 1, 1) := by decide +kernel
theorem d_Model_settleNames_21 : decode b_Model_settleNames 21 = .ok (.goto 4, 3) := by decide +kernel
theorem d_Model_settleNames_24 : decode b_Model_settleNames 24 = .ok (.iconst 0, 1) := by decide +kernel
theorem d_Model_settleNames_25 : decode b_Model_settleNames 25 = .ok (.istore_n 2, 1) := by decide +kernel
theorem d_Model_settleNames_26 : decode b_Model_settleNames 26 = .ok (.iload_n 2, 1) := by decide +kernel
theorem d_Model_settleNames_27 : decode b_Model_settleNames 27 = .ok (.ifCond .ne 24, 3) := by decide +kernel
theorem d_Model_settleNames_30 : decode b_Model_settleNames 30 = .ok (.aload_n 0, 1) := by decide +kernel
theorem d_Model_settleNames_31 : decode b_Model_settleNames 31 = .ok (.getfield 30, 3) := by decide +kernel
theorem d_Model_settleNames_34 : decode b_Model_settleNames 34 = .ok (.iload_n 1, 1) := by decide +kernel
theorem d_Model_settleNames_35 : decode b_Model_settleNames 35 = .ok (.iaload, 1) := by decide +kernel
theorem d_Model_settleNames_36 : decode b_Model_settleNames 36 = .ok (.iconst 4, 1) := by decide +kernel
theorem d_Model_settleNames_37 : decode b_Model_settleNames 37 = .ok (.if_icmp .eq 14, 3) := by decide +kernel
theorem d_Model_settleNames_40 : decode b_Model_settleNames 40 = .ok (.aload_n 0, 1) := by decide +kernel
theorem d_Model_settleNames_41 : decode b_Model_settleNames 41 = .ok (.getfield 30, 3) := by decide +kernel
theorem d_Model_settleNames_44 : decode b_Model_settleNames 44 = .ok (.iload_n 1, 1) := by decide +kernel
theorem d_Model_settleNames_45 : decode b_Model_settleNames 45 = .ok (.iaload, 1) := by decide +kernel
theorem d_Model_settleNames_46 : decode b_Model_settleNames 46 = .ok (.bipush 12, 2) := by decide +kernel
theorem d_Model_settleNames_48 : decode b_Model_settleNames 48 = .ok (.if_icmp .ne 77, 3) := by decide +kernel
theorem d_Model_settleNames_51 : decode b_Model_settleNames 51 = .ok (.aload_n 0, 1) := by decide +kernel
theorem d_Model_settleNames_52 : decode b_Model_settleNames 52 = .ok (.getfield 42, 3) := by decide +kernel
theorem d_Model_settleNames_55 : decode b_Model_settleNames 55 = .ok (.iload_n 1, 1) := by decide +kernel
theorem d_Model_settleNames_56 : decode b_Model_settleNames 56 = .ok (.iaload, 1) := by decide +kernel
theorem d_Model_settleNames_57 : decode b_Model_settleNames 57 = .ok (.ifCond .lt 7, 3) := by decide +kernel
theorem d_Model_settleNames_60 : decode b_Model_settleNames 60 = .ok (.iconst (-1), 1) := by decide +kernel
theorem d_Model_settleNames_61 : decode b_Model_settleNames 61 = .ok (.goto 13, 3) := by decide +kernel
theorem d_Model_settleNames_64 : decode b_Model_settleNames 64 = .ok (.aload_n 0, 1) := by decide +kernel
theorem d_Model_settleNames_65 : decode b_Model_settleNames 65 = .ok (.aload_n 0, 1) := by decide +kernel
theorem d_Model_settleNames_66 : decode b_Model_settleNames 66 = .ok (.getfield 48, 3) := by decide +kernel
theorem d_Model_settleNames_69 : decode b_Model_settleNames 69 = .ok (.iload_n 1, 1) := by decide +kernel
theorem d_Model_settleNames_70 : decode b_Model_settleNames 70 = .ok (.iaload, 1) := by decide +kernel
theorem d_Model_settleNames_71 : decode b_Model_settleNames 71 = .ok (.invokevirtual 340, 3) := by decide +kernel
theorem d_Model_settleNames_74 : decode b_Model_settleNames 74 = .ok (.istore_n 3, 1) := by decide +kernel
theorem d_Model_settleNames_75 : decode b_Model_settleNames 75 = .ok (.iload_n 3, 1) := by decide +kernel
theorem d_Model_settleNames_76 : decode b_Model_settleNames 76 = .ok (.ifCond .lt 32, 3) := by decide +kernel
theorem d_Model_settleNames_79 : decode b_Model_settleNames 79 = .ok (.aload_n 0, 1) := by decide +kernel
theorem d_Model_settleNames_80 : decode b_Model_settleNames 80 = .ok (.getfield 54, 3) := by decide +kernel
theorem d_Model_settleNames_83 : decode b_Model_settleNames 83 = .ok (.iload_n 3, 1) := by decide +kernel
theorem d_Model_settleNames_84 : decode b_Model_settleNames 84 = .ok (.baload, 1) := by decide +kernel
theorem d_Model_settleNames_85 : decode b_Model_settleNames 85 = .ok (.iload_n 2, 1) := by decide +kernel
theorem d_Model_settleNames_86 : decode b_Model_settleNames 86 = .ok (.if_icmp .ne 22, 3) := by decide +kernel
theorem d_Model_settleNames_89 : decode b_Model_settleNames 89 = .ok (.iload_n 2, 1) := by decide +kernel
theorem d_Model_settleNames_90 : decode b_Model_settleNames 90 = .ok (.ifCond .eq 28, 3) := by decide +kernel
theorem d_Model_settleNames_93 : decode b_Model_settleNames 93 = .ok (.aload_n 0, 1) := by decide +kernel
theorem d_Model_settleNames_94 : decode b_Model_settleNames 94 = .ok (.getfield 58, 3) := by decide +kernel
theorem d_Model_settleNames_97 : decode b_Model_settleNames 97 = .ok (.iload_n 3, 1) := by decide +kernel
theorem d_Model_settleNames_98 : decode b_Model_settleNames 98 = .ok (.iaload, 1) := by decide +kernel
theorem d_Model_settleNames_99 : decode b_Model_settleNames 99 = .ok (.aload_n 0, 1) := by decide +kernel
theorem d_Model_settleNames_100 : decode b_Model_settleNames 100 = .ok (.getfield 33, 3) := by decide +kernel
theorem d_Model_settleNames_103 : decode b_Model_settleNames 103 = .ok (.iload_n 1, 1) := by decide +kernel
theorem d_Model_settleNames_104 : decode b_Model_settleNames 104 = .ok (.iaload, 1) := by decide +kernel
theorem d_Model_settleNames_105 : decode b_Model_settleNames 105 = .ok (.if_icmp .eq 13, 3) := by decide +kernel
theorem d_Model_settleNames_108 : decode b_Model_settleNames 108 = .ok (.aload_n 0, 1) := by decide +kernel
theorem d_Model_settleNames_109 : decode b_Model_settleNames 109 = .ok (.aload_n 0, 1) := by decide +kernel
theorem d_Model_settleNames_110 : decode b_Model_settleNames 110 = .ok (.getfield 48, 3) := by decide +kernel
theorem d_Model_settleNames_113 : decode b_Model_settleNames 113 = .ok (.iload_n 1, 1) := by decide +kernel
theorem d_Model_settleNames_114 : decode b_Model_settleNames 114 = .ok (.iaload, 1) := by decide +kernel
theorem d_Model_settleNames_115 : decode b_Model_settleNames 115 = .ok (.invokevirtual 249, 3) := by decide +kernel
theorem d_Model_settleNames_118 : decode b_Model_settleNames 118 = .ok (.aload_n 0, 1) := by decide +kernel
theorem d_Model_settleNames_119 : decode b_Model_settleNames 119 = .ok (.getfield 42, 3) := by decide +kernel
theorem d_Model_settleNames_122 : decode b_Model_settleNames 122 = .ok (.iload_n 1, 1) := by decide +kernel
theorem d_Model_settleNames_123 : decode b_Model_settleNames 123 = .ok (.iload_n 3, 1) := by decide +kernel
theorem d_Model_settleNames_124 : decode b_Model_settleNames 124 = .ok (.iastore, 1) := by decide +kernel
theorem d_Model_settleNames_125 : decode b_Model_settleNames 125 = .ok (.iinc 1 1, 3) := by decide +kernel
theorem d_Model_settleNames_128 : decode b_Model_settleNames 128 = .ok (.goto (-126), 3) := by decide +kernel
theorem d_Model_settleNames_131 : decode b_Model_settleNames 131 = .ok (.return_, 1) := by decide +kernel
def tModel_settleNames_b1 (k : Nat → St → Int32 → Int32 → Int32 → Option (St)) (σ : St) (x1 : Int32) (x2 : Int32) (x3 : Int32) : Option (St) := if (σ.1 34) ≤ x1 then some σ else gd (inB x1 500) (if ((σ.2.2.1 20) x1.toNatClampNeg) = 5 then k 2 σ x1 1 0 else k 2 σ x1 0 0)
def tModel_settleNames_b2 (k : Nat → St → Int32 → Int32 → Int32 → Option (St)) (σ : St) (x1 : Int32) (x2 : Int32) (x3 : Int32) : Option (St) := if x2 = 0 then gd (inB x1 500) (if ((σ.2.2.1 20) x1.toNatClampNeg) = 4 then k 3 σ x1 x2 0 else gd (inB x1 500) (if ((σ.2.2.1 20) x1.toNatClampNeg) = 12 then k 3 σ x1 x2 0 else k 7 σ x1 0 0)) else k 3 σ x1 x2 0
def tModel_settleNames_b3 (k : Nat → St → Int32 → Int32 → Int32 → Option (St)) (σ : St) (x1 : Int32) (x2 : Int32) (x3 : Int32) : Option (St) := gd (inB x1 500) (if ((σ.2.2.1 24) x1.toNatClampNeg) < 0 then gd (inB x1 500) (b1 (tModel_global σ ((σ.2.2.1 26) x1.toNatClampNeg)) (fun r12 => k 4 σ x1 x2 r12)) else k 4 σ x1 x2 (-1))
def tModel_settleNames_b4 (k : Nat → St → Int32 → Int32 → Int32 → Option (St)) (σ : St) (x1 : Int32) (x2 : Int32) (x3 : Int32) : Option (St) := if x3 < 0 then k 5 σ x1 x3 0 else gd (inB x3 60) (if ((σ.2.2.1 28) x3.toNatClampNeg) = x2 then if x2 = 0 then k 6 σ x1 x3 0 else gd (inB x3 60) (gd (inB x1 500) (if ((σ.2.2.1 29) x3.toNatClampNeg) = ((σ.2.2.1 21) x1.toNatClampNeg) then k 6 σ x1 x3 0 else k 5 σ x1 x3 0)) else k 5 σ x1 x3 0)
def tModel_settleNames_b5 (k : Nat → St → Int32 → Int32 → Int32 → Option (St)) (σ : St) (x1 : Int32) (x2 : Int32) (x3 : Int32) : Option (St) := gd (inB x1 500) (b1 (tModel_notName σ ((σ.2.2.1 26) x1.toNatClampNeg)) (fun u21 => k 6 u21 x1 x2 0))
def tModel_settleNames_b6 (k : Nat → St → Int32 → Int32 → Int32 → Option (St)) (σ : St) (x1 : Int32) (x2 : Int32) (x3 : Int32) : Option (St) := gd (inB x1 500) (k 7 (sA σ 24 (upd (σ.2.2.1 24) x1.toNatClampNeg x2)) x1 0 0)
def tModel_settleNames_b7 (k : Nat → St → Int32 → Int32 → Int32 → Option (St)) (σ : St) (x1 : Int32) (x2 : Int32) (x3 : Int32) : Option (St) := k 1 σ (x1 + 1) 0 0
def tModel_settleNames_L : Nat → Nat → St → Int32 → Int32 → Int32 → Option (St)
  | 0, _, _, _, _, _ => none
  | n + 1, lab, σ, x1, x2, x3 => match lab with
    | 1 => tModel_settleNames_b1 (tModel_settleNames_L n) σ x1 x2 x3
    | 2 => tModel_settleNames_b2 (tModel_settleNames_L n) σ x1 x2 x3
    | 3 => tModel_settleNames_b3 (tModel_settleNames_L n) σ x1 x2 x3
    | 4 => tModel_settleNames_b4 (tModel_settleNames_L n) σ x1 x2 x3
    | 5 => tModel_settleNames_b5 (tModel_settleNames_L n) σ x1 x2 x3
    | 6 => tModel_settleNames_b6 (tModel_settleNames_L n) σ x1 x2 x3
    | 7 => tModel_settleNames_b7 (tModel_settleNames_L n) σ x1 x2 x3
    | _ => none
def tModel_settleNames (σ : St) : Option (St) := tModel_settleNames_L 2000 1 σ 0 0 0
set_option maxHeartbeats 4000000 in
set_option maxRecDepth 100000 in
theorem tModel_settleNames_blk {p : Program} {e : Env} {s : State} {m : MethodId} {args : Array Value} {below : List Frame} {meth : Method} {c : Code} {A : Nat → Prop} (l : Launch) (dC : Nat → ClassId) (dI : Nat → Nat → Nat) (ad : Nat → Nat) (cA : Nat → ClassId) {σ' : St} (X : Cx p s m args meth c b_Model_settleNames 4 none "TinyForgeModel" (dC, dI) (ttys cA) ad A) : ∀ n : Nat, (∀ (σ : St) (x1 : Int32) (x2 : Int32) (x3 : Int32) (H : Heap) (locs : List Loc) (ls : Array Slot), tModel_settleNames_L n 1 σ x1 x2 x3 = some σ' → va_P (dC, dI) vwCl (tcw ad cA σ) H → va_D A (tcw ad cA σ) → va_S A s.heap H locs → lv_has ls 4 [(0, .ref (ad 11)), (1, .int x1)] → W p l e { frames := 2, cells := 0, slots := 0, locals := 47 } s m args below meth c H locs 0 0 (MQ below (QV (dC, dI) (ttys cA) (tcw ad cA) A σ') args s 0 0 A) (F0 m 2 ls [])) ∧ (∀ (σ : St) (x1 : Int32) (x2 : Int32) (x3 : Int32) (H : Heap) (locs : List Loc) (ls : Array Slot), tModel_settleNames_L n 2 σ x1 x2 x3 = some σ' → va_P (dC, dI) vwCl (tcw ad cA σ) H → va_D A (tcw ad cA σ) → va_S A s.heap H locs → lv_has ls 4 [(0, .ref (ad 11)), (1, .int x1)] → W p l e { frames := 2, cells := 0, slots := 0, locals := 47 } s m args below meth c H locs 0 0 (MQ below (QV (dC, dI) (ttys cA) (tcw ad cA) A σ') args s 0 0 A) (F0 m 25 ls [.int x2])) ∧ (∀ (σ : St) (x1 : Int32) (x2 : Int32) (x3 : Int32) (H : Heap) (locs : List Loc) (ls : Array Slot), tModel_settleNames_L n 3 σ x1 x2 x3 = some σ' → va_P (dC, dI) vwCl (tcw ad cA σ) H → va_D A (tcw ad cA σ) → va_S A s.heap H locs → lv_has ls 4 [(0, .ref (ad 11)), (1, .int x1), (2, .int x2)] → W p l e { frames := 2, cells := 0, slots := 0, locals := 47 } s m args below meth c H locs 0 0 (MQ below (QV (dC, dI) (ttys cA) (tcw ad cA) A σ') args s 0 0 A) (F0 m 51 ls [])) ∧ (∀ (σ : St) (x1 : Int32) (x2 : Int32) (x3 : Int32) (H : Heap) (locs : List Loc) (ls : Array Slot), tModel_settleNames_L n 4 σ x1 x2 x3 = some σ' → va_P (dC, dI) vwCl (tcw ad cA σ) H → va_D A (tcw ad cA σ) → va_S A s.heap H locs → lv_has ls 4 [(0, .ref (ad 11)), (1, .int x1), (2, .int x2)] → W p l e { frames := 2, cells := 0, slots := 0, locals := 47 } s m args below meth c H locs 0 0 (MQ below (QV (dC, dI) (ttys cA) (tcw ad cA) A σ') args s 0 0 A) (F0 m 74 ls [.int x3])) ∧ (∀ (σ : St) (x1 : Int32) (x2 : Int32) (x3 : Int32) (H : Heap) (locs : List Loc) (ls : Array Slot), tModel_settleNames_L n 5 σ x1 x2 x3 = some σ' → va_P (dC, dI) vwCl (tcw ad cA σ) H → va_D A (tcw ad cA σ) → va_S A s.heap H locs → lv_has ls 4 [(0, .ref (ad 11)), (1, .int x1), (3, .int x2)] → W p l e { frames := 2, cells := 0, slots := 0, locals := 47 } s m args below meth c H locs 0 0 (MQ below (QV (dC, dI) (ttys cA) (tcw ad cA) A σ') args s 0 0 A) (F0 m 108 ls [])) ∧ (∀ (σ : St) (x1 : Int32) (x2 : Int32) (x3 : Int32) (H : Heap) (locs : List Loc) (ls : Array Slot), tModel_settleNames_L n 6 σ x1 x2 x3 = some σ' → va_P (dC, dI) vwCl (tcw ad cA σ) H → va_D A (tcw ad cA σ) → va_S A s.heap H locs → lv_has ls 4 [(0, .ref (ad 11)), (1, .int x1), (3, .int x2)] → W p l e { frames := 2, cells := 0, slots := 0, locals := 47 } s m args below meth c H locs 0 0 (MQ below (QV (dC, dI) (ttys cA) (tcw ad cA) A σ') args s 0 0 A) (F0 m 118 ls [])) ∧ (∀ (σ : St) (x1 : Int32) (x2 : Int32) (x3 : Int32) (H : Heap) (locs : List Loc) (ls : Array Slot), tModel_settleNames_L n 7 σ x1 x2 x3 = some σ' → va_P (dC, dI) vwCl (tcw ad cA σ) H → va_D A (tcw ad cA σ) → va_S A s.heap H locs → lv_has ls 4 [(0, .ref (ad 11)), (1, .int x1)] → W p l e { frames := 2, cells := 0, slots := 0, locals := 47 } s m args below meth c H locs 0 0 (MQ below (QV (dC, dI) (ttys cA) (tcw ad cA) A σ') args s 0 0 A) (F0 m 125 ls [])) := by
  obtain ⟨hx, hb, hr, hml, hown, hlocks, hts, hA, hK, hZ⟩ := id X
  intro n
  induction n with
  | zero => exact ⟨(fun σ x1 x2 x3 H locs ls hF => by cases hF), (fun σ x1 x2 x3 H locs ls hF => by cases hF), (fun σ x1 x2 x3 H locs ls hF => by cases hF), (fun σ x1 x2 x3 H locs ls hF => by cases hF), (fun σ x1 x2 x3 H locs ls hF => by cases hF), (fun σ x1 x2 x3 H locs ls hF => by cases hF), (fun σ x1 x2 x3 H locs ls hF => by cases hF)⟩
  | succ n ihn =>
    refine ⟨fun σ x1 x2 x3 H locs ls hF hP hD hS hl => ?_, fun σ x1 x2 x3 H locs ls hF hP hD hS hl => ?_, fun σ x1 x2 x3 H locs ls hF hP hD hS hl => ?_, fun σ x1 x2 x3 H locs ls hF hP hD hS hl => ?_, fun σ x1 x2 x3 H locs ls hF hP hD hS hl => ?_, fun σ x1 x2 x3 H locs ls hF hP hD hS hl => ?_, fun σ x1 x2 x3 H locs ls hF hP hD hS hl => ?_⟩
    · have hF : tModel_settleNames_b1 (tModel_settleNames_L n) σ x1 x2 x3 = some σ' := hF
      unfold tModel_settleNames_b1 at hF
      refine lv_iload_n hx hb d_Model_settleNames_2 rfl (lv_at hl 1 rfl) ?_
      refine lv_aload_n hx hb d_Model_settleNames_3 rfl (lv_at hl 0 rfl) ?_
      refine va_get (D := (dC, dI)) (ci := 11) (v := .int (σ.1 34)) hx hb hts i_Model hown hK hP 11 rfl rfl 13 (by decide) (hts _ w_1bd792ecf8) (fun _ h9 => h9) rfl d_Model_settleNames_4 ?_
      refine lv_icmp_ge (tgt := 131) hx hb d_Model_settleNames_7 (by decide) (fun c_1 => ?_) (fun c_1 => ?_)
      · have hF := ifp hF c_1
        cases hF
        exact leafV X hP hD hS d_Model_settleNames_131
      · have hF := ifn hF c_1
        refine lv_aload_n hx hb d_Model_settleNames_10 rfl (lv_at hl 0 rfl) ?_
        refine va_get (D := (dC, dI)) (ci := 11) (v := .ref (ad 35)) hx hb hts i_Model hown hK hP 11 rfl rfl 14 (by decide) (hts _ w_0e6df3fb4c) (fun _ h9 => h9) rfl d_Model_settleNames_11 ?_
        refine lv_iload_n hx hb d_Model_settleNames_14 rfl (lv_at hl 1 rfl) ?_
        obtain ⟨g_2, hF⟩ := gdE hF
        refine va_iald (f := (σ.2.2.1 20)) hx hb hK hP 35 0 rfl rfl (inE g_2) d_Model_settleNames_15 ?_
        refine lv_iconst (v := 5) hx hb d_Model_settleNames_16 (by decide) ?_
        refine lv_icmp_ne (tgt := 24) hx hb d_Model_settleNames_17 (by decide) (fun c_3 => ?_) (fun c_3 => ?_)
        · have hF := ifn hF c_3
          refine lv_iconst (v := 0) hx hb d_Model_settleNames_24 (by decide) ?_
          exact ihn.2.1 σ x1 0 0 H locs ls hF hP hD hS (lv_sub hl [0, 1] rfl)
        · have hF := ifp hF c_3
          refine lv_iconst (v := 1) hx hb d_Model_settleNames_20 (by decide) ?_
          refine lv_goto (tgt := 25) hx hb d_Model_settleNames_21 (by decide) ?_
          exact ihn.2.1 σ x1 1 0 H locs ls hF hP hD hS (lv_sub hl [0, 1] rfl)
    · have hF : tModel_settleNames_b2 (tModel_settleNames_L n) σ x1 x2 x3 = some σ' := hF
      unfold tModel_settleNames_b2 at hF
      refine lv_istore_n (lv' := [(2, .int x2), (0, .ref (ad 11)), (1, .int x1)]) hx hb d_Model_settleNames_25 rfl hl (by decide) rfl (fun ls hl => ?_)
      refine lv_iload_n hx hb d_Model_settleNames_26 rfl (lv_at hl 0 rfl) ?_
      refine lv_if_ne (tgt := 51) hx hb d_Model_settleNames_27 (by decide) (fun c_4 => ?_) (fun c_4 => ?_)
      · have hF := ifn hF c_4
        exact ihn.2.2.1 σ x1 x2 0 H locs ls hF hP hD hS (lv_sub hl [1, 2, 0] rfl)
      · have hF := ifp hF c_4
        refine lv_aload_n hx hb d_Model_settleNames_30 rfl (lv_at hl 1 rfl) ?_
        refine va_get (D := (dC, dI)) (ci := 11) (v := .ref (ad 35)) hx hb hts i_Model hown hK hP 11 rfl rfl 14 (by decide) (hts _ w_0e6df3fb4c) (fun _ h9 => h9) rfl d_Model_settleNames_31 ?_
        refine lv_iload_n hx hb d_Model_settleNames_34 rfl (lv_at hl 2 rfl) ?_
        obtain ⟨g_5, hF⟩ := gdE hF
        refine va_iald (f := (σ.2.2.1 20)) hx hb hK hP 35 0 rfl rfl (inE g_5) d_Model_settleNames_35 ?_
        refine lv_iconst (v := 4) hx hb d_Model_settleNames_36 (by decide) ?_
        refine lv_icmp_eq (tgt := 51) hx hb d_Model_settleNames_37 (by decide) (fun c_6 => ?_) (fun c_6 => ?_)
        · have hF := ifp hF c_6
          exact ihn.2.2.1 σ x1 x2 0 H locs ls hF hP hD hS (lv_sub hl [1, 2, 0] rfl)
        · have hF := ifn hF c_6
          refine lv_aload_n hx hb d_Model_settleNames_40 rfl (lv_at hl 1 rfl) ?_
          refine va_get (D := (dC, dI)) (ci := 11) (v := .ref (ad 35)) hx hb hts i_Model hown hK hP 11 rfl rfl 14 (by decide) (hts _ w_0e6df3fb4c) (fun _ h9 => h9) rfl d_Model_settleNames_41 ?_
          refine lv_iload_n hx hb d_Model_settleNames_44 rfl (lv_at hl 2 rfl) ?_
          obtain ⟨g_7, hF⟩ := gdE hF
          refine va_iald (f := (σ.2.2.1 20)) hx hb hK hP 35 0 rfl rfl (inE g_7) d_Model_settleNames_45 ?_
          refine lv_bipush (v := 12) hx hb d_Model_settleNames_46 (by decide) ?_
          refine lv_icmp_ne (tgt := 125) hx hb d_Model_settleNames_48 (by decide) (fun c_8 => ?_) (fun c_8 => ?_)
          · have hF := ifn hF c_8
            exact ihn.2.2.2.2.2.2 σ x1 0 0 H locs ls hF hP hD hS (lv_sub hl [1, 2] rfl)
          · have hF := ifp hF c_8
            exact ihn.2.2.1 σ x1 x2 0 H locs ls hF hP hD hS (lv_sub hl [1, 2, 0] rfl)
    · have hF : tModel_settleNames_b3 (tModel_settleNames_L n) σ x1 x2 x3 = some σ' := hF
      unfold tModel_settleNames_b3 at hF
      refine lv_aload_n hx hb d_Model_settleNames_51 rfl (lv_at hl 0 rfl) ?_
      refine va_get (D := (dC, dI)) (ci := 11) (v := .ref (ad 39)) hx hb hts i_Model hown hK hP 11 rfl rfl 18 (by decide) (hts _ w_7d7d4091fc) (fun _ h9 => h9) rfl d_Model_settleNames_52 ?_
      refine lv_iload_n hx hb d_Model_settleNames_55 rfl (lv_at hl 1 rfl) ?_
      obtain ⟨g_9, hF⟩ := gdE hF
      refine va_iald (f := (σ.2.2.1 24)) hx hb hK hP 39 0 rfl rfl (inE g_9) d_Model_settleNames_56 ?_
      refine lv_if_lt (tgt := 64) hx hb d_Model_settleNames_57 (by decide) (fun c_10 => ?_) (fun c_10 => ?_)
      · have hF := ifp hF c_10
        refine lv_aload_n hx hb d_Model_settleNames_64 rfl (lv_at hl 0 rfl) ?_
        refine lv_aload_n hx hb d_Model_settleNames_65 rfl (lv_at hl 0 rfl) ?_
        refine va_get (D := (dC, dI)) (ci := 11) (v := .ref (ad 41)) hx hb hts i_Model hown hK hP 11 rfl rfl 20 (by decide) (hts _ w_a409c17ef6) (fun _ h9 => h9) rfl d_Model_settleNames_66 ?_
        refine lv_iload_n hx hb d_Model_settleNames_69 rfl (lv_at hl 1 rfl) ?_
        obtain ⟨g_11, hF⟩ := gdE hF
        refine va_iald (f := (σ.2.2.1 26)) hx hb hK hP 41 0 rfl rfl (inE g_11) d_Model_settleNames_70 ?_
        obtain ⟨r12, h12, hF⟩ := b1E hF
        refine callVI (As := [.int ((σ.2.2.1 26) x1.toNatClampNeg)]) X (ct_Model_global l dC dI ad cA H.size h12) lk_Model_340 ⟨rfl, rfl, by decide, by decide⟩ 11 rfl rfl hP hD hS hl.1 rfl rfl (Nat.le_of_ble_eq_true rfl) d_Model_settleNames_71 (fun H locs hP hD hS => ?_)
        exact ihn.2.2.2.1 σ x1 x2 r12 H locs ls hF hP hD hS (lv_sub hl [0, 1, 2] rfl)
      · have hF := ifn hF c_10
        refine lv_iconst (v := (-1)) hx hb d_Model_settleNames_60 (by decide) ?_
        refine lv_goto (tgt := 74) hx hb d_Model_settleNames_61 (by decide) ?_
        exact ihn.2.2.2.1 σ x1 x2 (-1) H locs ls hF hP hD hS (lv_sub hl [0, 1, 2] rfl)
    · have hF : tModel_settleNames_b4 (tModel_settleNames_L n) σ x1 x2 x3 = some σ' := hF
      unfold tModel_settleNames_b4 at hF
      refine lv_istore_n (lv' := [(3, .int x3), (0, .ref (ad 11)), (1, .int x1), (2, .int x2)]) hx hb d_Model_settleNames_74 rfl hl (by decide) rfl (fun ls hl => ?_)
      refine lv_iload_n hx hb d_Model_settleNames_75 rfl (lv_at hl 0 rfl) ?_
      refine lv_if_lt (tgt := 108) hx hb d_Model_settleNames_76 (by decide) (fun c_13 => ?_) (fun c_13 => ?_)
      · have hF := ifp hF c_13
        exact ihn.2.2.2.2.1 σ x1 x3 0 H locs ls hF hP hD hS (lv_sub hl [1, 2, 0] rfl)
      · have hF := ifn hF c_13
        refine lv_aload_n hx hb d_Model_settleNames_79 rfl (lv_at hl 1 rfl) ?_
        refine va_get (D := (dC, dI)) (ci := 11) (v := .ref (ad 43)) hx hb hts i_Model hown hK hP 11 rfl rfl 25 (by decide) (hts _ w_1c464885ec) (fun _ h9 => h9) rfl d_Model_settleNames_80 ?_
        refine lv_iload_n hx hb d_Model_settleNames_83 rfl (lv_at hl 0 rfl) ?_
        obtain ⟨g_14, hF⟩ := gdE hF
        refine va_zald (f := (σ.2.2.1 28)) hx hb hK hP 43 3 rfl rfl (inE g_14) d_Model_settleNames_84 ?_
        refine lv_iload_n hx hb d_Model_settleNames_85 rfl (lv_at hl 3 rfl) ?_
        refine lv_icmp_ne (tgt := 108) hx hb d_Model_settleNames_86 (by decide) (fun c_15 => ?_) (fun c_15 => ?_)
        · have hF := ifn hF c_15
          exact ihn.2.2.2.2.1 σ x1 x3 0 H locs ls hF hP hD hS (lv_sub hl [1, 2, 0] rfl)
        · have hF := ifp hF c_15
          refine lv_iload_n hx hb d_Model_settleNames_89 rfl (lv_at hl 3 rfl) ?_
          refine lv_if_eq (tgt := 118) hx hb d_Model_settleNames_90 (by decide) (fun c_16 => ?_) (fun c_16 => ?_)
          · have hF := ifp hF c_16
            exact ihn.2.2.2.2.2.1 σ x1 x3 0 H locs ls hF hP hD hS (lv_sub hl [1, 2, 0] rfl)
          · have hF := ifn hF c_16
            refine lv_aload_n hx hb d_Model_settleNames_93 rfl (lv_at hl 1 rfl) ?_
            refine va_get (D := (dC, dI)) (ci := 11) (v := .ref (ad 44)) hx hb hts i_Model hown hK hP 11 rfl rfl 26 (by decide) (hts _ w_3f8fbd1572) (fun _ h9 => h9) rfl d_Model_settleNames_94 ?_
            refine lv_iload_n hx hb d_Model_settleNames_97 rfl (lv_at hl 0 rfl) ?_
            obtain ⟨g_17, hF⟩ := gdE hF
            refine va_iald (f := (σ.2.2.1 29)) hx hb hK hP 44 0 rfl rfl (inE g_17) d_Model_settleNames_98 ?_
            refine lv_aload_n hx hb d_Model_settleNames_99 rfl (lv_at hl 1 rfl) ?_
            refine va_get (D := (dC, dI)) (ci := 11) (v := .ref (ad 36)) hx hb hts i_Model hown hK hP 11 rfl rfl 15 (by decide) (hts _ w_70f5434828) (fun _ h9 => h9) rfl d_Model_settleNames_100 ?_
            refine lv_iload_n hx hb d_Model_settleNames_103 rfl (lv_at hl 2 rfl) ?_
            obtain ⟨g_18, hF⟩ := gdE hF
            refine va_iald (f := (σ.2.2.1 21)) hx hb hK hP 36 0 rfl rfl (inE g_18) d_Model_settleNames_104 ?_
            refine lv_icmp_eq (tgt := 118) hx hb d_Model_settleNames_105 (by decide) (fun c_19 => ?_) (fun c_19 => ?_)
            · have hF := ifp hF c_19
              exact ihn.2.2.2.2.2.1 σ x1 x3 0 H locs ls hF hP hD hS (lv_sub hl [1, 2, 0] rfl)
            · have hF := ifn hF c_19
              exact ihn.2.2.2.2.1 σ x1 x3 0 H locs ls hF hP hD hS (lv_sub hl [1, 2, 0] rfl)
    · have hF : tModel_settleNames_b5 (tModel_settleNames_L n) σ x1 x2 x3 = some σ' := hF
      unfold tModel_settleNames_b5 at hF
      refine lv_aload_n hx hb d_Model_settleNames_108 rfl (lv_at hl 0 rfl) ?_
      refine lv_aload_n hx hb d_Model_settleNames_109 rfl (lv_at hl 0 rfl) ?_
      refine va_get (D := (dC, dI)) (ci := 11) (v := .ref (ad 41)) hx hb hts i_Model hown hK hP 11 rfl rfl 20 (by decide) (hts _ w_a409c17ef6) (fun _ h9 => h9) rfl d_Model_settleNames_110 ?_
      refine lv_iload_n hx hb d_Model_settleNames_113 rfl (lv_at hl 1 rfl) ?_
      obtain ⟨g_20, hF⟩ := gdE hF
      refine va_iald (f := (σ.2.2.1 26)) hx hb hK hP 41 0 rfl rfl (inE g_20) d_Model_settleNames_114 ?_
      obtain ⟨u21, h21, hF⟩ := b1E hF
      refine callVV (As := [.int ((σ.2.2.1 26) x1.toNatClampNeg)]) X (ct_Model_notName l dC dI ad cA H.size h21) lk_Model_249 ⟨rfl, rfl, by decide, by decide⟩ 11 rfl rfl hP hD hS hl.1 rfl rfl (Nat.le_of_ble_eq_true rfl) d_Model_settleNames_115 (fun H locs hP hD hS => ?_)
      exact ihn.2.2.2.2.2.1 u21 x1 x2 0 H locs ls hF hP hD hS (lv_sub hl [0, 1, 2] rfl)
    · have hF : tModel_settleNames_b6 (tModel_settleNames_L n) σ x1 x2 x3 = some σ' := hF
      unfold tModel_settleNames_b6 at hF
      refine lv_aload_n hx hb d_Model_settleNames_118 rfl (lv_at hl 0 rfl) ?_
      refine va_get (D := (dC, dI)) (ci := 11) (v := .ref (ad 39)) hx hb hts i_Model hown hK hP 11 rfl rfl 18 (by decide) (hts _ w_7d7d4091fc) (fun _ h9 => h9) rfl d_Model_settleNames_119 ?_
      refine lv_iload_n hx hb d_Model_settleNames_122 rfl (lv_at hl 1 rfl) ?_
      refine lv_iload_n hx hb d_Model_settleNames_123 rfl (lv_at hl 2 rfl) ?_
      obtain ⟨g_22, hF⟩ := gdE hF
      refine va_iast (f := (σ.2.2.1 24)) hx hb hK hP hD hS 39 0 rfl rfl (inE g_22) d_Model_settleNames_124 (fun H locs hP hD hS => ?_)
      have hP : va_P (dC, dI) vwCl (tcw ad cA (sA σ 24 (upd (σ.2.2.1 24) x1.toNatClampNeg x2))) H := hP
      have hD : va_D A (tcw ad cA (sA σ 24 (upd (σ.2.2.1 24) x1.toNatClampNeg x2))) := hD
      exact ihn.2.2.2.2.2.2 (sA σ 24 (upd (σ.2.2.1 24) x1.toNatClampNeg x2)) x1 0 0 H locs ls hF hP hD hS (lv_sub hl [0, 1] rfl)
    · have hF : tModel_settleNames_b7 (tModel_settleNames_L n) σ x1 x2 x3 = some σ' := hF
      unfold tModel_settleNames_b7 at hF
      refine lv_iinc (v := (x1 + 1)) (lv' := [(1, .int (x1 + 1)), (0, .ref (ad 11))]) hx hb d_Model_settleNames_125 hl (k := 1) rfl rfl (by decide) rfl (fun ls hl => ?_)
      refine lv_goto (tgt := 2) hx hb d_Model_settleNames_128 (by decide) ?_
      exact ihn.1 σ (x1 + 1) 0 0 H locs ls hF hP hD hS (lv_sub hl [1, 0] rfl)
set_option maxHeartbeats 4000000 in
set_option maxRecDepth 100000 in
theorem ct_Model_settleNames (l : Launch) (dC : Nat → ClassId) (dI : Nat → Nat → Nat) (ad : Nat → Nat) (cA : Nat → ClassId) (sz : Nat) {σ : St} {σ' : St} (hF : tModel_settleNames σ = some σ') : MV l y_Model_settleNames b_Model_settleNames 4 none { frames := 2, cells := 0, slots := 0, locals := 47 } (dC, dI) (ttys cA) ad (tcw ad cA) [.ref (ad 11)] σ sz σ' := by
  refine startM (own := "TinyForgeModel") (Qc := fun A => QV (dC, dI) (ttys cA) (tcw ad cA) A σ') rfl rfl (Nat.le_of_ble_eq_true rfl) ?_
  intro p e s m below meth c A H locs ls X hP hD hS hl
  have hl : lv_has ls 4 [(0, .ref (ad 11))] := hl
  obtain ⟨hx, hb, hr, hml, hown, hlocks, hts, hA, hK, hZ⟩ := id X
  unfold tModel_settleNames at hF
  refine lv_iconst (v := 0) hx hb d_Model_settleNames_0 (by decide) ?_
  refine lv_istore_n (lv' := [(1, .int 0), (0, .ref (ad 11))]) hx hb d_Model_settleNames_1 rfl hl (by decide) rfl (fun ls hl => ?_)
  exact (tModel_settleNames_blk l dC dI ad cA X 2000).1 σ 0 0 0 H locs ls hF hP hD hS (lv_sub hl [1, 0] rfl)
theorem d_Model_isDigit_0 : decode b_Model_isDigit 0 = .ok (.iload_n 0, 1) := by decide +kernel
theorem d_Model_isDigit_1 : decode b_Model_isDigit 1 = .ok (.bipush 48, 2) := by decide +kernel
theorem d_Model_isDigit_3 : decode b_Model_isDigit 3 = .ok (.if_icmp .lt 13, 3) := by decide +kernel
theorem d_Model_isDigit_6 : decode b_Model_isDigit 6 = .ok (.iload_n 0, 1) := by decide +kernel
theorem d_Model_isDigit_7 : decode b_Model_isDigit 7 = .ok (.bipush 57, 2) := by decide +kernel
theorem d_Model_isDigit_9 : decode b_Model_isDigit 9 = .ok (.if_icmp .gt 7, 3) := by decide +kernel
theorem d_Model_isDigit_12 : decode b_Model_isDigit 12 = .ok (.iconst 1, 1) := by decide +kernel
theorem d_Model_isDigit_13 : decode b_Model_isDigit 13 = .ok (.goto 4, 3) := by decide +kernel
theorem d_Model_isDigit_16 : decode b_Model_isDigit 16 = .ok (.iconst 0, 1) := by decide +kernel
theorem d_Model_isDigit_17 : decode b_Model_isDigit 17 = .ok (.ireturn, 1) := by decide +kernel
def tModel_isDigit (σ : St) (a1 : Int32) : Option (Int32) := if a1 < 48 then some 0 else if (57 : Int32) < a1 then some 0 else some 1
set_option maxHeartbeats 4000000 in
set_option maxRecDepth 100000 in
theorem ct_Model_isDigit (l : Launch) (dC : Nat → ClassId) (dI : Nat → Nat → Nat) (ad : Nat → Nat) (cA : Nat → ClassId) (sz : Nat) {σ : St} {a1 : Int32} {r : Int32} (hF : tModel_isDigit σ a1 = some r) : MI l y_Model_isDigit b_Model_isDigit 1 (some .boolean) { frames := 0, cells := 0, slots := 0, locals := 0 } (dC, dI) (ttys cA) ad (tcw ad cA) [.int a1] σ sz r σ := by
  refine startM (own := "TinyForgeModel") (Qc := fun A => QI (dC, dI) (ttys cA) (tcw ad cA) A r σ) rfl rfl (Nat.le_of_ble_eq_true rfl) ?_
  intro p e s m below meth c A H locs ls X hP hD hS hl
  have hl : lv_has ls 1 [(0, .int a1)] := hl
  obtain ⟨hx, hb, hr, hml, hown, hlocks, hts, hA, hK, hZ⟩ := id X
  unfold tModel_isDigit at hF
  refine lv_iload_n hx hb d_Model_isDigit_0 rfl (lv_at hl 0 rfl) ?_
  refine lv_bipush (v := 48) hx hb d_Model_isDigit_1 (by decide) ?_
  refine lv_icmp_lt (tgt := 16) hx hb d_Model_isDigit_3 (by decide) (fun c_1 => ?_) (fun c_1 => ?_)
  · have hF := ifp hF c_1
    refine lv_iconst (v := 0) hx hb d_Model_isDigit_16 (by decide) ?_
    cases hF
    exact leafZ X hP hD hS (by decide) d_Model_isDigit_17
  · have hF := ifn hF c_1
    refine lv_iload_n hx hb d_Model_isDigit_6 rfl (lv_at hl 0 rfl) ?_
    refine lv_bipush (v := 57) hx hb d_Model_isDigit_7 (by decide) ?_
    refine lv_icmp_gt (tgt := 16) hx hb d_Model_isDigit_9 (by decide) (fun c_2 => ?_) (fun c_2 => ?_)
    · have hF := ifp hF c_2
      refine lv_iconst (v := 0) hx hb d_Model_isDigit_16 (by decide) ?_
      cases hF
      exact leafZ X hP hD hS (by decide) d_Model_isDigit_17
    · have hF := ifn hF c_2
      refine lv_iconst (v := 1) hx hb d_Model_isDigit_12 (by decide) ?_
      refine lv_goto (tgt := 17) hx hb d_Model_isDigit_13 (by decide) ?_
      cases hF
      exact leafZ X hP hD hS (by decide) d_Model_isDigit_17
theorem d_Model_isLetter_0 : decode b_Model_isLetter 0 = .ok (.iload_n 0, 1) := by decide +kernel
theorem d_Model_isLetter_1 : decode b_Model_isLetter 1 = .ok (.bipush 97, 2) := by decide +kernel
theorem d_Model_isLetter_3 : decode b_Model_isLetter 3 = .ok (.if_icmp .lt 9, 3) := by decide +kernel
theorem d_Model_isLetter_6 : decode b_Model_isLetter 6 = .ok (.iload_n 0, 1) := by decide +kernel
theorem d_Model_isLetter_7 : decode b_Model_isLetter 7 = .ok (.bipush 122, 2) := by decide +kernel
theorem d_Model_isLetter_9 : decode b_Model_isLetter 9 = .ok (.if_icmp .le 15, 3) := by decide +kernel
theorem d_Model_isLetter_12 : decode b_Model_isLetter 12 = .ok (.iload_n 0, 1) := by decide +kernel
theorem d_Model_isLetter_13 : decode b_Model_isLetter 13 = .ok (.bipush 65, 2) := by decide +kernel
theorem d_Model_isLetter_15 : decode b_Model_isLetter 15 = .ok (.if_icmp .lt 13, 3) := by decide +kernel
theorem d_Model_isLetter_18 : decode b_Model_isLetter 18 = .ok (.iload_n 0, 1) := by decide +kernel
theorem d_Model_isLetter_19 : decode b_Model_isLetter 19 = .ok (.bipush 90, 2) := by decide +kernel
theorem d_Model_isLetter_21 : decode b_Model_isLetter 21 = .ok (.if_icmp .gt 7, 3) := by decide +kernel
theorem d_Model_isLetter_24 : decode b_Model_isLetter 24 = .ok (.iconst 1, 1) := by decide +kernel
theorem d_Model_isLetter_25 : decode b_Model_isLetter 25 = .ok (.goto 4, 3) := by decide +kernel
theorem d_Model_isLetter_28 : decode b_Model_isLetter 28 = .ok (.iconst 0, 1) := by decide +kernel
theorem d_Model_isLetter_29 : decode b_Model_isLetter 29 = .ok (.ireturn, 1) := by decide +kernel
def tModel_isLetter_b1 (k : Nat → St → Int32 → Option (Int32)) (σ : St) (x1 : Int32) : Option (Int32) := if x1 < 65 then some 0 else if (90 : Int32) < x1 then some 0 else some 1
def tModel_isLetter_L : Nat → Nat → St → Int32 → Option (Int32)
  | 0, _, _, _ => none
  | n + 1, lab, σ, x1 => match lab with
    | 1 => tModel_isLetter_b1 (tModel_isLetter_L n) σ x1
    | _ => none
def tModel_isLetter (σ : St) (a1 : Int32) : Option (Int32) := if a1 < 97 then tModel_isLetter_L 2000 1 σ a1 else if a1 ≤ 122 then some 1 else tModel_isLetter_L 2000 1 σ a1
set_option maxHeartbeats 4000000 in
set_option maxRecDepth 100000 in
theorem tModel_isLetter_blk {p : Program} {e : Env} {s : State} {m : MethodId} {args : Array Value} {below : List Frame} {meth : Method} {c : Code} {A : Nat → Prop} (l : Launch) (dC : Nat → ClassId) (dI : Nat → Nat → Nat) (ad : Nat → Nat) (cA : Nat → ClassId) {r : Int32} (X : Cx p s m args meth c b_Model_isLetter 1 (some .boolean) "TinyForgeModel" (dC, dI) (ttys cA) ad A) : ∀ n : Nat, (∀ (σ : St) (x1 : Int32) (H : Heap) (locs : List Loc) (ls : Array Slot), tModel_isLetter_L n 1 σ x1 = some r → va_P (dC, dI) vwCl (tcw ad cA σ) H → va_D A (tcw ad cA σ) → va_S A s.heap H locs → lv_has ls 1 [(0, .int x1)] → W p l e { frames := 0, cells := 0, slots := 0, locals := 0 } s m args below meth c H locs 0 0 (MQ below (QI (dC, dI) (ttys cA) (tcw ad cA) A r σ) args s 0 0 A) (F0 m 12 ls [])) := by
  obtain ⟨hx, hb, hr, hml, hown, hlocks, hts, hA, hK, hZ⟩ := id X
  intro n
  induction n with
  | zero => exact (fun σ x1 H locs ls hF => by cases hF)
  | succ n ihn =>
    refine fun σ x1 H locs ls hF hP hD hS hl => ?_
    · have hF : tModel_isLetter_b1 (tModel_isLetter_L n) σ x1 = some r := hF
      unfold tModel_isLetter_b1 at hF
      refine lv_iload_n hx hb d_Model_isLetter_12 rfl (lv_at hl 0 rfl) ?_
      refine lv_bipush (v := 65) hx hb d_Model_isLetter_13 (by decide) ?_
      refine lv_icmp_lt (tgt := 28) hx hb d_Model_isLetter_15 (by decide) (fun c_3 => ?_) (fun c_3 => ?_)
      · have hF := ifp hF c_3
        refine lv_iconst (v := 0) hx hb d_Model_isLetter_28 (by decide) ?_
        cases hF
        exact leafZ X hP hD hS (by decide) d_Model_isLetter_29
      · have hF := ifn hF c_3
        refine lv_iload_n hx hb d_Model_isLetter_18 rfl (lv_at hl 0 rfl) ?_
        refine lv_bipush (v := 90) hx hb d_Model_isLetter_19 (by decide) ?_
        refine lv_icmp_gt (tgt := 28) hx hb d_Model_isLetter_21 (by decide) (fun c_4 => ?_) (fun c_4 => ?_)
        · have hF := ifp hF c_4
          refine lv_iconst (v := 0) hx hb d_Model_isLetter_28 (by decide) ?_
          cases hF
          exact leafZ X hP hD hS (by decide) d_Model_isLetter_29
        · have hF := ifn hF c_4
          refine lv_iconst (v := 1) hx hb d_Model_isLetter_24 (by decide) ?_
          refine lv_goto (tgt := 29) hx hb d_Model_isLetter_25 (by decide) ?_
          cases hF
          exact leafZ X hP hD hS (by decide) d_Model_isLetter_29
set_option maxHeartbeats 4000000 in
set_option maxRecDepth 100000 in
theorem ct_Model_isLetter (l : Launch) (dC : Nat → ClassId) (dI : Nat → Nat → Nat) (ad : Nat → Nat) (cA : Nat → ClassId) (sz : Nat) {σ : St} {a1 : Int32} {r : Int32} (hF : tModel_isLetter σ a1 = some r) : MI l y_Model_isLetter b_Model_isLetter 1 (some .boolean) { frames := 0, cells := 0, slots := 0, locals := 0 } (dC, dI) (ttys cA) ad (tcw ad cA) [.int a1] σ sz r σ := by
  refine startM (own := "TinyForgeModel") (Qc := fun A => QI (dC, dI) (ttys cA) (tcw ad cA) A r σ) rfl rfl (Nat.le_of_ble_eq_true rfl) ?_
  intro p e s m below meth c A H locs ls X hP hD hS hl
  have hl : lv_has ls 1 [(0, .int a1)] := hl
  obtain ⟨hx, hb, hr, hml, hown, hlocks, hts, hA, hK, hZ⟩ := id X
  unfold tModel_isLetter at hF
  refine lv_iload_n hx hb d_Model_isLetter_0 rfl (lv_at hl 0 rfl) ?_
  refine lv_bipush (v := 97) hx hb d_Model_isLetter_1 (by decide) ?_
  refine lv_icmp_lt (tgt := 12) hx hb d_Model_isLetter_3 (by decide) (fun c_1 => ?_) (fun c_1 => ?_)
  · have hF := ifp hF c_1
    exact (tModel_isLetter_blk l dC dI ad cA X 2000) σ a1 H locs ls hF hP hD hS (lv_sub hl [0] rfl)
  · have hF := ifn hF c_1
    refine lv_iload_n hx hb d_Model_isLetter_6 rfl (lv_at hl 0 rfl) ?_
    refine lv_bipush (v := 122) hx hb d_Model_isLetter_7 (by decide) ?_
    refine lv_icmp_le (tgt := 24) hx hb d_Model_isLetter_9 (by decide) (fun c_2 => ?_) (fun c_2 => ?_)
    · have hF := ifp hF c_2
      refine lv_iconst (v := 1) hx hb d_Model_isLetter_24 (by decide) ?_
      refine lv_goto (tgt := 29) hx hb d_Model_isLetter_25 (by decide) ?_
      cases hF
      exact leafZ X hP hD hS (by decide) d_Model_isLetter_29
    · have hF := ifn hF c_2
      exact (tModel_isLetter_blk l dC dI ad cA X 2000) σ a1 H locs ls hF hP hD hS (lv_sub hl [0] rfl)
theorem d_Model_isWordToken_0 : decode b_Model_isWordToken 0 = .ok (.aload_n 0, 1) := by decide +kernel
theorem d_Model_isWordToken_1 : decode b_Model_isWordToken 1 = .ok (.iload_n 1, 1) := by decide +kernel
theorem d_Model_isWordToken_2 : decode b_Model_isWordToken 2 = .ok (.ldc2_w 166, 3) := by decide +kernel
theorem d_Model_isWordToken_5 : decode b_Model_isWordToken 5 = .ok (.invokevirtual 168, 3) := by decide +kernel
theorem d_Model_isWordToken_8 : decode b_Model_isWordToken 8 = .ok (.ifCond .ne 69, 3) := by decide +kernel
theorem d_Model_isWordToken_11 : decode b_Model_isWordToken 11 = .ok (.aload_n 0, 1) := by decide +kernel
theorem d_Model_isWordToken_12 : decode b_Model_isWordToken 12 = .ok (.iload_n 1, 1) := by decide +kernel
theorem d_Model_isWordToken_13 : decode b_Model_isWordToken 13 = .ok (.ldc2_w 172, 3) := by decide +kernel
theorem d_Model_isWordToken_16 : decode b_Model_isWordToken 16 = .ok (.invokevirtual 168, 3) := by decide +kernel
theorem d_Model_isWordToken_19 : decode b_Model_isWordToken 19 = .ok (.ifCond .ne 58, 3) := by decide +kernel
theorem d_Model_isWordToken_22 : decode b_Model_isWordToken 22 = .ok (.aload_n 0, 1) := by decide +kernel
theorem d_Model_isWordToken_23 : decode b_Model_isWordToken 23 = .ok (.iload_n 1, 1) := by decide +kernel
theorem d_Model_isWordToken_24 : decode b_Model_isWordToken 24 = .ok (.ldc2_w 174, 3) := by decide +kernel
theorem d_Model_isWordToken_27 : decode b_Model_isWordToken 27 = .ok (.invokevirtual 168, 3) := by decide +kernel
theorem d_Model_isWordToken_30 : decode b_Model_isWordToken 30 = .ok (.ifCond .ne 47, 3) := by decide +kernel
theorem d_Model_isWordToken_33 : decode b_Model_isWordToken 33 = .ok (.aload_n 0, 1) := by decide +kernel
theorem d_Model_isWordToken_34 : decode b_Model_isWordToken 34 = .ok (.iload_n 1, 1) := by decide +kernel
theorem d_Model_isWordToken_35 : decode b_Model_isWordToken 35 = .ok (.ldc2_w 176, 3) := by decide +kernel
theorem d_Model_isWordToken_38 : decode b_Model_isWordToken 38 = .ok (.invokevirtual 168, 3) := by decide +kernel
theorem d_Model_isWordToken_41 : decode b_Model_isWordToken 41 = .ok (.ifCond .ne 36, 3) := by decide +kernel
theorem d_Model_isWordToken_44 : decode b_Model_isWordToken 44 = .ok (.aload_n 0, 1) := by decide +kernel
theorem d_Model_isWordToken_45 : decode b_Model_isWordToken 45 = .ok (.iload_n 1, 1) := by decide +kernel
theorem d_Model_isWordToken_46 : decode b_Model_isWordToken 46 = .ok (.ldc2_w 178, 3) := by decide +kernel
theorem d_Model_isWordToken_49 : decode b_Model_isWordToken 49 = .ok (.invokevirtual 168, 3) := by decide +kernel
theorem d_Model_isWordToken_52 : decode b_Model_isWordToken 52 = .ok (.ifCond .ne 25, 3) := by decide +kernel
theorem d_Model_isWordToken_55 : decode b_Model_isWordToken 55 = .ok (.aload_n 0, 1) := by decide +kernel
theorem d_Model_isWordToken_56 : decode b_Model_isWordToken 56 = .ok (.iload_n 1, 1) := by decide +kernel
theorem d_Model_isWordToken_57 : decode b_Model_isWordToken 57 = .ok (.ldc2_w 180, 3) := by decide +kernel
theorem d_Model_isWordToken_60 : decode b_Model_isWordToken 60 = .ok (.invokevirtual 168, 3) := by decide +kernel
theorem d_Model_isWordToken_63 : decode b_Model_isWordToken 63 = .ok (.ifCond .ne 14, 3) := by decide +kernel
theorem d_Model_isWordToken_66 : decode b_Model_isWordToken 66 = .ok (.aload_n 0, 1) := by decide +kernel
theorem d_Model_isWordToken_67 : decode b_Model_isWordToken 67 = .ok (.iload_n 1, 1) := by decide +kernel
theorem d_Model_isWordToken_68 : decode b_Model_isWordToken 68 = .ok (.ldc2_w 182, 3) := by decide +kernel
theorem d_Model_isWordToken_71 : decode b_Model_isWordToken 71 = .ok (.invokevirtual 168, 3) := by decide +kernel
theorem d_Model_isWordToken_74 : decode b_Model_isWordToken 74 = .ok (.ifCond .eq 7, 3) := by decide +kernel
theorem d_Model_isWordToken_77 : decode b_Model_isWordToken 77 = .ok (.iconst 1, 1) := by decide +kernel
theorem d_Model_isWordToken_78 : decode b_Model_isWordToken 78 = .ok (.goto 4, 3) := by decide +kernel
theorem d_Model_isWordToken_81 : decode b_Model_isWordToken 81 = .ok (.iconst 0, 1) := by decide +kernel
theorem d_Model_isWordToken_82 : decode b_Model_isWordToken 82 = .ok (.ireturn, 1) := by decide +kernel
def tModel_isWordToken (σ : St) (a1 : Int32) : Option (Int32) := b1 (tModel_is σ a1 7630441) (fun r1 => if r1 = 0 then b1 (tModel_is σ a1 26217) (fun r3 => if r3 = 0 then b1 (tModel_is σ a1 1702063205) (fun r5 => if r5 = 0 then b1 (tModel_is σ a1 435610544247) (fun r7 => if r7 = 0 then b1 (tModel_is σ a1 121437875889522) (fun r9 => if r9 = 0 then b1 (tModel_is σ a1 1684104562) (fun r11 => if r11 = 0 then b1 (tModel_is σ a1 500068610672) (fun r13 => if r13 = 0 then some 0 else some 1) else some 1) else some 1) else some 1) else some 1) else some 1) else some 1)
set_option maxHeartbeats 4000000 in
set_option maxRecDepth 100000 in
theorem ct_Model_isWordToken (l : Launch) (dC : Nat → ClassId) (dI : Nat → Nat → Nat) (ad : Nat → Nat) (cA : Nat → ClassId) (sz : Nat) {σ : St} {a1 : Int32} {r : Int32} (hF : tModel_isWordToken σ a1 = some r) : MI l y_Model_isWordToken b_Model_isWordToken 2 (some .boolean) { frames := 1, cells := 0, slots := 0, locals := 26 } (dC, dI) (ttys cA) ad (tcw ad cA) [.ref (ad 11), .int a1] σ sz r σ := by
  refine startM (own := "TinyForgeModel") (Qc := fun A => QI (dC, dI) (ttys cA) (tcw ad cA) A r σ) rfl rfl (Nat.le_of_ble_eq_true rfl) ?_
  intro p e s m below meth c A H locs ls X hP hD hS hl
  have hl : lv_has ls 2 [(0, .ref (ad 11)), (1, .int a1)] := hl
  obtain ⟨hx, hb, hr, hml, hown, hlocks, hts, hA, hK, hZ⟩ := id X
  unfold tModel_isWordToken at hF
  refine lv_aload_n hx hb d_Model_isWordToken_0 rfl (lv_at hl 0 rfl) ?_
  refine lv_iload_n hx hb d_Model_isWordToken_1 rfl (lv_at hl 1 rfl) ?_
  refine lv_ldc2 (v := 7630441) hx hb hown (hts _ w_97d8ebda3c) d_Model_isWordToken_2 ?_
  obtain ⟨r1, h1, hF⟩ := b1E hF
  refine callVI (As := [.int a1, .long 7630441]) X (ct_Model_is l dC dI ad cA H.size h1) lk_Model_168 ⟨rfl, rfl, by decide, by decide⟩ 11 rfl rfl hP hD hS hl.1 rfl rfl (Nat.le_of_ble_eq_true rfl) d_Model_isWordToken_5 (fun H locs hP hD hS => ?_)
  refine lv_if_ne (tgt := 77) hx hb d_Model_isWordToken_8 (by decide) (fun c_2 => ?_) (fun c_2 => ?_)
  · have hF := ifn hF c_2
    refine lv_iconst (v := 1) hx hb d_Model_isWordToken_77 (by decide) ?_
    refine lv_goto (tgt := 82) hx hb d_Model_isWordToken_78 (by decide) ?_
    cases hF
    exact leafZ X hP hD hS (by decide) d_Model_isWordToken_82
  · have hF := ifp hF c_2
    refine lv_aload_n hx hb d_Model_isWordToken_11 rfl (lv_at hl 0 rfl) ?_
    refine lv_iload_n hx hb d_Model_isWordToken_12 rfl (lv_at hl 1 rfl) ?_
    refine lv_ldc2 (v := 26217) hx hb hown (hts _ w_6d84aaa1b1) d_Model_isWordToken_13 ?_
    obtain ⟨r3, h3, hF⟩ := b1E hF
    refine callVI (As := [.int a1, .long 26217]) X (ct_Model_is l dC dI ad cA H.size h3) lk_Model_168 ⟨rfl, rfl, by decide, by decide⟩ 11 rfl rfl hP hD hS hl.1 rfl rfl (Nat.le_of_ble_eq_true rfl) d_Model_isWordToken_16 (fun H locs hP hD hS => ?_)
    refine lv_if_ne (tgt := 77) hx hb d_Model_isWordToken_19 (by decide) (fun c_4 => ?_) (fun c_4 => ?_)
    · have hF := ifn hF c_4
      refine lv_iconst (v := 1) hx hb d_Model_isWordToken_77 (by decide) ?_
      refine lv_goto (tgt := 82) hx hb d_Model_isWordToken_78 (by decide) ?_
      cases hF
      exact leafZ X hP hD hS (by decide) d_Model_isWordToken_82
    · have hF := ifp hF c_4
      refine lv_aload_n hx hb d_Model_isWordToken_22 rfl (lv_at hl 0 rfl) ?_
      refine lv_iload_n hx hb d_Model_isWordToken_23 rfl (lv_at hl 1 rfl) ?_
      refine lv_ldc2 (v := 1702063205) hx hb hown (hts _ w_9b3bb4e9f4) d_Model_isWordToken_24 ?_
      obtain ⟨r5, h5, hF⟩ := b1E hF
      refine callVI (As := [.int a1, .long 1702063205]) X (ct_Model_is l dC dI ad cA H.size h5) lk_Model_168 ⟨rfl, rfl, by decide, by decide⟩ 11 rfl rfl hP hD hS hl.1 rfl rfl (Nat.le_of_ble_eq_true rfl) d_Model_isWordToken_27 (fun H locs hP hD hS => ?_)
      refine lv_if_ne (tgt := 77) hx hb d_Model_isWordToken_30 (by decide) (fun c_6 => ?_) (fun c_6 => ?_)
      · have hF := ifn hF c_6
        refine lv_iconst (v := 1) hx hb d_Model_isWordToken_77 (by decide) ?_
        refine lv_goto (tgt := 82) hx hb d_Model_isWordToken_78 (by decide) ?_
        cases hF
        exact leafZ X hP hD hS (by decide) d_Model_isWordToken_82
      · have hF := ifp hF c_6
        refine lv_aload_n hx hb d_Model_isWordToken_33 rfl (lv_at hl 0 rfl) ?_
        refine lv_iload_n hx hb d_Model_isWordToken_34 rfl (lv_at hl 1 rfl) ?_
        refine lv_ldc2 (v := 435610544247) hx hb hown (hts _ w_cd1043e3c0) d_Model_isWordToken_35 ?_
        obtain ⟨r7, h7, hF⟩ := b1E hF
        refine callVI (As := [.int a1, .long 435610544247]) X (ct_Model_is l dC dI ad cA H.size h7) lk_Model_168 ⟨rfl, rfl, by decide, by decide⟩ 11 rfl rfl hP hD hS hl.1 rfl rfl (Nat.le_of_ble_eq_true rfl) d_Model_isWordToken_38 (fun H locs hP hD hS => ?_)
        refine lv_if_ne (tgt := 77) hx hb d_Model_isWordToken_41 (by decide) (fun c_8 => ?_) (fun c_8 => ?_)
        · have hF := ifn hF c_8
          refine lv_iconst (v := 1) hx hb d_Model_isWordToken_77 (by decide) ?_
          refine lv_goto (tgt := 82) hx hb d_Model_isWordToken_78 (by decide) ?_
          cases hF
          exact leafZ X hP hD hS (by decide) d_Model_isWordToken_82
        · have hF := ifp hF c_8
          refine lv_aload_n hx hb d_Model_isWordToken_44 rfl (lv_at hl 0 rfl) ?_
          refine lv_iload_n hx hb d_Model_isWordToken_45 rfl (lv_at hl 1 rfl) ?_
          refine lv_ldc2 (v := 121437875889522) hx hb hown (hts _ w_33f9ca17d2) d_Model_isWordToken_46 ?_
          obtain ⟨r9, h9, hF⟩ := b1E hF
          refine callVI (As := [.int a1, .long 121437875889522]) X (ct_Model_is l dC dI ad cA H.size h9) lk_Model_168 ⟨rfl, rfl, by decide, by decide⟩ 11 rfl rfl hP hD hS hl.1 rfl rfl (Nat.le_of_ble_eq_true rfl) d_Model_isWordToken_49 (fun H locs hP hD hS => ?_)
          refine lv_if_ne (tgt := 77) hx hb d_Model_isWordToken_52 (by decide) (fun c_10 => ?_) (fun c_10 => ?_)
          · have hF := ifn hF c_10
            refine lv_iconst (v := 1) hx hb d_Model_isWordToken_77 (by decide) ?_
            refine lv_goto (tgt := 82) hx hb d_Model_isWordToken_78 (by decide) ?_
            cases hF
            exact leafZ X hP hD hS (by decide) d_Model_isWordToken_82
          · have hF := ifp hF c_10
            refine lv_aload_n hx hb d_Model_isWordToken_55 rfl (lv_at hl 0 rfl) ?_
            refine lv_iload_n hx hb d_Model_isWordToken_56 rfl (lv_at hl 1 rfl) ?_
            refine lv_ldc2 (v := 1684104562) hx hb hown (hts _ w_756dd9a57a) d_Model_isWordToken_57 ?_
            obtain ⟨r11, h11, hF⟩ := b1E hF
            refine callVI (As := [.int a1, .long 1684104562]) X (ct_Model_is l dC dI ad cA H.size h11) lk_Model_168 ⟨rfl, rfl, by decide, by decide⟩ 11 rfl rfl hP hD hS hl.1 rfl rfl (Nat.le_of_ble_eq_true rfl) d_Model_isWordToken_60 (fun H locs hP hD hS => ?_)
            refine lv_if_ne (tgt := 77) hx hb d_Model_isWordToken_63 (by decide) (fun c_12 => ?_) (fun c_12 => ?_)
            · have hF := ifn hF c_12
              refine lv_iconst (v := 1) hx hb d_Model_isWordToken_77 (by decide) ?_
              refine lv_goto (tgt := 82) hx hb d_Model_isWordToken_78 (by decide) ?_
              cases hF
              exact leafZ X hP hD hS (by decide) d_Model_isWordToken_82
            · have hF := ifp hF c_12
              refine lv_aload_n hx hb d_Model_isWordToken_66 rfl (lv_at hl 0 rfl) ?_
              refine lv_iload_n hx hb d_Model_isWordToken_67 rfl (lv_at hl 1 rfl) ?_
              refine lv_ldc2 (v := 500068610672) hx hb hown (hts _ w_7f6202ed2b) d_Model_isWordToken_68 ?_
              obtain ⟨r13, h13, hF⟩ := b1E hF
              refine callVI (As := [.int a1, .long 500068610672]) X (ct_Model_is l dC dI ad cA H.size h13) lk_Model_168 ⟨rfl, rfl, by decide, by decide⟩ 11 rfl rfl hP hD hS hl.1 rfl rfl (Nat.le_of_ble_eq_true rfl) d_Model_isWordToken_71 (fun H locs hP hD hS => ?_)
              refine lv_if_eq (tgt := 81) hx hb d_Model_isWordToken_74 (by decide) (fun c_14 => ?_) (fun c_14 => ?_)
              · have hF := ifp hF c_14
                refine lv_iconst (v := 0) hx hb d_Model_isWordToken_81 (by decide) ?_
                cases hF
                exact leafZ X hP hD hS (by decide) d_Model_isWordToken_82
              · have hF := ifn hF c_14
                refine lv_iconst (v := 1) hx hb d_Model_isWordToken_77 (by decide) ?_
                refine lv_goto (tgt := 82) hx hb d_Model_isWordToken_78 (by decide) ?_
                cases hF
                exact leafZ X hP hD hS (by decide) d_Model_isWordToken_82
theorem d_Model_nameAt_0 : decode b_Model_nameAt 0 = .ok (.iload_n 1, 1) := by decide +kernel
theorem d_Model_nameAt_1 : decode b_Model_nameAt 1 = .ok (.istore_n 2, 1) := by decide +kernel
theorem d_Model_nameAt_2 : decode b_Model_nameAt 2 = .ok (.aload_n 0, 1) := by decide +kernel
theorem d_Model_nameAt_3 : decode b_Model_nameAt 3 = .ok (.iload_n 2, 1) := by decide +kernel
theorem d_Model_nameAt_4 : decode b_Model_nameAt 4 = .ok (.invokevirtual 124, 3) := by decide +kernel
theorem d_Model_nameAt_7 : decode b_Model_nameAt 7 = .ok (.invokestatic 134, 3) := by decide +kernel
theorem d_Model_nameAt_10 : decode b_Model_nameAt 10 = .ok (.ifCond .ne 14, 3) := by decide +kernel
theorem d_Model_nameAt_13 : decode b_Model_nameAt 13 = .ok (.aload_n 0, 1) := by decide +kernel
theorem d_Model_nameAt_14 : decode b_Model_nameAt 14 = .ok (.iload_n 2, 1) := by decide +kernel
theorem d_Model_nameAt_15 : decode b_Model_nameAt 15 = .ok (.invokevirtual 124, 3) := by decide +kernel
theorem d_Model_nameAt_18 : decode b_Model_nameAt 18 = .ok (.invokestatic 137, 3) := by decide +kernel
theorem d_Model_nameAt_21 : decode b_Model_nameAt 21 = .ok (.ifCond .eq 9, 3) := by decide +kernel
theorem d_Model_nameAt_24 : decode b_Model_nameAt 24 = .ok (.iinc 2 1, 3) := by decide +kernel
theorem d_Model_nameAt_27 : decode b_Model_nameAt 27 = .ok (.goto (-25), 3) := by decide +kernel
theorem d_Model_nameAt_30 : decode b_Model_nameAt 30 = .ok (.iload_n 2, 1) := by decide +kernel
theorem d_Model_nameAt_31 : decode b_Model_nameAt 31 = .ok (.iload_n 1, 1) := by decide +kernel
theorem d_Model_nameAt_32 : decode b_Model_nameAt 32 = .ok (.isub, 1) := by decide +kernel
theorem d_Model_nameAt_33 : decode b_Model_nameAt 33 = .ok (.bipush 8, 2) := by decide +kernel
theorem d_Model_nameAt_35 : decode b_Model_nameAt 35 = .ok (.if_icmp .le 9, 3) := by decide +kernel
theorem d_Model_nameAt_38 : decode b_Model_nameAt 38 = .ok (.aload_n 0, 1) := by decide +kernel
theorem d_Model_nameAt_39 : decode b_Model_nameAt 39 = .ok (.iconst 1, 1) := by decide +kernel
theorem d_Model_nameAt_40 : decode b_Model_nameAt 40 = .ok (.iload_n 1, 1) := by decide +kernel
theorem d_Model_nameAt_41 : decode b_Model_nameAt 41 = .ok (.invokevirtual 140, 3) := by decide +kernel
theorem d_Model_nameAt_44 : decode b_Model_nameAt 44 = .ok (.aload_n 0, 1) := by decide +kernel
theorem d_Model_nameAt_45 : decode b_Model_nameAt 45 = .ok (.iconst 1, 1) := by decide +kernel
theorem d_Model_nameAt_46 : decode b_Model_nameAt 46 = .ok (.iload_n 1, 1) := by decide +kernel
theorem d_Model_nameAt_47 : decode b_Model_nameAt 47 = .ok (.iload_n 2, 1) := by decide +kernel
theorem d_Model_nameAt_48 : decode b_Model_nameAt 48 = .ok (.iload_n 1, 1) := by decide +kernel
theorem d_Model_nameAt_49 : decode b_Model_nameAt 49 = .ok (.isub, 1) := by decide +kernel
theorem d_Model_nameAt_50 : decode b_Model_nameAt 50 = .ok (.iconst 0, 1) := by decide +kernel
theorem d_Model_nameAt_51 : decode b_Model_nameAt 51 = .ok (.invokevirtual 144, 3) := by decide +kernel
theorem d_Model_nameAt_54 : decode b_Model_nameAt 54 = .ok (.aload_n 0, 1) := by decide +kernel
theorem d_Model_nameAt_55 : decode b_Model_nameAt 55 = .ok (.aload_n 0, 1) := by decide +kernel
theorem d_Model_nameAt_56 : decode b_Model_nameAt 56 = .ok (.getfield 131, 3) := by decide +kernel
theorem d_Model_nameAt_59 : decode b_Model_nameAt 59 = .ok (.iconst 1, 1) := by decide +kernel
theorem d_Model_nameAt_60 : decode b_Model_nameAt 60 = .ok (.isub, 1) := by decide +kernel
theorem d_Model_nameAt_61 : decode b_Model_nameAt 61 = .ok (.invokevirtual 148, 3) := by decide +kernel
theorem d_Model_nameAt_64 : decode b_Model_nameAt 64 = .ok (.ifCond .eq 15, 3) := by decide +kernel
theorem d_Model_nameAt_67 : decode b_Model_nameAt 67 = .ok (.aload_n 0, 1) := by decide +kernel
theorem d_Model_nameAt_68 : decode b_Model_nameAt 68 = .ok (.getfield 17, 3) := by decide +kernel
theorem d_Model_nameAt_71 : decode b_Model_nameAt 71 = .ok (.aload_n 0, 1) := by decide +kernel
theorem d_Model_nameAt_72 : decode b_Model_nameAt 72 = .ok (.getfield 131, 3) := by decide +kernel
theorem d_Model_nameAt_75 : decode b_Model_nameAt 75 = .ok (.iconst 1, 1) := by decide +kernel
theorem d_Model_nameAt_76 : decode b_Model_nameAt 76 = .ok (.isub, 1) := by decide +kernel
theorem d_Model_nameAt_77 : decode b_Model_nameAt 77 = .ok (.iconst 4, 1) := by decide +kernel
theorem d_Model_nameAt_78 : decode b_Model_nameAt 78 = .ok (.iastore, 1) := by decide +kernel
theorem d_Model_nameAt_79 : decode b_Model_nameAt 79 = .ok (.iload_n 2, 1) := by decide +kernel
theorem d_Model_nameAt_80 : decode b_Model_nameAt 80 = .ok (.ireturn, 1) := by decide +kernel
def tModel_nameAt_b1 (k : Nat → St → Int32 → Int32 → Option (Int32 × St)) (σ : St) (x1 : Int32) (x2 : Int32) : Option (Int32 × St) := b1 (tModel_sign σ x2) (fun r1 => b1 (tModel_isLetter σ r1) (fun r2 => if r2 = 0 then b1 (tModel_sign σ x2) (fun r4 => b1 (tModel_isDigit σ r4) (fun r5 => if r5 = 0 then if (x2 - x1) ≤ 8 then k 3 σ x1 x2 else b1 (tModel_blame σ 1 x1) (fun u8 => k 3 u8 x1 x2) else k 2 σ x1 x2)) else k 2 σ x1 x2))
def tModel_nameAt_b2 (k : Nat → St → Int32 → Int32 → Option (Int32 × St)) (σ : St) (x1 : Int32) (x2 : Int32) : Option (Int32 × St) := k 1 σ x1 (x2 + 1)
def tModel_nameAt_b3 (k : Nat → St → Int32 → Int32 → Option (Int32 × St)) (σ : St) (x1 : Int32) (x2 : Int32) : Option (Int32 × St) := b1 (tModel_addToken σ 1 x1 (x2 - x1) 0) (fun u9 => b1 (tModel_isWordToken u9 ((u9.1 28) - 1)) (fun r10 => if r10 = 0 then some (x2, u9) else gd (inB ((u9.1 28) - 1) 500) (some (x2, (sA u9 16 (upd (u9.2.2.1 16) ((u9.1 28) - 1).toNatClampNeg 4))))))
def tModel_nameAt_L : Nat → Nat → St → Int32 → Int32 → Option (Int32 × St)
  | 0, _, _, _, _ => none
  | n + 1, lab, σ, x1, x2 => match lab with
    | 1 => tModel_nameAt_b1 (tModel_nameAt_L n) σ x1 x2
    | 2 => tModel_nameAt_b2 (tModel_nameAt_L n) σ x1 x2
    | 3 => tModel_nameAt_b3 (tModel_nameAt_L n) σ x1 x2
    | _ => none
def tModel_nameAt (σ : St) (a1 : Int32) : Option (Int32 × St) := tModel_nameAt_L 2000 1 σ a1 a1
set_option maxHeartbeats 4000000 in
set_option maxRecDepth 100000 in
theorem tModel_nameAt_blk {p : Program} {e : Env} {s : State} {m : MethodId} {args : Array Value} {below : List Frame} {meth : Method} {c : Code} {A : Nat → Prop} (l : Launch) (dC : Nat → ClassId) (dI : Nat → Nat → Nat) (ad : Nat → Nat) (cA : Nat → ClassId) {r : Int32} {σ' : St} (X : Cx p s m args meth c b_Model_nameAt 3 (some .int) "TinyForgeModel" (dC, dI) (ttys cA) ad A) : ∀ n : Nat, (∀ (σ : St) (x1 : Int32) (x2 : Int32) (H : Heap) (locs : List Loc) (ls : Array Slot), tModel_nameAt_L n 1 σ x1 x2 = some (r, σ') → va_P (dC, dI) vwCl (tcw ad cA σ) H → va_D A (tcw ad cA σ) → va_S A s.heap H locs → lv_has ls 3 [(0, .ref (ad 11)), (1, .int x1), (2, .int x2)] → W p l e { frames := 2, cells := 0, slots := 0, locals := 47 } s m args below meth c H locs 0 0 (MQ below (QI (dC, dI) (ttys cA) (tcw ad cA) A r σ') args s 0 0 A) (F0 m 2 ls [])) ∧ (∀ (σ : St) (x1 : Int32) (x2 : Int32) (H : Heap) (locs : List Loc) (ls : Array Slot), tModel_nameAt_L n 2 σ x1 x2 = some (r, σ') → va_P (dC, dI) vwCl (tcw ad cA σ) H → va_D A (tcw ad cA σ) → va_S A s.heap H locs → lv_has ls 3 [(0, .ref (ad 11)), (1, .int x1), (2, .int x2)] → W p l e { frames := 2, cells := 0, slots := 0, locals := 47 } s m args below meth c H locs 0 0 (MQ below (QI (dC, dI) (ttys cA) (tcw ad cA) A r σ') args s 0 0 A) (F0 m 24 ls [])) ∧ (∀ (σ : St) (x1 : Int32) (x2 : Int32) (H : Heap) (locs : List Loc) (ls : Array Slot), tModel_nameAt_L n 3 σ x1 x2 = some (r, σ') → va_P (dC, dI) vwCl (tcw ad cA σ) H → va_D A (tcw ad cA σ) → va_S A s.heap H locs → lv_has ls 3 [(0, .ref (ad 11)), (1, .int x1), (2, .int x2)] → W p l e { frames := 2, cells := 0, slots := 0, locals := 47 } s m args below meth c H locs 0 0 (MQ below (QI (dC, dI) (ttys cA) (tcw ad cA) A r σ') args s 0 0 A) (F0 m 44 ls [])) := by
  obtain ⟨hx, hb, hr, hml, hown, hlocks, hts, hA, hK, hZ⟩ := id X
  intro n
  induction n with
  | zero => exact ⟨(fun σ x1 x2 H locs ls hF => by cases hF), (fun σ x1 x2 H locs ls hF => by cases hF), (fun σ x1 x2 H locs ls hF => by cases hF)⟩
  | succ n ihn =>
    refine ⟨fun σ x1 x2 H locs ls hF hP hD hS hl => ?_, fun σ x1 x2 H locs ls hF hP hD hS hl => ?_, fun σ x1 x2 H locs ls hF hP hD hS hl => ?_⟩
    · have hF : tModel_nameAt_b1 (tModel_nameAt_L n) σ x1 x2 = some (r, σ') := hF
      unfold tModel_nameAt_b1 at hF
      refine lv_aload_n hx hb d_Model_nameAt_2 rfl (lv_at hl 0 rfl) ?_
      refine lv_iload_n hx hb d_Model_nameAt_3 rfl (lv_at hl 2 rfl) ?_
      obtain ⟨r1, h1, hF⟩ := b1E hF
      refine callVI (As := [.int x2]) X (ct_Model_sign l dC dI ad cA H.size h1) lk_Model_124 ⟨rfl, rfl, by decide, by decide⟩ 11 rfl rfl hP hD hS hl.1 rfl rfl (Nat.le_of_ble_eq_true rfl) d_Model_nameAt_4 (fun H locs hP hD hS => ?_)
      obtain ⟨r2, h2, hF⟩ := b1E hF
      refine callSI (As := [.int r1]) X (ct_Model_isLetter l dC dI ad cA H.size h2) lk_Model_134 ⟨rfl, rfl, by decide, by decide⟩ hP hD hS hl.1 rfl rfl (Nat.le_of_ble_eq_true rfl) d_Model_nameAt_7 (fun H locs hP hD hS => ?_)
      refine lv_if_ne (tgt := 24) hx hb d_Model_nameAt_10 (by decide) (fun c_3 => ?_) (fun c_3 => ?_)
      · have hF := ifn hF c_3
        exact ihn.2.1 σ x1 x2 H locs ls hF hP hD hS (lv_sub hl [0, 1, 2] rfl)
      · have hF := ifp hF c_3
        refine lv_aload_n hx hb d_Model_nameAt_13 rfl (lv_at hl 0 rfl) ?_
        refine lv_iload_n hx hb d_Model_nameAt_14 rfl (lv_at hl 2 rfl) ?_
        obtain ⟨r4, h4, hF⟩ := b1E hF
        refine callVI (As := [.int x2]) X (ct_Model_sign l dC dI ad cA H.size h4) lk_Model_124 ⟨rfl, rfl, by decide, by decide⟩ 11 rfl rfl hP hD hS hl.1 rfl rfl (Nat.le_of_ble_eq_true rfl) d_Model_nameAt_15 (fun H locs hP hD hS => ?_)
        obtain ⟨r5, h5, hF⟩ := b1E hF
        refine callSI (As := [.int r4]) X (ct_Model_isDigit l dC dI ad cA H.size h5) lk_Model_137 ⟨rfl, rfl, by decide, by decide⟩ hP hD hS hl.1 rfl rfl (Nat.le_of_ble_eq_true rfl) d_Model_nameAt_18 (fun H locs hP hD hS => ?_)
        refine lv_if_eq (tgt := 30) hx hb d_Model_nameAt_21 (by decide) (fun c_6 => ?_) (fun c_6 => ?_)
        · have hF := ifp hF c_6
          refine lv_iload_n hx hb d_Model_nameAt_30 rfl (lv_at hl 2 rfl) ?_
          refine lv_iload_n hx hb d_Model_nameAt_31 rfl (lv_at hl 1 rfl) ?_
          refine lv_isub hx hb d_Model_nameAt_32 ?_
          refine lv_bipush (v := 8) hx hb d_Model_nameAt_33 (by decide) ?_
          refine lv_icmp_le (tgt := 44) hx hb d_Model_nameAt_35 (by decide) (fun c_7 => ?_) (fun c_7 => ?_)
          · have hF := ifp hF c_7
            exact ihn.2.2 σ x1 x2 H locs ls hF hP hD hS (lv_sub hl [0, 1, 2] rfl)
          · have hF := ifn hF c_7
            refine lv_aload_n hx hb d_Model_nameAt_38 rfl (lv_at hl 0 rfl) ?_
            refine lv_iconst (v := 1) hx hb d_Model_nameAt_39 (by decide) ?_
            refine lv_iload_n hx hb d_Model_nameAt_40 rfl (lv_at hl 1 rfl) ?_
            obtain ⟨u8, h8, hF⟩ := b1E hF
            refine callVV (As := [.int 1, .int x1]) X (ct_Model_blame l dC dI ad cA H.size h8) lk_Model_140 ⟨rfl, rfl, by decide, by decide⟩ 11 rfl rfl hP hD hS hl.1 rfl rfl (Nat.le_of_ble_eq_true rfl) d_Model_nameAt_41 (fun H locs hP hD hS => ?_)
            exact ihn.2.2 u8 x1 x2 H locs ls hF hP hD hS (lv_sub hl [0, 1, 2] rfl)
        · have hF := ifn hF c_6
          exact ihn.2.1 σ x1 x2 H locs ls hF hP hD hS (lv_sub hl [0, 1, 2] rfl)
    · have hF : tModel_nameAt_b2 (tModel_nameAt_L n) σ x1 x2 = some (r, σ') := hF
      unfold tModel_nameAt_b2 at hF
      refine lv_iinc (v := (x2 + 1)) (lv' := [(2, .int (x2 + 1)), (0, .ref (ad 11)), (1, .int x1)]) hx hb d_Model_nameAt_24 hl (k := 2) rfl rfl (by decide) rfl (fun ls hl => ?_)
      refine lv_goto (tgt := 2) hx hb d_Model_nameAt_27 (by decide) ?_
      exact ihn.1 σ x1 (x2 + 1) H locs ls hF hP hD hS (lv_sub hl [1, 2, 0] rfl)
    · have hF : tModel_nameAt_b3 (tModel_nameAt_L n) σ x1 x2 = some (r, σ') := hF
      unfold tModel_nameAt_b3 at hF
      refine lv_aload_n hx hb d_Model_nameAt_44 rfl (lv_at hl 0 rfl) ?_
      refine lv_iconst (v := 1) hx hb d_Model_nameAt_45 (by decide) ?_
      refine lv_iload_n hx hb d_Model_nameAt_46 rfl (lv_at hl 1 rfl) ?_
      refine lv_iload_n hx hb d_Model_nameAt_47 rfl (lv_at hl 2 rfl) ?_
      refine lv_iload_n hx hb d_Model_nameAt_48 rfl (lv_at hl 1 rfl) ?_
      refine lv_isub hx hb d_Model_nameAt_49 ?_
      refine lv_iconst (v := 0) hx hb d_Model_nameAt_50 (by decide) ?_
      obtain ⟨u9, h9, hF⟩ := b1E hF
      refine callVV (As := [.int 1, .int x1, .int (x2 - x1), .int 0]) X (ct_Model_addToken l dC dI ad cA H.size h9) lk_Model_144 ⟨rfl, rfl, by decide, by decide⟩ 11 rfl rfl hP hD hS hl.1 rfl rfl (Nat.le_of_ble_eq_true rfl) d_Model_nameAt_51 (fun H locs hP hD hS => ?_)
      refine lv_aload_n hx hb d_Model_nameAt_54 rfl (lv_at hl 0 rfl) ?_
      refine lv_aload_n hx hb d_Model_nameAt_55 rfl (lv_at hl 0 rfl) ?_
      refine va_get (D := (dC, dI)) (ci := 11) (v := .int (u9.1 28)) hx hb hts i_Model hown hK hP 11 rfl rfl 3 (by decide) (hts _ w_a747261a84) (fun _ h9 => h9) rfl d_Model_nameAt_56 ?_
      refine lv_iconst (v := 1) hx hb d_Model_nameAt_59 (by decide) ?_
      refine lv_isub hx hb d_Model_nameAt_60 ?_
      obtain ⟨r10, h10, hF⟩ := b1E hF
      refine callVI (As := [.int ((u9.1 28) - 1)]) X (ct_Model_isWordToken l dC dI ad cA H.size h10) lk_Model_148 ⟨rfl, rfl, by decide, by decide⟩ 11 rfl rfl hP hD hS hl.1 rfl rfl (Nat.le_of_ble_eq_true rfl) d_Model_nameAt_61 (fun H locs hP hD hS => ?_)
      refine lv_if_eq (tgt := 79) hx hb d_Model_nameAt_64 (by decide) (fun c_11 => ?_) (fun c_11 => ?_)
      · have hF := ifp hF c_11
        refine lv_iload_n hx hb d_Model_nameAt_79 rfl (lv_at hl 2 rfl) ?_
        cases hF
        exact leafI X hP hD hS d_Model_nameAt_80
      · have hF := ifn hF c_11
        refine lv_aload_n hx hb d_Model_nameAt_67 rfl (lv_at hl 0 rfl) ?_
        refine va_get (D := (dC, dI)) (ci := 11) (v := .ref (ad 31)) hx hb hts i_Model hown hK hP 11 rfl rfl 9 (by decide) (hts _ w_f071529ab8) (fun _ h9 => h9) rfl d_Model_nameAt_68 ?_
        refine lv_aload_n hx hb d_Model_nameAt_71 rfl (lv_at hl 0 rfl) ?_
        refine va_get (D := (dC, dI)) (ci := 11) (v := .int (u9.1 28)) hx hb hts i_Model hown hK hP 11 rfl rfl 3 (by decide) (hts _ w_a747261a84) (fun _ h9 => h9) rfl d_Model_nameAt_72 ?_
        refine lv_iconst (v := 1) hx hb d_Model_nameAt_75 (by decide) ?_
        refine lv_isub hx hb d_Model_nameAt_76 ?_
        refine lv_iconst (v := 4) hx hb d_Model_nameAt_77 (by decide) ?_
        obtain ⟨g_12, hF⟩ := gdE hF
        refine va_iast (f := (u9.2.2.1 16)) hx hb hK hP hD hS 31 0 rfl rfl (inE g_12) d_Model_nameAt_78 (fun H locs hP hD hS => ?_)
        have hP : va_P (dC, dI) vwCl (tcw ad cA (sA u9 16 (upd (u9.2.2.1 16) ((u9.1 28) - 1).toNatClampNeg 4))) H := hP
        have hD : va_D A (tcw ad cA (sA u9 16 (upd (u9.2.2.1 16) ((u9.1 28) - 1).toNatClampNeg 4))) := hD
        refine lv_iload_n hx hb d_Model_nameAt_79 rfl (lv_at hl 2 rfl) ?_
        cases hF
        exact leafI X hP hD hS d_Model_nameAt_80
set_option maxHeartbeats 4000000 in
set_option maxRecDepth 100000 in
theorem ct_Model_nameAt (l : Launch) (dC : Nat → ClassId) (dI : Nat → Nat → Nat) (ad : Nat → Nat) (cA : Nat → ClassId) (sz : Nat) {σ : St} {a1 : Int32} {r : Int32} {σ' : St} (hF : tModel_nameAt σ a1 = some (r, σ')) : MI l y_Model_nameAt b_Model_nameAt 3 (some .int) { frames := 2, cells := 0, slots := 0, locals := 47 } (dC, dI) (ttys cA) ad (tcw ad cA) [.ref (ad 11), .int a1] σ sz r σ' := by
  refine startM (own := "TinyForgeModel") (Qc := fun A => QI (dC, dI) (ttys cA) (tcw ad cA) A r σ') rfl rfl (Nat.le_of_ble_eq_true rfl) ?_
  intro p e s m below meth c A H locs ls X hP hD hS hl
  have hl : lv_has ls 3 [(0, .ref (ad 11)), (1, .int a1)] := hl
  obtain ⟨hx, hb, hr, hml, hown, hlocks, hts, hA, hK, hZ⟩ := id X
  unfold tModel_nameAt at hF
  refine lv_iload_n hx hb d_Model_nameAt_0 rfl (lv_at hl 1 rfl) ?_
  refine lv_istore_n (lv' := [(2, .int a1), (0, .ref (ad 11)), (1, .int a1)]) hx hb d_Model_nameAt_1 rfl hl (by decide) rfl (fun ls hl => ?_)
  exact (tModel_nameAt_blk l dC dI ad cA X 2000).1 σ a1 a1 H locs ls hF hP hD hS (lv_sub hl [1, 2, 0] rfl)
theorem d_Model_numberAt_0 : decode b_Model_numberAt 0 = .ok (.iload_n 1, 1) := by decide +kernel
theorem d_Model_numberAt_1 : decode b_Model_numberAt 1 = .ok (.istore_n 2, 1) := by decide +kernel
theorem d_Model_numberAt_2 : decode b_Model_numberAt 2 = .ok (.lconst 0, 1) := by decide +kernel
theorem d_Model_numberAt_3 : decode b_Model_numberAt 3 = .ok (.lstore_n 3, 1) := by decide +kernel
theorem d_Model_numberAt_4 : decode b_Model_numberAt 4 = .ok (.aload_n 0, 1) := by decide +kernel
theorem d_Model_numberAt_5 : decode b_Model_numberAt 5 = .ok (.iload_n 2, 1) := by decide +kernel
theorem d_Model_numberAt_6 : decode b_Model_numberAt 6 = .ok (.invokevirtual 124, 3) := by decide +kernel
theorem d_Model_numberAt_9 : decode b_Model_numberAt 9 = .ok (.invokestatic 137, 3) := by decide +kernel
theorem d_Model_numberAt_12 : decode b_Model_numberAt 12 = .ok (.ifCond .eq 38, 3) := by decide +kernel
theorem d_Model_numberAt_15 : decode b_Model_numberAt 15 = .ok (.lload_n 3, 1) := by decide +kernel
theorem d_Model_numberAt_16 : decode b_Model_numberAt 16 = .ok (.ldc2_w 112, 3) := by decide +kernel
theorem d_Model_numberAt_19 : decode b_Model_numberAt 19 = .ok (.lmul, 1) := by decide +kernel
theorem d_Model_numberAt_20 : decode b_Model_numberAt 20 = .ok (.aload_n 0, 1) := by decide +kernel
theorem d_Model_numberAt_21 : decode b_Model_numberAt 21 = .ok (.iload_n 2, 1) := by decide +kernel
theorem d_Model_numberAt_22 : decode b_Model_numberAt 22 = .ok (.invokevirtual 124, 3) := by decide +kernel
theorem d_Model_numberAt_25 : decode b_Model_numberAt 25 = .ok (.i2l, 1) := by decide +kernel
theorem d_Model_numberAt_26 : decode b_Model_numberAt 26 = .ok (.ladd, 1) := by decide +kernel
theorem d_Model_numberAt_27 : decode b_Model_numberAt 27 = .ok (.ldc2_w 151, 3) := by decide +kernel
theorem d_Model_numberAt_30 : decode b_Model_numberAt 30 = .ok (.lsub, 1) := by decide +kernel
theorem d_Model_numberAt_31 : decode b_Model_numberAt 31 = .ok (.lstore_n 3, 1) := by decide +kernel
theorem d_Model_numberAt_32 : decode b_Model_numberAt 32 = .ok (.lload_n 3, 1) := by decide +kernel
theorem d_Model_numberAt_33 : decode b_Model_numberAt 33 = .ok (.ldc2_w 153, 3) := by decide +kernel
theorem d_Model_numberAt_36 : decode b_Model_numberAt 36 = .ok (.lcmp, 1) := by decide +kernel
theorem d_Model_numberAt_37 : decode b_Model_numberAt 37 = .ok (.ifCond .le 7, 3) := by decide +kernel
theorem d_Model_numberAt_40 : decode b_Model_numberAt 40 = .ok (.ldc2_w 155, 3) := by decide +kernel
theorem d_Model_numberAt_43 : decode b_Model_numberAt 43 = .ok (.lstore_n 3, 1) := by decide +kernel
theorem d_Model_numberAt_44 : decode b_Model_numberAt 44 = .ok (.iinc 2 1, 3) := by decide +kernel
theorem d_Model_numberAt_47 : decode b_Model_numberAt 47 = .ok (.goto (-43), 3) := by decide +kernel
theorem d_Model_numberAt_50 : decode b_Model_numberAt 50 = .ok (.lload_n 3, 1) := by decide +kernel
theorem d_Model_numberAt_51 : decode b_Model_numberAt 51 = .ok (.ldc2_w 153, 3) := by decide +kernel
theorem d_Model_numberAt_54 : decode b_Model_numberAt 54 = .ok (.lcmp, 1) := by decide +kernel
theorem d_Model_numberAt_55 : decode b_Model_numberAt 55 = .ok (.ifCond .gt 14, 3) := by decide +kernel
theorem d_Model_numberAt_58 : decode b_Model_numberAt 58 = .ok (.aload_n 0, 1) := by decide +kernel
theorem d_Model_numberAt_59 : decode b_Model_numberAt 59 = .ok (.iload_n 2, 1) := by decide +kernel
theorem d_Model_numberAt_60 : decode b_Model_numberAt 60 = .ok (.invokevirtual 124, 3) := by decide +kernel
theorem d_Model_numberAt_63 : decode b_Model_numberAt 63 = .ok (.invokestatic 134, 3) := by decide +kernel
theorem d_Model_numberAt_66 : decode b_Model_numberAt 66 = .ok (.ifCond .eq 9, 3) := by decide +kernel
theorem d_Model_numberAt_69 : decode b_Model_numberAt 69 = .ok (.aload_n 0, 1) := by decide +kernel
theorem d_Model_numberAt_70 : decode b_Model_numberAt 70 = .ok (.iconst 1, 1) := by decide +kernel
theorem d_Model_numberAt_71 : decode b_Model_numberAt 71 = .ok (.iload_n 1, 1) := by decide +kernel
theorem d_Model_numberAt_72 : decode b_Model_numberAt 72 = .ok (.invokevirtual 140, 3) := by decide +kernel
theorem d_Model_numberAt_75 : decode b_Model_numberAt 75 = .ok (.aload_n 0, 1) := by decide +kernel
theorem d_Model_numberAt_76 : decode b_Model_numberAt 76 = .ok (.iconst 2, 1) := by decide +kernel
theorem d_Model_numberAt_77 : decode b_Model_numberAt 77 = .ok (.iload_n 1, 1) := by decide +kernel
theorem d_Model_numberAt_78 : decode b_Model_numberAt 78 = .ok (.iload_n 2, 1) := by decide +kernel
theorem d_Model_numberAt_79 : decode b_Model_numberAt 79 = .ok (.iload_n 1, 1) := by decide +kernel
theorem d_Model_numberAt_80 : decode b_Model_numberAt 80 = .ok (.isub, 1) := by decide +kernel
theorem d_Model_numberAt_81 : decode b_Model_numberAt 81 = .ok (.lload_n 3, 1) := by decide +kernel
theorem d_Model_numberAt_82 : decode b_Model_numberAt 82 = .ok (.ldc2_w 153, 3) := by decide +kernel
theorem d_Model_numberAt_85 : decode b_Model_numberAt 85 = .ok (.lcmp, 1) := by decide +kernel
theorem d_Model_numberAt_86 : decode b_Model_numberAt 86 = .ok (.ifCond .le 7, 3) := by decide +kernel
theorem d_Model_numberAt_89 : decode b_Model_numberAt 89 = .ok (.iconst 0, 1) := by decide +kernel
theorem d_Model_numberAt_90 : decode b_Model_numberAt 90 = .ok (.goto 5, 3) := by decide +kernel
theorem d_Model_numberAt_93 : decode b_Model_numberAt 93 = .ok (.lload_n 3, 1) := by decide +kernel
theorem d_Model_numberAt_94 : decode b_Model_numberAt 94 = .ok (.l2i, 1) := by decide +kernel
theorem d_Model_numberAt_95 : decode b_Model_numberAt 95 = .ok (.invokevirtual 144, 3) := by decide +kernel
theorem d_Model_numberAt_98 : decode b_Model_numberAt 98 = .ok (.iload_n 2, 1) := by decide +kernel
theorem d_Model_numberAt_99 : decode b_Model_numberAt 99 = .ok (.ireturn, 1) := by decide +kernel
def tModel_numberAt_b1 (k : Nat → St → Int32 → Int32 → Int64 → Option (Int32 × St)) (σ : St) (x1 : Int32) (x2 : Int32) (y1 : Int64) : Option (Int32 × St) := b1 (tModel_sign σ x2) (fun r1 => b1 (tModel_isDigit σ r1) (fun r2 => if r2 = 0 then if (0 : Int32) < (lg_cmp y1 2147483647) then k 3 σ x1 x2 y1 else b1 (tModel_sign σ x2) (fun r5 => b1 (tModel_isLetter σ r5) (fun r6 => if r6 = 0 then k 4 σ x1 x2 y1 else k 3 σ x1 x2 y1)) else b1 (tModel_sign σ x2) (fun r8 => if (lg_cmp (((y1 * 10) + ((r8 : Int32).toInt64)) - 48) 2147483647) ≤ 0 then k 2 σ x1 x2 (((y1 * 10) + ((r8 : Int32).toInt64)) - 48) else k 2 σ x1 x2 2147483648)))
def tModel_numberAt_b2 (k : Nat → St → Int32 → Int32 → Int64 → Option (Int32 × St)) (σ : St) (x1 : Int32) (x2 : Int32) (y1 : Int64) : Option (Int32 × St) := k 1 σ x1 (x2 + 1) y1
def tModel_numberAt_b3 (k : Nat → St → Int32 → Int32 → Int64 → Option (Int32 × St)) (σ : St) (x1 : Int32) (x2 : Int32) (y1 : Int64) : Option (Int32 × St) := b1 (tModel_blame σ 1 x1) (fun u10 => k 4 u10 x1 x2 y1)
def tModel_numberAt_b4 (k : Nat → St → Int32 → Int32 → Int64 → Option (Int32 × St)) (σ : St) (x1 : Int32) (x2 : Int32) (y1 : Int64) : Option (Int32 × St) := if (lg_cmp y1 2147483647) ≤ 0 then b1 (tModel_addToken σ 2 x1 (x2 - x1) ((y1 : Int64).toInt32)) (fun u12 => some (x2, u12)) else b1 (tModel_addToken σ 2 x1 (x2 - x1) 0) (fun u13 => some (x2, u13))
def tModel_numberAt_L : Nat → Nat → St → Int32 → Int32 → Int64 → Option (Int32 × St)
  | 0, _, _, _, _, _ => none
  | n + 1, lab, σ, x1, x2, y1 => match lab with
    | 1 => tModel_numberAt_b1 (tModel_numberAt_L n) σ x1 x2 y1
    | 2 => tModel_numberAt_b2 (tModel_numberAt_L n) σ x1 x2 y1
    | 3 => tModel_numberAt_b3 (tModel_numberAt_L n) σ x1 x2 y1
    | 4 => tModel_numberAt_b4 (tModel_numberAt_L n) σ x1 x2 y1
    | _ => none
def tModel_numberAt (σ : St) (a1 : Int32) : Option (Int32 × St) := tModel_numberAt_L 2000 1 σ a1 a1 0
set_option maxHeartbeats 4000000 in
set_option maxRecDepth 100000 in
theorem tModel_numberAt_blk {p : Program} {e : Env} {s : State} {m : MethodId} {args : Array Value} {below : List Frame} {meth : Method} {c : Code} {A : Nat → Prop} (l : Launch) (dC : Nat → ClassId) (dI : Nat → Nat → Nat) (ad : Nat → Nat) (cA : Nat → ClassId) {r : Int32} {σ' : St} (X : Cx p s m args meth c b_Model_numberAt 5 (some .int) "TinyForgeModel" (dC, dI) (ttys cA) ad A) : ∀ n : Nat, (∀ (σ : St) (x1 : Int32) (x2 : Int32) (y1 : Int64) (H : Heap) (locs : List Loc) (ls : Array Slot), tModel_numberAt_L n 1 σ x1 x2 y1 = some (r, σ') → va_P (dC, dI) vwCl (tcw ad cA σ) H → va_D A (tcw ad cA σ) → va_S A s.heap H locs → lv_has ls 5 [(0, .ref (ad 11)), (1, .int x1), (2, .int x2), (3, .long y1)] → W p l e { frames := 1, cells := 0, slots := 0, locals := 24 } s m args below meth c H locs 0 0 (MQ below (QI (dC, dI) (ttys cA) (tcw ad cA) A r σ') args s 0 0 A) (F0 m 4 ls [])) ∧ (∀ (σ : St) (x1 : Int32) (x2 : Int32) (y1 : Int64) (H : Heap) (locs : List Loc) (ls : Array Slot), tModel_numberAt_L n 2 σ x1 x2 y1 = some (r, σ') → va_P (dC, dI) vwCl (tcw ad cA σ) H → va_D A (tcw ad cA σ) → va_S A s.heap H locs → lv_has ls 5 [(0, .ref (ad 11)), (1, .int x1), (2, .int x2), (3, .long y1)] → W p l e { frames := 1, cells := 0, slots := 0, locals := 24 } s m args below meth c H locs 0 0 (MQ below (QI (dC, dI) (ttys cA) (tcw ad cA) A r σ') args s 0 0 A) (F0 m 44 ls [])) ∧ (∀ (σ : St) (x1 : Int32) (x2 : Int32) (y1 : Int64) (H : Heap) (locs : List Loc) (ls : Array Slot), tModel_numberAt_L n 3 σ x1 x2 y1 = some (r, σ') → va_P (dC, dI) vwCl (tcw ad cA σ) H → va_D A (tcw ad cA σ) → va_S A s.heap H locs → lv_has ls 5 [(0, .ref (ad 11)), (1, .int x1), (2, .int x2), (3, .long y1)] → W p l e { frames := 1, cells := 0, slots := 0, locals := 24 } s m args below meth c H locs 0 0 (MQ below (QI (dC, dI) (ttys cA) (tcw ad cA) A r σ') args s 0 0 A) (F0 m 69 ls [])) ∧ (∀ (σ : St) (x1 : Int32) (x2 : Int32) (y1 : Int64) (H : Heap) (locs : List Loc) (ls : Array Slot), tModel_numberAt_L n 4 σ x1 x2 y1 = some (r, σ') → va_P (dC, dI) vwCl (tcw ad cA σ) H → va_D A (tcw ad cA σ) → va_S A s.heap H locs → lv_has ls 5 [(0, .ref (ad 11)), (1, .int x1), (2, .int x2), (3, .long y1)] → W p l e { frames := 1, cells := 0, slots := 0, locals := 24 } s m args below meth c H locs 0 0 (MQ below (QI (dC, dI) (ttys cA) (tcw ad cA) A r σ') args s 0 0 A) (F0 m 75 ls [])) := by
  obtain ⟨hx, hb, hr, hml, hown, hlocks, hts, hA, hK, hZ⟩ := id X
  intro n
  induction n with
  | zero => exact ⟨(fun σ x1 x2 y1 H locs ls hF => by cases hF), (fun σ x1 x2 y1 H locs ls hF => by cases hF), (fun σ x1 x2 y1 H locs ls hF => by cases hF), (fun σ x1 x2 y1 H locs ls hF => by cases hF)⟩
  | succ n ihn =>
    refine ⟨fun σ x1 x2 y1 H locs ls hF hP hD hS hl => ?_, fun σ x1 x2 y1 H locs ls hF hP hD hS hl => ?_, fun σ x1 x2 y1 H locs ls hF hP hD hS hl => ?_, fun σ x1 x2 y1 H locs ls hF hP hD hS hl => ?_⟩
    · have hF : tModel_numberAt_b1 (tModel_numberAt_L n) σ x1 x2 y1 = some (r, σ') := hF
      unfold tModel_numberAt_b1 at hF
      refine lv_aload_n hx hb d_Model_numberAt_4 rfl (lv_at hl 0 rfl) ?_
      refine lv_iload_n hx hb d_Model_numberAt_5 rfl (lv_at hl 2 rfl) ?_
      obtain ⟨r1, h1, hF⟩ := b1E hF
      refine callVI (As := [.int x2]) X (ct_Model_sign l dC dI ad cA H.size h1) lk_Model_124 ⟨rfl, rfl, by decide, by decide⟩ 11 rfl rfl hP hD hS hl.1 rfl rfl (Nat.le_of_ble_eq_true rfl) d_Model_numberAt_6 (fun H locs hP hD hS => ?_)
      obtain ⟨r2, h2, hF⟩ := b1E hF
      refine callSI (As := [.int r1]) X (ct_Model_isDigit l dC dI ad cA H.size h2) lk_Model_137 ⟨rfl, rfl, by decide, by decide⟩ hP hD hS hl.1 rfl rfl (Nat.le_of_ble_eq_true rfl) d_Model_numberAt_9 (fun H locs hP hD hS => ?_)
      refine lv_if_eq (tgt := 50) hx hb d_Model_numberAt_12 (by decide) (fun c_3 => ?_) (fun c_3 => ?_)
      · have hF := ifp hF c_3
        refine lv_lload_n hx hb d_Model_numberAt_50 rfl (lv_at hl 3 rfl) ?_
        refine lv_ldc2 (v := 2147483647) hx hb hown (hts _ w_2b15e63676) d_Model_numberAt_51 ?_
        refine W.lcmp hx hb d_Model_numberAt_54 ?_
        refine lv_if_gt (tgt := 69) hx hb d_Model_numberAt_55 (by decide) (fun c_4 => ?_) (fun c_4 => ?_)
        · have hF := ifp hF c_4
          exact ihn.2.2.1 σ x1 x2 y1 H locs ls hF hP hD hS (lv_sub hl [0, 1, 2, 3] rfl)
        · have hF := ifn hF c_4
          refine lv_aload_n hx hb d_Model_numberAt_58 rfl (lv_at hl 0 rfl) ?_
          refine lv_iload_n hx hb d_Model_numberAt_59 rfl (lv_at hl 2 rfl) ?_
          obtain ⟨r5, h5, hF⟩ := b1E hF
          refine callVI (As := [.int x2]) X (ct_Model_sign l dC dI ad cA H.size h5) lk_Model_124 ⟨rfl, rfl, by decide, by decide⟩ 11 rfl rfl hP hD hS hl.1 rfl rfl (Nat.le_of_ble_eq_true rfl) d_Model_numberAt_60 (fun H locs hP hD hS => ?_)
          obtain ⟨r6, h6, hF⟩ := b1E hF
          refine callSI (As := [.int r5]) X (ct_Model_isLetter l dC dI ad cA H.size h6) lk_Model_134 ⟨rfl, rfl, by decide, by decide⟩ hP hD hS hl.1 rfl rfl (Nat.le_of_ble_eq_true rfl) d_Model_numberAt_63 (fun H locs hP hD hS => ?_)
          refine lv_if_eq (tgt := 75) hx hb d_Model_numberAt_66 (by decide) (fun c_7 => ?_) (fun c_7 => ?_)
          · have hF := ifp hF c_7
            exact ihn.2.2.2 σ x1 x2 y1 H locs ls hF hP hD hS (lv_sub hl [0, 1, 2, 3] rfl)
          · have hF := ifn hF c_7
            exact ihn.2.2.1 σ x1 x2 y1 H locs ls hF hP hD hS (lv_sub hl [0, 1, 2, 3] rfl)
      · have hF := ifn hF c_3
        refine lv_lload_n hx hb d_Model_numberAt_15 rfl (lv_at hl 3 rfl) ?_
        refine lv_ldc2 (v := 10) hx hb hown (hts _ w_d725bf63c0) d_Model_numberAt_16 ?_
        refine lv_lmul hx hb d_Model_numberAt_19 ?_
        refine lv_aload_n hx hb d_Model_numberAt_20 rfl (lv_at hl 0 rfl) ?_
        refine lv_iload_n hx hb d_Model_numberAt_21 rfl (lv_at hl 2 rfl) ?_
        obtain ⟨r8, h8, hF⟩ := b1E hF
        refine callVI (As := [.int x2]) X (ct_Model_sign l dC dI ad cA H.size h8) lk_Model_124 ⟨rfl, rfl, by decide, by decide⟩ 11 rfl rfl hP hD hS hl.1 rfl rfl (Nat.le_of_ble_eq_true rfl) d_Model_numberAt_22 (fun H locs hP hD hS => ?_)
        refine lv_i2l (v := (r8 : Int32).toInt64) hx hb d_Model_numberAt_25 rfl ?_
        refine lv_ladd hx hb d_Model_numberAt_26 ?_
        refine lv_ldc2 (v := 48) hx hb hown (hts _ w_e14f065fb6) d_Model_numberAt_27 ?_
        refine lv_lsub hx hb d_Model_numberAt_30 ?_
        refine lv_lstore_n (lv' := [(3, .long (((y1 * 10) + ((r8 : Int32).toInt64)) - 48)), (0, .ref (ad 11)), (1, .int x1), (2, .int x2)]) hx hb d_Model_numberAt_31 rfl hl (by decide) rfl (fun ls hl => ?_)
        refine lv_lload_n hx hb d_Model_numberAt_32 rfl (lv_at hl 0 rfl) ?_
        refine lv_ldc2 (v := 2147483647) hx hb hown (hts _ w_2b15e63676) d_Model_numberAt_33 ?_
        refine W.lcmp hx hb d_Model_numberAt_36 ?_
        refine lv_if_le (tgt := 44) hx hb d_Model_numberAt_37 (by decide) (fun c_9 => ?_) (fun c_9 => ?_)
        · have hF := ifp hF c_9
          exact ihn.2.1 σ x1 x2 (((y1 * 10) + ((r8 : Int32).toInt64)) - 48) H locs ls hF hP hD hS (lv_sub hl [1, 2, 3, 0] rfl)
        · have hF := ifn hF c_9
          refine lv_ldc2 (v := 2147483648) hx hb hown (hts _ w_695fe8f30a) d_Model_numberAt_40 ?_
          refine lv_lstore_n (lv' := [(3, .long 2147483648), (0, .ref (ad 11)), (1, .int x1), (2, .int x2)]) hx hb d_Model_numberAt_43 rfl hl (by decide) rfl (fun ls hl => ?_)
          exact ihn.2.1 σ x1 x2 2147483648 H locs ls hF hP hD hS (lv_sub hl [1, 2, 3, 0] rfl)
    · have hF : tModel_numberAt_b2 (tModel_numberAt_L n) σ x1 x2 y1 = some (r, σ') := hF
      unfold tModel_numberAt_b2 at hF
      refine lv_iinc (v := (x2 + 1)) (lv' := [(2, .int (x2 + 1)), (0, .ref (ad 11)), (1, .int x1), (3, .long y1)]) hx hb d_Model_numberAt_44 hl (k := 2) rfl rfl (by decide) rfl (fun ls hl => ?_)
      refine lv_goto (tgt := 4) hx hb d_Model_numberAt_47 (by decide) ?_
      exact ihn.1 σ x1 (x2 + 1) y1 H locs ls hF hP hD hS (lv_sub hl [1, 2, 0, 3] rfl)
    · have hF : tModel_numberAt_b3 (tModel_numberAt_L n) σ x1 x2 y1 = some (r, σ') := hF
      unfold tModel_numberAt_b3 at hF
      refine lv_aload_n hx hb d_Model_numberAt_69 rfl (lv_at hl 0 rfl) ?_
      refine lv_iconst (v := 1) hx hb d_Model_numberAt_70 (by decide) ?_
      refine lv_iload_n hx hb d_Model_numberAt_71 rfl (lv_at hl 1 rfl) ?_
      obtain ⟨u10, h10, hF⟩ := b1E hF
      refine callVV (As := [.int 1, .int x1]) X (ct_Model_blame l dC dI ad cA H.size h10) lk_Model_140 ⟨rfl, rfl, by decide, by decide⟩ 11 rfl rfl hP hD hS hl.1 rfl rfl (Nat.le_of_ble_eq_true rfl) d_Model_numberAt_72 (fun H locs hP hD hS => ?_)
      exact ihn.2.2.2 u10 x1 x2 y1 H locs ls hF hP hD hS (lv_sub hl [0, 1, 2, 3] rfl)
    · have hF : tModel_numberAt_b4 (tModel_numberAt_L n) σ x1 x2 y1 = some (r, σ') := hF
      unfold tModel_numberAt_b4 at hF
      refine lv_aload_n hx hb d_Model_numberAt_75 rfl (lv_at hl 0 rfl) ?_
      refine lv_iconst (v := 2) hx hb d_Model_numberAt_76 (by decide) ?_
      refine lv_iload_n hx hb d_Model_numberAt_77 rfl (lv_at hl 1 rfl) ?_
      refine lv_iload_n hx hb d_Model_numberAt_78 rfl (lv_at hl 2 rfl) ?_
      refine lv_iload_n hx hb d_Model_numberAt_79 rfl (lv_at hl 1 rfl) ?_
      refine lv_isub hx hb d_Model_numberAt_80 ?_
      refine lv_lload_n hx hb d_Model_numberAt_81 rfl (lv_at hl 3 rfl) ?_
      refine lv_ldc2 (v := 2147483647) hx hb hown (hts _ w_2b15e63676) d_Model_numberAt_82 ?_
      refine W.lcmp hx hb d_Model_numberAt_85 ?_
      refine lv_if_le (tgt := 93) hx hb d_Model_numberAt_86 (by decide) (fun c_11 => ?_) (fun c_11 => ?_)
      · have hF := ifp hF c_11
        refine lv_lload_n hx hb d_Model_numberAt_93 rfl (lv_at hl 3 rfl) ?_
        refine lv_l2i (v := (y1 : Int64).toInt32) hx hb d_Model_numberAt_94 rfl ?_
        obtain ⟨u12, h12, hF⟩ := b1E hF
        refine callVV (As := [.int 2, .int x1, .int (x2 - x1), .int ((y1 : Int64).toInt32)]) X (ct_Model_addToken l dC dI ad cA H.size h12) lk_Model_144 ⟨rfl, rfl, by decide, by decide⟩ 11 rfl rfl hP hD hS hl.1 rfl rfl (Nat.le_of_ble_eq_true rfl) d_Model_numberAt_95 (fun H locs hP hD hS => ?_)
        refine lv_iload_n hx hb d_Model_numberAt_98 rfl (lv_at hl 2 rfl) ?_
        cases hF
        exact leafI X hP hD hS d_Model_numberAt_99
      · have hF := ifn hF c_11
        refine lv_iconst (v := 0) hx hb d_Model_numberAt_89 (by decide) ?_
        refine lv_goto (tgt := 95) hx hb d_Model_numberAt_90 (by decide) ?_
        obtain ⟨u13, h13, hF⟩ := b1E hF
        refine callVV (As := [.int 2, .int x1, .int (x2 - x1), .int 0]) X (ct_Model_addToken l dC dI ad cA H.size h13) lk_Model_144 ⟨rfl, rfl, by decide, by decide⟩ 11 rfl rfl hP hD hS hl.1 rfl rfl (Nat.le_of_ble_eq_true rfl) d_Model_numberAt_95 (fun H locs hP hD hS => ?_)
        refine lv_iload_n hx hb d_Model_numberAt_98 rfl (lv_at hl 2 rfl) ?_
        cases hF
        exact leafI X hP hD hS d_Model_numberAt_99
set_option maxHeartbeats 4000000 in
set_option maxRecDepth 100000 in
theorem ct_Model_numberAt (l : Launch) (dC : Nat → ClassId) (dI : Nat → Nat → Nat) (ad : Nat → Nat) (cA : Nat → ClassId) (sz : Nat) {σ : St} {a1 : Int32} {r : Int32} {σ' : St} (hF : tModel_numberAt σ a1 = some (r, σ')) : MI l y_Model_numberAt b_Model_numberAt 5 (some .int) { frames := 1, cells := 0, slots := 0, locals := 24 } (dC, dI) (ttys cA) ad (tcw ad cA) [.ref (ad 11), .int a1] σ sz r σ' := by
  refine startM (own := "TinyForgeModel") (Qc := fun A => QI (dC, dI) (ttys cA) (tcw ad cA) A r σ') rfl rfl (Nat.le_of_ble_eq_true rfl) ?_
  intro p e s m below meth c A H locs ls X hP hD hS hl
  have hl : lv_has ls 5 [(0, .ref (ad 11)), (1, .int a1)] := hl
  obtain ⟨hx, hb, hr, hml, hown, hlocks, hts, hA, hK, hZ⟩ := id X
  unfold tModel_numberAt at hF
  refine lv_iload_n hx hb d_Model_numberAt_0 rfl (lv_at hl 1 rfl) ?_
  refine lv_istore_n (lv' := [(2, .int a1), (0, .ref (ad 11)), (1, .int a1)]) hx hb d_Model_numberAt_1 rfl hl (by decide) rfl (fun ls hl => ?_)
  refine lv_lconst (v := 0) hx hb d_Model_numberAt_2 (by decide) ?_
  refine lv_lstore_n (lv' := [(3, .long 0), (2, .int a1), (0, .ref (ad 11)), (1, .int a1)]) hx hb d_Model_numberAt_3 rfl hl (by decide) rfl (fun ls hl => ?_)
  exact (tModel_numberAt_blk l dC dI ad cA X 2000).1 σ a1 a1 0 H locs ls hF hP hD hS (lv_sub hl [2, 3, 1, 0] rfl)
