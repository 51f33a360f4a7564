theorem d_Model_run_0 : decode b_Model_run 0 = .ok (.aload_n 0, 1) := by decide +kernel
theorem d_Model_run_1 : decode b_Model_run 1 = .ok (.iconst 0, 1) := by decide +kernel
theorem d_Model_run_2 : decode b_Model_run 2 = .ok (.putfield 103, 3) := by decide +kernel
theorem d_Model_run_5 : decode b_Model_run 5 = .ok (.aload_n 0, 1) := by decide +kernel
theorem d_Model_run_6 : decode b_Model_run 6 = .ok (.getfield 385, 3) := by decide +kernel
theorem d_Model_run_9 : decode b_Model_run 9 = .ok (.ifCond .ne 9, 3) := by decide +kernel
theorem d_Model_run_12 : decode b_Model_run 12 = .ok (.aload_n 0, 1) := by decide +kernel
theorem d_Model_run_13 : decode b_Model_run 13 = .ok (.iconst 1, 1) := by decide +kernel
theorem d_Model_run_14 : decode b_Model_run 14 = .ok (.invokevirtual 106, 3) := by decide +kernel
theorem d_Model_run_17 : decode b_Model_run 17 = .ok (.ireturn, 1) := by decide +kernel
theorem d_Model_run_18 : decode b_Model_run 18 = .ok (.iconst 0, 1) := by decide +kernel
theorem d_Model_run_19 : decode b_Model_run 19 = .ok (.istore_n 1, 1) := by decide +kernel
theorem d_Model_run_20 : decode b_Model_run 20 = .ok (.iload_n 1, 1) := by decide +kernel
theorem d_Model_run_21 : decode b_Model_run 21 = .ok (.sipush 960, 3) := by decide +kernel
theorem d_Model_run_24 : decode b_Model_run 24 = .ok (.if_icmp .ge 16, 3) := by decide +kernel
theorem d_Model_run_27 : decode b_Model_run 27 = .ok (.aload_n 0, 1) := by decide +kernel
theorem d_Model_run_28 : decode b_Model_run 28 = .ok (.getfield 88, 3) := by decide +kernel
theorem d_Model_run_31 : decode b_Model_run 31 = .ok (.iload_n 1, 1) := by decide +kernel
theorem d_Model_run_32 : decode b_Model_run 32 = .ok (.iconst 0, 1) := by decide +kernel
theorem d_Model_run_33 : decode b_Model_run 33 = .ok (.iastore, 1) := by decide +kernel
theorem d_Model_run_34 : decode b_Model_run 34 = .ok (.iinc 1 1, 3) := by decide +kernel
theorem d_Model_run_37 : decode b_Model_run 37 = .ok (.goto (-17), 3) := by decide +kernel
theorem d_Model_run_40 : decode b_Model_run 40 = .ok (.aload_n 0, 1) := by decide +kernel
theorem d_Model_run_41 : decode b_Model_run 41 = .ok (.iconst 0, 1) := by decide +kernel
theorem d_Model_run_42 : decode b_Model_run 42 = .ok (.putfield 451, 3) := by decide +kernel
theorem d_Model_run_45 : decode b_Model_run 45 = .ok (.aload_n 0, 1) := by decide +kernel
theorem d_Model_run_46 : decode b_Model_run 46 = .ok (.iconst 0, 1) := by decide +kernel
theorem d_Model_run_47 : decode b_Model_run 47 = .ok (.putfield 389, 3) := by decide +kernel
theorem d_Model_run_50 : decode b_Model_run 50 = .ok (.aload_n 0, 1) := by decide +kernel
theorem d_Model_run_51 : decode b_Model_run 51 = .ok (.iconst 0, 1) := by decide +kernel
theorem d_Model_run_52 : decode b_Model_run 52 = .ok (.putfield 392, 3) := by decide +kernel
theorem d_Model_run_55 : decode b_Model_run 55 = .ok (.aload_n 0, 1) := by decide +kernel
theorem d_Model_run_56 : decode b_Model_run 56 = .ok (.iconst 0, 1) := by decide +kernel
theorem d_Model_run_57 : decode b_Model_run 57 = .ok (.putfield 442, 3) := by decide +kernel
theorem d_Model_run_60 : decode b_Model_run 60 = .ok (.aload_n 0, 1) := by decide +kernel
theorem d_Model_run_61 : decode b_Model_run 61 = .ok (.iconst 0, 1) := by decide +kernel
theorem d_Model_run_62 : decode b_Model_run 62 = .ok (.putfield 407, 3) := by decide +kernel
theorem d_Model_run_65 : decode b_Model_run 65 = .ok (.aload_n 0, 1) := by decide +kernel
theorem d_Model_run_66 : decode b_Model_run 66 = .ok (.iconst 0, 1) := by decide +kernel
theorem d_Model_run_67 : decode b_Model_run 67 = .ok (.putfield 401, 3) := by decide +kernel
theorem d_Model_run_70 : decode b_Model_run 70 = .ok (.aload_n 0, 1) := by decide +kernel
theorem d_Model_run_71 : decode b_Model_run 71 = .ok (.iconst 0, 1) := by decide +kernel
theorem d_Model_run_72 : decode b_Model_run 72 = .ok (.putfield 404, 3) := by decide +kernel
theorem d_Model_run_75 : decode b_Model_run 75 = .ok (.aload_n 0, 1) := by decide +kernel
theorem d_Model_run_76 : decode b_Model_run 76 = .ok (.iconst 0, 1) := by decide +kernel
theorem d_Model_run_77 : decode b_Model_run 77 = .ok (.putfield 395, 3) := by decide +kernel
theorem d_Model_run_80 : decode b_Model_run 80 = .ok (.aload_n 0, 1) := by decide +kernel
theorem d_Model_run_81 : decode b_Model_run 81 = .ok (.getfield 30, 3) := by decide +kernel
theorem d_Model_run_84 : decode b_Model_run 84 = .ok (.aload_n 0, 1) := by decide +kernel
theorem d_Model_run_85 : decode b_Model_run 85 = .ok (.getfield 187, 3) := by decide +kernel
theorem d_Model_run_88 : decode b_Model_run 88 = .ok (.iconst 5, 1) := by decide +kernel
theorem d_Model_run_89 : decode b_Model_run 89 = .ok (.iastore, 1) := by decide +kernel
theorem d_Model_run_90 : decode b_Model_run 90 = .ok (.aload_n 0, 1) := by decide +kernel
theorem d_Model_run_91 : decode b_Model_run 91 = .ok (.getfield 33, 3) := by decide +kernel
theorem d_Model_run_94 : decode b_Model_run 94 = .ok (.aload_n 0, 1) := by decide +kernel
theorem d_Model_run_95 : decode b_Model_run 95 = .ok (.getfield 187, 3) := by decide +kernel
theorem d_Model_run_98 : decode b_Model_run 98 = .ok (.iconst 0, 1) := by decide +kernel
theorem d_Model_run_99 : decode b_Model_run 99 = .ok (.iastore, 1) := by decide +kernel
theorem d_Model_run_100 : decode b_Model_run 100 = .ok (.aload_n 0, 1) := by decide +kernel
theorem d_Model_run_101 : decode b_Model_run 101 = .ok (.getfield 36, 3) := by decide +kernel
theorem d_Model_run_104 : decode b_Model_run 104 = .ok (.aload_n 0, 1) := by decide +kernel
theorem d_Model_run_105 : decode b_Model_run 105 = .ok (.getfield 187, 3) := by decide +kernel
theorem d_Model_run_108 : decode b_Model_run 108 = .ok (.iconst (-1), 1) := by decide +kernel
theorem d_Model_run_109 : decode b_Model_run 109 = .ok (.iastore, 1) := by decide +kernel
theorem d_Model_run_110 : decode b_Model_run 110 = .ok (.aload_n 0, 1) := by decide +kernel
theorem d_Model_run_111 : decode b_Model_run 111 = .ok (.getfield 42, 3) := by decide +kernel
theorem d_Model_run_114 : decode b_Model_run 114 = .ok (.aload_n 0, 1) := by decide +kernel
theorem d_Model_run_115 : decode b_Model_run 115 = .ok (.getfield 187, 3) := by decide +kernel
theorem d_Model_run_118 : decode b_Model_run 118 = .ok (.aload_n 0, 1) := by decide +kernel
theorem d_Model_run_119 : decode b_Model_run 119 = .ok (.getfield 379, 3) := by decide +kernel
theorem d_Model_run_122 : decode b_Model_run 122 = .ok (.iastore, 1) := by decide +kernel
theorem d_Model_run_123 : decode b_Model_run 123 = .ok (.aload_n 0, 1) := by decide +kernel
theorem d_Model_run_124 : decode b_Model_run 124 = .ok (.aload_n 0, 1) := by decide +kernel
theorem d_Model_run_125 : decode b_Model_run 125 = .ok (.getfield 187, 3) := by decide +kernel
theorem d_Model_run_128 : decode b_Model_run 128 = .ok (.invokevirtual 418, 3) := by decide +kernel
theorem d_Model_run_131 : decode b_Model_run 131 = .ok (.aload_n 0, 1) := by decide +kernel
theorem d_Model_run_132 : decode b_Model_run 132 = .ok (.getfield 401, 3) := by decide +kernel
theorem d_Model_run_135 : decode b_Model_run 135 = .ok (.ifCond .le 17, 3) := by decide +kernel
theorem d_Model_run_138 : decode b_Model_run 138 = .ok (.aload_n 0, 1) := by decide +kernel
theorem d_Model_run_139 : decode b_Model_run 139 = .ok (.getfield 407, 3) := by decide +kernel
theorem d_Model_run_142 : decode b_Model_run 142 = .ok (.ifCond .ne 10, 3) := by decide +kernel
theorem d_Model_run_145 : decode b_Model_run 145 = .ok (.aload_n 0, 1) := by decide +kernel
theorem d_Model_run_146 : decode b_Model_run 146 = .ok (.invokevirtual 484, 3) := by decide +kernel
theorem d_Model_run_149 : decode b_Model_run 149 = .ok (.goto (-18), 3) := by decide +kernel
theorem d_Model_run_152 : decode b_Model_run 152 = .ok (.aload_n 0, 1) := by decide +kernel
theorem d_Model_run_153 : decode b_Model_run 153 = .ok (.aload_n 0, 1) := by decide +kernel
theorem d_Model_run_154 : decode b_Model_run 154 = .ok (.getfield 407, 3) := by decide +kernel
theorem d_Model_run_157 : decode b_Model_run 157 = .ok (.ifCond .ne 12, 3) := by decide +kernel
theorem d_Model_run_160 : decode b_Model_run 160 = .ok (.aload_n 0, 1) := by decide +kernel
theorem d_Model_run_161 : decode b_Model_run 161 = .ok (.getfield 100, 3) := by decide +kernel
theorem d_Model_run_164 : decode b_Model_run 164 = .ok (.iconst 0, 1) := by decide +kernel
theorem d_Model_run_165 : decode b_Model_run 165 = .ok (.iaload, 1) := by decide +kernel
theorem d_Model_run_166 : decode b_Model_run 166 = .ok (.goto 4, 3) := by decide +kernel
theorem d_Model_run_169 : decode b_Model_run 169 = .ok (.iconst 0, 1) := by decide +kernel
theorem d_Model_run_170 : decode b_Model_run 170 = .ok (.putfield 395, 3) := by decide +kernel
theorem d_Model_run_173 : decode b_Model_run 173 = .ok (.aload_n 0, 1) := by decide +kernel
theorem d_Model_run_174 : decode b_Model_run 174 = .ok (.getfield 407, 3) := by decide +kernel
theorem d_Model_run_177 : decode b_Model_run 177 = .ok (.ireturn, 1) := by decide +kernel
def tModel_run_b1 (k : Nat → St → Int32 → Option (Int32 × St)) (σ : St) (x1 : Int32) : Option (Int32 × St) := if (960 : Int32) ≤ x1 then gd (inB (σ.1 34) 500) (gd (inB (σ.1 34) 500) (gd (inB (σ.1 34) 500) (gd (inB (σ.1 34) 500) (b1 (tModel_start (sA (sA (sA (sA (sI (sI (sI (sI (sI (sI (sI (sI σ 46 0) 47 0) 51 0) 50 0) 52 0) 48 0) 49 0) 53 0) 20 (upd (σ.2.2.1 20) (σ.1 34).toNatClampNeg 5)) 21 (upd (σ.2.2.1 21) (σ.1 34).toNatClampNeg 0)) 22 (upd (σ.2.2.1 22) (σ.1 34).toNatClampNeg (-1))) 24 (upd (σ.2.2.1 24) (σ.1 34).toNatClampNeg (σ.1 44))) (σ.1 34)) (fun u8 => k 2 u8 0))))) else gd (inB x1 960) (k 1 (sA σ 39 (upd (σ.2.2.1 39) x1.toNatClampNeg 0)) (x1 + 1))
def tModel_run_b2 (k : Nat → St → Int32 → Option (Int32 × St)) (σ : St) (x1 : Int32) : Option (Int32 × St) := if (σ.1 48) ≤ 0 then k 3 σ 0 else if (σ.1 52) = 0 then b1 (tModel_goOn σ) (fun u12 => k 2 u12 0) else k 3 σ 0
def tModel_run_b3 (k : Nat → St → Int32 → Option (Int32 × St)) (σ : St) (x1 : Int32) : Option (Int32 × St) := if (σ.1 52) = 0 then gd (inB 0 400) (some ((σ.1 52), (sI σ 53 ((σ.2.2.1 43) (0 : Int32).toNatClampNeg)))) else some ((σ.1 52), (sI σ 53 0))
def tModel_run_L : Nat → Nat → St → Int32 → Option (Int32 × St)
  | 0, _, _, _ => none
  | n + 1, lab, σ, x1 => match lab with
    | 1 => tModel_run_b1 (tModel_run_L n) σ x1
    | 2 => tModel_run_b2 (tModel_run_L n) σ x1
    | 3 => tModel_run_b3 (tModel_run_L n) σ x1
    | _ => none
def tModel_run (σ : St) : Option (Int32 × St) := if (σ.1 43) = 0 then b2 (tModel_refuse (sI σ 26 0) 1) (fun r2 u2 => some (r2, u2)) else tModel_run_L 3000000 1 (sI σ 26 0) 0
set_option maxHeartbeats 4000000 in
set_option maxRecDepth 100000 in
theorem tModel_run_blk {p : Program} {e : Env} {s : State} {m : MethodId} {args : Array Value} {below : List Frame} {meth : Method} {c : Code} {A : Nat → Prop} (l : Launch) (dC : Nat → ClassId) (dI : Nat → Nat → Nat) (ad : Nat → Nat) (cA : Nat → ClassId) {r : Int32} {σ' : St} (X : Cx p s m args meth c b_Model_run 2 (some .int) "TinyForgeModel" (dC, dI) (ttys cA) ad A) : ∀ n : Nat, (∀ (σ : St) (x1 : Int32) (H : Heap) (locs : List Loc) (ls : Array Slot), tModel_run_L n 1 σ x1 = some (r, σ') → va_P (dC, dI) vwCl (tcw ad cA σ) H → va_D A (tcw ad cA σ) → va_S A s.heap H locs → lv_has ls 2 [(0, .ref (ad 11)), (1, .int x1)] → W p l e { frames := 6, cells := 0, slots := 0, locals := 133 } s m args below meth c H locs 0 0 (MQ below (QI (dC, dI) (ttys cA) (tcw ad cA) A r σ') args s 0 0 A) (F0 m 20 ls [])) ∧ (∀ (σ : St) (x1 : Int32) (H : Heap) (locs : List Loc) (ls : Array Slot), tModel_run_L n 2 σ x1 = some (r, σ') → va_P (dC, dI) vwCl (tcw ad cA σ) H → va_D A (tcw ad cA σ) → va_S A s.heap H locs → lv_has ls 2 [(0, .ref (ad 11))] → W p l e { frames := 6, cells := 0, slots := 0, locals := 133 } s m args below meth c H locs 0 0 (MQ below (QI (dC, dI) (ttys cA) (tcw ad cA) A r σ') args s 0 0 A) (F0 m 131 ls [])) ∧ (∀ (σ : St) (x1 : Int32) (H : Heap) (locs : List Loc) (ls : Array Slot), tModel_run_L n 3 σ x1 = some (r, σ') → va_P (dC, dI) vwCl (tcw ad cA σ) H → va_D A (tcw ad cA σ) → va_S A s.heap H locs → lv_has ls 2 [(0, .ref (ad 11))] → W p l e { frames := 6, cells := 0, slots := 0, locals := 133 } s m args below meth c H locs 0 0 (MQ below (QI (dC, dI) (ttys cA) (tcw ad cA) A r σ') args s 0 0 A) (F0 m 152 ls [])) := by
  obtain ⟨hx, hb, hr, hml, hown, hlocks, hts, hA, hK, hZ⟩ := id X
  intro n
  induction n with
  | zero => exact ⟨(fun σ x1 H locs ls hF => by cases hF), (fun σ x1 H locs ls hF => by cases hF), (fun σ x1 H locs ls hF => by cases hF)⟩
  | succ n ihn =>
    refine ⟨fun σ x1 H locs ls hF hP hD hS hl => ?_, fun σ x1 H locs ls hF hP hD hS hl => ?_, fun σ x1 H locs ls hF hP hD hS hl => ?_⟩
    · have hF : tModel_run_b1 (tModel_run_L n) σ x1 = some (r, σ') := hF
      unfold tModel_run_b1 at hF
      refine lv_iload_n hx hb d_Model_run_20 rfl (lv_at hl 1 rfl) ?_
      refine lv_sipush (v := 960) hx hb d_Model_run_21 (by decide) ?_
      refine lv_icmp_ge (tgt := 40) hx hb d_Model_run_24 (by decide) (fun c_3 => ?_) (fun c_3 => ?_)
      · have hF := ifp hF c_3
        refine lv_aload_n hx hb d_Model_run_40 rfl (lv_at hl 0 rfl) ?_
        refine lv_iconst (v := 0) hx hb d_Model_run_41 (by decide) ?_
        refine va_put (D := (dC, dI)) (ci := 11) (v := .int 0) (ty := .int) hx hb hts i_Model t_Model t_Model_ok n_Model hown hK hP hD hS 11 rfl rfl 42 (by decide) (hts _ w_cb7d6dd651) (fun _ h9 => h9) rfl (by decide +kernel) rfl rfl (Nat.le_of_ble_eq_true rfl) d_Model_run_42 (fun H locs hP hD hS => ?_)
        have hP : va_P (dC, dI) vwCl (tcw ad cA (sI σ 46 0)) H := hP
        have hD : va_D A (tcw ad cA (sI σ 46 0)) := hD
        refine lv_aload_n hx hb d_Model_run_45 rfl (lv_at hl 0 rfl) ?_
        refine lv_iconst (v := 0) hx hb d_Model_run_46 (by decide) ?_
        refine va_put (D := (dC, dI)) (ci := 11) (v := .int 0) (ty := .int) hx hb hts i_Model t_Model t_Model_ok n_Model hown hK hP hD hS 11 rfl rfl 43 (by decide) (hts _ w_51088924d7) (fun _ h9 => h9) rfl (by decide +kernel) rfl rfl (Nat.le_of_ble_eq_true rfl) d_Model_run_47 (fun H locs hP hD hS => ?_)
        have hP : va_P (dC, dI) vwCl (tcw ad cA (sI (sI σ 46 0) 47 0)) H := hP
        have hD : va_D A (tcw ad cA (sI (sI σ 46 0) 47 0)) := hD
        refine lv_aload_n hx hb d_Model_run_50 rfl (lv_at hl 0 rfl) ?_
        refine lv_iconst (v := 0) hx hb d_Model_run_51 (by decide) ?_
        refine va_put (D := (dC, dI)) (ci := 11) (v := .int 0) (ty := .int) hx hb hts i_Model t_Model t_Model_ok n_Model hown hK hP hD hS 11 rfl rfl 47 (by decide) (hts _ w_d3c148b780) (fun _ h9 => h9) rfl (by decide +kernel) rfl rfl (Nat.le_of_ble_eq_true rfl) d_Model_run_52 (fun H locs hP hD hS => ?_)
        have hP : va_P (dC, dI) vwCl (tcw ad cA (sI (sI (sI σ 46 0) 47 0) 51 0)) H := hP
        have hD : va_D A (tcw ad cA (sI (sI (sI σ 46 0) 47 0) 51 0)) := hD
        refine lv_aload_n hx hb d_Model_run_55 rfl (lv_at hl 0 rfl) ?_
        refine lv_iconst (v := 0) hx hb d_Model_run_56 (by decide) ?_
        refine va_put (D := (dC, dI)) (ci := 11) (v := .int 0) (ty := .int) hx hb hts i_Model t_Model t_Model_ok n_Model hown hK hP hD hS 11 rfl rfl 46 (by decide) (hts _ w_bff6745645) (fun _ h9 => h9) rfl (by decide +kernel) rfl rfl (Nat.le_of_ble_eq_true rfl) d_Model_run_57 (fun H locs hP hD hS => ?_)
        have hP : va_P (dC, dI) vwCl (tcw ad cA (sI (sI (sI (sI σ 46 0) 47 0) 51 0) 50 0)) H := hP
        have hD : va_D A (tcw ad cA (sI (sI (sI (sI σ 46 0) 47 0) 51 0) 50 0)) := hD
        refine lv_aload_n hx hb d_Model_run_60 rfl (lv_at hl 0 rfl) ?_
        refine lv_iconst (v := 0) hx hb d_Model_run_61 (by decide) ?_
        refine va_put (D := (dC, dI)) (ci := 11) (v := .int 0) (ty := .int) hx hb hts i_Model t_Model t_Model_ok n_Model hown hK hP hD hS 11 rfl rfl 48 (by decide) (hts _ w_b82ca3c944) (fun _ h9 => h9) rfl (by decide +kernel) rfl rfl (Nat.le_of_ble_eq_true rfl) d_Model_run_62 (fun H locs hP hD hS => ?_)
        have hP : va_P (dC, dI) vwCl (tcw ad cA (sI (sI (sI (sI (sI σ 46 0) 47 0) 51 0) 50 0) 52 0)) H := hP
        have hD : va_D A (tcw ad cA (sI (sI (sI (sI (sI σ 46 0) 47 0) 51 0) 50 0) 52 0)) := hD
        refine lv_aload_n hx hb d_Model_run_65 rfl (lv_at hl 0 rfl) ?_
        refine lv_iconst (v := 0) hx hb d_Model_run_66 (by decide) ?_
        refine va_put (D := (dC, dI)) (ci := 11) (v := .int 0) (ty := .int) hx hb hts i_Model t_Model t_Model_ok n_Model hown hK hP hD hS 11 rfl rfl 44 (by decide) (hts _ w_0f4138ce03) (fun _ h9 => h9) rfl (by decide +kernel) rfl rfl (Nat.le_of_ble_eq_true rfl) d_Model_run_67 (fun H locs hP hD hS => ?_)
        have hP : va_P (dC, dI) vwCl (tcw ad cA (sI (sI (sI (sI (sI (sI σ 46 0) 47 0) 51 0) 50 0) 52 0) 48 0)) H := hP
        have hD : va_D A (tcw ad cA (sI (sI (sI (sI (sI (sI σ 46 0) 47 0) 51 0) 50 0) 52 0) 48 0)) := hD
        refine lv_aload_n hx hb d_Model_run_70 rfl (lv_at hl 0 rfl) ?_
        refine lv_iconst (v := 0) hx hb d_Model_run_71 (by decide) ?_
        refine va_put (D := (dC, dI)) (ci := 11) (v := .int 0) (ty := .int) hx hb hts i_Model t_Model t_Model_ok n_Model hown hK hP hD hS 11 rfl rfl 45 (by decide) (hts _ w_4548f44b3d) (fun _ h9 => h9) rfl (by decide +kernel) rfl rfl (Nat.le_of_ble_eq_true rfl) d_Model_run_72 (fun H locs hP hD hS => ?_)
        have hP : va_P (dC, dI) vwCl (tcw ad cA (sI (sI (sI (sI (sI (sI (sI σ 46 0) 47 0) 51 0) 50 0) 52 0) 48 0) 49 0)) H := hP
        have hD : va_D A (tcw ad cA (sI (sI (sI (sI (sI (sI (sI σ 46 0) 47 0) 51 0) 50 0) 52 0) 48 0) 49 0)) := hD
        refine lv_aload_n hx hb d_Model_run_75 rfl (lv_at hl 0 rfl) ?_
        refine lv_iconst (v := 0) hx hb d_Model_run_76 (by decide) ?_
        refine va_put (D := (dC, dI)) (ci := 11) (v := .int 0) (ty := .int) hx hb hts i_Model t_Model t_Model_ok n_Model hown hK hP hD hS 11 rfl rfl 49 (by decide) (hts _ w_718e9fab69) (fun _ h9 => h9) rfl (by decide +kernel) rfl rfl (Nat.le_of_ble_eq_true rfl) d_Model_run_77 (fun H locs hP hD hS => ?_)
        have hP : va_P (dC, dI) vwCl (tcw ad cA (sI (sI (sI (sI (sI (sI (sI (sI σ 46 0) 47 0) 51 0) 50 0) 52 0) 48 0) 49 0) 53 0)) H := hP
        have hD : va_D A (tcw ad cA (sI (sI (sI (sI (sI (sI (sI (sI σ 46 0) 47 0) 51 0) 50 0) 52 0) 48 0) 49 0) 53 0)) := hD
        refine lv_aload_n hx hb d_Model_run_80 rfl (lv_at hl 0 rfl) ?_
        refine va_get (D := (dC, dI)) (ci := 11) (v := .ref (ad 35)) hx hb hts i_Model hown hK hP 11 rfl rfl 14 (by decide) (hts _ w_0e6df3fb4c) (fun _ h9 => h9) rfl d_Model_run_81 ?_
        refine lv_aload_n hx hb d_Model_run_84 rfl (lv_at hl 0 rfl) ?_
        refine va_get (D := (dC, dI)) (ci := 11) (v := .int (σ.1 34)) hx hb hts i_Model hown hK hP 11 rfl rfl 13 (by decide) (hts _ w_1bd792ecf8) (fun _ h9 => h9) rfl d_Model_run_85 ?_
        refine lv_iconst (v := 5) hx hb d_Model_run_88 (by decide) ?_
        obtain ⟨g_4, hF⟩ := gdE hF
        refine va_iast (f := (σ.2.2.1 20)) hx hb hK hP hD hS 35 0 rfl rfl (inE g_4) d_Model_run_89 (fun H locs hP hD hS => ?_)
        have hP : va_P (dC, dI) vwCl (tcw ad cA (sA (sI (sI (sI (sI (sI (sI (sI (sI σ 46 0) 47 0) 51 0) 50 0) 52 0) 48 0) 49 0) 53 0) 20 (upd (σ.2.2.1 20) (σ.1 34).toNatClampNeg 5))) H := hP
        have hD : va_D A (tcw ad cA (sA (sI (sI (sI (sI (sI (sI (sI (sI σ 46 0) 47 0) 51 0) 50 0) 52 0) 48 0) 49 0) 53 0) 20 (upd (σ.2.2.1 20) (σ.1 34).toNatClampNeg 5))) := hD
        refine lv_aload_n hx hb d_Model_run_90 rfl (lv_at hl 0 rfl) ?_
        refine va_get (D := (dC, dI)) (ci := 11) (v := .ref (ad 36)) hx hb hts i_Model hown hK hP 11 rfl rfl 15 (by decide) (hts _ w_70f5434828) (fun _ h9 => h9) rfl d_Model_run_91 ?_
        refine lv_aload_n hx hb d_Model_run_94 rfl (lv_at hl 0 rfl) ?_
        refine va_get (D := (dC, dI)) (ci := 11) (v := .int (σ.1 34)) hx hb hts i_Model hown hK hP 11 rfl rfl 13 (by decide) (hts _ w_1bd792ecf8) (fun _ h9 => h9) rfl d_Model_run_95 ?_
        refine lv_iconst (v := 0) hx hb d_Model_run_98 (by decide) ?_
        obtain ⟨g_5, hF⟩ := gdE hF
        refine va_iast (f := (σ.2.2.1 21)) hx hb hK hP hD hS 36 0 rfl rfl (inE g_5) d_Model_run_99 (fun H locs hP hD hS => ?_)
        have hP : va_P (dC, dI) vwCl (tcw ad cA (sA (sA (sI (sI (sI (sI (sI (sI (sI (sI σ 46 0) 47 0) 51 0) 50 0) 52 0) 48 0) 49 0) 53 0) 20 (upd (σ.2.2.1 20) (σ.1 34).toNatClampNeg 5)) 21 (upd (σ.2.2.1 21) (σ.1 34).toNatClampNeg 0))) H := hP
        have hD : va_D A (tcw ad cA (sA (sA (sI (sI (sI (sI (sI (sI (sI (sI σ 46 0) 47 0) 51 0) 50 0) 52 0) 48 0) 49 0) 53 0) 20 (upd (σ.2.2.1 20) (σ.1 34).toNatClampNeg 5)) 21 (upd (σ.2.2.1 21) (σ.1 34).toNatClampNeg 0))) := hD
        refine lv_aload_n hx hb d_Model_run_100 rfl (lv_at hl 0 rfl) ?_
        refine va_get (D := (dC, dI)) (ci := 11) (v := .ref (ad 37)) hx hb hts i_Model hown hK hP 11 rfl rfl 16 (by decide) (hts _ w_b1c1a5a9de) (fun _ h9 => h9) rfl d_Model_run_101 ?_
        refine lv_aload_n hx hb d_Model_run_104 rfl (lv_at hl 0 rfl) ?_
        refine va_get (D := (dC, dI)) (ci := 11) (v := .int (σ.1 34)) hx hb hts i_Model hown hK hP 11 rfl rfl 13 (by decide) (hts _ w_1bd792ecf8) (fun _ h9 => h9) rfl d_Model_run_105 ?_
        refine lv_iconst (v := (-1)) hx hb d_Model_run_108 (by decide) ?_
        obtain ⟨g_6, hF⟩ := gdE hF
        refine va_iast (f := (σ.2.2.1 22)) hx hb hK hP hD hS 37 0 rfl rfl (inE g_6) d_Model_run_109 (fun H locs hP hD hS => ?_)
        have hP : va_P (dC, dI) vwCl (tcw ad cA (sA (sA (sA (sI (sI (sI (sI (sI (sI (sI (sI σ 46 0) 47 0) 51 0) 50 0) 52 0) 48 0) 49 0) 53 0) 20 (upd (σ.2.2.1 20) (σ.1 34).toNatClampNeg 5)) 21 (upd (σ.2.2.1 21) (σ.1 34).toNatClampNeg 0)) 22 (upd (σ.2.2.1 22) (σ.1 34).toNatClampNeg (-1)))) H := hP
        have hD : va_D A (tcw ad cA (sA (sA (sA (sI (sI (sI (sI (sI (sI (sI (sI σ 46 0) 47 0) 51 0) 50 0) 52 0) 48 0) 49 0) 53 0) 20 (upd (σ.2.2.1 20) (σ.1 34).toNatClampNeg 5)) 21 (upd (σ.2.2.1 21) (σ.1 34).toNatClampNeg 0)) 22 (upd (σ.2.2.1 22) (σ.1 34).toNatClampNeg (-1)))) := hD
        refine lv_aload_n hx hb d_Model_run_110 rfl (lv_at hl 0 rfl) ?_
        refine va_get (D := (dC, dI)) (ci := 11) (v := .ref (ad 39)) hx hb hts i_Model hown hK hP 11 rfl rfl 18 (by decide) (hts _ w_7d7d4091fc) (fun _ h9 => h9) rfl d_Model_run_111 ?_
        refine lv_aload_n hx hb d_Model_run_114 rfl (lv_at hl 0 rfl) ?_
        refine va_get (D := (dC, dI)) (ci := 11) (v := .int (σ.1 34)) hx hb hts i_Model hown hK hP 11 rfl rfl 13 (by decide) (hts _ w_1bd792ecf8) (fun _ h9 => h9) rfl d_Model_run_115 ?_
        refine lv_aload_n hx hb d_Model_run_118 rfl (lv_at hl 0 rfl) ?_
        refine va_get (D := (dC, dI)) (ci := 11) (v := .int (σ.1 44)) hx hb hts i_Model hown hK hP 11 rfl rfl 40 (by decide) (hts _ w_a988adadb4) (fun _ h9 => h9) rfl d_Model_run_119 ?_
        obtain ⟨g_7, hF⟩ := gdE hF
        refine va_iast (f := (σ.2.2.1 24)) hx hb hK hP hD hS 39 0 rfl rfl (inE g_7) d_Model_run_122 (fun H locs hP hD hS => ?_)
        have hP : va_P (dC, dI) vwCl (tcw ad cA (sA (sA (sA (sA (sI (sI (sI (sI (sI (sI (sI (sI σ 46 0) 47 0) 51 0) 50 0) 52 0) 48 0) 49 0) 53 0) 20 (upd (σ.2.2.1 20) (σ.1 34).toNatClampNeg 5)) 21 (upd (σ.2.2.1 21) (σ.1 34).toNatClampNeg 0)) 22 (upd (σ.2.2.1 22) (σ.1 34).toNatClampNeg (-1))) 24 (upd (σ.2.2.1 24) (σ.1 34).toNatClampNeg (σ.1 44)))) H := hP
        have hD : va_D A (tcw ad cA (sA (sA (sA (sA (sI (sI (sI (sI (sI (sI (sI (sI σ 46 0) 47 0) 51 0) 50 0) 52 0) 48 0) 49 0) 53 0) 20 (upd (σ.2.2.1 20) (σ.1 34).toNatClampNeg 5)) 21 (upd (σ.2.2.1 21) (σ.1 34).toNatClampNeg 0)) 22 (upd (σ.2.2.1 22) (σ.1 34).toNatClampNeg (-1))) 24 (upd (σ.2.2.1 24) (σ.1 34).toNatClampNeg (σ.1 44)))) := hD
        refine lv_aload_n hx hb d_Model_run_123 rfl (lv_at hl 0 rfl) ?_
        refine lv_aload_n hx hb d_Model_run_124 rfl (lv_at hl 0 rfl) ?_
        refine va_get (D := (dC, dI)) (ci := 11) (v := .int (σ.1 34)) hx hb hts i_Model hown hK hP 11 rfl rfl 13 (by decide) (hts _ w_1bd792ecf8) (fun _ h9 => h9) rfl d_Model_run_125 ?_
        obtain ⟨u8, h8, hF⟩ := b1E hF
        refine callVV (As := [.int (σ.1 34)]) X (ct_Model_start l dC dI ad cA H.size h8) lk_Model_418 ⟨rfl, rfl, by decide, by decide⟩ 11 rfl rfl hP hD hS hl.1 rfl rfl (Nat.le_of_ble_eq_true rfl) d_Model_run_128 (fun H locs hP hD hS => ?_)
        exact ihn.2.1 u8 0 H locs ls hF hP hD hS (lv_sub hl [0] rfl)
      · have hF := ifn hF c_3
        refine lv_aload_n hx hb d_Model_run_27 rfl (lv_at hl 0 rfl) ?_
        refine va_get (D := (dC, dI)) (ci := 11) (v := .ref (ad 54)) hx hb hts i_Model hown hK hP 11 rfl rfl 52 (by decide) (hts _ w_639930e084) (fun _ h9 => h9) rfl d_Model_run_28 ?_
        refine lv_iload_n hx hb d_Model_run_31 rfl (lv_at hl 1 rfl) ?_
        refine lv_iconst (v := 0) hx hb d_Model_run_32 (by decide) ?_
        obtain ⟨g_9, hF⟩ := gdE hF
        refine va_iast (f := (σ.2.2.1 39)) hx hb hK hP hD hS 54 0 rfl rfl (inE g_9) d_Model_run_33 (fun H locs hP hD hS => ?_)
        have hP : va_P (dC, dI) vwCl (tcw ad cA (sA σ 39 (upd (σ.2.2.1 39) x1.toNatClampNeg 0))) H := hP
        have hD : va_D A (tcw ad cA (sA σ 39 (upd (σ.2.2.1 39) x1.toNatClampNeg 0))) := hD
        refine lv_iinc (v := (x1 + 1)) (lv' := [(1, .int (x1 + 1)), (0, .ref (ad 11))]) hx hb d_Model_run_34 hl (k := 1) rfl rfl (by decide) rfl (fun ls hl => ?_)
        refine lv_goto (tgt := 20) hx hb d_Model_run_37 (by decide) ?_
        exact ihn.1 (sA σ 39 (upd (σ.2.2.1 39) x1.toNatClampNeg 0)) (x1 + 1) H locs ls hF hP hD hS (lv_sub hl [1, 0] rfl)
    · have hF : tModel_run_b2 (tModel_run_L n) σ x1 = some (r, σ') := hF
      unfold tModel_run_b2 at hF
      refine lv_aload_n hx hb d_Model_run_131 rfl (lv_at hl 0 rfl) ?_
      refine va_get (D := (dC, dI)) (ci := 11) (v := .int (σ.1 48)) hx hb hts i_Model hown hK hP 11 rfl rfl 44 (by decide) (hts _ w_0f4138ce03) (fun _ h9 => h9) rfl d_Model_run_132 ?_
      refine lv_if_le (tgt := 152) hx hb d_Model_run_135 (by decide) (fun c_10 => ?_) (fun c_10 => ?_)
      · have hF := ifp hF c_10
        exact ihn.2.2 σ 0 H locs ls hF hP hD hS (lv_sub hl [0] rfl)
      · have hF := ifn hF c_10
        refine lv_aload_n hx hb d_Model_run_138 rfl (lv_at hl 0 rfl) ?_
        refine va_get (D := (dC, dI)) (ci := 11) (v := .int (σ.1 52)) hx hb hts i_Model hown hK hP 11 rfl rfl 48 (by decide) (hts _ w_b82ca3c944) (fun _ h9 => h9) rfl d_Model_run_139 ?_
        refine lv_if_ne (tgt := 152) hx hb d_Model_run_142 (by decide) (fun c_11 => ?_) (fun c_11 => ?_)
        · have hF := ifn hF c_11
          exact ihn.2.2 σ 0 H locs ls hF hP hD hS (lv_sub hl [0] rfl)
        · have hF := ifp hF c_11
          refine lv_aload_n hx hb d_Model_run_145 rfl (lv_at hl 0 rfl) ?_
          obtain ⟨u12, h12, hF⟩ := b1E hF
          refine callVV (As := []) X (ct_Model_goOn l dC dI ad cA H.size h12) lk_Model_484 ⟨rfl, rfl, by decide, by decide⟩ 11 rfl rfl hP hD hS hl.1 rfl rfl (Nat.le_of_ble_eq_true rfl) d_Model_run_146 (fun H locs hP hD hS => ?_)
          refine lv_goto (tgt := 131) hx hb d_Model_run_149 (by decide) ?_
          exact ihn.2.1 u12 0 H locs ls hF hP hD hS (lv_sub hl [0] rfl)
    · have hF : tModel_run_b3 (tModel_run_L n) σ x1 = some (r, σ') := hF
      unfold tModel_run_b3 at hF
      refine lv_aload_n hx hb d_Model_run_152 rfl (lv_at hl 0 rfl) ?_
      refine lv_aload_n hx hb d_Model_run_153 rfl (lv_at hl 0 rfl) ?_
      refine va_get (D := (dC, dI)) (ci := 11) (v := .int (σ.1 52)) hx hb hts i_Model hown hK hP 11 rfl rfl 48 (by decide) (hts _ w_b82ca3c944) (fun _ h9 => h9) rfl d_Model_run_154 ?_
      refine lv_if_ne (tgt := 169) hx hb d_Model_run_157 (by decide) (fun c_13 => ?_) (fun c_13 => ?_)
      · have hF := ifn hF c_13
        refine lv_iconst (v := 0) hx hb d_Model_run_169 (by decide) ?_
        refine va_put (D := (dC, dI)) (ci := 11) (v := .int 0) (ty := .int) hx hb hts i_Model t_Model t_Model_ok n_Model hown hK hP hD hS 11 rfl rfl 49 (by decide) (hts _ w_718e9fab69) (fun _ h9 => h9) rfl (by decide +kernel) rfl rfl (Nat.le_of_ble_eq_true rfl) d_Model_run_170 (fun H locs hP hD hS => ?_)
        have hP : va_P (dC, dI) vwCl (tcw ad cA (sI σ 53 0)) H := hP
        have hD : va_D A (tcw ad cA (sI σ 53 0)) := hD
        refine lv_aload_n hx hb d_Model_run_173 rfl (lv_at hl 0 rfl) ?_
        refine va_get (D := (dC, dI)) (ci := 11) (v := .int (σ.1 52)) hx hb hts i_Model hown hK hP 11 rfl rfl 48 (by decide) (hts _ w_b82ca3c944) (fun _ h9 => h9) rfl d_Model_run_174 ?_
        cases hF
        exact leafI X hP hD hS d_Model_run_177
      · have hF := ifp hF c_13
        refine lv_aload_n hx hb d_Model_run_160 rfl (lv_at hl 0 rfl) ?_
        refine va_get (D := (dC, dI)) (ci := 11) (v := .ref (ad 58)) hx hb hts i_Model hown hK hP 11 rfl rfl 56 (by decide) (hts _ w_4a342e2c2d) (fun _ h9 => h9) rfl d_Model_run_161 ?_
        refine lv_iconst (v := 0) hx hb d_Model_run_164 (by decide) ?_
        obtain ⟨g_14, hF⟩ := gdE hF
        refine va_iald (f := (σ.2.2.1 43)) hx hb hK hP 58 0 rfl rfl (inE g_14) d_Model_run_165 ?_
        refine lv_goto (tgt := 170) hx hb d_Model_run_166 (by decide) ?_
        refine va_put (D := (dC, dI)) (ci := 11) (v := .int ((σ.2.2.1 43) (0 : Int32).toNatClampNeg)) (ty := .int) hx hb hts i_Model t_Model t_Model_ok n_Model hown hK hP hD hS 11 rfl rfl 49 (by decide) (hts _ w_718e9fab69) (fun _ h9 => h9) rfl (by decide +kernel) rfl rfl (Nat.le_of_ble_eq_true rfl) d_Model_run_170 (fun H locs hP hD hS => ?_)
        have hP : va_P (dC, dI) vwCl (tcw ad cA (sI σ 53 ((σ.2.2.1 43) (0 : Int32).toNatClampNeg))) H := hP
        have hD : va_D A (tcw ad cA (sI σ 53 ((σ.2.2.1 43) (0 : Int32).toNatClampNeg))) := hD
        refine lv_aload_n hx hb d_Model_run_173 rfl (lv_at hl 0 rfl) ?_
        refine va_get (D := (dC, dI)) (ci := 11) (v := .int (σ.1 52)) hx hb hts i_Model hown hK hP 11 rfl rfl 48 (by decide) (hts _ w_b82ca3c944) (fun _ h9 => h9) rfl d_Model_run_174 ?_
        cases hF
        exact leafI X hP hD hS d_Model_run_177
set_option maxHeartbeats 4000000 in
set_option maxRecDepth 100000 in
theorem ct_Model_run (l : Launch) (dC : Nat → ClassId) (dI : Nat → Nat → Nat) (ad : Nat → Nat) (cA : Nat → ClassId) (sz : Nat) {σ : St} {r : Int32} {σ' : St} (hF : tModel_run σ = some (r, σ')) : MI l y_Model_run b_Model_run 2 (some .int) { frames := 6, cells := 0, slots := 0, locals := 133 } (dC, dI) (ttys cA) ad (tcw ad cA) [.ref (ad 11)] σ sz r σ' := by
  refine startM (own := "TinyForgeModel") (Qc := fun A => QI (dC, dI) (ttys cA) (tcw ad cA) A r σ') rfl rfl (Nat.le_of_ble_eq_true rfl) ?_
  intro p e s m below meth c A H locs ls X hP hD hS hl
  have hl : lv_has ls 2 [(0, .ref (ad 11))] := hl
  obtain ⟨hx, hb, hr, hml, hown, hlocks, hts, hA, hK, hZ⟩ := id X
  unfold tModel_run at hF
  refine lv_aload_n hx hb d_Model_run_0 rfl (lv_at hl 0 rfl) ?_
  refine lv_iconst (v := 0) hx hb d_Model_run_1 (by decide) ?_
  refine va_put (D := (dC, dI)) (ci := 11) (v := .int 0) (ty := .int) hx hb hts i_Model t_Model t_Model_ok n_Model hown hK hP hD hS 11 rfl rfl 0 (by decide) (hts _ w_06eb2805f0) (fun _ h9 => h9) rfl (by decide +kernel) rfl rfl (Nat.le_of_ble_eq_true rfl) d_Model_run_2 (fun H locs hP hD hS => ?_)
  have hP : va_P (dC, dI) vwCl (tcw ad cA (sI σ 26 0)) H := hP
  have hD : va_D A (tcw ad cA (sI σ 26 0)) := hD
  refine lv_aload_n hx hb d_Model_run_5 rfl (lv_at hl 0 rfl) ?_
  refine va_get (D := (dC, dI)) (ci := 11) (v := .int (σ.1 43)) hx hb hts i_Model hown hK hP 11 rfl rfl 39 (by decide) (hts _ w_efe796b1bb) (fun _ h9 => h9) rfl d_Model_run_6 ?_
  refine lv_if_ne (tgt := 18) hx hb d_Model_run_9 (by decide) (fun c_1 => ?_) (fun c_1 => ?_)
  · have hF := ifn hF c_1
    refine lv_iconst (v := 0) hx hb d_Model_run_18 (by decide) ?_
    refine lv_istore_n (lv' := [(1, .int 0), (0, .ref (ad 11))]) hx hb d_Model_run_19 rfl hl (by decide) rfl (fun ls hl => ?_)
    exact (tModel_run_blk l dC dI ad cA X 3000000).1 (sI σ 26 0) 0 H locs ls hF hP hD hS (lv_sub hl [1, 0] rfl)
  · have hF := ifp hF c_1
    refine lv_aload_n hx hb d_Model_run_12 rfl (lv_at hl 0 rfl) ?_
    refine lv_iconst (v := 1) hx hb d_Model_run_13 (by decide) ?_
    obtain ⟨r2, u2, h2, hF⟩ := b2E hF
    refine callVI (As := [.int 1]) X (ct_Model_refuse l dC dI ad cA H.size h2) lk_Model_106 ⟨rfl, rfl, by decide, by decide⟩ 11 rfl rfl hP hD hS hl.1 rfl rfl (Nat.le_of_ble_eq_true rfl) d_Model_run_14 (fun H locs hP hD hS => ?_)
    cases hF
    exact leafI X hP hD hS d_Model_run_17
theorem d_Model_thrown_0 : decode b_Model_thrown 0 = .ok (.aload_n 0, 1) := by decide +kernel
theorem d_Model_thrown_1 : decode b_Model_thrown 1 = .ok (.getfield 103, 3) := by decide +kernel
theorem d_Model_thrown_4 : decode b_Model_thrown 4 = .ok (.ireturn, 1) := by decide +kernel
def tModel_thrown (σ : St) : Option (Int32) := some (σ.1 26)
set_option maxHeartbeats 4000000 in
set_option maxRecDepth 100000 in
theorem ct_Model_thrown (l : Launch) (dC : Nat → ClassId) (dI : Nat → Nat → Nat) (ad : Nat → Nat) (cA : Nat → ClassId) (sz : Nat) {σ : St} {r : Int32} (hF : tModel_thrown σ = some r) : MI l y_Model_thrown b_Model_thrown 1 (some .int) { frames := 0, cells := 0, slots := 0, locals := 0 } (dC, dI) (ttys cA) ad (tcw ad cA) [.ref (ad 11)] σ sz r σ := by
  refine startM (own := "TinyForgeModel") (Qc := fun A => QI (dC, dI) (ttys cA) (tcw ad cA) A r σ) rfl rfl (Nat.le_of_ble_eq_true rfl) ?_
  intro p e s m below meth c A H locs ls X hP hD hS hl
  have hl : lv_has ls 1 [(0, .ref (ad 11))] := hl
  obtain ⟨hx, hb, hr, hml, hown, hlocks, hts, hA, hK, hZ⟩ := id X
  unfold tModel_thrown at hF
  refine lv_aload_n hx hb d_Model_thrown_0 rfl (lv_at hl 0 rfl) ?_
  refine va_get (D := (dC, dI)) (ci := 11) (v := .int (σ.1 26)) hx hb hts i_Model hown hK hP 11 rfl rfl 0 (by decide) (hts _ w_06eb2805f0) (fun _ h9 => h9) rfl d_Model_thrown_1 ?_
  cases hF
  exact leafI X hP hD hS d_Model_thrown_4
theorem d_Model_ticks_0 : decode b_Model_ticks 0 = .ok (.aload_n 0, 1) := by decide +kernel
theorem d_Model_ticks_1 : decode b_Model_ticks 1 = .ok (.iconst 0, 1) := by decide +kernel
theorem d_Model_ticks_2 : decode b_Model_ticks 2 = .ok (.putfield 103, 3) := by decide +kernel
theorem d_Model_ticks_5 : decode b_Model_ticks 5 = .ok (.aload_n 0, 1) := by decide +kernel
theorem d_Model_ticks_6 : decode b_Model_ticks 6 = .ok (.getfield 392, 3) := by decide +kernel
theorem d_Model_ticks_9 : decode b_Model_ticks 9 = .ok (.ireturn, 1) := by decide +kernel
def tModel_ticks (σ : St) : Option (Int32 × St) := some ((σ.1 51), (sI σ 26 0))
set_option maxHeartbeats 4000000 in
set_option maxRecDepth 100000 in
theorem ct_Model_ticks (l : Launch) (dC : Nat → ClassId) (dI : Nat → Nat → Nat) (ad : Nat → Nat) (cA : Nat → ClassId) (sz : Nat) {σ : St} {r : Int32} {σ' : St} (hF : tModel_ticks σ = some (r, σ')) : MI l y_Model_ticks b_Model_ticks 1 (some .int) { frames := 0, cells := 0, slots := 0, locals := 0 } (dC, dI) (ttys cA) ad (tcw ad cA) [.ref (ad 11)] σ sz r σ' := by
  refine startM (own := "TinyForgeModel") (Qc := fun A => QI (dC, dI) (ttys cA) (tcw ad cA) A r σ') rfl rfl (Nat.le_of_ble_eq_true rfl) ?_
  intro p e s m below meth c A H locs ls X hP hD hS hl
  have hl : lv_has ls 1 [(0, .ref (ad 11))] := hl
  obtain ⟨hx, hb, hr, hml, hown, hlocks, hts, hA, hK, hZ⟩ := id X
  unfold tModel_ticks at hF
  refine lv_aload_n hx hb d_Model_ticks_0 rfl (lv_at hl 0 rfl) ?_
  refine lv_iconst (v := 0) hx hb d_Model_ticks_1 (by decide) ?_
  refine va_put (D := (dC, dI)) (ci := 11) (v := .int 0) (ty := .int) hx hb hts i_Model t_Model t_Model_ok n_Model hown hK hP hD hS 11 rfl rfl 0 (by decide) (hts _ w_06eb2805f0) (fun _ h9 => h9) rfl (by decide +kernel) rfl rfl (Nat.le_of_ble_eq_true rfl) d_Model_ticks_2 (fun H locs hP hD hS => ?_)
  have hP : va_P (dC, dI) vwCl (tcw ad cA (sI σ 26 0)) H := hP
  have hD : va_D A (tcw ad cA (sI σ 26 0)) := hD
  refine lv_aload_n hx hb d_Model_ticks_5 rfl (lv_at hl 0 rfl) ?_
  refine va_get (D := (dC, dI)) (ci := 11) (v := .int (σ.1 51)) hx hb hts i_Model hown hK hP 11 rfl rfl 47 (by decide) (hts _ w_d3c148b780) (fun _ h9 => h9) rfl d_Model_ticks_6 ?_
  cases hF
  exact leafI X hP hD hS d_Model_ticks_9
theorem d_Model_type_0 : decode b_Model_type 0 = .ok (.aload_n 0, 1) := by decide +kernel
theorem d_Model_type_1 : decode b_Model_type 1 = .ok (.iconst 0, 1) := by decide +kernel
theorem d_Model_type_2 : decode b_Model_type 2 = .ok (.putfield 103, 3) := by decide +kernel
theorem d_Model_type_5 : decode b_Model_type 5 = .ok (.iload_n 3, 1) := by decide +kernel
theorem d_Model_type_6 : decode b_Model_type 6 = .ok (.iconst 1, 1) := by decide +kernel
theorem d_Model_type_7 : decode b_Model_type 7 = .ok (.if_icmp .lt 9, 3) := by decide +kernel
theorem d_Model_type_10 : decode b_Model_type 10 = .ok (.iload_n 3, 1) := by decide +kernel
theorem d_Model_type_11 : decode b_Model_type 11 = .ok (.bipush 8, 2) := by decide +kernel
theorem d_Model_type_13 : decode b_Model_type 13 = .ok (.if_icmp .le 9, 3) := by decide +kernel
theorem d_Model_type_16 : decode b_Model_type 16 = .ok (.aload_n 0, 1) := by decide +kernel
theorem d_Model_type_17 : decode b_Model_type 17 = .ok (.iconst 1, 1) := by decide +kernel
theorem d_Model_type_18 : decode b_Model_type 18 = .ok (.invokevirtual 106, 3) := by decide +kernel
theorem d_Model_type_21 : decode b_Model_type 21 = .ok (.ireturn, 1) := by decide +kernel
theorem d_Model_type_22 : decode b_Model_type 22 = .ok (.iconst 0, 1) := by decide +kernel
theorem d_Model_type_23 : decode b_Model_type 23 = .ok (.istore 4, 2) := by decide +kernel
theorem d_Model_type_25 : decode b_Model_type 25 = .ok (.iload 4, 2) := by decide +kernel
theorem d_Model_type_27 : decode b_Model_type 27 = .ok (.iload_n 3, 1) := by decide +kernel
theorem d_Model_type_28 : decode b_Model_type 28 = .ok (.if_icmp .ge 55, 3) := by decide +kernel
theorem d_Model_type_31 : decode b_Model_type 31 = .ok (.lload_n 1, 1) := by decide +kernel
theorem d_Model_type_32 : decode b_Model_type 32 = .ok (.bipush 8, 2) := by decide +kernel
theorem d_Model_type_34 : decode b_Model_type 34 = .ok (.iload 4, 2) := by decide +kernel
theorem d_Model_type_36 : decode b_Model_type 36 = .ok (.imul, 1) := by decide +kernel
theorem d_Model_type_37 : decode b_Model_type 37 = .ok (.lshr, 1) := by decide +kernel
theorem d_Model_type_38 : decode b_Model_type 38 = .ok (.ldc2_w 110, 3) := by decide +kernel
theorem d_Model_type_41 : decode b_Model_type 41 = .ok (.land, 1) := by decide +kernel
theorem d_Model_type_42 : decode b_Model_type 42 = .ok (.lstore 5, 2) := by decide +kernel
theorem d_Model_type_44 : decode b_Model_type 44 = .ok (.lload 5, 2) := by decide +kernel
theorem d_Model_type_46 : decode b_Model_type 46 = .ok (.ldc2_w 112, 3) := by decide +kernel
theorem d_Model_type_49 : decode b_Model_type 49 = .ok (.lcmp, 1) := by decide +kernel
theorem d_Model_type_50 : decode b_Model_type 50 = .ok (.ifCond .eq 27, 3) := by decide +kernel
theorem d_Model_type_53 : decode b_Model_type 53 = .ok (.lload 5, 2) := by decide +kernel
theorem d_Model_type_55 : decode b_Model_type 55 = .ok (.ldc2_w 114, 3) := by decide +kernel
theorem d_Model_type_58 : decode b_Model_type 58 = .ok (.lcmp, 1) := by decide +kernel
theorem d_Model_type_59 : decode b_Model_type 59 = .ok (.ifCond .lt 12, 3) := by decide +kernel
theorem d_Model_type_62 : decode b_Model_type 62 = .ok (.lload 5, 2) := by decide +kernel
theorem d_Model_type_64 : decode b_Model_type 64 = .ok (.ldc2_w 116, 3) := by decide +kernel
theorem d_Model_type_67 : decode b_Model_type 67 = .ok (.lcmp, 1) := by decide +kernel
theorem d_Model_type_68 : decode b_Model_type 68 = .ok (.ifCond .le 9, 3) := by decide +kernel
theorem d_Model_type_71 : decode b_Model_type 71 = .ok (.aload_n 0, 1) := by decide +kernel
theorem d_Model_type_72 : decode b_Model_type 72 = .ok (.iconst 1, 1) := by decide +kernel
theorem d_Model_type_73 : decode b_Model_type 73 = .ok (.invokevirtual 106, 3) := by decide +kernel
theorem d_Model_type_76 : decode b_Model_type 76 = .ok (.ireturn, 1) := by decide +kernel
theorem d_Model_type_77 : decode b_Model_type 77 = .ok (.iinc 4 1, 3) := by decide +kernel
theorem d_Model_type_80 : decode b_Model_type 80 = .ok (.goto (-55), 3) := by decide +kernel
theorem d_Model_type_83 : decode b_Model_type 83 = .ok (.aload_n 0, 1) := by decide +kernel
theorem d_Model_type_84 : decode b_Model_type 84 = .ok (.getfield 118, 3) := by decide +kernel
theorem d_Model_type_87 : decode b_Model_type 87 = .ok (.iload_n 3, 1) := by decide +kernel
theorem d_Model_type_88 : decode b_Model_type 88 = .ok (.iadd, 1) := by decide +kernel
theorem d_Model_type_89 : decode b_Model_type 89 = .ok (.sipush 480, 3) := by decide +kernel
theorem d_Model_type_92 : decode b_Model_type 92 = .ok (.if_icmp .le 9, 3) := by decide +kernel
theorem d_Model_type_95 : decode b_Model_type 95 = .ok (.aload_n 0, 1) := by decide +kernel
theorem d_Model_type_96 : decode b_Model_type 96 = .ok (.iconst 2, 1) := by decide +kernel
theorem d_Model_type_97 : decode b_Model_type 97 = .ok (.invokevirtual 106, 3) := by decide +kernel
theorem d_Model_type_100 : decode b_Model_type 100 = .ok (.ireturn, 1) := by decide +kernel
theorem d_Model_type_101 : decode b_Model_type 101 = .ok (.iconst 0, 1) := by decide +kernel
theorem d_Model_type_102 : decode b_Model_type 102 = .ok (.istore 4, 2) := by decide +kernel
theorem d_Model_type_104 : decode b_Model_type 104 = .ok (.iload 4, 2) := by decide +kernel
theorem d_Model_type_106 : decode b_Model_type 106 = .ok (.iload_n 3, 1) := by decide +kernel
theorem d_Model_type_107 : decode b_Model_type 107 = .ok (.if_icmp .ge 41, 3) := by decide +kernel
theorem d_Model_type_110 : decode b_Model_type 110 = .ok (.aload_n 0, 1) := by decide +kernel
theorem d_Model_type_111 : decode b_Model_type 111 = .ok (.getfield 7, 3) := by decide +kernel
theorem d_Model_type_114 : decode b_Model_type 114 = .ok (.aload_n 0, 1) := by decide +kernel
theorem d_Model_type_115 : decode b_Model_type 115 = .ok (.getfield 118, 3) := by decide +kernel
theorem d_Model_type_118 : decode b_Model_type 118 = .ok (.lload_n 1, 1) := by decide +kernel
theorem d_Model_type_119 : decode b_Model_type 119 = .ok (.bipush 8, 2) := by decide +kernel
theorem d_Model_type_121 : decode b_Model_type 121 = .ok (.iload 4, 2) := by decide +kernel
theorem d_Model_type_123 : decode b_Model_type 123 = .ok (.imul, 1) := by decide +kernel
theorem d_Model_type_124 : decode b_Model_type 124 = .ok (.lshr, 1) := by decide +kernel
theorem d_Model_type_125 : decode b_Model_type 125 = .ok (.ldc2_w 110, 3) := by decide +kernel
theorem d_Model_type_128 : decode b_Model_type 128 = .ok (.land, 1) := by decide +kernel
theorem d_Model_type_129 : decode b_Model_type 129 = .ok (.l2i, 1) := by decide +kernel
theorem d_Model_type_130 : decode b_Model_type 130 = .ok (.i2c, 1) := by decide +kernel
theorem d_Model_type_131 : decode b_Model_type 131 = .ok (.castore, 1) := by decide +kernel
theorem d_Model_type_132 : decode b_Model_type 132 = .ok (.aload_n 0, 1) := by decide +kernel
theorem d_Model_type_133 : decode b_Model_type 133 = .ok (.dup, 1) := by decide +kernel
theorem d_Model_type_134 : decode b_Model_type 134 = .ok (.getfield 118, 3) := by decide +kernel
theorem d_Model_type_137 : decode b_Model_type 137 = .ok (.iconst 1, 1) := by decide +kernel
theorem d_Model_type_138 : decode b_Model_type 138 = .ok (.iadd, 1) := by decide +kernel
theorem d_Model_type_139 : decode b_Model_type 139 = .ok (.putfield 118, 3) := by decide +kernel
theorem d_Model_type_142 : decode b_Model_type 142 = .ok (.iinc 4 1, 3) := by decide +kernel
theorem d_Model_type_145 : decode b_Model_type 145 = .ok (.goto (-41), 3) := by decide +kernel
theorem d_Model_type_148 : decode b_Model_type 148 = .ok (.aload_n 0, 1) := by decide +kernel
theorem d_Model_type_149 : decode b_Model_type 149 = .ok (.getfield 118, 3) := by decide +kernel
theorem d_Model_type_152 : decode b_Model_type 152 = .ok (.ireturn, 1) := by decide +kernel
def tModel_type_b1 (k : Nat → St → Int32 → Int32 → Int64 → Option (Int32 × St)) (σ : St) (x1 : Int32) (x2 : Int32) (y1 : Int64) : Option (Int32 × St) := if x1 ≤ x2 then if ((σ.1 27) + x1) ≤ 480 then k 3 σ x1 0 y1 else b2 (tModel_refuse σ 2) (fun r7 u7 => some (r7, u7)) else if (lg_cmp ((y1 >>> (((8 * x2) : Int32).toInt64 &&& 63)) &&& 255) 10) = 0 then k 2 σ x1 x2 y1 else if (lg_cmp ((y1 >>> (((8 * x2) : Int32).toInt64 &&& 63)) &&& 255) 32) < 0 then b2 (tModel_refuse σ 1) (fun r10 u10 => some (r10, u10)) else if (lg_cmp ((y1 >>> (((8 * x2) : Int32).toInt64 &&& 63)) &&& 255) 126) ≤ 0 then k 2 σ x1 x2 y1 else b2 (tModel_refuse σ 1) (fun r12 u12 => some (r12, u12))
def tModel_type_b2 (k : Nat → St → Int32 → Int32 → Int64 → Option (Int32 × St)) (σ : St) (x1 : Int32) (x2 : Int32) (y1 : Int64) : Option (Int32 × St) := k 1 σ x1 (x2 + 1) y1
def tModel_type_b3 (k : Nat → St → Int32 → Int32 → Int64 → Option (Int32 × St)) (σ : St) (x1 : Int32) (x2 : Int32) (y1 : Int64) : Option (Int32 × St) := if x1 ≤ x2 then some ((σ.1 27), σ) else gd (inB (σ.1 27) 480) (k 3 (sI (sA σ 15 (upd (σ.2.2.1 15) (σ.1 27).toNatClampNeg (vp_nar .char (((((((y1 >>> (((8 * x2) : Int32).toInt64 &&& 63)) &&& 255) : Int64).toInt32) : Int32).toUInt32 % 65536).toInt32)))) 27 ((σ.1 27) + 1)) x1 (x2 + 1) y1)
def tModel_type_L : Nat → Nat → St → Int32 → Int32 → Int64 → Option (Int32 × St)
  | 0, _, _, _, _, _ => none
  | n + 1, lab, σ, x1, x2, y1 => match lab with
    | 1 => tModel_type_b1 (tModel_type_L n) σ x1 x2 y1
    | 2 => tModel_type_b2 (tModel_type_L n) σ x1 x2 y1
    | 3 => tModel_type_b3 (tModel_type_L n) σ x1 x2 y1
    | _ => none
def tModel_type (σ : St) (a1 : Int64) (a2 : Int32) : Option (Int32 × St) := if a2 < 1 then b2 (tModel_refuse (sI σ 26 0) 1) (fun r2 u2 => some (r2, u2)) else if a2 ≤ 8 then tModel_type_L 2000 1 (sI σ 26 0) a2 0 a1 else b2 (tModel_refuse (sI σ 26 0) 1) (fun r4 u4 => some (r4, u4))
set_option maxHeartbeats 4000000 in
set_option maxRecDepth 100000 in
theorem tModel_type_blk {p : Program} {e : Env} {s : State} {m : MethodId} {args : Array Value} {below : List Frame} {meth : Method} {c : Code} {A : Nat → Prop} (l : Launch) (dC : Nat → ClassId) (dI : Nat → Nat → Nat) (ad : Nat → Nat) (cA : Nat → ClassId) {r : Int32} {σ' : St} (X : Cx p s m args meth c b_Model_type 7 (some .int) "TinyForgeModel" (dC, dI) (ttys cA) ad A) : ∀ n : Nat, (∀ (σ : St) (x1 : Int32) (x2 : Int32) (y1 : Int64) (H : Heap) (locs : List Loc) (ls : Array Slot), tModel_type_L n 1 σ x1 x2 y1 = some (r, σ') → va_P (dC, dI) vwCl (tcw ad cA σ) H → va_D A (tcw ad cA σ) → va_S A s.heap H locs → lv_has ls 7 [(0, .ref (ad 11)), (1, .long y1), (3, .int x1), (4, .int x2)] → W p l e { frames := 1, cells := 0, slots := 0, locals := 21 } s m args below meth c H locs 0 0 (MQ below (QI (dC, dI) (ttys cA) (tcw ad cA) A r σ') args s 0 0 A) (F0 m 25 ls [])) ∧ (∀ (σ : St) (x1 : Int32) (x2 : Int32) (y1 : Int64) (H : Heap) (locs : List Loc) (ls : Array Slot), tModel_type_L n 2 σ x1 x2 y1 = some (r, σ') → va_P (dC, dI) vwCl (tcw ad cA σ) H → va_D A (tcw ad cA σ) → va_S A s.heap H locs → lv_has ls 7 [(0, .ref (ad 11)), (1, .long y1), (3, .int x1), (4, .int x2)] → W p l e { frames := 1, cells := 0, slots := 0, locals := 21 } s m args below meth c H locs 0 0 (MQ below (QI (dC, dI) (ttys cA) (tcw ad cA) A r σ') args s 0 0 A) (F0 m 77 ls [])) ∧ (∀ (σ : St) (x1 : Int32) (x2 : Int32) (y1 : Int64) (H : Heap) (locs : List Loc) (ls : Array Slot), tModel_type_L n 3 σ x1 x2 y1 = some (r, σ') → va_P (dC, dI) vwCl (tcw ad cA σ) H → va_D A (tcw ad cA σ) → va_S A s.heap H locs → lv_has ls 7 [(0, .ref (ad 11)), (1, .long y1), (3, .int x1), (4, .int x2)] → W p l e { frames := 1, cells := 0, slots := 0, locals := 21 } s m args below meth c H locs 0 0 (MQ below (QI (dC, dI) (ttys cA) (tcw ad cA) A r σ') args s 0 0 A) (F0 m 104 ls [])) := by
  obtain ⟨hx, hb, hr, hml, hown, hlocks, hts, hA, hK, hZ⟩ := id X
  intro n
  induction n with
  | zero => exact ⟨(fun σ x1 x2 y1 H locs ls hF => by cases hF), (fun σ x1 x2 y1 H locs ls hF => by cases hF), (fun σ x1 x2 y1 H locs ls hF => by cases hF)⟩
  | succ n ihn =>
    refine ⟨fun σ x1 x2 y1 H locs ls hF hP hD hS hl => ?_, fun σ x1 x2 y1 H locs ls hF hP hD hS hl => ?_, fun σ x1 x2 y1 H locs ls hF hP hD hS hl => ?_⟩
    · have hF : tModel_type_b1 (tModel_type_L n) σ x1 x2 y1 = some (r, σ') := hF
      unfold tModel_type_b1 at hF
      refine lv_iload hx hb d_Model_type_25 (lv_at hl 3 rfl) ?_
      refine lv_iload_n hx hb d_Model_type_27 rfl (lv_at hl 2 rfl) ?_
      refine lv_icmp_ge (tgt := 83) hx hb d_Model_type_28 (by decide) (fun c_5 => ?_) (fun c_5 => ?_)
      · have hF := ifp hF c_5
        refine lv_aload_n hx hb d_Model_type_83 rfl (lv_at hl 0 rfl) ?_
        refine va_get (D := (dC, dI)) (ci := 11) (v := .int (σ.1 27)) hx hb hts i_Model hown hK hP 11 rfl rfl 2 (by decide) (hts _ w_b232703b7d) (fun _ h9 => h9) rfl d_Model_type_84 ?_
        refine lv_iload_n hx hb d_Model_type_87 rfl (lv_at hl 2 rfl) ?_
        refine lv_iadd hx hb d_Model_type_88 ?_
        refine lv_sipush (v := 480) hx hb d_Model_type_89 (by decide) ?_
        refine lv_icmp_le (tgt := 101) hx hb d_Model_type_92 (by decide) (fun c_6 => ?_) (fun c_6 => ?_)
        · have hF := ifp hF c_6
          refine lv_iconst (v := 0) hx hb d_Model_type_101 (by decide) ?_
          refine lv_istore (lv' := [(4, .int 0), (0, .ref (ad 11)), (1, .long y1), (3, .int x1)]) hx hb d_Model_type_102 hl (by decide) rfl (fun ls hl => ?_)
          exact ihn.2.2 σ x1 0 y1 H locs ls hF hP hD hS (lv_sub hl [1, 2, 3, 0] rfl)
        · have hF := ifn hF c_6
          refine lv_aload_n hx hb d_Model_type_95 rfl (lv_at hl 0 rfl) ?_
          refine lv_iconst (v := 2) hx hb d_Model_type_96 (by decide) ?_
          obtain ⟨r7, u7, h7, hF⟩ := b2E hF
          refine callVI (As := [.int 2]) X (ct_Model_refuse l dC dI ad cA H.size h7) lk_Model_106 ⟨rfl, rfl, by decide, by decide⟩ 11 rfl rfl hP hD hS hl.1 rfl rfl (Nat.le_of_ble_eq_true rfl) d_Model_type_97 (fun H locs hP hD hS => ?_)
          cases hF
          exact leafI X hP hD hS d_Model_type_100
      · have hF := ifn hF c_5
        refine lv_lload_n hx hb d_Model_type_31 rfl (lv_at hl 1 rfl) ?_
        refine lv_bipush (v := 8) hx hb d_Model_type_32 (by decide) ?_
        refine lv_iload hx hb d_Model_type_34 (lv_at hl 3 rfl) ?_
        refine lv_imul hx hb d_Model_type_36 ?_
        refine lv_lshr (v := (y1 >>> (((8 * x2) : Int32).toInt64 &&& 63))) hx hb d_Model_type_37 rfl ?_
        refine lv_ldc2 (v := 255) hx hb hown (hts _ w_3500228763) d_Model_type_38 ?_
        refine lv_land hx hb d_Model_type_41 ?_
        refine lv_lstore (lv' := [(5, .long ((y1 >>> (((8 * x2) : Int32).toInt64 &&& 63)) &&& 255)), (0, .ref (ad 11)), (1, .long y1), (3, .int x1), (4, .int x2)]) hx hb d_Model_type_42 hl (by decide) rfl (fun ls hl => ?_)
        refine lv_lload hx hb d_Model_type_44 (lv_at hl 0 rfl) ?_
        refine lv_ldc2 (v := 10) hx hb hown (hts _ w_d725bf63c0) d_Model_type_46 ?_
        refine W.lcmp hx hb d_Model_type_49 ?_
        refine lv_if_eq (tgt := 77) hx hb d_Model_type_50 (by decide) (fun c_8 => ?_) (fun c_8 => ?_)
        · have hF := ifp hF c_8
          exact ihn.2.1 σ x1 x2 y1 H locs ls hF hP hD hS (lv_sub hl [1, 2, 3, 4] rfl)
        · have hF := ifn hF c_8
          refine lv_lload hx hb d_Model_type_53 (lv_at hl 0 rfl) ?_
          refine lv_ldc2 (v := 32) hx hb hown (hts _ w_7cf6cc1a70) d_Model_type_55 ?_
          refine W.lcmp hx hb d_Model_type_58 ?_
          refine lv_if_lt (tgt := 71) hx hb d_Model_type_59 (by decide) (fun c_9 => ?_) (fun c_9 => ?_)
          · have hF := ifp hF c_9
            refine lv_aload_n hx hb d_Model_type_71 rfl (lv_at hl 1 rfl) ?_
            refine lv_iconst (v := 1) hx hb d_Model_type_72 (by decide) ?_
            obtain ⟨r10, u10, h10, hF⟩ := b2E hF
            refine callVI (As := [.int 1]) X (ct_Model_refuse l dC dI ad cA H.size h10) lk_Model_106 ⟨rfl, rfl, by decide, by decide⟩ 11 rfl rfl hP hD hS hl.1 rfl rfl (Nat.le_of_ble_eq_true rfl) d_Model_type_73 (fun H locs hP hD hS => ?_)
            cases hF
            exact leafI X hP hD hS d_Model_type_76
          · have hF := ifn hF c_9
            refine lv_lload hx hb d_Model_type_62 (lv_at hl 0 rfl) ?_
            refine lv_ldc2 (v := 126) hx hb hown (hts _ w_317890e411) d_Model_type_64 ?_
            refine W.lcmp hx hb d_Model_type_67 ?_
            refine lv_if_le (tgt := 77) hx hb d_Model_type_68 (by decide) (fun c_11 => ?_) (fun c_11 => ?_)
            · have hF := ifp hF c_11
              exact ihn.2.1 σ x1 x2 y1 H locs ls hF hP hD hS (lv_sub hl [1, 2, 3, 4] rfl)
            · have hF := ifn hF c_11
              refine lv_aload_n hx hb d_Model_type_71 rfl (lv_at hl 1 rfl) ?_
              refine lv_iconst (v := 1) hx hb d_Model_type_72 (by decide) ?_
              obtain ⟨r12, u12, h12, hF⟩ := b2E hF
              refine callVI (As := [.int 1]) X (ct_Model_refuse l dC dI ad cA H.size h12) lk_Model_106 ⟨rfl, rfl, by decide, by decide⟩ 11 rfl rfl hP hD hS hl.1 rfl rfl (Nat.le_of_ble_eq_true rfl) d_Model_type_73 (fun H locs hP hD hS => ?_)
              cases hF
              exact leafI X hP hD hS d_Model_type_76
    · have hF : tModel_type_b2 (tModel_type_L n) σ x1 x2 y1 = some (r, σ') := hF
      unfold tModel_type_b2 at hF
      refine lv_iinc (v := (x2 + 1)) (lv' := [(4, .int (x2 + 1)), (0, .ref (ad 11)), (1, .long y1), (3, .int x1)]) hx hb d_Model_type_77 hl (k := 3) rfl rfl (by decide) rfl (fun ls hl => ?_)
      refine lv_goto (tgt := 25) hx hb d_Model_type_80 (by decide) ?_
      exact ihn.1 σ x1 (x2 + 1) y1 H locs ls hF hP hD hS (lv_sub hl [1, 2, 3, 0] rfl)
    · have hF : tModel_type_b3 (tModel_type_L n) σ x1 x2 y1 = some (r, σ') := hF
      unfold tModel_type_b3 at hF
      refine lv_iload hx hb d_Model_type_104 (lv_at hl 3 rfl) ?_
      refine lv_iload_n hx hb d_Model_type_106 rfl (lv_at hl 2 rfl) ?_
      refine lv_icmp_ge (tgt := 148) hx hb d_Model_type_107 (by decide) (fun c_13 => ?_) (fun c_13 => ?_)
      · have hF := ifp hF c_13
        refine lv_aload_n hx hb d_Model_type_148 rfl (lv_at hl 0 rfl) ?_
        refine va_get (D := (dC, dI)) (ci := 11) (v := .int (σ.1 27)) hx hb hts i_Model hown hK hP 11 rfl rfl 2 (by decide) (hts _ w_b232703b7d) (fun _ h9 => h9) rfl d_Model_type_149 ?_
        cases hF
        exact leafI X hP hD hS d_Model_type_152
      · have hF := ifn hF c_13
        refine lv_aload_n hx hb d_Model_type_110 rfl (lv_at hl 0 rfl) ?_
        refine va_get (D := (dC, dI)) (ci := 11) (v := .ref (ad 30)) hx hb hts i_Model hown hK hP 11 rfl rfl 1 (by decide) (hts _ w_c45f734488) (fun _ h9 => h9) rfl d_Model_type_111 ?_
        refine lv_aload_n hx hb d_Model_type_114 rfl (lv_at hl 0 rfl) ?_
        refine va_get (D := (dC, dI)) (ci := 11) (v := .int (σ.1 27)) hx hb hts i_Model hown hK hP 11 rfl rfl 2 (by decide) (hts _ w_b232703b7d) (fun _ h9 => h9) rfl d_Model_type_115 ?_
        refine lv_lload_n hx hb d_Model_type_118 rfl (lv_at hl 1 rfl) ?_
        refine lv_bipush (v := 8) hx hb d_Model_type_119 (by decide) ?_
        refine lv_iload hx hb d_Model_type_121 (lv_at hl 3 rfl) ?_
        refine lv_imul hx hb d_Model_type_123 ?_
        refine lv_lshr (v := (y1 >>> (((8 * x2) : Int32).toInt64 &&& 63))) hx hb d_Model_type_124 rfl ?_
        refine lv_ldc2 (v := 255) hx hb hown (hts _ w_3500228763) d_Model_type_125 ?_
        refine lv_land hx hb d_Model_type_128 ?_
        refine lv_l2i (v := (((y1 >>> (((8 * x2) : Int32).toInt64 &&& 63)) &&& 255) : Int64).toInt32) hx hb d_Model_type_129 rfl ?_
        refine lv_i2c (v := ((((((y1 >>> (((8 * x2) : Int32).toInt64 &&& 63)) &&& 255) : Int64).toInt32) : Int32).toUInt32 % 65536).toInt32) hx hb d_Model_type_130 rfl ?_
        obtain ⟨g_14, hF⟩ := gdE hF
        refine va_cast (f := (σ.2.2.1 15)) hx hb hK hP hD hS 30 2 rfl rfl (inE g_14) d_Model_type_131 (fun H locs hP hD hS => ?_)
        have hP : va_P (dC, dI) vwCl (tcw ad cA (sA σ 15 (upd (σ.2.2.1 15) (σ.1 27).toNatClampNeg (vp_nar .char (((((((y1 >>> (((8 * x2) : Int32).toInt64 &&& 63)) &&& 255) : Int64).toInt32) : Int32).toUInt32 % 65536).toInt32))))) H := hP
        have hD : va_D A (tcw ad cA (sA σ 15 (upd (σ.2.2.1 15) (σ.1 27).toNatClampNeg (vp_nar .char (((((((y1 >>> (((8 * x2) : Int32).toInt64 &&& 63)) &&& 255) : Int64).toInt32) : Int32).toUInt32 % 65536).toInt32))))) := hD
        refine lv_aload_n hx hb d_Model_type_132 rfl (lv_at hl 0 rfl) ?_
        refine lv_dup hx hb d_Model_type_133 rfl ?_
        refine va_get (D := (dC, dI)) (ci := 11) (v := .int (σ.1 27)) hx hb hts i_Model hown hK hP 11 rfl rfl 2 (by decide) (hts _ w_b232703b7d) (fun _ h9 => h9) rfl d_Model_type_134 ?_
        refine lv_iconst (v := 1) hx hb d_Model_type_137 (by decide) ?_
        refine lv_iadd hx hb d_Model_type_138 ?_
        refine va_put (D := (dC, dI)) (ci := 11) (v := .int ((σ.1 27) + 1)) (ty := .int) hx hb hts i_Model t_Model t_Model_ok n_Model hown hK hP hD hS 11 rfl rfl 2 (by decide) (hts _ w_b232703b7d) (fun _ h9 => h9) rfl (by decide +kernel) rfl rfl (Nat.le_of_ble_eq_true rfl) d_Model_type_139 (fun H locs hP hD hS => ?_)
        have hP : va_P (dC, dI) vwCl (tcw ad cA (sI (sA σ 15 (upd (σ.2.2.1 15) (σ.1 27).toNatClampNeg (vp_nar .char (((((((y1 >>> (((8 * x2) : Int32).toInt64 &&& 63)) &&& 255) : Int64).toInt32) : Int32).toUInt32 % 65536).toInt32)))) 27 ((σ.1 27) + 1))) H := hP
        have hD : va_D A (tcw ad cA (sI (sA σ 15 (upd (σ.2.2.1 15) (σ.1 27).toNatClampNeg (vp_nar .char (((((((y1 >>> (((8 * x2) : Int32).toInt64 &&& 63)) &&& 255) : Int64).toInt32) : Int32).toUInt32 % 65536).toInt32)))) 27 ((σ.1 27) + 1))) := hD
        refine lv_iinc (v := (x2 + 1)) (lv' := [(4, .int (x2 + 1)), (0, .ref (ad 11)), (1, .long y1), (3, .int x1)]) hx hb d_Model_type_142 hl (k := 3) rfl rfl (by decide) rfl (fun ls hl => ?_)
        refine lv_goto (tgt := 104) hx hb d_Model_type_145 (by decide) ?_
        exact ihn.2.2 (sI (sA σ 15 (upd (σ.2.2.1 15) (σ.1 27).toNatClampNeg (vp_nar .char (((((((y1 >>> (((8 * x2) : Int32).toInt64 &&& 63)) &&& 255) : Int64).toInt32) : Int32).toUInt32 % 65536).toInt32)))) 27 ((σ.1 27) + 1)) x1 (x2 + 1) y1 H locs ls hF hP hD hS (lv_sub hl [1, 2, 3, 0] rfl)
set_option maxHeartbeats 4000000 in
set_option maxRecDepth 100000 in
theorem ct_Model_type (l : Launch) (dC : Nat → ClassId) (dI : Nat → Nat → Nat) (ad : Nat → Nat) (cA : Nat → ClassId) (sz : Nat) {σ : St} {a1 : Int64} {a2 : Int32} {r : Int32} {σ' : St} (hF : tModel_type σ a1 a2 = some (r, σ')) : MI l y_Model_type b_Model_type 7 (some .int) { frames := 1, cells := 0, slots := 0, locals := 21 } (dC, dI) (ttys cA) ad (tcw ad cA) [.ref (ad 11), .long a1, .int a2] σ sz r σ' := by
  refine startM (own := "TinyForgeModel") (Qc := fun A => QI (dC, dI) (ttys cA) (tcw ad cA) A r σ') rfl rfl (Nat.le_of_ble_eq_true rfl) ?_
  intro p e s m below meth c A H locs ls X hP hD hS hl
  have hl : lv_has ls 7 [(0, .ref (ad 11)), (1, .long a1), (3, .int a2)] := hl
  obtain ⟨hx, hb, hr, hml, hown, hlocks, hts, hA, hK, hZ⟩ := id X
  unfold tModel_type at hF
  refine lv_aload_n hx hb d_Model_type_0 rfl (lv_at hl 0 rfl) ?_
  refine lv_iconst (v := 0) hx hb d_Model_type_1 (by decide) ?_
  refine va_put (D := (dC, dI)) (ci := 11) (v := .int 0) (ty := .int) hx hb hts i_Model t_Model t_Model_ok n_Model hown hK hP hD hS 11 rfl rfl 0 (by decide) (hts _ w_06eb2805f0) (fun _ h9 => h9) rfl (by decide +kernel) rfl rfl (Nat.le_of_ble_eq_true rfl) d_Model_type_2 (fun H locs hP hD hS => ?_)
  have hP : va_P (dC, dI) vwCl (tcw ad cA (sI σ 26 0)) H := hP
  have hD : va_D A (tcw ad cA (sI σ 26 0)) := hD
  refine lv_iload_n hx hb d_Model_type_5 rfl (lv_at hl 2 rfl) ?_
  refine lv_iconst (v := 1) hx hb d_Model_type_6 (by decide) ?_
  refine lv_icmp_lt (tgt := 16) hx hb d_Model_type_7 (by decide) (fun c_1 => ?_) (fun c_1 => ?_)
  · have hF := ifp hF c_1
    refine lv_aload_n hx hb d_Model_type_16 rfl (lv_at hl 0 rfl) ?_
    refine lv_iconst (v := 1) hx hb d_Model_type_17 (by decide) ?_
    obtain ⟨r2, u2, h2, hF⟩ := b2E hF
    refine callVI (As := [.int 1]) X (ct_Model_refuse l dC dI ad cA H.size h2) lk_Model_106 ⟨rfl, rfl, by decide, by decide⟩ 11 rfl rfl hP hD hS hl.1 rfl rfl (Nat.le_of_ble_eq_true rfl) d_Model_type_18 (fun H locs hP hD hS => ?_)
    cases hF
    exact leafI X hP hD hS d_Model_type_21
  · have hF := ifn hF c_1
    refine lv_iload_n hx hb d_Model_type_10 rfl (lv_at hl 2 rfl) ?_
    refine lv_bipush (v := 8) hx hb d_Model_type_11 (by decide) ?_
    refine lv_icmp_le (tgt := 22) hx hb d_Model_type_13 (by decide) (fun c_3 => ?_) (fun c_3 => ?_)
    · have hF := ifp hF c_3
      refine lv_iconst (v := 0) hx hb d_Model_type_22 (by decide) ?_
      refine lv_istore (lv' := [(4, .int 0), (0, .ref (ad 11)), (1, .long a1), (3, .int a2)]) hx hb d_Model_type_23 hl (by decide) rfl (fun ls hl => ?_)
      exact (tModel_type_blk l dC dI ad cA X 2000).1 (sI σ 26 0) a2 0 a1 H locs ls hF hP hD hS (lv_sub hl [1, 2, 3, 0] rfl)
    · have hF := ifn hF c_3
      refine lv_aload_n hx hb d_Model_type_16 rfl (lv_at hl 0 rfl) ?_
      refine lv_iconst (v := 1) hx hb d_Model_type_17 (by decide) ?_
      obtain ⟨r4, u4, h4, hF⟩ := b2E hF
      refine callVI (As := [.int 1]) X (ct_Model_refuse l dC dI ad cA H.size h4) lk_Model_106 ⟨rfl, rfl, by decide, by decide⟩ 11 rfl rfl hP hD hS hl.1 rfl rfl (Nat.le_of_ble_eq_true rfl) d_Model_type_18 (fun H locs hP hD hS => ?_)
      cases hF
      exact leafI X hP hD hS d_Model_type_21
theorem d_Model_where_0 : decode b_Model_where 0 = .ok (.aload_n 0, 1) := by decide +kernel
theorem d_Model_where_1 : decode b_Model_where 1 = .ok (.iconst 0, 1) := by decide +kernel
theorem d_Model_where_2 : decode b_Model_where 2 = .ok (.putfield 103, 3) := by decide +kernel
theorem d_Model_where_5 : decode b_Model_where 5 = .ok (.aload_n 0, 1) := by decide +kernel
theorem d_Model_where_6 : decode b_Model_where 6 = .ok (.getfield 13, 3) := by decide +kernel
theorem d_Model_where_9 : decode b_Model_where 9 = .ok (.ireturn, 1) := by decide +kernel
def tModel_where (σ : St) : Option (Int32 × St) := some ((σ.1 30), (sI σ 26 0))
set_option maxHeartbeats 4000000 in
set_option maxRecDepth 100000 in
theorem ct_Model_where (l : Launch) (dC : Nat → ClassId) (dI : Nat → Nat → Nat) (ad : Nat → Nat) (cA : Nat → ClassId) (sz : Nat) {σ : St} {r : Int32} {σ' : St} (hF : tModel_where σ = some (r, σ')) : MI l y_Model_where b_Model_where 1 (some .int) { frames := 0, cells := 0, slots := 0, locals := 0 } (dC, dI) (ttys cA) ad (tcw ad cA) [.ref (ad 11)] σ sz r σ' := by
  refine startM (own := "TinyForgeModel") (Qc := fun A => QI (dC, dI) (ttys cA) (tcw ad cA) A r σ') rfl rfl (Nat.le_of_ble_eq_true rfl) ?_
  intro p e s m below meth c A H locs ls X hP hD hS hl
  have hl : lv_has ls 1 [(0, .ref (ad 11))] := hl
  obtain ⟨hx, hb, hr, hml, hown, hlocks, hts, hA, hK, hZ⟩ := id X
  unfold tModel_where at hF
  refine lv_aload_n hx hb d_Model_where_0 rfl (lv_at hl 0 rfl) ?_
  refine lv_iconst (v := 0) hx hb d_Model_where_1 (by decide) ?_
  refine va_put (D := (dC, dI)) (ci := 11) (v := .int 0) (ty := .int) hx hb hts i_Model t_Model t_Model_ok n_Model hown hK hP hD hS 11 rfl rfl 0 (by decide) (hts _ w_06eb2805f0) (fun _ h9 => h9) rfl (by decide +kernel) rfl rfl (Nat.le_of_ble_eq_true rfl) d_Model_where_2 (fun H locs hP hD hS => ?_)
  have hP : va_P (dC, dI) vwCl (tcw ad cA (sI σ 26 0)) H := hP
  have hD : va_D A (tcw ad cA (sI σ 26 0)) := hD
  refine lv_aload_n hx hb d_Model_where_5 rfl (lv_at hl 0 rfl) ?_
  refine va_get (D := (dC, dI)) (ci := 11) (v := .int (σ.1 30)) hx hb hts i_Model hown hK hP 11 rfl rfl 5 (by decide) (hts _ w_7e0548e54d) (fun _ h9 => h9) rfl d_Model_where_6 ?_
  cases hF
  exact leafI X hP hD hS d_Model_where_9
theorem d_Model_why_0 : decode b_Model_why 0 = .ok (.aload_n 0, 1) := by decide +kernel
theorem d_Model_why_1 : decode b_Model_why 1 = .ok (.iconst 0, 1) := by decide +kernel
theorem d_Model_why_2 : decode b_Model_why 2 = .ok (.putfield 103, 3) := by decide +kernel
theorem d_Model_why_5 : decode b_Model_why 5 = .ok (.aload_n 0, 1) := by decide +kernel
theorem d_Model_why_6 : decode b_Model_why 6 = .ok (.getfield 121, 3) := by decide +kernel
theorem d_Model_why_9 : decode b_Model_why 9 = .ok (.ireturn, 1) := by decide +kernel
def tModel_why (σ : St) : Option (Int32 × St) := some ((σ.1 29), (sI σ 26 0))
set_option maxHeartbeats 4000000 in
set_option maxRecDepth 100000 in
theorem ct_Model_why (l : Launch) (dC : Nat → ClassId) (dI : Nat → Nat → Nat) (ad : Nat → Nat) (cA : Nat → ClassId) (sz : Nat) {σ : St} {r : Int32} {σ' : St} (hF : tModel_why σ = some (r, σ')) : MI l y_Model_why b_Model_why 1 (some .int) { frames := 0, cells := 0, slots := 0, locals := 0 } (dC, dI) (ttys cA) ad (tcw ad cA) [.ref (ad 11)] σ sz r σ' := by
  refine startM (own := "TinyForgeModel") (Qc := fun A => QI (dC, dI) (ttys cA) (tcw ad cA) A r σ') rfl rfl (Nat.le_of_ble_eq_true rfl) ?_
  intro p e s m below meth c A H locs ls X hP hD hS hl
  have hl : lv_has ls 1 [(0, .ref (ad 11))] := hl
  obtain ⟨hx, hb, hr, hml, hown, hlocks, hts, hA, hK, hZ⟩ := id X
  unfold tModel_why at hF
  refine lv_aload_n hx hb d_Model_why_0 rfl (lv_at hl 0 rfl) ?_
  refine lv_iconst (v := 0) hx hb d_Model_why_1 (by decide) ?_
  refine va_put (D := (dC, dI)) (ci := 11) (v := .int 0) (ty := .int) hx hb hts i_Model t_Model t_Model_ok n_Model hown hK hP hD hS 11 rfl rfl 0 (by decide) (hts _ w_06eb2805f0) (fun _ h9 => h9) rfl (by decide +kernel) rfl rfl (Nat.le_of_ble_eq_true rfl) d_Model_why_2 (fun H locs hP hD hS => ?_)
  have hP : va_P (dC, dI) vwCl (tcw ad cA (sI σ 26 0)) H := hP
  have hD : va_D A (tcw ad cA (sI σ 26 0)) := hD
  refine lv_aload_n hx hb d_Model_why_5 rfl (lv_at hl 0 rfl) ?_
  refine va_get (D := (dC, dI)) (ci := 11) (v := .int (σ.1 29)) hx hb hts i_Model hown hK hP 11 rfl rfl 4 (by decide) (hts _ w_0464dc4398) (fun _ h9 => h9) rfl d_Model_why_6 ?_
  cases hF
  exact leafI X hP hD hS d_Model_why_9
