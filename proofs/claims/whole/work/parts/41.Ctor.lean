theorem d_Text_init_0 : decode b_Text_init 0 = .ok (.aload_n 0, 1) := by decide +kernel
theorem d_Text_init_1 : decode b_Text_init 1 = .ok (.invokespecial 3, 3) := by decide +kernel
theorem d_Text_init_4 : decode b_Text_init 4 = .ok (.aload_n 0, 1) := by decide +kernel
theorem d_Text_init_5 : decode b_Text_init 5 = .ok (.sipush 480, 3) := by decide +kernel
theorem d_Text_init_8 : decode b_Text_init 8 = .ok (.newarray .char, 2) := by decide +kernel
theorem d_Text_init_10 : decode b_Text_init 10 = .ok (.putfield 9, 3) := by decide +kernel
theorem d_Text_init_13 : decode b_Text_init 13 = .ok (.aload_n 0, 1) := by decide +kernel
theorem d_Text_init_14 : decode b_Text_init 14 = .ok (.iconst 0, 1) := by decide +kernel
theorem d_Text_init_15 : decode b_Text_init 15 = .ok (.putfield 15, 3) := by decide +kernel
theorem d_Text_init_18 : decode b_Text_init 18 = .ok (.return_, 1) := by decide +kernel
def cu_Text_init (h0 : Nat) (u : (Nat → Nat) × (Nat → ClassId)) : va_W := [(h0, .inr (0, [.ref (u.1 0), .int 0])), ((u.1 0), .inl ((u.2 0), 480, .inl (fun _ => 0)))]
def tu_Text_init (u : (Nat → Nat) × (Nat → ClassId)) : List (ClassId × FieldType) := [((u.2 0), .char)]
set_option maxHeartbeats 4000000 in
set_option maxRecDepth 100000 in
theorem cc_Text_init (l : Launch) (dC : Nat → ClassId) (dI : Nat → Nat → Nat) (h0 sz : Nat) : Met l y_Text_init (Cond.code y_Text_init b_Text_init 1 none :: BIG) { frames := 1, cells := 1, slots := 480, locals := 12 } (va_Pc [.ref h0] (fun U => U.heap.size = sz ∧ va_P (dC, dI) vwCl [(h0, .inr (0, [.null, .int 0]))] U.heap ∧ va_K (dC, dI) vwCl [] U ∧ va_D (fun _ => True) [(h0, .inr (0, [.null, .int 0]))])) (va_Qv (fun _ : (Nat → Nat) × (Nat → ClassId) => True) (fun u t => va_P (dC, dI) vwCl (cu_Text_init h0 u) t.heap ∧ va_K (dC, dI) vwCl (tu_Text_init u) t ∧ va_D (va_A [(h0, .inr (0, [.null, .int 0]))] sz) (cu_Text_init h0 u)) (va_A [(h0, .inr (0, [.null, .int 0]))] sz)) 1 480 (va_A [(h0, .inr (0, [.null, .int 0]))] sz) := by
  refine Met.ofW (cc := b_Text_init) (maxL := 1) (ret := none) (by decide) rfl ?_
  intro p e s m args below meth c s₁ B hml hv
  obtain ⟨rfl, hsz, hP, hK, hD0⟩ := hv
  have hx := B.exec
  have hb := B.bytes
  have hr := B.returns
  have hts0 := atoms_spec (ws := Cond.code y_Text_init b_Text_init 1 none :: BIG) B.pre
  have hts : ∀ w ∈ BIG, w.before _ s = true := fun w h => hts0 w (List.mem_cons_of_mem _ h)
  have hown : s.vm.findClass "TinyForge$Text" = some m.cls := findClass_of_methodNamed B.named
  have hlocks := B.notSynchronized
  have hin : meth.name = "<init>" := (name_of_methodNamed B.named B.method).1
  subst hsz
  have hD := hD0.self (sz := s.heap.size)
  generalize hAe : va_A [(h0, .inr (0, [.null, .int 0]))] s.heap.size = A at hD ⊢
  have hA : ∀ q : Nat, s.heap.size ≤ q → A q := fun q h => by rw [← hAe]; exact Or.inr h
  have hS : va_S A s.heap s.heap [] := va_S.rf
  have hl := lv_entry ([.ref h0]) (n := 1) (Nat.le_of_ble_eq_true rfl)
  rw [lg_entry_eq]
  generalize (lg_sl ([.ref h0]) ++ List.replicate (1 - (lg_sl ([.ref h0])).length) Slot.unset).toArray = ls at hl ⊢
  have hl : lv_has ls 1 [(0, .ref h0)] := hl
  refine lv_aload_n hx hb d_Text_init_0 rfl (lv_at hl 0 rfl) ?_
  refine W.objInit hx hb hown (hts _ w_6e8cafb56c) (hts _ w_308973208c) (hts _ w_1dd1bb0651) rfl (by rw [hml]; exact hl.1) rfl d_Text_init_1 (Nat.le_of_ble_eq_true rfl) (Nat.le_of_ble_eq_true rfl) ?_
  refine W.eq (g2 := F0 m 4 ls []) rfl ?_
  refine lv_aload_n hx hb d_Text_init_4 rfl (lv_at hl 0 rfl) ?_
  refine lv_sipush (v := 480) hx hb d_Text_init_5 (by decide) ?_
  refine va_newa (atype := .char) (ty := .char) (a0 := (480, .inl (fun _ => 0))) (N' := 480) hx hb (hts _ w_c37dd96a34) rfl hK hP hD hS hA (fun cA => vp_cell_i cA 480 (fun _ => 0)) (by decide) (by decide) (by decide) (Nat.le_of_ble_eq_true rfl) (Nat.le_of_ble_eq_true rfl) d_Text_init_8 (fun q8 k8 H hK hP hD hS => ?_)
  have hP : va_P (dC, dI) vwCl [(h0, .inr (0, [.null, .int 0])), (q8, .inl (k8, 480, .inl (fun _ => 0)))] H := hP
  have hD : va_D A [(h0, .inr (0, [.null, .int 0])), (q8, .inl (k8, 480, .inl (fun _ => 0)))] := hD
  have hK : va_K (dC, dI) vwCl [(k8, .char)] s := hK
  refine W.widen (k := 1) (n := 480) (Nat.le_of_ble_eq_true rfl) (Nat.le_of_ble_eq_true rfl) ?_
  refine va_putF (D := (dC, dI)) (ci := 0) (v := .ref q8) (ty := (.array .char)) (C := "TinyForge$Text") (T := F_Text) (N := 2) hx hb hts i_Text t_Text t_Text_ok n_Text hown hK hP hD hS 0 rfl rfl 0 (by decide) (hts _ w_9acb6713a2) (fun _ h9 => h9) rfl hin rfl (by decide +kernel) rfl rfl (Nat.le_of_ble_eq_true rfl) d_Text_init_10 (fun H locs hP hD hS => ?_)
  have hP : va_P (dC, dI) vwCl [(h0, .inr (0, [.ref q8, .int 0])), (q8, .inl (k8, 480, .inl (fun _ => 0)))] H := hP
  have hD : va_D A [(h0, .inr (0, [.ref q8, .int 0])), (q8, .inl (k8, 480, .inl (fun _ => 0)))] := hD
  refine lv_aload_n hx hb d_Text_init_13 rfl (lv_at hl 0 rfl) ?_
  refine lv_iconst (v := 0) hx hb d_Text_init_14 (by decide) ?_
  refine va_put (D := (dC, dI)) (ci := 0) (v := .int 0) (ty := .int) (C := "TinyForge$Text") (T := F_Text) (N := 2) hx hb hts i_Text t_Text t_Text_ok n_Text hown hK hP hD hS 0 rfl rfl 1 (by decide) (hts _ w_7879a7e969) (fun _ h9 => h9) rfl (by decide +kernel) rfl rfl (Nat.le_of_ble_eq_true rfl) d_Text_init_15 (fun H locs hP hD hS => ?_)
  have hP : va_P (dC, dI) vwCl [(h0, .inr (0, [.ref q8, .int 0])), (q8, .inl (k8, 480, .inl (fun _ => 0)))] H := hP
  have hD : va_D A [(h0, .inr (0, [.ref q8, .int 0])), (q8, .inl (k8, 480, .inl (fun _ => 0)))] := hD
  exact W.vret hx hb hr (fun t ht hW => ⟨⟨((fun k : Nat => match k with | 0 => q8 | _ => h0), (fun k : Nat => match k with | 0 => k8 | _ => dC 0)), rfl, trivial, by rw [ht]; exact hP, va_K.moved hW.alike hK, hD⟩, hS.F ht⟩) hS.2.2 d_Text_init_18 hlocks
theorem d_Refusal_init_0 : decode b_Refusal_init 0 = .ok (.aload_n 0, 1) := by decide +kernel
theorem d_Refusal_init_1 : decode b_Refusal_init 1 = .ok (.invokespecial 3, 3) := by decide +kernel
theorem d_Refusal_init_4 : decode b_Refusal_init 4 = .ok (.aload_n 0, 1) := by decide +kernel
theorem d_Refusal_init_5 : decode b_Refusal_init 5 = .ok (.iconst 0, 1) := by decide +kernel
theorem d_Refusal_init_6 : decode b_Refusal_init 6 = .ok (.putfield 9, 3) := by decide +kernel
theorem d_Refusal_init_9 : decode b_Refusal_init 9 = .ok (.aload_n 0, 1) := by decide +kernel
theorem d_Refusal_init_10 : decode b_Refusal_init 10 = .ok (.iconst (-1), 1) := by decide +kernel
theorem d_Refusal_init_11 : decode b_Refusal_init 11 = .ok (.putfield 15, 3) := by decide +kernel
theorem d_Refusal_init_14 : decode b_Refusal_init 14 = .ok (.aload_n 0, 1) := by decide +kernel
theorem d_Refusal_init_15 : decode b_Refusal_init 15 = .ok (.iconst (-1), 1) := by decide +kernel
theorem d_Refusal_init_16 : decode b_Refusal_init 16 = .ok (.putfield 18, 3) := by decide +kernel
theorem d_Refusal_init_19 : decode b_Refusal_init 19 = .ok (.return_, 1) := by decide +kernel
def cu_Refusal_init (h0 : Nat) (u : (Nat → Nat) × (Nat → ClassId)) : va_W := [(h0, .inr (1, [.int 0, .int (-1), .int (-1)]))]
def tu_Refusal_init (u : (Nat → Nat) × (Nat → ClassId)) : List (ClassId × FieldType) := []
set_option maxHeartbeats 4000000 in
set_option maxRecDepth 100000 in
theorem cc_Refusal_init (l : Launch) (dC : Nat → ClassId) (dI : Nat → Nat → Nat) (h0 sz : Nat) : Met l y_Refusal_init (Cond.code y_Refusal_init b_Refusal_init 1 none :: BIG) { frames := 1, cells := 0, slots := 0, locals := 12 } (va_Pc [.ref h0] (fun U => U.heap.size = sz ∧ va_P (dC, dI) vwCl [(h0, .inr (1, [.int 0, .int 0, .int 0]))] U.heap ∧ va_K (dC, dI) vwCl [] U ∧ va_D (fun _ => True) [(h0, .inr (1, [.int 0, .int 0, .int 0]))])) (va_Qv (fun _ : (Nat → Nat) × (Nat → ClassId) => True) (fun u t => va_P (dC, dI) vwCl (cu_Refusal_init h0 u) t.heap ∧ va_K (dC, dI) vwCl (tu_Refusal_init u) t ∧ va_D (va_A [(h0, .inr (1, [.int 0, .int 0, .int 0]))] sz) (cu_Refusal_init h0 u)) (va_A [(h0, .inr (1, [.int 0, .int 0, .int 0]))] sz)) 0 0 (va_A [(h0, .inr (1, [.int 0, .int 0, .int 0]))] sz) := by
  refine Met.ofW (cc := b_Refusal_init) (maxL := 1) (ret := none) (by decide) rfl ?_
  intro p e s m args below meth c s₁ B hml hv
  obtain ⟨rfl, hsz, hP, hK, hD0⟩ := hv
  have hx := B.exec
  have hb := B.bytes
  have hr := B.returns
  have hts0 := atoms_spec (ws := Cond.code y_Refusal_init b_Refusal_init 1 none :: BIG) B.pre
  have hts : ∀ w ∈ BIG, w.before _ s = true := fun w h => hts0 w (List.mem_cons_of_mem _ h)
  have hown : s.vm.findClass "TinyForge$Refusal" = some m.cls := findClass_of_methodNamed B.named
  have hlocks := B.notSynchronized
  have hin : meth.name = "<init>" := (name_of_methodNamed B.named B.method).1
  subst hsz
  have hD := hD0.self (sz := s.heap.size)
  generalize hAe : va_A [(h0, .inr (1, [.int 0, .int 0, .int 0]))] s.heap.size = A at hD ⊢
  have hA : ∀ q : Nat, s.heap.size ≤ q → A q := fun q h => by rw [← hAe]; exact Or.inr h
  have hS : va_S A s.heap s.heap [] := va_S.rf
  have hl := lv_entry ([.ref h0]) (n := 1) (Nat.le_of_ble_eq_true rfl)
  rw [lg_entry_eq]
  generalize (lg_sl ([.ref h0]) ++ List.replicate (1 - (lg_sl ([.ref h0])).length) Slot.unset).toArray = ls at hl ⊢
  have hl : lv_has ls 1 [(0, .ref h0)] := hl
  refine lv_aload_n hx hb d_Refusal_init_0 rfl (lv_at hl 0 rfl) ?_
  refine W.objInit hx hb hown (hts _ w_13ed9a43ed) (hts _ w_308973208c) (hts _ w_1dd1bb0651) rfl (by rw [hml]; exact hl.1) rfl d_Refusal_init_1 (Nat.le_of_ble_eq_true rfl) (Nat.le_of_ble_eq_true rfl) ?_
  refine W.eq (g2 := F0 m 4 ls []) rfl ?_
  refine lv_aload_n hx hb d_Refusal_init_4 rfl (lv_at hl 0 rfl) ?_
  refine lv_iconst (v := 0) hx hb d_Refusal_init_5 (by decide) ?_
  refine va_put (D := (dC, dI)) (ci := 1) (v := .int 0) (ty := .int) (C := "TinyForge$Refusal") (T := F_Refusal) (N := 3) hx hb hts i_Refusal t_Refusal t_Refusal_ok n_Refusal hown hK hP hD hS 0 rfl rfl 0 (by decide) (hts _ w_7c7f1f863a) (fun _ h9 => h9) rfl (by decide +kernel) rfl rfl (Nat.le_of_ble_eq_true rfl) d_Refusal_init_6 (fun H locs hP hD hS => ?_)
  have hP : va_P (dC, dI) vwCl [(h0, .inr (1, [.int 0, .int 0, .int 0]))] H := hP
  have hD : va_D A [(h0, .inr (1, [.int 0, .int 0, .int 0]))] := hD
  refine lv_aload_n hx hb d_Refusal_init_9 rfl (lv_at hl 0 rfl) ?_
  refine lv_iconst (v := (-1)) hx hb d_Refusal_init_10 (by decide) ?_
  refine va_put (D := (dC, dI)) (ci := 1) (v := .int (-1)) (ty := .int) (C := "TinyForge$Refusal") (T := F_Refusal) (N := 3) hx hb hts i_Refusal t_Refusal t_Refusal_ok n_Refusal hown hK hP hD hS 0 rfl rfl 1 (by decide) (hts _ w_951d72655d) (fun _ h9 => h9) rfl (by decide +kernel) rfl rfl (Nat.le_of_ble_eq_true rfl) d_Refusal_init_11 (fun H locs hP hD hS => ?_)
  have hP : va_P (dC, dI) vwCl [(h0, .inr (1, [.int 0, .int (-1), .int 0]))] H := hP
  have hD : va_D A [(h0, .inr (1, [.int 0, .int (-1), .int 0]))] := hD
  refine lv_aload_n hx hb d_Refusal_init_14 rfl (lv_at hl 0 rfl) ?_
  refine lv_iconst (v := (-1)) hx hb d_Refusal_init_15 (by decide) ?_
  refine va_put (D := (dC, dI)) (ci := 1) (v := .int (-1)) (ty := .int) (C := "TinyForge$Refusal") (T := F_Refusal) (N := 3) hx hb hts i_Refusal t_Refusal t_Refusal_ok n_Refusal hown hK hP hD hS 0 rfl rfl 2 (by decide) (hts _ w_3920c5da97) (fun _ h9 => h9) rfl (by decide +kernel) rfl rfl (Nat.le_of_ble_eq_true rfl) d_Refusal_init_16 (fun H locs hP hD hS => ?_)
  have hP : va_P (dC, dI) vwCl [(h0, .inr (1, [.int 0, .int (-1), .int (-1)]))] H := hP
  have hD : va_D A [(h0, .inr (1, [.int 0, .int (-1), .int (-1)]))] := hD
  exact W.vret hx hb hr (fun t ht hW => ⟨⟨((fun _ => h0), (fun _ => dC 0)), rfl, trivial, by rw [ht]; exact hP, va_K.moved hW.alike hK, hD⟩, hS.F ht⟩) hS.2.2 d_Refusal_init_19 hlocks
theorem d_Tokens_init_0 : decode b_Tokens_init 0 = .ok (.aload_n 0, 1) := by decide +kernel
theorem d_Tokens_init_1 : decode b_Tokens_init 1 = .ok (.invokespecial 3, 3) := by decide +kernel
theorem d_Tokens_init_4 : decode b_Tokens_init 4 = .ok (.aload_n 0, 1) := by decide +kernel
theorem d_Tokens_init_5 : decode b_Tokens_init 5 = .ok (.sipush 220, 3) := by decide +kernel
theorem d_Tokens_init_8 : decode b_Tokens_init 8 = .ok (.newarray .int, 2) := by decide +kernel
theorem d_Tokens_init_10 : decode b_Tokens_init 10 = .ok (.putfield 9, 3) := by decide +kernel
theorem d_Tokens_init_13 : decode b_Tokens_init 13 = .ok (.aload_n 0, 1) := by decide +kernel
theorem d_Tokens_init_14 : decode b_Tokens_init 14 = .ok (.sipush 220, 3) := by decide +kernel
theorem d_Tokens_init_17 : decode b_Tokens_init 17 = .ok (.newarray .int, 2) := by decide +kernel
theorem d_Tokens_init_19 : decode b_Tokens_init 19 = .ok (.putfield 15, 3) := by decide +kernel
theorem d_Tokens_init_22 : decode b_Tokens_init 22 = .ok (.aload_n 0, 1) := by decide +kernel
theorem d_Tokens_init_23 : decode b_Tokens_init 23 = .ok (.sipush 220, 3) := by decide +kernel
theorem d_Tokens_init_26 : decode b_Tokens_init 26 = .ok (.newarray .long, 2) := by decide +kernel
theorem d_Tokens_init_28 : decode b_Tokens_init 28 = .ok (.putfield 18, 3) := by decide +kernel
theorem d_Tokens_init_31 : decode b_Tokens_init 31 = .ok (.aload_n 0, 1) := by decide +kernel
theorem d_Tokens_init_32 : decode b_Tokens_init 32 = .ok (.iconst 0, 1) := by decide +kernel
theorem d_Tokens_init_33 : decode b_Tokens_init 33 = .ok (.putfield 22, 3) := by decide +kernel
theorem d_Tokens_init_36 : decode b_Tokens_init 36 = .ok (.aload_n 0, 1) := by decide +kernel
theorem d_Tokens_init_37 : decode b_Tokens_init 37 = .ok (.iconst (-1), 1) := by decide +kernel
theorem d_Tokens_init_38 : decode b_Tokens_init 38 = .ok (.putfield 26, 3) := by decide +kernel
theorem d_Tokens_init_41 : decode b_Tokens_init 41 = .ok (.aload_n 0, 1) := by decide +kernel
theorem d_Tokens_init_42 : decode b_Tokens_init 42 = .ok (.aload_n 1, 1) := by decide +kernel
theorem d_Tokens_init_43 : decode b_Tokens_init 43 = .ok (.putfield 29, 3) := by decide +kernel
theorem d_Tokens_init_46 : decode b_Tokens_init 46 = .ok (.aload_n 0, 1) := by decide +kernel
theorem d_Tokens_init_47 : decode b_Tokens_init 47 = .ok (.aload_n 2, 1) := by decide +kernel
theorem d_Tokens_init_48 : decode b_Tokens_init 48 = .ok (.putfield 33, 3) := by decide +kernel
theorem d_Tokens_init_51 : decode b_Tokens_init 51 = .ok (.return_, 1) := by decide +kernel
def cu_Tokens_init (h0 p1 p2 : Nat) (u : (Nat → Nat) × (Nat → ClassId)) : va_W := [(h0, .inr (2, [.ref p1, .ref p2, .ref (u.1 0), .ref (u.1 1), .ref (u.1 2), .int 0, .int (-1)])), ((u.1 0), .inl ((u.2 0), 220, .inl (fun _ => 0))), ((u.1 1), .inl ((u.2 1), 220, .inl (fun _ => 0))), ((u.1 2), .inl ((u.2 2), 220, .inr (.inl (fun _ => 0))))]
def tu_Tokens_init (u : (Nat → Nat) × (Nat → ClassId)) : List (ClassId × FieldType) := [((u.2 0), .int), ((u.2 1), .int), ((u.2 2), .long)]
set_option maxHeartbeats 4000000 in
set_option maxRecDepth 100000 in
theorem cc_Tokens_init (l : Launch) (dC : Nat → ClassId) (dI : Nat → Nat → Nat) (h0 p1 p2 sz : Nat) : Met l y_Tokens_init (Cond.code y_Tokens_init b_Tokens_init 3 none :: BIG) { frames := 1, cells := 3, slots := 660, locals := 12 } (va_Pc [.ref h0, .ref p1, .ref p2] (fun U => U.heap.size = sz ∧ va_P (dC, dI) vwCl [(h0, .inr (2, [.null, .null, .null, .null, .null, .int 0, .int 0]))] U.heap ∧ va_K (dC, dI) vwCl [] U ∧ va_D (fun _ => True) [(h0, .inr (2, [.null, .null, .null, .null, .null, .int 0, .int 0]))])) (va_Qv (fun _ : (Nat → Nat) × (Nat → ClassId) => True) (fun u t => va_P (dC, dI) vwCl (cu_Tokens_init h0 p1 p2 u) t.heap ∧ va_K (dC, dI) vwCl (tu_Tokens_init u) t ∧ va_D (va_A [(h0, .inr (2, [.null, .null, .null, .null, .null, .int 0, .int 0]))] sz) (cu_Tokens_init h0 p1 p2 u)) (va_A [(h0, .inr (2, [.null, .null, .null, .null, .null, .int 0, .int 0]))] sz)) 3 660 (va_A [(h0, .inr (2, [.null, .null, .null, .null, .null, .int 0, .int 0]))] sz) := by
  refine Met.ofW (cc := b_Tokens_init) (maxL := 3) (ret := none) (by decide) rfl ?_
  intro p e s m args below meth c s₁ B hml hv
  obtain ⟨rfl, hsz, hP, hK, hD0⟩ := hv
  have hx := B.exec
  have hb := B.bytes
  have hr := B.returns
  have hts0 := atoms_spec (ws := Cond.code y_Tokens_init b_Tokens_init 3 none :: BIG) B.pre
  have hts : ∀ w ∈ BIG, w.before _ s = true := fun w h => hts0 w (List.mem_cons_of_mem _ h)
  have hown : s.vm.findClass "TinyForge$Tokens" = some m.cls := findClass_of_methodNamed B.named
  have hlocks := B.notSynchronized
  have hin : meth.name = "<init>" := (name_of_methodNamed B.named B.method).1
  subst hsz
  have hD := hD0.self (sz := s.heap.size)
  generalize hAe : va_A [(h0, .inr (2, [.null, .null, .null, .null, .null, .int 0, .int 0]))] s.heap.size = A at hD ⊢
  have hA : ∀ q : Nat, s.heap.size ≤ q → A q := fun q h => by rw [← hAe]; exact Or.inr h
  have hS : va_S A s.heap s.heap [] := va_S.rf
  have hl := lv_entry ([.ref h0, .ref p1, .ref p2]) (n := 3) (Nat.le_of_ble_eq_true rfl)
  rw [lg_entry_eq]
  generalize (lg_sl ([.ref h0, .ref p1, .ref p2]) ++ List.replicate (3 - (lg_sl ([.ref h0, .ref p1, .ref p2])).length) Slot.unset).toArray = ls at hl ⊢
  have hl : lv_has ls 3 [(0, .ref h0), (1, .ref p1), (2, .ref p2)] := hl
  refine lv_aload_n hx hb d_Tokens_init_0 rfl (lv_at hl 0 rfl) ?_
  refine W.objInit hx hb hown (hts _ w_1a18269f85) (hts _ w_308973208c) (hts _ w_1dd1bb0651) rfl (by rw [hml]; exact hl.1) rfl d_Tokens_init_1 (Nat.le_of_ble_eq_true rfl) (Nat.le_of_ble_eq_true rfl) ?_
  refine W.eq (g2 := F0 m 4 ls []) rfl ?_
  refine lv_aload_n hx hb d_Tokens_init_4 rfl (lv_at hl 0 rfl) ?_
  refine lv_sipush (v := 220) hx hb d_Tokens_init_5 (by decide) ?_
  refine va_newa (atype := .int) (ty := .int) (a0 := (220, .inl (fun _ => 0))) (N' := 220) hx hb (hts _ w_2f6be69db0) rfl hK hP hD hS hA (fun cA => vp_cell_i cA 220 (fun _ => 0)) (by decide) (by decide) (by decide) (Nat.le_of_ble_eq_true rfl) (Nat.le_of_ble_eq_true rfl) d_Tokens_init_8 (fun q8 k8 H hK hP hD hS => ?_)
  have hP : va_P (dC, dI) vwCl [(h0, .inr (2, [.null, .null, .null, .null, .null, .int 0, .int 0])), (q8, .inl (k8, 220, .inl (fun _ => 0)))] H := hP
  have hD : va_D A [(h0, .inr (2, [.null, .null, .null, .null, .null, .int 0, .int 0])), (q8, .inl (k8, 220, .inl (fun _ => 0)))] := hD
  have hK : va_K (dC, dI) vwCl [(k8, .int)] s := hK
  refine W.widen (k := 1) (n := 220) (Nat.le_of_ble_eq_true rfl) (Nat.le_of_ble_eq_true rfl) ?_
  refine va_putF (D := (dC, dI)) (ci := 2) (v := .ref q8) (ty := (.array .int)) (C := "TinyForge$Tokens") (T := F_Tokens) (N := 7) hx hb hts i_Tokens t_Tokens t_Tokens_ok n_Tokens hown hK hP hD hS 0 rfl rfl 2 (by decide) (hts _ w_9546412e86) (fun _ h9 => h9) rfl hin rfl (by decide +kernel) rfl rfl (Nat.le_of_ble_eq_true rfl) d_Tokens_init_10 (fun H locs hP hD hS => ?_)
  have hP : va_P (dC, dI) vwCl [(h0, .inr (2, [.null, .null, .ref q8, .null, .null, .int 0, .int 0])), (q8, .inl (k8, 220, .inl (fun _ => 0)))] H := hP
  have hD : va_D A [(h0, .inr (2, [.null, .null, .ref q8, .null, .null, .int 0, .int 0])), (q8, .inl (k8, 220, .inl (fun _ => 0)))] := hD
  refine lv_aload_n hx hb d_Tokens_init_13 rfl (lv_at hl 0 rfl) ?_
  refine lv_sipush (v := 220) hx hb d_Tokens_init_14 (by decide) ?_
  refine va_newa (atype := .int) (ty := .int) (a0 := (220, .inl (fun _ => 0))) (N' := 220) hx hb (hts _ w_2f6be69db0) rfl hK hP hD hS hA (fun cA => vp_cell_i cA 220 (fun _ => 0)) (by decide) (by decide) (by decide) (Nat.le_of_ble_eq_true rfl) (Nat.le_of_ble_eq_true rfl) d_Tokens_init_17 (fun q17 k17 H hK hP hD hS => ?_)
  have hP : va_P (dC, dI) vwCl [(h0, .inr (2, [.null, .null, .ref q8, .null, .null, .int 0, .int 0])), (q8, .inl (k8, 220, .inl (fun _ => 0))), (q17, .inl (k17, 220, .inl (fun _ => 0)))] H := hP
  have hD : va_D A [(h0, .inr (2, [.null, .null, .ref q8, .null, .null, .int 0, .int 0])), (q8, .inl (k8, 220, .inl (fun _ => 0))), (q17, .inl (k17, 220, .inl (fun _ => 0)))] := hD
  have hK : va_K (dC, dI) vwCl [(k8, .int), (k17, .int)] s := hK
  refine W.widen (k := 2) (n := 440) (Nat.le_of_ble_eq_true rfl) (Nat.le_of_ble_eq_true rfl) ?_
  refine va_putF (D := (dC, dI)) (ci := 2) (v := .ref q17) (ty := (.array .int)) (C := "TinyForge$Tokens") (T := F_Tokens) (N := 7) hx hb hts i_Tokens t_Tokens t_Tokens_ok n_Tokens hown hK hP hD hS 0 rfl rfl 3 (by decide) (hts _ w_0dda90fb48) (fun _ h9 => h9) rfl hin rfl (by decide +kernel) rfl rfl (Nat.le_of_ble_eq_true rfl) d_Tokens_init_19 (fun H locs hP hD hS => ?_)
  have hP : va_P (dC, dI) vwCl [(h0, .inr (2, [.null, .null, .ref q8, .ref q17, .null, .int 0, .int 0])), (q8, .inl (k8, 220, .inl (fun _ => 0))), (q17, .inl (k17, 220, .inl (fun _ => 0)))] H := hP
  have hD : va_D A [(h0, .inr (2, [.null, .null, .ref q8, .ref q17, .null, .int 0, .int 0])), (q8, .inl (k8, 220, .inl (fun _ => 0))), (q17, .inl (k17, 220, .inl (fun _ => 0)))] := hD
  refine lv_aload_n hx hb d_Tokens_init_22 rfl (lv_at hl 0 rfl) ?_
  refine lv_sipush (v := 220) hx hb d_Tokens_init_23 (by decide) ?_
  refine va_newa (atype := .long) (ty := .long) (a0 := (220, .inr (.inl (fun _ => 0)))) (N' := 220) hx hb (hts _ w_de0c2debc2) rfl hK hP hD hS hA (fun cA => vp_cell_l cA 220 (fun _ => 0)) (by decide) (by decide) (by decide) (Nat.le_of_ble_eq_true rfl) (Nat.le_of_ble_eq_true rfl) d_Tokens_init_26 (fun q26 k26 H hK hP hD hS => ?_)
  have hP : va_P (dC, dI) vwCl [(h0, .inr (2, [.null, .null, .ref q8, .ref q17, .null, .int 0, .int 0])), (q8, .inl (k8, 220, .inl (fun _ => 0))), (q17, .inl (k17, 220, .inl (fun _ => 0))), (q26, .inl (k26, 220, .inr (.inl (fun _ => 0))))] H := hP
  have hD : va_D A [(h0, .inr (2, [.null, .null, .ref q8, .ref q17, .null, .int 0, .int 0])), (q8, .inl (k8, 220, .inl (fun _ => 0))), (q17, .inl (k17, 220, .inl (fun _ => 0))), (q26, .inl (k26, 220, .inr (.inl (fun _ => 0))))] := hD
  have hK : va_K (dC, dI) vwCl [(k8, .int), (k17, .int), (k26, .long)] s := hK
  refine W.widen (k := 3) (n := 660) (Nat.le_of_ble_eq_true rfl) (Nat.le_of_ble_eq_true rfl) ?_
  refine va_putF (D := (dC, dI)) (ci := 2) (v := .ref q26) (ty := (.array .long)) (C := "TinyForge$Tokens") (T := F_Tokens) (N := 7) hx hb hts i_Tokens t_Tokens t_Tokens_ok n_Tokens hown hK hP hD hS 0 rfl rfl 4 (by decide) (hts _ w_cd436aabcb) (fun _ h9 => h9) rfl hin rfl (by decide +kernel) rfl rfl (Nat.le_of_ble_eq_true rfl) d_Tokens_init_28 (fun H locs hP hD hS => ?_)
  have hP : va_P (dC, dI) vwCl [(h0, .inr (2, [.null, .null, .ref q8, .ref q17, .ref q26, .int 0, .int 0])), (q8, .inl (k8, 220, .inl (fun _ => 0))), (q17, .inl (k17, 220, .inl (fun _ => 0))), (q26, .inl (k26, 220, .inr (.inl (fun _ => 0))))] H := hP
  have hD : va_D A [(h0, .inr (2, [.null, .null, .ref q8, .ref q17, .ref q26, .int 0, .int 0])), (q8, .inl (k8, 220, .inl (fun _ => 0))), (q17, .inl (k17, 220, .inl (fun _ => 0))), (q26, .inl (k26, 220, .inr (.inl (fun _ => 0))))] := hD
  refine lv_aload_n hx hb d_Tokens_init_31 rfl (lv_at hl 0 rfl) ?_
  refine lv_iconst (v := 0) hx hb d_Tokens_init_32 (by decide) ?_
  refine va_put (D := (dC, dI)) (ci := 2) (v := .int 0) (ty := .int) (C := "TinyForge$Tokens") (T := F_Tokens) (N := 7) hx hb hts i_Tokens t_Tokens t_Tokens_ok n_Tokens hown hK hP hD hS 0 rfl rfl 5 (by decide) (hts _ w_3591416eac) (fun _ h9 => h9) rfl (by decide +kernel) rfl rfl (Nat.le_of_ble_eq_true rfl) d_Tokens_init_33 (fun H locs hP hD hS => ?_)
  have hP : va_P (dC, dI) vwCl [(h0, .inr (2, [.null, .null, .ref q8, .ref q17, .ref q26, .int 0, .int 0])), (q8, .inl (k8, 220, .inl (fun _ => 0))), (q17, .inl (k17, 220, .inl (fun _ => 0))), (q26, .inl (k26, 220, .inr (.inl (fun _ => 0))))] H := hP
  have hD : va_D A [(h0, .inr (2, [.null, .null, .ref q8, .ref q17, .ref q26, .int 0, .int 0])), (q8, .inl (k8, 220, .inl (fun _ => 0))), (q17, .inl (k17, 220, .inl (fun _ => 0))), (q26, .inl (k26, 220, .inr (.inl (fun _ => 0))))] := hD
  refine lv_aload_n hx hb d_Tokens_init_36 rfl (lv_at hl 0 rfl) ?_
  refine lv_iconst (v := (-1)) hx hb d_Tokens_init_37 (by decide) ?_
  refine va_put (D := (dC, dI)) (ci := 2) (v := .int (-1)) (ty := .int) (C := "TinyForge$Tokens") (T := F_Tokens) (N := 7) hx hb hts i_Tokens t_Tokens t_Tokens_ok n_Tokens hown hK hP hD hS 0 rfl rfl 6 (by decide) (hts _ w_62a2c989b2) (fun _ h9 => h9) rfl (by decide +kernel) rfl rfl (Nat.le_of_ble_eq_true rfl) d_Tokens_init_38 (fun H locs hP hD hS => ?_)
  have hP : va_P (dC, dI) vwCl [(h0, .inr (2, [.null, .null, .ref q8, .ref q17, .ref q26, .int 0, .int (-1)])), (q8, .inl (k8, 220, .inl (fun _ => 0))), (q17, .inl (k17, 220, .inl (fun _ => 0))), (q26, .inl (k26, 220, .inr (.inl (fun _ => 0))))] H := hP
  have hD : va_D A [(h0, .inr (2, [.null, .null, .ref q8, .ref q17, .ref q26, .int 0, .int (-1)])), (q8, .inl (k8, 220, .inl (fun _ => 0))), (q17, .inl (k17, 220, .inl (fun _ => 0))), (q26, .inl (k26, 220, .inr (.inl (fun _ => 0))))] := hD
  refine lv_aload_n hx hb d_Tokens_init_41 rfl (lv_at hl 0 rfl) ?_
  refine lv_aload_n hx hb d_Tokens_init_42 rfl (lv_at hl 1 rfl) ?_
  refine va_putF (D := (dC, dI)) (ci := 2) (v := .ref p1) (ty := (.object "TinyForge$Text")) (C := "TinyForge$Tokens") (T := F_Tokens) (N := 7) hx hb hts i_Tokens t_Tokens t_Tokens_ok n_Tokens hown hK hP hD hS 0 rfl rfl 0 (by decide) (hts _ w_c5b1da8661) (fun _ h9 => h9) rfl hin rfl (by decide +kernel) rfl rfl (Nat.le_of_ble_eq_true rfl) d_Tokens_init_43 (fun H locs hP hD hS => ?_)
  have hP : va_P (dC, dI) vwCl [(h0, .inr (2, [.ref p1, .null, .ref q8, .ref q17, .ref q26, .int 0, .int (-1)])), (q8, .inl (k8, 220, .inl (fun _ => 0))), (q17, .inl (k17, 220, .inl (fun _ => 0))), (q26, .inl (k26, 220, .inr (.inl (fun _ => 0))))] H := hP
  have hD : va_D A [(h0, .inr (2, [.ref p1, .null, .ref q8, .ref q17, .ref q26, .int 0, .int (-1)])), (q8, .inl (k8, 220, .inl (fun _ => 0))), (q17, .inl (k17, 220, .inl (fun _ => 0))), (q26, .inl (k26, 220, .inr (.inl (fun _ => 0))))] := hD
  refine lv_aload_n hx hb d_Tokens_init_46 rfl (lv_at hl 0 rfl) ?_
  refine lv_aload_n hx hb d_Tokens_init_47 rfl (lv_at hl 2 rfl) ?_
  refine va_putF (D := (dC, dI)) (ci := 2) (v := .ref p2) (ty := (.object "TinyForge$Refusal")) (C := "TinyForge$Tokens") (T := F_Tokens) (N := 7) hx hb hts i_Tokens t_Tokens t_Tokens_ok n_Tokens hown hK hP hD hS 0 rfl rfl 1 (by decide) (hts _ w_324bcc424f) (fun _ h9 => h9) rfl hin rfl (by decide +kernel) rfl rfl (Nat.le_of_ble_eq_true rfl) d_Tokens_init_48 (fun H locs hP hD hS => ?_)
  have hP : va_P (dC, dI) vwCl [(h0, .inr (2, [.ref p1, .ref p2, .ref q8, .ref q17, .ref q26, .int 0, .int (-1)])), (q8, .inl (k8, 220, .inl (fun _ => 0))), (q17, .inl (k17, 220, .inl (fun _ => 0))), (q26, .inl (k26, 220, .inr (.inl (fun _ => 0))))] H := hP
  have hD : va_D A [(h0, .inr (2, [.ref p1, .ref p2, .ref q8, .ref q17, .ref q26, .int 0, .int (-1)])), (q8, .inl (k8, 220, .inl (fun _ => 0))), (q17, .inl (k17, 220, .inl (fun _ => 0))), (q26, .inl (k26, 220, .inr (.inl (fun _ => 0))))] := hD
  exact W.vret hx hb hr (fun t ht hW => ⟨⟨((fun k : Nat => match k with | 0 => q8 | 1 => q17 | 2 => q26 | _ => h0), (fun k : Nat => match k with | 0 => k8 | 1 => k17 | 2 => k26 | _ => dC 0)), rfl, trivial, by rw [ht]; exact hP, va_K.moved hW.alike hK, hD⟩, hS.F ht⟩) hS.2.2 d_Tokens_init_51 hlocks
theorem d_Cursor_init_0 : decode b_Cursor_init 0 = .ok (.aload_n 0, 1) := by decide +kernel
theorem d_Cursor_init_1 : decode b_Cursor_init 1 = .ok (.invokespecial 3, 3) := by decide +kernel
theorem d_Cursor_init_4 : decode b_Cursor_init 4 = .ok (.aload_n 0, 1) := by decide +kernel
theorem d_Cursor_init_5 : decode b_Cursor_init 5 = .ok (.iconst 0, 1) := by decide +kernel
theorem d_Cursor_init_6 : decode b_Cursor_init 6 = .ok (.putfield 9, 3) := by decide +kernel
theorem d_Cursor_init_9 : decode b_Cursor_init 9 = .ok (.aload_n 0, 1) := by decide +kernel
theorem d_Cursor_init_10 : decode b_Cursor_init 10 = .ok (.iconst 0, 1) := by decide +kernel
theorem d_Cursor_init_11 : decode b_Cursor_init 11 = .ok (.putfield 15, 3) := by decide +kernel
theorem d_Cursor_init_14 : decode b_Cursor_init 14 = .ok (.aload_n 0, 1) := by decide +kernel
theorem d_Cursor_init_15 : decode b_Cursor_init 15 = .ok (.aload_n 1, 1) := by decide +kernel
theorem d_Cursor_init_16 : decode b_Cursor_init 16 = .ok (.putfield 18, 3) := by decide +kernel
theorem d_Cursor_init_19 : decode b_Cursor_init 19 = .ok (.aload_n 0, 1) := by decide +kernel
theorem d_Cursor_init_20 : decode b_Cursor_init 20 = .ok (.aload_n 2, 1) := by decide +kernel
theorem d_Cursor_init_21 : decode b_Cursor_init 21 = .ok (.putfield 22, 3) := by decide +kernel
theorem d_Cursor_init_24 : decode b_Cursor_init 24 = .ok (.return_, 1) := by decide +kernel
def cu_Cursor_init (h0 p1 p2 : Nat) (u : (Nat → Nat) × (Nat → ClassId)) : va_W := [(h0, .inr (3, [.ref p1, .ref p2, .int 0, .int 0]))]
def tu_Cursor_init (u : (Nat → Nat) × (Nat → ClassId)) : List (ClassId × FieldType) := []
set_option maxHeartbeats 4000000 in
set_option maxRecDepth 100000 in
theorem cc_Cursor_init (l : Launch) (dC : Nat → ClassId) (dI : Nat → Nat → Nat) (h0 p1 p2 sz : Nat) : Met l y_Cursor_init (Cond.code y_Cursor_init b_Cursor_init 3 none :: BIG) { frames := 1, cells := 0, slots := 0, locals := 12 } (va_Pc [.ref h0, .ref p1, .ref p2] (fun U => U.heap.size = sz ∧ va_P (dC, dI) vwCl [(h0, .inr (3, [.null, .null, .int 0, .int 0]))] U.heap ∧ va_K (dC, dI) vwCl [] U ∧ va_D (fun _ => True) [(h0, .inr (3, [.null, .null, .int 0, .int 0]))])) (va_Qv (fun _ : (Nat → Nat) × (Nat → ClassId) => True) (fun u t => va_P (dC, dI) vwCl (cu_Cursor_init h0 p1 p2 u) t.heap ∧ va_K (dC, dI) vwCl (tu_Cursor_init u) t ∧ va_D (va_A [(h0, .inr (3, [.null, .null, .int 0, .int 0]))] sz) (cu_Cursor_init h0 p1 p2 u)) (va_A [(h0, .inr (3, [.null, .null, .int 0, .int 0]))] sz)) 0 0 (va_A [(h0, .inr (3, [.null, .null, .int 0, .int 0]))] sz) := by
  refine Met.ofW (cc := b_Cursor_init) (maxL := 3) (ret := none) (by decide) rfl ?_
  intro p e s m args below meth c s₁ B hml hv
  obtain ⟨rfl, hsz, hP, hK, hD0⟩ := hv
  have hx := B.exec
  have hb := B.bytes
  have hr := B.returns
  have hts0 := atoms_spec (ws := Cond.code y_Cursor_init b_Cursor_init 3 none :: BIG) B.pre
  have hts : ∀ w ∈ BIG, w.before _ s = true := fun w h => hts0 w (List.mem_cons_of_mem _ h)
  have hown : s.vm.findClass "TinyForge$Cursor" = some m.cls := findClass_of_methodNamed B.named
  have hlocks := B.notSynchronized
  have hin : meth.name = "<init>" := (name_of_methodNamed B.named B.method).1
  subst hsz
  have hD := hD0.self (sz := s.heap.size)
  generalize hAe : va_A [(h0, .inr (3, [.null, .null, .int 0, .int 0]))] s.heap.size = A at hD ⊢
  have hA : ∀ q : Nat, s.heap.size ≤ q → A q := fun q h => by rw [← hAe]; exact Or.inr h
  have hS : va_S A s.heap s.heap [] := va_S.rf
  have hl := lv_entry ([.ref h0, .ref p1, .ref p2]) (n := 3) (Nat.le_of_ble_eq_true rfl)
  rw [lg_entry_eq]
  generalize (lg_sl ([.ref h0, .ref p1, .ref p2]) ++ List.replicate (3 - (lg_sl ([.ref h0, .ref p1, .ref p2])).length) Slot.unset).toArray = ls at hl ⊢
  have hl : lv_has ls 3 [(0, .ref h0), (1, .ref p1), (2, .ref p2)] := hl
  refine lv_aload_n hx hb d_Cursor_init_0 rfl (lv_at hl 0 rfl) ?_
  refine W.objInit hx hb hown (hts _ w_a23e26d345) (hts _ w_308973208c) (hts _ w_1dd1bb0651) rfl (by rw [hml]; exact hl.1) rfl d_Cursor_init_1 (Nat.le_of_ble_eq_true rfl) (Nat.le_of_ble_eq_true rfl) ?_
  refine W.eq (g2 := F0 m 4 ls []) rfl ?_
  refine lv_aload_n hx hb d_Cursor_init_4 rfl (lv_at hl 0 rfl) ?_
  refine lv_iconst (v := 0) hx hb d_Cursor_init_5 (by decide) ?_
  refine va_put (D := (dC, dI)) (ci := 3) (v := .int 0) (ty := .int) (C := "TinyForge$Cursor") (T := F_Cursor) (N := 4) hx hb hts i_Cursor t_Cursor t_Cursor_ok n_Cursor hown hK hP hD hS 0 rfl rfl 2 (by decide) (hts _ w_56b47feb12) (fun _ h9 => h9) rfl (by decide +kernel) rfl rfl (Nat.le_of_ble_eq_true rfl) d_Cursor_init_6 (fun H locs hP hD hS => ?_)
  have hP : va_P (dC, dI) vwCl [(h0, .inr (3, [.null, .null, .int 0, .int 0]))] H := hP
  have hD : va_D A [(h0, .inr (3, [.null, .null, .int 0, .int 0]))] := hD
  refine lv_aload_n hx hb d_Cursor_init_9 rfl (lv_at hl 0 rfl) ?_
  refine lv_iconst (v := 0) hx hb d_Cursor_init_10 (by decide) ?_
  refine va_put (D := (dC, dI)) (ci := 3) (v := .int 0) (ty := .int) (C := "TinyForge$Cursor") (T := F_Cursor) (N := 4) hx hb hts i_Cursor t_Cursor t_Cursor_ok n_Cursor hown hK hP hD hS 0 rfl rfl 3 (by decide) (hts _ w_34851d5df2) (fun _ h9 => h9) rfl (by decide +kernel) rfl rfl (Nat.le_of_ble_eq_true rfl) d_Cursor_init_11 (fun H locs hP hD hS => ?_)
  have hP : va_P (dC, dI) vwCl [(h0, .inr (3, [.null, .null, .int 0, .int 0]))] H := hP
  have hD : va_D A [(h0, .inr (3, [.null, .null, .int 0, .int 0]))] := hD
  refine lv_aload_n hx hb d_Cursor_init_14 rfl (lv_at hl 0 rfl) ?_
  refine lv_aload_n hx hb d_Cursor_init_15 rfl (lv_at hl 1 rfl) ?_
  refine va_putF (D := (dC, dI)) (ci := 3) (v := .ref p1) (ty := (.object "TinyForge$Tokens")) (C := "TinyForge$Cursor") (T := F_Cursor) (N := 4) hx hb hts i_Cursor t_Cursor t_Cursor_ok n_Cursor hown hK hP hD hS 0 rfl rfl 0 (by decide) (hts _ w_5c74bf5519) (fun _ h9 => h9) rfl hin rfl (by decide +kernel) rfl rfl (Nat.le_of_ble_eq_true rfl) d_Cursor_init_16 (fun H locs hP hD hS => ?_)
  have hP : va_P (dC, dI) vwCl [(h0, .inr (3, [.ref p1, .null, .int 0, .int 0]))] H := hP
  have hD : va_D A [(h0, .inr (3, [.ref p1, .null, .int 0, .int 0]))] := hD
  refine lv_aload_n hx hb d_Cursor_init_19 rfl (lv_at hl 0 rfl) ?_
  refine lv_aload_n hx hb d_Cursor_init_20 rfl (lv_at hl 2 rfl) ?_
  refine va_putF (D := (dC, dI)) (ci := 3) (v := .ref p2) (ty := (.object "TinyForge$Refusal")) (C := "TinyForge$Cursor") (T := F_Cursor) (N := 4) hx hb hts i_Cursor t_Cursor t_Cursor_ok n_Cursor hown hK hP hD hS 0 rfl rfl 1 (by decide) (hts _ w_3761caf48e) (fun _ h9 => h9) rfl hin rfl (by decide +kernel) rfl rfl (Nat.le_of_ble_eq_true rfl) d_Cursor_init_21 (fun H locs hP hD hS => ?_)
  have hP : va_P (dC, dI) vwCl [(h0, .inr (3, [.ref p1, .ref p2, .int 0, .int 0]))] H := hP
  have hD : va_D A [(h0, .inr (3, [.ref p1, .ref p2, .int 0, .int 0]))] := hD
  exact W.vret hx hb hr (fun t ht hW => ⟨⟨((fun _ => h0), (fun _ => dC 0)), rfl, trivial, by rw [ht]; exact hP, va_K.moved hW.alike hK, hD⟩, hS.F ht⟩) hS.2.2 d_Cursor_init_24 hlocks
theorem d_Variables_init_0 : decode b_Variables_init 0 = .ok (.aload_n 0, 1) := by decide +kernel
theorem d_Variables_init_1 : decode b_Variables_init 1 = .ok (.invokespecial 3, 3) := by decide +kernel
theorem d_Variables_init_4 : decode b_Variables_init 4 = .ok (.aload_n 0, 1) := by decide +kernel
theorem d_Variables_init_5 : decode b_Variables_init 5 = .ok (.bipush 12, 2) := by decide +kernel
theorem d_Variables_init_7 : decode b_Variables_init 7 = .ok (.newarray .long, 2) := by decide +kernel
theorem d_Variables_init_9 : decode b_Variables_init 9 = .ok (.putfield 9, 3) := by decide +kernel
theorem d_Variables_init_12 : decode b_Variables_init 12 = .ok (.aload_n 0, 1) := by decide +kernel
theorem d_Variables_init_13 : decode b_Variables_init 13 = .ok (.iconst 0, 1) := by decide +kernel
theorem d_Variables_init_14 : decode b_Variables_init 14 = .ok (.putfield 15, 3) := by decide +kernel
theorem d_Variables_init_17 : decode b_Variables_init 17 = .ok (.aload_n 0, 1) := by decide +kernel
theorem d_Variables_init_18 : decode b_Variables_init 18 = .ok (.iconst 0, 1) := by decide +kernel
theorem d_Variables_init_19 : decode b_Variables_init 19 = .ok (.putfield 19, 3) := by decide +kernel
theorem d_Variables_init_22 : decode b_Variables_init 22 = .ok (.aload_n 0, 1) := by decide +kernel
theorem d_Variables_init_23 : decode b_Variables_init 23 = .ok (.aload_n 1, 1) := by decide +kernel
theorem d_Variables_init_24 : decode b_Variables_init 24 = .ok (.putfield 22, 3) := by decide +kernel
theorem d_Variables_init_27 : decode b_Variables_init 27 = .ok (.aload_n 0, 1) := by decide +kernel
theorem d_Variables_init_28 : decode b_Variables_init 28 = .ok (.aload_n 2, 1) := by decide +kernel
theorem d_Variables_init_29 : decode b_Variables_init 29 = .ok (.putfield 26, 3) := by decide +kernel
theorem d_Variables_init_32 : decode b_Variables_init 32 = .ok (.return_, 1) := by decide +kernel
def cu_Variables_init (h0 p1 p2 : Nat) (u : (Nat → Nat) × (Nat → ClassId)) : va_W := [(h0, .inr (4, [.ref p1, .ref p2, .ref (u.1 0), .int 0, .int 0])), ((u.1 0), .inl ((u.2 0), 12, .inr (.inl (fun _ => 0))))]
def tu_Variables_init (u : (Nat → Nat) × (Nat → ClassId)) : List (ClassId × FieldType) := [((u.2 0), .long)]
set_option maxHeartbeats 4000000 in
set_option maxRecDepth 100000 in
theorem cc_Variables_init (l : Launch) (dC : Nat → ClassId) (dI : Nat → Nat → Nat) (h0 p1 p2 sz : Nat) : Met l y_Variables_init (Cond.code y_Variables_init b_Variables_init 3 none :: BIG) { frames := 1, cells := 1, slots := 12, locals := 12 } (va_Pc [.ref h0, .ref p1, .ref p2] (fun U => U.heap.size = sz ∧ va_P (dC, dI) vwCl [(h0, .inr (4, [.null, .null, .null, .int 0, .int 0]))] U.heap ∧ va_K (dC, dI) vwCl [] U ∧ va_D (fun _ => True) [(h0, .inr (4, [.null, .null, .null, .int 0, .int 0]))])) (va_Qv (fun _ : (Nat → Nat) × (Nat → ClassId) => True) (fun u t => va_P (dC, dI) vwCl (cu_Variables_init h0 p1 p2 u) t.heap ∧ va_K (dC, dI) vwCl (tu_Variables_init u) t ∧ va_D (va_A [(h0, .inr (4, [.null, .null, .null, .int 0, .int 0]))] sz) (cu_Variables_init h0 p1 p2 u)) (va_A [(h0, .inr (4, [.null, .null, .null, .int 0, .int 0]))] sz)) 1 12 (va_A [(h0, .inr (4, [.null, .null, .null, .int 0, .int 0]))] sz) := by
  refine Met.ofW (cc := b_Variables_init) (maxL := 3) (ret := none) (by decide) rfl ?_
  intro p e s m args below meth c s₁ B hml hv
  obtain ⟨rfl, hsz, hP, hK, hD0⟩ := hv
  have hx := B.exec
  have hb := B.bytes
  have hr := B.returns
  have hts0 := atoms_spec (ws := Cond.code y_Variables_init b_Variables_init 3 none :: BIG) B.pre
  have hts : ∀ w ∈ BIG, w.before _ s = true := fun w h => hts0 w (List.mem_cons_of_mem _ h)
  have hown : s.vm.findClass "TinyForge$Variables" = some m.cls := findClass_of_methodNamed B.named
  have hlocks := B.notSynchronized
  have hin : meth.name = "<init>" := (name_of_methodNamed B.named B.method).1
  subst hsz
  have hD := hD0.self (sz := s.heap.size)
  generalize hAe : va_A [(h0, .inr (4, [.null, .null, .null, .int 0, .int 0]))] s.heap.size = A at hD ⊢
  have hA : ∀ q : Nat, s.heap.size ≤ q → A q := fun q h => by rw [← hAe]; exact Or.inr h
  have hS : va_S A s.heap s.heap [] := va_S.rf
  have hl := lv_entry ([.ref h0, .ref p1, .ref p2]) (n := 3) (Nat.le_of_ble_eq_true rfl)
  rw [lg_entry_eq]
  generalize (lg_sl ([.ref h0, .ref p1, .ref p2]) ++ List.replicate (3 - (lg_sl ([.ref h0, .ref p1, .ref p2])).length) Slot.unset).toArray = ls at hl ⊢
  have hl : lv_has ls 3 [(0, .ref h0), (1, .ref p1), (2, .ref p2)] := hl
  refine lv_aload_n hx hb d_Variables_init_0 rfl (lv_at hl 0 rfl) ?_
  refine W.objInit hx hb hown (hts _ w_40dc858b78) (hts _ w_308973208c) (hts _ w_1dd1bb0651) rfl (by rw [hml]; exact hl.1) rfl d_Variables_init_1 (Nat.le_of_ble_eq_true rfl) (Nat.le_of_ble_eq_true rfl) ?_
  refine W.eq (g2 := F0 m 4 ls []) rfl ?_
  refine lv_aload_n hx hb d_Variables_init_4 rfl (lv_at hl 0 rfl) ?_
  refine lv_bipush (v := 12) hx hb d_Variables_init_5 (by decide) ?_
  refine va_newa (atype := .long) (ty := .long) (a0 := (12, .inr (.inl (fun _ => 0)))) (N' := 12) hx hb (hts _ w_de0c2debc2) rfl hK hP hD hS hA (fun cA => vp_cell_l cA 12 (fun _ => 0)) (by decide) (by decide) (by decide) (Nat.le_of_ble_eq_true rfl) (Nat.le_of_ble_eq_true rfl) d_Variables_init_7 (fun q7 k7 H hK hP hD hS => ?_)
  have hP : va_P (dC, dI) vwCl [(h0, .inr (4, [.null, .null, .null, .int 0, .int 0])), (q7, .inl (k7, 12, .inr (.inl (fun _ => 0))))] H := hP
  have hD : va_D A [(h0, .inr (4, [.null, .null, .null, .int 0, .int 0])), (q7, .inl (k7, 12, .inr (.inl (fun _ => 0))))] := hD
  have hK : va_K (dC, dI) vwCl [(k7, .long)] s := hK
  refine W.widen (k := 1) (n := 12) (Nat.le_of_ble_eq_true rfl) (Nat.le_of_ble_eq_true rfl) ?_
  refine va_putF (D := (dC, dI)) (ci := 4) (v := .ref q7) (ty := (.array .long)) (C := "TinyForge$Variables") (T := F_Variables) (N := 5) hx hb hts i_Variables t_Variables t_Variables_ok n_Variables hown hK hP hD hS 0 rfl rfl 2 (by decide) (hts _ w_8fbb046fbf) (fun _ h9 => h9) rfl hin rfl (by decide +kernel) rfl rfl (Nat.le_of_ble_eq_true rfl) d_Variables_init_9 (fun H locs hP hD hS => ?_)
  have hP : va_P (dC, dI) vwCl [(h0, .inr (4, [.null, .null, .ref q7, .int 0, .int 0])), (q7, .inl (k7, 12, .inr (.inl (fun _ => 0))))] H := hP
  have hD : va_D A [(h0, .inr (4, [.null, .null, .ref q7, .int 0, .int 0])), (q7, .inl (k7, 12, .inr (.inl (fun _ => 0))))] := hD
  refine lv_aload_n hx hb d_Variables_init_12 rfl (lv_at hl 0 rfl) ?_
  refine lv_iconst (v := 0) hx hb d_Variables_init_13 (by decide) ?_
  refine va_put (D := (dC, dI)) (ci := 4) (v := .int 0) (ty := .int) (C := "TinyForge$Variables") (T := F_Variables) (N := 5) hx hb hts i_Variables t_Variables t_Variables_ok n_Variables hown hK hP hD hS 0 rfl rfl 3 (by decide) (hts _ w_c69438b43b) (fun _ h9 => h9) rfl (by decide +kernel) rfl rfl (Nat.le_of_ble_eq_true rfl) d_Variables_init_14 (fun H locs hP hD hS => ?_)
  have hP : va_P (dC, dI) vwCl [(h0, .inr (4, [.null, .null, .ref q7, .int 0, .int 0])), (q7, .inl (k7, 12, .inr (.inl (fun _ => 0))))] H := hP
  have hD : va_D A [(h0, .inr (4, [.null, .null, .ref q7, .int 0, .int 0])), (q7, .inl (k7, 12, .inr (.inl (fun _ => 0))))] := hD
  refine lv_aload_n hx hb d_Variables_init_17 rfl (lv_at hl 0 rfl) ?_
  refine lv_iconst (v := 0) hx hb d_Variables_init_18 (by decide) ?_
  refine va_put (D := (dC, dI)) (ci := 4) (v := .int 0) (ty := .int) (C := "TinyForge$Variables") (T := F_Variables) (N := 5) hx hb hts i_Variables t_Variables t_Variables_ok n_Variables hown hK hP hD hS 0 rfl rfl 4 (by decide) (hts _ w_f0c684baf8) (fun _ h9 => h9) rfl (by decide +kernel) rfl rfl (Nat.le_of_ble_eq_true rfl) d_Variables_init_19 (fun H locs hP hD hS => ?_)
  have hP : va_P (dC, dI) vwCl [(h0, .inr (4, [.null, .null, .ref q7, .int 0, .int 0])), (q7, .inl (k7, 12, .inr (.inl (fun _ => 0))))] H := hP
  have hD : va_D A [(h0, .inr (4, [.null, .null, .ref q7, .int 0, .int 0])), (q7, .inl (k7, 12, .inr (.inl (fun _ => 0))))] := hD
  refine lv_aload_n hx hb d_Variables_init_22 rfl (lv_at hl 0 rfl) ?_
  refine lv_aload_n hx hb d_Variables_init_23 rfl (lv_at hl 1 rfl) ?_
  refine va_putF (D := (dC, dI)) (ci := 4) (v := .ref p1) (ty := (.object "TinyForge$Tokens")) (C := "TinyForge$Variables") (T := F_Variables) (N := 5) hx hb hts i_Variables t_Variables t_Variables_ok n_Variables hown hK hP hD hS 0 rfl rfl 0 (by decide) (hts _ w_a799fe2caf) (fun _ h9 => h9) rfl hin rfl (by decide +kernel) rfl rfl (Nat.le_of_ble_eq_true rfl) d_Variables_init_24 (fun H locs hP hD hS => ?_)
  have hP : va_P (dC, dI) vwCl [(h0, .inr (4, [.ref p1, .null, .ref q7, .int 0, .int 0])), (q7, .inl (k7, 12, .inr (.inl (fun _ => 0))))] H := hP
  have hD : va_D A [(h0, .inr (4, [.ref p1, .null, .ref q7, .int 0, .int 0])), (q7, .inl (k7, 12, .inr (.inl (fun _ => 0))))] := hD
  refine lv_aload_n hx hb d_Variables_init_27 rfl (lv_at hl 0 rfl) ?_
  refine lv_aload_n hx hb d_Variables_init_28 rfl (lv_at hl 2 rfl) ?_
  refine va_putF (D := (dC, dI)) (ci := 4) (v := .ref p2) (ty := (.object "TinyForge$Refusal")) (C := "TinyForge$Variables") (T := F_Variables) (N := 5) hx hb hts i_Variables t_Variables t_Variables_ok n_Variables hown hK hP hD hS 0 rfl rfl 1 (by decide) (hts _ w_050468739d) (fun _ h9 => h9) rfl hin rfl (by decide +kernel) rfl rfl (Nat.le_of_ble_eq_true rfl) d_Variables_init_29 (fun H locs hP hD hS => ?_)
  have hP : va_P (dC, dI) vwCl [(h0, .inr (4, [.ref p1, .ref p2, .ref q7, .int 0, .int 0])), (q7, .inl (k7, 12, .inr (.inl (fun _ => 0))))] H := hP
  have hD : va_D A [(h0, .inr (4, [.ref p1, .ref p2, .ref q7, .int 0, .int 0])), (q7, .inl (k7, 12, .inr (.inl (fun _ => 0))))] := hD
  exact W.vret hx hb hr (fun t ht hW => ⟨⟨((fun k : Nat => match k with | 0 => q7 | _ => h0), (fun k : Nat => match k with | 0 => k7 | _ => dC 0)), rfl, trivial, by rw [ht]; exact hP, va_K.moved hW.alike hK, hD⟩, hS.F ht⟩) hS.2.2 d_Variables_init_32 hlocks
theorem d_Globals_init_0 : decode b_Globals_init 0 = .ok (.aload_n 0, 1) := by decide +kernel
theorem d_Globals_init_1 : decode b_Globals_init 1 = .ok (.invokespecial 3, 3) := by decide +kernel
theorem d_Globals_init_4 : decode b_Globals_init 4 = .ok (.aload_n 0, 1) := by decide +kernel
theorem d_Globals_init_5 : decode b_Globals_init 5 = .ok (.bipush 12, 2) := by decide +kernel
theorem d_Globals_init_7 : decode b_Globals_init 7 = .ok (.newarray .long, 2) := by decide +kernel
theorem d_Globals_init_9 : decode b_Globals_init 9 = .ok (.putfield 9, 3) := by decide +kernel
theorem d_Globals_init_12 : decode b_Globals_init 12 = .ok (.aload_n 0, 1) := by decide +kernel
theorem d_Globals_init_13 : decode b_Globals_init 13 = .ok (.bipush 12, 2) := by decide +kernel
theorem d_Globals_init_15 : decode b_Globals_init 15 = .ok (.newarray .boolean, 2) := by decide +kernel
theorem d_Globals_init_17 : decode b_Globals_init 17 = .ok (.putfield 15, 3) := by decide +kernel
theorem d_Globals_init_20 : decode b_Globals_init 20 = .ok (.aload_n 0, 1) := by decide +kernel
theorem d_Globals_init_21 : decode b_Globals_init 21 = .ok (.bipush 12, 2) := by decide +kernel
theorem d_Globals_init_23 : decode b_Globals_init 23 = .ok (.newarray .int, 2) := by decide +kernel
theorem d_Globals_init_25 : decode b_Globals_init 25 = .ok (.putfield 19, 3) := by decide +kernel
theorem d_Globals_init_28 : decode b_Globals_init 28 = .ok (.aload_n 0, 1) := by decide +kernel
theorem d_Globals_init_29 : decode b_Globals_init 29 = .ok (.bipush 12, 2) := by decide +kernel
theorem d_Globals_init_31 : decode b_Globals_init 31 = .ok (.newarray .int, 2) := by decide +kernel
theorem d_Globals_init_33 : decode b_Globals_init 33 = .ok (.putfield 23, 3) := by decide +kernel
theorem d_Globals_init_36 : decode b_Globals_init 36 = .ok (.aload_n 0, 1) := by decide +kernel
theorem d_Globals_init_37 : decode b_Globals_init 37 = .ok (.iconst 0, 1) := by decide +kernel
theorem d_Globals_init_38 : decode b_Globals_init 38 = .ok (.putfield 26, 3) := by decide +kernel
theorem d_Globals_init_41 : decode b_Globals_init 41 = .ok (.aload_n 0, 1) := by decide +kernel
theorem d_Globals_init_42 : decode b_Globals_init 42 = .ok (.iconst 0, 1) := by decide +kernel
theorem d_Globals_init_43 : decode b_Globals_init 43 = .ok (.putfield 30, 3) := by decide +kernel
theorem d_Globals_init_46 : decode b_Globals_init 46 = .ok (.aload_n 0, 1) := by decide +kernel
theorem d_Globals_init_47 : decode b_Globals_init 47 = .ok (.iconst 0, 1) := by decide +kernel
theorem d_Globals_init_48 : decode b_Globals_init 48 = .ok (.putfield 33, 3) := by decide +kernel
theorem d_Globals_init_51 : decode b_Globals_init 51 = .ok (.aload_n 0, 1) := by decide +kernel
theorem d_Globals_init_52 : decode b_Globals_init 52 = .ok (.aload_n 1, 1) := by decide +kernel
theorem d_Globals_init_53 : decode b_Globals_init 53 = .ok (.putfield 36, 3) := by decide +kernel
theorem d_Globals_init_56 : decode b_Globals_init 56 = .ok (.aload_n 0, 1) := by decide +kernel
theorem d_Globals_init_57 : decode b_Globals_init 57 = .ok (.aload_n 2, 1) := by decide +kernel
theorem d_Globals_init_58 : decode b_Globals_init 58 = .ok (.putfield 40, 3) := by decide +kernel
theorem d_Globals_init_61 : decode b_Globals_init 61 = .ok (.return_, 1) := by decide +kernel
def cu_Globals_init (h0 p1 p2 : Nat) (u : (Nat → Nat) × (Nat → ClassId)) : va_W := [(h0, .inr (5, [.ref p1, .ref p2, .ref (u.1 0), .ref (u.1 1), .ref (u.1 2), .ref (u.1 3), .int 0, .int 0, .int 0])), ((u.1 0), .inl ((u.2 0), 12, .inr (.inl (fun _ => 0)))), ((u.1 1), .inl ((u.2 1), 12, .inl (fun _ => 0))), ((u.1 2), .inl ((u.2 2), 12, .inl (fun _ => 0))), ((u.1 3), .inl ((u.2 3), 12, .inl (fun _ => 0)))]
def tu_Globals_init (u : (Nat → Nat) × (Nat → ClassId)) : List (ClassId × FieldType) := [((u.2 0), .long), ((u.2 1), .boolean), ((u.2 2), .int), ((u.2 3), .int)]
set_option maxHeartbeats 4000000 in
set_option maxRecDepth 100000 in
theorem cc_Globals_init (l : Launch) (dC : Nat → ClassId) (dI : Nat → Nat → Nat) (h0 p1 p2 sz : Nat) : Met l y_Globals_init (Cond.code y_Globals_init b_Globals_init 3 none :: BIG) { frames := 1, cells := 4, slots := 48, locals := 12 } (va_Pc [.ref h0, .ref p1, .ref p2] (fun U => U.heap.size = sz ∧ va_P (dC, dI) vwCl [(h0, .inr (5, [.null, .null, .null, .null, .null, .null, .int 0, .int 0, .int 0]))] U.heap ∧ va_K (dC, dI) vwCl [] U ∧ va_D (fun _ => True) [(h0, .inr (5, [.null, .null, .null, .null, .null, .null, .int 0, .int 0, .int 0]))])) (va_Qv (fun _ : (Nat → Nat) × (Nat → ClassId) => True) (fun u t => va_P (dC, dI) vwCl (cu_Globals_init h0 p1 p2 u) t.heap ∧ va_K (dC, dI) vwCl (tu_Globals_init u) t ∧ va_D (va_A [(h0, .inr (5, [.null, .null, .null, .null, .null, .null, .int 0, .int 0, .int 0]))] sz) (cu_Globals_init h0 p1 p2 u)) (va_A [(h0, .inr (5, [.null, .null, .null, .null, .null, .null, .int 0, .int 0, .int 0]))] sz)) 4 48 (va_A [(h0, .inr (5, [.null, .null, .null, .null, .null, .null, .int 0, .int 0, .int 0]))] sz) := by
  refine Met.ofW (cc := b_Globals_init) (maxL := 3) (ret := none) (by decide) rfl ?_
  intro p e s m args below meth c s₁ B hml hv
  obtain ⟨rfl, hsz, hP, hK, hD0⟩ := hv
  have hx := B.exec
  have hb := B.bytes
  have hr := B.returns
  have hts0 := atoms_spec (ws := Cond.code y_Globals_init b_Globals_init 3 none :: BIG) B.pre
  have hts : ∀ w ∈ BIG, w.before _ s = true := fun w h => hts0 w (List.mem_cons_of_mem _ h)
  have hown : s.vm.findClass "TinyForge$Globals" = some m.cls := findClass_of_methodNamed B.named
  have hlocks := B.notSynchronized
  have hin : meth.name = "<init>" := (name_of_methodNamed B.named B.method).1
  subst hsz
  have hD := hD0.self (sz := s.heap.size)
  generalize hAe : va_A [(h0, .inr (5, [.null, .null, .null, .null, .null, .null, .int 0, .int 0, .int 0]))] s.heap.size = A at hD ⊢
  have hA : ∀ q : Nat, s.heap.size ≤ q → A q := fun q h => by rw [← hAe]; exact Or.inr h
  have hS : va_S A s.heap s.heap [] := va_S.rf
  have hl := lv_entry ([.ref h0, .ref p1, .ref p2]) (n := 3) (Nat.le_of_ble_eq_true rfl)
  rw [lg_entry_eq]
  generalize (lg_sl ([.ref h0, .ref p1, .ref p2]) ++ List.replicate (3 - (lg_sl ([.ref h0, .ref p1, .ref p2])).length) Slot.unset).toArray = ls at hl ⊢
  have hl : lv_has ls 3 [(0, .ref h0), (1, .ref p1), (2, .ref p2)] := hl
  refine lv_aload_n hx hb d_Globals_init_0 rfl (lv_at hl 0 rfl) ?_
  refine W.objInit hx hb hown (hts _ w_823da67c83) (hts _ w_308973208c) (hts _ w_1dd1bb0651) rfl (by rw [hml]; exact hl.1) rfl d_Globals_init_1 (Nat.le_of_ble_eq_true rfl) (Nat.le_of_ble_eq_true rfl) ?_
  refine W.eq (g2 := F0 m 4 ls []) rfl ?_
  refine lv_aload_n hx hb d_Globals_init_4 rfl (lv_at hl 0 rfl) ?_
  refine lv_bipush (v := 12) hx hb d_Globals_init_5 (by decide) ?_
  refine va_newa (atype := .long) (ty := .long) (a0 := (12, .inr (.inl (fun _ => 0)))) (N' := 12) hx hb (hts _ w_de0c2debc2) rfl hK hP hD hS hA (fun cA => vp_cell_l cA 12 (fun _ => 0)) (by decide) (by decide) (by decide) (Nat.le_of_ble_eq_true rfl) (Nat.le_of_ble_eq_true rfl) d_Globals_init_7 (fun q7 k7 H hK hP hD hS => ?_)
  have hP : va_P (dC, dI) vwCl [(h0, .inr (5, [.null, .null, .null, .null, .null, .null, .int 0, .int 0, .int 0])), (q7, .inl (k7, 12, .inr (.inl (fun _ => 0))))] H := hP
  have hD : va_D A [(h0, .inr (5, [.null, .null, .null, .null, .null, .null, .int 0, .int 0, .int 0])), (q7, .inl (k7, 12, .inr (.inl (fun _ => 0))))] := hD
  have hK : va_K (dC, dI) vwCl [(k7, .long)] s := hK
  refine W.widen (k := 1) (n := 12) (Nat.le_of_ble_eq_true rfl) (Nat.le_of_ble_eq_true rfl) ?_
  refine va_putF (D := (dC, dI)) (ci := 5) (v := .ref q7) (ty := (.array .long)) (C := "TinyForge$Globals") (T := F_Globals) (N := 9) hx hb hts i_Globals t_Globals t_Globals_ok n_Globals hown hK hP hD hS 0 rfl rfl 2 (by decide) (hts _ w_57d4b2c74d) (fun _ h9 => h9) rfl hin rfl (by decide +kernel) rfl rfl (Nat.le_of_ble_eq_true rfl) d_Globals_init_9 (fun H locs hP hD hS => ?_)
  have hP : va_P (dC, dI) vwCl [(h0, .inr (5, [.null, .null, .ref q7, .null, .null, .null, .int 0, .int 0, .int 0])), (q7, .inl (k7, 12, .inr (.inl (fun _ => 0))))] H := hP
  have hD : va_D A [(h0, .inr (5, [.null, .null, .ref q7, .null, .null, .null, .int 0, .int 0, .int 0])), (q7, .inl (k7, 12, .inr (.inl (fun _ => 0))))] := hD
  refine lv_aload_n hx hb d_Globals_init_12 rfl (lv_at hl 0 rfl) ?_
  refine lv_bipush (v := 12) hx hb d_Globals_init_13 (by decide) ?_
  refine va_newa (atype := .boolean) (ty := .boolean) (a0 := (12, .inl (fun _ => 0))) (N' := 12) hx hb (hts _ w_d53e694851) rfl hK hP hD hS hA (fun cA => vp_cell_i cA 12 (fun _ => 0)) (by decide) (by decide) (by decide) (Nat.le_of_ble_eq_true rfl) (Nat.le_of_ble_eq_true rfl) d_Globals_init_15 (fun q15 k15 H hK hP hD hS => ?_)
  have hP : va_P (dC, dI) vwCl [(h0, .inr (5, [.null, .null, .ref q7, .null, .null, .null, .int 0, .int 0, .int 0])), (q7, .inl (k7, 12, .inr (.inl (fun _ => 0)))), (q15, .inl (k15, 12, .inl (fun _ => 0)))] H := hP
  have hD : va_D A [(h0, .inr (5, [.null, .null, .ref q7, .null, .null, .null, .int 0, .int 0, .int 0])), (q7, .inl (k7, 12, .inr (.inl (fun _ => 0)))), (q15, .inl (k15, 12, .inl (fun _ => 0)))] := hD
  have hK : va_K (dC, dI) vwCl [(k7, .long), (k15, .boolean)] s := hK
  refine W.widen (k := 2) (n := 24) (Nat.le_of_ble_eq_true rfl) (Nat.le_of_ble_eq_true rfl) ?_
  refine va_putF (D := (dC, dI)) (ci := 5) (v := .ref q15) (ty := (.array .boolean)) (C := "TinyForge$Globals") (T := F_Globals) (N := 9) hx hb hts i_Globals t_Globals t_Globals_ok n_Globals hown hK hP hD hS 0 rfl rfl 3 (by decide) (hts _ w_47b456232b) (fun _ h9 => h9) rfl hin rfl (by decide +kernel) rfl rfl (Nat.le_of_ble_eq_true rfl) d_Globals_init_17 (fun H locs hP hD hS => ?_)
  have hP : va_P (dC, dI) vwCl [(h0, .inr (5, [.null, .null, .ref q7, .ref q15, .null, .null, .int 0, .int 0, .int 0])), (q7, .inl (k7, 12, .inr (.inl (fun _ => 0)))), (q15, .inl (k15, 12, .inl (fun _ => 0)))] H := hP
  have hD : va_D A [(h0, .inr (5, [.null, .null, .ref q7, .ref q15, .null, .null, .int 0, .int 0, .int 0])), (q7, .inl (k7, 12, .inr (.inl (fun _ => 0)))), (q15, .inl (k15, 12, .inl (fun _ => 0)))] := hD
  refine lv_aload_n hx hb d_Globals_init_20 rfl (lv_at hl 0 rfl) ?_
  refine lv_bipush (v := 12) hx hb d_Globals_init_21 (by decide) ?_
  refine va_newa (atype := .int) (ty := .int) (a0 := (12, .inl (fun _ => 0))) (N' := 12) hx hb (hts _ w_2f6be69db0) rfl hK hP hD hS hA (fun cA => vp_cell_i cA 12 (fun _ => 0)) (by decide) (by decide) (by decide) (Nat.le_of_ble_eq_true rfl) (Nat.le_of_ble_eq_true rfl) d_Globals_init_23 (fun q23 k23 H hK hP hD hS => ?_)
  have hP : va_P (dC, dI) vwCl [(h0, .inr (5, [.null, .null, .ref q7, .ref q15, .null, .null, .int 0, .int 0, .int 0])), (q7, .inl (k7, 12, .inr (.inl (fun _ => 0)))), (q15, .inl (k15, 12, .inl (fun _ => 0))), (q23, .inl (k23, 12, .inl (fun _ => 0)))] H := hP
  have hD : va_D A [(h0, .inr (5, [.null, .null, .ref q7, .ref q15, .null, .null, .int 0, .int 0, .int 0])), (q7, .inl (k7, 12, .inr (.inl (fun _ => 0)))), (q15, .inl (k15, 12, .inl (fun _ => 0))), (q23, .inl (k23, 12, .inl (fun _ => 0)))] := hD
  have hK : va_K (dC, dI) vwCl [(k7, .long), (k15, .boolean), (k23, .int)] s := hK
  refine W.widen (k := 3) (n := 36) (Nat.le_of_ble_eq_true rfl) (Nat.le_of_ble_eq_true rfl) ?_
  refine va_putF (D := (dC, dI)) (ci := 5) (v := .ref q23) (ty := (.array .int)) (C := "TinyForge$Globals") (T := F_Globals) (N := 9) hx hb hts i_Globals t_Globals t_Globals_ok n_Globals hown hK hP hD hS 0 rfl rfl 4 (by decide) (hts _ w_b3be3f9e23) (fun _ h9 => h9) rfl hin rfl (by decide +kernel) rfl rfl (Nat.le_of_ble_eq_true rfl) d_Globals_init_25 (fun H locs hP hD hS => ?_)
  have hP : va_P (dC, dI) vwCl [(h0, .inr (5, [.null, .null, .ref q7, .ref q15, .ref q23, .null, .int 0, .int 0, .int 0])), (q7, .inl (k7, 12, .inr (.inl (fun _ => 0)))), (q15, .inl (k15, 12, .inl (fun _ => 0))), (q23, .inl (k23, 12, .inl (fun _ => 0)))] H := hP
  have hD : va_D A [(h0, .inr (5, [.null, .null, .ref q7, .ref q15, .ref q23, .null, .int 0, .int 0, .int 0])), (q7, .inl (k7, 12, .inr (.inl (fun _ => 0)))), (q15, .inl (k15, 12, .inl (fun _ => 0))), (q23, .inl (k23, 12, .inl (fun _ => 0)))] := hD
  refine lv_aload_n hx hb d_Globals_init_28 rfl (lv_at hl 0 rfl) ?_
  refine lv_bipush (v := 12) hx hb d_Globals_init_29 (by decide) ?_
  refine va_newa (atype := .int) (ty := .int) (a0 := (12, .inl (fun _ => 0))) (N' := 12) hx hb (hts _ w_2f6be69db0) rfl hK hP hD hS hA (fun cA => vp_cell_i cA 12 (fun _ => 0)) (by decide) (by decide) (by decide) (Nat.le_of_ble_eq_true rfl) (Nat.le_of_ble_eq_true rfl) d_Globals_init_31 (fun q31 k31 H hK hP hD hS => ?_)
  have hP : va_P (dC, dI) vwCl [(h0, .inr (5, [.null, .null, .ref q7, .ref q15, .ref q23, .null, .int 0, .int 0, .int 0])), (q7, .inl (k7, 12, .inr (.inl (fun _ => 0)))), (q15, .inl (k15, 12, .inl (fun _ => 0))), (q23, .inl (k23, 12, .inl (fun _ => 0))), (q31, .inl (k31, 12, .inl (fun _ => 0)))] H := hP
  have hD : va_D A [(h0, .inr (5, [.null, .null, .ref q7, .ref q15, .ref q23, .null, .int 0, .int 0, .int 0])), (q7, .inl (k7, 12, .inr (.inl (fun _ => 0)))), (q15, .inl (k15, 12, .inl (fun _ => 0))), (q23, .inl (k23, 12, .inl (fun _ => 0))), (q31, .inl (k31, 12, .inl (fun _ => 0)))] := hD
  have hK : va_K (dC, dI) vwCl [(k7, .long), (k15, .boolean), (k23, .int), (k31, .int)] s := hK
  refine W.widen (k := 4) (n := 48) (Nat.le_of_ble_eq_true rfl) (Nat.le_of_ble_eq_true rfl) ?_
  refine va_putF (D := (dC, dI)) (ci := 5) (v := .ref q31) (ty := (.array .int)) (C := "TinyForge$Globals") (T := F_Globals) (N := 9) hx hb hts i_Globals t_Globals t_Globals_ok n_Globals hown hK hP hD hS 0 rfl rfl 5 (by decide) (hts _ w_9c141b8f60) (fun _ h9 => h9) rfl hin rfl (by decide +kernel) rfl rfl (Nat.le_of_ble_eq_true rfl) d_Globals_init_33 (fun H locs hP hD hS => ?_)
  have hP : va_P (dC, dI) vwCl [(h0, .inr (5, [.null, .null, .ref q7, .ref q15, .ref q23, .ref q31, .int 0, .int 0, .int 0])), (q7, .inl (k7, 12, .inr (.inl (fun _ => 0)))), (q15, .inl (k15, 12, .inl (fun _ => 0))), (q23, .inl (k23, 12, .inl (fun _ => 0))), (q31, .inl (k31, 12, .inl (fun _ => 0)))] H := hP
  have hD : va_D A [(h0, .inr (5, [.null, .null, .ref q7, .ref q15, .ref q23, .ref q31, .int 0, .int 0, .int 0])), (q7, .inl (k7, 12, .inr (.inl (fun _ => 0)))), (q15, .inl (k15, 12, .inl (fun _ => 0))), (q23, .inl (k23, 12, .inl (fun _ => 0))), (q31, .inl (k31, 12, .inl (fun _ => 0)))] := hD
  refine lv_aload_n hx hb d_Globals_init_36 rfl (lv_at hl 0 rfl) ?_
  refine lv_iconst (v := 0) hx hb d_Globals_init_37 (by decide) ?_
  refine va_put (D := (dC, dI)) (ci := 5) (v := .int 0) (ty := .int) (C := "TinyForge$Globals") (T := F_Globals) (N := 9) hx hb hts i_Globals t_Globals t_Globals_ok n_Globals hown hK hP hD hS 0 rfl rfl 6 (by decide) (hts _ w_2120be7327) (fun _ h9 => h9) rfl (by decide +kernel) rfl rfl (Nat.le_of_ble_eq_true rfl) d_Globals_init_38 (fun H locs hP hD hS => ?_)
  have hP : va_P (dC, dI) vwCl [(h0, .inr (5, [.null, .null, .ref q7, .ref q15, .ref q23, .ref q31, .int 0, .int 0, .int 0])), (q7, .inl (k7, 12, .inr (.inl (fun _ => 0)))), (q15, .inl (k15, 12, .inl (fun _ => 0))), (q23, .inl (k23, 12, .inl (fun _ => 0))), (q31, .inl (k31, 12, .inl (fun _ => 0)))] H := hP
  have hD : va_D A [(h0, .inr (5, [.null, .null, .ref q7, .ref q15, .ref q23, .ref q31, .int 0, .int 0, .int 0])), (q7, .inl (k7, 12, .inr (.inl (fun _ => 0)))), (q15, .inl (k15, 12, .inl (fun _ => 0))), (q23, .inl (k23, 12, .inl (fun _ => 0))), (q31, .inl (k31, 12, .inl (fun _ => 0)))] := hD
  refine lv_aload_n hx hb d_Globals_init_41 rfl (lv_at hl 0 rfl) ?_
  refine lv_iconst (v := 0) hx hb d_Globals_init_42 (by decide) ?_
  refine va_put (D := (dC, dI)) (ci := 5) (v := .int 0) (ty := .int) (C := "TinyForge$Globals") (T := F_Globals) (N := 9) hx hb hts i_Globals t_Globals t_Globals_ok n_Globals hown hK hP hD hS 0 rfl rfl 7 (by decide) (hts _ w_053c5b20fd) (fun _ h9 => h9) rfl (by decide +kernel) rfl rfl (Nat.le_of_ble_eq_true rfl) d_Globals_init_43 (fun H locs hP hD hS => ?_)
  have hP : va_P (dC, dI) vwCl [(h0, .inr (5, [.null, .null, .ref q7, .ref q15, .ref q23, .ref q31, .int 0, .int 0, .int 0])), (q7, .inl (k7, 12, .inr (.inl (fun _ => 0)))), (q15, .inl (k15, 12, .inl (fun _ => 0))), (q23, .inl (k23, 12, .inl (fun _ => 0))), (q31, .inl (k31, 12, .inl (fun _ => 0)))] H := hP
  have hD : va_D A [(h0, .inr (5, [.null, .null, .ref q7, .ref q15, .ref q23, .ref q31, .int 0, .int 0, .int 0])), (q7, .inl (k7, 12, .inr (.inl (fun _ => 0)))), (q15, .inl (k15, 12, .inl (fun _ => 0))), (q23, .inl (k23, 12, .inl (fun _ => 0))), (q31, .inl (k31, 12, .inl (fun _ => 0)))] := hD
  refine lv_aload_n hx hb d_Globals_init_46 rfl (lv_at hl 0 rfl) ?_
  refine lv_iconst (v := 0) hx hb d_Globals_init_47 (by decide) ?_
  refine va_put (D := (dC, dI)) (ci := 5) (v := .int 0) (ty := .int) (C := "TinyForge$Globals") (T := F_Globals) (N := 9) hx hb hts i_Globals t_Globals t_Globals_ok n_Globals hown hK hP hD hS 0 rfl rfl 8 (by decide) (hts _ w_0ba47f98a3) (fun _ h9 => h9) rfl (by decide +kernel) rfl rfl (Nat.le_of_ble_eq_true rfl) d_Globals_init_48 (fun H locs hP hD hS => ?_)
  have hP : va_P (dC, dI) vwCl [(h0, .inr (5, [.null, .null, .ref q7, .ref q15, .ref q23, .ref q31, .int 0, .int 0, .int 0])), (q7, .inl (k7, 12, .inr (.inl (fun _ => 0)))), (q15, .inl (k15, 12, .inl (fun _ => 0))), (q23, .inl (k23, 12, .inl (fun _ => 0))), (q31, .inl (k31, 12, .inl (fun _ => 0)))] H := hP
  have hD : va_D A [(h0, .inr (5, [.null, .null, .ref q7, .ref q15, .ref q23, .ref q31, .int 0, .int 0, .int 0])), (q7, .inl (k7, 12, .inr (.inl (fun _ => 0)))), (q15, .inl (k15, 12, .inl (fun _ => 0))), (q23, .inl (k23, 12, .inl (fun _ => 0))), (q31, .inl (k31, 12, .inl (fun _ => 0)))] := hD
  refine lv_aload_n hx hb d_Globals_init_51 rfl (lv_at hl 0 rfl) ?_
  refine lv_aload_n hx hb d_Globals_init_52 rfl (lv_at hl 1 rfl) ?_
  refine va_putF (D := (dC, dI)) (ci := 5) (v := .ref p1) (ty := (.object "TinyForge$Tokens")) (C := "TinyForge$Globals") (T := F_Globals) (N := 9) hx hb hts i_Globals t_Globals t_Globals_ok n_Globals hown hK hP hD hS 0 rfl rfl 0 (by decide) (hts _ w_029488eab2) (fun _ h9 => h9) rfl hin rfl (by decide +kernel) rfl rfl (Nat.le_of_ble_eq_true rfl) d_Globals_init_53 (fun H locs hP hD hS => ?_)
  have hP : va_P (dC, dI) vwCl [(h0, .inr (5, [.ref p1, .null, .ref q7, .ref q15, .ref q23, .ref q31, .int 0, .int 0, .int 0])), (q7, .inl (k7, 12, .inr (.inl (fun _ => 0)))), (q15, .inl (k15, 12, .inl (fun _ => 0))), (q23, .inl (k23, 12, .inl (fun _ => 0))), (q31, .inl (k31, 12, .inl (fun _ => 0)))] H := hP
  have hD : va_D A [(h0, .inr (5, [.ref p1, .null, .ref q7, .ref q15, .ref q23, .ref q31, .int 0, .int 0, .int 0])), (q7, .inl (k7, 12, .inr (.inl (fun _ => 0)))), (q15, .inl (k15, 12, .inl (fun _ => 0))), (q23, .inl (k23, 12, .inl (fun _ => 0))), (q31, .inl (k31, 12, .inl (fun _ => 0)))] := hD
  refine lv_aload_n hx hb d_Globals_init_56 rfl (lv_at hl 0 rfl) ?_
  refine lv_aload_n hx hb d_Globals_init_57 rfl (lv_at hl 2 rfl) ?_
  refine va_putF (D := (dC, dI)) (ci := 5) (v := .ref p2) (ty := (.object "TinyForge$Refusal")) (C := "TinyForge$Globals") (T := F_Globals) (N := 9) hx hb hts i_Globals t_Globals t_Globals_ok n_Globals hown hK hP hD hS 0 rfl rfl 1 (by decide) (hts _ w_41613a3bcb) (fun _ h9 => h9) rfl hin rfl (by decide +kernel) rfl rfl (Nat.le_of_ble_eq_true rfl) d_Globals_init_58 (fun H locs hP hD hS => ?_)
  have hP : va_P (dC, dI) vwCl [(h0, .inr (5, [.ref p1, .ref p2, .ref q7, .ref q15, .ref q23, .ref q31, .int 0, .int 0, .int 0])), (q7, .inl (k7, 12, .inr (.inl (fun _ => 0)))), (q15, .inl (k15, 12, .inl (fun _ => 0))), (q23, .inl (k23, 12, .inl (fun _ => 0))), (q31, .inl (k31, 12, .inl (fun _ => 0)))] H := hP
  have hD : va_D A [(h0, .inr (5, [.ref p1, .ref p2, .ref q7, .ref q15, .ref q23, .ref q31, .int 0, .int 0, .int 0])), (q7, .inl (k7, 12, .inr (.inl (fun _ => 0)))), (q15, .inl (k15, 12, .inl (fun _ => 0))), (q23, .inl (k23, 12, .inl (fun _ => 0))), (q31, .inl (k31, 12, .inl (fun _ => 0)))] := hD
  exact W.vret hx hb hr (fun t ht hW => ⟨⟨((fun k : Nat => match k with | 0 => q7 | 1 => q15 | 2 => q23 | 3 => q31 | _ => h0), (fun k : Nat => match k with | 0 => k7 | 1 => k15 | 2 => k23 | 3 => k31 | _ => dC 0)), rfl, trivial, by rw [ht]; exact hP, va_K.moved hW.alike hK, hD⟩, hS.F ht⟩) hS.2.2 d_Globals_init_61 hlocks
theorem d_Program_init_0 : decode b_Program_init 0 = .ok (.aload_n 0, 1) := by decide +kernel
theorem d_Program_init_1 : decode b_Program_init 1 = .ok (.invokespecial 3, 3) := by decide +kernel
theorem d_Program_init_4 : decode b_Program_init 4 = .ok (.aload_n 0, 1) := by decide +kernel
theorem d_Program_init_5 : decode b_Program_init 5 = .ok (.sipush 440, 3) := by decide +kernel
theorem d_Program_init_8 : decode b_Program_init 8 = .ok (.newarray .int, 2) := by decide +kernel
theorem d_Program_init_10 : decode b_Program_init 10 = .ok (.putfield 9, 3) := by decide +kernel
theorem d_Program_init_13 : decode b_Program_init 13 = .ok (.aload_n 0, 1) := by decide +kernel
theorem d_Program_init_14 : decode b_Program_init 14 = .ok (.sipush 440, 3) := by decide +kernel
theorem d_Program_init_17 : decode b_Program_init 17 = .ok (.newarray .int, 2) := by decide +kernel
theorem d_Program_init_19 : decode b_Program_init 19 = .ok (.putfield 15, 3) := by decide +kernel
theorem d_Program_init_22 : decode b_Program_init 22 = .ok (.aload_n 0, 1) := by decide +kernel
theorem d_Program_init_23 : decode b_Program_init 23 = .ok (.sipush 440, 3) := by decide +kernel
theorem d_Program_init_26 : decode b_Program_init 26 = .ok (.newarray .int, 2) := by decide +kernel
theorem d_Program_init_28 : decode b_Program_init 28 = .ok (.putfield 18, 3) := by decide +kernel
theorem d_Program_init_31 : decode b_Program_init 31 = .ok (.aload_n 0, 1) := by decide +kernel
theorem d_Program_init_32 : decode b_Program_init 32 = .ok (.iconst 0, 1) := by decide +kernel
theorem d_Program_init_33 : decode b_Program_init 33 = .ok (.putfield 21, 3) := by decide +kernel
theorem d_Program_init_36 : decode b_Program_init 36 = .ok (.aload_n 0, 1) := by decide +kernel
theorem d_Program_init_37 : decode b_Program_init 37 = .ok (.iconst 0, 1) := by decide +kernel
theorem d_Program_init_38 : decode b_Program_init 38 = .ok (.putfield 25, 3) := by decide +kernel
theorem d_Program_init_41 : decode b_Program_init 41 = .ok (.return_, 1) := by decide +kernel
def cu_Program_init (h0 : Nat) (u : (Nat → Nat) × (Nat → ClassId)) : va_W := [(h0, .inr (6, [.ref (u.1 0), .ref (u.1 1), .ref (u.1 2), .int 0, .int 0])), ((u.1 0), .inl ((u.2 0), 440, .inl (fun _ => 0))), ((u.1 1), .inl ((u.2 1), 440, .inl (fun _ => 0))), ((u.1 2), .inl ((u.2 2), 440, .inl (fun _ => 0)))]
def tu_Program_init (u : (Nat → Nat) × (Nat → ClassId)) : List (ClassId × FieldType) := [((u.2 0), .int), ((u.2 1), .int), ((u.2 2), .int)]
set_option maxHeartbeats 4000000 in
set_option maxRecDepth 100000 in
theorem cc_Program_init (l : Launch) (dC : Nat → ClassId) (dI : Nat → Nat → Nat) (h0 sz : Nat) : Met l y_Program_init (Cond.code y_Program_init b_Program_init 1 none :: BIG) { frames := 1, cells := 3, slots := 1320, locals := 12 } (va_Pc [.ref h0] (fun U => U.heap.size = sz ∧ va_P (dC, dI) vwCl [(h0, .inr (6, [.null, .null, .null, .int 0, .int 0]))] U.heap ∧ va_K (dC, dI) vwCl [] U ∧ va_D (fun _ => True) [(h0, .inr (6, [.null, .null, .null, .int 0, .int 0]))])) (va_Qv (fun _ : (Nat → Nat) × (Nat → ClassId) => True) (fun u t => va_P (dC, dI) vwCl (cu_Program_init h0 u) t.heap ∧ va_K (dC, dI) vwCl (tu_Program_init u) t ∧ va_D (va_A [(h0, .inr (6, [.null, .null, .null, .int 0, .int 0]))] sz) (cu_Program_init h0 u)) (va_A [(h0, .inr (6, [.null, .null, .null, .int 0, .int 0]))] sz)) 3 1320 (va_A [(h0, .inr (6, [.null, .null, .null, .int 0, .int 0]))] sz) := by
  refine Met.ofW (cc := b_Program_init) (maxL := 1) (ret := none) (by decide) rfl ?_
  intro p e s m args below meth c s₁ B hml hv
  obtain ⟨rfl, hsz, hP, hK, hD0⟩ := hv
  have hx := B.exec
  have hb := B.bytes
  have hr := B.returns
  have hts0 := atoms_spec (ws := Cond.code y_Program_init b_Program_init 1 none :: BIG) B.pre
  have hts : ∀ w ∈ BIG, w.before _ s = true := fun w h => hts0 w (List.mem_cons_of_mem _ h)
  have hown : s.vm.findClass "TinyForge$Program" = some m.cls := findClass_of_methodNamed B.named
  have hlocks := B.notSynchronized
  have hin : meth.name = "<init>" := (name_of_methodNamed B.named B.method).1
  subst hsz
  have hD := hD0.self (sz := s.heap.size)
  generalize hAe : va_A [(h0, .inr (6, [.null, .null, .null, .int 0, .int 0]))] s.heap.size = A at hD ⊢
  have hA : ∀ q : Nat, s.heap.size ≤ q → A q := fun q h => by rw [← hAe]; exact Or.inr h
  have hS : va_S A s.heap s.heap [] := va_S.rf
  have hl := lv_entry ([.ref h0]) (n := 1) (Nat.le_of_ble_eq_true rfl)
  rw [lg_entry_eq]
  generalize (lg_sl ([.ref h0]) ++ List.replicate (1 - (lg_sl ([.ref h0])).length) Slot.unset).toArray = ls at hl ⊢
  have hl : lv_has ls 1 [(0, .ref h0)] := hl
  refine lv_aload_n hx hb d_Program_init_0 rfl (lv_at hl 0 rfl) ?_
  refine W.objInit hx hb hown (hts _ w_8c576667a6) (hts _ w_308973208c) (hts _ w_1dd1bb0651) rfl (by rw [hml]; exact hl.1) rfl d_Program_init_1 (Nat.le_of_ble_eq_true rfl) (Nat.le_of_ble_eq_true rfl) ?_
  refine W.eq (g2 := F0 m 4 ls []) rfl ?_
  refine lv_aload_n hx hb d_Program_init_4 rfl (lv_at hl 0 rfl) ?_
  refine lv_sipush (v := 440) hx hb d_Program_init_5 (by decide) ?_
  refine va_newa (atype := .int) (ty := .int) (a0 := (440, .inl (fun _ => 0))) (N' := 440) hx hb (hts _ w_2f6be69db0) rfl hK hP hD hS hA (fun cA => vp_cell_i cA 440 (fun _ => 0)) (by decide) (by decide) (by decide) (Nat.le_of_ble_eq_true rfl) (Nat.le_of_ble_eq_true rfl) d_Program_init_8 (fun q8 k8 H hK hP hD hS => ?_)
  have hP : va_P (dC, dI) vwCl [(h0, .inr (6, [.null, .null, .null, .int 0, .int 0])), (q8, .inl (k8, 440, .inl (fun _ => 0)))] H := hP
  have hD : va_D A [(h0, .inr (6, [.null, .null, .null, .int 0, .int 0])), (q8, .inl (k8, 440, .inl (fun _ => 0)))] := hD
  have hK : va_K (dC, dI) vwCl [(k8, .int)] s := hK
  refine W.widen (k := 1) (n := 440) (Nat.le_of_ble_eq_true rfl) (Nat.le_of_ble_eq_true rfl) ?_
  refine va_putF (D := (dC, dI)) (ci := 6) (v := .ref q8) (ty := (.array .int)) (C := "TinyForge$Program") (T := F_Program) (N := 5) hx hb hts i_Program t_Program t_Program_ok n_Program hown hK hP hD hS 0 rfl rfl 0 (by decide) (hts _ w_c2c4f36bd9) (fun _ h9 => h9) rfl hin rfl (by decide +kernel) rfl rfl (Nat.le_of_ble_eq_true rfl) d_Program_init_10 (fun H locs hP hD hS => ?_)
  have hP : va_P (dC, dI) vwCl [(h0, .inr (6, [.ref q8, .null, .null, .int 0, .int 0])), (q8, .inl (k8, 440, .inl (fun _ => 0)))] H := hP
  have hD : va_D A [(h0, .inr (6, [.ref q8, .null, .null, .int 0, .int 0])), (q8, .inl (k8, 440, .inl (fun _ => 0)))] := hD
  refine lv_aload_n hx hb d_Program_init_13 rfl (lv_at hl 0 rfl) ?_
  refine lv_sipush (v := 440) hx hb d_Program_init_14 (by decide) ?_
  refine va_newa (atype := .int) (ty := .int) (a0 := (440, .inl (fun _ => 0))) (N' := 440) hx hb (hts _ w_2f6be69db0) rfl hK hP hD hS hA (fun cA => vp_cell_i cA 440 (fun _ => 0)) (by decide) (by decide) (by decide) (Nat.le_of_ble_eq_true rfl) (Nat.le_of_ble_eq_true rfl) d_Program_init_17 (fun q17 k17 H hK hP hD hS => ?_)
  have hP : va_P (dC, dI) vwCl [(h0, .inr (6, [.ref q8, .null, .null, .int 0, .int 0])), (q8, .inl (k8, 440, .inl (fun _ => 0))), (q17, .inl (k17, 440, .inl (fun _ => 0)))] H := hP
  have hD : va_D A [(h0, .inr (6, [.ref q8, .null, .null, .int 0, .int 0])), (q8, .inl (k8, 440, .inl (fun _ => 0))), (q17, .inl (k17, 440, .inl (fun _ => 0)))] := hD
  have hK : va_K (dC, dI) vwCl [(k8, .int), (k17, .int)] s := hK
  refine W.widen (k := 2) (n := 880) (Nat.le_of_ble_eq_true rfl) (Nat.le_of_ble_eq_true rfl) ?_
  refine va_putF (D := (dC, dI)) (ci := 6) (v := .ref q17) (ty := (.array .int)) (C := "TinyForge$Program") (T := F_Program) (N := 5) hx hb hts i_Program t_Program t_Program_ok n_Program hown hK hP hD hS 0 rfl rfl 1 (by decide) (hts _ w_30891a08d5) (fun _ h9 => h9) rfl hin rfl (by decide +kernel) rfl rfl (Nat.le_of_ble_eq_true rfl) d_Program_init_19 (fun H locs hP hD hS => ?_)
  have hP : va_P (dC, dI) vwCl [(h0, .inr (6, [.ref q8, .ref q17, .null, .int 0, .int 0])), (q8, .inl (k8, 440, .inl (fun _ => 0))), (q17, .inl (k17, 440, .inl (fun _ => 0)))] H := hP
  have hD : va_D A [(h0, .inr (6, [.ref q8, .ref q17, .null, .int 0, .int 0])), (q8, .inl (k8, 440, .inl (fun _ => 0))), (q17, .inl (k17, 440, .inl (fun _ => 0)))] := hD
  refine lv_aload_n hx hb d_Program_init_22 rfl (lv_at hl 0 rfl) ?_
  refine lv_sipush (v := 440) hx hb d_Program_init_23 (by decide) ?_
  refine va_newa (atype := .int) (ty := .int) (a0 := (440, .inl (fun _ => 0))) (N' := 440) hx hb (hts _ w_2f6be69db0) rfl hK hP hD hS hA (fun cA => vp_cell_i cA 440 (fun _ => 0)) (by decide) (by decide) (by decide) (Nat.le_of_ble_eq_true rfl) (Nat.le_of_ble_eq_true rfl) d_Program_init_26 (fun q26 k26 H hK hP hD hS => ?_)
  have hP : va_P (dC, dI) vwCl [(h0, .inr (6, [.ref q8, .ref q17, .null, .int 0, .int 0])), (q8, .inl (k8, 440, .inl (fun _ => 0))), (q17, .inl (k17, 440, .inl (fun _ => 0))), (q26, .inl (k26, 440, .inl (fun _ => 0)))] H := hP
  have hD : va_D A [(h0, .inr (6, [.ref q8, .ref q17, .null, .int 0, .int 0])), (q8, .inl (k8, 440, .inl (fun _ => 0))), (q17, .inl (k17, 440, .inl (fun _ => 0))), (q26, .inl (k26, 440, .inl (fun _ => 0)))] := hD
  have hK : va_K (dC, dI) vwCl [(k8, .int), (k17, .int), (k26, .int)] s := hK
  refine W.widen (k := 3) (n := 1320) (Nat.le_of_ble_eq_true rfl) (Nat.le_of_ble_eq_true rfl) ?_
  refine va_putF (D := (dC, dI)) (ci := 6) (v := .ref q26) (ty := (.array .int)) (C := "TinyForge$Program") (T := F_Program) (N := 5) hx hb hts i_Program t_Program t_Program_ok n_Program hown hK hP hD hS 0 rfl rfl 2 (by decide) (hts _ w_f18bd65478) (fun _ h9 => h9) rfl hin rfl (by decide +kernel) rfl rfl (Nat.le_of_ble_eq_true rfl) d_Program_init_28 (fun H locs hP hD hS => ?_)
  have hP : va_P (dC, dI) vwCl [(h0, .inr (6, [.ref q8, .ref q17, .ref q26, .int 0, .int 0])), (q8, .inl (k8, 440, .inl (fun _ => 0))), (q17, .inl (k17, 440, .inl (fun _ => 0))), (q26, .inl (k26, 440, .inl (fun _ => 0)))] H := hP
  have hD : va_D A [(h0, .inr (6, [.ref q8, .ref q17, .ref q26, .int 0, .int 0])), (q8, .inl (k8, 440, .inl (fun _ => 0))), (q17, .inl (k17, 440, .inl (fun _ => 0))), (q26, .inl (k26, 440, .inl (fun _ => 0)))] := hD
  refine lv_aload_n hx hb d_Program_init_31 rfl (lv_at hl 0 rfl) ?_
  refine lv_iconst (v := 0) hx hb d_Program_init_32 (by decide) ?_
  refine va_put (D := (dC, dI)) (ci := 6) (v := .int 0) (ty := .int) (C := "TinyForge$Program") (T := F_Program) (N := 5) hx hb hts i_Program t_Program t_Program_ok n_Program hown hK hP hD hS 0 rfl rfl 3 (by decide) (hts _ w_a328c70ad6) (fun _ h9 => h9) rfl (by decide +kernel) rfl rfl (Nat.le_of_ble_eq_true rfl) d_Program_init_33 (fun H locs hP hD hS => ?_)
  have hP : va_P (dC, dI) vwCl [(h0, .inr (6, [.ref q8, .ref q17, .ref q26, .int 0, .int 0])), (q8, .inl (k8, 440, .inl (fun _ => 0))), (q17, .inl (k17, 440, .inl (fun _ => 0))), (q26, .inl (k26, 440, .inl (fun _ => 0)))] H := hP
  have hD : va_D A [(h0, .inr (6, [.ref q8, .ref q17, .ref q26, .int 0, .int 0])), (q8, .inl (k8, 440, .inl (fun _ => 0))), (q17, .inl (k17, 440, .inl (fun _ => 0))), (q26, .inl (k26, 440, .inl (fun _ => 0)))] := hD
  refine lv_aload_n hx hb d_Program_init_36 rfl (lv_at hl 0 rfl) ?_
  refine lv_iconst (v := 0) hx hb d_Program_init_37 (by decide) ?_
  refine va_put (D := (dC, dI)) (ci := 6) (v := .int 0) (ty := .int) (C := "TinyForge$Program") (T := F_Program) (N := 5) hx hb hts i_Program t_Program t_Program_ok n_Program hown hK hP hD hS 0 rfl rfl 4 (by decide) (hts _ w_5910d1262c) (fun _ h9 => h9) rfl (by decide +kernel) rfl rfl (Nat.le_of_ble_eq_true rfl) d_Program_init_38 (fun H locs hP hD hS => ?_)
  have hP : va_P (dC, dI) vwCl [(h0, .inr (6, [.ref q8, .ref q17, .ref q26, .int 0, .int 0])), (q8, .inl (k8, 440, .inl (fun _ => 0))), (q17, .inl (k17, 440, .inl (fun _ => 0))), (q26, .inl (k26, 440, .inl (fun _ => 0)))] H := hP
  have hD : va_D A [(h0, .inr (6, [.ref q8, .ref q17, .ref q26, .int 0, .int 0])), (q8, .inl (k8, 440, .inl (fun _ => 0))), (q17, .inl (k17, 440, .inl (fun _ => 0))), (q26, .inl (k26, 440, .inl (fun _ => 0)))] := hD
  exact W.vret hx hb hr (fun t ht hW => ⟨⟨((fun k : Nat => match k with | 0 => q8 | 1 => q17 | 2 => q26 | _ => h0), (fun k : Nat => match k with | 0 => k8 | 1 => k17 | 2 => k26 | _ => dC 0)), rfl, trivial, by rw [ht]; exact hP, va_K.moved hW.alike hK, hD⟩, hS.F ht⟩) hS.2.2 d_Program_init_41 hlocks
theorem d_Grammar_init_0 : decode b_Grammar_init 0 = .ok (.aload_n 0, 1) := by decide +kernel
theorem d_Grammar_init_1 : decode b_Grammar_init 1 = .ok (.invokespecial 3, 3) := by decide +kernel
theorem d_Grammar_init_4 : decode b_Grammar_init 4 = .ok (.aload_n 0, 1) := by decide +kernel
theorem d_Grammar_init_5 : decode b_Grammar_init 5 = .ok (.aload_n 1, 1) := by decide +kernel
theorem d_Grammar_init_6 : decode b_Grammar_init 6 = .ok (.putfield 9, 3) := by decide +kernel
theorem d_Grammar_init_9 : decode b_Grammar_init 9 = .ok (.aload_n 0, 1) := by decide +kernel
theorem d_Grammar_init_10 : decode b_Grammar_init 10 = .ok (.aload_n 2, 1) := by decide +kernel
theorem d_Grammar_init_11 : decode b_Grammar_init 11 = .ok (.putfield 15, 3) := by decide +kernel
theorem d_Grammar_init_14 : decode b_Grammar_init 14 = .ok (.aload_n 0, 1) := by decide +kernel
theorem d_Grammar_init_15 : decode b_Grammar_init 15 = .ok (.aload_n 3, 1) := by decide +kernel
theorem d_Grammar_init_16 : decode b_Grammar_init 16 = .ok (.putfield 19, 3) := by decide +kernel
theorem d_Grammar_init_19 : decode b_Grammar_init 19 = .ok (.aload_n 0, 1) := by decide +kernel
theorem d_Grammar_init_20 : decode b_Grammar_init 20 = .ok (.aload 4, 2) := by decide +kernel
theorem d_Grammar_init_22 : decode b_Grammar_init 22 = .ok (.putfield 23, 3) := by decide +kernel
theorem d_Grammar_init_25 : decode b_Grammar_init 25 = .ok (.return_, 1) := by decide +kernel
def cu_Grammar_init (h0 p1 p2 p3 p4 : Nat) (u : (Nat → Nat) × (Nat → ClassId)) : va_W := [(h0, .inr (7, [.ref p1, .ref p2, .ref p3, .ref p4]))]
def tu_Grammar_init (u : (Nat → Nat) × (Nat → ClassId)) : List (ClassId × FieldType) := []
set_option maxHeartbeats 4000000 in
set_option maxRecDepth 100000 in
theorem cc_Grammar_init (l : Launch) (dC : Nat → ClassId) (dI : Nat → Nat → Nat) (h0 p1 p2 p3 p4 sz : Nat) : Met l y_Grammar_init (Cond.code y_Grammar_init b_Grammar_init 5 none :: BIG) { frames := 1, cells := 0, slots := 0, locals := 12 } (va_Pc [.ref h0, .ref p1, .ref p2, .ref p3, .ref p4] (fun U => U.heap.size = sz ∧ va_P (dC, dI) vwCl [(h0, .inr (7, [.null, .null, .null, .null]))] U.heap ∧ va_K (dC, dI) vwCl [] U ∧ va_D (fun _ => True) [(h0, .inr (7, [.null, .null, .null, .null]))])) (va_Qv (fun _ : (Nat → Nat) × (Nat → ClassId) => True) (fun u t => va_P (dC, dI) vwCl (cu_Grammar_init h0 p1 p2 p3 p4 u) t.heap ∧ va_K (dC, dI) vwCl (tu_Grammar_init u) t ∧ va_D (va_A [(h0, .inr (7, [.null, .null, .null, .null]))] sz) (cu_Grammar_init h0 p1 p2 p3 p4 u)) (va_A [(h0, .inr (7, [.null, .null, .null, .null]))] sz)) 0 0 (va_A [(h0, .inr (7, [.null, .null, .null, .null]))] sz) := by
  refine Met.ofW (cc := b_Grammar_init) (maxL := 5) (ret := none) (by decide) rfl ?_
  intro p e s m args below meth c s₁ B hml hv
  obtain ⟨rfl, hsz, hP, hK, hD0⟩ := hv
  have hx := B.exec
  have hb := B.bytes
  have hr := B.returns
  have hts0 := atoms_spec (ws := Cond.code y_Grammar_init b_Grammar_init 5 none :: BIG) B.pre
  have hts : ∀ w ∈ BIG, w.before _ s = true := fun w h => hts0 w (List.mem_cons_of_mem _ h)
  have hown : s.vm.findClass "TinyForge$Grammar" = some m.cls := findClass_of_methodNamed B.named
  have hlocks := B.notSynchronized
  have hin : meth.name = "<init>" := (name_of_methodNamed B.named B.method).1
  subst hsz
  have hD := hD0.self (sz := s.heap.size)
  generalize hAe : va_A [(h0, .inr (7, [.null, .null, .null, .null]))] s.heap.size = A at hD ⊢
  have hA : ∀ q : Nat, s.heap.size ≤ q → A q := fun q h => by rw [← hAe]; exact Or.inr h
  have hS : va_S A s.heap s.heap [] := va_S.rf
  have hl := lv_entry ([.ref h0, .ref p1, .ref p2, .ref p3, .ref p4]) (n := 5) (Nat.le_of_ble_eq_true rfl)
  rw [lg_entry_eq]
  generalize (lg_sl ([.ref h0, .ref p1, .ref p2, .ref p3, .ref p4]) ++ List.replicate (5 - (lg_sl ([.ref h0, .ref p1, .ref p2, .ref p3, .ref p4])).length) Slot.unset).toArray = ls at hl ⊢
  have hl : lv_has ls 5 [(0, .ref h0), (1, .ref p1), (2, .ref p2), (3, .ref p3), (4, .ref p4)] := hl
  refine lv_aload_n hx hb d_Grammar_init_0 rfl (lv_at hl 0 rfl) ?_
  refine W.objInit hx hb hown (hts _ w_79c16831a7) (hts _ w_308973208c) (hts _ w_1dd1bb0651) rfl (by rw [hml]; exact hl.1) rfl d_Grammar_init_1 (Nat.le_of_ble_eq_true rfl) (Nat.le_of_ble_eq_true rfl) ?_
  refine W.eq (g2 := F0 m 4 ls []) rfl ?_
  refine lv_aload_n hx hb d_Grammar_init_4 rfl (lv_at hl 0 rfl) ?_
  refine lv_aload_n hx hb d_Grammar_init_5 rfl (lv_at hl 1 rfl) ?_
  refine va_putF (D := (dC, dI)) (ci := 7) (v := .ref p1) (ty := (.object "TinyForge$Cursor")) (C := "TinyForge$Grammar") (T := F_Grammar) (N := 4) hx hb hts i_Grammar t_Grammar t_Grammar_ok n_Grammar hown hK hP hD hS 0 rfl rfl 0 (by decide) (hts _ w_a2db652071) (fun _ h9 => h9) rfl hin rfl (by decide +kernel) rfl rfl (Nat.le_of_ble_eq_true rfl) d_Grammar_init_6 (fun H locs hP hD hS => ?_)
  have hP : va_P (dC, dI) vwCl [(h0, .inr (7, [.ref p1, .null, .null, .null]))] H := hP
  have hD : va_D A [(h0, .inr (7, [.ref p1, .null, .null, .null]))] := hD
  refine lv_aload_n hx hb d_Grammar_init_9 rfl (lv_at hl 0 rfl) ?_
  refine lv_aload_n hx hb d_Grammar_init_10 rfl (lv_at hl 2 rfl) ?_
  refine va_putF (D := (dC, dI)) (ci := 7) (v := .ref p2) (ty := (.object "TinyForge$Variables")) (C := "TinyForge$Grammar") (T := F_Grammar) (N := 4) hx hb hts i_Grammar t_Grammar t_Grammar_ok n_Grammar hown hK hP hD hS 0 rfl rfl 1 (by decide) (hts _ w_6ad409d59f) (fun _ h9 => h9) rfl hin rfl (by decide +kernel) rfl rfl (Nat.le_of_ble_eq_true rfl) d_Grammar_init_11 (fun H locs hP hD hS => ?_)
  have hP : va_P (dC, dI) vwCl [(h0, .inr (7, [.ref p1, .ref p2, .null, .null]))] H := hP
  have hD : va_D A [(h0, .inr (7, [.ref p1, .ref p2, .null, .null]))] := hD
  refine lv_aload_n hx hb d_Grammar_init_14 rfl (lv_at hl 0 rfl) ?_
  refine lv_aload_n hx hb d_Grammar_init_15 rfl (lv_at hl 3 rfl) ?_
  refine va_putF (D := (dC, dI)) (ci := 7) (v := .ref p3) (ty := (.object "TinyForge$Globals")) (C := "TinyForge$Grammar") (T := F_Grammar) (N := 4) hx hb hts i_Grammar t_Grammar t_Grammar_ok n_Grammar hown hK hP hD hS 0 rfl rfl 2 (by decide) (hts _ w_38d62a1ca9) (fun _ h9 => h9) rfl hin rfl (by decide +kernel) rfl rfl (Nat.le_of_ble_eq_true rfl) d_Grammar_init_16 (fun H locs hP hD hS => ?_)
  have hP : va_P (dC, dI) vwCl [(h0, .inr (7, [.ref p1, .ref p2, .ref p3, .null]))] H := hP
  have hD : va_D A [(h0, .inr (7, [.ref p1, .ref p2, .ref p3, .null]))] := hD
  refine lv_aload_n hx hb d_Grammar_init_19 rfl (lv_at hl 0 rfl) ?_
  refine lv_aload hx hb d_Grammar_init_20 (lv_at hl 4 rfl) ?_
  refine va_putF (D := (dC, dI)) (ci := 7) (v := .ref p4) (ty := (.object "TinyForge$Program")) (C := "TinyForge$Grammar") (T := F_Grammar) (N := 4) hx hb hts i_Grammar t_Grammar t_Grammar_ok n_Grammar hown hK hP hD hS 0 rfl rfl 3 (by decide) (hts _ w_72b36bc41d) (fun _ h9 => h9) rfl hin rfl (by decide +kernel) rfl rfl (Nat.le_of_ble_eq_true rfl) d_Grammar_init_22 (fun H locs hP hD hS => ?_)
  have hP : va_P (dC, dI) vwCl [(h0, .inr (7, [.ref p1, .ref p2, .ref p3, .ref p4]))] H := hP
  have hD : va_D A [(h0, .inr (7, [.ref p1, .ref p2, .ref p3, .ref p4]))] := hD
  exact W.vret hx hb hr (fun t ht hW => ⟨⟨((fun _ => h0), (fun _ => dC 0)), rfl, trivial, by rw [ht]; exact hP, va_K.moved hW.alike hK, hD⟩, hS.F ht⟩) hS.2.2 d_Grammar_init_25 hlocks
theorem d_Input_init_0 : decode b_Input_init 0 = .ok (.aload_n 0, 1) := by decide +kernel
theorem d_Input_init_1 : decode b_Input_init 1 = .ok (.invokespecial 3, 3) := by decide +kernel
theorem d_Input_init_4 : decode b_Input_init 4 = .ok (.aload_n 0, 1) := by decide +kernel
theorem d_Input_init_5 : decode b_Input_init 5 = .ok (.bipush 20, 2) := by decide +kernel
theorem d_Input_init_7 : decode b_Input_init 7 = .ok (.newarray .int, 2) := by decide +kernel
theorem d_Input_init_9 : decode b_Input_init 9 = .ok (.putfield 9, 3) := by decide +kernel
theorem d_Input_init_12 : decode b_Input_init 12 = .ok (.aload_n 0, 1) := by decide +kernel
theorem d_Input_init_13 : decode b_Input_init 13 = .ok (.iconst 0, 1) := by decide +kernel
theorem d_Input_init_14 : decode b_Input_init 14 = .ok (.putfield 15, 3) := by decide +kernel
theorem d_Input_init_17 : decode b_Input_init 17 = .ok (.aload_n 0, 1) := by decide +kernel
theorem d_Input_init_18 : decode b_Input_init 18 = .ok (.iconst 0, 1) := by decide +kernel
theorem d_Input_init_19 : decode b_Input_init 19 = .ok (.putfield 19, 3) := by decide +kernel
theorem d_Input_init_22 : decode b_Input_init 22 = .ok (.return_, 1) := by decide +kernel
def cu_Input_init (h0 : Nat) (u : (Nat → Nat) × (Nat → ClassId)) : va_W := [(h0, .inr (8, [.ref (u.1 0), .int 0, .int 0])), ((u.1 0), .inl ((u.2 0), 20, .inl (fun _ => 0)))]
def tu_Input_init (u : (Nat → Nat) × (Nat → ClassId)) : List (ClassId × FieldType) := [((u.2 0), .int)]
set_option maxHeartbeats 4000000 in
set_option maxRecDepth 100000 in
theorem cc_Input_init (l : Launch) (dC : Nat → ClassId) (dI : Nat → Nat → Nat) (h0 sz : Nat) : Met l y_Input_init (Cond.code y_Input_init b_Input_init 1 none :: BIG) { frames := 1, cells := 1, slots := 20, locals := 12 } (va_Pc [.ref h0] (fun U => U.heap.size = sz ∧ va_P (dC, dI) vwCl [(h0, .inr (8, [.null, .int 0, .int 0]))] U.heap ∧ va_K (dC, dI) vwCl [] U ∧ va_D (fun _ => True) [(h0, .inr (8, [.null, .int 0, .int 0]))])) (va_Qv (fun _ : (Nat → Nat) × (Nat → ClassId) => True) (fun u t => va_P (dC, dI) vwCl (cu_Input_init h0 u) t.heap ∧ va_K (dC, dI) vwCl (tu_Input_init u) t ∧ va_D (va_A [(h0, .inr (8, [.null, .int 0, .int 0]))] sz) (cu_Input_init h0 u)) (va_A [(h0, .inr (8, [.null, .int 0, .int 0]))] sz)) 1 20 (va_A [(h0, .inr (8, [.null, .int 0, .int 0]))] sz) := by
  refine Met.ofW (cc := b_Input_init) (maxL := 1) (ret := none) (by decide) rfl ?_
  intro p e s m args below meth c s₁ B hml hv
  obtain ⟨rfl, hsz, hP, hK, hD0⟩ := hv
  have hx := B.exec
  have hb := B.bytes
  have hr := B.returns
  have hts0 := atoms_spec (ws := Cond.code y_Input_init b_Input_init 1 none :: BIG) B.pre
  have hts : ∀ w ∈ BIG, w.before _ s = true := fun w h => hts0 w (List.mem_cons_of_mem _ h)
  have hown : s.vm.findClass "TinyForge$Input" = some m.cls := findClass_of_methodNamed B.named
  have hlocks := B.notSynchronized
  have hin : meth.name = "<init>" := (name_of_methodNamed B.named B.method).1
  subst hsz
  have hD := hD0.self (sz := s.heap.size)
  generalize hAe : va_A [(h0, .inr (8, [.null, .int 0, .int 0]))] s.heap.size = A at hD ⊢
  have hA : ∀ q : Nat, s.heap.size ≤ q → A q := fun q h => by rw [← hAe]; exact Or.inr h
  have hS : va_S A s.heap s.heap [] := va_S.rf
  have hl := lv_entry ([.ref h0]) (n := 1) (Nat.le_of_ble_eq_true rfl)
  rw [lg_entry_eq]
  generalize (lg_sl ([.ref h0]) ++ List.replicate (1 - (lg_sl ([.ref h0])).length) Slot.unset).toArray = ls at hl ⊢
  have hl : lv_has ls 1 [(0, .ref h0)] := hl
  refine lv_aload_n hx hb d_Input_init_0 rfl (lv_at hl 0 rfl) ?_
  refine W.objInit hx hb hown (hts _ w_20eba2f084) (hts _ w_308973208c) (hts _ w_1dd1bb0651) rfl (by rw [hml]; exact hl.1) rfl d_Input_init_1 (Nat.le_of_ble_eq_true rfl) (Nat.le_of_ble_eq_true rfl) ?_
  refine W.eq (g2 := F0 m 4 ls []) rfl ?_
  refine lv_aload_n hx hb d_Input_init_4 rfl (lv_at hl 0 rfl) ?_
  refine lv_bipush (v := 20) hx hb d_Input_init_5 (by decide) ?_
  refine va_newa (atype := .int) (ty := .int) (a0 := (20, .inl (fun _ => 0))) (N' := 20) hx hb (hts _ w_2f6be69db0) rfl hK hP hD hS hA (fun cA => vp_cell_i cA 20 (fun _ => 0)) (by decide) (by decide) (by decide) (Nat.le_of_ble_eq_true rfl) (Nat.le_of_ble_eq_true rfl) d_Input_init_7 (fun q7 k7 H hK hP hD hS => ?_)
  have hP : va_P (dC, dI) vwCl [(h0, .inr (8, [.null, .int 0, .int 0])), (q7, .inl (k7, 20, .inl (fun _ => 0)))] H := hP
  have hD : va_D A [(h0, .inr (8, [.null, .int 0, .int 0])), (q7, .inl (k7, 20, .inl (fun _ => 0)))] := hD
  have hK : va_K (dC, dI) vwCl [(k7, .int)] s := hK
  refine W.widen (k := 1) (n := 20) (Nat.le_of_ble_eq_true rfl) (Nat.le_of_ble_eq_true rfl) ?_
  refine va_putF (D := (dC, dI)) (ci := 8) (v := .ref q7) (ty := (.array .int)) (C := "TinyForge$Input") (T := F_Input) (N := 3) hx hb hts i_Input t_Input t_Input_ok n_Input hown hK hP hD hS 0 rfl rfl 0 (by decide) (hts _ w_dadc8f78fa) (fun _ h9 => h9) rfl hin rfl (by decide +kernel) rfl rfl (Nat.le_of_ble_eq_true rfl) d_Input_init_9 (fun H locs hP hD hS => ?_)
  have hP : va_P (dC, dI) vwCl [(h0, .inr (8, [.ref q7, .int 0, .int 0])), (q7, .inl (k7, 20, .inl (fun _ => 0)))] H := hP
  have hD : va_D A [(h0, .inr (8, [.ref q7, .int 0, .int 0])), (q7, .inl (k7, 20, .inl (fun _ => 0)))] := hD
  refine lv_aload_n hx hb d_Input_init_12 rfl (lv_at hl 0 rfl) ?_
  refine lv_iconst (v := 0) hx hb d_Input_init_13 (by decide) ?_
  refine va_put (D := (dC, dI)) (ci := 8) (v := .int 0) (ty := .int) (C := "TinyForge$Input") (T := F_Input) (N := 3) hx hb hts i_Input t_Input t_Input_ok n_Input hown hK hP hD hS 0 rfl rfl 1 (by decide) (hts _ w_61ccb63e64) (fun _ h9 => h9) rfl (by decide +kernel) rfl rfl (Nat.le_of_ble_eq_true rfl) d_Input_init_14 (fun H locs hP hD hS => ?_)
  have hP : va_P (dC, dI) vwCl [(h0, .inr (8, [.ref q7, .int 0, .int 0])), (q7, .inl (k7, 20, .inl (fun _ => 0)))] H := hP
  have hD : va_D A [(h0, .inr (8, [.ref q7, .int 0, .int 0])), (q7, .inl (k7, 20, .inl (fun _ => 0)))] := hD
  refine lv_aload_n hx hb d_Input_init_17 rfl (lv_at hl 0 rfl) ?_
  refine lv_iconst (v := 0) hx hb d_Input_init_18 (by decide) ?_
  refine va_put (D := (dC, dI)) (ci := 8) (v := .int 0) (ty := .int) (C := "TinyForge$Input") (T := F_Input) (N := 3) hx hb hts i_Input t_Input t_Input_ok n_Input hown hK hP hD hS 0 rfl rfl 2 (by decide) (hts _ w_cb146ba846) (fun _ h9 => h9) rfl (by decide +kernel) rfl rfl (Nat.le_of_ble_eq_true rfl) d_Input_init_19 (fun H locs hP hD hS => ?_)
  have hP : va_P (dC, dI) vwCl [(h0, .inr (8, [.ref q7, .int 0, .int 0])), (q7, .inl (k7, 20, .inl (fun _ => 0)))] H := hP
  have hD : va_D A [(h0, .inr (8, [.ref q7, .int 0, .int 0])), (q7, .inl (k7, 20, .inl (fun _ => 0)))] := hD
  exact W.vret hx hb hr (fun t ht hW => ⟨⟨((fun k : Nat => match k with | 0 => q7 | _ => h0), (fun k : Nat => match k with | 0 => k7 | _ => dC 0)), rfl, trivial, by rw [ht]; exact hP, va_K.moved hW.alike hK, hD⟩, hS.F ht⟩) hS.2.2 d_Input_init_22 hlocks
theorem d_Machine_init_0 : decode b_Machine_init 0 = .ok (.aload_n 0, 1) := by decide +kernel
theorem d_Machine_init_1 : decode b_Machine_init 1 = .ok (.invokespecial 3, 3) := by decide +kernel
theorem d_Machine_init_4 : decode b_Machine_init 4 = .ok (.aload_n 0, 1) := by decide +kernel
theorem d_Machine_init_5 : decode b_Machine_init 5 = .ok (.sipush 576, 3) := by decide +kernel
theorem d_Machine_init_8 : decode b_Machine_init 8 = .ok (.newarray .int, 2) := by decide +kernel
theorem d_Machine_init_10 : decode b_Machine_init 10 = .ok (.putfield 9, 3) := by decide +kernel
theorem d_Machine_init_13 : decode b_Machine_init 13 = .ok (.aload_n 0, 1) := by decide +kernel
theorem d_Machine_init_14 : decode b_Machine_init 14 = .ok (.bipush 64, 2) := by decide +kernel
theorem d_Machine_init_16 : decode b_Machine_init 16 = .ok (.newarray .int, 2) := by decide +kernel
theorem d_Machine_init_18 : decode b_Machine_init 18 = .ok (.putfield 15, 3) := by decide +kernel
theorem d_Machine_init_21 : decode b_Machine_init 21 = .ok (.aload_n 0, 1) := by decide +kernel
theorem d_Machine_init_22 : decode b_Machine_init 22 = .ok (.bipush 12, 2) := by decide +kernel
theorem d_Machine_init_24 : decode b_Machine_init 24 = .ok (.newarray .int, 2) := by decide +kernel
theorem d_Machine_init_26 : decode b_Machine_init 26 = .ok (.putfield 18, 3) := by decide +kernel
theorem d_Machine_init_29 : decode b_Machine_init 29 = .ok (.aload_n 0, 1) := by decide +kernel
theorem d_Machine_init_30 : decode b_Machine_init 30 = .ok (.bipush 12, 2) := by decide +kernel
theorem d_Machine_init_32 : decode b_Machine_init 32 = .ok (.newarray .int, 2) := by decide +kernel
theorem d_Machine_init_34 : decode b_Machine_init 34 = .ok (.putfield 21, 3) := by decide +kernel
theorem d_Machine_init_37 : decode b_Machine_init 37 = .ok (.aload_n 0, 1) := by decide +kernel
theorem d_Machine_init_38 : decode b_Machine_init 38 = .ok (.bipush 30, 2) := by decide +kernel
theorem d_Machine_init_40 : decode b_Machine_init 40 = .ok (.newarray .int, 2) := by decide +kernel
theorem d_Machine_init_42 : decode b_Machine_init 42 = .ok (.putfield 24, 3) := by decide +kernel
theorem d_Machine_init_45 : decode b_Machine_init 45 = .ok (.aload_n 0, 1) := by decide +kernel
theorem d_Machine_init_46 : decode b_Machine_init 46 = .ok (.iconst 0, 1) := by decide +kernel
theorem d_Machine_init_47 : decode b_Machine_init 47 = .ok (.putfield 27, 3) := by decide +kernel
theorem d_Machine_init_50 : decode b_Machine_init 50 = .ok (.aload_n 0, 1) := by decide +kernel
theorem d_Machine_init_51 : decode b_Machine_init 51 = .ok (.iconst 0, 1) := by decide +kernel
theorem d_Machine_init_52 : decode b_Machine_init 52 = .ok (.putfield 31, 3) := by decide +kernel
theorem d_Machine_init_55 : decode b_Machine_init 55 = .ok (.aload_n 0, 1) := by decide +kernel
theorem d_Machine_init_56 : decode b_Machine_init 56 = .ok (.iconst 0, 1) := by decide +kernel
theorem d_Machine_init_57 : decode b_Machine_init 57 = .ok (.putfield 34, 3) := by decide +kernel
theorem d_Machine_init_60 : decode b_Machine_init 60 = .ok (.aload_n 0, 1) := by decide +kernel
theorem d_Machine_init_61 : decode b_Machine_init 61 = .ok (.iconst 0, 1) := by decide +kernel
theorem d_Machine_init_62 : decode b_Machine_init 62 = .ok (.putfield 37, 3) := by decide +kernel
theorem d_Machine_init_65 : decode b_Machine_init 65 = .ok (.aload_n 0, 1) := by decide +kernel
theorem d_Machine_init_66 : decode b_Machine_init 66 = .ok (.iconst 0, 1) := by decide +kernel
theorem d_Machine_init_67 : decode b_Machine_init 67 = .ok (.putfield 40, 3) := by decide +kernel
theorem d_Machine_init_70 : decode b_Machine_init 70 = .ok (.aload_n 0, 1) := by decide +kernel
theorem d_Machine_init_71 : decode b_Machine_init 71 = .ok (.iconst 0, 1) := by decide +kernel
theorem d_Machine_init_72 : decode b_Machine_init 72 = .ok (.putfield 43, 3) := by decide +kernel
theorem d_Machine_init_75 : decode b_Machine_init 75 = .ok (.aload_n 0, 1) := by decide +kernel
theorem d_Machine_init_76 : decode b_Machine_init 76 = .ok (.iconst 0, 1) := by decide +kernel
theorem d_Machine_init_77 : decode b_Machine_init 77 = .ok (.putfield 46, 3) := by decide +kernel
theorem d_Machine_init_80 : decode b_Machine_init 80 = .ok (.aload_n 0, 1) := by decide +kernel
theorem d_Machine_init_81 : decode b_Machine_init 81 = .ok (.iconst 0, 1) := by decide +kernel
theorem d_Machine_init_82 : decode b_Machine_init 82 = .ok (.putfield 49, 3) := by decide +kernel
theorem d_Machine_init_85 : decode b_Machine_init 85 = .ok (.aload_n 0, 1) := by decide +kernel
theorem d_Machine_init_86 : decode b_Machine_init 86 = .ok (.aload_n 1, 1) := by decide +kernel
theorem d_Machine_init_87 : decode b_Machine_init 87 = .ok (.putfield 52, 3) := by decide +kernel
theorem d_Machine_init_90 : decode b_Machine_init 90 = .ok (.aload_n 0, 1) := by decide +kernel
theorem d_Machine_init_91 : decode b_Machine_init 91 = .ok (.aload_n 2, 1) := by decide +kernel
theorem d_Machine_init_92 : decode b_Machine_init 92 = .ok (.putfield 56, 3) := by decide +kernel
theorem d_Machine_init_95 : decode b_Machine_init 95 = .ok (.return_, 1) := by decide +kernel
def cu_Machine_init (h0 p1 p2 : Nat) (u : (Nat → Nat) × (Nat → ClassId)) : va_W := [(h0, .inr (9, [.ref p1, .ref p2, .ref (u.1 0), .ref (u.1 1), .ref (u.1 2), .ref (u.1 3), .ref (u.1 4), .int 0, .int 0, .int 0, .int 0, .int 0, .int 0, .int 0, .int 0])), ((u.1 0), .inl ((u.2 0), 576, .inl (fun _ => 0))), ((u.1 1), .inl ((u.2 1), 64, .inl (fun _ => 0))), ((u.1 2), .inl ((u.2 2), 12, .inl (fun _ => 0))), ((u.1 3), .inl ((u.2 3), 12, .inl (fun _ => 0))), ((u.1 4), .inl ((u.2 4), 30, .inl (fun _ => 0)))]
def tu_Machine_init (u : (Nat → Nat) × (Nat → ClassId)) : List (ClassId × FieldType) := [((u.2 0), .int), ((u.2 1), .int), ((u.2 2), .int), ((u.2 3), .int), ((u.2 4), .int)]
set_option maxHeartbeats 4000000 in
set_option maxRecDepth 100000 in
theorem cc_Machine_init (l : Launch) (dC : Nat → ClassId) (dI : Nat → Nat → Nat) (h0 p1 p2 sz : Nat) : Met l y_Machine_init (Cond.code y_Machine_init b_Machine_init 3 none :: BIG) { frames := 1, cells := 5, slots := 694, locals := 12 } (va_Pc [.ref h0, .ref p1, .ref p2] (fun U => U.heap.size = sz ∧ va_P (dC, dI) vwCl [(h0, .inr (9, [.null, .null, .null, .null, .null, .null, .null, .int 0, .int 0, .int 0, .int 0, .int 0, .int 0, .int 0, .int 0]))] U.heap ∧ va_K (dC, dI) vwCl [] U ∧ va_D (fun _ => True) [(h0, .inr (9, [.null, .null, .null, .null, .null, .null, .null, .int 0, .int 0, .int 0, .int 0, .int 0, .int 0, .int 0, .int 0]))])) (va_Qv (fun _ : (Nat → Nat) × (Nat → ClassId) => True) (fun u t => va_P (dC, dI) vwCl (cu_Machine_init h0 p1 p2 u) t.heap ∧ va_K (dC, dI) vwCl (tu_Machine_init u) t ∧ va_D (va_A [(h0, .inr (9, [.null, .null, .null, .null, .null, .null, .null, .int 0, .int 0, .int 0, .int 0, .int 0, .int 0, .int 0, .int 0]))] sz) (cu_Machine_init h0 p1 p2 u)) (va_A [(h0, .inr (9, [.null, .null, .null, .null, .null, .null, .null, .int 0, .int 0, .int 0, .int 0, .int 0, .int 0, .int 0, .int 0]))] sz)) 5 694 (va_A [(h0, .inr (9, [.null, .null, .null, .null, .null, .null, .null, .int 0, .int 0, .int 0, .int 0, .int 0, .int 0, .int 0, .int 0]))] sz) := by
  refine Met.ofW (cc := b_Machine_init) (maxL := 3) (ret := none) (by decide) rfl ?_
  intro p e s m args below meth c s₁ B hml hv
  obtain ⟨rfl, hsz, hP, hK, hD0⟩ := hv
  have hx := B.exec
  have hb := B.bytes
  have hr := B.returns
  have hts0 := atoms_spec (ws := Cond.code y_Machine_init b_Machine_init 3 none :: BIG) B.pre
  have hts : ∀ w ∈ BIG, w.before _ s = true := fun w h => hts0 w (List.mem_cons_of_mem _ h)
  have hown : s.vm.findClass "TinyForge$Machine" = some m.cls := findClass_of_methodNamed B.named
  have hlocks := B.notSynchronized
  have hin : meth.name = "<init>" := (name_of_methodNamed B.named B.method).1
  subst hsz
  have hD := hD0.self (sz := s.heap.size)
  generalize hAe : va_A [(h0, .inr (9, [.null, .null, .null, .null, .null, .null, .null, .int 0, .int 0, .int 0, .int 0, .int 0, .int 0, .int 0, .int 0]))] s.heap.size = A at hD ⊢
  have hA : ∀ q : Nat, s.heap.size ≤ q → A q := fun q h => by rw [← hAe]; exact Or.inr h
  have hS : va_S A s.heap s.heap [] := va_S.rf
  have hl := lv_entry ([.ref h0, .ref p1, .ref p2]) (n := 3) (Nat.le_of_ble_eq_true rfl)
  rw [lg_entry_eq]
  generalize (lg_sl ([.ref h0, .ref p1, .ref p2]) ++ List.replicate (3 - (lg_sl ([.ref h0, .ref p1, .ref p2])).length) Slot.unset).toArray = ls at hl ⊢
  have hl : lv_has ls 3 [(0, .ref h0), (1, .ref p1), (2, .ref p2)] := hl
  refine lv_aload_n hx hb d_Machine_init_0 rfl (lv_at hl 0 rfl) ?_
  refine W.objInit hx hb hown (hts _ w_e07f57bdca) (hts _ w_308973208c) (hts _ w_1dd1bb0651) rfl (by rw [hml]; exact hl.1) rfl d_Machine_init_1 (Nat.le_of_ble_eq_true rfl) (Nat.le_of_ble_eq_true rfl) ?_
  refine W.eq (g2 := F0 m 4 ls []) rfl ?_
  refine lv_aload_n hx hb d_Machine_init_4 rfl (lv_at hl 0 rfl) ?_
  refine lv_sipush (v := 576) hx hb d_Machine_init_5 (by decide) ?_
  refine va_newa (atype := .int) (ty := .int) (a0 := (576, .inl (fun _ => 0))) (N' := 576) hx hb (hts _ w_2f6be69db0) rfl hK hP hD hS hA (fun cA => vp_cell_i cA 576 (fun _ => 0)) (by decide) (by decide) (by decide) (Nat.le_of_ble_eq_true rfl) (Nat.le_of_ble_eq_true rfl) d_Machine_init_8 (fun q8 k8 H hK hP hD hS => ?_)
  have hP : va_P (dC, dI) vwCl [(h0, .inr (9, [.null, .null, .null, .null, .null, .null, .null, .int 0, .int 0, .int 0, .int 0, .int 0, .int 0, .int 0, .int 0])), (q8, .inl (k8, 576, .inl (fun _ => 0)))] H := hP
  have hD : va_D A [(h0, .inr (9, [.null, .null, .null, .null, .null, .null, .null, .int 0, .int 0, .int 0, .int 0, .int 0, .int 0, .int 0, .int 0])), (q8, .inl (k8, 576, .inl (fun _ => 0)))] := hD
  have hK : va_K (dC, dI) vwCl [(k8, .int)] s := hK
  refine W.widen (k := 1) (n := 576) (Nat.le_of_ble_eq_true rfl) (Nat.le_of_ble_eq_true rfl) ?_
  refine va_putF (D := (dC, dI)) (ci := 9) (v := .ref q8) (ty := (.array .int)) (C := "TinyForge$Machine") (T := F_Machine) (N := 15) hx hb hts i_Machine t_Machine t_Machine_ok n_Machine hown hK hP hD hS 0 rfl rfl 2 (by decide) (hts _ w_623def8131) (fun _ h9 => h9) rfl hin rfl (by decide +kernel) rfl rfl (Nat.le_of_ble_eq_true rfl) d_Machine_init_10 (fun H locs hP hD hS => ?_)
  have hP : va_P (dC, dI) vwCl [(h0, .inr (9, [.null, .null, .ref q8, .null, .null, .null, .null, .int 0, .int 0, .int 0, .int 0, .int 0, .int 0, .int 0, .int 0])), (q8, .inl (k8, 576, .inl (fun _ => 0)))] H := hP
  have hD : va_D A [(h0, .inr (9, [.null, .null, .ref q8, .null, .null, .null, .null, .int 0, .int 0, .int 0, .int 0, .int 0, .int 0, .int 0, .int 0])), (q8, .inl (k8, 576, .inl (fun _ => 0)))] := hD
  refine lv_aload_n hx hb d_Machine_init_13 rfl (lv_at hl 0 rfl) ?_
  refine lv_bipush (v := 64) hx hb d_Machine_init_14 (by decide) ?_
  refine va_newa (atype := .int) (ty := .int) (a0 := (64, .inl (fun _ => 0))) (N' := 64) hx hb (hts _ w_2f6be69db0) rfl hK hP hD hS hA (fun cA => vp_cell_i cA 64 (fun _ => 0)) (by decide) (by decide) (by decide) (Nat.le_of_ble_eq_true rfl) (Nat.le_of_ble_eq_true rfl) d_Machine_init_16 (fun q16 k16 H hK hP hD hS => ?_)
  have hP : va_P (dC, dI) vwCl [(h0, .inr (9, [.null, .null, .ref q8, .null, .null, .null, .null, .int 0, .int 0, .int 0, .int 0, .int 0, .int 0, .int 0, .int 0])), (q8, .inl (k8, 576, .inl (fun _ => 0))), (q16, .inl (k16, 64, .inl (fun _ => 0)))] H := hP
  have hD : va_D A [(h0, .inr (9, [.null, .null, .ref q8, .null, .null, .null, .null, .int 0, .int 0, .int 0, .int 0, .int 0, .int 0, .int 0, .int 0])), (q8, .inl (k8, 576, .inl (fun _ => 0))), (q16, .inl (k16, 64, .inl (fun _ => 0)))] := hD
  have hK : va_K (dC, dI) vwCl [(k8, .int), (k16, .int)] s := hK
  refine W.widen (k := 2) (n := 640) (Nat.le_of_ble_eq_true rfl) (Nat.le_of_ble_eq_true rfl) ?_
  refine va_putF (D := (dC, dI)) (ci := 9) (v := .ref q16) (ty := (.array .int)) (C := "TinyForge$Machine") (T := F_Machine) (N := 15) hx hb hts i_Machine t_Machine t_Machine_ok n_Machine hown hK hP hD hS 0 rfl rfl 3 (by decide) (hts _ w_577718637b) (fun _ h9 => h9) rfl hin rfl (by decide +kernel) rfl rfl (Nat.le_of_ble_eq_true rfl) d_Machine_init_18 (fun H locs hP hD hS => ?_)
  have hP : va_P (dC, dI) vwCl [(h0, .inr (9, [.null, .null, .ref q8, .ref q16, .null, .null, .null, .int 0, .int 0, .int 0, .int 0, .int 0, .int 0, .int 0, .int 0])), (q8, .inl (k8, 576, .inl (fun _ => 0))), (q16, .inl (k16, 64, .inl (fun _ => 0)))] H := hP
  have hD : va_D A [(h0, .inr (9, [.null, .null, .ref q8, .ref q16, .null, .null, .null, .int 0, .int 0, .int 0, .int 0, .int 0, .int 0, .int 0, .int 0])), (q8, .inl (k8, 576, .inl (fun _ => 0))), (q16, .inl (k16, 64, .inl (fun _ => 0)))] := hD
  refine lv_aload_n hx hb d_Machine_init_21 rfl (lv_at hl 0 rfl) ?_
  refine lv_bipush (v := 12) hx hb d_Machine_init_22 (by decide) ?_
  refine va_newa (atype := .int) (ty := .int) (a0 := (12, .inl (fun _ => 0))) (N' := 12) hx hb (hts _ w_2f6be69db0) rfl hK hP hD hS hA (fun cA => vp_cell_i cA 12 (fun _ => 0)) (by decide) (by decide) (by decide) (Nat.le_of_ble_eq_true rfl) (Nat.le_of_ble_eq_true rfl) d_Machine_init_24 (fun q24 k24 H hK hP hD hS => ?_)
  have hP : va_P (dC, dI) vwCl [(h0, .inr (9, [.null, .null, .ref q8, .ref q16, .null, .null, .null, .int 0, .int 0, .int 0, .int 0, .int 0, .int 0, .int 0, .int 0])), (q8, .inl (k8, 576, .inl (fun _ => 0))), (q16, .inl (k16, 64, .inl (fun _ => 0))), (q24, .inl (k24, 12, .inl (fun _ => 0)))] H := hP
  have hD : va_D A [(h0, .inr (9, [.null, .null, .ref q8, .ref q16, .null, .null, .null, .int 0, .int 0, .int 0, .int 0, .int 0, .int 0, .int 0, .int 0])), (q8, .inl (k8, 576, .inl (fun _ => 0))), (q16, .inl (k16, 64, .inl (fun _ => 0))), (q24, .inl (k24, 12, .inl (fun _ => 0)))] := hD
  have hK : va_K (dC, dI) vwCl [(k8, .int), (k16, .int), (k24, .int)] s := hK
  refine W.widen (k := 3) (n := 652) (Nat.le_of_ble_eq_true rfl) (Nat.le_of_ble_eq_true rfl) ?_
  refine va_putF (D := (dC, dI)) (ci := 9) (v := .ref q24) (ty := (.array .int)) (C := "TinyForge$Machine") (T := F_Machine) (N := 15) hx hb hts i_Machine t_Machine t_Machine_ok n_Machine hown hK hP hD hS 0 rfl rfl 4 (by decide) (hts _ w_1a4af3dd09) (fun _ h9 => h9) rfl hin rfl (by decide +kernel) rfl rfl (Nat.le_of_ble_eq_true rfl) d_Machine_init_26 (fun H locs hP hD hS => ?_)
  have hP : va_P (dC, dI) vwCl [(h0, .inr (9, [.null, .null, .ref q8, .ref q16, .ref q24, .null, .null, .int 0, .int 0, .int 0, .int 0, .int 0, .int 0, .int 0, .int 0])), (q8, .inl (k8, 576, .inl (fun _ => 0))), (q16, .inl (k16, 64, .inl (fun _ => 0))), (q24, .inl (k24, 12, .inl (fun _ => 0)))] H := hP
  have hD : va_D A [(h0, .inr (9, [.null, .null, .ref q8, .ref q16, .ref q24, .null, .null, .int 0, .int 0, .int 0, .int 0, .int 0, .int 0, .int 0, .int 0])), (q8, .inl (k8, 576, .inl (fun _ => 0))), (q16, .inl (k16, 64, .inl (fun _ => 0))), (q24, .inl (k24, 12, .inl (fun _ => 0)))] := hD
  refine lv_aload_n hx hb d_Machine_init_29 rfl (lv_at hl 0 rfl) ?_
  refine lv_bipush (v := 12) hx hb d_Machine_init_30 (by decide) ?_
  refine va_newa (atype := .int) (ty := .int) (a0 := (12, .inl (fun _ => 0))) (N' := 12) hx hb (hts _ w_2f6be69db0) rfl hK hP hD hS hA (fun cA => vp_cell_i cA 12 (fun _ => 0)) (by decide) (by decide) (by decide) (Nat.le_of_ble_eq_true rfl) (Nat.le_of_ble_eq_true rfl) d_Machine_init_32 (fun q32 k32 H hK hP hD hS => ?_)
  have hP : va_P (dC, dI) vwCl [(h0, .inr (9, [.null, .null, .ref q8, .ref q16, .ref q24, .null, .null, .int 0, .int 0, .int 0, .int 0, .int 0, .int 0, .int 0, .int 0])), (q8, .inl (k8, 576, .inl (fun _ => 0))), (q16, .inl (k16, 64, .inl (fun _ => 0))), (q24, .inl (k24, 12, .inl (fun _ => 0))), (q32, .inl (k32, 12, .inl (fun _ => 0)))] H := hP
  have hD : va_D A [(h0, .inr (9, [.null, .null, .ref q8, .ref q16, .ref q24, .null, .null, .int 0, .int 0, .int 0, .int 0, .int 0, .int 0, .int 0, .int 0])), (q8, .inl (k8, 576, .inl (fun _ => 0))), (q16, .inl (k16, 64, .inl (fun _ => 0))), (q24, .inl (k24, 12, .inl (fun _ => 0))), (q32, .inl (k32, 12, .inl (fun _ => 0)))] := hD
  have hK : va_K (dC, dI) vwCl [(k8, .int), (k16, .int), (k24, .int), (k32, .int)] s := hK
  refine W.widen (k := 4) (n := 664) (Nat.le_of_ble_eq_true rfl) (Nat.le_of_ble_eq_true rfl) ?_
  refine va_putF (D := (dC, dI)) (ci := 9) (v := .ref q32) (ty := (.array .int)) (C := "TinyForge$Machine") (T := F_Machine) (N := 15) hx hb hts i_Machine t_Machine t_Machine_ok n_Machine hown hK hP hD hS 0 rfl rfl 5 (by decide) (hts _ w_2af776c817) (fun _ h9 => h9) rfl hin rfl (by decide +kernel) rfl rfl (Nat.le_of_ble_eq_true rfl) d_Machine_init_34 (fun H locs hP hD hS => ?_)
  have hP : va_P (dC, dI) vwCl [(h0, .inr (9, [.null, .null, .ref q8, .ref q16, .ref q24, .ref q32, .null, .int 0, .int 0, .int 0, .int 0, .int 0, .int 0, .int 0, .int 0])), (q8, .inl (k8, 576, .inl (fun _ => 0))), (q16, .inl (k16, 64, .inl (fun _ => 0))), (q24, .inl (k24, 12, .inl (fun _ => 0))), (q32, .inl (k32, 12, .inl (fun _ => 0)))] H := hP
  have hD : va_D A [(h0, .inr (9, [.null, .null, .ref q8, .ref q16, .ref q24, .ref q32, .null, .int 0, .int 0, .int 0, .int 0, .int 0, .int 0, .int 0, .int 0])), (q8, .inl (k8, 576, .inl (fun _ => 0))), (q16, .inl (k16, 64, .inl (fun _ => 0))), (q24, .inl (k24, 12, .inl (fun _ => 0))), (q32, .inl (k32, 12, .inl (fun _ => 0)))] := hD
  refine lv_aload_n hx hb d_Machine_init_37 rfl (lv_at hl 0 rfl) ?_
  refine lv_bipush (v := 30) hx hb d_Machine_init_38 (by decide) ?_
  refine va_newa (atype := .int) (ty := .int) (a0 := (30, .inl (fun _ => 0))) (N' := 30) hx hb (hts _ w_2f6be69db0) rfl hK hP hD hS hA (fun cA => vp_cell_i cA 30 (fun _ => 0)) (by decide) (by decide) (by decide) (Nat.le_of_ble_eq_true rfl) (Nat.le_of_ble_eq_true rfl) d_Machine_init_40 (fun q40 k40 H hK hP hD hS => ?_)
  have hP : va_P (dC, dI) vwCl [(h0, .inr (9, [.null, .null, .ref q8, .ref q16, .ref q24, .ref q32, .null, .int 0, .int 0, .int 0, .int 0, .int 0, .int 0, .int 0, .int 0])), (q8, .inl (k8, 576, .inl (fun _ => 0))), (q16, .inl (k16, 64, .inl (fun _ => 0))), (q24, .inl (k24, 12, .inl (fun _ => 0))), (q32, .inl (k32, 12, .inl (fun _ => 0))), (q40, .inl (k40, 30, .inl (fun _ => 0)))] H := hP
  have hD : va_D A [(h0, .inr (9, [.null, .null, .ref q8, .ref q16, .ref q24, .ref q32, .null, .int 0, .int 0, .int 0, .int 0, .int 0, .int 0, .int 0, .int 0])), (q8, .inl (k8, 576, .inl (fun _ => 0))), (q16, .inl (k16, 64, .inl (fun _ => 0))), (q24, .inl (k24, 12, .inl (fun _ => 0))), (q32, .inl (k32, 12, .inl (fun _ => 0))), (q40, .inl (k40, 30, .inl (fun _ => 0)))] := hD
  have hK : va_K (dC, dI) vwCl [(k8, .int), (k16, .int), (k24, .int), (k32, .int), (k40, .int)] s := hK
  refine W.widen (k := 5) (n := 694) (Nat.le_of_ble_eq_true rfl) (Nat.le_of_ble_eq_true rfl) ?_
  refine va_putF (D := (dC, dI)) (ci := 9) (v := .ref q40) (ty := (.array .int)) (C := "TinyForge$Machine") (T := F_Machine) (N := 15) hx hb hts i_Machine t_Machine t_Machine_ok n_Machine hown hK hP hD hS 0 rfl rfl 6 (by decide) (hts _ w_e94adc8391) (fun _ h9 => h9) rfl hin rfl (by decide +kernel) rfl rfl (Nat.le_of_ble_eq_true rfl) d_Machine_init_42 (fun H locs hP hD hS => ?_)
  have hP : va_P (dC, dI) vwCl [(h0, .inr (9, [.null, .null, .ref q8, .ref q16, .ref q24, .ref q32, .ref q40, .int 0, .int 0, .int 0, .int 0, .int 0, .int 0, .int 0, .int 0])), (q8, .inl (k8, 576, .inl (fun _ => 0))), (q16, .inl (k16, 64, .inl (fun _ => 0))), (q24, .inl (k24, 12, .inl (fun _ => 0))), (q32, .inl (k32, 12, .inl (fun _ => 0))), (q40, .inl (k40, 30, .inl (fun _ => 0)))] H := hP
  have hD : va_D A [(h0, .inr (9, [.null, .null, .ref q8, .ref q16, .ref q24, .ref q32, .ref q40, .int 0, .int 0, .int 0, .int 0, .int 0, .int 0, .int 0, .int 0])), (q8, .inl (k8, 576, .inl (fun _ => 0))), (q16, .inl (k16, 64, .inl (fun _ => 0))), (q24, .inl (k24, 12, .inl (fun _ => 0))), (q32, .inl (k32, 12, .inl (fun _ => 0))), (q40, .inl (k40, 30, .inl (fun _ => 0)))] := hD
  refine lv_aload_n hx hb d_Machine_init_45 rfl (lv_at hl 0 rfl) ?_
  refine lv_iconst (v := 0) hx hb d_Machine_init_46 (by decide) ?_
  refine va_put (D := (dC, dI)) (ci := 9) (v := .int 0) (ty := .int) (C := "TinyForge$Machine") (T := F_Machine) (N := 15) hx hb hts i_Machine t_Machine t_Machine_ok n_Machine hown hK hP hD hS 0 rfl rfl 7 (by decide) (hts _ w_aa5f3dbc94) (fun _ h9 => h9) rfl (by decide +kernel) rfl rfl (Nat.le_of_ble_eq_true rfl) d_Machine_init_47 (fun H locs hP hD hS => ?_)
  have hP : va_P (dC, dI) vwCl [(h0, .inr (9, [.null, .null, .ref q8, .ref q16, .ref q24, .ref q32, .ref q40, .int 0, .int 0, .int 0, .int 0, .int 0, .int 0, .int 0, .int 0])), (q8, .inl (k8, 576, .inl (fun _ => 0))), (q16, .inl (k16, 64, .inl (fun _ => 0))), (q24, .inl (k24, 12, .inl (fun _ => 0))), (q32, .inl (k32, 12, .inl (fun _ => 0))), (q40, .inl (k40, 30, .inl (fun _ => 0)))] H := hP
  have hD : va_D A [(h0, .inr (9, [.null, .null, .ref q8, .ref q16, .ref q24, .ref q32, .ref q40, .int 0, .int 0, .int 0, .int 0, .int 0, .int 0, .int 0, .int 0])), (q8, .inl (k8, 576, .inl (fun _ => 0))), (q16, .inl (k16, 64, .inl (fun _ => 0))), (q24, .inl (k24, 12, .inl (fun _ => 0))), (q32, .inl (k32, 12, .inl (fun _ => 0))), (q40, .inl (k40, 30, .inl (fun _ => 0)))] := hD
  refine lv_aload_n hx hb d_Machine_init_50 rfl (lv_at hl 0 rfl) ?_
  refine lv_iconst (v := 0) hx hb d_Machine_init_51 (by decide) ?_
  refine va_put (D := (dC, dI)) (ci := 9) (v := .int 0) (ty := .int) (C := "TinyForge$Machine") (T := F_Machine) (N := 15) hx hb hts i_Machine t_Machine t_Machine_ok n_Machine hown hK hP hD hS 0 rfl rfl 8 (by decide) (hts _ w_b523296ea4) (fun _ h9 => h9) rfl (by decide +kernel) rfl rfl (Nat.le_of_ble_eq_true rfl) d_Machine_init_52 (fun H locs hP hD hS => ?_)
  have hP : va_P (dC, dI) vwCl [(h0, .inr (9, [.null, .null, .ref q8, .ref q16, .ref q24, .ref q32, .ref q40, .int 0, .int 0, .int 0, .int 0, .int 0, .int 0, .int 0, .int 0])), (q8, .inl (k8, 576, .inl (fun _ => 0))), (q16, .inl (k16, 64, .inl (fun _ => 0))), (q24, .inl (k24, 12, .inl (fun _ => 0))), (q32, .inl (k32, 12, .inl (fun _ => 0))), (q40, .inl (k40, 30, .inl (fun _ => 0)))] H := hP
  have hD : va_D A [(h0, .inr (9, [.null, .null, .ref q8, .ref q16, .ref q24, .ref q32, .ref q40, .int 0, .int 0, .int 0, .int 0, .int 0, .int 0, .int 0, .int 0])), (q8, .inl (k8, 576, .inl (fun _ => 0))), (q16, .inl (k16, 64, .inl (fun _ => 0))), (q24, .inl (k24, 12, .inl (fun _ => 0))), (q32, .inl (k32, 12, .inl (fun _ => 0))), (q40, .inl (k40, 30, .inl (fun _ => 0)))] := hD
  refine lv_aload_n hx hb d_Machine_init_55 rfl (lv_at hl 0 rfl) ?_
  refine lv_iconst (v := 0) hx hb d_Machine_init_56 (by decide) ?_
  refine va_put (D := (dC, dI)) (ci := 9) (v := .int 0) (ty := .int) (C := "TinyForge$Machine") (T := F_Machine) (N := 15) hx hb hts i_Machine t_Machine t_Machine_ok n_Machine hown hK hP hD hS 0 rfl rfl 9 (by decide) (hts _ w_bac89a80ba) (fun _ h9 => h9) rfl (by decide +kernel) rfl rfl (Nat.le_of_ble_eq_true rfl) d_Machine_init_57 (fun H locs hP hD hS => ?_)
  have hP : va_P (dC, dI) vwCl [(h0, .inr (9, [.null, .null, .ref q8, .ref q16, .ref q24, .ref q32, .ref q40, .int 0, .int 0, .int 0, .int 0, .int 0, .int 0, .int 0, .int 0])), (q8, .inl (k8, 576, .inl (fun _ => 0))), (q16, .inl (k16, 64, .inl (fun _ => 0))), (q24, .inl (k24, 12, .inl (fun _ => 0))), (q32, .inl (k32, 12, .inl (fun _ => 0))), (q40, .inl (k40, 30, .inl (fun _ => 0)))] H := hP
  have hD : va_D A [(h0, .inr (9, [.null, .null, .ref q8, .ref q16, .ref q24, .ref q32, .ref q40, .int 0, .int 0, .int 0, .int 0, .int 0, .int 0, .int 0, .int 0])), (q8, .inl (k8, 576, .inl (fun _ => 0))), (q16, .inl (k16, 64, .inl (fun _ => 0))), (q24, .inl (k24, 12, .inl (fun _ => 0))), (q32, .inl (k32, 12, .inl (fun _ => 0))), (q40, .inl (k40, 30, .inl (fun _ => 0)))] := hD
  refine lv_aload_n hx hb d_Machine_init_60 rfl (lv_at hl 0 rfl) ?_
  refine lv_iconst (v := 0) hx hb d_Machine_init_61 (by decide) ?_
  refine va_put (D := (dC, dI)) (ci := 9) (v := .int 0) (ty := .int) (C := "TinyForge$Machine") (T := F_Machine) (N := 15) hx hb hts i_Machine t_Machine t_Machine_ok n_Machine hown hK hP hD hS 0 rfl rfl 10 (by decide) (hts _ w_2e3703c8c3) (fun _ h9 => h9) rfl (by decide +kernel) rfl rfl (Nat.le_of_ble_eq_true rfl) d_Machine_init_62 (fun H locs hP hD hS => ?_)
  have hP : va_P (dC, dI) vwCl [(h0, .inr (9, [.null, .null, .ref q8, .ref q16, .ref q24, .ref q32, .ref q40, .int 0, .int 0, .int 0, .int 0, .int 0, .int 0, .int 0, .int 0])), (q8, .inl (k8, 576, .inl (fun _ => 0))), (q16, .inl (k16, 64, .inl (fun _ => 0))), (q24, .inl (k24, 12, .inl (fun _ => 0))), (q32, .inl (k32, 12, .inl (fun _ => 0))), (q40, .inl (k40, 30, .inl (fun _ => 0)))] H := hP
  have hD : va_D A [(h0, .inr (9, [.null, .null, .ref q8, .ref q16, .ref q24, .ref q32, .ref q40, .int 0, .int 0, .int 0, .int 0, .int 0, .int 0, .int 0, .int 0])), (q8, .inl (k8, 576, .inl (fun _ => 0))), (q16, .inl (k16, 64, .inl (fun _ => 0))), (q24, .inl (k24, 12, .inl (fun _ => 0))), (q32, .inl (k32, 12, .inl (fun _ => 0))), (q40, .inl (k40, 30, .inl (fun _ => 0)))] := hD
  refine lv_aload_n hx hb d_Machine_init_65 rfl (lv_at hl 0 rfl) ?_
  refine lv_iconst (v := 0) hx hb d_Machine_init_66 (by decide) ?_
  refine va_put (D := (dC, dI)) (ci := 9) (v := .int 0) (ty := .int) (C := "TinyForge$Machine") (T := F_Machine) (N := 15) hx hb hts i_Machine t_Machine t_Machine_ok n_Machine hown hK hP hD hS 0 rfl rfl 11 (by decide) (hts _ w_de4404caec) (fun _ h9 => h9) rfl (by decide +kernel) rfl rfl (Nat.le_of_ble_eq_true rfl) d_Machine_init_67 (fun H locs hP hD hS => ?_)
  have hP : va_P (dC, dI) vwCl [(h0, .inr (9, [.null, .null, .ref q8, .ref q16, .ref q24, .ref q32, .ref q40, .int 0, .int 0, .int 0, .int 0, .int 0, .int 0, .int 0, .int 0])), (q8, .inl (k8, 576, .inl (fun _ => 0))), (q16, .inl (k16, 64, .inl (fun _ => 0))), (q24, .inl (k24, 12, .inl (fun _ => 0))), (q32, .inl (k32, 12, .inl (fun _ => 0))), (q40, .inl (k40, 30, .inl (fun _ => 0)))] H := hP
  have hD : va_D A [(h0, .inr (9, [.null, .null, .ref q8, .ref q16, .ref q24, .ref q32, .ref q40, .int 0, .int 0, .int 0, .int 0, .int 0, .int 0, .int 0, .int 0])), (q8, .inl (k8, 576, .inl (fun _ => 0))), (q16, .inl (k16, 64, .inl (fun _ => 0))), (q24, .inl (k24, 12, .inl (fun _ => 0))), (q32, .inl (k32, 12, .inl (fun _ => 0))), (q40, .inl (k40, 30, .inl (fun _ => 0)))] := hD
  refine lv_aload_n hx hb d_Machine_init_70 rfl (lv_at hl 0 rfl) ?_
  refine lv_iconst (v := 0) hx hb d_Machine_init_71 (by decide) ?_
  refine va_put (D := (dC, dI)) (ci := 9) (v := .int 0) (ty := .int) (C := "TinyForge$Machine") (T := F_Machine) (N := 15) hx hb hts i_Machine t_Machine t_Machine_ok n_Machine hown hK hP hD hS 0 rfl rfl 12 (by decide) (hts _ w_e1c42edd65) (fun _ h9 => h9) rfl (by decide +kernel) rfl rfl (Nat.le_of_ble_eq_true rfl) d_Machine_init_72 (fun H locs hP hD hS => ?_)
  have hP : va_P (dC, dI) vwCl [(h0, .inr (9, [.null, .null, .ref q8, .ref q16, .ref q24, .ref q32, .ref q40, .int 0, .int 0, .int 0, .int 0, .int 0, .int 0, .int 0, .int 0])), (q8, .inl (k8, 576, .inl (fun _ => 0))), (q16, .inl (k16, 64, .inl (fun _ => 0))), (q24, .inl (k24, 12, .inl (fun _ => 0))), (q32, .inl (k32, 12, .inl (fun _ => 0))), (q40, .inl (k40, 30, .inl (fun _ => 0)))] H := hP
  have hD : va_D A [(h0, .inr (9, [.null, .null, .ref q8, .ref q16, .ref q24, .ref q32, .ref q40, .int 0, .int 0, .int 0, .int 0, .int 0, .int 0, .int 0, .int 0])), (q8, .inl (k8, 576, .inl (fun _ => 0))), (q16, .inl (k16, 64, .inl (fun _ => 0))), (q24, .inl (k24, 12, .inl (fun _ => 0))), (q32, .inl (k32, 12, .inl (fun _ => 0))), (q40, .inl (k40, 30, .inl (fun _ => 0)))] := hD
  refine lv_aload_n hx hb d_Machine_init_75 rfl (lv_at hl 0 rfl) ?_
  refine lv_iconst (v := 0) hx hb d_Machine_init_76 (by decide) ?_
  refine va_put (D := (dC, dI)) (ci := 9) (v := .int 0) (ty := .int) (C := "TinyForge$Machine") (T := F_Machine) (N := 15) hx hb hts i_Machine t_Machine t_Machine_ok n_Machine hown hK hP hD hS 0 rfl rfl 13 (by decide) (hts _ w_e212a5d1e0) (fun _ h9 => h9) rfl (by decide +kernel) rfl rfl (Nat.le_of_ble_eq_true rfl) d_Machine_init_77 (fun H locs hP hD hS => ?_)
  have hP : va_P (dC, dI) vwCl [(h0, .inr (9, [.null, .null, .ref q8, .ref q16, .ref q24, .ref q32, .ref q40, .int 0, .int 0, .int 0, .int 0, .int 0, .int 0, .int 0, .int 0])), (q8, .inl (k8, 576, .inl (fun _ => 0))), (q16, .inl (k16, 64, .inl (fun _ => 0))), (q24, .inl (k24, 12, .inl (fun _ => 0))), (q32, .inl (k32, 12, .inl (fun _ => 0))), (q40, .inl (k40, 30, .inl (fun _ => 0)))] H := hP
  have hD : va_D A [(h0, .inr (9, [.null, .null, .ref q8, .ref q16, .ref q24, .ref q32, .ref q40, .int 0, .int 0, .int 0, .int 0, .int 0, .int 0, .int 0, .int 0])), (q8, .inl (k8, 576, .inl (fun _ => 0))), (q16, .inl (k16, 64, .inl (fun _ => 0))), (q24, .inl (k24, 12, .inl (fun _ => 0))), (q32, .inl (k32, 12, .inl (fun _ => 0))), (q40, .inl (k40, 30, .inl (fun _ => 0)))] := hD
  refine lv_aload_n hx hb d_Machine_init_80 rfl (lv_at hl 0 rfl) ?_
  refine lv_iconst (v := 0) hx hb d_Machine_init_81 (by decide) ?_
  refine va_put (D := (dC, dI)) (ci := 9) (v := .int 0) (ty := .int) (C := "TinyForge$Machine") (T := F_Machine) (N := 15) hx hb hts i_Machine t_Machine t_Machine_ok n_Machine hown hK hP hD hS 0 rfl rfl 14 (by decide) (hts _ w_de0635e65e) (fun _ h9 => h9) rfl (by decide +kernel) rfl rfl (Nat.le_of_ble_eq_true rfl) d_Machine_init_82 (fun H locs hP hD hS => ?_)
  have hP : va_P (dC, dI) vwCl [(h0, .inr (9, [.null, .null, .ref q8, .ref q16, .ref q24, .ref q32, .ref q40, .int 0, .int 0, .int 0, .int 0, .int 0, .int 0, .int 0, .int 0])), (q8, .inl (k8, 576, .inl (fun _ => 0))), (q16, .inl (k16, 64, .inl (fun _ => 0))), (q24, .inl (k24, 12, .inl (fun _ => 0))), (q32, .inl (k32, 12, .inl (fun _ => 0))), (q40, .inl (k40, 30, .inl (fun _ => 0)))] H := hP
  have hD : va_D A [(h0, .inr (9, [.null, .null, .ref q8, .ref q16, .ref q24, .ref q32, .ref q40, .int 0, .int 0, .int 0, .int 0, .int 0, .int 0, .int 0, .int 0])), (q8, .inl (k8, 576, .inl (fun _ => 0))), (q16, .inl (k16, 64, .inl (fun _ => 0))), (q24, .inl (k24, 12, .inl (fun _ => 0))), (q32, .inl (k32, 12, .inl (fun _ => 0))), (q40, .inl (k40, 30, .inl (fun _ => 0)))] := hD
  refine lv_aload_n hx hb d_Machine_init_85 rfl (lv_at hl 0 rfl) ?_
  refine lv_aload_n hx hb d_Machine_init_86 rfl (lv_at hl 1 rfl) ?_
  refine va_putF (D := (dC, dI)) (ci := 9) (v := .ref p1) (ty := (.object "TinyForge$Program")) (C := "TinyForge$Machine") (T := F_Machine) (N := 15) hx hb hts i_Machine t_Machine t_Machine_ok n_Machine hown hK hP hD hS 0 rfl rfl 0 (by decide) (hts _ w_f21147986e) (fun _ h9 => h9) rfl hin rfl (by decide +kernel) rfl rfl (Nat.le_of_ble_eq_true rfl) d_Machine_init_87 (fun H locs hP hD hS => ?_)
  have hP : va_P (dC, dI) vwCl [(h0, .inr (9, [.ref p1, .null, .ref q8, .ref q16, .ref q24, .ref q32, .ref q40, .int 0, .int 0, .int 0, .int 0, .int 0, .int 0, .int 0, .int 0])), (q8, .inl (k8, 576, .inl (fun _ => 0))), (q16, .inl (k16, 64, .inl (fun _ => 0))), (q24, .inl (k24, 12, .inl (fun _ => 0))), (q32, .inl (k32, 12, .inl (fun _ => 0))), (q40, .inl (k40, 30, .inl (fun _ => 0)))] H := hP
  have hD : va_D A [(h0, .inr (9, [.ref p1, .null, .ref q8, .ref q16, .ref q24, .ref q32, .ref q40, .int 0, .int 0, .int 0, .int 0, .int 0, .int 0, .int 0, .int 0])), (q8, .inl (k8, 576, .inl (fun _ => 0))), (q16, .inl (k16, 64, .inl (fun _ => 0))), (q24, .inl (k24, 12, .inl (fun _ => 0))), (q32, .inl (k32, 12, .inl (fun _ => 0))), (q40, .inl (k40, 30, .inl (fun _ => 0)))] := hD
  refine lv_aload_n hx hb d_Machine_init_90 rfl (lv_at hl 0 rfl) ?_
  refine lv_aload_n hx hb d_Machine_init_91 rfl (lv_at hl 2 rfl) ?_
  refine va_putF (D := (dC, dI)) (ci := 9) (v := .ref p2) (ty := (.object "TinyForge$Input")) (C := "TinyForge$Machine") (T := F_Machine) (N := 15) hx hb hts i_Machine t_Machine t_Machine_ok n_Machine hown hK hP hD hS 0 rfl rfl 1 (by decide) (hts _ w_b9aac34b79) (fun _ h9 => h9) rfl hin rfl (by decide +kernel) rfl rfl (Nat.le_of_ble_eq_true rfl) d_Machine_init_92 (fun H locs hP hD hS => ?_)
  have hP : va_P (dC, dI) vwCl [(h0, .inr (9, [.ref p1, .ref p2, .ref q8, .ref q16, .ref q24, .ref q32, .ref q40, .int 0, .int 0, .int 0, .int 0, .int 0, .int 0, .int 0, .int 0])), (q8, .inl (k8, 576, .inl (fun _ => 0))), (q16, .inl (k16, 64, .inl (fun _ => 0))), (q24, .inl (k24, 12, .inl (fun _ => 0))), (q32, .inl (k32, 12, .inl (fun _ => 0))), (q40, .inl (k40, 30, .inl (fun _ => 0)))] H := hP
  have hD : va_D A [(h0, .inr (9, [.ref p1, .ref p2, .ref q8, .ref q16, .ref q24, .ref q32, .ref q40, .int 0, .int 0, .int 0, .int 0, .int 0, .int 0, .int 0, .int 0])), (q8, .inl (k8, 576, .inl (fun _ => 0))), (q16, .inl (k16, 64, .inl (fun _ => 0))), (q24, .inl (k24, 12, .inl (fun _ => 0))), (q32, .inl (k32, 12, .inl (fun _ => 0))), (q40, .inl (k40, 30, .inl (fun _ => 0)))] := hD
  exact W.vret hx hb hr (fun t ht hW => ⟨⟨((fun k : Nat => match k with | 0 => q8 | 1 => q16 | 2 => q24 | 3 => q32 | 4 => q40 | _ => h0), (fun k : Nat => match k with | 0 => k8 | 1 => k16 | 2 => k24 | 3 => k32 | 4 => k40 | _ => dC 0)), rfl, trivial, by rw [ht]; exact hP, va_K.moved hW.alike hK, hD⟩, hS.F ht⟩) hS.2.2 d_Machine_init_95 hlocks
