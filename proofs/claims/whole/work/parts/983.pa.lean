/-! Parameters. -/
def Bq (n : Nat) (K : Nat → Int32) (p : Nat → Nat) (V : Nat → Int64) (g h : St) (tv : Nat → Nat) (vc vm : Nat) (ag : Prop) : Prop :=
  TkC g n K p V ∧ TkM h n K p V ∧ (g.1 8 = nI vc ∧ vc ≤ 12) ∧ VrM h n K tv vm ∧ (ag → vc = vm ∧ ∀ k, k < vc → g.2.2.2 1 k = V (tv k)) ∧ (∃ b, b ≤ 12 ∧ g.1 9 = nI b) ∧ (∃ b, b ≤ 12 ∧ g.1 10 = nI b)
section PA
variable {n : Nat} {K : Nat → Int32} {p : Nat → Nat} {V : Nat → Int64} {g h : St} {tv : Nat → Nat} {vc vm sb dp : Nat} {ag : Prop}
/-- both sides make a variable, before anything is around -/
theorem make_bq {fC fM a o l t : Nat} {co op sz so wh oe tw th nx tk os wa wf : Nat → Int32} {A O ND OC WT : Int32} (B : Bq n K p V g h tv vc vm ag) (L : Lv g h vc sb dp ag) (ht : t < n) (hk : K t = 1) :
    ∃ (g' h' : St) (tv' : Nat → Nat) (vc' vm' fC' fM' : Nat) (ag' : Prop) (x : Int32), tVariables_make (mkW g 0 (-1) (wn n p fC) (nI a) (nI o) (nI l) co op sz) (nI t) = some (x, mkW g' 0 (-1) (wn n p fC') (nI a) (nI o) (nI l) co op sz) ∧ tModel_makeVariable (mkV h 0 (-1) (ftk n fM) A O ND OC WT so wh oe tw th nx tk os wa wf) (nI t) = some (mkV h' 0 (-1) (ftk n fM') A O ND OC WT so wh oe tw th nx tk os wa wf) ∧ Bq n K p V g' h' tv' vc' vm' ag' ∧ Lv g' h' vc' sb dp ag' ∧ FrV g h g' h' vc 100 ag' ∧ (ag' → ag ∧ x = nI vc ∧ vc' = vc + 1 ∧ vm' = vm + 1 ∧ fC' = fC) ∧ BI ag t fC fC' fM fM' (fun _ => False) ∧ (ag' ∨ fC' ≤ t ∨ (¬ ag ∧ fC' ≤ fC)) ∧ fC' ≤ fC ∧ (g' = g ∨ ∃ x v, g' = sI (sL g 1 x) 8 v) ∧ h' = hMk h vm t := by
  obtain ⟨B1, B2, B3, B4, B5, B7, B8⟩ := B
  obtain ⟨L1, L2, L3, L4, L5⟩ := L
  have hn := B2.1.1
  have hvb := B4.2.1
  have hiff : ag → ((12 ≤ vc ∨ ¬ fnd (g.2.2.2 1) vc (V t) < nI sb) ↔ (Dup h V tv 0 vm t ∨ 12 ≤ vm)) := by
    intro hg
    obtain ⟨e1, e2⟩ := B5 hg
    obtain ⟨l1, l2⟩ := L5 hg
    rw [fnd_ge (by omega) vc (by omega)]
    have : (∃ j, sb ≤ j ∧ j < vc ∧ g.2.2.2 1 j = V t) ↔ Dup h V tv 0 vm t := by
      constructor
      · rintro ⟨j, j1, j2, j3⟩
        exact ⟨j, by omega, by omega, by rw [L3]; exact (l2 j j2).1.mpr j1, by rw [← e2 j j2]; exact j3⟩
      · rintro ⟨j, j1, j2, j3, j4⟩
        exact ⟨j, (l2 j (by omega)).1.mp (by rw [← L3]; exact j3), by omega, by rw [e2 j (by omega)]; exact j4⟩
    rw [this, e1]
    exact or_comm
  have VM : VrM (hMk h vm t) n K (fset tv vm t) (if vm < 119 then vm + 1 else vm) := by
    refine ⟨rfl, by split <;> omega, fun k hk' => ?_⟩
    show upd (h.2.2.1 31) vm (nI t) k = nI (fset tv vm t k) ∧ _
    by_cases e : k = vm
    · subst e; rw [upd_e, fset_e]; exact ⟨rfl, ht, hk⟩
    · rw [upd_n e, fset_n e]; exact B4.2.2 k (by split at hk' <;> omega)
  have FM : FrM h (hMk h vm t) := frm_sI (frm_sA (frm_sA (frm_refl h) (by omega)) (by omega)) (by omega)
  have low : ∀ k, k < vm → (hMk h vm t).2.2.1 31 k = h.2.2.1 31 k ∧ (hMk h vm t).2.2.1 32 k = h.2.2.1 32 k := fun k hk' => ⟨show upd (h.2.2.1 31) vm (nI t) k = _ from upd_n (by omega), show upd (h.2.2.1 32) vm (h.1 39) k = _ from upd_n (by omega)⟩
  obtain ⟨fM', fm1, fm2, fm3⟩ := v_make (f := fM) (y := 0) (q := -1) (A := A) (O := O) (ND := ND) (OC := OC) (WT := WT) (so := so) (wh := wh) (oe := oe) (tw := tw) (th := th) (nx := nx) (tk := tk) (os := os) (wa := wa) (wf := wf) B2 B4 ht hk
  by_cases hc : 12 ≤ vc ∨ ¬ fnd (g.2.2.2 1) vc (V t) < nI sb
  · refine ⟨g, hMk h vm t, fset tv vm t, vc, _, min fC t, fM', False, 0, by rw [w_make B1 B3.1 B3.2 L1 ht, if_pos hc], fm3, ⟨B1, tkm_keep (frm_same FM) B2, B3, VM, fun h => h.elim, B7, B8⟩, ⟨L1, L2, L3, L4, fun h => h.elim⟩, ?_, fun h => h.elim, ?_, Or.inr (Or.inl (by omega)), by omega, Or.inl rfl, rfl⟩
    · exact ⟨frc_refl g, FM, fun h => h.elim, fun _ _ => rfl, ⟨rfl, rfl, rfl, rfl, rfl, rfl, rfl⟩, ⟨rfl, rfl, rfl, rfl, rfl, rfl, rfl⟩⟩
    · exact bi_make hiff (Nat.le_refl _) (fun _ h => h) (fun _ => rfl) (fun e => absurd hc e) fm1 fm2
  · have hvc : vc < 12 := by
      rcases Nat.lt_or_ge vc 12 with e | e
      · exact e
      · exact absurd (Or.inl e) hc
    have FC : FrC g (sI (sL g 1 (vp_updL (g.2.2.2 1) vc (V t))) 8 (nI (vc + 1))) := frc_sI (frc_sL (frc_refl g) (by omega)) (by omega)
    refine ⟨_, hMk h vm t, fset tv vm t, vc + 1, _, fC, fM', ag, nI vc, by rw [w_make B1 B3.1 B3.2 L1 ht, if_neg hc], fm3, ⟨tkc_keep B1 FC, tkm_keep (frm_same FM) B2, ⟨rfl, by omega⟩, VM, fun hg => ?_, B7, B8⟩, ⟨L1, L2, L3, L4, fun hg => ?_⟩, ⟨FC, FM, fun hg k hk' => ?_, fun _ _ => rfl, ⟨rfl, rfl, rfl, rfl, rfl, rfl, rfl⟩, ⟨rfl, rfl, rfl, rfl, rfl, rfl, rfl⟩⟩, fun hg => ⟨hg, rfl, rfl, ?_, rfl⟩, ?_, ?_, Nat.le_refl _, Or.inr ⟨_, _, rfl⟩, rfl⟩
    · obtain ⟨e1, e2⟩ := B5 hg
      refine ⟨by rw [if_pos (by omega)]; omega, fun k hk' => ?_⟩
      show vp_updL (g.2.2.2 1) vc (V t) k = V (fset tv vm t k)
      by_cases e : k = vc
      · rw [e, updL_e, ← e1, fset_e]
      · rw [updL_n e, fset_n (by omega)]; exact e2 k (by omega)
    · obtain ⟨e1, e2⟩ := B5 hg
      obtain ⟨l1, l2⟩ := L5 hg
      refine ⟨by omega, fun k hk' => ?_⟩
      show (upd (h.2.2.1 32) vm (h.1 39) k = nI dp ↔ sb ≤ k) ∧ ∃ e, e ≤ dp ∧ upd (h.2.2.1 32) vm (h.1 39) k = nI e
      by_cases e : k = vc
      · rw [show k = vm by omega, upd_e, L3]; exact ⟨⟨fun _ => by omega, fun _ => rfl⟩, dp, Nat.le_refl _, rfl⟩
      · rw [upd_n (by omega)]; exact l2 k (by omega)
    · obtain ⟨e1, e2⟩ := B5 hg
      exact ⟨show vp_updL (g.2.2.2 1) vc (V t) k = _ from updL_n (by omega), low k (by omega)⟩
    · have := (B5 hg).1
      rw [if_pos (by omega)]
    · exact bi_make hiff (Nat.le_refl _) (fun _ h => h) (fun e => absurd e hc) (fun _ => rfl) fm1 fm2
    · by_cases hg : ag
      · exact Or.inl hg
      · exact Or.inr (Or.inr ⟨hg, Nat.le_refl _⟩)
/-- a refusal of the class at an early place -/
theorem cq_mkW {r q w a o : Int32} {l : Nat} {co op sz : Nat → Int32} (B : Bq n K p V g h tv vc vm ag) (hr : ¬ r = 0) (hl : l ≤ 440) : CBad g n r q (mkW g r q w a o (nI l) co op sz) := by
  obtain ⟨b1, b2, b3, b4, b5, b7, b8⟩ := B
  exact ⟨frc_mkW (frc_refl g), rfl, rfl, hr, ⟨b1.1, b1.2.1⟩, ⟨vc, b3.2, b3.1⟩, b7, ⟨l, hl, rfl⟩, b8⟩
/-- a variable of a token that is no name: it will be refused -/
theorem make_any {f a o l t : Nat} {co op sz : Nat → Int32} (T : TkC g n K p V) (h8 : g.1 8 = nI vc) (hv : vc ≤ 12) (h9 : g.1 9 = nI sb) (hsb : sb ≤ 12) (h10 : ∃ b, b ≤ 12 ∧ g.1 10 = nI b) (ht : t ≤ n) (ha : a ≤ n) (hl : l ≤ 440) (hk : ¬ K a = 1) :
    KB g n 3 (nI (p a)) (b2 (tVariables_make (mkW g 0 (-1) (wn n p f) (nI a) (nI o) (nI l) co op sz) (nI t)) (fun _ u2 => b1 (tCursor_pass u2 1) (fun u3 => some u3))) := by
  obtain ⟨val, hval⟩ := tot_value (σ := mkW g 0 (-1) (wn n p f) (nI a) (nI o) (nI l) co op sz) (x := nI t) T.1 T.2.1
  have e : ∀ N, tVariables_make_L (N + 1) 1 (mkW g 0 (-1) (wn n p f) (nI a) (nI o) (nI l) co op sz) (nI t) = some (0, mkW g 0 (-1) (wn n p (min f t)) (nI a) (nI o) (nI l) co op sz) := by
    intro N
    show tVariables_make_b1 (tVariables_make_L N) _ _ = _
    unfold tVariables_make_b1
    rw [b1S (w_place T ht), b1S (w_blame T ht)]
  have fin : ∀ (g' : St) (f' : Nat), FrC g g' → (∃ v, v ≤ 12 ∧ g'.1 8 = nI v) → g'.1 9 = g.1 9 → g'.1 10 = g.1 10 → KB g n 3 (nI (p a)) (b1 (tCursor_pass (mkW g' 0 (-1) (wn n p f') (nI a) (nI o) (nI l) co op sz) 1) (fun u3 => some u3)) := by
    intro g' f' e1 e2 e3 e4
    rw [b1_id, w_passN (tkc_keep T e1) ha hk]
    obtain ⟨b, hb, hb'⟩ := h10
    exact kbs ⟨frc_mkW e1, rfl, rfl, by decide, ⟨T.1, T.2.1⟩, e2, ⟨sb, hsb, e3.trans h9⟩, ⟨l, hl, rfl⟩, ⟨b, hb, e4.trans hb'⟩⟩
  unfold tVariables_make
  rw [b1S hval, mkW_i8, h8, e 1999]
  by_cases h12 : (12 : Int32) ≤ nI vc
  · rw [if_pos h12, b2S rfl]
    exact fin g _ (frc_refl g) ⟨vc, hv, h8⟩ rfl rfl
  rw [if_neg h12, b1S (w_find h8 hv), mkW_i9, h9]
  have hvc : vc < 12 := by
    rcases Nat.lt_or_ge vc 12 with e | e
    · exact e
    · exact absurd ((nI_leI (a := 12) (by omega) (by omega)).mpr e) h12
  by_cases hx : fnd (g.2.2.2 1) vc val < nI sb
  · rw [if_pos hx, gdT (inI hvc (by omega)), nI_suc, nI_pred, tc_nI (by omega)]
    show KB g n 3 (nI (p a)) (b2 (some (nI vc, sI (sL (mkW g 0 (-1) (wn n p f) (nI a) (nI o) (nI l) co op sz) 1 (vp_updL (g.2.2.2 1) vc val)) 8 (nI (vc + 1)))) _)
    rw [mkW_l1, mkW_b8, b2S rfl]
    exact fin _ _ (frc_sI (frc_sL (frc_refl g) (by omega)) (by omega)) ⟨vc + 1, by omega, rfl⟩ rfl rfl
  · rw [if_neg hx, b2S rfl]
    exact fin g _ (frc_refl g) ⟨vc, hv, h8⟩ rfl rfl
/-- one parameter behind i others, as the class reads it -/
def parOne (i : Nat) (σ : St) : Option St := b1 (tCursor_pass σ 3) (fun u => b1 (if i < 4 then some u else tVariables_mustNotMake u (u.1 6)) (fun u => b2 (tVariables_make u (u.1 6)) (fun _ u => b1 (tCursor_pass u 1) (fun u => some u))))
/-- behind i parameters -/
def parTail (N i : Nat) (σ : St) : Option (Int32 × St) := if (220 : Int32) ≤ nI i then some (nI i, σ) else b1 (tCursor_kind σ) (fun r => if r = 44 then tGrammar_parameters_L N 1 σ (nI i) else some (nI i, σ))
theorem kb_param {c : St} {r q : Int32} {i : Nat} (hb : CBad g n r q c) : KB g n r q (parOne i c) := by
  unfold parOne
  refine kb1 (kb_pass hb (by decide)) fun u hu => kb1 ?_ fun u hu => kb21 (kb_make hu) fun _ u hu => kb1 (kb_pass hu (by decide)) fun u hu => kbs hu
  split
  · exact kbs hu
  · exact kb_notMake hu
theorem par_L1 (N : Nat) (σ : St) (x1 : Int32) : tGrammar_parameters_L (N + 1) 1 σ x1 = tGrammar_parameters_b1 (tGrammar_parameters_L N) σ x1 := rfl
theorem par_L2 (N : Nat) (σ : St) (x1 : Int32) : tGrammar_parameters_L (N + 1) 2 σ x1 = tGrammar_parameters_b2 (tGrammar_parameters_L N) σ x1 := rfl
theorem par_L3 (N : Nat) (σ : St) (x1 : Int32) : tGrammar_parameters_L (N + 1) 3 σ x1 = tGrammar_parameters_b3 (tGrammar_parameters_L N) σ x1 := rfl
theorem par_mid (N i : Nat) (σ : St) (hi : i < 1000) : tGrammar_parameters_L (N + 2) 2 σ (nI i) = b1 (parOne i σ) (fun u => parTail N (i + 1) u) := by
  have e3 : ∀ u : St, tGrammar_parameters_L (N + 1) 3 u (nI i) = b1 (b2 (tVariables_make u (u.1 6)) (fun _ u => b1 (tCursor_pass u 1) (fun u => some u))) (fun u => parTail N (i + 1) u) := by
    intro u
    rw [par_L3]
    unfold tGrammar_parameters_b3 parTail
    rw [nI_suc]
    cases tVariables_make u (u.1 6) with
    | none => rfl
    | some z =>
      obtain ⟨x, v⟩ := z
      show b1 (tCursor_pass v 1) _ = b1 (b1 (tCursor_pass v 1) _) _
      cases tCursor_pass v 1 with
      | none => rfl
      | some w => rfl
  rw [par_L2]
  unfold tGrammar_parameters_b2 parOne
  cases tCursor_pass σ 3 with
  | none => rfl
  | some u =>
    rw [b1S rfl, b1S rfl]
    by_cases h4 : i < 4
    · rw [if_pos (show nI i < 4 from (nI_ltI (b := 4) (by omega) (by omega)).mpr h4), if_pos h4]
      exact e3 u
    · rw [if_neg (show ¬ nI i < 4 from fun e => h4 ((nI_ltI (b := 4) (by omega) (by omega)).mp e)), if_neg h4]
      cases tVariables_mustNotMake u (u.1 6) with
      | none => rfl
      | some v => exact e3 v
theorem par_first (σ : St) : tGrammar_parameters σ = b1 (parOne 0 σ) (fun u => parTail 1997 1 u) := by
  unfold tGrammar_parameters
  rw [par_L1 1999]
  unfold tGrammar_parameters_b1
  rw [if_pos (by decide)]
  exact par_mid 1997 0 σ (by omega)
theorem kb_params_L {c : St} {r q : Int32} {N i : Nat} (hb : CBad g n r q c) : KB2 g n r q (parTail N i c) := by
  unfold parTail
  split
  · exact kbs2 hb
  · rw [b1S (cb_kind hb), if_neg (by decide)]
    exact kbs2 hb
end PA
