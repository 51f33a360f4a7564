/-! A value as a statement has it; a variable that is made. -/
def FRel (fC fM : Nat) (S : Nat → Prop) : Prop := fC ≤ fM ∧ (∀ t, S t → fC ≤ t) ∧ (fC = fM ∨ S fC)
theorem frel_step {ag : Prop} {a fC fC' fM fM' : Nat} {S S' T : Nat → Prop} (h1 : FRel fC fM S) (h2 : BI ag a fC fC' fM fM' S') (h3 : ag ∨ fC < a) (hT : ∀ t, T t ↔ S t ∨ S' t) : FRel fC' fM' T := by
  obtain ⟨a1, a2, a3⟩ := h1
  obtain ⟨X, Y, b1, b2, b3, b4, b5, b6⟩ := h2
  rcases h3 with hg | hlt
  · obtain ⟨c1, c2, c3⟩ := b6 hg
    refine ⟨by omega, fun t ht => ?_, ?_⟩
    · rcases (hT t).mp ht with e | e
      · have := a2 t e; omega
      · have := c2 t e; omega
    · rcases Nat.lt_or_ge X fC with e | e
      · rw [show fC' = X by omega]
        rcases c3 with c | c
        · left; omega
        · right; exact (hT _).mpr (Or.inr c)
      · rw [show fC' = fC by omega]
        rcases a3 with c | c
        · left; omega
        · right; exact (hT _).mpr (Or.inl c)
  · refine ⟨by omega, fun t ht => ?_, ?_⟩
    · rcases (hT t).mp ht with e | e
      · have := a2 t e; omega
      · have := b5 t e; omega
    · rw [show fC' = fC by omega]
      rcases a3 with c | c
      · left; omega
      · right; exact (hT _).mpr (Or.inl c)
section VB
variable {n : Nat} {K : Nat → Int32} {p : Nat → Nat} {V : Nat → Int64} {g h : St} {tv : Nat → Nat} {vc vm ar sb dp : Nat} {ag : Prop}
theorem value_start {m : St} {N : Nat} : tModel_value_L (N + 2) 1 m (-1) 1 0 0 = tModel_value_L N 3 m 1 0 0 0 := rfl
theorem value_start' {m m' : St} {N : Nat} {x : Int32} (hx : ¬ x < 0) (h : tModel_operand m x = some m') : tModel_value_L (N + 2) 1 m x 0 0 0 = tModel_value_L N 3 m' 0 0 0 0 := by
  show tModel_value_b1 _ m x 0 0 0 = _
  unfold tModel_value_b1
  rw [if_neg hx, b1S h]
  rfl
/-- what a value comes to for a statement -/
def VStm (n : Nat) (K : Nat → Int32) (p : Nat → Nat) (g h c m c' : St) (mres : Option (Int32 × St)) (fC fM a o l nd vc : Nat) (ag : Prop) : Prop :=
  (∃ (a' l' nd' fC' fM' N : Nat) (m2 : St), PW n p g c' fC' a' o l' ∧ PV n h m2 fM' a' o nd' 1 0 ∧ mres = some (nI N, m2) ∧ sth (K a') = 0 ∧ (a < a' ∧ a' ≤ n ∧ l < l' ∧ l' ≤ l + 2 * (a' - a) ∧ nd ≤ N ∧ N < nd' ∧ nd' ≤ nd + (a' - a)) ∧ FW c c' l ∧ (∀ i, i < nd → NodeEq m.2.2.1 m2.2.2.1 i) ∧ VQ n K c'.2.2.1 m2.2.2.1 fC' a a' o l l' nd nd' N vc ∧ BI ag a fC fC' fM fM' (NH m2.2.2.1 nd nd') ∧ fC' ≤ fC) ∨
  (∃ (r q : Int32) (m' : St), CBad g n r q c' ∧ mres = some (0, m') ∧ MBad h n 5 r q m')
/-- the model's loop, to its end -/
theorem value_end {c m c' : St} {b : Int32} {fC fM a o l nd : Nat} (B : Bs n K p V g h tv vc vm ar ag) (ha : a ≤ n) (h1 : VOk n K p g h c m c' b fC fM a o l nd 0 0 vc ag 1 ∨ VBad n g h m c' b a) : VStm n K p g h c m c' (tModel_value_L 1998 3 m b 0 0 0) fC fM a o l nd vc ag := by
  have hn := B.2.1.1.1
  rcases h1 with ⟨a', l', nd', fC', fM', N, j, k, m1, m2, hc, ⟨so', wh', oe', tw', th', nx', tk', os', wa', wf', rfl⟩, i3, i4, i5, i6, ⟨j1, j2, j3, j4, j5, j6, j7, j8, j9⟩, i8, i9, i10, i11, i12⟩ | ⟨r, q, jb, bb, mb, hb1, hb2, hb3, hb4⟩
  · obtain ⟨N', e1, e2⟩ := v_turns i3 (1998 - 4 * j)
    rw [show 1998 - 4 * j + 4 * j = 1998 by omega] at e2
    obtain ⟨N', rfl⟩ : ∃ i, N' = i + 5 := ⟨N' - 5, by omega⟩
    have h0 : sth (K a') = 0 := by omega
    rw [h0] at i5
    have hst := v_settle (least := 1) B.2.1 (by omega) (Or.inl rfl) i5 (by omega)
    have hl := v_last (N := N') i4.1 (by rw [i4.2.1, strength_congr i4.2.2]; exact B.2.1.2.2.2.2.2.2.1 a' j2) (by rw [h0]; decide) hst (by rw [mkV_i41]; decide) (by rw [mkV_i29])
    refine Or.inl ⟨a', l', nd', fC', fM', N, _, hc, ⟨_, _, _, _, _, _, _, _, _, _, rfl⟩, ?_, h0, ⟨j1, j2, j3, j4, j5, j6, j7⟩, i8, i9.1, i11, i12, ?_⟩
    · rw [e2, hl]
      exact congrArg (fun z => some (z, _)) i10
    · obtain ⟨X, Y, -, -, b3, -⟩ := i12
      omega
  · obtain ⟨N', e1, e2⟩ := v_turns hb2 (1998 - 4 * jb)
    rw [show 1998 - 4 * jb + 4 * jb = 1998 by omega] at e2
    obtain ⟨N', rfl⟩ : ∃ i, N' = i + 2 := ⟨N' - 2, by omega⟩
    exact Or.inr ⟨r, q, mb, hb1, by rw [e2]; exact km_value3 hb3 (by omega), hb3⟩
theorem value_both {co op sz so wh oe tw th nx tk os wa wf : Nat → Int32} {fC fM a o l nd d : Nat} {OC WT : Int32} (B : Bs n K p V g h tv vc vm ar ag) (hd : 70 ≤ d + 5 * o) (hd2 : 10 ≤ d) (ho1 : 1 ≤ o) (ho : o ≤ 12) (ha : a ≤ n) (hl : l ≤ 2 * a) (hnd : nd ≤ a) (hag : ag ∨ fC ≤ n) :
    ∃ x c', tG d 16 (mkW g 0 (-1) (wn n p fC) (nI a) (nI o) (nI l) co op sz) 1 0 = some (x, c') ∧ VStm n K p g h (mkW g 0 (-1) (wn n p fC) (nI a) (nI o) (nI l) co op sz) (mkV h 0 (-1) (ftk n fM) (nI a) (nI o) (nI nd) OC WT so wh oe tw th nx tk os wa wf) c' (tModel_value (mkV h 0 (-1) (ftk n fM) (nI a) (nI o) (nI nd) OC WT so wh oe tw th nx tk os wa wf) (-1)) fC fM a o l nd vc ag := by
  obtain ⟨x, c', e1, e2⟩ := (val_all B (12 - o) o d (by omega) ho1).2 (by omega) _ (mkV h 0 (-1) (ftk n fM) (nI a) (nI o) (nI nd) (nI 0) (nI 0) so wh oe tw th nx tk os wa wf) fC fM a l nd 0 0 1 ⟨co, op, sz, rfl⟩ ⟨_, _, _, _, _, _, _, _, _, _, rfl⟩ ha hl hnd (by omega) (by omega) hag (by omega) (by omega) (fun s _ _ => Or.inl rfl)
  refine ⟨x, c', e1, ?_⟩
  unfold tModel_value
  rw [if_neg (by decide), mkV_s40, mkV_s41]
  show VStm n K p g h _ _ c' (tModel_value_L (1998 + 2) 1 _ (-1) 1 0 0) fC fM a o l nd vc ag
  rw [value_start]
  exact value_end B ha e2
theorem bi_make {a fC fM fC' fM' t : Nat} {P Q : Prop} {S : Nat → Prop} (h : ag → (P ↔ Q)) (ha : a ≤ t) (hS : ∀ t, ¬ S t) (c1 : P → fC' = min fC t) (c2 : ¬ P → fC' = fC) (m1 : Q → fM' = min fM t) (m2 : ¬ Q → fM' = fM) : BI ag a fC fC' fM fM' S := by
  by_cases hp : P
  · by_cases hq : Q
    · exact ⟨t, t, ha, ha, c1 hp, m1 hq, fun t ht => absurd ht (hS t), fun _ => ⟨Nat.le_refl _, fun t ht => absurd ht (hS t), Or.inl rfl⟩⟩
    · exact ⟨t, a + fC + fM, ha, by omega, c1 hp, by rw [m2 hq]; omega, fun t ht => absurd ht (hS t), fun hg => absurd ((h hg).mp hp) hq⟩
  · by_cases hq : Q
    · exact ⟨a + fC + fM, t, by omega, ha, by rw [c2 hp]; omega, m1 hq, fun t ht => absurd ht (hS t), fun hg => absurd ((h hg).mpr hq) hp⟩
    · exact ⟨a + fC + fM, a + fC + fM, by omega, by omega, by rw [c2 hp]; omega, by rw [m2 hq]; omega, fun t ht => absurd ht (hS t), fun _ => ⟨Nat.le_refl _, fun t ht => absurd ht (hS t), Or.inl rfl⟩⟩
/-- arrays and functions are left alone -/
def GK (g h g' h' : St) : Prop := (g'.1 10 = g.1 10 ∧ g'.1 11 = g.1 11 ∧ g'.1 12 = g.1 12 ∧ g'.2.2.1 3 = g.2.2.1 3 ∧ g'.2.2.1 4 = g.2.2.1 4 ∧ g'.2.2.1 5 = g.2.2.1 5 ∧ g'.2.2.2 2 = g.2.2.2 2) ∧ (h'.1 35 = h.1 35 ∧ h'.1 36 = h.1 36 ∧ h'.1 37 = h.1 37 ∧ h'.2.2.1 27 = h.2.2.1 27 ∧ h'.2.2.1 28 = h.2.2.1 28 ∧ h'.2.2.1 29 = h.2.2.1 29 ∧ h'.2.2.1 30 = h.2.2.1 30)
theorem gk_refl : GK g h g h := ⟨⟨rfl, rfl, rfl, rfl, rfl, rfl, rfl⟩, ⟨rfl, rfl, rfl, rfl, rfl, rfl, rfl⟩⟩
theorem gk_trans {g1 h1 g2 h2 : St} (a : GK g h g1 h1) (b : GK g1 h1 g2 h2) : GK g h g2 h2 := by
  obtain ⟨⟨a1, a2, a3, a4, a5, a6, a7⟩, ⟨a8, a9, a10, a11, a12, a13, a14⟩⟩ := a
  obtain ⟨⟨b1, b2, b3, b4, b5, b6, b7⟩, ⟨b8, b9, b10, b11, b12, b13, b14⟩⟩ := b
  exact ⟨⟨b1.trans a1, b2.trans a2, b3.trans a3, b4.trans a4, b5.trans a5, b6.trans a6, b7.trans a7⟩, ⟨b8.trans a8, b9.trans a9, b10.trans a10, b11.trans a11, b12.trans a12, b13.trans a13, b14.trans a14⟩⟩
/-- variables below are left alone -/
def FrV (g h g' h' : St) (vc ar : Nat) (ag' : Prop) : Prop := FrC g g' ∧ FrM h h' ∧ (ag' → ∀ k, k < vc → g'.2.2.2 1 k = g.2.2.2 1 k ∧ h'.2.2.1 31 k = h.2.2.1 31 k ∧ h'.2.2.1 32 k = h.2.2.1 32 k) ∧ (∀ k, k < ar → h'.2.2.1 36 k = h.2.2.1 36 k) ∧ GK g h g' h'
theorem frv_refl {vc ar : Nat} {ag' : Prop} : FrV g h g h vc ar ag' := ⟨frc_refl g, frm_refl h, fun _ _ _ => ⟨rfl, rfl, rfl⟩, fun _ _ => rfl, gk_refl⟩
theorem frv_trans {g1 h1 g2 h2 : St} {vc vc' ar ar' : Nat} {ag1 ag2 : Prop} (e1 : FrV g h g1 h1 vc ar ag1) (e2 : FrV g1 h1 g2 h2 vc' ar' ag2) (hv : ag2 → vc ≤ vc') (har : ar ≤ ar') (hg : ag2 → ag1) : FrV g h g2 h2 vc ar ag2 :=
  ⟨frc_trans e1.1 e2.1, frm_trans e1.2.1 e2.2.1, fun h2 k hk => ⟨(e2.2.2.1 h2 k (by have := hv h2; omega)).1.trans (e1.2.2.1 (hg h2) k hk).1, (e2.2.2.1 h2 k (by have := hv h2; omega)).2.1.trans (e1.2.2.1 (hg h2) k hk).2.1, (e2.2.2.1 h2 k (by have := hv h2; omega)).2.2.trans (e1.2.2.1 (hg h2) k hk).2.2⟩, fun k hk => (e2.2.2.2.1 k (by omega)).trans (e1.2.2.2.1 k hk), gk_trans e1.2.2.2.2 e2.2.2.2.2⟩
theorem sameT_trans {h h1 h2 : St} (e1 : SameT h h1) (e2 : SameT h1 h2) : SameT h h2 := ⟨e2.1.trans e1.1, e2.2.1.trans e1.2.1, e2.2.2.1.trans e1.2.2.1, e2.2.2.2.1.trans e1.2.2.2.1, e2.2.2.2.2.1.trans e1.2.2.2.2.1, e2.2.2.2.2.2.trans e1.2.2.2.2.2⟩
theorem tkc_keep {g' : St} (T : TkC g n K p V) (e : FrC g g') : TkC g' n K p V := by
  obtain ⟨t1, t2, t3, t4, t5, t6, t7⟩ := T
  refine ⟨(e.1 4 (by omega)).trans t1, t2, (e.1 0 (by omega)).trans t3, fun i hi => ?_, t5, t6, t7⟩
  rw [e.2.2.1 1 (by omega), e.2.2.1 2 (by omega), e.2.2.2 0 (by omega)]
  exact t4 i hi
/-- both sides make a variable -/
theorem make_both {fC fM a o l t : Nat} {co op sz so wh oe tw th nx tk os wa wf : Nat → Int32} {A O ND OC WT : Int32} (B : Bs n K p V g h tv vc vm ar ag) (L : Lv g h vc sb dp ag) (ht : t < n) (hk : K t = 1) :
    ∃ (g' h' : St) (tv' : Nat → Nat) (vc' vm' fC' fM' : Nat) (ag' : Prop) (x : Int32), tVariables_make (mkW g 0 (-1) (wn n p fC) (nI a) (nI o) (nI l) co op sz) (nI t) = some (x, mkW g' 0 (-1) (wn n p fC') (nI a) (nI o) (nI l) co op sz) ∧ tModel_makeVariable (mkV h 0 (-1) (ftk n fM) A O ND OC WT so wh oe tw th nx tk os wa wf) (nI t) = some (mkV h' 0 (-1) (ftk n fM') A O ND OC WT so wh oe tw th nx tk os wa wf) ∧ Bs n K p V g' h' tv' vc' vm' ar ag' ∧ Lv g' h' vc' sb dp ag' ∧ FrV g h g' h' vc 100 ag' ∧ (ag' → ag ∧ x = nI vc ∧ vc' = vc + 1 ∧ vm' = vm + 1 ∧ fC' = fC) ∧ BI ag t fC fC' fM fM' (fun _ => False) ∧ (ag' ∨ fC' ≤ t ∨ (¬ ag ∧ fC' ≤ fC)) ∧ fC' ≤ fC := by
  obtain ⟨B1, B2, B3, B4, B5, B6, B7, B8⟩ := B
  obtain ⟨L1, L2, L3, L4, L5⟩ := L
  have hn := B2.1.1
  have hvb := B4.2.1
  have hiff : ag → ((12 ≤ vc ∨ ¬ fnd (g.2.2.2 1) vc (V t) < nI sb) ↔ (Dup h V tv 0 vm t ∨ 12 ≤ vm)) := by
    intro hg
    obtain ⟨e1, e2⟩ := B5 hg
    obtain ⟨l1, l2⟩ := L5 hg
    rw [fnd_ge (by omega) vc (by omega)]
    have : (∃ j, sb ≤ j ∧ j < vc ∧ g.2.2.2 1 j = V t) ↔ Dup h V tv 0 vm t := by
      constructor
      · rintro ⟨j, j1, j2, j3⟩
        exact ⟨j, by omega, by omega, by rw [L3]; exact (l2 j j2).1.mpr j1, by rw [← e2 j j2]; exact j3⟩
      · rintro ⟨j, j1, j2, j3, j4⟩
        exact ⟨j, (l2 j (by omega)).1.mp (by rw [← L3]; exact j3), by omega, by rw [e2 j (by omega)]; exact j4⟩
    rw [this, e1]
    exact or_comm
  have VM : VrM (hMk h vm t) n K (fset tv vm t) (if vm < 119 then vm + 1 else vm) := by
    refine ⟨rfl, by split <;> omega, fun k hk' => ?_⟩
    show upd (h.2.2.1 31) vm (nI t) k = nI (fset tv vm t k) ∧ _
    by_cases e : k = vm
    · subst e; rw [upd_e, fset_e]; exact ⟨rfl, ht, hk⟩
    · rw [upd_n e, fset_n e]; exact B4.2.2 k (by split at hk' <;> omega)
  have FM : FrM h (hMk h vm t) := frm_sI (frm_sA (frm_sA (frm_refl h) (by omega)) (by omega)) (by omega)
  have low : ∀ k, k < vm → (hMk h vm t).2.2.1 31 k = h.2.2.1 31 k ∧ (hMk h vm t).2.2.1 32 k = h.2.2.1 32 k := fun k hk' => ⟨show upd (h.2.2.1 31) vm (nI t) k = _ from upd_n (by omega), show upd (h.2.2.1 32) vm (h.1 39) k = _ from upd_n (by omega)⟩
  obtain ⟨fM', fm1, fm2, fm3⟩ := v_make (f := fM) (y := 0) (q := -1) (A := A) (O := O) (ND := ND) (OC := OC) (WT := WT) (so := so) (wh := wh) (oe := oe) (tw := tw) (th := th) (nx := nx) (tk := tk) (os := os) (wa := wa) (wf := wf) B2 B4 ht hk
  by_cases hc : 12 ≤ vc ∨ ¬ fnd (g.2.2.2 1) vc (V t) < nI sb
  · refine ⟨g, hMk h vm t, fset tv vm t, vc, _, min fC t, fM', False, 0, by rw [w_make B1 B3.1 B3.2 L1 ht, if_pos hc], fm3, ⟨B1, tkm_keep (frm_same FM) B2, B3, VM, fun h => h.elim, B6, B7, B8⟩, ⟨L1, L2, L3, L4, fun h => h.elim⟩, ?_, fun h => h.elim, ?_, Or.inr (Or.inl (by omega)), by omega⟩
    · exact ⟨frc_refl g, FM, fun h => h.elim, fun _ _ => rfl, ⟨rfl, rfl, rfl, rfl, rfl, rfl, rfl⟩, ⟨rfl, rfl, rfl, rfl, rfl, rfl, rfl⟩⟩
    · exact bi_make hiff (Nat.le_refl _) (fun _ h => h) (fun _ => rfl) (fun e => absurd hc e) fm1 fm2
  · have hvc : vc < 12 := by
      rcases Nat.lt_or_ge vc 12 with e | e
      · exact e
      · exact absurd (Or.inl e) hc
    have FC : FrC g (sI (sL g 1 (vp_updL (g.2.2.2 1) vc (V t))) 8 (nI (vc + 1))) := frc_sI (frc_sL (frc_refl g) (by omega)) (by omega)
    refine ⟨_, hMk h vm t, fset tv vm t, vc + 1, _, fC, fM', ag, nI vc, by rw [w_make B1 B3.1 B3.2 L1 ht, if_neg hc], fm3, ⟨tkc_keep B1 FC, tkm_keep (frm_same FM) B2, ⟨rfl, by omega⟩, VM, fun hg => ?_, B6, B7, B8⟩, ⟨L1, L2, L3, L4, fun hg => ?_⟩, ⟨FC, FM, fun hg k hk' => ?_, fun _ _ => rfl, ⟨rfl, rfl, rfl, rfl, rfl, rfl, rfl⟩, ⟨rfl, rfl, rfl, rfl, rfl, rfl, rfl⟩⟩, fun hg => ⟨hg, rfl, rfl, ?_, rfl⟩, ?_, ?_, Nat.le_refl _⟩
    · obtain ⟨e1, e2⟩ := B5 hg
      refine ⟨by rw [if_pos (by omega)]; omega, fun k hk' => ?_⟩
      show vp_updL (g.2.2.2 1) vc (V t) k = V (fset tv vm t k)
      by_cases e : k = vc
      · rw [e, updL_e, ← e1, fset_e]
      · rw [updL_n e, fset_n (by omega)]; exact e2 k (by omega)
    · obtain ⟨e1, e2⟩ := B5 hg
      obtain ⟨l1, l2⟩ := L5 hg
      refine ⟨by omega, fun k hk' => ?_⟩
      show (upd (h.2.2.1 32) vm (h.1 39) k = nI dp ↔ sb ≤ k) ∧ ∃ e, e ≤ dp ∧ upd (h.2.2.1 32) vm (h.1 39) k = nI e
      by_cases e : k = vc
      · rw [show k = vm by omega, upd_e, L3]; exact ⟨⟨fun _ => by omega, fun _ => rfl⟩, dp, Nat.le_refl _, rfl⟩
      · rw [upd_n (by omega)]; exact l2 k (by omega)
    · obtain ⟨e1, e2⟩ := B5 hg
      exact ⟨show vp_updL (g.2.2.2 1) vc (V t) k = _ from updL_n (by omega), low k (by omega)⟩
    · have := (B5 hg).1
      rw [if_pos (by omega)]
    · exact bi_make hiff (Nat.le_refl _) (fun _ h => h) (fun e => absurd e hc) (fun _ => rfl) fm1 fm2
    · by_cases hg : ag
      · exact Or.inl hg
      · exact Or.inr (Or.inr ⟨hg, Nat.le_refl _⟩)
end VB
