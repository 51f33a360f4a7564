/-! A block as a statement. -/
section SY
variable {n : Nat} {K : Nat → Int32} {p : Nat → Nat} {V : Nat → Int64} {g h : St} {tv : Nat → Nat} {vc vm ar sb dp A : Nat} {ag nb : Prop} {co op sz so wh oe tw th nx tk os wa wf : Nat → Int32} {fC fM a o l nd d oc : Nat} {WT : Int32}
/-- the text ends where a statement must begin -/
theorem stm_none (B : Bs n K p V g h tv vc vm ar ag) (ha : a ≤ n) (har : 1 ≤ ar) (hA : h.2.2.1 36 (ar - 1) = nI A) (hA2 : A < 500) (hnd : nd ≤ 400) (hk : K a = 0) :
    KM h n 5 3 (nI (p a)) (tModel_statement (mkV h 0 (-1) (ftk n fM) (nI a) (nI o) (nI nd) (nI oc) WT so wh oe tw th nx tk os wa wf)) := by
  have k0 : ∀ x : Int32, ¬ x = 0 → ¬ K a = x := fun x hx e => hx (e.symm.trans hk)
  rw [st_disp B ha har hA hA2 (fun _ => k0 _ (by decide)), if_neg (k0 _ (by decide)), if_neg (k0 _ (by decide)), if_neg (k0 _ (by decide)), if_neg (k0 _ (by decide)), if_neg (k0 _ (by decide)), if_neg (k0 _ (by decide)), if_neg (k0 _ (by decide)), ends_open]
  have b := mb_mono (k' := 5) (mb_V (r := 3) (q := nI (p a)) (ft := ftk n fM) (o := nI o) (wt := nI 0) (nd := nd) (oc := 0) (so := so) (wh := wh) (oe := oe) (tw := tw) (th := th) (nx := nx) (tk := tk) (os := os) (wa := wa) (wf := wf) B (by decide) ha hnd (by omega)) (by omega)
  have e : tModel_value (mkV h 0 (-1) (ftk n fM) (nI a) (nI o) (nI nd) (nI oc) WT so wh oe tw th nx tk os wa wf) (-1) = some (0, mkV h 3 (nI (p a)) (ftk n fM) (nI a) (nI o) (nI nd) (nI 0) (nI 0) so wh oe tw th nx tk os wa wf) := by
    have hv : VSteps 1 1 (mkV h 0 (-1) (ftk n fM) (nI a) (nI o) (nI nd) (nI 0) (nI 0) so wh oe tw th nx tk os wa wf) 0 (mkV h 3 (nI (p a)) (ftk n fM) (nI a) (nI o) (nI nd) (nI 0) (nI 0) so wh oe tw th nx tk os wa wf) := vs_one rfl (show vStep 1 _ = _ from (if_neg (by decide)).trans (bv_bad B.2.1 ha (k0 _ (by decide)) (k0 _ (by decide)) (k0 _ (by decide)) (k0 _ (by decide)) (k0 _ (by decide)) (k0 _ (by decide)) (k0 _ (by decide))))
    obtain ⟨N', e1, e2⟩ := v_turns hv 1994
    unfold tModel_value
    rw [if_neg (by decide), mkV_s40, mkV_s41]
    show tModel_value_L (1998 + 2) 1 _ (-1) 1 0 0 = _
    rw [value_start]
    exact e2.trans (km_value3 b (by omega))
  rw [b2S e, b1S (mb_need B.2.1 b wd59), b.2.1, if_neg b.2.2.2.1]
  exact kms b
theorem stm_close (B : Bs n K p V g h tv vc vm ar ag) (ha : a ≤ n) (har : 1 ≤ ar) (hA : h.2.2.1 36 (ar - 1) = nI A) (hA2 : A < 500) (hs : so A = 10) (h39 : h.1 39 = nI (dp + 1)) (hk : K a = 125) :
    ∃ w, w ≤ vm ∧ tModel_statement (mkV h 0 (-1) (ftk n fM) (nI a) (nI (o + 1)) (nI nd) (nI oc) WT so wh oe tw th nx tk os wa wf) = tModel_whole_L 2000 1 (mkV (sI (sI (sI h 38 (nI w)) 39 (nI dp)) 42 (nI (ar - 1))) 0 (-1) (ftk n fM) (nI (a + 1)) (nI o) (nI nd) (nI oc) WT so wh oe tw th nx tk os wa wf) (nI A) 1 0 ∧ ∀ u, u ≤ vm → (∀ k, k < vm → (h.2.2.1 32 k = nI (dp + 1) ↔ u ≤ k)) → w = u := by
  have hvm := B.2.2.2.1.2.1
  have h20 := B.2.2.2.2.2.1.2
  obtain ⟨w, w1, w2, w3⟩ := leave_all (o := o) (y := 0) (q := -1) (ft := ftk n fM) (A := nI (a + 1)) (ND := nI nd) (OC := nI oc) (WT := WT) (so := so) (wh := wh) (oe := oe) (tw := tw) (th := th) (nx := nx) (tk := tk) (os := os) (wa := wa) (wf := wf) h39 vm 2000 hvm (by omega)
  refine ⟨w, w1, ?_, w3⟩
  have eh : sI h 38 (nI vm) = h := by
    refine Prod.ext (funext fun j => ?_) rfl
    show (if j = 38 then nI vm else h.1 j) = h.1 j
    by_cases hj : j = 38
    · rw [if_pos hj, hj, B.2.2.2.1.1]
    · rw [if_neg hj]
  rw [eh] at w2
  unfold tModel_statement
  rw [mkV_i42, B.2.2.2.2.2.1.1, nI_pred' (by omega), gdT (inI (by omega) (by omega)), tc_nI (by omega), mkV_r36, hA, gdT (inI hA2 (by omega)), tc_nI (by omega), mkV_r20, if_pos hs, b1S (v_sees B.2.1 ha wd125), if_pos hk, if_neg (by decide), mkV_i31, nI_suc, mkV_s31]
  unfold tModel_leaveBlock
  rw [b1S w2, mkV_i42, show (sI (sI h 38 (nI w)) 39 (nI dp)).1 42 = h.1 42 from rfl, B.2.2.2.2.2.1.1, nI_pred' (by omega), mkV_b42, b1_id]
  rfl
theorem stm_block (hB : Beg n K p V g h (mkV h 0 (-1) (ftk n fM) (nI a) (nI o) (nI nd) (nI oc) WT so wh oe tw th nx tk os wa wf) tv fC fM a o l nd vc vm sb dp ar A ag) (hStP : o < 12 → StP n K p V d (o + 1)) (hoc : oc ≤ 20) (hd : 4 ≤ d) (hk : K a = 123)
    (hm0 : tModel_statement (mkV h 0 (-1) (ftk n fM) (nI a) (nI o) (nI nd) (nI oc) WT so wh oe tw th nx tk os wa wf) = tModel_beginBlock (mkV h 0 (-1) (ftk n fM) (nI a) (nI o) (nI nd) (nI oc) WT so wh oe tw th nx tk os wa wf)) :
    SRes n K p V g h (mkW g 0 (-1) (wn n p fC) (nI a) (nI o) (nI l) co op sz) (mkV h 0 (-1) (ftk n fM) (nI a) (nI o) (nI nd) (nI oc) WT so wh oe tw th nx tk os wa wf) fC a o l nd vc sb dp ar ag nb (tG (d + 2) 0 (mkW g 0 (-1) (wn n p fC) (nI a) (nI o) (nI l) co op sz) 0 0) := by
  obtain ⟨B, L, hag, hF, ⟨ha, hl, hnd, ho1, ho⟩, ⟨har, har2, hA, hA2, hdp⟩⟩ := hB
  have hn := B.2.1.1.1
  have han := kz_lt B.1 hk (by decide)
  have hm1 := beg_ar (fM := fM) (a := a) (o := o) (nd := nd) (oc := oc) (WT := WT) (so := so) (wh := wh) (oe := oe) (tw := tw) (th := th) (nx := nx) (tk := tk) (os := os) (wa := wa) (wf := wf) B har
  obtain ⟨L1, L2, L3, L4, L5⟩ := L
  have hvc := B.2.2.1.2
  rw [tG_0]
  unfold tGrammar_block tVariables_startBlock
  rw [b2S rfl, mkW_i9, L1, mkW_i8, B.2.2.1.1, mkW_b9]
  have Fg : FrC g (sI g 9 (nI vc)) := frc_sI (frc_refl g) (by omega)
  have T1 : TkC (sI g 9 (nI vc)) n K p V := tkc_keep B.1 Fg
  have hend : ∀ (u : St) (r q x : Int32), CBad g n r q u → (∃ b, b ≤ 12 ∧ x = nI b) → KB2 g n r q (b1 (tVariables_endBlock u x) (fun u5 => some ((0 : Int32), u5))) := by
    intro u r q x hu ⟨b, hb, hx⟩
    obtain ⟨v, hv, hv'⟩ := hu.2.2.2.2.2.2.1
    refine ⟨0, _, rfl, ?_⟩
    rw [hv', hx]
    exact cb_s9 (cb_s8 hu hv) hb
  by_cases h12 : o = 12
  · subst h12
    have hm : KM h n 2 2 (nI (p a)) (tModel_beginBlock (mkV h 0 (-1) (ftk n fM) (nI a) (nI 12) (nI nd) (nI oc) WT so wh oe tw th nx tk os wa wf)) := by
      unfold tModel_beginBlock
      rw [b1S (v_opens12 B.2.1 ha)]
      exact km21 (km_node (mb_sI (mb_V B (by decide) ha (by omega) (by omega)) (by omega)) (by omega)) fun x u b => km1 (km_begin b (by omega)) fun u b => kms b
    obtain ⟨m3, w3, w4⟩ := hm
    rw [w3] at hm0
    rw [b1S (w_open12 T1 ha hk)]
    have hcb : CBad g n 2 (nI (p a)) (mkW (sI g 9 (nI vc)) 2 (nI (p a)) (wn n p fC) (nI a) (nI 12) (nI l) co op sz) := ⟨frc_mkW Fg, rfl, rfl, by decide, ⟨B.1.1, B.1.2.1⟩, ⟨vc, hvc, B.2.2.1.1⟩, ⟨vc, hvc, rfl⟩, ⟨l, by omega, rfl⟩, B.2.2.2.2.2.2.2⟩
    obtain ⟨x', u, w1, w2⟩ := kb2 (kb_statements (d := d) (x := 0) (y := 0) hcb) fun _ u hu => kb12 (kb_closing (k := 125) hu (by decide)) fun u hu => hend u _ _ (nI sb) hu ⟨sb, L2, rfl⟩
    exact ⟨x', u, w1, Or.inr ⟨2, nI (p a), 1, m3, w2, st_one hm1.1 hm1.2 hm0, mb_mono w4 (by omega), by omega⟩⟩
  have ho' : o < 12 := by omega
  rw [v_beginBlock L3 B.2.2.2.2.2.1.1 (by omega) ho' (by omega)] at hm0
  rw [b1S (w_open T1 ha hk ho'), tG_15]
  unfold tGrammar_statements
  have Fh : FrM h (hBeg (sI h 39 (nI (dp + 1))) ar nd) := frm_sI (frm_sA (frm_sI (frm_refl h) (by omega)) (by omega)) (by omega)
  have B1 : Bs n K p V (sI g 9 (nI vc)) (hBeg (sI h 39 (nI (dp + 1))) ar nd) tv vc vm (ar + 1) ag := ⟨T1, tkm_keep (frm_same Fh) B.2.1, B.2.2.1, B.2.2.2.1, B.2.2.2.2.1, ⟨rfl, by omega⟩, ⟨vc, hvc, rfl⟩, B.2.2.2.2.2.2.2⟩
  have L1' : Lv (sI g 9 (nI vc)) (hBeg (sI h 39 (nI (dp + 1))) ar nd) vc vc (dp + 1) ag := by
    refine ⟨rfl, hvc, rfl, by omega, fun hg => ⟨Nat.le_refl _, fun k hk' => ?_⟩⟩
    obtain ⟨e, e1, e2⟩ := ((L5 hg).2 k hk').2
    show (h.2.2.1 32 k = nI (dp + 1) ↔ vc ≤ k) ∧ ∃ e, e ≤ dp + 1 ∧ h.2.2.1 32 k = nI e
    refine ⟨⟨fun hh => ?_, fun hh => by omega⟩, e, by omega, e2⟩
    rw [e2] at hh
    have := nI_inj (by omega) (by omega) hh
    omega
  have hBL : BL n K p V (sI g 9 (nI vc)) (hBeg (sI h 39 (nI (dp + 1))) ar nd) (mkW (sI g 9 (nI vc)) 0 (-1) (wn n p fC) (nI (a + 1)) (nI (o + 1)) (nI l) co op sz) (mkV (hBeg (sI h 39 (nI (dp + 1))) ar nd) 0 (-1) (ftk n fM) (nI (a + 1)) (nI (o + 1)) (nI (nd + 1)) (nI oc) WT (upd so nd 10) (upd wh nd 0) (upd oe nd (-1)) (upd tw nd (-1)) (upd th nd (-1)) (upd nx nd (-1)) (upd tk nd (nI (a + 1))) os wa wf) (mkW (sI g 9 (nI vc)) 0 (-1) (wn n p fC) (nI (a + 1)) (nI (o + 1)) (nI l) co op sz) fC (a + 1) (o + 1) l nd vc vc (dp + 1) (ar + 1) ag 0 (a + 1) := by
    sorry
  sorry
end SY
