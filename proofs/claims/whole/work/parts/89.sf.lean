/-! An element first; then all statements that begin with a name. -/
section SF
variable {n : Nat} {K : Nat → Int32} {p : Nat → Nat} {V : Nat → Int64} {g h : St} {tv : Nat → Nat} {vc vm ar sb dp A : Nat} {ag nb : Prop} {co op sz so wh oe tw th nx tk os wa wf : Nat → Int32} {fC fM a o l nd d oc : Nat} {WT : Int32}
theorem stm_elem (hB : Beg n K p V g h (mkV h 0 (-1) (ftk n fM) (nI a) (nI o) (nI nd) (nI oc) WT so wh oe tw th nx tk os wa wf) tv fC fM a o l nd vc vm sb dp ar A ag) (hoc : oc ≤ 40) (hd : 70 ≤ d + 5 * o) (hd2 : 10 ≤ d) (hk : K a = 1) (hk1 : K (a + 1) = 91)
    (hm0 : tModel_statement (mkV h 0 (-1) (ftk n fM) (nI a) (nI o) (nI nd) (nI oc) WT so wh oe tw th nx tk os wa wf) = tModel_named (mkV h 0 (-1) (ftk n fM) (nI a) (nI o) (nI nd) (nI oc) WT so wh oe tw th nx tk os wa wf)) :
    SRes n K p V g h (mkW g 0 (-1) (wn n p fC) (nI a) (nI o) (nI l) co op sz) (mkV h 0 (-1) (ftk n fM) (nI a) (nI o) (nI nd) (nI oc) WT so wh oe tw th nx tk os wa wf) fC a o l nd vc sb dp ar ag nb (tG (d + 2) 3 (mkW g 0 (-1) (wn n p fC) (nI a) (nI o) (nI l) co op sz) (nI a) 0) := by
  obtain ⟨B, L, hag, hF, ⟨ha, hl, hnd, ho1, ho⟩, ⟨har, har2, hA, hA2, hdp⟩⟩ := hB
  have hn := B.2.1.1.1
  have hvm := B.2.2.2.1.2.1
  have ha1 := kz_lt B.1 hk1 (by decide)
  have hm1 := beg_ar (fM := fM) (a := a) (o := o) (nd := nd) (oc := oc) (WT := WT) (so := so) (wh := wh) (oe := oe) (tw := tw) (th := th) (nx := nx) (tk := tk) (os := os) (wa := wa) (wf := wf) B har
  obtain ⟨dd, hdd⟩ : ∃ j, d = j + 2 := ⟨d - 2, by omega⟩
  unfold tModel_named at hm0
  rw [mkV_i31, nI_suc, b1S (v_is B.2.1 (by omega) wd61), if_neg (ki hk1 (by decide)), if_pos rfl, b1S (v_is B.2.1 (by omega) wd91), if_pos hk1, if_neg (by decide), mkV_s31] at hm0
  rw [tG_3]
  unfold tGrammar_elementFirst
  rw [tG_2]
  unfold tGrammar_element
  rw [mkW_i6, b1S (w_hide B.1 B.2.2.1.1 B.2.2.1.2 (by omega)), b1S (w_pass B.1 ha hk)]
  by_cases h12 : o = 12
  · subst h12
    have b := mb_V (r := 2) (q := nI (p (a + 1))) (ft := ftk n fM) (o := nI 13) (wt := WT) (so := so) (wh := wh) (oe := oe) (tw := tw) (th := th) (nx := nx) (tk := tk) (os := os) (wa := wa) (wf := wf) B (by decide) (show a + 1 ≤ n by omega) (show nd ≤ 400 by omega) (show oc ≤ 40 by omega)
    rw [b1S (v_opens12 B.2.1 (by omega)), mkV_i29, if_neg (by decide)] at hm0
    obtain ⟨m', e1, e2⟩ := km_named2 (N := 1998) (x1 := nI a) (x2 := 0) B.2.1 b
    rw [e1] at hm0
    rw [b1S (w_open12 B.1 (by omega) hk1)]
    subst hdd
    have hkb : KB2 g n 2 (nI (p (a + 1))) _ := kb2 (kb2 (kb_value1 (d := dd) (y := 0) (cb_mkW (r := 2) (q := nI (p (a + 1))) (w := wn n p (if fnd (g.2.2.2 1) vc (V a) = -1 then fC else min fC a)) (a := nI (a + 1)) (o := nI 12) (co := co) (op := op) (sz := sz) B (by decide) (show l ≤ 440 by omega))) fun _ u hu => kb12 (kb_closing (k := 93) hu (by decide)) fun u hu => kbs2 (x := 0) hu) fun _ u hu => kb_elemF (d := dd) (nm := nI a) hu
    obtain ⟨x', u, w1, w2⟩ := hkb
    exact ⟨x', u, w1, Or.inr ⟨2, nI (p (a + 1)), 1, m', w2, st_one hm1.1 hm1.2 hm0, mb_mono e2 (by omega), by omega⟩⟩
  have ho' : o < 12 := by omega
  rw [b1S (v_opens ho'), mkV_i29, if_pos rfl] at hm0
  rw [b1S (w_open B.1 (by omega) hk1 ho')]
  obtain ⟨x, c', e1, e2⟩ := value_both (co := co) (op := op) (sz := sz) (so := so) (wh := wh) (oe := oe) (tw := tw) (th := th) (nx := nx) (tk := tk) (os := os) (wa := wa) (wf := wf) (fC := if fnd (g.2.2.2 1) vc (V a) = -1 then fC else min fC a) (fM := fM) (a := a + 2) (o := o + 1) (l := l) (nd := nd) (d := d) (OC := nI oc) (WT := WT) B (by omega) hd2 (by omega) (by omega) (by omega) (by omega) (by omega) (by rcases hag with e | e; exact Or.inl e; right; split <;> omega)
  rw [b2S e1, b2_b1]
  rcases e2 with ⟨a', l', nd', fC', fM', N, m2, ⟨co', op', sz', rfl⟩, ⟨so', wh', oe', tw', th', nx', tk', os', wa', wf', rfl⟩, e3, e4, ⟨j1, j2, j3, j4, j5, j6, j7⟩, e5, e6, e7, e8, e9⟩ | ⟨r, q, m', e3, e4, e5⟩
  · have hfl : (if fnd (g.2.2.2 1) vc (V a) = -1 then fC else min fC a) ≤ fC := by split <;> omega
    rw [b2S e3, named_L2 1999, b1S (v_sees B.2.1 j2 wd93)] at hm0
    by_cases h93 : K a' = 93
    · have ha' := kz_lt B.1 h93 (by decide)
      rw [if_pos h93, if_neg (by decide), named_L3 1998, mkV_i29, if_pos rfl, mkV_i32, mkV_i31, nI_pred, nI_suc, mkV_s32, mkV_s31, b2S (v_element B.2.1 B.2.2.2.1 (by omega) hk (by omega)), mkV_i31] at hm0
      rw [b1S (w_closing B.1 j2 h93)]
      refine stm_elem2 (co := co') (op := op') (sz := sz') (a' := a') (l1 := l') (n1 := nd') (f1 := fC') (m1f := fM') (N1 := N) (oc := 1) (WT := nI 0) B L hag hF hl hnd ho1 ho' hd hd2 hk hk1 ⟨by omega, ha', by omega, by omega, by omega, by omega, by omega⟩ (by omega) e5 hm1 (fun i hi => ne_trans (e6 i hi) ⟨upd_n (by omega), upd_n (by omega), upd_n (by omega), upd_n (by omega), (upd_n (by omega)).trans (upd_n (by omega)), upd_n (by omega), (upd_n (by omega)).trans (upd_n (by omega))⟩) ⟨upd_e, upd_e.trans ?_, upd_e, upd_e, upd_e⟩ (fun C M hC hM => vq_keep e7 hC (fun i h1 h2 => ?_) (Nat.le_refl _)) ?_ hm0
      · rfl
      · obtain ⟨q1, q2, q3, q4, q5, q6, q7⟩ := hM i h1 h2
        exact ⟨q1.trans (upd_n (by omega)), q2.trans (upd_n (by omega)), q3.trans (upd_n (by omega)), q4.trans (upd_n (by omega)), q5.trans ((upd_n (by omega)).trans (upd_n (by omega))), q6.trans ((upd_n (by omega)).trans (upd_n (by omega))), fun hi => (q7 hi).trans (upd_n (by omega))⟩
      · refine bi_comp (bi_hide (hc := fnd (g.2.2.2 1) vc (V a)) (hm := fnd (fun i => V (tv i)) vm (V a)) (fun hg => bs_fnd B hg)) e8 (by omega) fun t => ?_
        rw [nh_app (s := a) (hm := fnd (fun i => V (tv i)) vm (V a)) (by omega) (Or.inl upd_e) upd_e upd_e (by omega) (fnd_iff (by omega))]
        exact or_congr Iff.rfl (nh_congr fun i h1 h2 => ⟨upd_n (by omega), (upd_n (by omega)).trans (upd_n (by omega)), (upd_n (by omega)).trans (upd_n (by omega))⟩)
    · have b := mb_V (r := 3) (q := nI (p a')) (ft := ftk n fM') (o := nI (o + 1)) (wt := nI 0) (so := so') (wh := wh') (oe := oe') (tw := tw') (th := th') (nx := nx') (tk := tk') (os := os') (wa := wa') (wf := wf') B (by decide) j2 (show nd' ≤ 400 by omega) (show 1 ≤ 40 by omega)
      rw [if_neg h93, if_pos rfl, b1S (v_spoil B.2.1 j2)] at hm0
      obtain ⟨m', w1, w2⟩ := km_named3 (N := 1998) (x1 := nI a) (x2 := nI N) b
      rw [w1] at hm0
      rw [b1S (w_closingN B.1 j2 h93)]
      subst hdd
      obtain ⟨x', u, w3, w4⟩ := kb_elemF (d := dd) (nm := nI a) (cb_mkW (r := 3) (q := nI (p a')) (w := wn n p fC') (a := nI a') (o := nI o) (co := co') (op := op') (sz := sz') B (by decide) (show l' ≤ 440 by omega))
      exact ⟨x', u, w3, Or.inr ⟨3, nI (p a'), 1, m', w4, st_one hm1.1 hm1.2 hm0, mb_mono w2 (by omega), by omega⟩⟩
  · rw [b2S e4] at hm0
    obtain ⟨m2, w1, w2⟩ := km_named2 (N := 1998) (x1 := nI a) (x2 := 0) B.2.1 e5
    rw [w1] at hm0
    subst hdd
    have hkb : KB2 g n r q (b1 (tCursor_passClosing c' 93) _) := kb12 (kb_closing (k := 93) e3 (by decide)) fun u hu => kb_elemF (d := dd) (nm := nI a) hu
    obtain ⟨x', u, w3, w4⟩ := hkb
    exact ⟨x', u, w3, Or.inr ⟨r, q, 1, m2, w4, st_one hm1.1 hm1.2 hm0, mb_mono w2 (by omega), by omega⟩⟩
theorem stm_named (hB : Beg n K p V g h (mkV h 0 (-1) (ftk n fM) (nI a) (nI o) (nI nd) (nI oc) WT so wh oe tw th nx tk os wa wf) tv fC fM a o l nd vc vm sb dp ar A ag) (hoc : oc ≤ 40) (hd : 70 ≤ d + 5 * o) (hd2 : 10 ≤ d) (hk : K a = 1)
    (hm0 : tModel_statement (mkV h 0 (-1) (ftk n fM) (nI a) (nI o) (nI nd) (nI oc) WT so wh oe tw th nx tk os wa wf) = tModel_named (mkV h 0 (-1) (ftk n fM) (nI a) (nI o) (nI nd) (nI oc) WT so wh oe tw th nx tk os wa wf)) :
    SRes n K p V g h (mkW g 0 (-1) (wn n p fC) (nI a) (nI o) (nI l) co op sz) (mkV h 0 (-1) (ftk n fM) (nI a) (nI o) (nI nd) (nI oc) WT so wh oe tw th nx tk os wa wf) fC a o l nd vc sb dp ar ag nb (tG (d + 3) 6 (mkW g 0 (-1) (wn n p fC) (nI a) (nI o) (nI l) co op sz) (nI a) 0) := by
  have B := hB.1
  have ha : a ≤ n := hB.2.2.2.2.1.1
  rw [tG_6]
  unfold tGrammar_namedStatement
  rw [b1S (w_next B.1 ha)]
  by_cases h61 : K (a + 1) = 61
  · rw [if_pos h61]
    exact stm_set (d := d + 1) hB (by omega) (by omega) hk h61 hm0
  rw [if_neg h61, b1S (w_next B.1 ha)]
  by_cases h91 : K (a + 1) = 91
  · rw [if_pos h91]
    obtain ⟨x, c', e1, e2⟩ := stm_elem (d := d) (co := co) (op := op) (sz := sz) hB hoc hd hd2 hk h91 hm0
    exact ⟨0, c', by rw [b2S e1], e2⟩
  · rw [if_neg h91]
    have han := kz_lt B.1 hk (by decide)
    unfold tModel_named at hm0
    rw [mkV_i31, nI_suc, b1S (v_is B.2.1 (by omega) wd61), if_neg h61, if_pos rfl, b1S (v_is B.2.1 (by omega) wd91), if_neg h91, if_pos rfl, b1_id] at hm0
    exact stm_val (d := d + 1) hB (by omega) (by omega) (Nat.le_refl _) ha (Or.inr ⟨rfl, rfl⟩) hm0
end SF
