/-! While; if; else. -/
section SD
variable {n : Nat} {K : Nat → Int32} {p : Nat → Nat} {V : Nat → Int64} {g h : St} {tv : Nat → Nat} {vc vm ar sb dp A : Nat} {ag nb : Prop} {co op sz so wh oe tw th nx tk os wa wf : Nat → Int32} {fC fM a o l nd d oc : Nat} {WT : Int32}
/-- the inner statement was refused -/
theorem sbad_in {m mA c : St} {a1 : Nat} {h' : St} (e : FrM h h') (hm1 : m.1 29 = 0 ∧ ¬ m.1 42 ≤ 0) (hm0 : tModel_statement m = some mA) (ha : a < a1) {r q : Int32} {j : Nat} {m' : St} (hb : CBad g n r q c) (h2 : StSteps j mA m') (h3 : MBad h' n 10 r q m') (h4 : j + a1 ≤ n + 5) : SBad n g h m c a :=
  ⟨r, q, 1 + j, m', hb, st_trans (st_one hm1.1 hm1.2 hm0) h2, mb_base e h3, by omega⟩
theorem stm_while (hB : Beg n K p V g h (mkV h 0 (-1) (ftk n fM) (nI a) (nI o) (nI nd) (nI oc) WT so wh oe tw th nx tk os wa wf) tv fC fM a o l nd vc vm sb dp ar A ag) (hStP : o < 12 → StP n K p V (d + 4) (o + 1)) (hoc : oc ≤ 40) (hd : 65 ≤ d + 4 + 5 * o) (hd2 : 10 ≤ d + 4) (hk : K a = 6)
    (hm0 : tModel_statement (mkV h 0 (-1) (ftk n fM) (nI a) (nI o) (nI nd) (nI oc) WT so wh oe tw th nx tk os wa wf) = tModel_conditional (mkV h 0 (-1) (ftk n fM) (nI a) (nI o) (nI nd) (nI oc) WT so wh oe tw th nx tk os wa wf) 14) :
    SRes n K p V g h (mkW g 0 (-1) (wn n p fC) (nI a) (nI o) (nI l) co op sz) (mkV h 0 (-1) (ftk n fM) (nI a) (nI o) (nI nd) (nI oc) WT so wh oe tw th nx tk os wa wf) fC a o l nd vc sb dp ar ag nb (tG (d + 5) 1 (mkW g 0 (-1) (wn n p fC) (nI a) (nI o) (nI l) co op sz) 6 0) := by
  have hB' := hB
  obtain ⟨B, L, hag, hF, ⟨ha, hl, hnd, ho1, ho⟩, ⟨har, har2, hA, hA2, hdp⟩⟩ := hB
  have hn := B.2.1.1.1
  have han := kz_lt B.1 hk (by decide)
  have hm1 := beg_ar (fM := fM) (a := a) (o := o) (nd := nd) (oc := oc) (WT := WT) (so := so) (wh := wh) (oe := oe) (tw := tw) (th := th) (nx := nx) (tk := tk) (os := os) (wa := wa) (wf := wf) B har
  rw [tG_1]
  unfold tGrammar_conditional
  rw [if_pos rfl, b1S (w_add (by omega)), mkW_i13]
  rcases cond_mid (F := fun _ _ => none) (l0 := l + 1) (kk := 14) (w := 6) (x2 := nI l) (co := upd co l 20) (op := upd op l 0) (sz := upd sz l 0) (d := d) hB' hoc hd hd2 (by omega) hk (by decide) (Or.inr rfl) hm0 with ⟨u8, e1, hmid⟩ | ⟨x, c', e1, e2⟩
  · obtain ⟨a', l1, n1, f1, m1f, N1, co1, op1, sz1, so1, wh1, oe1, tw1, th1, nx1, tk1, os1, wa1, wf1, rfl, hmA, hBg, ⟨n20, n22, n23, n24, n25⟩, hc17, ⟨j1, j2, j3, j4, j5, j6, j7, ho', j8⟩, hFW1, hNE1, hQ⟩ := hmid
    rw [e1]
    obtain ⟨x, c2, e2, hres⟩ := hStP ho' g (hBeg h ar n1) _ _ tv f1 m1f (a' + 1) (l1 + 1) (n1 + 1) vc vm sb dp (ar + 1) n1 ag True 0 ⟨co1, op1, sz1, rfl⟩ ⟨1, 0, by omega, so1, wh1, oe1, tw1, th1, nx1, tk1, os1, wa1, wf1, rfl⟩ hBg ⟨fun _ e => absurd (n20.symm.trans e) (by decide), fun _ => rfl⟩ (fun _ e => absurd (n20.symm.trans e) (by decide)) (fun e => absurd (n20.symm.trans e) (by decide))
    rw [b2S e2, mkW_i13, nI_pred]
    rcases hres with ⟨a2, l2, n2, f2, m2f, N2, v2, vm2, j, Fu, ag2, g2, h2, mB1, mB2, tv2, ⟨co2, op2, sz2, rfl⟩, ⟨oc2, wt2, hoc2, so2, wh2, oe2, tw2, th2, nx2, tk2, os2, wa2, wf2, rfl⟩, I3, I4, ⟨I5, I5'⟩, I6, I7, I8, ⟨I9, I9'⟩, I10, I11, ⟨J1, J2, J3, J4, J5, J6, J7, J8⟩, I12, I13, I14, I15, I16⟩ | ⟨r, q, j, m', hb1, hb2, hb3, hb4⟩
    · obtain ⟨F', rfl⟩ : ∃ i, Fu = i + 9 := ⟨Fu - 9, by omega⟩
      obtain ⟨s20, s21, s22, s23, s24, s25, s26⟩ := I14 n1 (by omega)
      replace s20 : so2 n1 = 14 := s20.trans n20
      replace s22 : oe2 n1 = nI N1 := s22.trans n22
      replace s25 : nx2 n1 = -1 := s25.trans n25
      have h36 : h2.2.2.1 36 ar = nI n1 := (I8.2.2.2.1 ar (by omega)).trans (show upd (h.2.2.1 36) ar (nI n1) ar = nI n1 from upd_e)
      rw [wh_while I6.2.2.2.2.2.1.1 (by omega) h36 (by omega) s20] at I5
      unfold condT
      rw [b1S w_close, if_pos rfl, b1S (w_add (by omega)), b1S (w_land (by omega) (by omega))]
      refine ⟨0, _, rfl, Or.inl ⟨a2, l2 + 1, n2, f2, m2f, n1, v2, vm2, 1 + j, F', ag2, g2, _, mB1, _, tv2, ⟨_, _, _, rfl⟩, ⟨oc2, wt2, hoc2, _, _, _, _, _, _, _, _, _, _, rfl⟩, st_trans (st_one hm1.1 hm1.2 hmA) I3, I4, ⟨I5, by omega⟩, bs_end I6, I7, frv_cond I8, ⟨I9, fun _ => I9' trivial⟩, I10, by omega, ⟨by omega, by omega, by omega, by omega, by omega, by omega, by omega, by omega⟩, s25, fun i hi => ?_, fun i hi => ?_, ?_, ?_⟩⟩
      · obtain ⟨q1, q2, q3⟩ := hFW1 i (by omega)
        obtain ⟨r1, r2, r3⟩ := I13 i (by omega)
        exact ⟨(upd_n (by omega)).trans (r1.trans (q1.trans (upd_n (by omega)))), ((upd_n (by omega)).trans (upd_n (by omega))).trans (r2.trans (q2.trans (upd_n (by omega)))), (upd_n (by omega)).trans (r3.trans (q3.trans (upd_n (by omega))))⟩
      · exact ne_trans (ne_trans (hNE1 i hi) (I14 i (by omega))) ⟨rfl, rfl, rfl, upd_n (by omega), rfl, rfl, rfl⟩
      · refine sq_while (hQ _ _ (fun i _ _ => ⟨rfl, rfl, rfl⟩) (fun i _ _ => ⟨rfl, rfl, rfl, rfl, rfl, rfl, fun _ => rfl⟩)) I15 (fun hf => I9' trivial hf) (by omega) ho1 ho' j1 (by omega) (by omega) B.2.2.1.2 (by omega) (by omega) ⟨j5, j6⟩ ⟨J5, J6⟩ (fun i x1 x2 => ?_) (fun i x1 x2 => ⟨upd_n (by omega), (upd_n (by omega)).trans (upd_n (by omega)), upd_n (by omega)⟩) (fun i x1 x2 => ?_) (fun i x1 x2 => ⟨rfl, rfl, rfl, upd_n (by omega), rfl, rfl, fun _ => rfl⟩) ⟨s20, s22, upd_e⟩ ⟨?_, ?_, upd_e, upd_e, ?_⟩
        · obtain ⟨r1, r2, r3⟩ := I13 i (by omega)
          exact ⟨(upd_n (by omega)).trans r1, ((upd_n (by omega)).trans (upd_n (by omega))).trans r2, (upd_n (by omega)).trans r3⟩
        · obtain ⟨q1, q2, q3, q4, q5, q6, q7⟩ := I14 i (by omega)
          exact ⟨q1, q2, q3, (upd_n (by omega)).trans q4, q5, q7, fun _ => q6⟩
        · show upd co2 l2 16 l = 20
          rw [upd_n (by omega)]
          exact ((I13 l (by omega)).1).trans (((hFW1 l (by omega)).1).trans upd_e)
        · show upd co2 l2 16 l1 = 17
          rw [upd_n (by omega)]
          exact ((I13 l1 (by omega)).1).trans hc17
        · show upd (upd op2 l2 (nI l)) l1 (nI (l2 + 1)) l2 = nI l
          rw [upd_n (by omega), upd_e]
      · exact I16
    · obtain ⟨x', u, w1, w2⟩ := kb_condT (d := d + 4) (w := 6) (x2 := nI l) (r8 := nI l1) hb1
      exact ⟨x', u, w1, Or.inr (sbad_in frm_beg hm1 hmA (by omega) w2 hb2 hb3 hb4)⟩
  · exact ⟨x, c', e1, Or.inr e2⟩
theorem kb_else {c : St} {r q x : Int32} (hb : CBad g n r q c) : KB2 g n r q (tG (d + 5) 10 c x 0) := by
  rw [tG_10]
  unfold tGrammar_otherwise
  exact kb12 (kb_open hb (by decide)) fun u hu => kb2 (kb_addJump hu) fun _ u hu => kb12 (kb_land hu) fun u hu => kb2 (kb_statement hu) fun _ u hu => kb12 (kb_close hu) fun u hu => kbs2 hu
theorem stm_if (hB : Beg n K p V g h (mkV h 0 (-1) (ftk n fM) (nI a) (nI o) (nI nd) (nI oc) WT so wh oe tw th nx tk os wa wf) tv fC fM a o l nd vc vm sb dp ar A ag) (hStP : o < 12 → StP n K p V (d + 5) (o + 1)) (hStP2 : o < 12 → StP n K p V (d + 4) (o + 1)) (hoc : oc ≤ 40) (hd : 65 ≤ d + 4 + 5 * o) (hd2 : 10 ≤ d + 4) (hk : K a = 4)
    (hm0 : tModel_statement (mkV h 0 (-1) (ftk n fM) (nI a) (nI o) (nI nd) (nI oc) WT so wh oe tw th nx tk os wa wf) = tModel_conditional (mkV h 0 (-1) (ftk n fM) (nI a) (nI o) (nI nd) (nI oc) WT so wh oe tw th nx tk os wa wf) 13) :
    SRes n K p V g h (mkW g 0 (-1) (wn n p fC) (nI a) (nI o) (nI l) co op sz) (mkV h 0 (-1) (ftk n fM) (nI a) (nI o) (nI nd) (nI oc) WT so wh oe tw th nx tk os wa wf) fC a o l nd vc sb dp ar ag nb (tG (d + 6) 1 (mkW g 0 (-1) (wn n p fC) (nI a) (nI o) (nI l) co op sz) 4 0) := by
  have hB' := hB
  obtain ⟨B, L, hag, hF, ⟨ha, hl, hnd, ho1, ho⟩, ⟨har, har2, hA, hA2, hdp⟩⟩ := hB
  have hn := B.2.1.1.1
  have han := kz_lt B.1 hk (by decide)
  have hm1 := beg_ar (fM := fM) (a := a) (o := o) (nd := nd) (oc := oc) (WT := WT) (so := so) (wh := wh) (oe := oe) (tw := tw) (th := th) (nx := nx) (tk := tk) (os := os) (wa := wa) (wf := wf) B har
  rw [tG_1]
  unfold tGrammar_conditional
  rw [if_neg (by decide), mkW_i13]
  rcases cond_mid (F := fun _ _ => none) (l0 := l) (kk := 13) (w := 4) (x2 := nI l) (co := co) (op := op) (sz := sz) (d := d + 1) hB' hoc (by omega) (by omega) (by omega) hk (by decide) (Or.inl rfl) hm0 with ⟨u8, e1, hmid⟩ | ⟨x, c', e1, e2⟩
  · obtain ⟨a', l1, n1, f1, m1f, N1, co1, op1, sz1, so1, wh1, oe1, tw1, th1, nx1, tk1, os1, wa1, wf1, rfl, hmA, hBg, ⟨n20, n22, n23, n24, n25⟩, hc17, ⟨j1, j2, j3, j4, j5, j6, j7, ho', j8⟩, hFW1, hNE1, hQ⟩ := hmid
    rw [e1]
    obtain ⟨x, c2, e2, hres⟩ := hStP ho' g (hBeg h ar n1) _ _ tv f1 m1f (a' + 1) (l1 + 1) (n1 + 1) vc vm sb dp (ar + 1) n1 ag True 0 ⟨co1, op1, sz1, rfl⟩ ⟨1, 0, by omega, so1, wh1, oe1, tw1, th1, nx1, tk1, os1, wa1, wf1, rfl⟩ hBg ⟨fun _ e => absurd (n20.symm.trans e) (by decide), fun _ => rfl⟩ (fun _ e => absurd (n20.symm.trans e) (by decide)) (fun e => absurd (n20.symm.trans e) (by decide))
    rw [b2S e2, mkW_i13, nI_pred]
    rcases hres with ⟨a2, l2, n2, f2, m2f, N2, v2, vm2, j, Fu, ag2, g2, h2, mB1, mB2, tv2, ⟨co2, op2, sz2, rfl⟩, ⟨oc2, wt2, hoc2, so2, wh2, oe2, tw2, th2, nx2, tk2, os2, wa2, wf2, rfl⟩, I3, I4, ⟨I5, I5'⟩, I6, I7, I8, ⟨I9, I9'⟩, I10, I11, ⟨J1, J2, J3, J4, J5, J6, J7, J8⟩, I12, I13, I14, I15, I16⟩ | ⟨r, q, j, m', hb1, hb2, hb3, hb4⟩
    · obtain ⟨F', rfl⟩ : ∃ i, Fu = i + 8 := ⟨Fu - 8, by omega⟩
      obtain ⟨s20, s21, s22, s23, s24, s25, s26⟩ := I14 n1 (by omega)
      replace s20 : so2 n1 = 13 := s20.trans n20
      replace s22 : oe2 n1 = nI N1 := s22.trans n22
      replace s23 : tw2 n1 = -1 := s23.trans n23
      replace s24 : th2 n1 = -1 := s24.trans n24
      replace s25 : nx2 n1 = -1 := s25.trans n25
      have h36 : h2.2.2.1 36 ar = nI n1 := (I8.2.2.2.1 ar (by omega)).trans (show upd (h.2.2.1 36) ar (nI n1) ar = nI n1 from upd_e)
      have hq1 := hQ _ _ (fun i _ _ => ⟨rfl, rfl, rfl⟩) (fun i _ _ => ⟨rfl, rfl, rfl, rfl, rfl, rfl, fun _ => rfl⟩)
      unfold condT
      rw [b1S w_close, if_neg (by decide), b1S (w_kind I6.1 (by omega))]
      by_cases h5 : K a2 = 5
      · have ha2 := kz_lt I6.1 h5 (by decide)
        rw [wh_else I6.2.1 (by omega) I6.2.2.2.2.2.1.1 (by omega) h36 (by omega) s20 s23 h5 ho'] at I5
        rw [if_pos h5]
        rw [tG_10]
        unfold tGrammar_otherwise
        rw [b1S (w_open I6.1 (by omega) h5 ho'), b2S (w_addJump (by omega)), b1S (w_land (by omega) (by omega))]
        have hBeg2 : Beg n K p V g2 h2 (mkV h2 0 (-1) (ftk n m2f) (nI (a2 + 1)) (nI (o + 1)) (nI n2) (nI oc2) (nI wt2) so2 wh2 oe2 (upd tw2 n1 (nI N2)) th2 nx2 tk2 os2 wa2 wf2) tv2 f2 m2f (a2 + 1) (o + 1) (l2 + 1) n2 v2 vm2 sb dp (ar + 1) n1 ag2 := ⟨I6, I7, by rcases I10 with e | e; exact Or.inl e; right; omega, I16, ⟨by omega, by omega, by omega, by omega, by omega⟩, ⟨by omega, by omega, h36, by omega, by omega⟩⟩
        obtain ⟨x3, c3, e3, hres3⟩ := hStP2 ho' g2 h2 _ _ tv2 f2 m2f (a2 + 1) (l2 + 1) n2 v2 vm2 sb dp (ar + 1) n1 ag2 True 0 ⟨_, _, _, rfl⟩ ⟨oc2, wt2, hoc2, _, _, _, _, _, _, _, _, _, _, rfl⟩ hBeg2 ⟨fun _ e => absurd (s20.symm.trans e) (by decide), fun _ => rfl⟩ (fun _ e => absurd (s20.symm.trans e) (by decide)) (fun e => absurd (s20.symm.trans e) (by decide))
        rw [b2S e3]
        rcases hres3 with ⟨a3, l3, n3, f3, m3f, N3, v3, vm3, j', Fu', ag3, g3, h3, mD1, mD2, tv3, ⟨co3, op3, sz3, rfl⟩, ⟨oc3, wt3, hoc3, so3, wh3, oe3, tw3, th3, nx3, tk3, os3, wa3, wf3, rfl⟩, Q3, Q4, ⟨Q5, Q5'⟩, Q6, Q7, Q8, ⟨Q9, Q9'⟩, Q10, Q11, ⟨P1, P2, P3, P4, P5, P6, P7, P8⟩, Q12, Q13, Q14, Q15, Q16⟩ | ⟨r, q, j', m', hb1, hb2, hb3, hb4⟩
        · obtain ⟨F2, rfl⟩ : ∃ i, Fu' = i + 8 := ⟨Fu' - 8, by omega⟩
          obtain ⟨t20, t21, t22, t23, t24, t25, t26⟩ := Q14 n1 (by omega)
          replace t20 : so3 n1 = 13 := t20.trans s20
          replace t22 : oe3 n1 = nI N1 := t22.trans s22
          replace t23 : tw3 n1 = nI N2 := t23.trans upd_e
          replace t25 : nx3 n1 = -1 := t25.trans s25
          have h36' : h3.2.2.1 36 ar = nI n1 := (Q8.2.2.2.1 ar (by omega)).trans h36
          rw [wh_if2 Q6.2.2.2.2.2.1.1 (by omega) h36' (by omega) t20 (by rw [t23]; exact nI_le0 (by omega))] at Q5
          rw [b1S w_close, b2S rfl, b1S (w_land (by omega) (by omega))]
          have Fv : FrV g (hBeg h ar n1) g3 h3 vc (ar + 1) ag3 := frv_trans I8 Q8 (fun hg => (I9 (Q9 hg).1).2) (Nat.le_refl _) (fun hg => (Q9 hg).1)
          refine ⟨0, _, rfl, Or.inl ⟨a3, l3, n3, f3, m3f, n1, v3, vm3, 1 + j + 1 + j', F2, ag3, g3, _, mD1, _, tv3, ⟨_, _, _, rfl⟩, ⟨oc3, wt3, hoc3, _, _, _, _, _, _, _, _, _, _, rfl⟩, st_trans (st_trans (st_trans (st_one hm1.1 hm1.2 hmA) I3) (st_one I4.1 I4.2 I5)) Q3, Q4, ⟨Q5, by omega⟩, bs_end Q6, Q7, frv_cond Fv, ⟨fun hg => ⟨(I9 (Q9 hg).1).1, by have e1 := (Q9 hg).2; have e2 := (I9 (Q9 hg).1).2; omega⟩, fun _ hf => by rw [Q9' trivial hf, I9' trivial (by omega)]⟩, Q10, by omega, ⟨by omega, by omega, by omega, by omega, by omega, by omega, by omega, by omega⟩, t25, fun i hi => ?_, fun i hi => ?_, ?_, ?_⟩⟩
          · obtain ⟨q1, q2, q3⟩ := hFW1 i (by omega)
            obtain ⟨r1, r2, r3⟩ := I13 i (by omega)
            obtain ⟨y1, y2, y3⟩ := Q13 i (by omega)
            exact ⟨y1.trans ((upd_n (by omega)).trans (r1.trans q1)), (upd_n (by omega)).trans (y2.trans (((upd_n (by omega)).trans (upd_n (by omega))).trans (r2.trans q2))), y3.trans ((upd_n (by omega)).trans (r3.trans q3))⟩
          · obtain ⟨q1, q2, q3, q4, q5, q6, q7⟩ := ne_trans (hNE1 i hi) (I14 i (by omega))
            obtain ⟨y1, y2, y3, y4, y5, y6, y7⟩ := Q14 i (by omega)
            exact ⟨y1.trans q1, y2.trans q2, y3.trans q3, y4.trans ((upd_n (by omega)).trans q4), (upd_n (by omega)).trans (y5.trans q5), y6.trans q6, y7.trans q7⟩
          · refine sq_else hq1 I15 Q15 (fun hf => I9' trivial hf) (fun hf => Q9' trivial hf) (by omega) Q11 ho1 ho' j1 (by omega) (by omega) B.2.2.1.2 j3 (by omega) (by omega) ⟨j5, j6⟩ ⟨J5, J6⟩ ⟨P5, P6⟩ (fun i x1 x2 => ?_) (fun i x1 x2 => ?_) (fun i x1 x2 => ⟨rfl, upd_n (by omega), rfl⟩) (fun i x1 x2 => ?_) (fun i x1 x2 => ?_) (fun i x1 x2 => ⟨rfl, rfl, rfl, rfl, upd_n (by omega), rfl, fun _ => rfl⟩) ⟨t20, t22, t23, upd_e⟩ ⟨?_, ?_, ?_, upd_e⟩
            · obtain ⟨r1, r2, r3⟩ := I13 i (by omega)
              obtain ⟨y1, y2, y3⟩ := Q13 i (by omega)
              exact ⟨y1.trans ((upd_n (by omega)).trans r1), (upd_n (by omega)).trans (y2.trans (((upd_n (by omega)).trans (upd_n (by omega))).trans r2)), y3.trans ((upd_n (by omega)).trans r3)⟩
            · obtain ⟨y1, y2, y3⟩ := Q13 i (by omega)
              exact ⟨y1.trans (upd_n (by omega)), (upd_n (by omega)).trans (y2.trans ((upd_n (by omega)).trans (upd_n (by omega)))), y3.trans (upd_n (by omega))⟩
            · obtain ⟨q1, q2, q3, q4, q5, q6, q7⟩ := I14 i (by omega)
              obtain ⟨y1, y2, y3, y4, y5, y6, y7⟩ := Q14 i (by omega)
              exact ⟨y1.trans q1, y2.trans q2, y3.trans q3, y4.trans ((upd_n (by omega)).trans q4), (upd_n (by omega)).trans (y5.trans q5), y7.trans q7, fun _ => y6.trans q6⟩
            · obtain ⟨y1, y2, y3, y4, y5, y6, y7⟩ := Q14 i (by omega)
              exact ⟨y1, y2, y3, y4.trans (upd_n (by omega)), (upd_n (by omega)).trans y5, y7, fun _ => y6⟩
            · exact ((Q13 l1 (by omega)).1).trans ((upd_n (by omega)).trans (((I13 l1 (by omega)).1).trans hc17))
            · show upd op3 l2 (nI l3) l1 = nI (l2 + 1)
              rw [upd_n (by omega)]
              exact ((Q13 l1 (by omega)).2.1).trans upd_e
            · exact ((Q13 l2 (by omega)).1).trans upd_e
          · obtain ⟨z1, z2, z3⟩ := Q16
            have hnh : ∀ t, NH (mkV (sI h3 42 (nI ar)) 0 (-1) (ftk n m3f) (nI a3) (nI o) (nI n3) (nI oc3) (nI wt3) so3 wh3 oe3 tw3 (upd th3 n1 (nI N3)) nx3 tk3 os3 wa3 wf3).2.2.1 0 n3 t ↔ NH (mkV h3 0 (-1) (ftk n m3f) (nI a3) (nI (o + 1)) (nI n3) (nI oc3) (nI wt3) so3 wh3 oe3 tw3 th3 nx3 tk3 os3 wa3 wf3).2.2.1 0 n3 t := by
              intro t
              constructor
              · rintro ⟨i, x1, x2, x3, x4, x5, x6⟩
                have hi : i ≠ n1 := by
                  rintro rfl
                  rcases x3 with e | e | e <;> exact absurd (t20.symm.trans e) (by decide)
                exact ⟨i, x1, x2, x3, by show 0 ≤ th3 i; rw [← show upd th3 n1 (nI N3) i = th3 i from upd_n hi]; exact x4, x5, x6⟩
              · rintro ⟨i, x1, x2, x3, x4, x5, x6⟩
                have hi : i ≠ n1 := by
                  rintro rfl
                  rcases x3 with e | e | e <;> exact absurd (t20.symm.trans e) (by decide)
                exact ⟨i, x1, x2, x3, by show 0 ≤ upd th3 n1 (nI N3) i; rw [upd_n hi]; exact x4, x5, x6⟩
            exact ⟨z1, fun t ht => z2 t ((hnh t).mp ht), z3.imp id (fun e => (hnh _).mpr e)⟩
        · obtain ⟨x', u, w1, w2⟩ := kb2 (kb12 (kb_close (cb_base I8.1 hb1)) fun u hu => kbs2 (x := nI l2) hu) fun x u hu => kb12 (kb_land (x := x) hu) fun u hu => kbs2 (x := 0) hu
          exact ⟨x', u, w1, Or.inr ⟨r, q, 1 + j + 1 + j', m', w2, st_trans (st_trans (st_trans (st_one hm1.1 hm1.2 hmA) I3) (st_one I4.1 I4.2 I5)) hb2, mb_base (frm_trans frm_beg I8.2.1) hb3, by omega⟩⟩
      · rw [wh_if1 I6.2.1 (by omega) I6.2.2.2.2.2.1.1 (by omega) h36 (by omega) s20 s23 h5] at I5
        rw [if_neg h5, b1S (w_land (by omega) (by omega))]
        refine ⟨0, _, rfl, Or.inl ⟨a2, l2, n2, f2, m2f, n1, v2, vm2, 1 + j, F', ag2, g2, _, mB1, _, tv2, ⟨_, _, _, rfl⟩, ⟨oc2, wt2, hoc2, _, _, _, _, _, _, _, _, _, _, rfl⟩, st_trans (st_one hm1.1 hm1.2 hmA) I3, I4, ⟨I5, by omega⟩, bs_end I6, I7, frv_cond I8, ⟨I9, fun _ => I9' trivial⟩, I10, by omega, ⟨by omega, by omega, by omega, by omega, by omega, by omega, by omega, by omega⟩, s25, fun i hi => ?_, fun i hi => ?_, ?_, I16⟩⟩
        · obtain ⟨q1, q2, q3⟩ := hFW1 i (by omega)
          obtain ⟨r1, r2, r3⟩ := I13 i (by omega)
          exact ⟨r1.trans q1, (upd_n (by omega)).trans (r2.trans q2), r3.trans q3⟩
        · exact ne_trans (ne_trans (hNE1 i hi) (I14 i (by omega))) ⟨rfl, rfl, rfl, upd_n (by omega), rfl, rfl, rfl⟩
        · refine sq_if hq1 I15 (fun hf => I9' trivial hf) (by omega) ho1 ho' j1 (by omega) B.2.2.1.2 j3 (by omega) ⟨j5, j6⟩ ⟨J5, J6⟩ (fun i x1 x2 => ?_) (fun i x1 x2 => ⟨rfl, upd_n (by omega), rfl⟩) (fun i x1 x2 => ?_) (fun i x1 x2 => ⟨rfl, rfl, rfl, upd_n (by omega), rfl, rfl, fun _ => rfl⟩) ⟨s20, s22, upd_e, s24⟩ ⟨?_, upd_e⟩
          · obtain ⟨r1, r2, r3⟩ := I13 i (by omega)
            exact ⟨r1, (upd_n (by omega)).trans r2, r3⟩
          · obtain ⟨q1, q2, q3, q4, q5, q6, q7⟩ := I14 i (by omega)
            exact ⟨q1, q2, q3, (upd_n (by omega)).trans q4, q5, q7, fun _ => q6⟩
          · exact ((I13 l1 (by omega)).1).trans hc17
    · obtain ⟨x', u, w1, w2⟩ := kb_condT (d := d + 5) (w := 4) (x2 := nI l) (r8 := nI l1) hb1
      exact ⟨x', u, w1, Or.inr (sbad_in frm_beg hm1 hmA (by omega) w2 hb2 hb3 hb4)⟩
  · exact ⟨x, c', e1, Or.inr e2⟩
end SD
