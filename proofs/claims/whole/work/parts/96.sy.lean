/-! A block as a statement. -/
section SY
variable {n : Nat} {K : Nat → Int32} {p : Nat → Nat} {V : Nat → Int64} {g h : St} {tv : Nat → Nat} {vc vm ar sb dp A : Nat} {ag nb : Prop} {co op sz so wh oe tw th nx tk os wa wf : Nat → Int32} {fC fM a o l nd d oc : Nat} {WT : Int32}
/-- the text ends where a statement must begin -/
theorem stm_none (B : Bs n K p V g h tv vc vm ar ag) (ha : a ≤ n) (har : 1 ≤ ar) (hA : h.2.2.1 36 (ar - 1) = nI A) (hA2 : A < 500) (hnd : nd ≤ 400) (hk : K a = 0) :
    KM h n 5 3 (nI (p a)) (tModel_statement (mkV h 0 (-1) (ftk n fM) (nI a) (nI o) (nI nd) (nI oc) WT so wh oe tw th nx tk os wa wf)) := by
  have k0 : ∀ x : Int32, ¬ x = 0 → ¬ K a = x := fun x hx e => hx (e.symm.trans hk)
  rw [st_disp B ha har hA hA2 (fun _ => k0 _ (by decide)), if_neg (k0 _ (by decide)), if_neg (k0 _ (by decide)), if_neg (k0 _ (by decide)), if_neg (k0 _ (by decide)), if_neg (k0 _ (by decide)), if_neg (k0 _ (by decide)), if_neg (k0 _ (by decide)), ends_open]
  have b := mb_mono (k' := 5) (mb_V (r := 3) (q := nI (p a)) (ft := ftk n fM) (o := nI o) (wt := nI 0) (nd := nd) (oc := 0) (so := so) (wh := wh) (oe := oe) (tw := tw) (th := th) (nx := nx) (tk := tk) (os := os) (wa := wa) (wf := wf) B (by decide) ha hnd (by omega)) (by omega)
  have e : tModel_value (mkV h 0 (-1) (ftk n fM) (nI a) (nI o) (nI nd) (nI oc) WT so wh oe tw th nx tk os wa wf) (-1) = some (0, mkV h 3 (nI (p a)) (ftk n fM) (nI a) (nI o) (nI nd) (nI 0) (nI 0) so wh oe tw th nx tk os wa wf) := by
    have hv : VSteps 1 1 (mkV h 0 (-1) (ftk n fM) (nI a) (nI o) (nI nd) (nI 0) (nI 0) so wh oe tw th nx tk os wa wf) 0 (mkV h 3 (nI (p a)) (ftk n fM) (nI a) (nI o) (nI nd) (nI 0) (nI 0) so wh oe tw th nx tk os wa wf) := vs_one rfl (show vStep 1 _ = _ from (if_neg (by decide)).trans (bv_bad B.2.1 ha (k0 _ (by decide)) (k0 _ (by decide)) (k0 _ (by decide)) (k0 _ (by decide)) (k0 _ (by decide)) (k0 _ (by decide)) (k0 _ (by decide))))
    obtain ⟨N', e1, e2⟩ := v_turns hv 1994
    unfold tModel_value
    rw [if_neg (by decide), mkV_s40, mkV_s41]
    show tModel_value_L (1998 + 2) 1 _ (-1) 1 0 0 = _
    rw [value_start]
    exact e2.trans (km_value3 b (by omega))
  rw [b2S e, b1S (mb_need B.2.1 b wd59), b.2.1, if_neg b.2.2.2.1]
  exact kms b
theorem stm_close (B : Bs n K p V g h tv vc vm ar ag) (ha : a ≤ n) (har : 1 ≤ ar) (hA : h.2.2.1 36 (ar - 1) = nI A) (hA2 : A < 500) (hs : so A = 10) (h39 : h.1 39 = nI (dp + 1)) (hk : K a = 125) :
    ∃ w, w ≤ vm ∧ tModel_statement (mkV h 0 (-1) (ftk n fM) (nI a) (nI (o + 1)) (nI nd) (nI oc) WT so wh oe tw th nx tk os wa wf) = tModel_whole_L 2000 1 (mkV (sI (sI (sI h 38 (nI w)) 39 (nI dp)) 42 (nI (ar - 1))) 0 (-1) (ftk n fM) (nI (a + 1)) (nI o) (nI nd) (nI oc) WT so wh oe tw th nx tk os wa wf) (nI A) 1 0 ∧ ∀ u, u ≤ vm → (∀ k, k < vm → (h.2.2.1 32 k = nI (dp + 1) ↔ u ≤ k)) → w = u := by
  have hvm := B.2.2.2.1.2.1
  have h20 := B.2.2.2.2.2.1.2
  obtain ⟨w, w1, w2, w3⟩ := leave_all (o := o) (y := 0) (q := -1) (ft := ftk n fM) (A := nI (a + 1)) (ND := nI nd) (OC := nI oc) (WT := WT) (so := so) (wh := wh) (oe := oe) (tw := tw) (th := th) (nx := nx) (tk := tk) (os := os) (wa := wa) (wf := wf) h39 vm 2000 hvm (by omega)
  refine ⟨w, w1, ?_, w3⟩
  have eh : sI h 38 (nI vm) = h := by
    refine Prod.ext (funext fun j => ?_) rfl
    show (if j = 38 then nI vm else h.1 j) = h.1 j
    by_cases hj : j = 38
    · rw [if_pos hj, hj, B.2.2.2.1.1]
    · rw [if_neg hj]
  rw [eh] at w2
  unfold tModel_statement
  rw [mkV_i42, B.2.2.2.2.2.1.1, nI_pred' (by omega), gdT (inI (by omega) (by omega)), tc_nI (by omega), mkV_r36, hA, gdT (inI hA2 (by omega)), tc_nI (by omega), mkV_r20, if_pos hs, b1S (v_sees B.2.1 ha wd125), if_pos hk, if_neg (by decide), mkV_i31, nI_suc, mkV_s31]
  unfold tModel_leaveBlock
  rw [b1S w2, mkV_i42, show (sI (sI h 38 (nI w)) 39 (nI dp)).1 42 = h.1 42 from rfl, B.2.2.2.2.2.1.1, nI_pred' (by omega), mkV_b42, b1_id]
  rfl
theorem stm_block {wt : Nat} (hB : Beg n K p V g h (mkV h 0 (-1) (ftk n fM) (nI a) (nI o) (nI nd) (nI oc) (nI wt) so wh oe tw th nx tk os wa wf) tv fC fM a o l nd vc vm sb dp ar A ag) (hStP : o < 12 → StP n K p V d (o + 1)) (hoc : oc ≤ 40) (hd : 4 ≤ d) (hk : K a = 123)
    (hm0 : tModel_statement (mkV h 0 (-1) (ftk n fM) (nI a) (nI o) (nI nd) (nI oc) (nI wt) so wh oe tw th nx tk os wa wf) = tModel_beginBlock (mkV h 0 (-1) (ftk n fM) (nI a) (nI o) (nI nd) (nI oc) (nI wt) so wh oe tw th nx tk os wa wf)) :
    SRes n K p V g h (mkW g 0 (-1) (wn n p fC) (nI a) (nI o) (nI l) co op sz) (mkV h 0 (-1) (ftk n fM) (nI a) (nI o) (nI nd) (nI oc) (nI wt) so wh oe tw th nx tk os wa wf) fC a o l nd vc sb dp ar ag nb (tG (d + 2) 0 (mkW g 0 (-1) (wn n p fC) (nI a) (nI o) (nI l) co op sz) 0 0) := by
  obtain ⟨B, L, hag, hF, ⟨ha, hl, hnd, ho1, ho⟩, ⟨har, har2, hA, hA2, hdp⟩⟩ := hB
  have hn := B.2.1.1.1
  have han := kz_lt B.1 hk (by decide)
  have hm1 := beg_ar (fM := fM) (a := a) (o := o) (nd := nd) (oc := oc) (WT := nI wt) (so := so) (wh := wh) (oe := oe) (tw := tw) (th := th) (nx := nx) (tk := tk) (os := os) (wa := wa) (wf := wf) B har
  obtain ⟨L1, L2, L3, L4, L5⟩ := L
  have hvc := B.2.2.1.2
  rw [tG_0]
  unfold tGrammar_block tVariables_startBlock
  rw [b2S rfl, mkW_i9, L1, mkW_i8, B.2.2.1.1, mkW_b9]
  have Fg : FrC g (sI g 9 (nI vc)) := frc_sI (frc_refl g) (by omega)
  have T1 : TkC (sI g 9 (nI vc)) n K p V := tkc_keep B.1 Fg
  have hend : ∀ (u : St) (r q x : Int32), CBad g n r q u → (∃ b, b ≤ 12 ∧ x = nI b) → KB2 g n r q (b1 (tVariables_endBlock u x) (fun u5 => some ((0 : Int32), u5))) := by
    intro u r q x hu ⟨b, hb, hx⟩
    obtain ⟨v, hv, hv'⟩ := hu.2.2.2.2.2.2.1
    refine ⟨0, _, rfl, ?_⟩
    rw [hv', hx]
    exact cb_s9 (cb_s8 hu hv) hb
  by_cases h12 : o = 12
  · subst h12
    have hm : KM h n 2 2 (nI (p a)) (tModel_beginBlock (mkV h 0 (-1) (ftk n fM) (nI a) (nI 12) (nI nd) (nI oc) (nI wt) so wh oe tw th nx tk os wa wf)) := by
      unfold tModel_beginBlock
      rw [b1S (v_opens12 B.2.1 ha)]
      exact km21 (km_node (mb_sI (mb_V B (by decide) ha (by omega) (by omega)) (by omega)) (by omega)) fun x u b => km1 (km_begin b (by omega)) fun u b => kms b
    obtain ⟨m3, w3, w4⟩ := hm
    rw [w3] at hm0
    rw [b1S (w_open12 T1 ha hk)]
    have hcb : CBad g n 2 (nI (p a)) (mkW (sI g 9 (nI vc)) 2 (nI (p a)) (wn n p fC) (nI a) (nI 12) (nI l) co op sz) := ⟨frc_mkW Fg, rfl, rfl, by decide, ⟨B.1.1, B.1.2.1⟩, ⟨vc, hvc, B.2.2.1.1⟩, ⟨vc, hvc, rfl⟩, ⟨l, by omega, rfl⟩, B.2.2.2.2.2.2.2⟩
    obtain ⟨x', u, w1, w2⟩ := kb2 (kb_statements (d := d) (x := 0) (y := 0) hcb) fun _ u hu => kb12 (kb_closing (k := 125) hu (by decide)) fun u hu => hend u _ _ (nI sb) hu ⟨sb, L2, rfl⟩
    exact ⟨x', u, w1, Or.inr ⟨2, nI (p a), 1, m3, w2, st_one hm1.1 hm1.2 hm0, mb_mono w4 (by omega), by omega⟩⟩
  have ho' : o < 12 := by omega
  rw [v_beginBlock L3 B.2.2.2.2.2.1.1 (by omega) ho' (by omega)] at hm0
  rw [b1S (w_open T1 ha hk ho'), tG_15]
  unfold tGrammar_statements
  have Fh : FrM h (hBeg (sI h 39 (nI (dp + 1))) ar nd) := frm_sI (frm_sA (frm_sI (frm_refl h) (by omega)) (by omega)) (by omega)
  have B1 : Bs n K p V (sI g 9 (nI vc)) (hBeg (sI h 39 (nI (dp + 1))) ar nd) tv vc vm (ar + 1) ag := ⟨T1, tkm_keep (frm_same Fh) B.2.1, B.2.2.1, B.2.2.2.1, B.2.2.2.2.1, ⟨rfl, by omega⟩, ⟨vc, hvc, rfl⟩, B.2.2.2.2.2.2.2⟩
  have L1' : Lv (sI g 9 (nI vc)) (hBeg (sI h 39 (nI (dp + 1))) ar nd) vc vc (dp + 1) ag := by
    refine ⟨rfl, hvc, rfl, by omega, fun hg => ⟨Nat.le_refl _, fun k hk' => ?_⟩⟩
    obtain ⟨e, e1, e2⟩ := ((L5 hg).2 k hk').2
    show (h.2.2.1 32 k = nI (dp + 1) ↔ vc ≤ k) ∧ ∃ e, e ≤ dp + 1 ∧ h.2.2.1 32 k = nI e
    refine ⟨⟨fun hh => ?_, fun hh => by omega⟩, e, by omega, e2⟩
    rw [e2] at hh
    have := nI_inj (by omega) (by omega) hh
    omega
  have hBL : BL n K p V (sI g 9 (nI vc)) (hBeg (sI h 39 (nI (dp + 1))) ar nd) (mkW (sI g 9 (nI vc)) 0 (-1) (wn n p fC) (nI (a + 1)) (nI (o + 1)) (nI l) co op sz) (mkV (hBeg (sI h 39 (nI (dp + 1))) ar nd) 0 (-1) (ftk n fM) (nI (a + 1)) (nI (o + 1)) (nI (nd + 1)) (nI oc) (nI wt) (upd so nd 10) (upd wh nd 0) (upd oe nd (-1)) (upd tw nd (-1)) (upd th nd (-1)) (upd nx nd (-1)) (upd tk nd (nI (a + 1))) os wa wf) (mkW (sI g 9 (nI vc)) 0 (-1) (wn n p fC) (nI (a + 1)) (nI (o + 1)) (nI l) co op sz) fC (a + 1) (o + 1) l nd vc vc (dp + 1) (ar + 1) ag 0 (a + 1) := by
    refine ⟨l, nd + 1, fC, fM, vc, vm, 0, ag, _, _, _, tv, fun _ => 0, fun _ => l, fun _ => nd + 1, fun _ => a + 1, fun _ => vc, ⟨_, _, _, rfl⟩, ⟨oc, wt, hoc, _, _, _, _, _, _, _, _, _, _, rfl⟩, rfl, B1, L1', frv_refl, fun hg => ⟨hg, Nat.le_refl _⟩, by rcases hag with e | e; exact Or.inl e; right; omega, Nat.le_refl _, ⟨by omega, by omega, by omega, by omega, by omega, by omega, by omega, by omega⟩, fw_refl, fun _ _ => ne_refl, ⟨upd_e, upd_e, upd_e, fun _ => upd_e, fun e => absurd e (by omega), fun x hx => absurd hx (by omega), fun e => absurd e (by omega)⟩, ⟨rfl, rfl, rfl, rfl, rfl, rfl, rfl, rfl⟩, fun x hx => absurd hx (by omega), ?_⟩
    obtain ⟨z1, z2, z3⟩ := hF
    have hnh : ∀ t, NH (mkV (hBeg (sI h 39 (nI (dp + 1))) ar nd) 0 (-1) (ftk n fM) (nI (a + 1)) (nI (o + 1)) (nI (nd + 1)) (nI oc) (nI wt) (upd so nd 10) (upd wh nd 0) (upd oe nd (-1)) (upd tw nd (-1)) (upd th nd (-1)) (upd nx nd (-1)) (upd tk nd (nI (a + 1))) os wa wf).2.2.1 0 (nd + 1) t ↔ NH (mkV h 0 (-1) (ftk n fM) (nI a) (nI o) (nI nd) (nI oc) (nI wt) so wh oe tw th nx tk os wa wf).2.2.1 0 nd t := by
      intro t
      rw [nh_split (m := nd) (by omega) (by omega)]
      constructor
      · rintro (e | e)
        · exact (nh_congr fun i _ hi => ⟨upd_n (by omega), upd_n (by omega), upd_n (by omega)⟩).mp e
        · refine absurd e (nh_none ?_)
          show ¬ (upd so nd 10 nd = 4 ∨ upd so nd 10 nd = 5 ∨ upd so nd 10 nd = 12)
          rw [upd_e]; decide
      · intro e
        exact Or.inl ((nh_congr fun i _ hi => ⟨upd_n (by omega), upd_n (by omega), upd_n (by omega)⟩).mpr e)
    exact ⟨z1, fun t ht => z2 t ((hnh t).mp ht), z3.imp id (fun e => (hnh _).mpr e)⟩
  have h36 : (hBeg (sI h 39 (nI (dp + 1))) ar nd).2.2.1 36 (ar + 1 - 1) = nI nd := by
    show upd (h.2.2.1 36) ar (nI nd) (ar + 1 - 1) = nI nd
    rw [show ar + 1 - 1 = ar by omega, upd_e]
  obtain ⟨x, c2, e1, hres⟩ := bl_all (hStP ho') (by omega) (by omega) hn (by omega) (by omega) (by omega) (by omega) (by omega) (by omega) h36 n 2000 0 (a + 1) _ hBL (by omega) (by omega)
  rw [show nI 0 = (0 : Int32) from rfl] at e1
  rw [b2S e1]
  rcases hres with ⟨i2, a2, hb, hk2⟩ | ⟨r, q, j, m', hb1, hb2, hb3, hb4⟩
  · obtain ⟨l', nd', fC', fM', vc', vm', j, ag', g', h', m', tv', Cf, Pf, Nf, Ta, Yf, ⟨co', op', sz', rfl⟩, ⟨oc', wt', hoc', so', wh', oe', tw', th', nx', tk', os', wa', wf', rfl⟩, I3, B2, L', I6, I7, I8, I9, ⟨j1, j2, j3, j4, j5, j6, j7, j8⟩, I10, I11, hLst, ⟨p1, p2, p3, p4, p5, p6, p7, p8⟩, hSt, hFR⟩ := hb
    obtain ⟨M1, M2, M3, M4, M5⟩ := L'
    have hvm := B2.2.2.2.1.2.1
    have h36' : h'.2.2.1 36 (ar + 1 - 1) = nI nd := (I6.2.2.2.1 (ar + 1 - 1) (by omega)).trans h36
    by_cases h125 : K a2 = 125
    · have ha2 := kz_lt B2.1 h125 (by decide)
      obtain ⟨w, w1, w2, w3⟩ := stm_close (fM := fM') (nd := nd') (oc := oc') (WT := nI wt') (so := so') (wh := wh') (oe := oe') (tw := tw') (th := th') (nx := nx') (tk := tk') (os := os') (wa := wa') (wf := wf') B2 j2 (by omega) h36' (by omega) hLst.1 M3 h125
      rw [b1S (w_closing B2.1 j2 h125)]
      unfold tVariables_endBlock
      rw [mkW_i9, M1, mkW_b8, mkW_b9, b1S rfl]
      rw [show ar + 1 - 1 = ar by omega] at w2
      have hwv : ag' → w = vc := fun hg => by
        obtain ⟨e1, e2⟩ := B2.2.2.2.2.1 hg
        obtain ⟨e3, e4⟩ := M5 hg
        exact w3 vc (by have := (I7 hg).2; omega) (fun k hk' => (e4 k (by omega)).1)
      have Fg' : FrC g (sI (sI g' 8 (nI vc)) 9 (nI sb)) := frc_sI (frc_sI (frc_trans Fg I6.1) (by omega)) (by omega)
      have Fh' : FrM h (sI (sI (sI h' 38 (nI w)) 39 (nI dp)) 42 (nI ar)) := frm_sI (frm_sI (frm_sI (frm_trans Fh I6.2.1) (by omega)) (by omega)) (by omega)
      have B3 : Bs n K p V (sI (sI g' 8 (nI vc)) 9 (nI sb)) (sI (sI (sI h' 38 (nI w)) 39 (nI dp)) 42 (nI ar)) tv' vc w ar ag' := by
        refine ⟨tkc_keep B.1 Fg', tkm_keep (frm_same Fh') B.2.1, ⟨rfl, hvc⟩, ⟨rfl, by omega, fun k hk' => B2.2.2.2.1.2.2 k (by omega)⟩, fun hg => ⟨(hwv hg).symm, fun k hk' => ?_⟩, ⟨rfl, by omega⟩, ⟨sb, L2, rfl⟩, B2.2.2.2.2.2.2.2⟩
        exact (B2.2.2.2.2.1 hg).2 k (by have := (I7 hg).2; omega)
      refine ⟨0, _, rfl, Or.inl ⟨a2 + 1, l', nd', fC', fM', nd, vc, w, 1 + j, 2000, ag', _, _, _, _, tv', ⟨_, _, _, rfl⟩, ⟨oc', wt', hoc', _, _, _, _, _, _, _, _, _, _, rfl⟩, st_trans (st_one hm1.1 hm1.2 hm0) I3, ⟨rfl, ?_⟩, ⟨w2, by omega⟩, B3, ⟨rfl, L2, rfl, L4, fun hg => ⟨(L5 (I7 hg).1).1, fun k hk' => ?_⟩⟩, ⟨Fg', Fh', fun hg k hk' => ?_, fun k hk' => ?_, I6.2.2.2.2⟩, ⟨fun hg => ⟨(I7 hg).1, Nat.le_refl _⟩, fun _ _ => rfl⟩, by rcases I8 with e | e; exact Or.inl e; right; omega, I9, ⟨by omega, by omega, by omega, by omega, by omega, by omega, by omega, by omega⟩, hLst.2.2.1, I10, fun i hi => ?_, ?_, ?_⟩⟩
      · rw [mkV_i42, B2.2.2.2.2.2.1.1]
        exact nI_nle (by omega) (by omega)
      · have := (I6.2.2.1 hg k hk').2.2
        show (h'.2.2.1 32 k = nI dp ↔ sb ≤ k) ∧ ∃ e, e ≤ dp ∧ h'.2.2.1 32 k = nI e
        rw [this]
        exact (L5 (I7 hg).1).2 k hk'
      · exact I6.2.2.1 hg k hk'
      · refine (I6.2.2.2.1 k (by omega)).trans ?_
        show upd (h.2.2.1 36) ar (nI nd) k = _
        exact upd_n (by omega)
      · exact ne_trans ⟨upd_n (by omega), upd_n (by omega), upd_n (by omega), upd_n (by omega), upd_n (by omega), upd_n (by omega), upd_n (by omega)⟩ (I11 i hi)
      · exact sq_block hSt hLst (by omega) (Nat.le_refl _) ho (Or.inl (Nat.le_refl _)) rfl (by omega) j1 ⟨p1, p2, p3, p4, p5, p6, p7⟩ hvc (fun i _ _ => ⟨rfl, rfl, rfl⟩) (fun x hx i _ _ => ⟨rfl, rfl, rfl, rfl, rfl, rfl, fun _ => rfl⟩)
      · exact hFR
    · have hk0 : K a2 = 0 := by rcases hk2 with e | e; exact absurd e h125; exact e
      obtain ⟨m2, w1, w2⟩ := stm_none (fM := fM') (o := o + 1) (nd := nd') (oc := oc') (WT := nI wt') (so := so') (wh := wh') (oe := oe') (tw := tw') (th := th') (nx := nx') (tk := tk') (os := os') (wa := wa') (wf := wf') B2 j2 (by omega) h36' (by omega) (by omega) hk0
      rw [b1S (w_closingN B2.1 j2 h125)]
      obtain ⟨x', u, w3, w4⟩ := hend _ 3 (nI (p a2)) (nI sb) (cb_base (frc_trans Fg I6.1) (cb_mkW (w := wn n p fC') (a := nI a2) (o := nI o) (co := co') (op := op') (sz := sz') B2 (by decide) (show l' ≤ 440 by omega))) ⟨sb, L2, rfl⟩
      exact ⟨x', u, w3, Or.inr ⟨3, nI (p a2), 1 + j + 1, m2, w4, st_trans (st_trans (st_one hm1.1 hm1.2 hm0) I3) (st_one rfl (by rw [mkV_i42, B2.2.2.2.2.2.1.1]; exact nI_nle (by omega) (by omega)) w1), mb_mono (mb_base (frm_trans Fh I6.2.1) w2) (by omega), by omega⟩⟩
  · obtain ⟨x', u, w1, w2⟩ := kb12 (kb_closing (k := 125) (cb_base Fg hb1) (by decide)) fun u hu => hend u _ _ (nI sb) hu ⟨sb, L2, rfl⟩
    exact ⟨x', u, w1, Or.inr ⟨r, q, 1 + j, m', w2, st_trans (st_one hm1.1 hm1.2 hm0) hb2, mb_base Fh hb3, by omega⟩⟩
end SY
