/-! A function, both sides. -/
theorem if_see {α : Type} {P : Prop} [Decidable P] {A B : α} : (if (if P then (1 : Int32) else 0) = 0 then B else A) = (if P then A else B) := by
  by_cases h : P
  · rw [if_pos h, if_pos h, if_neg (by decide)]
  · rw [if_neg h, if_neg h, if_pos rfl]
theorem frel_nh {fC fM nd : Nat} {H H' : Nat → Nat → Int32} (h : FRel fC fM (NH H 0 nd)) (e : H' 20 = H 20) (e' : H' 24 = H 24) (e'' : H' 26 = H 26) : FRel fC fM (NH H' 0 nd) := by
  have : NH H' 0 nd = NH H 0 nd := by
    unfold NH
    rw [e, e', e'']
  rw [this]; exact h
section FY
variable {n : Nat} {K : Nat → Int32} {p : Nat → Nat} {V : Nat → Int64} {g h g0 h0 : St} {tg : Nat → Nat} {q na nf fC fM a l nd oc wt ar : Nat} {co op sz so wh oe tw th nx tk os wa wf : Nat → Int32}
/-- the class makes the function behind its parameters -/
theorem fun_made {g' h' : St} {x q' nf' T0 i a1 fC1 : Nat} (T : TkC g' n K p V) (kG : KeepG (sI (sI g 8 0) 9 0) g') (kH : KeepH (hGl (sI (sI h 38 0) 39 1) x (a + 1) 1 0 q' nf' na na) h') (R : GR n K V g h tg q na nf) (ht : a + 1 < n) (hk1 : K (a + 1) = 1) (hfC : fC1 ≤ fC)
    (hc : (Free V tg q (a + 1) (nf = 8) ∧ x = q ∧ q' = q + 1 ∧ nf' = nf + 1 ∧ T0 = fC + n + 1) ∨ (¬ Free V tg q (a + 1) (nf = 8) ∧ x = 59 ∧ q' = q ∧ nf' = nf ∧ T0 = a + 1)) :
    ∃ (g3 h3 : St) (tg' : Nat → Nat), tGlobals_makeFunction (mkW g' 0 (-1) (wn n p fC1) (nI a1) (nI 0) (nI l) co op sz) (nI (a + 1)) (nI l) (nI i) = some (mkW g3 0 (-1) (wn n p (min fC1 T0)) (nI a1) (nI 0) (nI l) co op sz) ∧ h3 = sA h' 29 (upd (h'.2.2.1 29) x (nI i)) ∧ FrC g' g3 ∧ g3.1 8 = g'.1 8 ∧ g3.1 9 = g'.1 9 ∧ g3.2.2.2 1 = g'.2.2.2 1 ∧ GR n K V g3 h3 tg' q' na nf' ∧ (∀ k, k < q → k ≠ x ∧ g3.2.2.1 3 k = g.2.2.1 3 k ∧ g3.2.2.1 4 k = g.2.2.1 4 k ∧ g3.2.2.1 5 k = g.2.2.1 5 k ∧ h3.2.2.1 29 k = h.2.2.1 29 k ∧ h3.2.2.1 30 k = h.2.2.1 30 k) ∧ (q' = q ∨ (q' = q + 1 ∧ x = q ∧ g3.2.2.1 3 q = 1 ∧ g3.2.2.1 4 q = nI l ∧ g3.2.2.1 5 q = nI i ∧ h3.2.2.1 29 q = nI i)) := by
  have hq := R.2.2.1.2.1
  have R1 : GR n K V (sI (sI g 8 0) 9 0) h tg q na nf := gr_same R ⟨rfl, rfl, rfl⟩ ⟨rfl, rfl, rfl⟩ (fun _ _ => ⟨rfl, rfl, rfl, rfl⟩)
  have R2 : GR n K V g' h tg q na nf := gr_keep R1 kG
  obtain ⟨k9, k10, k11, k12, kr, kl, kF⟩ := kG
  obtain ⟨m35, m36, m37, m39, m42, r27, r28, r29, r30, r36, mF⟩ := kH
  have kr' : g'.2.2.1 = g.2.2.1 := kr
  obtain ⟨w1, w2⟩ := w_makeFun (r := 0) (y := -1) (f := fC1) (a := a1) (o := 0) (l := l) (t := a + 1) (co := co) (op := op) (sz := sz) (s := nI l) (z := nI i) T R2 ht
  have hxk : ∀ k, k < q → k ≠ x := by
    intro k hk
    rcases hc with ⟨-, e, -⟩ | ⟨-, e, -⟩ <;> omega
  have f27 : ∀ k, k < q → h'.2.2.1 27 k = h.2.2.1 27 k := fun k hk => by
    rw [r27]
    show upd (h.2.2.1 27) x (nI (a + 1)) k = _
    exact upd_n (hxk k hk)
  have f28 : ∀ k, k < q → h'.2.2.1 28 k = h.2.2.1 28 k := fun k hk => by
    rw [r28]
    show upd (h.2.2.1 28) x 1 k = _
    exact upd_n (hxk k hk)
  have f29 : ∀ k, k < q → upd (h'.2.2.1 29) x (nI i) k = h.2.2.1 29 k := fun k hk => by
    rw [upd_n (hxk k hk), r29]
    show upd (h.2.2.1 29) x 0 k = _
    exact upd_n (hxk k hk)
  have f30 : ∀ k, k < q → h'.2.2.1 30 k = h.2.2.1 30 k := fun k hk => by
    rw [r30]
    show upd (h.2.2.1 30) x (nI (16 * na)) k = _
    exact upd_n (hxk k hk)
  rcases hc with ⟨hfr, e1, e2, e3, e4⟩ | ⟨hfr, e1, e2, e3, e4⟩
  · have hnf : nf + 1 ≤ 8 := by have := hfr.1; have := R.2.1.2.2; omega
    refine ⟨sI (gAdd g' q (V (a + 1)) 1 (nI l) (nI i)) 12 (nI (nf + 1)), _, fset tg q (a + 1), ?_, rfl, frc_sI (frc_sI (frc_sA (frc_sA (frc_sA (frc_sL (frc_refl g') (by omega)) (by omega)) (by omega)) (by omega)) (by omega)) (by omega), rfl, rfl, rfl, ?_, fun k hk => ⟨hxk k hk, ?_, ?_, ?_, f29 k hk, f30 k hk⟩, Or.inr ⟨e2, e1, upd_e, upd_e, upd_e, ?_⟩⟩
    · rw [show min fC1 T0 = fC1 by omega]
      exact w1 hfr
    · rw [e2, e3]
      rw [e2] at m35
      rw [e3] at m36
      refine gr_more R2 ⟨rfl, R2.1.2.1, rfl⟩ ⟨by have := R.2.1.1; omega, R.2.1.2.1, hnf⟩ ⟨m35, m36, m37⟩ (fun k hk => ⟨updL_n (by omega), upd_n (by omega), f27 k hk, f28 k hk⟩) ⟨updL_e, upd_e, ?_, ?_⟩ (Or.inr rfl) ht hk1 hfr.2
      · show h'.2.2.1 27 q = _
        rw [r27]
        show upd (h.2.2.1 27) x (nI (a + 1)) q = _
        rw [e1, upd_e]
      · show h'.2.2.1 28 q = _
        rw [r28]
        show upd (h.2.2.1 28) x 1 q = _
        rw [e1, upd_e]
    · show upd (g'.2.2.1 3) q 1 k = _
      rw [upd_n (by omega), kr']
    · show upd (g'.2.2.1 4) q (nI l) k = _
      rw [upd_n (by omega), kr']
    · show upd (g'.2.2.1 5) q (nI i) k = _
      rw [upd_n (by omega), kr']
    · show upd (h'.2.2.1 29) x (nI i) q = _
      rw [e1, upd_e]
  · refine ⟨g', _, tg, ?_, rfl, frc_refl g', rfl, rfl, rfl, ?_, fun k hk => ⟨hxk k hk, by rw [kr'], by rw [kr'], by rw [kr'], f29 k hk, f30 k hk⟩, Or.inl e2⟩
    · rw [e4]
      exact w2 hfr
    · rw [e2, e3]
      rw [e2] at m35
      rw [e3] at m36
      exact gr_same R2 ⟨rfl, rfl, rfl⟩ ⟨m35.trans R.2.2.1.1.symm, m36.trans R.2.2.2.1.1.symm, m37.trans R.2.2.2.1.2.symm⟩ (fun k hk => ⟨rfl, rfl, f27 k hk, f28 k hk⟩)
theorem fun_both (T : TkC g n K p V) (TM : TkM h n K p V) (R : GR n K V g h tg q na nf) (hm : h.1 42 = nI ar ∧ ar ≤ 40 ∧ oc ≤ 40) (Fc : FrC g0 g) (Fm : FrM h0 h) (hb : a ≤ n ∧ l ≤ 2 * a ∧ nd ≤ a) (hF : FRel fC fM (NH (mkV h 0 (-1) (ftk n fM) (nI (a + 2)) (nI 0) (nI nd) (nI oc) (nI wt) so wh oe tw th nx tk os wa wf).2.2.1 0 nd))
    (hE : ∀ x t k, CE (mkW g 0 (-1) (wn n p fC) (nI (a + 2)) (nI 0) (nI l) co op sz).2.2.1 0 l x t k ↔ NE K (mkV h 0 (-1) (ftk n fM) (nI (a + 2)) (nI 0) (nI nd) (nI oc) (nI wt) so wh oe tw th nx tk os wa wf).2.2.1 0 nd x t k)
    (hA : ∀ k, k < q → g.2.2.1 3 k = 0 → ArI n g h fC k) (hN : ∀ k, k < q → g.2.2.1 3 k = 1 → FnI n K g h (mkW g 0 (-1) (wn n p fC) (nI (a + 2)) (nI 0) (nI l) co op sz).2.2.1 (mkV h 0 (-1) (ftk n fM) (nI (a + 2)) (nI 0) (nI nd) (nI oc) (nI wt) so wh oe tw th nx tk os wa wf).2.2.1 fC l nd k) (h1 : K (a + 1) = 1) (h40 : K (a + 2) = 40) :
    (∃ (c m : St) (a' : Nat), tGrammar_function (mkW g 0 (-1) (wn n p fC) (nI (a + 2)) (nI 0) (nI l) co op sz) (nI (a + 1)) = some c ∧ tModel_functionPart (mkV h 0 (-1) (ftk n fM) (nI (a + 2)) (nI 0) (nI nd) (nI oc) (nI wt) so wh oe tw th nx tk os wa wf) (nI (a + 1)) = some m ∧ TP n K p V g0 h0 c m a' ∧ a < a') ∨
    (∃ r y, KB g0 n r y (tGrammar_function (mkW g 0 (-1) (wn n p fC) (nI (a + 2)) (nI 0) (nI l) co op sz) (nI (a + 1))) ∧ KM h0 n 10 r y (tModel_functionPart (mkV h 0 (-1) (ftk n fM) (nI (a + 2)) (nI 0) (nI nd) (nI oc) (nI wt) so wh oe tw th nx tk os wa wf) (nI (a + 1)))) := by
  have hn := TM.1.1
  have ha2 := kz_lt T h40 (by decide)
  have hq := R.2.2.1.2.1
  obtain ⟨h42, har, hoc⟩ := hm
  obtain ⟨b1, b2, b3⟩ := hb
  have Fh0 : FrM h (sI (sI h 38 0) 39 1) := frm_sI (frm_sI (frm_refl h) (by omega)) (by omega)
  have R' : GR n K V g (sI (sI h 38 0) 39 1) tg q na nf := gr_same R ⟨rfl, rfl, rfl⟩ ⟨rfl, rfl, rfl⟩ (fun _ _ => ⟨rfl, rfl, rfl, rfl⟩)
  obtain ⟨v1, v2⟩ := v_makeGlobal (f := fM) (y := 0) (u := -1) (A := nI (a + 3)) (O := nI 0) (ND := nI nd) (OC := nI oc) (WT := nI wt) (so := so) (wh := wh) (oe := oe) (tw := tw) (th := th) (nx := nx) (tk := tk) (os := os) (wa := wa) (wf := wf) (t := a + 1) (fn := 1) (v := 0) (tkm_keep (frm_same Fh0) TM) R' (by omega) h1 (Or.inr rfl)
  simp only [show ¬ (1 : Int32) = 0 by decide, if_false] at v1 v2
  have hc : ∃ (x q' nf' fM' T0 : Nat), x < 60 ∧ tModel_makeGlobal (mkV (sI (sI h 38 0) 39 1) 0 (-1) (ftk n fM) (nI (a + 3)) (nI 0) (nI nd) (nI oc) (nI wt) so wh oe tw th nx tk os wa wf) (nI (a + 1)) 1 0 = some (nI x, mkV (hGl (sI (sI h 38 0) 39 1) x (a + 1) 1 0 q' nf' na na) 0 (-1) (ftk n fM') (nI (a + 3)) (nI 0) (nI nd) (nI oc) (nI wt) so wh oe tw th nx tk os wa wf) ∧ FRel (min fC T0) fM' (NH (mkV h 0 (-1) (ftk n fM) (nI (a + 2)) (nI 0) (nI nd) (nI oc) (nI wt) so wh oe tw th nx tk os wa wf).2.2.1 0 nd) ∧ ((Free V tg q (a + 1) (nf = 8) ∧ x = q ∧ q' = q + 1 ∧ nf' = nf + 1 ∧ T0 = fC + n + 1) ∨ (¬ Free V tg q (a + 1) (nf = 8) ∧ x = 59 ∧ q' = q ∧ nf' = nf ∧ T0 = a + 1)) := by
    rcases Classical.em (Free V tg q (a + 1) (nf = 8)) with hfr | hfr
    · exact ⟨q, q + 1, nf + 1, fM, fC + n + 1, by omega, v1 hfr, by rw [show min fC (fC + n + 1) = fC by omega]; exact hF, Or.inl ⟨hfr, rfl, rfl, rfl, rfl⟩⟩
    · exact ⟨59, q, nf, min fM (a + 1), a + 1, by omega, v2 hfr, frel_min hF, Or.inr ⟨hfr, rfl, rfl, rfl, rfl⟩⟩
  obtain ⟨x, q', nf', fM', T0, hx, eM, hF1, hc⟩ := hc
  have P0 := pl_start (x := x) (q' := q') (nf' := nf') (T0 := T0) (na := na) (fM' := fM') (fC := fC) (fM := fM) (l := l) (nd := nd) (oc := oc) (wt := wt) (co := co) (op := op) (sz := sz) (so := so) (wh := wh) (oe := oe) (tw := tw) (th := th) (nx := nx) (tk := tk) (os := os) (wa := wa) (wf := wf) T TM ⟨q, hq, R.1.1⟩ (by omega) hF1
  have Fg : FrC g (sI (sI g 8 0) 9 0) := frc_sI (frc_sI (frc_refl g) (by omega)) (by omega)
  have FhG : FrM h (hGl (sI (sI h 38 0) 39 1) x (a + 1) 1 0 q' nf' na na) := frm_sI (frm_sI (frm_sI (frm_sA (frm_sA (frm_sA (frm_sA Fh0 (by omega)) (by omega)) (by omega)) (by omega)) (by omega)) (by omega)) (by omega)
  have e42 : (hGl (sI (sI h 38 0) 39 1) x (a + 1) 1 0 q' nf' na na).1 42 = nI ar := h42
  have eM' : tModel_makeGlobal (sI (sI (sI (mkV h 0 (-1) (ftk n fM) (nI (a + 2)) (nI 0) (nI nd) (nI oc) (nI wt) so wh oe tw th nx tk os wa wf) 31 (nI (a + 2) + 1)) 38 0) 39 1) (nI (a + 1)) 1 0 = some (nI x, mkV (hGl (sI (sI h 38 0) 39 1) x (a + 1) 1 0 q' nf' na na) 0 (-1) (ftk n fM') (nI (a + 3)) (nI 0) (nI nd) (nI oc) (nI wt) so wh oe tw th nx tk os wa wf) := by
    rw [nI_suc, mkV_s31, mkV_b38, mkV_b39]; exact eM
  have em := mfun_open (i := 0) (h2 := h) eM' hx rfl
  rw [fun_open T (by omega) h40 (nI (a + 1)), em]
  rcases par_both (h := hGl (sI (sI h 38 0) 39 1) x (a + 1) 1 0 q' nf' na na) (g := sI (sI g 8 0) 9 0) (ar := ar) e42 har hoc (by omega) (by omega) (by omega) P0 with ⟨i, a1, c1, m1, e1, e2, P1, hle, hi⟩ | ⟨r, y, k1, k2⟩
  · obtain ⟨g', h', tv, vc, vm, fC1, fM1, ag, rfl, rfl, B, L, kG, kH, hag, hfC, hF2, hvi, ha'⟩ := P1
    have Fc' : FrC g0 g' := frc_trans (frc_trans Fc Fg) kG.2.2.2.2.2.2
    have Fm' : FrM h0 h' := frm_trans (frm_trans Fm FhG) kH.2.2.2.2.2.2.2.2.2.2
    rw [b2S e1, e2, fun_L1 1999]
    unfold tGrammar_function_b1
    by_cases h41 : K a1 = 41
    · have ha1 := kz_lt B.1 h41 (by decide)
      obtain ⟨g3, h3, tg', y1, eh3, y2, y3, y4, y5, y6, y7, y8⟩ := fun_made (i := i) (a1 := a1 + 1) (fC1 := fC1) (l := l) (co := co) (op := op) (sz := sz) B.1 kG kH R (by omega) h1 hfC hc
      have Fh3 : FrM h' h3 := by rw [eh3]; exact frm_sA (frm_refl h') (by omega)
      have B3 : Bq n K p V g3 h3 tv vc vm ag := ⟨tkc_keep B.1 y2, tkm_keep (frm_same Fh3) B.2.1, ⟨y3.trans B.2.2.1.1, B.2.2.1.2⟩, by rw [eh3]; exact B.2.2.2.1, fun hg => ⟨(B.2.2.2.2.1 hg).1, fun k hk => by rw [y5]; exact (B.2.2.2.2.1 hg).2 k hk⟩, by rw [y4]; exact B.2.2.2.2.2.1, ⟨q', y6.2.2.1.2.1, y6.1.1⟩⟩
      have L3 : Lv g3 h3 vc 0 1 ag := by rw [eh3]; exact ⟨y4.trans L.1, L.2⟩
      rw [b1S (w_pass B.1 ha' h41), mkW_i13, b1S y1, b1S (v_need B.2.1 ha' wd41 h41), b2S rfl, mkV_i29, if_pos rfl, mkV_r29, mkV_c29, ← eh3, b1S (v_sees B3.2.1 (by omega) wd123), if_see]
      have hbody := fun_body (oc := oc) (WT := wt) (x := x) (co := co) (op := op) (sz := sz) (so := so) (wh := wh) (oe := oe) (tw := tw) (th := th) (nx := nx) (tk := tk) (os := os) (wa := wa) (wf := wf) (fC := min fC1 T0) (fM := fM1) (a := a1 + 1) (l := l) (nd := nd) B3 L3 hx hoc (by rcases hag with e | e; exact Or.inl e; right; omega) (frel_nh hF2 rfl rfl rfl) (by omega) (by omega) (by omega) (by omega) ⟨ar, har, by rw [eh3]; exact kH.2.2.2.2.1.trans h42⟩
      rcases hbody with ⟨g4, h4, a4, e, nd4, fC4, fM4, oc4, wt4, co', op', sz', so', wh', oe', tw', th', nx', tk', os', wa', wf', z1, z2, z3, z4, z5, z6, z7, z8, z9, z10, z11, z12, z13⟩ | ⟨r, y, k1, k2⟩
      · left
        obtain ⟨z8a, z8b, z8c, z8d, z8e, z8f, z8g⟩ := z8
        obtain ⟨⟨d1, d2, d3, d4, d5, d6, d7⟩, d8, d9, d10, d11, d12, d13, d14⟩ := z3
        have r3 : ∀ k, k < q → g4.2.2.1 3 k = g.2.2.1 3 k := fun k hk => (congrFun d4 k).trans (y7 k hk).2.1
        have r4 : ∀ k, k < q → g4.2.2.1 4 k = g.2.2.1 4 k := fun k hk => (congrFun d5 k).trans (y7 k hk).2.2.1
        have r5 : ∀ k, k < q → g4.2.2.1 5 k = g.2.2.1 5 k := fun k hk => (congrFun d6 k).trans (y7 k hk).2.2.2.1
        have r29 : ∀ k, k < q → h4.2.2.1 29 k = h.2.2.1 29 k := fun k hk => (congrFun d13 k).trans (y7 k hk).2.2.2.2.1
        have r30 : ∀ k, k < q → upd (h4.2.2.1 30) x (nI nd) k = h.2.2.1 30 k := fun k hk => by
          rw [upd_n (y7 k hk).1, d14]; exact (y7 k hk).2.2.2.2.2
        refine ⟨_, _, a4, z1, z2, ⟨g4, sA h4 30 (upd (h4.2.2.1 30) x (nI nd)), tg', q', na, nf', fC4, fM4, e + 2, nd4, oc4, wt4, 0, co', op', sz', so', wh', oe', tw', th', nx', tk', os', wa', wf', rfl, rfl, tkc_keep B3.1 z4, tkm_keep (frm_same (frm_sA z5 (by omega))) B3.2.1, ?_, z6, ⟨z7.1, by omega, z7.2⟩, frc_trans (frc_trans Fc' y2) z4, frm_sA (frm_trans (frm_trans Fm' Fh3) z5) (by omega), ⟨z8b, by omega, by omega⟩, z13, ?_, ?_, ?_⟩, by omega⟩
        · exact gr_same y6 ⟨d1, d2, d3⟩ ⟨d8, d9, d10⟩ (fun k _ => ⟨congrFun d7 k, congrFun d4 k, congrFun d11 k, congrFun d12 k⟩)
        · intro xx t k
          obtain ⟨s1, -⟩ := z11 _ _ (fun _ _ _ => ⟨rfl, rfl, rfl⟩) (fun _ _ _ => ⟨rfl, rfl, rfl, rfl, rfl, rfl, fun _ => rfl⟩)
          have c1 : CE (mkW g4 0 (-1) (wn n p fC4) (nI a4) (nI 0) (nI (e + 2)) co' op' sz').2.2.1 0 l xx t k ↔ CE (mkW g 0 (-1) (wn n p fC) (nI (a + 2)) (nI 0) (nI l) co op sz).2.2.1 0 l xx t k := ce_congr (fun i _ hi => z9 i hi)
          have c2 : ¬ CE (mkW g4 0 (-1) (wn n p fC4) (nI a4) (nI 0) (nI (e + 2)) co' op' sz').2.2.1 e (e + 1) xx t k := ce_none (by
            show ¬ (co' e = 13 ∨ co' e = 14 ∨ co' e = 15)
            rw [z12.1]; decide)
          have c3 : ¬ CE (mkW g4 0 (-1) (wn n p fC4) (nI a4) (nI 0) (nI (e + 2)) co' op' sz').2.2.1 (e + 1) (e + 2) xx t k := ce_none (by
            show ¬ (co' (e + 1) = 13 ∨ co' (e + 1) = 14 ∨ co' (e + 1) = 15)
            rw [z12.2.2]; decide)
          have n1 : NE K (mkV (sA h4 30 (upd (h4.2.2.1 30) x (nI nd))) 0 (-1) (ftk n fM4) (nI a4) (nI 0) (nI nd4) (nI oc4) (nI wt4) so' wh' oe' tw' th' nx' tk' os' wa' wf').2.2.1 0 nd xx t k ↔ NE K (mkV h 0 (-1) (ftk n fM) (nI (a + 2)) (nI 0) (nI nd) (nI oc) (nI wt) so wh oe tw th nx tk os wa wf).2.2.1 0 nd xx t k := ne_congr (fun i _ hi => ⟨(z10 i hi).1, (z10 i hi).2.1, (z10 i hi).2.2.2.2.2.2⟩)
          constructor
          · intro hh
            rcases (ce_split (m := l) (by omega) (by omega)).mp hh with u | u
            · exact (ne_split (m := nd) (by omega) (by omega)).mpr (Or.inl (n1.mpr ((hE xx t k).mp (c1.mp u))))
            · rcases (ce_split (m := e) (by omega) (by omega)).mp u with u | u
              · exact (ne_split (m := nd) (by omega) (by omega)).mpr (Or.inr ((s1 xx t k).mp u))
              · rcases (ce_split (m := e + 1) (by omega) (by omega)).mp u with u | u
                · exact absurd u c2
                · exact absurd u c3
          · intro hh
            rcases (ne_split (m := nd) (by omega) (by omega)).mp hh with u | u
            · exact (ce_split (m := l) (by omega) (by omega)).mpr (Or.inl (c1.mpr ((hE xx t k).mpr (n1.mp u))))
            · exact (ce_split (m := l) (by omega) (by omega)).mpr (Or.inr ((ce_split (m := e) (by omega) (by omega)).mpr (Or.inl ((s1 xx t k).mpr u))))
        · intro k hk e0
          rcases Nat.lt_or_ge k q with hkq | hkq
          · exact ari_keep (hA k hkq ((r3 k hkq).symm.trans e0)) (by omega) (r4 k hkq) (r5 k hkq) (r29 k hkq) (r30 k hkq)
          · rcases y8 with y8 | ⟨w1, w2, w3, w4, w5, w6⟩
            · omega
            · obtain rfl : k = q := by omega
              rw [congrFun d4 k, w3] at e0
              exact absurd e0 (by decide)
        · intro k hk e0
          rcases Nat.lt_or_ge k q with hkq | hkq
          · exact fni_keep (hN k hkq ((r3 k hkq).symm.trans e0)) (by omega) (by omega) (by omega) (fun i hi => z9 i hi) (fun i hi => ⟨(z10 i hi).1, (z10 i hi).2.1, (z10 i hi).2.2.1, (z10 i hi).2.2.2.1, (z10 i hi).2.2.2.2.1, (z10 i hi).2.2.2.2.2.1, (z10 i hi).2.2.2.2.2.2⟩) (r4 k hkq) (r5 k hkq) (r29 k hkq) (r30 k hkq)
          · rcases y8 with y8 | ⟨w1, w2, w3, w4, w5, w6⟩
            · omega
            · obtain rfl : k = q := by omega
              refine ⟨i, l, (congrFun d6 k).trans w5, (congrFun d13 k).trans w6, hi, (congrFun d5 k).trans w4, by omega, fun hnf => ?_⟩
              obtain ⟨u1, u2⟩ := hvi (by omega)
              rw [u1] at z11
              refine ⟨u2, nd, e, a1 + 1, a4, nd, nd4, ?_, z11, z8a, z8b, z8c, Nat.le_refl _, Nat.le_refl _, z8e, Nat.le_refl _, z12.1, z12.2.1, z12.2.2⟩
              show upd (h4.2.2.1 30) x (nI nd) k = _
              rw [w2, upd_e]
      · right
        obtain ⟨u, w1, w2⟩ := k1
        obtain ⟨u', w3, w4⟩ := k2
        exact ⟨r, y, ⟨u, w1, cb_base (frc_trans Fc' y2) w2⟩, ⟨u', w3, mb_base (frm_trans Fm' Fh3) w4⟩⟩
    · right
      rw [b1S (w_passN B.1 ha' h41), b1S (v_needN B.2.1 ha' wd41 h41), b2S rfl, mkV_i29, if_neg (by decide)]
      refine ⟨3, nI (p a1), ?_, ?_⟩
      · have hcb := cb_base Fc' (cq_mkW (r := 3) (q := nI (p a1)) (w := wn n p fC1) (a := nI a1) (o := nI 0) (l := l) (co := co) (op := op) (sz := sz) B (by decide) (by omega))
        exact kb1 (kb_makeFun hcb) fun u hu => kb1 (kb_open hu (by decide)) fun u hu => kb21 (kb_statements (d := 79) hu) fun _ u hu => kb1 (kb_closing hu (by decide)) fun u hu => kb1 (kb_add hu) fun u hu => kb1 (kb_add hu) fun u hu => kbs hu
      · have b := mb_base (frm_trans Fm FhG) (mq_V (r := 3) (q := nI (p a1)) (ft := ftk n fM1) (o := nI 0) (wt := nI wt) (so := so) (wh := wh) (oe := oe) (tw := tw) (th := th) (nx := nx) (tk := tk) (os := os) (wa := wa) (wf := wf) (nd := nd) (oc := oc) kH e42 har (by decide) ha' (by omega) hoc)
        exact km_fp1 (mb_sA b (by omega)) (by omega)
  · right
    refine ⟨r, y, ?_, ?_⟩
    · obtain ⟨u, w1, w2⟩ := kb21 (f := fun r5 u5 => tGrammar_function_L 2000 1 u5 (nI (a + 1)) r5) k1 (fun z u hu => kb_funL hu (by omega))
      exact ⟨u, w1, cb_base (frc_trans Fc Fg) w2⟩
    · obtain ⟨z, u, w1, w2⟩ := k2
      rw [b2S w1, w2.2.1, if_neg w2.2.2.2.1]
      obtain ⟨u', w3, w4⟩ := km_fp1 (x1 := nI x) (x2 := 0) (N := 2000) (mb_sA (j := 29) (f := upd (u.2.2.1 29) x z) w2 (by omega)) (by omega)
      exact ⟨u', w3, mb_base (frm_trans Fm FhG) w4⟩
end FY
