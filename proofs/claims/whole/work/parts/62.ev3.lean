/-! Values with two parts. -/
section EX
variable {g h : St} {F : Nat → Nat → Nat → Prop} {len nn q n d N a b v w x z T B f t D V tk : Nat} {c m : St}
theorem strict_says {k y : Int32} (hk : strict k) : ¬ says k y := by
  intro hs
  rcases hs with ⟨rfl, -⟩ | ⟨rfl, -⟩
  · exact absurd hk (by unfold strict; decide)
  · exact absurd hk (by unfold strict; decide)
theorem ev_pair (hS : Sta g h F len nn q) (ih : EVd g h F len nn q n d) (hB : Bd (d + 1) w x z T B f t D V tk v n) (hR : Rl g h q c m a T B f t (D + 1) V tk v) (hN : m.2.2.1 41 D = nI N) (hs : m.2.2.1 42 D = 0) (k1 : N < 499) (k3 : b ≤ len) {M M' i e z1 z2 : Nat}
    (e0 : h.2.2.1 20 N = 7) (e1 : b = e + 1) (e2 : z = z1 + z2 + 3) (e3 : h.2.2.1 22 N = nI M) (e3' : h.2.2.1 23 N = nI M') (e4 : CV g.2.2.1 h.2.2.1 F len nn d M a i v w x z1) (e4' : CV g.2.2.1 h.2.2.1 F len nn d M' i e v (w + 1) (x + 1) z2) (e5 : g.2.2.1 6 e = h.2.2.1 21 N) (e6 : strict (h.2.2.1 21 N)) : VO g h q c m b T B f t D V tk v z (b - a) := by
  obtain ⟨s1, s2, s3, s4, s5, s6, s7⟩ := hS
  obtain ⟨h1, h2, h3, h4, h5, h6, h7, h8, h9, h10⟩ := id hB
  obtain ⟨l1, l2, l3, l4, l5⟩ := cv_lt e4
  obtain ⟨r1, r2, r3, r4, r5⟩ := cv_lt e4'
  obtain ⟨m1, p1, p2, p3, p4, p5, p6, p7⟩ := first_step (T' := T) (f' := f) (V' := V) (X' := 12 * f) hR hN hs (by rw [e0]; exact Or.inr (Or.inr (Or.inl rfl))) e3 (by omega) (by omega)
  refine vo_child (zr := z2 + 2) (yr := e - i + 1) p1 (show CSteps 0 c c from rfl) p7 (ih M a i v w x z1 e4 c m1 T B f t (D + 1) V tk ⟨h1, h2, h3, h4, h5, h6, by omega, h8, h9, by omega⟩ p2 p3 p4) ⟨by omega, by omega, by omega, by omega, by omega⟩ (by omega) (by omega) ?_
  intro c2 m2 t2 tk2 hR2 hv2 hF2 ht2 ht3 htk
  have hN2 := (hF2.2.2.1 D (by omega)).1.trans p5
  have hs2 := (hF2.2.2.1 D (by omega)).2.trans p6
  obtain ⟨o, stk, el, re, ba, ou, om, ce, bk, bg, sg, vl, rfl, rfl, ho, hou, hel, hva⟩ := hR2
  have hNb : bg D = nI N := hN2
  have hsb : sg D = 1 := hs2
  have em := g_behind (tk := nI tk2) (o := nI o) (V := nI (V + 1)) (f := nI f) (t := nI t2) (s := 0) (ou := om) (ce := ce) (bk := bk) (sg := sg) (vl := vl) (by omega : D < 1600) hNb (by omega) e0 (Or.inr (Or.inr (Or.inl rfl))) (by rw [hsb]; decide)
  rw [hsb, h_pair1 (by omega) e0 rfl (Or.inl e6) (by omega) (by omega) (strict_says e6)] at em
  refine vo_child (zr := 1) (yr := 1) (T1 := T + 1) (D1 := D + 1) (V1 := V + 1) (t1 := t2) (tk1 := tk2) (MSteps.one em (by omega)) (show CSteps 0 _ _ from rfl) ⟨fun j hj => rfl, fun j hj => ⟨rfl, rfl⟩, fun j hj => ⟨upd_n (by omega), (upd_n (by omega)).trans (upd_n (by omega))⟩, fun j hj => rfl, fun j hj => rfl⟩ (ih M' i e v (w + 1) (x + 1) z2 e4' _ _ (T + 1) B f t2 (D + 1) (V + 1) tk2 ⟨h1, h2, h3, by omega, h5, by omega, by omega, ht3, by omega, by omega⟩ ⟨o, stk, el, re, ba, ou, om, ce, bk, _, _, vl, rfl, rfl, ho, hou, hel, hva⟩ ?_ ?_) ⟨by omega, by omega, by omega, by omega, by omega⟩ (by omega) (by omega) ?_
  · show upd bg (D + 1) (h.2.2.1 23 N) (D + 1) = nI M'
    rw [upd_e, e3']
  · show upd (upd sg D (1 + 1)) (D + 1) 0 (D + 1) = 0
    rw [upd_e]
  intro c4 m4 t4 tk4 hR4 hv4 hF4 ht4 ht5 htk4
  have hN4 := (hF4.2.2.1 D (by omega)).1
  have hs4 := (hF4.2.2.1 D (by omega)).2
  have hT4 := hF4.1 T (by omega)
  have hV4 := hF4.2.2.2.1 V (by omega)
  obtain ⟨o', stk', el', re', ba', ou', om', ce', bk', bg', sg', vl', rfl, rfl, ho', hou', hel', hva'⟩ := hR4
  have hv2 : stk T = vl V := hv2
  have hv4 : stk' (T + 1) = vl' (V + 1) := hv4
  have hNb' : bg' D = nI N := by
    refine Eq.trans hN4 ?_
    show upd bg (D + 1) (h.2.2.1 23 N) D = nI N
    rw [upd_n (by omega), hNb]
  have hsb' : sg' D = 2 := by
    refine Eq.trans hs4 ?_
    show upd (upd sg D (1 + 1)) (D + 1) 0 D = 2
    rw [upd_n (by omega), upd_e]; rfl
  have hT5 : stk' T = stk T := hT4
  have hV5 : vl' V = vl V := hV4
  have em4 := g_behind (tk := nI tk4) (o := nI o') (V := nI (V + 2)) (f := nI f) (t := nI t4) (s := 0) (ou := om') (ce := ce') (bk := bk') (sg := sg') (vl := vl') (by omega : D < 1600) hNb' (by omega) e0 (Or.inr (Or.inr (Or.inl rfl))) (by rw [hsb']; decide)
  rw [hsb', h_pair2 (by omega) e0 rfl (by omega) (by decide) (fun σ => wo_m σ _ _ _ e6)] at em4
  have ec := i_bin (nx := nI (min tk4 q)) (B := nI B) (f := nI f) (s := 3) (o := nI o') (t := nI t4) (res := 0) (stk := stk') (el := el') (re := re') (ba := ba') (ou := ou') s1 s2 (by omega) e5 e6 (by omega : T + 1 < 576)
  subst e1
  refine ⟨1, 1, _, _, MSteps.one em4 (by omega), CSteps.mk ec, Or.inl ⟨t4, tk4, ⟨o', _, _, _, _, _, _, _, _, _, _, _, rfl, rfl, ho', hou', hel', fun k hk => ?_⟩, ?_, ⟨fun j hj => ?_, fun j hj => ⟨rfl, rfl⟩, fun j hj => ⟨rfl, ?_⟩, fun j hj => ?_, fun j hj => rfl⟩, by omega, by omega, by omega, by omega, by omega⟩⟩
  · rw [upd_n (by omega)]; exact hva' k hk
  · show upd stk' T _ T = upd vl' V _ V
    rw [upd_e, upd_e, hv4, hT5, hV5, hv2]
  · exact upd_n (by omega)
  · exact upd_n (by omega)
  · exact upd_n (by omega)
theorem ev_both (hS : Sta g h F len nn q) (ih : EVd g h F len nn q n d) (hB : Bd (d + 1) w x z T B f t D V tk v n) (hR : Rl g h q c m a T B f t (D + 1) V tk v) (hN : m.2.2.1 41 D = nI N) (hs : m.2.2.1 42 D = 0) (k1 : N < 499) (k3 : b ≤ len) {M M' i e z1 z2 : Nat}
    (e0 : h.2.2.1 20 N = 7) (e1 : b = e + 1) (e2 : z = z1 + z2 + 3) (e3 : h.2.2.1 22 N = nI M) (e3' : h.2.2.1 23 N = nI M') (e4 : CV g.2.2.1 h.2.2.1 F len nn d M a i v w x z1) (e5 : g.2.2.1 6 i = h.2.2.1 21 N) (e5' : g.2.2.1 7 i = nI b) (e4' : CV g.2.2.1 h.2.2.1 F len nn d M' (i + 1) e v w (x + 1) z2) (e7 : g.2.2.1 6 e = 18) (e6 : h.2.2.1 21 N = 294 ∨ h.2.2.1 21 N = 380) : VO g h q c m b T B f t D V tk v z (b - a) := by
  obtain ⟨s1, s2, s3, s4, s5, s6, s7⟩ := hS
  obtain ⟨h1, h2, h3, h4, h5, h6, h7, h8, h9, h10⟩ := id hB
  obtain ⟨l1, l2, l3, l4, l5⟩ := cv_lt e4
  obtain ⟨r1, r2, r3, r4, r5⟩ := cv_lt e4'
  obtain ⟨m1, p1, p2, p3, p4, p5, p6, p7⟩ := first_step (T' := T) (f' := f) (V' := V) (X' := 12 * f) hR hN hs (by rw [e0]; exact Or.inr (Or.inr (Or.inl rfl))) e3 (by omega) (by omega)
  refine vo_child (zr := z2 + 2) (yr := e - i + 1) p1 (show CSteps 0 c c from rfl) p7 (ih M a i v w x z1 e4 c m1 T B f t (D + 1) V tk ⟨h1, h2, h3, h4, h5, h6, by omega, h8, h9, by omega⟩ p2 p3 p4) ⟨by omega, by omega, by omega, by omega, by omega⟩ (by omega) (by omega) ?_
  intro c2 m2 t2 tk2 hR2 hv2 hF2 ht2 ht3 htk
  have hN2 := (hF2.2.2.1 D (by omega)).1.trans p5
  have hs2 := (hF2.2.2.1 D (by omega)).2.trans p6
  obtain ⟨o, stk, el, re, ba, ou, om, ce, bk, bg, sg, vl, rfl, rfl, ho, hou, hel, hva⟩ := hR2
  have hNb : bg D = nI N := hN2
  have hsb : sg D = 1 := hs2
  have hv2 : stk T = vl V := hv2
  have em := g_behind (tk := nI tk2) (o := nI o) (V := nI (V + 1)) (f := nI f) (t := nI t2) (s := 0) (ou := om) (ce := ce) (bk := bk) (sg := sg) (vl := vl) (by omega : D < 1600) hNb (by omega) e0 (Or.inr (Or.inr (Or.inl rfl))) (by rw [hsb]; decide)
  rw [hsb] at em
  -- the class decides
  have ecS : says (h.2.2.1 21 N) (vl V) → tMachine_step (mkC g (nI (min tk2 q)) (nI (T + 1)) (nI B) (nI f) (nI i) 3 (nI o) (nI t2) 0 stk el re ba ou) = some (mkC g (nI (min tk2 q)) (nI (T + 1)) (nI B) (nI f) (nI b) 3 (nI o) (nI t2) 0 (upd stk T (tr (vl V))) el re ba ou) := by
    intro hsay
    rcases hsay with ⟨e6, h0⟩ | ⟨e6, h0⟩
    · rw [i_both s1 s2 (by omega) (e5.trans e6) e5' (by omega), hv2, if_pos (show tr (vl V) = 0 by unfold tr; rw [if_pos h0])]
      unfold tr; rw [if_pos h0]
    · rw [i_either s1 s2 (by omega) (e5.trans e6) e5' (by omega), hv2, if_pos (show tr (vl V) = 1 by unfold tr; rw [if_neg h0])]
      unfold tr; rw [if_neg h0]
  have ecN : ¬ says (h.2.2.1 21 N) (vl V) → tMachine_step (mkC g (nI (min tk2 q)) (nI (T + 1)) (nI B) (nI f) (nI i) 3 (nI o) (nI t2) 0 stk el re ba ou) = some (mkC g (nI (min tk2 q)) (nI T) (nI B) (nI f) (nI (i + 1)) 3 (nI o) (nI t2) 0 stk el re ba ou) := by
    intro hsay
    rcases e6 with e6 | e6
    · have h0 : ¬ vl V = 0 := fun z => hsay (Or.inl ⟨e6, z⟩)
      rw [i_both s1 s2 (by omega) (e5.trans e6) e5' (by omega), hv2, if_neg (show ¬ tr (vl V) = 0 by unfold tr; rw [if_neg h0]; decide)]
    · have h0 : vl V = 0 := Classical.byContradiction fun z => hsay (Or.inr ⟨e6, z⟩)
      rw [i_either s1 s2 (by omega) (e5.trans e6) e5' (by omega), hv2, if_neg (show ¬ tr (vl V) = 1 by unfold tr; rw [if_pos h0]; decide)]
  by_cases hsay : says (h.2.2.1 21 N) (vl V)
  · rw [h_pair1s (by omega) e0 rfl (by omega) hsay] at em
    have ec := ecS hsay
    refine ⟨1, 1, _, _, MSteps.one em (by omega), CSteps.mk ec, Or.inl ⟨t2, tk2, ⟨o, _, _, _, _, _, _, _, _, _, _, _, rfl, rfl, ho, hou, hel, fun k hk => ?_⟩, ?_, ⟨fun j hj => ?_, fun j hj => ⟨rfl, rfl⟩, fun j hj => ⟨rfl, ?_⟩, fun j hj => ?_, fun j hj => rfl⟩, by omega, by omega, by omega, by omega, by omega⟩⟩
    · rw [upd_n (by omega)]; exact hva k hk
    · show upd stk T _ T = upd vl V _ V
      rw [upd_e, upd_e]
    · exact upd_n (by omega)
    · exact upd_n (by omega)
    · exact upd_n (by omega)
  rw [h_pair1 (by omega) e0 rfl (Or.inr e6) (by omega) (by omega) hsay] at em
  have ec := ecN hsay
  refine vo_child (zr := 1) (yr := 1) (T1 := T) (D1 := D + 1) (V1 := V + 1) (t1 := t2) (tk1 := tk2) (MSteps.one em (by omega)) (CSteps.mk ec) ⟨fun j hj => rfl, fun j hj => ⟨rfl, rfl⟩, fun j hj => ⟨upd_n (by omega), (upd_n (by omega)).trans (upd_n (by omega))⟩, fun j hj => rfl, fun j hj => rfl⟩ (ih M' (i + 1) e v w (x + 1) z2 e4' _ _ T B f t2 (D + 1) (V + 1) tk2 ⟨h1, h2, h3, by omega, h5, by omega, by omega, ht3, by omega, by omega⟩ ⟨o, stk, el, re, ba, ou, om, ce, bk, _, _, vl, rfl, rfl, ho, hou, hel, hva⟩ ?_ ?_) ⟨by omega, by omega, by omega, by omega, by omega⟩ (by omega) (by omega) ?_
  · show upd bg (D + 1) (h.2.2.1 23 N) (D + 1) = nI M'
    rw [upd_e, e3']
  · show upd (upd sg D (1 + 1)) (D + 1) 0 (D + 1) = 0
    rw [upd_e]
  intro c4 m4 t4 tk4 hR4 hv4 hF4 ht4 ht5 htk4
  have hN4 := (hF4.2.2.1 D (by omega)).1
  have hs4 := (hF4.2.2.1 D (by omega)).2
  obtain ⟨o', stk', el', re', ba', ou', om', ce', bk', bg', sg', vl', rfl, rfl, ho', hou', hel', hva'⟩ := hR4
  have hv4 : stk' T = vl' (V + 1) := hv4
  have hNb' : bg' D = nI N := by
    refine Eq.trans hN4 ?_
    show upd bg (D + 1) (h.2.2.1 23 N) D = nI N
    rw [upd_n (by omega), hNb]
  have hsb' : sg' D = 2 := by
    refine Eq.trans hs4 ?_
    show upd (upd sg D (1 + 1)) (D + 1) 0 D = 2
    rw [upd_n (by omega), upd_e]; rfl
  have em4 := g_behind (tk := nI tk4) (o := nI o') (V := nI (V + 2)) (f := nI f) (t := nI t4) (s := 0) (ou := om') (ce := ce') (bk := bk') (sg := sg') (vl := vl') (by omega : D < 1600) hNb' (by omega) e0 (Or.inr (Or.inr (Or.inl rfl))) (by rw [hsb']; decide)
  rw [hsb', h_pair2 (by omega) e0 rfl (by omega) (by decide) (fun σ => comb_and e6)] at em4
  have ec4 := i_truth (nx := nI (min tk4 q)) (B := nI B) (f := nI f) (s := 3) (o := nI o') (t := nI t4) (res := 0) (stk := stk') (el := el') (re := re') (ba := ba') (ou := ou') s1 s2 (by omega) e7 (by omega : T < 576)
  subst e1
  refine ⟨1, 1, _, _, MSteps.one em4 (by omega), CSteps.mk ec4, Or.inl ⟨t4, tk4, ⟨o', _, _, _, _, _, _, _, _, _, _, _, rfl, rfl, ho', hou', hel', fun k hk => ?_⟩, ?_, ⟨fun j hj => ?_, fun j hj => ⟨rfl, rfl⟩, fun j hj => ⟨rfl, ?_⟩, fun j hj => ?_, fun j hj => rfl⟩, by omega, by omega, by omega, by omega, by omega⟩⟩
  · rw [upd_n (by omega)]; exact hva' k hk
  · show upd stk' T _ T = upd vl' V _ V
    rw [upd_e, upd_e, hv4]
  · exact upd_n (by omega)
  · exact upd_n (by omega)
  · exact upd_n (by omega)
end EX
