/-! Choices and loops; every statement. -/
section EU
variable {g h : St} {F : Nat → Nat → Nat → Prop} {len nn q n d N a b v v' z B f t D V tk Dc : Nat} {c m c1 m1 : St}
/-- behind a choice's branch -/
theorem es_ifend {y : Nat} (hk : h.2.2.1 20 N = 13) (hN : m.2.2.1 41 D = nI N) (hs : m.2.2.1 42 D = 2) (hN2 : N < 500) (hD : D < 1600) (hR : Rl g h q c m b (B + 12) B f t (D + 1) V tk v) (ht : t ≤ 400) : SO g h q c m b B f t D V tk v 1 y Dc := by
  obtain ⟨o, stk, el, re, ba, ou, om, ce, bk, bg, sg, vl, rfl, rfl, ho, hou, hel, hva⟩ := hR
  have hNb : bg D = nI N := hN
  have hsb : sg D = 2 := hs
  have em := g_behind (tk := nI tk) (o := nI o) (V := nI V) (f := nI f) (t := nI t) (s := 0) (ou := om) (ce := ce) (bk := bk) (sg := sg) (vl := vl) hD hNb hN2 hk (by unfold isFirst; decide) (by rw [hsb]; decide)
  rw [hsb, h_if2 hN2 hk (by decide)] at em
  refine ⟨1, 0, _, _, MSteps.one em (by omega), rfl, Or.inl ⟨t, tk, ⟨o, _, _, _, _, _, _, _, _, _, _, _, rfl, rfl, ho, hou, hel, hva⟩, ⟨fun j hj => rfl, fun j hj => ⟨rfl, rfl⟩, fun j hj => ⟨rfl, ?_⟩, fun j hj => rfl, fun j hj => rfl⟩, by omega, by omega, by omega, by omega, by omega⟩⟩
  exact upd_n (by omega)
theorem es_if (hS : Sta g h F len nn q) (ihv : EVd g h F len nn q n d) (ihs : ESd g h F len nn q n d) (hB : BdS (d + 1) z B f t D V tk n) (hRC : RC h m D Dc) (hR : Rl g h q c m a (B + 12) B f t (D + 1) V tk v) (hN : m.2.2.1 41 D = nI N) (hs : m.2.2.1 42 D = 0) (k1 : N < 499) (k3 : b ≤ len) (kv : v ≤ 12) {M S i e z1 z2 z3 : Nat} (e0 : h.2.2.1 20 N = 13) (e2 : z = z1 + z2 + z3 + 3) (e3 : h.2.2.1 22 N = nI M) (e3' : h.2.2.1 23 N = nI S) (e4 : CV g.2.2.1 h.2.2.1 F len nn d M a i v 0 0 z1) (e5 : g.2.2.1 6 i = 17) (e6 : CS g.2.2.1 h.2.2.1 F len nn d S (i + 1) e v v z2)
    (e7 : (h.2.2.1 24 N = -1 ∧ e = b ∧ g.2.2.1 7 i = nI b) ∨ (∃ S' : Nat, h.2.2.1 24 N = nI S' ∧ e < b ∧ g.2.2.1 6 e = 16 ∧ g.2.2.1 7 e = nI b ∧ g.2.2.1 7 i = nI (e + 1) ∧ CS g.2.2.1 h.2.2.1 F len nn d S' (e + 1) b v v z3)) : SO g h q c m b B f t D V tk v z (b - a) Dc := by
  obtain ⟨s1, s2, s3, s4, s5, s6, s7⟩ := hS
  obtain ⟨h1, h2, h5, h6, h7, h8, h9, h10⟩ := id hB
  obtain ⟨l1, l2, l3, l4, l5⟩ := cv_lt e4
  obtain ⟨r1, r2, r3, r4, r5⟩ := cs_le e6
  have hDc := hRC.1
  have heb : e ≤ b := by
    rcases e7 with ⟨-, q1, -⟩ | ⟨S', -, q1, -⟩ <;> omega
  obtain ⟨m1, p1, p2, p3, p4, p5, p6, p7⟩ := first_step (T' := B) (f' := f) (V' := V) (X' := 12 * (f - 1)) hR hN hs (by rw [e0]; unfold isFirst; decide) e3 (by omega) (by omega)
  refine so_val (zr := z2 + z3 + 2) (yr := b - i) p1 (show CSteps 0 c c from rfl) p7 (ihv M a i v 0 0 z1 e4 c m1 (B + 12) B f t (D + 1) V tk ⟨h1, h2, kv, by omega, h5, by omega, by omega, h8, h9, by omega⟩ p2 p3 p4) ⟨by omega, by omega, by omega, by omega, by omega, by omega, by omega⟩ (by omega) (by omega) ?_
  intro c2 m2 t2 tk2 hR2 hv2 hF2 ht2 ht3 htk
  have hN2 := (hF2.2.2.1 D (by omega)).1.trans p5
  have hs2 := (hF2.2.2.1 D (by omega)).2.trans p6
  have hRC2 : RC h m2 D Dc := by
    obtain ⟨r1, ⟨i, r2, r3, r4⟩, r5⟩ := hRC
    refine ⟨r1, ⟨i, r2, ((hF2.2.2.1 Dc (by omega)).1.trans (p7.2.2.1 Dc (by omega)).1).trans r3, r4⟩, fun j hj hj2 => ?_⟩
    obtain ⟨e, q1, q2, q3⟩ := r5 j hj hj2
    exact ⟨e, q1, ((hF2.2.2.1 j (by omega)).1.trans (p7.2.2.1 j (by omega)).1).trans q2, q3⟩
  obtain ⟨o, stk, el, re, ba, ou, om, ce, bk, bg, sg, vl, rfl, rfl, ho, hou, hel, hva⟩ := hR2
  have hNb : bg D = nI N := hN2
  have hsb : sg D = 1 := hs2
  have hv2 : stk (B + 12) = vl V := hv2
  have em := g_behind (tk := nI tk2) (o := nI o) (V := nI (V + 1)) (f := nI f) (t := nI t2) (s := 0) (ou := om) (ce := ce) (bk := bk) (sg := sg) (vl := vl) (by omega : D < 1600) hNb (by omega) e0 (by unfold isFirst; decide) (by rw [hsb]; decide)
  rw [hsb, h_if1 (by omega) e0 (by omega)] at em
  have ec := i_jz (nx := nI (min tk2 q)) (B := nI B) (f := nI f) (s := 3) (o := nI o) (t := nI t2) (res := 0) (stk := stk) (el := el) (re := re) (ba := ba) (ou := ou) s1 s2 (by omega) e5 rfl (show B + 12 < 576 by omega)
  rw [hv2] at ec
  have hd0 : ∀ (x : Int32) (j : Nat), j < D + 1 → upd bg (D + 1) x j = bg j := fun x j hj => upd_n (by omega)
  have hs0 : ∀ j, j < D → upd (upd sg D (1 + 1)) (D + 1) 0 j = sg j := fun j hj => (upd_n (by omega)).trans (upd_n (by omega))
  have hsD : upd (upd sg D (1 + 1)) (D + 1) 0 D = 2 := by rw [upd_n (by omega), upd_e]; rfl
  by_cases h0 : vl V = 0
  · rw [if_pos h0] at em ec
    rcases e7 with ⟨q1, q2, q3⟩ | ⟨S', q1, q2, q3, q4, q5, q6⟩
    · rw [q1, m_startNo] at em
      rw [q3] at ec
      refine ⟨1, 1, _, _, MSteps.one em (by omega), CSteps.mk ec, Or.inl ⟨t2, tk2, ⟨o, _, _, _, _, _, _, _, _, _, _, _, rfl, rfl, ho, hou, hel, hva⟩, ⟨fun j hj => rfl, fun j hj => ⟨rfl, rfl⟩, fun j hj => ⟨rfl, ?_⟩, fun j hj => rfl, fun j hj => rfl⟩, by omega, by omega, by omega, by omega, by omega⟩⟩
      exact upd_n (by omega)
    · obtain ⟨u1, u2, u3, u4, u5⟩ := cs_le q6
      rw [q1, m_startOr rfl (by omega) (by omega)] at em
      rw [q5] at ec
      refine so_stm (zr := 1) (yr := 0) (D1 := D + 1) (t1 := t2) (tk1 := tk2) (MSteps.one em (by omega)) (CSteps.mk ec) ⟨fun j hj => rfl, fun j hj => ⟨rfl, rfl⟩, fun j hj => ⟨hd0 _ j (by omega), hs0 j hj⟩, fun j hj => rfl, fun j hj => rfl⟩ (ihs S' (e + 1) b v v z3 q6 _ _ B f t2 (D + 1) V tk2 Dc ⟨h1, h2, h5, h6, by omega, ht3, by omega, by omega⟩ (RC.up (N := N) hRC2 ((hd0 _ D (by omega)).trans hNb) (by omega) (by rw [e0]; decide) (fun j hj => hd0 _ j (by omega))) ⟨o, stk, el, re, ba, ou, om, ce, bk, _, _, vl, rfl, rfl, ho, hou, hel, hva⟩ ?_ ?_) ⟨by omega, by omega, by omega, by omega, by omega⟩ (by omega) (by omega) ?_
      · show upd bg (D + 1) (nI S') (D + 1) = nI S'
        rw [upd_e]
      · show upd (upd sg D (1 + 1)) (D + 1) 0 (D + 1) = 0
        rw [upd_e]
      intro c4 m4 t4 tk4 hR4 hF4 ht4 ht5 htk4
      exact es_ifend e0 (((hF4.2.2.1 D (by omega)).1.trans (hd0 _ D (by omega))).trans hNb) ((hF4.2.2.1 D (by omega)).2.trans hsD) (by omega) (by omega) hR4 ht5
  · rw [if_neg h0] at em ec
    rw [e3', m_startOr rfl (by omega) (by omega)] at em
    refine so_stm (zr := 1) (yr := b - e) (D1 := D + 1) (t1 := t2) (tk1 := tk2) (MSteps.one em (by omega)) (CSteps.mk ec) ⟨fun j hj => rfl, fun j hj => ⟨rfl, rfl⟩, fun j hj => ⟨hd0 _ j (by omega), hs0 j hj⟩, fun j hj => rfl, fun j hj => rfl⟩ (ihs S (i + 1) e v v z2 e6 _ _ B f t2 (D + 1) V tk2 Dc ⟨h1, h2, h5, h6, by omega, ht3, by omega, by omega⟩ (RC.up (N := N) hRC2 ((hd0 _ D (by omega)).trans hNb) (by omega) (by rw [e0]; decide) (fun j hj => hd0 _ j (by omega))) ⟨o, stk, el, re, ba, ou, om, ce, bk, _, _, vl, rfl, rfl, ho, hou, hel, hva⟩ ?_ ?_) ⟨by omega, by omega, by omega, by omega, by omega⟩ (by omega) (by omega) ?_
    · show upd bg (D + 1) (nI S) (D + 1) = nI S
      rw [upd_e]
    · show upd (upd sg D (1 + 1)) (D + 1) 0 (D + 1) = 0
      rw [upd_e]
    intro c4 m4 t4 tk4 hR4 hF4 ht4 ht5 htk4
    have hN4 := ((hF4.2.2.1 D (by omega)).1.trans (hd0 _ D (by omega))).trans hNb
    have hs4 := (hF4.2.2.1 D (by omega)).2.trans hsD
    rcases e7 with ⟨q1, q2, q3⟩ | ⟨S', q1, q2, q3, q4, q5, q6⟩
    · subst q2
      exact es_ifend e0 hN4 hs4 (by omega) (by omega) hR4 ht5
    · obtain ⟨o', stk', el', re', ba', ou', om', ce', bk', bg', sg', vl', rfl, rfl, ho', hou', hel', hva'⟩ := hR4
      have ec4 := i_jump (nx := nI (min tk4 q)) (T := nI (B + 12)) (B := nI B) (f := nI f) (s := 3) (o := nI o') (t := nI t4) (res := 0) (stk := stk') (el := el') (re := re') (ba := ba') (ou := ou') s1 s2 (show e < len by omega) q3 q4
      obtain ⟨j, k, c5, m5, g1, g2, g3⟩ := es_ifend (y := 0) (Dc := Dc) (b := b) (B := B) (f := f) (v := v) (tk := tk4) (t := t4) (V := V) (D := D) (g := g) (h := h) (q := q) (c := mkC g (nI (min tk4 q)) (nI (B + 12)) (nI B) (nI f) (nI b) 3 (nI o') (nI t4) 0 stk' el' re' ba' ou') e0 hN4 hs4 (by omega) (by omega) ⟨o', stk', el', re', ba', ou', om', ce', bk', bg', sg', vl', rfl, rfl, ho', hou', hel', hva'⟩ ht5
      refine ⟨j, 1 + k, c5, m5, g1, (CSteps.mk ec4).trans g2, ?_⟩
      rcases g3 with ⟨t', tk', w1, w2, w3, w4, w5, w6, w7⟩ | ⟨t', tk', w1, w3, w4, w5, w6, w7⟩ | ⟨w1, w2, w3⟩
      · exact Or.inl ⟨t', tk', w1, w2, w3, w4, w5, w6, by omega⟩
      · refine Or.inr (Or.inl ⟨t', tk', ?_, w3, w4, w5, w6, by omega⟩)
        exact w1
      · exact Or.inr (Or.inr ⟨w1, w2, by omega⟩)
theorem es_while (hS : Sta g h F len nn q) (ihv : EVd g h F len nn q n d) (ihs : ESd g h F len nn q n d) (ihn : ∀ n', n' < n → ∀ d, ESd g h F len nn q n' d) (hcs : CS g.2.2.1 h.2.2.1 F len nn (d + 1) N a b v v z) (hB : BdS (d + 1) z B f t D V tk n) (hRC : RC h m D Dc) (hR : Rl g h q c m a (B + 12) B f t (D + 1) V tk v) (hN : m.2.2.1 41 D = nI N) (hs : m.2.2.1 42 D = 0) (k1 : N < 499) (k3 : b ≤ len) (kv : v ≤ 12) {M S i e z1 z2 : Nat} (e0 : h.2.2.1 20 N = 14) (e1 : b = e + 1) (e2 : z = z1 + z2 + 3) (e2' : z ≤ 4000) (e3 : h.2.2.1 22 N = nI M) (e3' : h.2.2.1 23 N = nI S) (e8 : g.2.2.1 6 a = 20) (e4 : CV g.2.2.1 h.2.2.1 F len nn d M (a + 1) i v 0 0 z1) (e5 : g.2.2.1 6 i = 17) (e5' : g.2.2.1 7 i = nI b) (e6 : CS g.2.2.1 h.2.2.1 F len nn d S (i + 1) e v v z2) (e7 : g.2.2.1 6 e = 16) (e7' : g.2.2.1 7 e = nI a) : SO g h q c m b B f t D V tk v z (b - a) Dc := by
  have hS' := hS
  obtain ⟨s1, s2, s3, s4, s5, s6, s7⟩ := hS
  obtain ⟨h1, h2, h5, h6, h7, h8, h9, h10⟩ := id hB
  obtain ⟨l1, l2, l3, l4, l5⟩ := cv_lt e4
  obtain ⟨r1, r2, r3, r4, r5⟩ := cs_le e6
  have hDc := hRC.1
  obtain ⟨o, stk, el, re, ba, ou, om, ce, bk, bg, sg, vl, rfl, rfl, ho, hou, hel, hva⟩ := hR
  have hNb : bg D = nI N := hN
  have hsb : sg D = 0 := hs
  by_cases ht : t = 400
  · subst ht
    obtain ⟨sg', em⟩ := g_while400 (tk := nI tk) (o := nI o) (V := nI V) (f := nI f) (ou := om) (ce := ce) (bk := bk) (vl := vl) (by omega : D < 1600) hNb (by omega) e0 hsb
    have ec := i_tick0 (nx := nI (min tk q)) (T := nI (B + 12)) (B := nI B) (f := nI f) (s := 3) (o := nI o) (res := 0) (stk := stk) (el := el) (re := re) (ba := ba) (ou := ou) s1 s2 (show a < len by omega) e8
    exact ⟨1, 1, _, _, MSteps.one em (by omega), CSteps.mk ec, Or.inr (Or.inr ⟨⟨Or.inr rfl, rfl, ⟨o, ho, rfl, rfl, hou⟩, ⟨400, by omega, rfl, rfl⟩, rfl⟩, by omega, by omega⟩)⟩
  have em := g_while0 (tk := nI tk) (o := nI o) (V := nI V) (f := nI f) (ou := om) (ce := ce) (bk := bk) (vl := vl) (by omega : D + 1 < 1600) hNb (by omega) e0 hsb (show t < 400 by omega)
  have ec := i_tick (nx := nI (min tk q)) (T := nI (B + 12)) (B := nI B) (f := nI f) (s := 3) (o := nI o) (res := 0) (stk := stk) (el := el) (re := re) (ba := ba) (ou := ou) s1 s2 (show a < len by omega) e8 (show t < 400 by omega)
  refine so_val (zr := z2 + 2 + z) (yr := e - i + 1 + (b - a)) (T1 := B + 12) (D1 := D + 1) (V1 := V) (t1 := t + 1) (tk1 := tk) (MSteps.one em (by omega)) (CSteps.mk ec) ⟨fun j hj => rfl, fun j hj => ⟨rfl, rfl⟩, fun j hj => ⟨upd_n (by omega), (upd_n (by omega)).trans (upd_n (by omega))⟩, fun j hj => rfl, fun j hj => rfl⟩ (ihv M (a + 1) i v 0 0 z1 e4 _ _ (B + 12) B f (t + 1) (D + 1) V tk ⟨h1, h2, kv, by omega, h5, by omega, by omega, by omega, by omega, by omega⟩ ⟨o, stk, el, re, ba, ou, om, ce, bk, _, _, vl, rfl, rfl, ho, hou, hel, hva⟩ ?_ ?_) ⟨by omega, by omega, by omega, by omega, by omega, by omega, by omega⟩ (by omega) (by omega) ?_
  · show upd bg (D + 1) (h.2.2.1 22 N) (D + 1) = nI M
    rw [upd_e, e3]
  · show upd (upd sg D 1) (D + 1) 0 (D + 1) = 0
    rw [upd_e]
  intro c2 m2 t2 tk2 hR2 hv2 hF2 ht2 ht3 htk
  have hbl : ∀ j, j < D + 1 → m2.2.2.1 41 j = bg j := fun j hj => by
    refine Eq.trans (hF2.2.2.1 j (by omega)).1 ?_
    show upd bg (D + 1) (h.2.2.1 22 N) j = bg j
    exact upd_n (by omega)
  have hs2 : m2.2.2.1 42 D = 1 := by
    refine Eq.trans (hF2.2.2.1 D (by omega)).2 ?_
    show upd (upd sg D 1) (D + 1) 0 D = 1
    rw [upd_n (by omega), upd_e]
  obtain ⟨o2, stk2, el2, re2, ba2, ou2, om2, ce2, bk2, bg2, sg2, vl2, rfl, rfl, ho2, hou2, hel2, hva2⟩ := hR2
  have hNb2 : bg2 D = nI N := (hbl D (by omega)).trans hNb
  have hsb2 : sg2 D = 1 := hs2
  have hv2 : stk2 (B + 12) = vl2 V := hv2
  have em2 := g_while1 (tk := nI tk2) (o := nI o2) (f := nI f) (t := nI t2) (ou := om2) (ce := ce2) (bk := bk2) (vl := vl2) (by omega : D < 1600) hNb2 (by omega) e0 hsb2 (show V < 400 by omega)
  have ec2 := i_jz (nx := nI (min tk2 q)) (B := nI B) (f := nI f) (s := 3) (o := nI o2) (t := nI t2) (res := 0) (stk := stk2) (el := el2) (re := re2) (ba := ba2) (ou := ou2) s1 s2 (show i < len by omega) e5 e5' (show B + 12 < 576 by omega)
  rw [hv2] at ec2
  by_cases h0 : vl2 V = 0
  · rw [if_pos h0] at em2 ec2
    rw [m_startNo] at em2
    refine ⟨1, 1, _, _, MSteps.one em2 (by omega), CSteps.mk ec2, Or.inl ⟨t2, tk2, ⟨o2, _, _, _, _, _, _, _, _, _, _, _, rfl, rfl, ho2, hou2, hel2, hva2⟩, ⟨fun j hj => rfl, fun j hj => ⟨rfl, rfl⟩, fun j hj => ⟨rfl, ?_⟩, fun j hj => rfl, fun j hj => rfl⟩, by omega, by omega, by omega, by omega, by omega⟩⟩
    exact upd_n (by omega)
  rw [if_neg h0] at em2 ec2
  rw [e3', m_startOr rfl (by omega) (by omega)] at em2
  have hd0 : ∀ j, j < D + 1 → upd bg2 (D + 1) (nI S) j = bg2 j := fun j hj => upd_n (by omega)
  have hRC2 : RC h (mkM h (nI tk2) (nI o2) (nI (D + 1)) (nI V) (nI f) (nI t2) 0 om2 ce2 bk2 bg2 sg2 vl2) D Dc := by
    obtain ⟨r1, ⟨i, r2, r3, r4⟩, r5⟩ := hRC
    refine ⟨r1, ⟨i, r2, (hbl Dc (by omega)).trans r3, r4⟩, fun j hj hj2 => ?_⟩
    obtain ⟨e, q1, q2, q3⟩ := r5 j hj hj2
    exact ⟨e, q1, (hbl j (by omega)).trans q2, q3⟩
  refine so_stm (zr := 1 + z) (yr := 1 + (b - a)) (D1 := D + 1) (t1 := t2) (tk1 := tk2) (MSteps.one em2 (by omega)) (CSteps.mk ec2) ⟨fun j hj => rfl, fun j hj => ⟨rfl, rfl⟩, fun j hj => ⟨hd0 j (by omega), (upd_n (by omega)).trans (upd_n (by omega))⟩, fun j hj => rfl, fun j hj => rfl⟩ (ihs S (i + 1) e v v z2 e6 _ _ B f t2 (D + 1) V tk2 Dc ⟨h1, h2, h5, h6, by omega, ht3, by omega, by omega⟩ (RC.up (N := N) hRC2 ((hd0 D (by omega)).trans hNb2) (by omega) (by rw [e0]; decide) (fun j hj => hd0 j (by omega))) ⟨o2, stk2, el2, re2, ba2, ou2, om2, ce2, bk2, _, _, vl2, rfl, rfl, ho2, hou2, hel2, hva2⟩ ?_ ?_) ⟨by omega, by omega, by omega, by omega, by omega⟩ (by omega) (by omega) ?_
  · show upd bg2 (D + 1) (nI S) (D + 1) = nI S
    rw [upd_e]
  · show upd (upd sg2 D 2) (D + 1) 0 (D + 1) = 0
    rw [upd_e]
  intro c4 m4 t4 tk4 hR4 hF4 ht4 ht5 htk4
  have hbl4 : ∀ j, j < D + 1 → m4.2.2.1 41 j = bg j := fun j hj => ((hF4.2.2.1 j (by omega)).1.trans (hd0 j (by omega))).trans (hbl j hj)
  have hs4 : m4.2.2.1 42 D = 2 := by
    refine Eq.trans (hF4.2.2.1 D (by omega)).2 ?_
    show upd (upd sg2 D 2) (D + 1) 0 D = 2
    rw [upd_n (by omega), upd_e]
  obtain ⟨o4, stk4, el4, re4, ba4, ou4, om4, ce4, bk4, bg4, sg4, vl4, rfl, rfl, ho4, hou4, hel4, hva4⟩ := hR4
  obtain ⟨sg5, em4, u1, u2⟩ := g_while2 (tk := nI tk4) (o := nI o4) (V := nI V) (f := nI f) (t := nI t4) (ou := om4) (ce := ce4) (bk := bk4) (vl := vl4) (by omega : D < 1600) ((hbl4 D (by omega)).trans hNb : bg4 D = nI N) (by omega) e0 hs4
  have ec4 := i_jump (nx := nI (min tk4 q)) (T := nI (B + 12)) (B := nI B) (f := nI f) (s := 3) (o := nI o4) (t := nI t4) (res := 0) (stk := stk4) (el := el4) (re := re4) (ba := ba4) (ou := ou4) s1 s2 (show e < len by omega) e7 e7'
  have hRC5 : RC h (mkM h (nI tk4) (nI o4) (nI (D + 1)) (nI V) (nI f) (nI t4) 0 om4 ce4 bk4 bg4 sg5 vl4) D Dc := by
    obtain ⟨r1, ⟨i, r2, r3, r4⟩, r5⟩ := hRC
    refine ⟨r1, ⟨i, r2, (hbl4 Dc (by omega)).trans r3, r4⟩, fun j hj hj2 => ?_⟩
    obtain ⟨e, q1, q2, q3⟩ := r5 j hj hj2
    exact ⟨e, q1, (hbl4 j (by omega)).trans q2, q3⟩
  refine so_stm (zr := 0) (yr := 0) (D1 := D) (t1 := t4) (tk1 := tk4) (w := v) (MSteps.one em4 (by omega)) (CSteps.mk ec4) ⟨fun j hj => rfl, fun j hj => ⟨rfl, rfl⟩, fun j hj => ⟨rfl, u2 j (by omega)⟩, fun j hj => rfl, fun j hj => rfl⟩ (ihn (n - 1) (by omega) (d + 1) N a b v v z hcs _ _ B f t4 D V tk4 Dc ⟨h1, h2, h5, h6, by omega, ht5, by omega, by omega⟩ hRC5 ⟨o4, stk4, el4, re4, ba4, ou4, om4, ce4, bk4, bg4, sg5, vl4, rfl, rfl, ho4, hou4, hel4, hva4⟩ ((hbl4 D (by omega)).trans hNb) u1) ⟨by omega, by omega, by omega, by omega, by omega⟩ (by omega) (by omega) ?_
  intro c6 m6 t6 tk6 hR6 hF6 ht6 ht7 htk6
  exact ⟨0, 0, c6, m6, rfl, rfl, Or.inl ⟨t6, tk6, hR6, ⟨fun j hj => rfl, fun j hj => ⟨rfl, rfl⟩, fun j hj => ⟨rfl, rfl⟩, fun j hj => rfl, fun j hj => rfl⟩, by omega, by omega, by omega, by omega, by omega⟩⟩
theorem es_all (hS : Sta g h F len nn q) (ihn : ∀ n', n' < n → ∀ d, ESd g h F len nn q n' d) : ∀ d, ESd g h F len nn q n d := by
  have hv := ev_all (n := n) hS ihn
  intro d
  induction d with
  | zero => intro N a b v v' z hcs; exact absurd hcs (by simp [CS])
  | succ d ih =>
    intro N a b v v' z hcs c m B f t D V tk Dc hB hRC hR hN hs
    obtain ⟨k0, k2, k3, k4, k5, hc⟩ := id hcs
    have k1 : N < 499 := by omega
    rcases hc with hc | hc | hc | hc | hc | hc | hc | hc
    · obtain ⟨e0, rfl, nb, C, P, Y, Z, Q, q1, q2, q3, q4, q5, q6, q7, q8, q9⟩ := hc
      obtain ⟨h1, h2, h5, h6, h7, h8, h9, h10⟩ := id hB
      have hmono : ∀ r, r ≤ nb → Z 0 ≤ Z r := by
        intro r
        induction r with
        | zero => intro _; exact Nat.le_refl _
        | succ r ihr =>
          intro hr
          obtain ⟨-, -, -, zr, w1, w2⟩ := q9 r (by omega)
          have := ihr (by omega)
          omega
      have hm := hmono nb (Nat.le_refl _)
      have := es_list (D := D) (B := B) (f := f) (V := V) (Dc := Dc) (q := q) ih h1 h2 h5 h6 h7 k1 e0 q1 q7 q8 q4 q9 nb 0 c m t tk (by omega) h8 h9 (by omega) hRC (by rw [q2, q4]; exact hR) hN (by rw [hs]; rfl)
      rw [q2, q3, show Z nb - Z 0 + 1 = z by omega] at this
      exact this
    · obtain ⟨e0, M, e, k, z1, e1, e2, e3, e4, e5, e6, e7, e8⟩ := hc
      exact es_set hS (hv d) hB hRC hR hN hs k1 k3 k4 k5 e0 e1 e2 e3 e4 e5 e6 e7 e8
    · obtain ⟨e0, rfl, M, M', i, e, z1, z2, e1, e2, e3, e3', e4, e4', e5, e6⟩ := hc
      exact es_put hS (hv d) hB hRC hR hN hs k1 k3 k4 e0 e1 e2 e3 e3' e4 e4' e5 e6
    · obtain ⟨e0, rfl, M, S, i, e, z1, z2, z3, e2, e3, e3', e4, e5, e6, e7⟩ := hc
      exact es_if hS (hv d) ih hB hRC hR hN hs k1 k3 k4 e0 e2 e3 e3' e4 e5 e6 e7
    · obtain ⟨e0, rfl, M, S, i, e, z1, z2, e1, e2, e2', e3, e3', e8, e4, e5, e5', e6, e7, e7'⟩ := hc
      exact es_while hS (hv d) ih ihn hcs hB hRC hR hN hs k1 k3 k4 e0 e1 e2 e2' e3 e3' e8 e4 e5 e5' e6 e7 e7'
    · obtain ⟨e0, rfl, M, e, z1, e1, e2, e3, e4, e5⟩ := hc
      exact es_ret hS (hv d) hB hRC hR hN hs k1 k3 k4 e0 e1 e2 e3 e4 e5
    · obtain ⟨e0, rfl, M, e, z1, e1, e2, e3, e4, e5⟩ := hc
      exact es_print hS (hv d) hB hRC hR hN hs k1 k3 k4 e0 e1 e2 e3 e4 e5
    · obtain ⟨e0, rfl, M, e, z1, e1, e2, e3, e4, e5⟩ := hc
      exact es_val hS (hv d) hB hRC hR hN hs k1 k3 k4 e0 e1 e2 e3 e4 e5
theorem es_every (hS : Sta g h F len nn q) : ∀ n d, ESd g h F len nn q n d := by
  intro n
  induction n using Nat.strongRecOn with
  | _ n ih => exact es_all hS ih
end EU
