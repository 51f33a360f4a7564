/-! Statements with parts. -/
section ET
variable {g h : St} {F : Nat → Nat → Nat → Prop} {len nn q n d N a b v v' z B f t D V tk Dc : Nat} {c m c1 m1 : St}
theorem es_put (hS : Sta g h F len nn q) (ihv : EVd g h F len nn q n d) (hB : BdS (d + 1) z B f t D V tk n) (hRC : RC h m D Dc) (hR : Rl g h q c m a (B + 12) B f t (D + 1) V tk v) (hN : m.2.2.1 41 D = nI N) (hs : m.2.2.1 42 D = 0) (k1 : N < 499) (k3 : b ≤ len) (kv : v ≤ 12) {M M' i e z1 z2 : Nat} (e0 : h.2.2.1 20 N = 12) (e1 : b = e + 1) (e2 : z = z1 + z2 + 3) (e3 : h.2.2.1 22 N = nI M) (e3' : h.2.2.1 23 N = nI M') (e4 : CV g.2.2.1 h.2.2.1 F len nn d M a i v 0 0 z1) (e4' : CV g.2.2.1 h.2.2.1 F len nn d M' i e v 1 1 z2) (e5 : g.2.2.1 6 e = 14) (e6 : JA g.2.2.1 h.2.2.1 N e) : SO g h q c m b B f t D V tk v z (b - a) Dc := by
  obtain ⟨s1, s2, s3, s4, s5, s6, s7⟩ := hS
  obtain ⟨h1, h2, h5, h6, h7, h8, h9, h10⟩ := id hB
  obtain ⟨l1, l2, l3, l4, l5⟩ := cv_lt e4
  obtain ⟨r1, r2, r3, r4, r5⟩ := cv_lt e4'
  obtain ⟨m1, p1, p2, p3, p4, p5, p6, p7⟩ := first_step (T' := B) (f' := f) (V' := V) (X' := 12 * (f - 1)) hR hN hs (by rw [e0]; unfold isFirst; decide) e3 (by omega) (by omega)
  refine so_val (zr := z2 + 2) (yr := e - i + 1) p1 (show CSteps 0 c c from rfl) p7 (ihv M a i v 0 0 z1 e4 c m1 (B + 12) B f t (D + 1) V tk ⟨h1, h2, kv, by omega, h5, by omega, by omega, h8, h9, by omega⟩ p2 p3 p4) ⟨by omega, by omega, by omega, by omega, by omega, by have := hRC.1; omega, by omega⟩ (by omega) (by omega) ?_
  intro c2 m2 t2 tk2 hR2 hv2 hF2 ht2 ht3 htk
  have hN2 := (hF2.2.2.1 D (by omega)).1.trans p5
  have hs2 := (hF2.2.2.1 D (by omega)).2.trans p6
  obtain ⟨o, stk, el, re, ba, ou, om, ce, bk, bg, sg, vl, rfl, rfl, ho, hou, hel, hva⟩ := hR2
  have hNb : bg D = nI N := hN2
  have hsb : sg D = 1 := hs2
  have hv2 : stk (B + 12) = vl V := hv2
  have em := g_behind (tk := nI tk2) (o := nI o) (V := nI (V + 1)) (f := nI f) (t := nI t2) (s := 0) (ou := om) (ce := ce) (bk := bk) (sg := sg) (vl := vl) (by omega : D < 1600) hNb (by omega) e0 (by unfold isFirst; decide) (by rw [hsb]; decide)
  rw [hsb, h_put1 (by omega) e0 (by omega)] at em
  refine so_val (zr := 1) (yr := 1) (T1 := B + 13) (D1 := D + 1) (V1 := V + 1) (t1 := t2) (tk1 := tk2) (MSteps.one em (by omega)) (show CSteps 0 _ _ from rfl) ⟨fun j hj => rfl, fun j hj => ⟨rfl, rfl⟩, fun j hj => ⟨upd_n (by omega), (upd_n (by omega)).trans (upd_n (by omega))⟩, fun j hj => rfl, fun j hj => rfl⟩ (ihv M' i e v 1 1 z2 e4' _ _ (B + 13) B f t2 (D + 1) (V + 1) tk2 ⟨h1, h2, kv, by omega, h5, by omega, by omega, ht3, by omega, by omega⟩ ⟨o, stk, el, re, ba, ou, om, ce, bk, _, _, vl, rfl, rfl, ho, hou, hel, hva⟩ ?_ ?_) ⟨by omega, by omega, by omega, by omega, by omega, by have := hRC.1; omega, by omega⟩ (by omega) (by omega) ?_
  · show upd bg (D + 1) (h.2.2.1 23 N) (D + 1) = nI M'
    rw [upd_e, e3']
  · show upd (upd sg D (1 + 1)) (D + 1) 0 (D + 1) = 0
    rw [upd_e]
  intro c4 m4 t4 tk4 hR4 hv4 hF4 ht4 ht5 htk4
  have hN4 := (hF4.2.2.1 D (by omega)).1
  have hs4 := (hF4.2.2.1 D (by omega)).2
  have hT4 := hF4.1 (B + 12) (by omega)
  have hV4 := hF4.2.2.2.1 V (by omega)
  obtain ⟨o', stk', el', re', ba', ou', om', ce', bk', bg', sg', vl', rfl, rfl, ho', hou', hel', hva'⟩ := hR4
  have hv4 : stk' (B + 13) = vl' (V + 1) := hv4
  have hNb' : bg' D = nI N := by
    refine Eq.trans hN4 ?_
    show upd bg (D + 1) (h.2.2.1 23 N) D = nI N
    rw [upd_n (by omega), hNb]
  have hsb' : sg' D = 2 := by
    refine Eq.trans hs4 ?_
    show upd (upd sg D (1 + 1)) (D + 1) 0 D = 2
    rw [upd_n (by omega), upd_e]; rfl
  have hT5 : stk' (B + 12) = stk (B + 12) := hT4
  have hV5 : vl' V = vl V := hV4
  obtain ⟨ii, ea, ez, j1, j2, j3, j4, j5, j6, j7⟩ := e6
  have em4 := g_behind (tk := nI tk4) (o := nI o') (V := nI (V + 2)) (f := nI f) (t := nI t4) (s := 0) (ou := om') (ce := ce') (bk := bk') (sg := sg') (vl := vl') (by omega : D < 1600) hNb' (by omega) e0 (by unfold isFirst; decide) (by rw [hsb']; decide)
  rw [hsb', h_put2 (by omega) e0 (by decide) j1 j2 j3 j4 j7 (by omega)] at em4
  have ec := i_put (nx := nI (min tk4 q)) (B := nI B) (f := nI f) (s := 3) (o := nI o') (t := nI t4) (res := 0) (stk := stk') (el := el') (re := re') (ba := ba') (ou := ou') s1 s2 (by omega) e5 j5 j6 j7 ((hT5.trans hv2).trans hV5.symm) (by omega : B + 12 + 1 < 576)
  by_cases hin : 0 ≤ (vl' V).toInt ∧ (vl' V).toInt < ez
  · rw [if_pos hin] at em4 ec
    subst e1
    refine ⟨1, 1, _, _, MSteps.one em4 (by omega), CSteps.mk ec, Or.inl ⟨t4, tk4, ⟨o', _, _, _, _, _, _, _, _, _, _, _, rfl, rfl, ho', hou', fun j hj => ?_, hva'⟩, ⟨fun j hj => rfl, fun j hj => ⟨rfl, rfl⟩, fun j hj => ⟨rfl, ?_⟩, fun j hj => rfl, fun j hj => rfl⟩, by omega, by omega, by omega, by omega, by omega⟩⟩
    · by_cases hjk : j = ea + (vl' V).toInt.toNat
      · subst hjk; rw [upd_e, upd_e]; exact hv4
      · rw [upd_n hjk, upd_n hjk]; exact hel' j hj
    · exact upd_n (by omega)
  · rw [if_neg hin] at em4 ec
    exact ⟨1, 1, _, _, MSteps.one em4 (by omega), CSteps.mk ec, Or.inr (Or.inr ⟨⟨Or.inl rfl, rfl, ⟨o', ho', rfl, rfl, hou'⟩, ⟨t4, ht5, rfl, rfl⟩, rfl⟩, by omega, by omega⟩)⟩
/-- a block's list of statements -/
theorem es_list {nb : Nat} {C P Y Z : Nat → Nat} {Q : Nat → Int32} (ih : ESd g h F len nn q n d) (h1 : 1 ≤ f) (h2 : f ≤ 12) (h5 : B ≤ 48 * (f - 1)) (h6 : V ≤ 33 * (f - 1)) (h7 : D + (d + 1) ≤ 130 * f) (k1 : N < 499) (e0 : h.2.2.1 20 N = 10) (hn : nb ≤ 400) (hQ0 : h.2.2.1 22 N = Q 0) (hQn : Q nb = -1) (hv0 : Y 0 = v)
    (hA : ∀ i : Nat, i < nb → Q i = nI (C i) ∧ h.2.2.1 25 (C i) = Q (i + 1) ∧ v ≤ Y (i + 1) ∧ ∃ zi : Nat, Z (i + 1) = Z i + zi + 1 ∧ CS g.2.2.1 h.2.2.1 F len nn d (C i) (P i) (P (i + 1)) (Y i) (Y (i + 1)) zi) :
    ∀ (k i0 : Nat) (c m : St) (t tk : Nat), i0 + k = nb → t ≤ 400 → 400 ≤ t + n → tk + (Z nb - Z i0 + 1) + 5000 * (400 - t) ≤ 1000000000 → RC h m D Dc → Rl g h q c m (P i0) (B + 12) B f t (D + 1) V tk (Y i0) → m.2.2.1 41 D = nI N → m.2.2.1 42 D = nI i0 → SO g h q c m (P nb) B f t D V tk v (Z nb - Z i0 + 1) (P nb - P i0) Dc := by
  intro k
  induction k with
  | zero =>
    intro i0 c m t tk hi ht htn hz hRC hR hN hs
    obtain rfl : i0 = nb := by omega
    have hvY : v ≤ Y i0 := by
      cases i0 with
      | zero => omega
      | succ i => exact (hA i (by omega)).2.2.1
    obtain ⟨o, stk, el, re, ba, ou, om, ce, bk, bg, sg, vl, rfl, rfl, ho, hou, hel, hva⟩ := hR
    have hNb : bg D = nI N := hN
    have hsb : sg D = nI i0 := hs
    have em := g_block (tk := nI tk) (o := nI o) (V := nI V) (f := nI f) (t := nI t) (s := 0) (ou := om) (ce := ce) (bk := bk) (vl := vl) (Q := Q) (by omega : D < 1600) hNb (by omega) e0 hsb (by omega) hQ0 (fun j hj => ⟨C j, by obtain ⟨-, -, -, zj, -, qq⟩ := hA j hj; have := cs_le qq; omega, (hA j hj).1, (hA j hj).2.1⟩)
    rw [hQn, m_startNo] at em
    refine ⟨1, 0, _, _, MSteps.one em (by omega), rfl, Or.inl ⟨t, tk, ⟨o, _, _, _, _, _, _, _, _, _, _, _, rfl, rfl, ho, hou, hel, fun k hk => hva k (by omega)⟩, ⟨fun j hj => rfl, fun j hj => ⟨rfl, rfl⟩, fun j hj => ⟨rfl, ?_⟩, fun j hj => rfl, fun j hj => rfl⟩, by omega, by omega, by omega, by omega, by omega⟩⟩
    exact upd_n (by omega)
  | succ k ihk =>
    intro i0 c m t tk hi ht htn hz hRC hR hN hs
    obtain ⟨a1, a2, a2', zi, a3, a4⟩ := hA i0 (by omega)
    obtain ⟨b1, b2, b3, b4, b5⟩ := cs_le a4
    obtain ⟨o, stk, el, re, ba, ou, om, ce, bk, bg, sg, vl, rfl, rfl, ho, hou, hel, hva⟩ := hR
    have hNb : bg D = nI N := hN
    have hsb : sg D = nI i0 := hs
    have hmono : ∀ r, i0 + 1 + r ≤ nb → Z (i0 + 1) ≤ Z (i0 + 1 + r) ∧ P (i0 + 1) ≤ P (i0 + 1 + r) := by
      intro r
      induction r with
      | zero => intro _; exact ⟨Nat.le_refl _, Nat.le_refl _⟩
      | succ r ihr =>
        intro hr
        obtain ⟨-, -, -, zr, q1, q2⟩ := hA (i0 + 1 + r) (by omega)
        have q3 := (cs_le q2).1
        have := ihr (by omega)
        rw [show i0 + 1 + (r + 1) = i0 + 1 + r + 1 by omega]
        omega
    have hm2 := hmono (nb - (i0 + 1)) (by omega)
    rw [show i0 + 1 + (nb - (i0 + 1)) = nb by omega] at hm2
    have em := g_block (tk := nI tk) (o := nI o) (V := nI V) (f := nI f) (t := nI t) (s := 0) (ou := om) (ce := ce) (bk := bk) (vl := vl) (Q := Q) (by omega : D < 1600) hNb (by omega) e0 hsb (by omega) hQ0 (fun j hj => ⟨C j, by obtain ⟨-, -, -, zj, -, qq⟩ := hA j (by omega); have := cs_le qq; omega, (hA j (by omega)).1, (hA j (by omega)).2.1⟩)
    rw [m_startOr a1 (by omega) (by omega)] at em
    have hd0 : ∀ j, j < D + 1 → upd bg (D + 1) (Q i0) j = bg j := fun j hj => upd_n (by omega)
    refine so_stm (zr := Z nb - Z (i0 + 1) + 1) (yr := P nb - P (i0 + 1)) (D1 := D + 1) (t1 := t) (tk1 := tk) (MSteps.one em (by omega)) (show CSteps 0 _ _ from rfl) ⟨fun j hj => rfl, fun j hj => ⟨rfl, rfl⟩, fun j hj => ⟨upd_n (by omega), (upd_n (by omega)).trans (upd_n (by omega))⟩, fun j hj => rfl, fun j hj => rfl⟩ (ih (C i0) (P i0) (P (i0 + 1)) (Y i0) (Y (i0 + 1)) zi a4 _ _ B f t (D + 1) V tk Dc ⟨h1, h2, h5, h6, by omega, ht, htn, by omega⟩ (RC.up (N := N) hRC ?_ (by omega) (by rw [e0]; decide) (fun j hj => hd0 j (by omega))) ⟨o, stk, el, re, ba, ou, om, ce, bk, _, _, vl, rfl, rfl, ho, hou, hel, hva⟩ ?_ ?_) ⟨by omega, by omega, by omega, by have := hRC.1; omega, by omega⟩ (by omega) (by omega) ?_
    · exact (hd0 D (by omega)).trans hNb
    · show upd bg (D + 1) (Q i0) (D + 1) = nI (C i0)
      rw [upd_e, a1]
    · show upd (upd sg D (nI (i0 + 1))) (D + 1) 0 (D + 1) = 0
      rw [upd_e]
    intro c2 m2 t2 tk2 hR2 hF2 ht2 ht3 htk
    refine ihk (i0 + 1) c2 m2 t2 tk2 (by omega) ht3 (by omega) (by omega) ?_ hR2 ?_ ?_
    · obtain ⟨r1, ⟨i, r2, r3, r4⟩, r5⟩ := hRC
      refine ⟨r1, ⟨i, r2, ((hF2.2.2.1 Dc (by omega)).1.trans (hd0 Dc (by omega))).trans r3, r4⟩, fun j hj hj2 => ?_⟩
      obtain ⟨e, q1, q2, q3⟩ := r5 j hj hj2
      exact ⟨e, q1, ((hF2.2.2.1 j (by omega)).1.trans (hd0 j (by omega))).trans q2, q3⟩
    · exact ((hF2.2.2.1 D (by omega)).1.trans (hd0 D (by omega))).trans hNb
    · refine Eq.trans (hF2.2.2.1 D (by omega)).2 ?_
      show upd (upd sg D (nI (i0 + 1))) (D + 1) 0 D = nI (i0 + 1)
      rw [upd_n (by omega), upd_e]
end ET
