/-! Statements. -/
section ES
variable {g h : St} {F : Nat → Nat → Nat → Prop} {len nn q n d N a b v v' z B f t D V tk Dc : Nat} {c m c1 m1 : St}
theorem Ret.pre {c2 m2 c' m' : St} {t' tk' D' : Nat} (hF : Fr c m c2 m2 B f D' V (12 * (f - 1))) (hD : Dc ≤ D') (hf : 1 ≤ f) (hR : Ret g h q c2 m2 c' m' B f Dc V t' tk') : Ret g h q c m c' m' B f Dc V t' tk' := by
  obtain ⟨o, r, h1, h2, h3, h4, h5, h6⟩ := hR
  refine ⟨o, r, h1, (hF.weak (Nat.le_refl _) (Nat.sub_le _ _) hD (Nat.le_refl _) (Nat.le_refl _)).trans h2 (Nat.le_refl _) (Nat.le_refl _) (Nat.le_refl _) (Nat.le_refl _) (Nat.le_refl _), h3, h4, h5, ?_⟩
  obtain ⟨q1, q2⟩ := hF.2.1 (f - 1) (by omega)
  rw [q1, q2] at h6
  exact h6
theorem so_val {i l b1 T1 t1 D1 V1 tk1 z1 y1 zr yr y w : Nat} (hm : MSteps i m m1) (hc : CSteps l c c1) (hF : Fr c m c1 m1 B f D V (12 * (f - 1))) (hch : VO g h q c1 m1 b1 T1 B f t1 D1 V1 tk1 w z1 y1) (hT : B ≤ T1 ∧ D ≤ D1 ∧ V ≤ V1 ∧ t ≤ t1 ∧ tk1 ≤ tk + i ∧ Dc ≤ D ∧ 1 ≤ f) (hz : i + z1 + zr + 5000 * (400 - t1) ≤ z + 5000 * (400 - t)) (hy : l + y1 + yr + 500 * (400 - t1) ≤ y + 500 * (400 - t))
    (K : ∀ (c2 m2 : St) (t2 tk2 : Nat), Rl g h q c2 m2 b1 (T1 + 1) B f t2 D1 (V1 + 1) tk2 w → c2.2.2.1 10 T1 = m2.2.2.1 43 V1 → Fr c1 m1 c2 m2 T1 f D1 V1 (12 * f) → t1 ≤ t2 → t2 ≤ 400 → tk2 + zr + 5000 * (400 - t2) ≤ tk + z + 5000 * (400 - t) → SO g h q c2 m2 b B f t2 D V tk2 v' zr yr Dc) :
    SO g h q c m b B f t D V tk v' z y Dc := by
  obtain ⟨j, k, c2, m2, hm2, hc2, hch⟩ := hch
  rcases hch with ⟨t2, tk2, hR, hv, hF2, ht2, ht3, htk, hz2, hy2⟩ | ⟨hE, hz2, hy2⟩
  · obtain ⟨j3, k3, c3, m3, hm3, hc3, h3⟩ := K c2 m2 t2 tk2 hR hv hF2 ht2 ht3 (by omega)
    have hF3 : Fr c m c2 m2 B f D V (12 * (f - 1)) := hF.trans hF2 hT.1 (Nat.le_refl _) hT.2.1 hT.2.2.1 (by omega)
    refine ⟨i + j + j3, l + k + k3, c3, m3, (hm.trans hm2).trans hm3, (hc.trans hc2).trans hc3, ?_⟩
    rcases h3 with ⟨t', tk', hR3, hF4, ht4, ht5, htk3, hz3, hy3⟩ | ⟨t', tk', hR3, ht4, ht5, htk3, hz3, hy3⟩ | ⟨hE, hz3, hy3⟩
    · exact Or.inl ⟨t', tk', hR3, hF3.trans hF4 (Nat.le_refl _) (Nat.le_refl _) (Nat.le_refl _) (Nat.le_refl _) (Nat.le_refl _), by omega, ht5, by omega, by omega, by omega⟩
    · exact Or.inr (Or.inl ⟨t', tk', Ret.pre hF3 hT.2.2.2.2.2.1 hT.2.2.2.2.2.2 hR3, by omega, ht5, by omega, by omega, by omega⟩)
    · exact Or.inr (Or.inr ⟨hE, by omega, by omega⟩)
  · exact ⟨i + j, l + k, c2, m2, hm.trans hm2, hc.trans hc2, Or.inr (Or.inr ⟨hE, by omega, by omega⟩)⟩
theorem so_stm {i l b1 t1 D1 tk1 z1 y1 zr yr y w : Nat} (hm : MSteps i m m1) (hc : CSteps l c c1) (hF : Fr c m c1 m1 B f D V (12 * (f - 1))) (hch : SO g h q c1 m1 b1 B f t1 D1 V tk1 w z1 y1 Dc) (hT : D ≤ D1 ∧ t ≤ t1 ∧ tk1 ≤ tk + i ∧ Dc ≤ D ∧ 1 ≤ f) (hz : i + z1 + zr + 5000 * (400 - t1) ≤ z + 5000 * (400 - t)) (hy : l + y1 + yr + 500 * (400 - t1) ≤ y + 500 * (400 - t))
    (K : ∀ (c2 m2 : St) (t2 tk2 : Nat), Rl g h q c2 m2 b1 (B + 12) B f t2 D1 V tk2 w → Fr c1 m1 c2 m2 B f D1 V (12 * (f - 1)) → t1 ≤ t2 → t2 ≤ 400 → tk2 + zr + 5000 * (400 - t2) ≤ tk + z + 5000 * (400 - t) → SO g h q c2 m2 b B f t2 D V tk2 v' zr yr Dc) :
    SO g h q c m b B f t D V tk v' z y Dc := by
  obtain ⟨j, k, c2, m2, hm2, hc2, hch⟩ := hch
  rcases hch with ⟨t2, tk2, hR, hF2, ht2, ht3, htk, hz2, hy2⟩ | ⟨t2, tk2, hR, ht2, ht3, htk, hz2, hy2⟩ | ⟨hE, hz2, hy2⟩
  · obtain ⟨j3, k3, c3, m3, hm3, hc3, h3⟩ := K c2 m2 t2 tk2 hR hF2 ht2 ht3 (by omega)
    have hF3 : Fr c m c2 m2 B f D V (12 * (f - 1)) := hF.trans hF2 (Nat.le_refl _) (Nat.le_refl _) hT.1 (Nat.le_refl _) (Nat.le_refl _)
    refine ⟨i + j + j3, l + k + k3, c3, m3, (hm.trans hm2).trans hm3, (hc.trans hc2).trans hc3, ?_⟩
    rcases h3 with ⟨t', tk', hR3, hF4, ht4, ht5, htk3, hz3, hy3⟩ | ⟨t', tk', hR3, ht4, ht5, htk3, hz3, hy3⟩ | ⟨hE, hz3, hy3⟩
    · exact Or.inl ⟨t', tk', hR3, hF3.trans hF4 (Nat.le_refl _) (Nat.le_refl _) (Nat.le_refl _) (Nat.le_refl _) (Nat.le_refl _), by omega, ht5, by omega, by omega, by omega⟩
    · exact Or.inr (Or.inl ⟨t', tk', Ret.pre hF3 hT.2.2.2.1 hT.2.2.2.2 hR3, by omega, ht5, by omega, by omega, by omega⟩)
    · exact Or.inr (Or.inr ⟨hE, by omega, by omega⟩)
  · exact ⟨i + j, l + k, c2, m2, hm.trans hm2, hc.trans hc2, Or.inr (Or.inl ⟨t2, tk2, Ret.pre hF hT.2.2.2.1 hT.2.2.2.2 hR, by omega, ht3, by omega, by omega, by omega⟩)⟩
  · exact ⟨i + j, l + k, c2, m2, hm.trans hm2, hc.trans hc2, Or.inr (Or.inr ⟨hE, by omega, by omega⟩)⟩
theorem RC.up {m1 : St} (hRC : RC h m D Dc) (hN : m1.2.2.1 41 D = nI N) (hN2 : N < 500) (h5 : ¬ h.2.2.1 20 N = 5) (hsame : ∀ j, j < D → m1.2.2.1 41 j = m.2.2.1 41 j) : RC h m1 (D + 1) Dc := by
  obtain ⟨r1, ⟨i, r2, r3, r4⟩, r5⟩ := hRC
  refine ⟨by omega, ⟨i, r2, (hsame Dc r1).trans r3, r4⟩, fun j hj hj2 => ?_⟩
  by_cases hjD : j = D
  · subst hjD; exact ⟨N, hN2, hN, h5⟩
  · obtain ⟨e, e1, e2, e3⟩ := r5 j hj (by omega)
    exact ⟨e, e1, (hsame j (by omega)).trans e2, e3⟩
/-- a value first, then one step of each -/
theorem es_one (ihv : EVd g h F len nn q n d) (hB : BdS (d + 1) z B f t D V tk n) (hRC : Dc < D) (hR : Rl g h q c m a (B + 12) B f t (D + 1) V tk v) (hN : m.2.2.1 41 D = nI N) (hs : m.2.2.1 42 D = 0) (k1 : N < 499) (kv : v ≤ 12) {M e z1 : Nat} (e0 : isFirst (h.2.2.1 20 N)) (e1 : b = e + 1) (e2 : z = z1 + 2) (e3 : h.2.2.1 22 N = nI M) (e4 : CV g.2.2.1 h.2.2.1 F len nn d M a e v 0 0 z1)
    (K : ∀ (o t2 tk2 : Nat) (stk el re ba ou om ce bk bg sg vl : Nat → Int32), o ≤ 30 → (∀ j, j < o → ou j = om j) → (∀ j, j < 64 → el j = ce j) → (∀ k, k < v → stk (B + k) = bk (12 * (f - 1) + k)) → bg D = nI N → sg D = 1 → stk (B + 12) = vl V → (∀ j, j < D → bg j = m.2.2.1 41 j) → t ≤ t2 → t2 ≤ 400 →
      SO g h q (mkC g (nI (min tk2 q)) (nI (B + 13)) (nI B) (nI f) (nI e) 3 (nI o) (nI t2) 0 stk el re ba ou) (mkM h (nI tk2) (nI o) (nI (D + 1)) (nI (V + 1)) (nI f) (nI t2) 0 om ce bk bg sg vl) b B f t2 D V tk2 v' 1 1 Dc) : SO g h q c m b B f t D V tk v' z (b - a) Dc := by
  obtain ⟨h1, h2, h5, h6, h7, h8, h9, h10⟩ := id hB
  obtain ⟨l1, l2, l3, l4, l5⟩ := cv_lt e4
  obtain ⟨m1, p1, p2, p3, p4, p5, p6, p7⟩ := first_step (T' := B) (f' := f) (V' := V) (X' := 12 * (f - 1)) hR hN hs e0 e3 (by omega) (by omega)
  refine so_val (zr := 1) (yr := 1) p1 (show CSteps 0 c c from rfl) p7 (ihv M a e v 0 0 z1 e4 c m1 (B + 12) B f t (D + 1) V tk ⟨h1, h2, kv, by omega, h5, by omega, by omega, h8, h9, by omega⟩ p2 p3 p4) ⟨by omega, by omega, by omega, by omega, by omega, by omega, by omega⟩ (by omega) (by omega) ?_
  intro c2 m2 t2 tk2 hR2 hv2 hF2 ht2 ht3 htk
  have hN2 := (hF2.2.2.1 D (by omega)).1.trans p5
  have hs2 := (hF2.2.2.1 D (by omega)).2.trans p6
  have hbelow : ∀ j, j < D → m2.2.2.1 41 j = m.2.2.1 41 j := fun j hj => (hF2.2.2.1 j (by omega)).1.trans (p7.2.2.1 j hj).1
  obtain ⟨o, stk, el, re, ba, ou, om, ce, bk, bg, sg, vl, rfl, rfl, ho, hou, hel, hva⟩ := hR2
  exact K o t2 tk2 stk el re ba ou om ce bk bg sg vl ho hou hel hva hN2 hs2 hv2 hbelow ht2 ht3
theorem es_set (hS : Sta g h F len nn q) (ihv : EVd g h F len nn q n d) (hB : BdS (d + 1) z B f t D V tk n) (hRC : RC h m D Dc) (hR : Rl g h q c m a (B + 12) B f t (D + 1) V tk v) (hN : m.2.2.1 41 D = nI N) (hs : m.2.2.1 42 D = 0) (k1 : N < 499) (k3 : b ≤ len) (kv : v ≤ 12) (kv' : v' ≤ 12) {M e k z1 : Nat} (e0 : h.2.2.1 20 N = 11) (e1 : b = e + 1) (e2 : z = z1 + 2) (e3 : h.2.2.1 22 N = nI M) (e4 : CV g.2.2.1 h.2.2.1 F len nn d M a e v 0 0 z1) (e5 : g.2.2.1 6 e = 12) (e6 : g.2.2.1 7 e = nI k) (e7 : h.2.2.1 21 N = nI k) (e8 : (k < v ∧ v' = v) ∨ (k = v ∧ v' = v + 1)) : SO g h q c m b B f t D V tk v' z (b - a) Dc := by
  obtain ⟨s1, s2, s3, s4, s5, s6, s7⟩ := hS
  obtain ⟨h1, h2, h5, h6, h7, h8, h9, h10⟩ := id hB
  refine es_one ihv hB hRC.1 hR hN hs k1 kv (by rw [e0]; exact Or.inr (Or.inr (Or.inr (Or.inl rfl)))) e1 e2 e3 e4 ?_
  intro o t2 tk2 stk el re ba ou om ce bk bg sg vl ho hou hel hva hNb hsb hv2 hbl ht2 ht3
  obtain ⟨f, rfl⟩ : ∃ f', f = f' + 1 := ⟨f - 1, by omega⟩
  have em := g_behind (tk := nI tk2) (o := nI o) (V := nI (V + 1)) (f := nI (f + 1)) (t := nI t2) (s := 0) (ou := om) (ce := ce) (bk := bk) (sg := sg) (vl := vl) (by omega : D < 1600) hNb (by omega) e0 (Or.inr (Or.inr (Or.inr (Or.inl rfl)))) (by rw [hsb]; decide)
  rw [h_set (by omega) e0 e7 (by omega) (by omega)] at em
  have ec := i_set (nx := nI (min tk2 q)) (b0 := B) (j := k) (f := nI (f + 1)) (s := 3) (o := nI o) (t := nI t2) (res := 0) (stk := stk) (el := el) (re := re) (ba := ba) (ou := ou) s1 s2 (by omega) e5 e6 (by omega) (show B + 12 < 576 by omega)
  subst e1
  refine ⟨1, 1, _, _, MSteps.one em (by omega), CSteps.mk ec, Or.inl ⟨t2, tk2, ⟨o, _, _, _, _, _, _, _, _, _, _, _, rfl, rfl, ho, hou, hel, fun j hj => ?_⟩, ⟨fun j hj => ?_, fun j hj => ⟨rfl, rfl⟩, fun j hj => ⟨rfl, ?_⟩, fun j hj => rfl, fun j hj => ?_⟩, by omega, by omega, by omega, by omega, by omega⟩⟩
  · show upd stk (B + k) (stk (B + 12)) (B + j) = upd bk (12 * f + k) (vl V) (12 * (f + 1 - 1) + j)
    by_cases hjk : j = k
    · subst hjk
      rw [upd_e, show 12 * (f + 1 - 1) + j = 12 * f + j by omega, upd_e, hv2]
    · rw [upd_n (by omega), upd_n (by omega)]
      exact hva j (by omega)
  · exact upd_n (by omega)
  · exact upd_n (by omega)
  · exact upd_n (by omega)
theorem es_val (hS : Sta g h F len nn q) (ihv : EVd g h F len nn q n d) (hB : BdS (d + 1) z B f t D V tk n) (hRC : RC h m D Dc) (hR : Rl g h q c m a (B + 12) B f t (D + 1) V tk v) (hN : m.2.2.1 41 D = nI N) (hs : m.2.2.1 42 D = 0) (k1 : N < 499) (k3 : b ≤ len) (kv : v ≤ 12) {M e z1 : Nat} (e0 : h.2.2.1 20 N = 17) (e1 : b = e + 1) (e2 : z = z1 + 2) (e3 : h.2.2.1 22 N = nI M) (e4 : CV g.2.2.1 h.2.2.1 F len nn d M a e v 0 0 z1) (e5 : g.2.2.1 6 e = 21) : SO g h q c m b B f t D V tk v z (b - a) Dc := by
  obtain ⟨s1, s2, s3, s4, s5, s6, s7⟩ := hS
  obtain ⟨h1, h2, h5, h6, h7, h8, h9, h10⟩ := id hB
  refine es_one ihv hB hRC.1 hR hN hs k1 kv (by rw [e0]; unfold isFirst; decide) e1 e2 e3 e4 ?_
  intro o t2 tk2 stk el re ba ou om ce bk bg sg vl ho hou hel hva hNb hsb hv2 hbl ht2 ht3
  have em := g_behind (tk := nI tk2) (o := nI o) (V := nI (V + 1)) (f := nI f) (t := nI t2) (s := 0) (ou := om) (ce := ce) (bk := bk) (sg := sg) (vl := vl) (by omega : D < 1600) hNb (by omega) e0 (by unfold isFirst; decide) (by rw [hsb]; decide)
  rw [h_val (by omega) e0 (by omega)] at em
  have ec := i_drop (nx := nI (min tk2 q)) (B := nI B) (f := nI f) (s := 3) (o := nI o) (t := nI t2) (res := 0) (stk := stk) (el := el) (re := re) (ba := ba) (ou := ou) s1 s2 (by omega) e5 (show B + 12 < 576 by omega)
  subst e1
  refine ⟨1, 1, _, _, MSteps.one em (by omega), CSteps.mk ec, Or.inl ⟨t2, tk2, ⟨o, _, _, _, _, _, _, _, _, _, _, _, rfl, rfl, ho, hou, hel, hva⟩, ⟨fun j hj => rfl, fun j hj => ⟨rfl, rfl⟩, fun j hj => ⟨rfl, ?_⟩, fun j hj => rfl, fun j hj => rfl⟩, by omega, by omega, by omega, by omega, by omega⟩⟩
  exact upd_n (by omega)
theorem es_print (hS : Sta g h F len nn q) (ihv : EVd g h F len nn q n d) (hB : BdS (d + 1) z B f t D V tk n) (hRC : RC h m D Dc) (hR : Rl g h q c m a (B + 12) B f t (D + 1) V tk v) (hN : m.2.2.1 41 D = nI N) (hs : m.2.2.1 42 D = 0) (k1 : N < 499) (k3 : b ≤ len) (kv : v ≤ 12) {M e z1 : Nat} (e0 : h.2.2.1 20 N = 16) (e1 : b = e + 1) (e2 : z = z1 + 2) (e3 : h.2.2.1 22 N = nI M) (e4 : CV g.2.2.1 h.2.2.1 F len nn d M a e v 0 0 z1) (e5 : g.2.2.1 6 e = 9) : SO g h q c m b B f t D V tk v z (b - a) Dc := by
  obtain ⟨s1, s2, s3, s4, s5, s6, s7⟩ := hS
  obtain ⟨h1, h2, h5, h6, h7, h8, h9, h10⟩ := id hB
  refine es_one ihv hB hRC.1 hR hN hs k1 kv (by rw [e0]; unfold isFirst; decide) e1 e2 e3 e4 ?_
  intro o t2 tk2 stk el re ba ou om ce bk bg sg vl ho hou hel hva hNb hsb hv2 hbl ht2 ht3
  have em := g_behind (tk := nI tk2) (o := nI o) (V := nI (V + 1)) (f := nI f) (t := nI t2) (s := 0) (ou := om) (ce := ce) (bk := bk) (sg := sg) (vl := vl) (by omega : D < 1600) hNb (by omega) e0 (by unfold isFirst; decide) (by rw [hsb]; decide)
  by_cases hof : o = 30
  · subst hof
    rw [h_print0 (by omega) e0 (by omega)] at em
    have ec := i_print0 (nx := nI (min tk2 q)) (B := nI B) (f := nI f) (s := 3) (t := nI t2) (res := 0) (stk := stk) (el := el) (re := re) (ba := ba) (ou := ou) s1 s2 (by omega) e5 (show B + 12 < 576 by omega)
    exact ⟨1, 1, _, _, MSteps.one em (by omega), CSteps.mk ec, Or.inr (Or.inr ⟨⟨Or.inl rfl, rfl, ⟨30, ho, rfl, rfl, hou⟩, ⟨t2, ht3, rfl, rfl⟩, rfl⟩, by omega, by omega⟩)⟩
  rw [h_print (by omega) e0 (by omega) (by omega)] at em
  have ec := i_print (nx := nI (min tk2 q)) (B := nI B) (f := nI f) (s := 3) (t := nI t2) (res := 0) (stk := stk) (el := el) (re := re) (ba := ba) (ou := ou) s1 s2 (by omega) e5 (show o < 30 by omega) (show B + 12 < 576 by omega)
  subst e1
  refine ⟨1, 1, _, _, MSteps.one em (by omega), CSteps.mk ec, Or.inl ⟨t2, tk2, ⟨o + 1, _, _, _, _, _, _, _, _, _, _, _, rfl, rfl, by omega, fun j hj => ?_, hel, hva⟩, ⟨fun j hj => rfl, fun j hj => ⟨rfl, rfl⟩, fun j hj => ⟨rfl, ?_⟩, fun j hj => rfl, fun j hj => rfl⟩, by omega, by omega, by omega, by omega, by omega⟩⟩
  · by_cases hjo : j = o
    · subst hjo; rw [upd_e, upd_e, hv2]
    · rw [upd_n hjo, upd_n hjo]; exact hou j (by omega)
  · exact upd_n (by omega)
theorem es_ret (hS : Sta g h F len nn q) (ihv : EVd g h F len nn q n d) (hB : BdS (d + 1) z B f t D V tk n) (hRC : RC h m D Dc) (hR : Rl g h q c m a (B + 12) B f t (D + 1) V tk v) (hN : m.2.2.1 41 D = nI N) (hs : m.2.2.1 42 D = 0) (k1 : N < 499) (k3 : b ≤ len) (kv : v ≤ 12) {M e z1 : Nat} (e0 : h.2.2.1 20 N = 15) (e1 : b = e + 1) (e2 : z = z1 + 2) (e3 : h.2.2.1 22 N = nI M) (e4 : CV g.2.2.1 h.2.2.1 F len nn d M a e v 0 0 z1) (e5 : g.2.2.1 6 e = 7) : SO g h q c m b B f t D V tk v z (b - a) Dc := by
  obtain ⟨s1, s2, s3, s4, s5, s6, s7⟩ := hS
  obtain ⟨h1, h2, h5, h6, h7, h8, h9, h10⟩ := id hB
  obtain ⟨r1, ⟨i, r2, r3, r4⟩, r5⟩ := id hRC
  refine es_one ihv hB hRC.1 hR hN hs k1 kv (by rw [e0]; unfold isFirst; decide) e1 e2 e3 e4 ?_
  intro o t2 tk2 stk el re ba ou om ce bk bg sg vl ho hou hel hva hNb hsb hv2 hbl ht2 ht3
  obtain ⟨f, rfl⟩ : ∃ f', f = f' + 1 := ⟨f - 1, by omega⟩
  obtain ⟨kk, rfl⟩ : ∃ kk, D = Dc + kk := ⟨D - Dc, by omega⟩
  have em := g_behind (tk := nI tk2) (o := nI o) (V := nI (V + 1)) (f := nI (f + 1)) (t := nI t2) (s := 0) (ou := om) (ce := ce) (bk := bk) (sg := sg) (vl := vl) (by omega : Dc + kk < 1600) hNb (by omega) e0 (by unfold isFirst; decide) (by rw [hsb]; decide)
  rw [h_ret (by omega) e0 (by omega) ⟨i, r2, (hbl Dc (by omega)).trans r3, r4⟩ (by omega) (fun j hj hj2 => by
    by_cases hjD : j = Dc + kk
    · subst hjD; exact ⟨N, by omega, hNb, by rw [e0]; decide⟩
    · obtain ⟨e, q1, q2, q3⟩ := r5 j hj (by omega)
      exact ⟨e, q1, (hbl j (by omega)).trans q2, q3⟩)] at em
  by_cases hf : f = 0
  · subst hf
    have ec := i_ret1 (nx := nI (min tk2 q)) (B := nI B) (s := 3) (o := nI o) (t := nI t2) (res := 0) (stk := stk) (el := el) (re := re) (ba := ba) (ou := ou) s1 s2 (by omega) e5 (show B + 12 < 576 by omega)
    refine ⟨1, 1, _, _, MSteps.one em (by omega), CSteps.mk ec, Or.inr (Or.inl ⟨t2, tk2, ⟨o, stk (B + 12), ho, ⟨fun j hj => rfl, fun j hj => ⟨rfl, rfl⟩, fun j hj => ⟨rfl, ?_⟩, fun j hj => rfl, fun j hj => rfl⟩, hv2.symm, hou, ⟨om, ce, bk, bg, _, vl, rfl⟩, Or.inr ⟨rfl, rfl, rfl, rfl, rfl⟩⟩, by omega, by omega, by omega, by omega, by omega⟩)⟩
    exact upd_n (by omega)
  have ec := i_ret (nx := nI (min tk2 q)) (b0 := B) (m := f) (k := B + 12) (s := 3) (o := nI o) (t := nI t2) (res := 0) (stk := stk) (el := el) (re := re) (ba := ba) (ou := ou) s1 s2 (by omega) e5 (by omega) (by omega) (by omega) (by omega)
  refine ⟨1, 1, _, _, MSteps.one em (by omega), CSteps.mk ec, Or.inr (Or.inl ⟨t2, tk2, ⟨o, stk (B + 12), ho, ⟨fun j hj => ?_, fun j hj => ⟨rfl, rfl⟩, fun j hj => ⟨rfl, ?_⟩, fun j hj => rfl, fun j hj => rfl⟩, hv2.symm, hou, ⟨om, ce, bk, bg, _, vl, rfl⟩, Or.inl ⟨by omega, ?_, hel, ⟨_, el, re, ba, ou, rfl⟩⟩⟩, by omega, by omega, by omega, by omega, by omega⟩)⟩
  · exact upd_n (by omega)
  · exact upd_n (by omega)
  · show upd stk B (stk (B + 12)) B = _
    rw [upd_e]
end ES
