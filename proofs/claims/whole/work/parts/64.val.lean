/-! Every value. -/
section EZ
variable {g h : St} {F : Nat → Nat → Nat → Prop} {len nn q n d N a b v w x z T B f t D V tk : Nat} {c m : St}
theorem ev_args {na e i s : Nat} {C P Z : Nat → Nat} {Q : Nat → Int32} (hS : Sta g h F len nn q) (ih : EVd g h F len nn q n d) (hES : ∀ n', n' < n → ∀ d, ESd g h F len nn q n' d) (h1 : 1 ≤ f) (h2 : f ≤ 12) (h3 : v ≤ 12) (h4 : T = B + 12 + w) (h5 : B ≤ 48 * (f - 1)) (h6 : V ≤ 33 * (f - 1) + x) (h7 : D + (d + 1) ≤ 130 * f) (kw : w ≤ 31) (kx : x ≤ 31) (kN : N < 499) (ke : e < len) (kn : na ≤ 4)
    (e0 : h.2.2.1 20 N = 5) (e1 : h.2.2.1 21 N = nI na) (e2 : g.2.2.1 6 e = 15) (e3 : g.2.2.1 8 e = nI na) (e4 : h.2.2.1 24 N = nI i) (e5 : g.2.2.1 7 e = nI s) (e6 : F i s na) (hP : P na = e) (hQ0 : 0 < na → h.2.2.1 22 N = Q 0)
    (hA : ∀ i : Nat, i < na → Q i = nI (C i) ∧ (i + 1 < na → h.2.2.1 25 (C i) = Q (i + 1)) ∧ ∃ zi : Nat, Z (i + 1) = Z i + zi + 1 ∧ CV g.2.2.1 h.2.2.1 F len nn d (C i) (P i) (P (i + 1)) v (w + i) (x + i) zi) :
    ∀ (k i0 : Nat) (c m : St) (t tk : Nat), i0 + k = na → t ≤ 400 → 400 ≤ t + n → tk + (Z na - Z i0 + 2) + 5000 * (400 - t) ≤ 1000000000 → Z i0 ≤ Z na → P i0 ≤ e → Rl g h q c m (P i0) (T + i0) B f t (D + 1) (V + i0) tk v → m.2.2.1 41 D = nI N → m.2.2.1 42 D = nI i0 → (∀ j, j < i0 → c.2.2.1 10 (T + j) = m.2.2.1 43 (V + j)) → VO g h q c m (e + 1) T B f t D V tk v (Z na - Z i0 + 2) (e - P i0 + 1) := by
  intro k
  induction k with
  | zero =>
    intro i0 c m t tk hi ht htn hz hZ hPe hR hN hs hvs
    obtain rfl : i0 = na := by omega
    obtain ⟨o, stk, el, re, ba, ou, om, ce, bk, bg, sg, vl, rfl, rfl, ho, hou, hel, hva⟩ := hR
    rw [hP, show Z i0 - Z i0 + 2 = 2 by omega, show e - e + 1 = 1 by omega]
    exact ev_made (d := d) hS hES h1 h2 h3 h4 h5 h6 h7 ht htn (by omega) kw kx kN ke kn e0 e1 e2 e3 e4 e5 e6 ho hou hel hva hN hs hvs
  | succ k ihk =>
    intro i0 c m t tk hi ht htn hz hZ hPe hR hN hs hvs
    obtain ⟨a1, a2, zi, a3, a4⟩ := hA i0 (by omega)
    obtain ⟨b1, b2, b3, b4, b5⟩ := cv_lt a4
    obtain ⟨o, stk, el, re, ba, ou, om, ce, bk, bg, sg, vl, rfl, rfl, ho, hou, hel, hva⟩ := hR
    have hNb : bg D = nI N := hN
    have hsb : sg D = nI i0 := hs
    have hmono : ∀ r, i0 + 1 + r ≤ na → Z (i0 + 1) ≤ Z (i0 + 1 + r) ∧ P (i0 + 1) ≤ P (i0 + 1 + r) := by
      intro r
      induction r with
      | zero => intro _; exact ⟨Nat.le_refl _, Nat.le_refl _⟩
      | succ r ihr =>
        intro hr
        obtain ⟨-, -, zr, q1, q2⟩ := hA (i0 + 1 + r) (by omega)
        have q3 := (cv_lt q2).1
        have := ihr (by omega)
        rw [show i0 + 1 + (r + 1) = i0 + 1 + r + 1 by omega]
        omega
    have hm2 := hmono (na - (i0 + 1)) (by omega)
    rw [show i0 + 1 + (na - (i0 + 1)) = na by omega] at hm2
    have em := g_arg (tk := nI tk) (o := nI o) (V := nI (V + i0)) (f := nI f) (t := nI t) (s := 0) (ou := om) (ce := ce) (bk := bk) (vl := vl) (n := na) (Q := Q) (by omega : D + 1 < 1600) hNb (by omega) e0 hsb e1 (by omega) (by omega) (hQ0 (by omega)) (fun j hj => ⟨C j, by have := (hA j (by omega)); obtain ⟨-, -, zj, -, q⟩ := this; have := cv_lt q; omega, (hA j (by omega)).1, (hA j (by omega)).2.1 (by omega)⟩)
    refine vo_child (zr := Z na - Z (i0 + 1) + 2) (yr := e - P (i0 + 1) + 1) (T1 := T + i0) (D1 := D + 1) (V1 := V + i0) (t1 := t) (tk1 := tk) (MSteps.one em (by omega)) (show CSteps 0 _ _ from rfl) ⟨fun j hj => rfl, fun j hj => ⟨rfl, rfl⟩, fun j hj => ⟨upd_n (by omega), (upd_n (by omega)).trans (upd_n (by omega))⟩, fun j hj => rfl, fun j hj => rfl⟩ (ih (C i0) (P i0) (P (i0 + 1)) v (w + i0) (x + i0) zi a4 _ _ (T + i0) B f t (D + 1) (V + i0) tk ⟨h1, h2, h3, by omega, h5, by omega, by omega, ht, by omega, by omega⟩ ⟨o, stk, el, re, ba, ou, om, ce, bk, _, _, vl, rfl, rfl, ho, hou, hel, hva⟩ ?_ ?_) ⟨by omega, by omega, by omega, by omega, by omega⟩ (by omega) (by omega) ?_
    · show upd bg (D + 1) (Q i0) (D + 1) = nI (C i0)
      rw [upd_e, a1]
    · show upd (upd sg D (nI (i0 + 1))) (D + 1) 0 (D + 1) = 0
      rw [upd_e]
    intro c2 m2 t2 tk2 hR2 hv2 hF2 ht2 ht3 htk
    refine ihk (i0 + 1) c2 m2 t2 tk2 (by omega) ht3 (by omega) (by omega) (by omega) (by omega) hR2 ?_ ?_ ?_
    · refine Eq.trans (hF2.2.2.1 D (by omega)).1 ?_
      show upd bg (D + 1) (Q i0) D = nI N
      rw [upd_n (by omega), hNb]
    · refine Eq.trans (hF2.2.2.1 D (by omega)).2 ?_
      show upd (upd sg D (nI (i0 + 1))) (D + 1) 0 D = nI (i0 + 1)
      rw [upd_n (by omega), upd_e]
    · intro j hj
      by_cases hj2 : j = i0
      · subst hj2; exact hv2
      · rw [hF2.1 (T + j) (by omega), hF2.2.2.2.1 (V + j) (by omega)]
        exact hvs j (by omega)
theorem ev_call (hS : Sta g h F len nn q) (ih : EVd g h F len nn q n d) (hES : ∀ n', n' < n → ∀ d, ESd g h F len nn q n' d) (hB : Bd (d + 1) w x z T B f t D V tk v n) (hR : Rl g h q c m a T B f t (D + 1) V tk v) (hN : m.2.2.1 41 D = nI N) (hs : m.2.2.1 42 D = 0) (k1 : N < 499) (k3 : b ≤ len) {na e i s : Nat} {C P Z : Nat → Nat} {Q : Nat → Int32}
    (e0 : h.2.2.1 20 N = 5) (kn : na ≤ 4) (eb : b = e + 1) (kw : w ≤ 31) (kx : x ≤ 31) (ez : z = Z na + 2) (hP0 : P 0 = a) (hP : P na = e) (hZ0 : Z 0 = 0) (e1 : h.2.2.1 21 N = nI na) (hQ0 : 0 < na → h.2.2.1 22 N = Q 0)
    (hA : ∀ i : Nat, i < na → Q i = nI (C i) ∧ (i + 1 < na → h.2.2.1 25 (C i) = Q (i + 1)) ∧ ∃ zi : Nat, Z (i + 1) = Z i + zi + 1 ∧ CV g.2.2.1 h.2.2.1 F len nn d (C i) (P i) (P (i + 1)) v (w + i) (x + i) zi)
    (e2 : g.2.2.1 6 e = 15) (e3 : g.2.2.1 8 e = nI na) (e4 : h.2.2.1 24 N = nI i) (e5 : g.2.2.1 7 e = nI s) (e6 : F i s na) : VO g h q c m b T B f t D V tk v z (b - a) := by
  obtain ⟨h1, h2, h3, h4, h5, h6, h7, h8, h9, h10⟩ := id hB
  have hmono : ∀ r, r ≤ na → P 0 ≤ P r := by
    intro r
    induction r with
    | zero => intro _; exact Nat.le_refl _
    | succ r ihr =>
      intro hr
      obtain ⟨-, -, zr, q1, q2⟩ := hA r (by omega)
      have q3 := (cv_lt q2).1
      have := ihr (by omega)
      omega
  have hm := hmono na (Nat.le_refl _)
  have := ev_args (T := T) (V := V) (D := D) (w := w) (x := x) (B := B) (f := f) hS ih hES h1 h2 h3 h4 h5 h6 h7 kw kx k1 (by omega) kn e0 e1 e2 e3 e4 e5 e6 hP hQ0 hA na 0 c m t tk (by omega) h8 h9 (by omega) (by omega) (by omega) (by rw [hP0]; exact hR) hN (by rw [hs]; rfl) (fun j hj => absurd hj (by omega))
  rw [hP0, hZ0] at this
  rw [eb, ez, show e + 1 - a = e - a + 1 by omega]
  exact this
theorem ev_all (hS : Sta g h F len nn q) (hES : ∀ n', n' < n → ∀ d, ESd g h F len nn q n' d) : ∀ d, EVd g h F len nn q n d := by
  intro d
  induction d with
  | zero => intro N a b v w x z hcv; exact absurd hcv (by simp [CV])
  | succ d ih =>
    intro N a b v w x z hcv c m T B f t D V tk hB hR hN hs
    obtain ⟨k0, k2, k3, k4, k5, hc⟩ := id hcv
    have k1 : N < 499 := by omega
    rcases hc with hc | hc | hc | hc | hc | hc | hc | hc
    · exact ev_leaf hS hcv hB hR hN (Or.inl hc.1)
    · exact ev_leaf hS hcv hB hR hN (Or.inr (Or.inl hc.1))
    · exact ev_leaf hS hcv hB hR hN (Or.inr (Or.inr hc.1))
    · obtain ⟨e0, M, e, z1, e1, e2, e3, e4, e5, e6⟩ := hc
      exact ev_elem hS ih hB hR hN hs k1 k3 k4 k5 e0 e1 e2 e3 e4 e5 e6
    · obtain ⟨e0, na, e, C, P, Z, Q, q1, q2, q3, q4, q5, q6, q7, q8, q9, q10, q11, q12, q13, i, s, q14, q15, q16⟩ := hc
      exact ev_call hS ih hES hB hR hN hs k1 k3 e0 q1 q2 q3 q4 q5 q6 q7 q8 q9 q10 q11 q12 q13 q14 q15 q16
    · obtain ⟨e0, M, e, z1, e1, e2, e3, e4, e5⟩ := hc
      exact ev_sign hS ih hB hR hN hs k1 k3 k4 k5 e0 e1 e2 e3 e4 e5
    · obtain ⟨e0, M, M', i, e, z1, z2, e1, e2, e3, e3', e4, e4', e5, e6⟩ := hc
      exact ev_pair hS ih hB hR hN hs k1 k3 e0 e1 e2 e3 e3' e4 e4' e5 e6
    · obtain ⟨e0, M, M', i, e, z1, z2, e1, e2, e3, e3', e4, e5, e5', e4', e7, e6⟩ := hc
      exact ev_both hS ih hB hR hN hs k1 k3 e0 e1 e2 e3 e3' e4 e5 e5' e4' e7 e6
end EZ
