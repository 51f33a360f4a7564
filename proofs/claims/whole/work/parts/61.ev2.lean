/-! Values with parts: elements, signs, pairs. -/
section EW
variable {g h : St} {F : Nat → Nat → Nat → Prop} {len nn q n d N a b v w x z T B f t D V tk : Nat} {c m : St}
theorem ev_elem (hS : Sta g h F len nn q) (ih : EVd g h F len nn q n d) (hB : Bd (d + 1) w x z T B f t D V tk v n) (hR : Rl g h q c m a T B f t (D + 1) V tk v) (hN : m.2.2.1 41 D = nI N) (hs : m.2.2.1 42 D = 0) (k1 : N < 499) (k3 : b ≤ len) (k4 : w ≤ 34) (k5 : x ≤ 34) {M e z1 : Nat}
    (e0 : h.2.2.1 20 N = 4) (e1 : b = e + 1) (e2 : z = z1 + 2) (e3 : h.2.2.1 22 N = nI M) (e4 : CV g.2.2.1 h.2.2.1 F len nn d M a e v w x z1) (e5 : g.2.2.1 6 e = 13) (e6 : JA g.2.2.1 h.2.2.1 N e) : VO g h q c m b T B f t D V tk v z (b - a) := by
  obtain ⟨s1, s2, s3, s4, s5, s6, s7⟩ := hS
  obtain ⟨h1, h2, h3, h4, h5, h6, h7, h8, h9, h10⟩ := id hB
  have hae : a < e := by
    cases d with
    | zero => exact absurd e4 (by simp [CV])
    | succ d => exact e4.2.1
  obtain ⟨m1, p1, p2, p3, p4, p5, p6, p7⟩ := first_step (T' := T) (f' := f) (V' := V) (X' := 12 * f) hR hN hs (by rw [e0]; exact Or.inl rfl) e3 (by omega) (by omega)
  refine vo_child (zr := 1) (yr := 1) p1 (show CSteps 0 c c from rfl) p7 (ih M a e v w x z1 e4 c m1 T B f t (D + 1) V tk ⟨h1, h2, h3, h4, h5, h6, by omega, h8, h9, by omega⟩ p2 p3 p4) ⟨by omega, by omega, by omega, by omega, by omega⟩ (by omega) (by omega) ?_
  intro c2 m2 t2 tk2 hR2 hv2 hF2 ht2 ht3 htk
  have hN2 := (hF2.2.2.1 D (by omega)).1.trans p5
  have hs2 := (hF2.2.2.1 D (by omega)).2.trans p6
  obtain ⟨o, stk, el, re, ba, ou, om, ce, bk, bg, sg, vl, rfl, rfl, ho, hou, hel, hva⟩ := hR2
  have hNb : bg D = nI N := hN2
  have hsb : sg D = 1 := hs2
  have hv2 : stk T = vl V := hv2
  obtain ⟨i, ea, ez, j1, j2, j3, j4, j5, j6, j7⟩ := e6
  have em := g_behind (tk := nI tk2) (o := nI o) (V := nI (V + 1)) (f := nI f) (t := nI t2) (s := 0) (ou := om) (ce := ce) (bk := bk) (sg := sg) (vl := vl) (by omega : D < 1600) hNb (by omega) e0 (Or.inl rfl) (by rw [hsb]; decide)
  rw [h_elem (by omega) e0 j1 j2 j3 j4 j7 (by omega)] at em
  have ec := i_elem (nx := nI (min tk2 q)) (B := nI B) (f := nI f) (s := 3) (o := nI o) (t := nI t2) (res := 0) (el := el) (re := re) (ba := ba) (ou := ou) s1 s2 (by omega) e5 j5 j6 j7 hv2 (by omega : T < 576)
  by_cases hin : 0 ≤ (vl V).toInt ∧ (vl V).toInt < ez
  · rw [if_pos hin] at em ec
    subst e1
    refine ⟨1, 1, _, _, MSteps.one em (by omega), CSteps.mk ec, Or.inl ⟨t2, tk2, ⟨o, _, _, _, _, _, _, _, _, _, _, _, rfl, rfl, ho, hou, hel, fun k hk => ?_⟩, ?_, ⟨fun j hj => ?_, fun j hj => ⟨rfl, rfl⟩, fun j hj => ⟨rfl, ?_⟩, fun j hj => ?_, fun j hj => rfl⟩, by omega, by omega, by omega, by omega, by omega⟩⟩
    · rw [upd_n (by omega)]; exact hva k hk
    · show upd stk T _ T = upd vl V _ V
      rw [upd_e, upd_e]
      exact hel _ (by omega)
    · exact upd_n (by omega)
    · exact upd_n (by omega)
    · exact upd_n (by omega)
  · rw [if_neg hin] at em ec
    exact ⟨1, 1, _, _, MSteps.one em (by omega), CSteps.mk ec, Or.inr ⟨⟨Or.inl rfl, rfl, ⟨o, ho, rfl, rfl, hou⟩, ⟨t2, ht3, rfl, rfl⟩, rfl⟩, by omega, by omega⟩⟩
theorem cv_lt {G H : Nat → Nat → Int32} {e : Nat} (h : CV G H F len nn d N a e v w x z) : a < e ∧ e ≤ len ∧ N < 499 ∧ w ≤ 34 ∧ x ≤ 34 := by
  cases d with
  | zero => exact absurd h (by simp [CV])
  | succ d => exact ⟨h.2.1, h.2.2.1, Nat.lt_of_lt_of_le h.1.1 h.1.2, h.2.2.2.1, h.2.2.2.2.1⟩
theorem ev_sign (hS : Sta g h F len nn q) (ih : EVd g h F len nn q n d) (hB : Bd (d + 1) w x z T B f t D V tk v n) (hR : Rl g h q c m a T B f t (D + 1) V tk v) (hN : m.2.2.1 41 D = nI N) (hs : m.2.2.1 42 D = 0) (k1 : N < 499) (k3 : b ≤ len) (k4 : w ≤ 34) (k5 : x ≤ 34) {M e z1 : Nat}
    (e0 : h.2.2.1 20 N = 6) (e1 : b = e + 1) (e2 : z = z1 + 2) (e3 : h.2.2.1 22 N = nI M) (e4 : CV g.2.2.1 h.2.2.1 F len nn d M a e v w x z1) (e5 : (h.2.2.1 21 N = 45 ∧ g.2.2.1 6 e = 19) ∨ (h.2.2.1 21 N = 33 ∧ g.2.2.1 6 e = 33) ∨ (h.2.2.1 21 N = 126 ∧ g.2.2.1 6 e = 126)) : VO g h q c m b T B f t D V tk v z (b - a) := by
  obtain ⟨s1, s2, s3, s4, s5, s6, s7⟩ := hS
  obtain ⟨h1, h2, h3, h4, h5, h6, h7, h8, h9, h10⟩ := id hB
  have hae := (cv_lt e4).1
  obtain ⟨m1, p1, p2, p3, p4, p5, p6, p7⟩ := first_step (T' := T) (f' := f) (V' := V) (X' := 12 * f) hR hN hs (by rw [e0]; exact Or.inr (Or.inl rfl)) e3 (by omega) (by omega)
  refine vo_child (zr := 1) (yr := 1) p1 (show CSteps 0 c c from rfl) p7 (ih M a e v w x z1 e4 c m1 T B f t (D + 1) V tk ⟨h1, h2, h3, h4, h5, h6, by omega, h8, h9, by omega⟩ p2 p3 p4) ⟨by omega, by omega, by omega, by omega, by omega⟩ (by omega) (by omega) ?_
  intro c2 m2 t2 tk2 hR2 hv2 hF2 ht2 ht3 htk
  have hN2 := (hF2.2.2.1 D (by omega)).1.trans p5
  have hs2 := (hF2.2.2.1 D (by omega)).2.trans p6
  obtain ⟨o, stk, el, re, ba, ou, om, ce, bk, bg, sg, vl, rfl, rfl, ho, hou, hel, hva⟩ := hR2
  have hNb : bg D = nI N := hN2
  have hsb : sg D = 1 := hs2
  have hv2 : stk T = vl V := hv2
  have em := g_behind (tk := nI tk2) (o := nI o) (V := nI (V + 1)) (f := nI f) (t := nI t2) (s := 0) (ou := om) (ce := ce) (bk := bk) (sg := sg) (vl := vl) (by omega : D < 1600) hNb (by omega) e0 (Or.inr (Or.inl rfl)) (by rw [hsb]; decide)
  rw [h_sign (by omega) e0 rfl (by omega)] at em
  subst e1
  obtain ⟨r, hr, ec⟩ : ∃ r, r = (if h.2.2.1 21 N = 45 then -(vl V) else if h.2.2.1 21 N = 126 then vl V ^^^ (-1) else if vl V = 0 then 1 else 0) ∧ tMachine_step (mkC g (nI (min tk2 q)) (nI (T + 1)) (nI B) (nI f) (nI e) 3 (nI o) (nI t2) 0 stk el re ba ou) = some (mkC g (nI (min tk2 q)) (nI (T + 1)) (nI B) (nI f) (nI (e + 1)) 3 (nI o) (nI t2) 0 (upd stk T r) el re ba ou) := by
    rcases e5 with ⟨q1, q2⟩ | ⟨q1, q2⟩ | ⟨q1, q2⟩
    · exact ⟨_, rfl, by rw [q1, if_pos rfl, ← hv2]; exact i_neg s1 s2 (by omega) q2 (by omega)⟩
    · exact ⟨_, rfl, by rw [q1, if_neg (by decide), if_neg (by decide), ← hv2]; exact i_not s1 s2 (by omega) q2 (by omega)⟩
    · exact ⟨_, rfl, by rw [q1, if_neg (by decide), if_pos rfl, ← hv2]; exact i_inv s1 s2 (by omega) q2 (by omega)⟩
  rw [← hr] at em
  refine ⟨1, 1, _, _, MSteps.one em (by omega), CSteps.mk ec, Or.inl ⟨t2, tk2, ⟨o, _, _, _, _, _, _, _, _, _, _, _, rfl, rfl, ho, hou, hel, fun k hk => ?_⟩, ?_, ⟨fun j hj => ?_, fun j hj => ⟨rfl, rfl⟩, fun j hj => ⟨rfl, ?_⟩, fun j hj => ?_, fun j hj => rfl⟩, by omega, by omega, by omega, by omega, by omega⟩⟩
  · rw [upd_n (by omega)]; exact hva k hk
  · show upd stk T _ T = upd vl V _ V
    rw [upd_e, upd_e]
  · exact upd_n (by omega)
  · exact upd_n (by omega)
  · exact upd_n (by omega)
end EW
