/-! Deeper is no harm; what a value read comes to. -/
section CU
variable {G H : Nat → Nat → Int32} {F : Nat → Nat → Nat → Prop} {len nn : Nat}
theorem cv_mono : ∀ (d N a b v w x z : Nat), CV G H F len nn d N a b v w x z → CV G H F len nn (d + 1) N a b v w x z := by
  intro d
  induction d with
  | zero => intro N a b v w x z h; exact absurd h (by simp [CV])
  | succ d ih =>
    intro N a b v w x z h
    obtain ⟨k0, k2, k3, k4, k5, hc⟩ := h
    refine ⟨k0, k2, k3, k4, k5, ?_⟩
    rcases hc with hc | hc | hc | hc | hc | hc | hc | hc
    · exact Or.inl hc
    · exact Or.inr (Or.inl hc)
    · exact Or.inr (Or.inr (Or.inl hc))
    · obtain ⟨e0, M, e, z1, e1, e2, e3, e4, e5, e6⟩ := hc
      exact Or.inr (Or.inr (Or.inr (Or.inl ⟨e0, M, e, z1, e1, e2, e3, ih _ _ _ _ _ _ _ e4, e5, e6⟩)))
    · obtain ⟨e0, na, e, C, P, Z, Q, q1, q2, q3, q4, q5, q6, q7, q8, q9, q10, q11, q12⟩ := hc
      refine Or.inr (Or.inr (Or.inr (Or.inr (Or.inl ⟨e0, na, e, C, P, Z, Q, q1, q2, q3, q4, q5, q6, q7, q8, q9, q10, fun i hi => ?_, q12⟩))))
      obtain ⟨w1, w2, zi, w3, w4⟩ := q11 i hi
      exact ⟨w1, w2, zi, w3, ih _ _ _ _ _ _ _ w4⟩
    · obtain ⟨e0, M, e, z1, e1, e2, e3, e4, e5⟩ := hc
      exact Or.inr (Or.inr (Or.inr (Or.inr (Or.inr (Or.inl ⟨e0, M, e, z1, e1, e2, e3, ih _ _ _ _ _ _ _ e4, e5⟩)))))
    · obtain ⟨e0, M, M', i, e, z1, z2, e1, e2, e3, e3', e4, e4', e5, e6⟩ := hc
      exact Or.inr (Or.inr (Or.inr (Or.inr (Or.inr (Or.inr (Or.inl ⟨e0, M, M', i, e, z1, z2, e1, e2, e3, e3', ih _ _ _ _ _ _ _ e4, ih _ _ _ _ _ _ _ e4', e5, e6⟩))))))
    · obtain ⟨e0, M, M', i, e, z1, z2, e1, e2, e3, e3', e4, e5, e5', e4', e7, e6⟩ := hc
      exact Or.inr (Or.inr (Or.inr (Or.inr (Or.inr (Or.inr (Or.inr ⟨e0, M, M', i, e, z1, z2, e1, e2, e3, e3', ih _ _ _ _ _ _ _ e4, e5, e5', ih _ _ _ _ _ _ _ e4', e7, e6⟩))))))
theorem cv_up {N a b v w x z : Nat} : ∀ {d' d : Nat}, d ≤ d' → CV G H F len nn d N a b v w x z → CV G H F len nn d' N a b v w x z := by
  intro d'
  induction d' with
  | zero => intro d hd h; obtain rfl : d = 0 := by omega
            exact h
  | succ d' ih =>
    intro d hd h
    rcases Nat.lt_or_ge d (d' + 1) with h1 | h1
    · exact cv_mono _ _ _ _ _ _ _ _ (ih (by omega) h)
    · obtain rfl : d = d' + 1 := by omega
      exact h
theorem cs_mono : ∀ (d N a b v v' z : Nat), CS G H F len nn d N a b v v' z → CS G H F len nn (d + 1) N a b v v' z := by
  intro d
  induction d with
  | zero => intro N a b v v' z h; exact absurd h (by simp [CS])
  | succ d ih =>
    intro N a b v v' z h
    have iv := cv_mono (G := G) (H := H) (F := F) (len := len) (nn := nn) d
    obtain ⟨k0, k2, k3, k4, k5, hc⟩ := h
    refine ⟨k0, k2, k3, k4, k5, ?_⟩
    rcases hc with hc | hc | hc | hc | hc | hc | hc | hc
    · obtain ⟨e0, e1, nb, C, P, Y, Z, Q, q1, q2, q3, q4, q5, q6, q7, q8, q9⟩ := hc
      refine Or.inl ⟨e0, e1, nb, C, P, Y, Z, Q, q1, q2, q3, q4, q5, q6, q7, q8, fun i hi => ?_⟩
      obtain ⟨w1, w2, w2', zi, w3, w4⟩ := q9 i hi
      exact ⟨w1, w2, w2', zi, w3, ih _ _ _ _ _ _ w4⟩
    · obtain ⟨e0, M, e, k, z1, e1, e2, e3, e4, e5⟩ := hc
      exact Or.inr (Or.inl ⟨e0, M, e, k, z1, e1, e2, e3, iv _ _ _ _ _ _ _ e4, e5⟩)
    · obtain ⟨e0, e9, M, M', i, e, z1, z2, e1, e2, e3, e3', e4, e4', e5⟩ := hc
      exact Or.inr (Or.inr (Or.inl ⟨e0, e9, M, M', i, e, z1, z2, e1, e2, e3, e3', iv _ _ _ _ _ _ _ e4, iv _ _ _ _ _ _ _ e4', e5⟩))
    · obtain ⟨e0, e9, M, S, i, e, z1, z2, z3, e2, e3, e3', e4, e5, e6, e7⟩ := hc
      refine Or.inr (Or.inr (Or.inr (Or.inl ⟨e0, e9, M, S, i, e, z1, z2, z3, e2, e3, e3', iv _ _ _ _ _ _ _ e4, e5, ih _ _ _ _ _ _ e6, ?_⟩)))
      rcases e7 with e7 | ⟨S', q1, q2, q3, q4, q5, q6⟩
      · exact Or.inl e7
      · exact Or.inr ⟨S', q1, q2, q3, q4, q5, ih _ _ _ _ _ _ q6⟩
    · obtain ⟨e0, e9, M, S, i, e, z1, z2, e1, e2, e2', e3, e3', e8, e4, e5, e5', e6, e7⟩ := hc
      exact Or.inr (Or.inr (Or.inr (Or.inr (Or.inl ⟨e0, e9, M, S, i, e, z1, z2, e1, e2, e2', e3, e3', e8, iv _ _ _ _ _ _ _ e4, e5, e5', ih _ _ _ _ _ _ e6, e7⟩))))
    · obtain ⟨e0, e9, M, e, z1, e1, e2, e3, e4, e5⟩ := hc
      exact Or.inr (Or.inr (Or.inr (Or.inr (Or.inr (Or.inl ⟨e0, e9, M, e, z1, e1, e2, e3, iv _ _ _ _ _ _ _ e4, e5⟩)))))
    · obtain ⟨e0, e9, M, e, z1, e1, e2, e3, e4, e5⟩ := hc
      exact Or.inr (Or.inr (Or.inr (Or.inr (Or.inr (Or.inr (Or.inl ⟨e0, e9, M, e, z1, e1, e2, e3, iv _ _ _ _ _ _ _ e4, e5⟩))))))
    · obtain ⟨e0, e9, M, e, z1, e1, e2, e3, e4, e5⟩ := hc
      exact Or.inr (Or.inr (Or.inr (Or.inr (Or.inr (Or.inr (Or.inr ⟨e0, e9, M, e, z1, e1, e2, e3, iv _ _ _ _ _ _ _ e4, e5⟩))))))
theorem cs_up {N a b v v' z : Nat} : ∀ {d' d : Nat}, d ≤ d' → CS G H F len nn d N a b v v' z → CS G H F len nn d' N a b v v' z := by
  intro d'
  induction d' with
  | zero => intro d hd h; obtain rfl : d = 0 := by omega
            exact h
  | succ d' ih =>
    intro d hd h
    rcases Nat.lt_or_ge d (d' + 1) with h1 | h1
    · exact cs_mono _ _ _ _ _ _ _ (ih (by omega) h)
    · obtain rfl : d = d' + 1 := by omega
      exact h
end CU
/-- what the reading of a value has made: l .. l' of the code, nodes nd .. nd' with N on top -/
def VQ (n : Nat) (K : Nat → Int32) (C M : Nat → Nat → Int32) (f a a' o l l' nd nd' N vc : Nat) : Prop :=
  ∀ G H : Nat → Nat → Int32, AgC C G l l' → AgN M H nd nd' N →
    (∀ x t k, CE G l l' x t k ↔ NE K H nd nd' x t k) ∧
    (n < f → ∀ (G' H' : Nat → Nat → Int32) (F : Nat → Nat → Nat → Prop) (len nn : Nat), Fin G H G' H' F len nn → l' ≤ len → nd' ≤ nn → ∀ w x, w ≤ 3 * o - 2 → x ≤ 3 * o - 2 → ∃ z, z + 1 ≤ 4 * (a' - a) ∧ CV G' H' F len nn ((a' - a + 1) / 2 + (13 - o)) N l l' vc w x z)
theorem cene_app {K : Nat → Int32} {G H : Nat → Nat → Int32} {l l1 l2 nd n1 n2 : Nat} (h1 : ∀ x t k, CE G l l1 x t k ↔ NE K H nd n1 x t k) (h2 : ∀ x t k, CE G l1 l2 x t k ↔ NE K H n1 n2 x t k) (a1 : l ≤ l1) (a2 : l1 ≤ l2) (a3 : nd ≤ n1) (a4 : n1 ≤ n2) : ∀ x t k, CE G l l2 x t k ↔ NE K H nd n2 x t k := fun x t k => by
  rw [ce_split a1 a2, ne_split a3 a4, h1, h2]
theorem cene_none {K : Nat → Int32} {G H : Nat → Nat → Int32} {l nd : Nat} (h1 : ¬ (G 6 l = 13 ∨ G 6 l = 14 ∨ G 6 l = 15)) (h2 : ¬ (H 20 nd = 4 ∨ H 20 nd = 5 ∨ H 20 nd = 12)) : ∀ x t k, CE G l (l + 1) x t k ↔ NE K H nd (nd + 1) x t k := fun x t k => ⟨fun e => absurd e (ce_none h1), fun e => absurd e (ne_none h2)⟩
theorem cene_c {K : Nat → Int32} {G H : Nat → Nat → Int32} {l nd : Nat} (h1 : ¬ (G 6 l = 13 ∨ G 6 l = 14 ∨ G 6 l = 15)) : ∀ x t k, CE G l (l + 1) x t k ↔ NE K H nd nd x t k := fun x t k => ⟨fun e => absurd e (ce_none h1), fun e => absurd e ne_empty⟩
theorem cene_n {K : Nat → Int32} {G H : Nat → Nat → Int32} {l nd : Nat} (h2 : ¬ (H 20 nd = 4 ∨ H 20 nd = 5 ∨ H 20 nd = 12)) : ∀ x t k, CE G l l x t k ↔ NE K H nd (nd + 1) x t k := fun x t k => ⟨fun e => absurd e ce_empty, fun e => absurd e (ne_none h2)⟩
theorem cene_elem {K : Nat → Int32} {G H : Nat → Nat → Int32} {l nd s : Nat} (h1 : G 6 l = 13 ∨ G 6 l = 14) (h2 : H 20 nd = 4 ∨ H 20 nd = 12) (h3 : G 7 l = nI s) (h4 : H 26 nd = nI s) (hs : s < 1000 ∧ K s = 1) : ∀ x t k, CE G l (l + 1) x t k ↔ NE K H nd (nd + 1) x t k := by
  intro x t k
  constructor
  · rintro ⟨i, a, b, c, d⟩
    obtain rfl : i = l := by omega
    refine Or.inl ⟨nd, Nat.le_refl _, by omega, Or.inr ⟨h2, ?_⟩, by rw [h4, ← h3, d]⟩
    rcases c with c | c
    · rcases h1 with h1 | h1 <;> exact absurd (h1.symm.trans c.1) (by decide)
    · exact c.2
  · rintro (⟨i, a, b, c, d⟩ | ⟨-, i, a, b, -, d⟩)
    · obtain rfl : i = nd := by omega
      refine ⟨l, Nat.le_refl _, by omega, Or.inr ⟨h1, ?_⟩, by rw [h3, ← h4, d]⟩
      rcases c with c | c
      · rcases h2 with h2 | h2 <;> exact absurd (h2.symm.trans c.1) (by decide)
      · exact c.2
    · obtain rfl : i = nd := by omega
      exact absurd ⟨s, hs.1, hs.2, h4⟩ d
theorem cene_call {K : Nat → Int32} {G H : Nat → Nat → Int32} {l nd s : Nat} (h1 : G 6 l = 15) (h2 : H 20 nd = 5) (h3 : G 7 l = nI s) (h4 : H 26 nd = nI s) (h5 : G 8 l = H 21 nd) (hs : s < 1000 ∧ K s = 1) : ∀ x t k, CE G l (l + 1) x t k ↔ NE K H nd (nd + 1) x t k := by
  intro x t k
  constructor
  · rintro ⟨i, a, b, c, d⟩
    obtain rfl : i = l := by omega
    refine Or.inl ⟨nd, Nat.le_refl _, by omega, Or.inl ?_, by rw [h4, ← h3, d]⟩
    rcases c with c | c
    · exact ⟨h2, c.2.1, by rw [← h5]; exact c.2.2⟩
    · rcases c.1 with c | c <;> exact absurd (h1.symm.trans c) (by decide)
  · rintro (⟨i, a, b, c, d⟩ | ⟨-, i, a, b, -, d⟩)
    · obtain rfl : i = nd := by omega
      refine ⟨l, Nat.le_refl _, by omega, Or.inl ?_, by rw [h3, ← h4, d]⟩
      rcases c with c | c
      · exact ⟨h1, c.2.1, by rw [h5]; exact c.2.2⟩
      · rcases c.1 with c | c <;> exact absurd (h2.symm.trans c) (by decide)
    · obtain rfl : i = nd := by omega
      exact absurd ⟨s, hs.1, hs.2, h4⟩ d
/-- the names of both sides at a place of the text: ag says whether their variables are the same -/
def Bs (n : Nat) (K : Nat → Int32) (p : Nat → Nat) (V : Nat → Int64) (g h : St) (tv : Nat → Nat) (vc vm ar : Nat) (ag : Prop) : Prop :=
  TkC g n K p V ∧ TkM h n K p V ∧ (g.1 8 = nI vc ∧ vc ≤ 12) ∧ VrM h n K tv vm ∧ (ag → vc = vm ∧ ∀ k, k < vc → g.2.2.2 1 k = V (tv k)) ∧ (h.1 42 = nI ar ∧ ar ≤ 20) ∧ (∃ b, b ≤ 12 ∧ g.1 9 = nI b) ∧ (∃ b, b ≤ 12 ∧ g.1 10 = nI b)
def VOk (n : Nat) (K : Nat → Int32) (p : Nat → Nat) (g h c m c' : St) (b : Int32) (fC fM a o l nd oc wt vc : Nat) (ag : Prop) (lim : Nat) : Prop :=
  ∃ (a' l' nd' fC' fM' N j k : Nat) (m1 m2 : St), PW n p g c' fC' a' o l' ∧ PV n h m2 fM' a' o nd' (oc + 1) wt ∧ VSteps j b m 0 m1 ∧ (m1.1 29 = 0 ∧ m1.1 31 = nI a' ∧ SameT h m1) ∧ SSt (nI (max 1 (sth (K a')))) k m1 m2 ∧ sth (K a') < lim ∧ (a < a' ∧ a' ≤ n ∧ l < l' ∧ l' ≤ l + 2 * (a' - a) ∧ nd ≤ N ∧ N < nd' ∧ nd' ≤ nd + (a' - a) ∧ j ≤ a' - a ∧ k + o ≤ 12) ∧ FW c c' l ∧ FV m m2 nd oc wt ∧ m2.2.2.1 33 oc = nI N ∧ VQ n K c'.2.2.1 m2.2.2.1 fC' a a' o l l' nd nd' N vc ∧ BI ag a fC fC' fM fM' (NH m2.2.2.1 nd nd')
def VBad (n : Nat) (g h m c' : St) (b : Int32) (a : Nat) : Prop := ∃ (r q : Int32) (j : Nat) (b' : Int32) (m' : St), CBad g n r q c' ∧ VSteps j b m b' m' ∧ MBad h n 5 r q m' ∧ j + a ≤ n + 5
def VRes (n : Nat) (K : Nat → Int32) (p : Nat → Nat) (g h c m : St) (b : Int32) (fC fM a o l nd oc wt vc : Nat) (ag : Prop) (lim : Nat) (res : Option (Int32 × St)) : Prop :=
  ∃ x c', res = some (x, c') ∧ (VOk n K p g h c m c' b fC fM a o l nd oc wt vc ag lim ∨ VBad n g h m c' b a)
section VV
variable {n : Nat} {K : Nat → Int32} {p : Nat → Nat} {V : Nat → Int64} {g h : St} {tv : Nat → Nat} {vc vm ar : Nat} {ag : Prop}
theorem cb_mkW {r q w a o : Int32} {l : Nat} {co op sz : Nat → Int32} (B : Bs n K p V g h tv vc vm ar ag) (hr : ¬ r = 0) (hl : l ≤ 440) : CBad g n r q (mkW g r q w a o (nI l) co op sz) := by
  obtain ⟨b1, b2, b3, b4, b5, b6, b7, b8⟩ := B
  exact ⟨frc_mkW (frc_refl g), rfl, rfl, hr, ⟨b1.1, b1.2.1⟩, ⟨vc, b3.2, b3.1⟩, b7, ⟨l, hl, rfl⟩, b8⟩
theorem mb_V {r q ft o wt : Int32} {a nd oc : Nat} {so wh oe tw th nx tk os wa wf : Nat → Int32} (B : Bs n K p V g h tv vc vm ar ag) (hr : ¬ r = 0) (ha : a ≤ n) (hd : nd ≤ 400) (hoc : oc ≤ 40) : MBad h n 0 r q (mkV h r q ft (nI a) o (nI nd) (nI oc) wt so wh oe tw th nx tk os wa wf) := by
  obtain ⟨b1, b2, b3, b4, b5, b6, b7, b8⟩ := B
  exact mb_mkV (frm_refl h) hr ha (by omega) (by omega) b6.1 (by omega)
theorem max1 {s : Nat} (hs : s ≤ 6) : (if nI s ≤ 0 then (1 : Int32) else nI s) = nI (max 1 s) := by
  by_cases h0 : s = 0
  · subst h0; rw [if_pos (by decide)]; rfl
  · rw [if_neg (nI_nle (by omega) (by omega)), show max 1 s = s by omega]
/-- a leaf: one instruction, one node, one turn -/
theorem vok_leaf {co op sz so wh oe tw th nx tk os wa wf : Nat → Int32} {fC fM a o l nd oc wt a' fC' fM' : Nat} {x1 x2 x3 y0 y1 y2 y3 y4 y5 y6 : Int32} (B : Bs n K p V g h tv vc vm ar ag) (ho : o ≤ 12) (ha : a < a') (ha' : a' ≤ n) (hx : ¬ (x1 = 13 ∨ x1 = 14 ∨ x1 = 15)) (hy : ¬ (y0 = 4 ∨ y0 = 5 ∨ y0 = 12)) (ho1 : 1 ≤ o) (hnd : nd ≤ a)
    (hv : vStep 1 (mkV h 0 (-1) (ftk n fM) (nI a) (nI o) (nI nd) (nI oc) (nI wt) so wh oe tw th nx tk os wa wf) = some (0, mkV h 0 (-1) (ftk n fM') (nI a') (nI o) (nI (nd + 1)) (nI (oc + 1)) (nI wt) (upd so nd y0) (upd wh nd y1) (upd oe nd y2) (upd tw nd y3) (upd th nd y4) (upd nx nd y5) (upd tk nd y6) (upd os oc (nI nd)) wa wf))
    (hq : n < fC' → (y0 = 1 ∧ x1 = 10 ∧ x2 = y1) ∨ (y0 = 2 ∧ x1 = 8) ∨ (y0 = 3 ∧ x1 = 11 ∧ ∃ k : Nat, k < vc ∧ y1 = nI k ∧ x2 = nI k)) (hb : ∀ S : Nat → Prop, (∀ t, ¬ S t) → BI ag a fC fC' fM fM' S) :
    VOk n K p g h (mkW g 0 (-1) (wn n p fC) (nI a) (nI o) (nI l) co op sz) (mkV h 0 (-1) (ftk n fM) (nI a) (nI o) (nI nd) (nI oc) (nI wt) so wh oe tw th nx tk os wa wf) (mkW g 0 (-1) (wn n p fC') (nI a') (nI o) (nI (l + 1)) (upd co l x1) (upd op l x2) (upd sz l x3)) 1 fC fM a o l nd oc wt vc ag 7 := by
  refine ⟨a', l + 1, nd + 1, fC', fM', nd, 1, 0, _, _, ⟨_, _, _, rfl⟩, ⟨_, _, _, _, _, _, _, _, _, _, rfl⟩, vs_one rfl hv, ⟨rfl, rfl, samev⟩, sst_refl, by have := sth_le (K a'); omega, ⟨ha, ha', by omega, by omega, by omega, by omega, by omega, by omega, by omega⟩, fun k hk => ⟨upd_n (by omega), upd_n (by omega), upd_n (by omega)⟩, ⟨fun i hi => ⟨upd_n (by omega), upd_n (by omega), upd_n (by omega), upd_n (by omega), upd_n (by omega), upd_n (by omega), upd_n (by omega)⟩, fun i hi => upd_n (by omega), fun i hi => ⟨rfl, rfl⟩⟩, upd_e, ?_, ?_⟩
  · intro G H hG hH
    obtain ⟨g6, g7, g8⟩ := hG l (by omega) (by omega)
    obtain ⟨h20, h21, h22, h23, h24, h26, -⟩ := hH nd (by omega) (by omega)
    replace g6 : G 6 l = x1 := g6.trans upd_e
    replace g7 : G 7 l = x2 := g7.trans upd_e
    replace h20 : H 20 nd = y0 := h20.trans upd_e
    replace h21 : H 21 nd = y1 := h21.trans upd_e
    refine ⟨cene_none (by rw [g6]; exact hx) (by rw [h20]; exact hy), fun hf G' H' F len nn hF hl hn w x hw hx' => ⟨1, by omega, ?_⟩⟩
    obtain ⟨f1, f2, f3, f4, f5⟩ := hF
    obtain ⟨e6, e7⟩ := f2 l (by omega)
    obtain ⟨i20, i21, -⟩ := f3 nd (by omega)
    replace e7 := e7 (by rw [g6]; exact hx)
    rw [g6] at e6; rw [g7] at e7; rw [h20] at i20; rw [h21] at i21
    obtain ⟨D, hD⟩ : ∃ D, (a' - a + 1) / 2 + (13 - o) = D + 1 := ⟨(a' - a + 1) / 2 + (13 - o) - 1, by omega⟩
    rw [hD]
    refine ⟨⟨by omega, f1⟩, by omega, by omega, by omega, by omega, ?_⟩
    rcases hq hf with ⟨q1, q2, q3⟩ | ⟨q1, q2⟩ | ⟨q1, q2, k, q3, q4, q5⟩
    · exact Or.inl ⟨by rw [i20, q1], rfl, rfl, by rw [e6, q2], by rw [e7, i21, q3]⟩
    · exact Or.inr (Or.inl ⟨by rw [i20, q1], rfl, rfl, by rw [e6, q2]⟩)
    · exact Or.inr (Or.inr (Or.inl ⟨by rw [i20, q1], rfl, rfl, by rw [e6, q2], k, q3, by rw [i21, q4], by rw [e7, q5]⟩))
  · refine hb _ fun t => ?_
    refine nh_none ?_
    show ¬ (upd so nd y0 nd = 4 ∨ upd so nd y0 nd = 5 ∨ upd so nd y0 nd = 12)
    rw [upd_e]; exact hy
end VV
