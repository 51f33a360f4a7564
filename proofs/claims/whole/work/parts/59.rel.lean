/-! When code and nodes say the same; how the two machines stand to each other while they run. -/
def JA (G H : Nat → Nat → Int32) (N e : Nat) : Prop := ∃ q a z : Nat, H 24 N = nI q ∧ q < 60 ∧ H 29 q = nI z ∧ H 30 q = nI a ∧ G 7 e = nI a ∧ G 8 e = nI z ∧ a + z ≤ 64
/-- the code [a, b) works out node N: v variables are there, w values wait on the class's side, x on the model's, z steps of the walker -/
def CV (G H : Nat → Nat → Int32) (F : Nat → Nat → Nat → Prop) (len nn : Nat) : Nat → Nat → Nat → Nat → Nat → Nat → Nat → Nat → Prop
  | 0, _, _, _, _, _, _, _ => False
  | d + 1, N, a, b, v, w, x, z => (N < nn ∧ nn ≤ 499) ∧ a < b ∧ b ≤ len ∧ w ≤ 34 ∧ x ≤ 34 ∧ (
      (H 20 N = 1 ∧ b = a + 1 ∧ z = 1 ∧ G 6 a = 10 ∧ G 7 a = H 21 N) ∨
      (H 20 N = 2 ∧ b = a + 1 ∧ z = 1 ∧ G 6 a = 8) ∨
      (H 20 N = 3 ∧ b = a + 1 ∧ z = 1 ∧ G 6 a = 11 ∧ ∃ k : Nat, k < v ∧ H 21 N = nI k ∧ G 7 a = nI k) ∨
      (H 20 N = 4 ∧ ∃ M e z1 : Nat, b = e + 1 ∧ z = z1 + 2 ∧ H 22 N = nI M ∧ CV G H F len nn d M a e v w x z1 ∧ G 6 e = 13 ∧ JA G H N e) ∨
      (H 20 N = 5 ∧ ∃ (n e : Nat) (C P Z : Nat → Nat) (Q : Nat → Int32), n ≤ 4 ∧ b = e + 1 ∧ w ≤ 31 ∧ x ≤ 31 ∧ z = Z n + 2 ∧ P 0 = a ∧ P n = e ∧ Z 0 = 0 ∧ H 21 N = nI n ∧ (0 < n → H 22 N = Q 0) ∧
        (∀ i : Nat, i < n → Q i = nI (C i) ∧ (i + 1 < n → H 25 (C i) = Q (i + 1)) ∧ ∃ zi : Nat, Z (i + 1) = Z i + zi + 1 ∧ CV G H F len nn d (C i) (P i) (P (i + 1)) v (w + i) (x + i) zi) ∧
        G 6 e = 15 ∧ G 8 e = nI n ∧ ∃ q s : Nat, H 24 N = nI q ∧ G 7 e = nI s ∧ F q s n) ∨
      (H 20 N = 6 ∧ ∃ M e z1 : Nat, b = e + 1 ∧ z = z1 + 2 ∧ H 22 N = nI M ∧ CV G H F len nn d M a e v w x z1 ∧ ((H 21 N = 45 ∧ G 6 e = 19) ∨ (H 21 N = 33 ∧ G 6 e = 33) ∨ (H 21 N = 126 ∧ G 6 e = 126))) ∨
      (H 20 N = 7 ∧ ∃ M M' m e z1 z2 : Nat, b = e + 1 ∧ z = z1 + z2 + 3 ∧ H 22 N = nI M ∧ H 23 N = nI M' ∧ CV G H F len nn d M a m v w x z1 ∧ CV G H F len nn d M' m e v (w + 1) (x + 1) z2 ∧ G 6 e = H 21 N ∧ strict (H 21 N)) ∨
      (H 20 N = 7 ∧ ∃ M M' m e z1 z2 : Nat, b = e + 1 ∧ z = z1 + z2 + 3 ∧ H 22 N = nI M ∧ H 23 N = nI M' ∧ CV G H F len nn d M a m v w x z1 ∧ G 6 m = H 21 N ∧ G 7 m = nI b ∧ CV G H F len nn d M' (m + 1) e v w (x + 1) z2 ∧ G 6 e = 18 ∧ (H 21 N = 294 ∨ H 21 N = 380)))
/-- the code [a, b) does statement N; v variables are there before it, v' behind it -/
def CS (G H : Nat → Nat → Int32) (F : Nat → Nat → Nat → Prop) (len nn : Nat) : Nat → Nat → Nat → Nat → Nat → Nat → Nat → Prop
  | 0, _, _, _, _, _, _ => False
  | d + 1, N, a, b, v, v', z => (N < nn ∧ nn ≤ 499) ∧ a ≤ b ∧ b ≤ len ∧ v ≤ 12 ∧ v' ≤ 12 ∧ (
      (H 20 N = 10 ∧ v' = v ∧ ∃ (n : Nat) (C P Y Z : Nat → Nat) (Q : Nat → Int32), n ≤ 400 ∧ P 0 = a ∧ P n = b ∧ Y 0 = v ∧ Z 0 = 1 ∧ z = Z n ∧ H 22 N = Q 0 ∧ Q n = -1 ∧
        (∀ i : Nat, i < n → Q i = nI (C i) ∧ H 25 (C i) = Q (i + 1) ∧ v ≤ Y (i + 1) ∧ ∃ zi : Nat, Z (i + 1) = Z i + zi + 1 ∧ CS G H F len nn d (C i) (P i) (P (i + 1)) (Y i) (Y (i + 1)) zi)) ∨
      (H 20 N = 11 ∧ ∃ M e k z1 : Nat, b = e + 1 ∧ z = z1 + 2 ∧ H 22 N = nI M ∧ CV G H F len nn d M a e v 0 0 z1 ∧ G 6 e = 12 ∧ G 7 e = nI k ∧ H 21 N = nI k ∧ ((k < v ∧ v' = v) ∨ (k = v ∧ v' = v + 1))) ∨
      (H 20 N = 12 ∧ v' = v ∧ ∃ M M' m e z1 z2 : Nat, b = e + 1 ∧ z = z1 + z2 + 3 ∧ H 22 N = nI M ∧ H 23 N = nI M' ∧ CV G H F len nn d M a m v 0 0 z1 ∧ CV G H F len nn d M' m e v 1 1 z2 ∧ G 6 e = 14 ∧ JA G H N e) ∨
      (H 20 N = 13 ∧ v' = v ∧ ∃ M S m e z1 z2 z3 : Nat, z = z1 + z2 + z3 + 3 ∧ H 22 N = nI M ∧ H 23 N = nI S ∧ CV G H F len nn d M a m v 0 0 z1 ∧ G 6 m = 17 ∧ CS G H F len nn d S (m + 1) e v v z2 ∧
        ((H 24 N = -1 ∧ e = b ∧ G 7 m = nI b) ∨ (∃ S' : Nat, H 24 N = nI S' ∧ e < b ∧ G 6 e = 16 ∧ G 7 e = nI b ∧ G 7 m = nI (e + 1) ∧ CS G H F len nn d S' (e + 1) b v v z3))) ∨
      (H 20 N = 14 ∧ v' = v ∧ ∃ M S m e z1 z2 : Nat, b = e + 1 ∧ z = z1 + z2 + 3 ∧ z ≤ 4000 ∧ H 22 N = nI M ∧ H 23 N = nI S ∧ G 6 a = 20 ∧ CV G H F len nn d M (a + 1) m v 0 0 z1 ∧ G 6 m = 17 ∧ G 7 m = nI b ∧ CS G H F len nn d S (m + 1) e v v z2 ∧ G 6 e = 16 ∧ G 7 e = nI a) ∨
      (H 20 N = 15 ∧ v' = v ∧ ∃ M e z1 : Nat, b = e + 1 ∧ z = z1 + 2 ∧ H 22 N = nI M ∧ CV G H F len nn d M a e v 0 0 z1 ∧ G 6 e = 7) ∨
      (H 20 N = 16 ∧ v' = v ∧ ∃ M e z1 : Nat, b = e + 1 ∧ z = z1 + 2 ∧ H 22 N = nI M ∧ CV G H F len nn d M a e v 0 0 z1 ∧ G 6 e = 9) ∨
      (H 20 N = 17 ∧ v' = v ∧ ∃ M e z1 : Nat, b = e + 1 ∧ z = z1 + 2 ∧ H 22 N = nI M ∧ CV G H F len nn d M a e v 0 0 z1 ∧ G 6 e = 21))
/-- what stays the same while they run -/
def Sta (g h : St) (F : Nat → Nat → Nat → Prop) (len nn q : Nat) : Prop :=
  g.1 13 = nI len ∧ len ≤ 440 ∧ g.1 15 = nI q ∧ h.1 45 = nI q ∧ q ≤ 20 ∧ (∀ j, j < q → g.2.2.1 9 j = h.2.2.1 37 j) ∧
  ∀ i s n : Nat, F i s n → i < 60 ∧ n ≤ 4 ∧ h.2.2.1 29 i = nI n ∧ ∃ B d e z : Nat, h.2.2.1 30 i = nI B ∧ CS g.2.2.1 h.2.2.1 F len nn d B s e n n z ∧ d ≤ 125 ∧ z ≤ 4000 ∧ e + 2 ≤ len ∧ g.2.2.1 6 e = 10 ∧ g.2.2.1 7 e = 0 ∧ g.2.2.1 6 (e + 1) = 7
/-- the two states of a run -/
def Rl (g h : St) (q : Nat) (c m : St) (p T B f t D V tk v : Nat) : Prop :=
  ∃ (o : Nat) (stk el re ba ou om ce bk bg sg vl : Nat → Int32),
    c = mkC g (nI (min tk q)) (nI T) (nI B) (nI f) (nI p) 3 (nI o) (nI t) 0 stk el re ba ou ∧
    m = mkM h (nI tk) (nI o) (nI D) (nI V) (nI f) (nI t) 0 om ce bk bg sg vl ∧
    o ≤ 30 ∧ (∀ j, j < o → ou j = om j) ∧ (∀ j, j < 64 → el j = ce j) ∧ (∀ k, k < v → stk (B + k) = bk (12 * (f - 1) + k))
/-- what a part of a run leaves alone: cells below T, frames below f, entries below D, values below V, variables below X -/
def Fr (c m c' m' : St) (T f D V X : Nat) : Prop :=
  (∀ j, j < T → c'.2.2.1 10 j = c.2.2.1 10 j) ∧ (∀ j, j < f → c'.2.2.1 12 j = c.2.2.1 12 j ∧ c'.2.2.1 13 j = c.2.2.1 13 j) ∧ (∀ j, j < D → m'.2.2.1 41 j = m.2.2.1 41 j ∧ m'.2.2.1 42 j = m.2.2.1 42 j) ∧ (∀ j, j < V → m'.2.2.1 43 j = m.2.2.1 43 j) ∧ (∀ j, j < X → m'.2.2.1 40 j = m.2.2.1 40 j)
theorem Fr.trans {c m c' m' c2 m2 : St} {T f D V X T' f' D' V' X' : Nat} (h1 : Fr c m c' m' T f D V X) (h2 : Fr c' m' c2 m2 T' f' D' V' X') (a1 : T ≤ T') (a2 : f ≤ f') (a3 : D ≤ D') (a4 : V ≤ V') (a5 : X ≤ X') : Fr c m c2 m2 T f D V X := by
  obtain ⟨b1, b2, b3, b4, b5⟩ := h1
  obtain ⟨c1, c2', c3, c4, c5⟩ := h2
  exact ⟨fun j hj => (c1 j (by omega)).trans (b1 j hj), fun j hj => ⟨(c2' j (by omega)).1.trans (b2 j hj).1, (c2' j (by omega)).2.trans (b2 j hj).2⟩, fun j hj => ⟨(c3 j (by omega)).1.trans (b3 j hj).1, (c3 j (by omega)).2.trans (b3 j hj).2⟩, fun j hj => (c4 j (by omega)).trans (b4 j hj), fun j hj => (c5 j (by omega)).trans (b5 j hj)⟩
theorem Fr.weak {c m c' m' : St} {T f D V X T' f' D' V' X' : Nat} (h : Fr c m c' m' T' f' D' V' X') (a1 : T ≤ T') (a2 : f ≤ f') (a3 : D ≤ D') (a4 : V ≤ V') (a5 : X ≤ X') : Fr c m c' m' T f D V X := by
  obtain ⟨b1, b2, b3, b4, b5⟩ := h
  exact ⟨fun j hj => b1 j (by omega), fun j hj => b2 j (by omega), fun j hj => b3 j (by omega), fun j hj => b4 j (by omega), fun j hj => b5 j (by omega)⟩
/-- both have ended, for the same reason, with the same to show -/
def En (c m : St) : Prop :=
  (c.1 21 = 1 ∨ c.1 21 = 2) ∧ m.1 52 = c.1 21 ∧ (∃ o, o ≤ 30 ∧ c.1 22 = nI o ∧ m.1 47 = nI o ∧ ∀ j, j < o → c.2.2.1 14 j = m.2.2.1 38 j) ∧ (∃ t, t ≤ 400 ∧ c.1 23 = nI t ∧ m.1 51 = nI t) ∧ c.1 24 = 0
/-- a value has been worked out, or all has ended -/
def VO (g h : St) (q : Nat) (c m : St) (b T B f t D V tk v z y : Nat) : Prop :=
  ∃ (j k : Nat) (c' m' : St), MSteps j m m' ∧ CSteps k c c' ∧
    ((∃ t' tk' : Nat, Rl g h q c' m' b (T + 1) B f t' D (V + 1) tk' v ∧ c'.2.2.1 10 T = m'.2.2.1 43 V ∧ Fr c m c' m' T f D V (12 * f) ∧ t ≤ t' ∧ t' ≤ 400 ∧ tk' ≤ tk + j ∧ j + 5000 * (400 - t') ≤ z + 5000 * (400 - t) ∧ k + 500 * (400 - t') ≤ y + 500 * (400 - t)) ∨
     (En c' m' ∧ j ≤ z + 5000 * (400 - t) ∧ k ≤ y + 500 * (400 - t)))
theorem CSteps.mk {g : St} {nx T B f p o t res : Int32} {stk el re ba ou : Nat → Int32} {c' : St} (h : tMachine_step (mkC g nx T B f p 3 o t res stk el re ba ou) = some c') : CSteps 1 (mkC g nx T B f p 3 o t res stk el re ba ou) c' := ⟨mkC_i21, _, h, rfl⟩
/-- a part of a node has its value: on with the rest of the node -/
theorem vo_child {g h : St} {q : Nat} {c m c1 m1 : St} {b T B f t D V tk v z y i l b1 T1 t1 D1 V1 tk1 z1 y1 zr yr : Nat} (hm : MSteps i m m1) (hc : CSteps l c c1) (hF : Fr c m c1 m1 T f D V (12 * f)) (hch : VO g h q c1 m1 b1 T1 B f t1 D1 V1 tk1 v z1 y1) (hT : T ≤ T1 ∧ D ≤ D1 ∧ V ≤ V1 ∧ t ≤ t1 ∧ tk1 ≤ tk + i) (hz : i + z1 + zr + 5000 * (400 - t1) ≤ z + 5000 * (400 - t)) (hy : l + y1 + yr + 500 * (400 - t1) ≤ y + 500 * (400 - t))
    (K : ∀ (c2 m2 : St) (t2 tk2 : Nat), Rl g h q c2 m2 b1 (T1 + 1) B f t2 D1 (V1 + 1) tk2 v → c2.2.2.1 10 T1 = m2.2.2.1 43 V1 → Fr c1 m1 c2 m2 T1 f D1 V1 (12 * f) → t1 ≤ t2 → t2 ≤ 400 → tk2 + zr + 5000 * (400 - t2) ≤ tk + z + 5000 * (400 - t) → VO g h q c2 m2 b T B f t2 D V tk2 v zr yr) :
    VO g h q c m b T B f t D V tk v z y := by
  obtain ⟨j, k, c2, m2, hm2, hc2, hch⟩ := hch
  rcases hch with ⟨t2, tk2, hR, hv, hF2, ht2, ht3, htk, hz2, hy2⟩ | ⟨hE, hz2, hy2⟩
  · obtain ⟨j3, k3, c3, m3, hm3, hc3, h3⟩ := K c2 m2 t2 tk2 hR hv hF2 ht2 ht3 (by omega)
    refine ⟨i + j + j3, l + k + k3, c3, m3, (hm.trans hm2).trans hm3, (hc.trans hc2).trans hc3, ?_⟩
    rcases h3 with ⟨t', tk', hR3, hv3, hF3, ht4, ht5, htk3, hz3, hy3⟩ | ⟨hE, hz3, hy3⟩
    · exact Or.inl ⟨t', tk', hR3, hv3, (hF.trans hF2 hT.1 (Nat.le_refl _) hT.2.1 hT.2.2.1 (Nat.le_refl _)).trans hF3 (Nat.le_refl _) (Nat.le_refl _) (Nat.le_refl _) (Nat.le_refl _) (Nat.le_refl _), by omega, ht5, by omega, by omega, by omega⟩
    · exact Or.inr ⟨hE, by omega, by omega⟩
  · exact ⟨i + j, l + k, c2, m2, hm.trans hm2, hc.trans hc2, Or.inr ⟨hE, by omega, by omega⟩⟩
/-- the walker turns to a node's first part -/
theorem first_step {g h : St} {q : Nat} {c m : St} {a T B f t D V tk v N M T' f' V' X' : Nat} (hR : Rl g h q c m a T B f t (D + 1) V tk v) (hN : m.2.2.1 41 D = nI N) (hs : m.2.2.1 42 D = 0) (hk : isFirst (h.2.2.1 20 N)) (h22 : h.2.2.1 22 N = nI M) (hN2 : N < 500) (hD : D + 1 < 1600) :
    ∃ m1, MSteps 1 m m1 ∧ Rl g h q c m1 a T B f t (D + 2) V tk v ∧ m1.2.2.1 41 (D + 1) = nI M ∧ m1.2.2.1 42 (D + 1) = 0 ∧ m1.2.2.1 41 D = nI N ∧ m1.2.2.1 42 D = 1 ∧ Fr c m c m1 T' f' D V' X' := by
  obtain ⟨o, stk, el, re, ba, ou, om, ce, bk, bg, sg, vl, rfl, rfl, ho, hou, hel, hva⟩ := hR
  have hNb : bg D = nI N := hN
  have hsb : sg D = 0 := hs
  refine ⟨_, MSteps.one (g_first hD hNb hN2 rfl hk hsb) (by omega), ⟨o, stk, el, re, ba, ou, om, ce, bk, _, _, vl, rfl, rfl, ho, hou, hel, hva⟩, ?_, ?_, ?_, ?_, ⟨fun j hj => rfl, fun j hj => ⟨rfl, rfl⟩, fun j hj => ⟨?_, ?_⟩, fun j hj => rfl, fun j hj => rfl⟩⟩
  · show upd bg (D + 1) (h.2.2.1 22 N) (D + 1) = nI M
    rw [upd_e, h22]
  · show upd (upd sg D 1) (D + 1) 0 (D + 1) = 0
    rw [upd_e]
  · show upd bg (D + 1) (h.2.2.1 22 N) D = nI N
    rw [upd_n (by omega), hNb]
  · show upd (upd sg D 1) (D + 1) 0 D = 1
    rw [upd_n (by omega), upd_e]
  · show upd bg (D + 1) (h.2.2.1 22 N) j = bg j
    rw [upd_n (by omega)]
  · show upd (upd sg D 1) (D + 1) 0 j = sg j
    rw [upd_n (by omega), upd_n (by omega)]
