/-! The relation of code and nodes looks at no more than their rows. -/
def SameG (G G' : Nat → Nat → Int32) (len : Nat) : Prop := ∀ k, k < len → G' 6 k = G 6 k ∧ G' 7 k = G 7 k ∧ G' 8 k = G 8 k
def SameH (H H' : Nat → Nat → Int32) (nn : Nat) : Prop := (∀ N, N < nn → H' 20 N = H 20 N ∧ H' 21 N = H 21 N ∧ H' 22 N = H 22 N ∧ H' 23 N = H 23 N ∧ H' 24 N = H 24 N ∧ H' 25 N = H 25 N) ∧ H' 29 = H 29 ∧ H' 30 = H 30
section CG
variable {G G' H H' : Nat → Nat → Int32} {F : Nat → Nat → Nat → Prop} {len nn : Nat}
theorem ja_congr {N e : Nat} (hG : SameG G G' len) (hH : SameH H H' nn) (hN : N < nn) (he : e < len) (h : JA G H N e) : JA G' H' N e := by
  obtain ⟨q, a, z, j1, j2, j3, j4, j5, j6, j7⟩ := h
  obtain ⟨g1, g2, g3⟩ := hG e he
  obtain ⟨n1, n2, n3, n4, n5, n6⟩ := hH.1 N hN
  exact ⟨q, a, z, n5.trans j1, j2, by rw [hH.2.1]; exact j3, by rw [hH.2.2]; exact j4, g2.trans j5, g3.trans j6, j7⟩
theorem cv_congr (hG : SameG G G' len) (hH : SameH H H' nn) : ∀ (d N a b v w x z : Nat), CV G H F len nn d N a b v w x z → CV G' H' F len nn d N a b v w x z := by
  intro d
  induction d with
  | zero => intro N a b v w x z h; exact h
  | succ d ih =>
    intro N a b v w x z h
    obtain ⟨k0, k2, k3, k4, k5, hc⟩ := h
    obtain ⟨n1, n2, n3, n4, n5, n6⟩ := hH.1 N k0.1
    refine ⟨k0, k2, k3, k4, k5, ?_⟩
    rcases hc with hc | hc | hc | hc | hc | hc | hc | hc
    · obtain ⟨e0, e1, e2, e3, e4⟩ := hc
      obtain ⟨g1, g2, g3⟩ := hG a (by omega)
      exact Or.inl ⟨n1.trans e0, e1, e2, g1.trans e3, by rw [g2, n2]; exact e4⟩
    · obtain ⟨e0, e1, e2, e3⟩ := hc
      obtain ⟨g1, g2, g3⟩ := hG a (by omega)
      exact Or.inr (Or.inl ⟨n1.trans e0, e1, e2, g1.trans e3⟩)
    · obtain ⟨e0, e1, e2, e3, k, e4, e5, e6⟩ := hc
      obtain ⟨g1, g2, g3⟩ := hG a (by omega)
      exact Or.inr (Or.inr (Or.inl ⟨n1.trans e0, e1, e2, g1.trans e3, k, e4, n2.trans e5, g2.trans e6⟩))
    · obtain ⟨e0, M, e, z1, e1, e2, e3, e4, e5, e6⟩ := hc
      obtain ⟨g1, g2, g3⟩ := hG e (by omega)
      exact Or.inr (Or.inr (Or.inr (Or.inl ⟨n1.trans e0, M, e, z1, e1, e2, n3.trans e3, ih _ _ _ _ _ _ _ e4, g1.trans e5, ja_congr hG hH k0.1 (by omega) e6⟩)))
    · obtain ⟨e0, na, e, C, P, Z, Q, q1, q2, q3, q4, q5, q6, q7, q8, q9, q10, q11, q12, q13, i, s, q14, q15, q16⟩ := hc
      obtain ⟨g1, g2, g3⟩ := hG e (by omega)
      refine Or.inr (Or.inr (Or.inr (Or.inr (Or.inl ⟨n1.trans e0, na, e, C, P, Z, Q, q1, q2, q3, q4, q5, q6, q7, q8, n2.trans q9, fun h0 => n3.trans (q10 h0), fun i hi => ?_, g1.trans q12, g3.trans q13, i, s, n5.trans q14, g2.trans q15, q16⟩))))
      obtain ⟨w1, w2, zi, w3, w4⟩ := q11 i hi
      have hlt : C i < nn := by
        cases d with
        | zero => exact absurd w4 (by simp [CV])
        | succ d => exact w4.1.1
      exact ⟨w1, fun h1 => (hH.1 (C i) hlt).2.2.2.2.2.trans (w2 h1), zi, w3, ih _ _ _ _ _ _ _ w4⟩
    · obtain ⟨e0, M, e, z1, e1, e2, e3, e4, e5⟩ := hc
      obtain ⟨g1, g2, g3⟩ := hG e (by omega)
      exact Or.inr (Or.inr (Or.inr (Or.inr (Or.inr (Or.inl ⟨n1.trans e0, M, e, z1, e1, e2, n3.trans e3, ih _ _ _ _ _ _ _ e4, by rw [n2, g1]; exact e5⟩)))))
    · obtain ⟨e0, M, M', i, e, z1, z2, e1, e2, e3, e3', e4, e4', e5, e6⟩ := hc
      obtain ⟨g1, g2, g3⟩ := hG e (by omega)
      exact Or.inr (Or.inr (Or.inr (Or.inr (Or.inr (Or.inr (Or.inl ⟨n1.trans e0, M, M', i, e, z1, z2, e1, e2, n3.trans e3, n4.trans e3', ih _ _ _ _ _ _ _ e4, ih _ _ _ _ _ _ _ e4', by rw [g1, n2]; exact e5, by rw [n2]; exact e6⟩))))))
    · obtain ⟨e0, M, M', i, e, z1, z2, e1, e2, e3, e3', e4, e5, e5', e4', e7, e6⟩ := hc
      have hie : i + 1 < e ∧ e ≤ len := by
        cases d with
        | zero => exact absurd e4' (by simp [CV])
        | succ d => exact ⟨e4'.2.1, e4'.2.2.1⟩
      obtain ⟨g1, g2, g3⟩ := hG e (by omega)
      obtain ⟨i1, i2, i3⟩ := hG i (by omega)
      exact Or.inr (Or.inr (Or.inr (Or.inr (Or.inr (Or.inr (Or.inr ⟨n1.trans e0, M, M', i, e, z1, z2, e1, e2, n3.trans e3, n4.trans e3', ih _ _ _ _ _ _ _ e4, by rw [i1, n2]; exact e5, i2.trans e5', ih _ _ _ _ _ _ _ e4', g1.trans e7, by rw [n2]; exact e6⟩))))))
theorem cs_congr (hG : SameG G G' len) (hH : SameH H H' nn) : ∀ (d N a b v v' z : Nat), CS G H F len nn d N a b v v' z → CS G' H' F len nn d N a b v v' z := by
  intro d
  induction d with
  | zero => intro N a b v v' z h; exact h
  | succ d ih =>
    intro N a b v v' z h
    obtain ⟨k0, k2, k3, k4, k5, hc⟩ := h
    obtain ⟨n1, n2, n3, n4, n5, n6⟩ := hH.1 N k0.1
    have iv := cv_congr (F := F) hG hH d
    refine ⟨k0, k2, k3, k4, k5, ?_⟩
    rcases hc with hc | hc | hc | hc | hc | hc | hc | hc
    · obtain ⟨e0, e1, nb, C, P, Y, Z, Q, q1, q2, q3, q4, q5, q6, q7, q8, q9⟩ := hc
      refine Or.inl ⟨n1.trans e0, e1, nb, C, P, Y, Z, Q, q1, q2, q3, q4, q5, q6, n3.trans q7, q8, fun i hi => ?_⟩
      obtain ⟨w1, w2, w2', zi, w3, w4⟩ := q9 i hi
      have hlt : C i < nn := by
        cases d with
        | zero => exact absurd w4 (by simp [CS])
        | succ d => exact w4.1.1
      exact ⟨w1, (hH.1 (C i) hlt).2.2.2.2.2.trans w2, w2', zi, w3, ih _ _ _ _ _ _ w4⟩
    · obtain ⟨e0, M, e, k, z1, e1, e2, e3, e4, e5, e6, e7, e8⟩ := hc
      obtain ⟨g1, g2, g3⟩ := hG e (by omega)
      exact Or.inr (Or.inl ⟨n1.trans e0, M, e, k, z1, e1, e2, n3.trans e3, iv _ _ _ _ _ _ _ e4, g1.trans e5, g2.trans e6, n2.trans e7, e8⟩)
    · obtain ⟨e0, e9, M, M', i, e, z1, z2, e1, e2, e3, e3', e4, e4', e5, e6⟩ := hc
      obtain ⟨g1, g2, g3⟩ := hG e (by omega)
      exact Or.inr (Or.inr (Or.inl ⟨n1.trans e0, e9, M, M', i, e, z1, z2, e1, e2, n3.trans e3, n4.trans e3', iv _ _ _ _ _ _ _ e4, iv _ _ _ _ _ _ _ e4', g1.trans e5, ja_congr hG hH k0.1 (by omega) e6⟩))
    · obtain ⟨e0, e9, M, S, i, e, z1, z2, z3, e2, e3, e3', e4, e5, e6, e7⟩ := hc
      have hie := cs_le e6
      obtain ⟨i1, i2, i3⟩ := hG i (by omega)
      refine Or.inr (Or.inr (Or.inr (Or.inl ⟨n1.trans e0, e9, M, S, i, e, z1, z2, z3, e2, n3.trans e3, n4.trans e3', iv _ _ _ _ _ _ _ e4, i1.trans e5, ih _ _ _ _ _ _ e6, ?_⟩)))
      rcases e7 with ⟨q1, q2, q3⟩ | ⟨S', q1, q2, q3, q4, q5, q6⟩
      · exact Or.inl ⟨n5.trans q1, q2, i2.trans q3⟩
      · obtain ⟨g1, g2, g3⟩ := hG e (by omega)
        exact Or.inr ⟨S', n5.trans q1, q2, g1.trans q3, g2.trans q4, i2.trans q5, ih _ _ _ _ _ _ q6⟩
    · obtain ⟨e0, e9, M, S, i, e, z1, z2, e1, e2, e2', e3, e3', e8, e4, e5, e5', e6, e7, e7'⟩ := hc
      have hie := cs_le e6
      have hai := (cv_lt e4).1
      obtain ⟨a1, a2, a3⟩ := hG a (by omega)
      obtain ⟨i1, i2, i3⟩ := hG i (by omega)
      obtain ⟨g1, g2, g3⟩ := hG e (by omega)
      exact Or.inr (Or.inr (Or.inr (Or.inr (Or.inl ⟨n1.trans e0, e9, M, S, i, e, z1, z2, e1, e2, e2', n3.trans e3, n4.trans e3', a1.trans e8, iv _ _ _ _ _ _ _ e4, i1.trans e5, i2.trans e5', ih _ _ _ _ _ _ e6, g1.trans e7, g2.trans e7'⟩))))
    · obtain ⟨e0, e9, M, e, z1, e1, e2, e3, e4, e5⟩ := hc
      obtain ⟨g1, g2, g3⟩ := hG e (by omega)
      exact Or.inr (Or.inr (Or.inr (Or.inr (Or.inr (Or.inl ⟨n1.trans e0, e9, M, e, z1, e1, e2, n3.trans e3, iv _ _ _ _ _ _ _ e4, g1.trans e5⟩)))))
    · obtain ⟨e0, e9, M, e, z1, e1, e2, e3, e4, e5⟩ := hc
      obtain ⟨g1, g2, g3⟩ := hG e (by omega)
      exact Or.inr (Or.inr (Or.inr (Or.inr (Or.inr (Or.inr (Or.inl ⟨n1.trans e0, e9, M, e, z1, e1, e2, n3.trans e3, iv _ _ _ _ _ _ _ e4, g1.trans e5⟩))))))
    · obtain ⟨e0, e9, M, e, z1, e1, e2, e3, e4, e5⟩ := hc
      obtain ⟨g1, g2, g3⟩ := hG e (by omega)
      exact Or.inr (Or.inr (Or.inr (Or.inr (Or.inr (Or.inr (Or.inr ⟨n1.trans e0, e9, M, e, z1, e1, e2, n3.trans e3, iv _ _ _ _ _ _ _ e4, g1.trans e5⟩))))))
/-- what is forged: the class's code and the model's nodes -/
def PR (σ : St) : Prop := ∃ (F : Nat → Nat → Nat → Prop) (len nn i s : Nat),
  σ.1 13 = nI len ∧ len ≤ 440 ∧ σ.1 34 = nI nn ∧ nn ≤ 498 ∧ σ.1 44 = nI i ∧ σ.1 14 = nI s ∧ F i s 0 ∧
  ∀ i s n : Nat, F i s n → i < 60 ∧ n ≤ 4 ∧ σ.2.2.1 29 i = nI n ∧ ∃ B d e z : Nat, σ.2.2.1 30 i = nI B ∧ CS σ.2.2.1 σ.2.2.1 F len nn d B s e n n z ∧ d ≤ 125 ∧ z ≤ 4000 ∧ e + 2 ≤ len ∧ σ.2.2.1 6 e = 10 ∧ σ.2.2.1 7 e = 0 ∧ σ.2.2.1 6 (e + 1) = 7
/-- what PR looks at is the same -/
def PK (σ u : St) : Prop := u.1 13 = σ.1 13 ∧ u.1 14 = σ.1 14 ∧ u.1 34 = σ.1 34 ∧ u.1 44 = σ.1 44 ∧ u.2.2.1 6 = σ.2.2.1 6 ∧ u.2.2.1 7 = σ.2.2.1 7 ∧ u.2.2.1 8 = σ.2.2.1 8 ∧ (∀ N, N < (σ.1 34).toInt.toNat → u.2.2.1 20 N = σ.2.2.1 20 N ∧ u.2.2.1 21 N = σ.2.2.1 21 N ∧ u.2.2.1 22 N = σ.2.2.1 22 N ∧ u.2.2.1 23 N = σ.2.2.1 23 N ∧ u.2.2.1 24 N = σ.2.2.1 24 N ∧ u.2.2.1 25 N = σ.2.2.1 25 N) ∧ u.2.2.1 29 = σ.2.2.1 29 ∧ u.2.2.1 30 = σ.2.2.1 30
theorem PR.keep {σ u : St} (hk : PK σ u) (h : PR σ) : PR u := by
  obtain ⟨F, len, nn, i, s, p1, p2, p3, p4, p5, p6, p7, p8⟩ := h
  obtain ⟨q1, q2, q3, q4, q5, q6, q7, q8, q9, q10⟩ := hk
  refine ⟨F, len, nn, i, s, q1.trans p1, p2, q3.trans p3, p4, q4.trans p5, q2.trans p6, p7, fun i s n hF => ?_⟩
  obtain ⟨w1, w2, w3, B, d, e, z, w4, w5, w6, w7, w8, w9, w10, w11⟩ := p8 i s n hF
  rw [p3, ti_nI (by omega)] at q8
  refine ⟨w1, w2, by rw [q9]; exact w3, B, d, e, z, by rw [q10]; exact w4, cs_congr (fun k _ => ⟨by rw [q5], by rw [q6], by rw [q7]⟩) ⟨fun N hN => q8 N (by simpa using hN), q9, q10⟩ _ _ _ _ _ _ _ w5, w6, w7, w8, by rw [q5]; exact w9, by rw [q6]; exact w10, by rw [q5]; exact w11⟩
end CG
