/-! Blocks. -/
def StAt (n : Nat) (K : Nat → Int32) (C M : Nat → Nat → Int32) (f o vc i : Nat) (Cf Pf Nf Ta Yf : Nat → Nat) : Prop := ∀ x, x < i → SQ n K C M f (Ta x) (Ta (x + 1)) o (Pf x) (Pf (x + 1)) (Nf x) (Nf (x + 1)) (Cf x) (Yf x) (Yf (x + 1)) ∧ Ta x < Ta (x + 1) ∧ Pf x ≤ Pf (x + 1) ∧ Nf x ≤ Cf x ∧ Cf x < Nf (x + 1) ∧ (n < f → vc ≤ Yf (x + 1))
/-- the list of a block's statements -/
def Lst (M : Nat → Nat → Int32) (A i : Nat) (Cf : Nat → Nat) : Prop := M 20 A = 10 ∧ M 21 A = nI i ∧ M 25 A = -1 ∧ (i = 0 → M 22 A = -1) ∧ (1 ≤ i → M 22 A = nI (Cf 0) ∧ M 23 A = nI (Cf (i - 1))) ∧ (∀ x, x + 1 < i → M 25 (Cf x) = nI (Cf (x + 1))) ∧ (1 ≤ i → M 25 (Cf (i - 1)) = -1)
theorem sq_block {n : Nat} {K : Nat → Int32} {C1 M1 C3 M3 : Nat → Nat → Int32} {f f3 a a0 a' a3 o o1 l l' A nd' vc i : Nat} {Cf Pf Nf Ta Yf : Nat → Nat} (h1 : StAt n K C1 M1 f o1 vc i Cf Pf Nf Ta Yf) (hL : Lst M3 A i Cf) (hi : i ≤ 220) (hf : f3 ≤ f) (ho : o ≤ 12) (ho1 : o + 1 ≤ o1 ∨ (o1 = o ∧ True)) (ha : a + 1 = a0) (ha3 : a' < a3) (haa : a0 ≤ a') (e : Pf 0 = l ∧ Pf i = l' ∧ Nf 0 = A + 1 ∧ Nf i = nd' ∧ Ta 0 = a0 ∧ Ta i = a' ∧ Yf 0 = vc) (hv : vc ≤ 12) (k1 : AgC C1 C3 l l') (k3 : ∀ x, x < i → AgN M1 M3 (Nf x) (Nf (x + 1)) (Cf x)) :
    SQ n K C3 M3 f3 a a3 o l l' A nd' A vc vc := by
  obtain ⟨e1, e2, e3, e4, e5, e6, e7⟩ := e
  have mN : ∀ {k j : Nat}, j ≤ k → k ≤ i → Nf j ≤ Nf k := mono_le (fun j hj => by have := h1 j hj; omega)
  have mP : ∀ {k j : Nat}, j ≤ k → k ≤ i → Pf j ≤ Pf k := mono_le (fun j hj => (h1 j hj).2.2.1)
  have mT : ∀ {k j : Nat}, j ≤ k → k ≤ i → Ta j ≤ Ta k := mono_le (fun j hj => by have := h1 j hj; omega)
  intro G H hG hH
  have hll : l ≤ l' := by have := mP (k := i) (j := 0) (by omega) (by omega); omega
  have hnn' : A + 1 ≤ nd' := by have := mN (k := i) (j := 0) (by omega) (by omega); omega
  have each : ∀ x, x < i → _ := fun x hx => (h1 x hx).1 G H (agc_tr (agc_sub k1 (by have := mP (k := x) (j := 0) (by omega) (by omega); omega) (by have := mP (k := i) (j := x + 1) (by omega) (by omega); omega)) (agc_sub hG (by have := mP (k := x) (j := 0) (by omega) (by omega); omega) (by have := mP (k := i) (j := x + 1) (by omega) (by omega); omega))) (agn_sub (k3 x hx) hH (by have := mN (k := x) (j := 0) (by omega) (by omega); omega) (by have := mN (k := i) (j := x + 1) (by omega) (by omega); omega) (Or.inl (by have := mN (k := x) (j := 0) (by omega) (by omega); omega)))
  obtain ⟨h20, h21, h22, -⟩ := hH A (by omega) (by omega)
  obtain ⟨q20, q21, q25, q22, q22', qn, ql⟩ := hL
  rw [q20] at h20
  obtain ⟨-, -, hce⟩ := cene_args (G := G) (H := H) (Pf := Pf) (Nf := Nf) i (fun j hj => ⟨(h1 j hj).2.2.1, by have := h1 j hj; omega, (each j hj).1⟩)
  rw [e1, e2, e3, e4] at hce
  refine ⟨fun x t k => ?_, fun hf3 G' H' F len nn hF hlen hnn => ?_⟩
  · rw [ne_split (m := A + 1) (by omega) (by omega), hce]
    exact ⟨Or.inr, fun e => e.elim (fun e => absurd e (ne_none (by rw [h20]; decide))) id⟩
  · have hlen' : ∀ x, x < i → Pf (x + 1) ≤ len ∧ Nf (x + 1) ≤ nn := fun x hx => by
      have r2 := mN (k := i) (j := x + 1) (by omega) (by omega)
      have r4 := mP (k := i) (j := x + 1) (by omega) (by omega)
      omega
    obtain ⟨Z, Z0, Z1⟩ := ex_sum (P := fun x z => CS G' H' F len nn ((Ta (x + 1) - Ta x + 1) / 2 + (14 - o1)) (Cf x) (Pf x) (Pf (x + 1)) (Yf x) (Yf (x + 1)) z) (B := fun x => 4 * (Ta (x + 1) - Ta x)) i (fun x hx => (each x hx).2 (by omega) G' H' F len nn hF (hlen' x hx).1 (hlen' x hx).2) (fun _ _ => trivial)
    have hZ : ∀ x, x ≤ i → Z x ≤ 4 * (Ta x - a0) := by
      intro x
      induction x with
      | zero => intro _; omega
      | succ x ih =>
        intro hx
        obtain ⟨z, y1, y2, -⟩ := Z1 x (by omega)
        have y3 := (h1 x (by omega)).2.1
        have y4 := ih (by omega)
        have y5 := mT (k := x) (j := 0) (by omega) (by omega)
        replace y2 : z + 1 ≤ 4 * (Ta (x + 1) - Ta x) := y2
        omega
    have hZi := hZ i (Nat.le_refl _)
    obtain ⟨f1', f2', f3', -⟩ := hF
    obtain ⟨i20, i21, i22, -⟩ := f3' A (by omega)
    obtain ⟨D, hD⟩ : ∃ D, (a3 - a + 1) / 2 + (14 - o) = D + 1 := ⟨(a3 - a + 1) / 2 + (14 - o) - 1, by omega⟩
    rw [hD]
    have h22' : H' 22 A = if 0 < i then nI (Cf 0) else -1 := by
      rw [i22, h22]
      by_cases h0 : 0 < i
      · rw [if_pos h0]; exact (q22' h0).1
      · rw [if_neg h0]; exact q22 (by omega)
    refine ⟨1 + Z i, by omega, ⟨by omega, f1'⟩, hll, by omega, hv, hv, Or.inl ⟨i20.trans h20, rfl, i, Cf, Pf, Yf, fun x => 1 + Z x, fun x => if x < i then nI (Cf x) else -1, by omega, e1, e2, e7, by show 1 + Z 0 = 1; omega, rfl, h22', if_neg (by omega), fun x hx => ⟨if_pos hx, ?_, (h1 x hx).2.2.2.2.2 (by omega), ?_⟩⟩⟩
    · have r1 := mN (k := x) (j := 0) (by omega) (by omega)
      have r2 := mN (k := i) (j := x + 1) (by omega) (by omega)
      have r3 := h1 x hx
      obtain ⟨-, -, -, -, y25, -⟩ := f3' (Cf x) (by omega)
      obtain ⟨-, -, -, -, -, -, x25⟩ := hH (Cf x) (by omega) (by omega)
      rw [y25, x25 (by omega)]
      show M3 25 (Cf x) = if x + 1 < i then nI (Cf (x + 1)) else -1
      by_cases hx1 : x + 1 < i
      · rw [if_pos hx1]; exact qn x hx1
      · rw [if_neg hx1]
        have := ql (by omega)
        rw [show i - 1 = x by omega] at this
        exact this
    · obtain ⟨z, y1, y2, y3⟩ := Z1 x hx
      refine ⟨z, by show 1 + Z (x + 1) = 1 + Z x + z + 1; omega, cs_up ?_ y3⟩
      have u2 := mT (k := x) (j := 0) (by omega) (by omega)
      have u3 := mT (k := i) (j := x + 1) (by omega) (by omega)
      omega
