/-! The table of globals with one name more; and left alone. -/
section GRM
variable {n : Nat} {K : Nat → Int32} {V : Nat → Int64} {g h g' h' : St} {tg : Nat → Nat} {q na nf na' nf' t : Nat} {fn : Int32}
theorem gr_more (R : GR n K V g h tg q na nf) (a1 : g'.1 10 = nI (q + 1) ∧ g'.1 11 = nI na' ∧ g'.1 12 = nI nf') (a2 : q + 1 = na' + nf' ∧ na' ≤ 4 ∧ nf' ≤ 8) (a3 : h'.1 35 = nI (q + 1) ∧ h'.1 36 = nI nf' ∧ h'.1 37 = nI na') (a4 : ∀ k, k < q → g'.2.2.2 2 k = g.2.2.2 2 k ∧ g'.2.2.1 3 k = g.2.2.1 3 k ∧ h'.2.2.1 27 k = h.2.2.1 27 k ∧ h'.2.2.1 28 k = h.2.2.1 28 k) (a5 : g'.2.2.2 2 q = V t ∧ g'.2.2.1 3 q = fn ∧ h'.2.2.1 27 q = nI t ∧ h'.2.2.1 28 q = fn) (hf : fn = 0 ∨ fn = 1) (ht : t < n) (hk : K t = 1) (hfree : ∀ k, k < q → ¬ V (tg k) = V t) : GR n K V g' h' (fset tg q t) (q + 1) na' nf' := by
  obtain ⟨r1, r4, r7, r8, r9, r10⟩ := R
  refine ⟨a1, a2, ⟨a3.1, by omega, fun k hk' => ?_⟩, ⟨a3.2.1, a3.2.2⟩, fun k hk' => ?_, fun i k h1 h2 => ?_⟩
  · by_cases e : k = q
    · rw [e, fset_e, a5.2.2.1]; exact ⟨rfl, ht, hk⟩
    · rw [fset_n e, (a4 k (by omega)).2.2.1]; exact r7.2.2 k (by omega)
  · by_cases e : k = q
    · rw [e, fset_e, a5.1, a5.2.1, a5.2.2.2]; exact ⟨rfl, rfl, hf⟩
    · obtain ⟨b1, b2, b3, b4⟩ := a4 k (by omega)
      rw [fset_n e, b1, b2, b4]; exact r9 k (by omega)
  · by_cases e : k = q
    · rw [e, fset_e, fset_n (by omega)]; exact hfree i (by omega)
    · rw [fset_n e, fset_n (by omega)]; exact r10 i k h1 (by omega)
theorem gr_same (R : GR n K V g h tg q na nf) (a1 : g'.1 10 = g.1 10 ∧ g'.1 11 = g.1 11 ∧ g'.1 12 = g.1 12) (a3 : h'.1 35 = h.1 35 ∧ h'.1 36 = h.1 36 ∧ h'.1 37 = h.1 37) (a4 : ∀ k, k < q → g'.2.2.2 2 k = g.2.2.2 2 k ∧ g'.2.2.1 3 k = g.2.2.1 3 k ∧ h'.2.2.1 27 k = h.2.2.1 27 k ∧ h'.2.2.1 28 k = h.2.2.1 28 k) : GR n K V g' h' tg q na nf := by
  obtain ⟨⟨r1, r2, r3⟩, r4, r7, r8, r9, r10⟩ := R
  refine ⟨⟨a1.1.trans r1, a1.2.1.trans r2, a1.2.2.trans r3⟩, r4, ⟨a3.1.trans r7.1, r7.2.1, fun k hk' => ?_⟩, ⟨a3.2.1.trans r8.1, a3.2.2.trans r8.2⟩, fun k hk' => ?_, r10⟩
  · rw [(a4 k hk').2.2.1]; exact r7.2.2 k hk'
  · obtain ⟨b1, b2, b3, b4⟩ := a4 k hk'
    rw [b1, b2, b4]; exact r9 k hk'
end GRM
