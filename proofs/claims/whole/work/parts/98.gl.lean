/-! Arrays and functions: their names, on both sides. -/
def IsF (N : Nat → Int64) (q : Nat) (x : Int64) (r : Int32) : Prop := (r = -1 ∧ ∀ k, k < q → ¬ N k = x) ∨ (∃ i, i < q ∧ r = nI i ∧ N i = x ∧ ∀ k, k < i → ¬ N k = x)
theorem isf_uniq {N M : Nat → Int64} {q : Nat} {x : Int64} {r r' : Int32} (h1 : IsF N q x r) (h2 : IsF M q x r') (h : ∀ k, k < q → N k = M k) : r = r' := by
  rcases h1 with ⟨a1, a2⟩ | ⟨i, a1, a2, a3, a4⟩
  · rcases h2 with ⟨b1, b2⟩ | ⟨j, b1, b2, b3, b4⟩
    · rw [a1, b1]
    · exact absurd ((h j b1).trans b3) (a2 j b1)
  · rcases h2 with ⟨b1, b2⟩ | ⟨j, b1, b2, b3, b4⟩
    · exact absurd ((h i a1).symm.trans a3) (b2 i a1)
    · rcases Nat.lt_trichotomy i j with e | e | e
      · exact absurd ((h i a1).symm.trans a3) (b4 i e)
      · rw [a2, b2, e]
      · exact absurd ((h j b1).trans b3) (a4 j e)
theorem isf_neg {N : Nat → Int64} {q : Nat} {x : Int64} {r : Int32} (h : IsF N q x r) (hq : q ≤ 1000) : r < 0 ↔ ∀ k, k < q → ¬ N k = x := by
  rcases h with ⟨a1, a2⟩ | ⟨i, a1, a2, a3, a4⟩
  · rw [a1]; exact ⟨fun _ => a2, fun _ => neg1_lt⟩
  · rw [a2]; exact ⟨fun e => absurd e (nI_nneg (by omega)), fun e => absurd a3 (e i a1)⟩
theorem gfind_L1 (N : Nat) (σ : St) (x1 : Int32) (y1 : Int64) : tGlobals_find_L (N + 1) 1 σ x1 y1 = tGlobals_find_b1 (tGlobals_find_L N) σ x1 y1 := rfl
theorem gfind_L {σ : St} {x : Int64} {q : Nat} (h : σ.1 10 = nI q) (hq : q ≤ 12) : ∀ (j k N : Nat), k + j = q → j < N → (∀ i, i < k → ¬ σ.2.2.2 2 i = x) → ∃ r, tGlobals_find_L N 1 σ (nI k) x = some r ∧ IsF (σ.2.2.2 2) q x r := by
  intro j
  induction j with
  | zero =>
    intro k N hk hN hb
    obtain ⟨N, rfl⟩ : ∃ i, N = i + 1 := ⟨N - 1, by omega⟩
    obtain rfl : k = q := by omega
    rw [gfind_L1]
    unfold tGlobals_find_b1
    rw [h, if_pos ((nI_leI (by omega) (by omega)).mpr (Nat.le_refl _))]
    exact ⟨-1, rfl, Or.inl ⟨rfl, hb⟩⟩
  | succ j ih =>
    intro k N hk hN hb
    obtain ⟨N, rfl⟩ : ∃ i, N = i + 1 := ⟨N - 1, by omega⟩
    rw [gfind_L1]
    unfold tGlobals_find_b1
    rw [h, if_neg (fun e => absurd ((nI_leI (by omega) (by omega)).mp e) (by omega)), gdT (inI (by omega) (by omega)), tc_nI (by omega)]
    by_cases hx : σ.2.2.2 2 k = x
    · rw [if_pos (lg_eq.mpr hx)]
      exact ⟨nI k, rfl, Or.inr ⟨k, by omega, rfl, hx, hb⟩⟩
    · rw [if_neg (fun e => hx (lg_eq.mp e)), nI_suc]
      refine ih (k + 1) N (by omega) (by omega) (fun i hi => ?_)
      by_cases e : i = k
      · rw [e]; exact hx
      · exact hb i (by omega)
theorem gfind_c {σ : St} {x : Int64} {q : Nat} (h : σ.1 10 = nI q) (hq : q ≤ 12) : ∃ r, tGlobals_find σ x = some r ∧ IsF (σ.2.2.2 2) q x r := by
  unfold tGlobals_find
  exact gfind_L h hq q 0 2000 (by omega) (by omega) (fun i hi => absurd hi (by omega))
section GL
variable {n : Nat} {K : Nat → Int32} {p : Nat → Nat} {V : Nat → Int64}
/-- the globals as the model has them: tokens of names -/
def GlM (h : St) (n : Nat) (K : Nat → Int32) (tg : Nat → Nat) (q : Nat) : Prop := h.1 35 = nI q ∧ q ≤ 12 ∧ ∀ k, k < q → h.2.2.1 27 k = nI (tg k) ∧ tg k < n ∧ K (tg k) = 1
theorem glob_L1 (N : Nat) (σ : St) (x1 x2 x3 : Int32) : tModel_global_L (N + 1) 1 σ x1 x2 x3 = tModel_global_b1 (tModel_global_L N) σ x1 x2 x3 := rfl
theorem glob_L2 (N : Nat) (σ : St) (x1 x2 x3 : Int32) : tModel_global_L (N + 1) 2 σ x1 x2 x3 = tModel_global_b2 (tModel_global_L N) σ x1 x2 x3 := rfl
theorem glob_L {σ : St} {tg : Nat → Nat} {q t : Nat} (T : TkM σ n K p V) (hg : GlM σ n K tg q) (ht : t < n) (hk : K t = 1) : ∀ (k N : Nat) (r : Int32), k ≤ q → 2 * k < N → (((r = -1) ∧ ∀ i, k ≤ i → i < q → ¬ V (tg i) = V t) ∨ (∃ i, k ≤ i ∧ i < q ∧ r = nI i ∧ V (tg i) = V t ∧ ∀ j, k ≤ j → j < i → ¬ V (tg j) = V t)) → ∃ r', tModel_global_L N 1 σ (nI t) r (nI k - 1) = some r' ∧ IsF (fun i => V (tg i)) q (V t) r' := by
  have hq := hg.2.1
  intro k
  induction k with
  | zero =>
    intro N r _ hN hr
    obtain ⟨N, rfl⟩ : ∃ i, N = i + 1 := ⟨N - 1, by omega⟩
    rw [glob_L1]
    unfold tModel_global_b1
    rw [if_pos (by decide)]
    refine ⟨r, rfl, ?_⟩
    rcases hr with ⟨a1, a2⟩ | ⟨i, a1, a2, a3, a4, a5⟩
    · exact Or.inl ⟨a1, fun k hk => a2 k (by omega) hk⟩
    · exact Or.inr ⟨i, a2, a3, a4, fun k hk => a5 k (by omega) hk⟩
  | succ k ih =>
    intro N r hkq hN hr
    obtain ⟨N, rfl⟩ : ∃ i, N = i + 2 := ⟨N - 2, by omega⟩
    obtain ⟨v1, v2, v3⟩ := hg.2.2 k (by omega)
    rw [glob_L1]
    unfold tModel_global_b1
    rw [nI_pred, if_neg (nI_nneg (by omega)), gdT (inI (by omega) (by omega)), tc_nI (by omega), v1, b1S (T.2.2.2.2.2.1 (tg k) t v2 ht v3 hk)]
    by_cases hx : V (tg k) = V t
    · rw [if_pos hx, if_neg (by decide), glob_L2]
      unfold tModel_global_b2
      rw [← Int32.sub_eq_add_neg]
      exact ih N (nI k) (by omega) (by omega) (Or.inr ⟨k, by omega, by omega, rfl, hx, fun j h1 h2 => by omega⟩)
    · rw [if_neg hx, if_pos rfl, glob_L2]
      unfold tModel_global_b2
      rw [← Int32.sub_eq_add_neg]
      refine ih N r (by omega) (by omega) ?_
      rcases hr with ⟨a1, a2⟩ | ⟨i, a1, a2, a3, a4, a5⟩
      · refine Or.inl ⟨a1, fun i h1 h2 => ?_⟩
        by_cases e : i = k
        · rw [e]; exact hx
        · exact a2 i (by omega) h2
      · refine Or.inr ⟨i, by omega, a2, a3, a4, fun j h1 h2 => ?_⟩
        by_cases e : j = k
        · rw [e]; exact hx
        · exact a5 j (by omega) h2
theorem glob_c {σ : St} {tg : Nat → Nat} {q t : Nat} (T : TkM σ n K p V) (hg : GlM σ n K tg q) (ht : t < n) (hk : K t = 1) : ∃ r', tModel_global σ (nI t) = some r' ∧ IsF (fun i => V (tg i)) q (V t) r' := by
  have hq := hg.2.1
  unfold tModel_global
  rw [hg.1]
  exact glob_L T hg ht hk q 2000 (-1) (Nat.le_refl _) (by omega) (Or.inl ⟨rfl, fun i h1 h2 => by omega⟩)
end GL
