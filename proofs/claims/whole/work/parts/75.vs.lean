/-! The model's loop over a value, turn by turn. -/
def vStep (b : Int32) (σ : St) : Option (Int32 × St) :=
  if b = 0 then b1 (tModel_strength σ (σ.1 31)) (fun s => b1 (tModel_settle σ (if s ≤ 0 then 1 else s)) (fun u => if s ≤ 0 then (if u.1 41 ≤ 0 then none else b2 (tModel_closeBracket u) (fun r v => some ((if r = 1 then 1 else 0), v))) else b1 (tModel_opens u) (fun v => b1 (tModel_hold v 32 (u.1 31)) (fun v' => some (1, v')))))
  else tModel_beginValue σ
def VSteps : Nat → Int32 → St → Int32 → St → Prop
  | 0, b, σ, b', σ' => b = b' ∧ σ = σ'
  | k + 1, b, σ, b', σ' => σ.1 29 = 0 ∧ ∃ x σ1, vStep b σ = some (x, σ1) ∧ VSteps k x σ1 b' σ'
theorem vs_refl {b : Int32} {σ : St} : VSteps 0 b σ b σ := ⟨rfl, rfl⟩
theorem vs_one {b x : Int32} {σ σ' : St} (h1 : σ.1 29 = 0) (h2 : vStep b σ = some (x, σ')) : VSteps 1 b σ x σ' := ⟨h1, x, σ', h2, rfl, rfl⟩
theorem vs_trans {i : Nat} : ∀ {j : Nat} {b b' b'' : Int32} {σ σ' σ'' : St}, VSteps i b σ b' σ' → VSteps j b' σ' b'' σ'' → VSteps (i + j) b σ b'' σ'' := by
  induction i with
  | zero => intro j b b' b'' σ σ' σ'' h1 h2; obtain ⟨rfl, rfl⟩ := h1; rw [Nat.zero_add]; exact h2
  | succ i ih =>
    intro j b b' b'' σ σ' σ'' h1 h2
    obtain ⟨g1, x, s1, g2, g3⟩ := h1
    rw [Nat.succ_add]
    exact ⟨g1, x, s1, g2, ih g3 h2⟩
/-- one turn costs at most four labels -/
theorem v_turn {b x : Int32} {σ σ' : St} (h1 : σ.1 29 = 0) (h2 : vStep b σ = some (x, σ')) (N : Nat) : ∃ N', N ≤ N' ∧ N' ≤ N + 3 ∧ tModel_value_L (N + 4) 3 σ b 0 0 0 = tModel_value_L N' 3 σ' x 0 0 0 := by
  show ∃ N', N ≤ N' ∧ N' ≤ N + 3 ∧ tModel_value_b3 (tModel_value_L (N + 3)) σ b 0 0 0 = _
  unfold vStep at h2
  unfold tModel_value_b3
  rw [if_pos rfl, h1, if_pos rfl]
  by_cases hb : b = 0
  · rw [if_pos hb] at h2 ⊢
    cases hs : tModel_strength σ (σ.1 31) with
    | none => rw [hs] at h2; cases h2
    | some s =>
      rw [b1S hs] at h2
      rw [b1S (a := s) rfl]
      cases hu : tModel_settle σ (if s ≤ 0 then 1 else s) with
      | none => rw [hu] at h2; cases h2
      | some u =>
        rw [b1S hu] at h2
        by_cases h0 : s ≤ 0
        · rw [if_pos h0] at h2 hu ⊢
          show ∃ N', N ≤ N' ∧ N' ≤ N + 3 ∧ tModel_value_b4 (tModel_value_L (N + 2)) σ b 0 s 1 = _
          unfold tModel_value_b4
          rw [b1S hu, if_pos h0]
          by_cases hw : u.1 41 ≤ 0
          · rw [if_pos hw] at h2; cases h2
          rw [if_neg hw] at h2 ⊢
          cases hc : tModel_closeBracket u with
          | none => rw [hc] at h2; cases h2
          | some z =>
            obtain ⟨z1, z2⟩ := z
            rw [b2S hc] at h2
            rw [b2S (a := z1) (u := z2) rfl]
            by_cases hz : z1 = 1
            · rw [if_pos hz] at h2 ⊢
              cases h2
              exact ⟨N, by omega, by omega, rfl⟩
            · rw [if_neg hz] at h2 ⊢
              cases h2
              exact ⟨N, by omega, by omega, rfl⟩
        · rw [if_neg h0] at h2 hu ⊢
          show ∃ N', N ≤ N' ∧ N' ≤ N + 3 ∧ tModel_value_b4 (tModel_value_L (N + 2)) σ b 0 s s = _
          unfold tModel_value_b4
          rw [b1S hu, if_neg h0]
          cases hc : tModel_opens u with
          | none => rw [hc] at h2; cases h2
          | some z =>
            rw [b1S hc] at h2
            rw [b1S (a := z) rfl]
            cases hd : tModel_hold z 32 (u.1 31) with
            | none => rw [hd] at h2; cases h2
            | some z' =>
              rw [b1S hd] at h2
              rw [b1S (a := z') rfl]
              cases h2
              exact ⟨N + 1, by omega, by omega, rfl⟩
  · rw [if_neg hb] at h2 ⊢
    rw [b2S h2]
    exact ⟨N + 3, by omega, by omega, rfl⟩
theorem v_turns : ∀ {k : Nat} {b b' : Int32} {σ σ' : St}, VSteps k b σ b' σ' → ∀ N, ∃ N', N ≤ N' ∧ tModel_value_L (N + 4 * k) 3 σ b 0 0 0 = tModel_value_L N' 3 σ' b' 0 0 0 := by
  intro k
  induction k with
  | zero => intro b b' σ σ' h N; obtain ⟨rfl, rfl⟩ := h; exact ⟨N, Nat.le_refl _, rfl⟩
  | succ k ih =>
    intro b b' σ σ' h N
    obtain ⟨g1, x, s1, g2, g3⟩ := h
    obtain ⟨N1, e1, e2, e3⟩ := v_turn g1 g2 (N + 4 * k)
    obtain ⟨N2, f1, f2⟩ := ih g3 (N + (N1 - (N + 4 * k)))
    refine ⟨N2, by omega, ?_⟩
    rw [show N + 4 * (k + 1) = N + 4 * k + 4 by omega, e3, ← f2]
    congr 1; omega
/-- the loop ends: nothing waits any more -/
theorem v_last {N : Nat} {σ u : St} {s : Int32} (h1 : σ.1 29 = 0) (h2 : tModel_strength σ (σ.1 31) = some s) (h3 : s ≤ 0) (h4 : tModel_settle σ 1 = some u) (h5 : u.1 41 ≤ 0) (h6 : u.1 29 = 0) : tModel_value_L (N + 5) 3 σ 0 0 0 0 = some (u.2.2.1 33 0, u) := by
  show tModel_value_b3 (tModel_value_L (N + 4)) σ 0 0 0 0 = _
  unfold tModel_value_b3
  rw [if_pos rfl, h1, if_pos rfl, if_pos rfl, b1S h2, if_pos h3]
  show tModel_value_b4 (tModel_value_L (N + 3)) σ 0 0 s 1 = _
  unfold tModel_value_b4
  rw [b1S h4, if_pos h3, if_pos h5]
  show tModel_value_b3 (tModel_value_L (N + 1)) u 0 1 0 0 = _
  unfold tModel_value_b3
  rw [if_neg (by decide)]
  show tModel_value_b7 (tModel_value_L N) u 0 0 0 0 = _
  unfold tModel_value_b7
  rw [h6, if_pos rfl, gdT (by decide)]
  rfl
/-! What is compared. -/
section VS
variable (n : Nat) (K : Nat → Int32) (p : Nat → Nat) (V : Nat → Int64)
def PW (g c : St) (f a o l : Nat) : Prop := ∃ co op sz : Nat → Int32, c = mkW g 0 (-1) (wn n p f) (nI a) (nI o) (nI l) co op sz
def PV (h m : St) (f a o nd oc wt : Nat) : Prop := ∃ so wh oe tw th nx tk os wa wf : Nat → Int32, m = mkV h 0 (-1) (ftk n f) (nI a) (nI o) (nI nd) (nI oc) (nI wt) so wh oe tw th nx tk os wa wf
end VS
def FW (c c' : St) (l : Nat) : Prop := ∀ k, k < l → c'.2.2.1 6 k = c.2.2.1 6 k ∧ c'.2.2.1 7 k = c.2.2.1 7 k ∧ c'.2.2.1 8 k = c.2.2.1 8 k
/-- a node is the same in both -/
def NodeEq (H H' : Nat → Nat → Int32) (i : Nat) : Prop := H' 20 i = H 20 i ∧ H' 21 i = H 21 i ∧ H' 22 i = H 22 i ∧ H' 23 i = H 23 i ∧ H' 24 i = H 24 i ∧ H' 25 i = H 25 i ∧ H' 26 i = H 26 i
def FV (m m' : St) (nd oc wt : Nat) : Prop := (∀ i, i < nd → NodeEq m.2.2.1 m'.2.2.1 i) ∧ (∀ i, i < oc → m'.2.2.1 33 i = m.2.2.1 33 i) ∧ (∀ i, i < wt → m'.2.2.1 34 i = m.2.2.1 34 i ∧ m'.2.2.1 35 i = m.2.2.1 35 i)
theorem fw_refl {c : St} {l : Nat} : FW c c l := fun _ _ => ⟨rfl, rfl, rfl⟩
theorem fw_trans {c c1 c2 : St} {l l' : Nat} (h1 : FW c c1 l) (h2 : FW c1 c2 l') (hl : l ≤ l') : FW c c2 l := fun k hk => by
  obtain ⟨a1, a2, a3⟩ := h1 k hk
  obtain ⟨b1, b2, b3⟩ := h2 k (by omega)
  exact ⟨b1.trans a1, b2.trans a2, b3.trans a3⟩
theorem ne_refl {H : Nat → Nat → Int32} {i : Nat} : NodeEq H H i := ⟨rfl, rfl, rfl, rfl, rfl, rfl, rfl⟩
theorem ne_trans {H H1 H2 : Nat → Nat → Int32} {i : Nat} (h1 : NodeEq H H1 i) (h2 : NodeEq H1 H2 i) : NodeEq H H2 i := ⟨h2.1.trans h1.1, h2.2.1.trans h1.2.1, h2.2.2.1.trans h1.2.2.1, h2.2.2.2.1.trans h1.2.2.2.1, h2.2.2.2.2.1.trans h1.2.2.2.2.1, h2.2.2.2.2.2.1.trans h1.2.2.2.2.2.1, h2.2.2.2.2.2.2.trans h1.2.2.2.2.2.2⟩
theorem fv_refl {m : St} {nd oc wt : Nat} : FV m m nd oc wt := ⟨fun _ _ => ne_refl, fun _ _ => rfl, fun _ _ => ⟨rfl, rfl⟩⟩
theorem fv_trans {m m1 m2 : St} {nd oc wt nd' oc' wt' : Nat} (h1 : FV m m1 nd oc wt) (h2 : FV m1 m2 nd' oc' wt') (a1 : nd ≤ nd') (a2 : oc ≤ oc') (a3 : wt ≤ wt') : FV m m2 nd oc wt :=
  ⟨fun i hi => ne_trans (h1.1 i hi) (h2.1 i (by omega)), fun i hi => (h2.2.1 i (by omega)).trans (h1.2.1 i hi), fun i hi => ⟨(h2.2.2 i (by omega)).1.trans (h1.2.2 i hi).1, (h2.2.2 i (by omega)).2.trans (h1.2.2 i hi).2⟩⟩
/-- names that are to be looked up: in the code, and among the nodes -/
def CE (G : Nat → Nat → Int32) (l l' x t k : Nat) : Prop := ∃ i, l ≤ i ∧ i < l' ∧ ((G 6 i = 15 ∧ x = 1 ∧ G 8 i = nI k) ∨ ((G 6 i = 13 ∨ G 6 i = 14) ∧ x = 0 ∧ k = 0)) ∧ G 7 i = nI t
/-- x = 2: a node whose token is no name (there is none: CE has no such x) -/
def NE (K : Nat → Int32) (H : Nat → Nat → Int32) (nd nd' x t k : Nat) : Prop := (∃ i, nd ≤ i ∧ i < nd' ∧ ((H 20 i = 5 ∧ x = 1 ∧ H 21 i = nI k) ∨ ((H 20 i = 4 ∨ H 20 i = 12) ∧ x = 0 ∧ k = 0)) ∧ H 26 i = nI t) ∨ (x = 2 ∧ ∃ i, nd ≤ i ∧ i < nd' ∧ (H 20 i = 4 ∨ H 20 i = 5 ∨ H 20 i = 12) ∧ ¬ ∃ s, s < 1000 ∧ K s = 1 ∧ H 26 i = nI s)
def NH (H : Nat → Nat → Int32) (nd nd' t : Nat) : Prop := ∃ i, nd ≤ i ∧ i < nd' ∧ (H 20 i = 4 ∨ H 20 i = 5 ∨ H 20 i = 12) ∧ 0 ≤ H 24 i ∧ H 26 i = nI t ∧ t < 1000
theorem ce_split {G : Nat → Nat → Int32} {l m l' x t k : Nat} (h1 : l ≤ m) (h2 : m ≤ l') : CE G l l' x t k ↔ CE G l m x t k ∨ CE G m l' x t k := by
  constructor
  · rintro ⟨i, a, b, c⟩
    rcases Nat.lt_or_ge i m with h | h
    · exact Or.inl ⟨i, a, h, c⟩
    · exact Or.inr ⟨i, h, b, c⟩
  · rintro (⟨i, a, b, c⟩ | ⟨i, a, b, c⟩)
    · exact ⟨i, a, by omega, c⟩
    · exact ⟨i, by omega, b, c⟩
theorem ne_split {K : Nat → Int32} {H : Nat → Nat → Int32} {l m l' x t k : Nat} (h1 : l ≤ m) (h2 : m ≤ l') : NE K H l l' x t k ↔ NE K H l m x t k ∨ NE K H m l' x t k := by
  constructor
  · rintro (⟨i, a, b, c⟩ | ⟨x2, i, a, b, c⟩)
    · rcases Nat.lt_or_ge i m with h | h
      · exact Or.inl (Or.inl ⟨i, a, h, c⟩)
      · exact Or.inr (Or.inl ⟨i, h, b, c⟩)
    · rcases Nat.lt_or_ge i m with h | h
      · exact Or.inl (Or.inr ⟨x2, i, a, h, c⟩)
      · exact Or.inr (Or.inr ⟨x2, i, h, b, c⟩)
  · rintro ((⟨i, a, b, c⟩ | ⟨x2, i, a, b, c⟩) | (⟨i, a, b, c⟩ | ⟨x2, i, a, b, c⟩))
    · exact Or.inl ⟨i, a, by omega, c⟩
    · exact Or.inr ⟨x2, i, a, by omega, c⟩
    · exact Or.inl ⟨i, by omega, b, c⟩
    · exact Or.inr ⟨x2, i, by omega, b, c⟩
theorem nh_split {H : Nat → Nat → Int32} {l m l' t : Nat} (h1 : l ≤ m) (h2 : m ≤ l') : NH H l l' t ↔ NH H l m t ∨ NH H m l' t := by
  constructor
  · rintro ⟨i, a, b, c⟩
    rcases Nat.lt_or_ge i m with h | h
    · exact Or.inl ⟨i, a, h, c⟩
    · exact Or.inr ⟨i, h, b, c⟩
  · rintro (⟨i, a, b, c⟩ | ⟨i, a, b, c⟩)
    · exact ⟨i, a, by omega, c⟩
    · exact ⟨i, by omega, b, c⟩
theorem ce_none {G : Nat → Nat → Int32} {l x t k : Nat} (h : ¬ (G 6 l = 13 ∨ G 6 l = 14 ∨ G 6 l = 15)) : ¬ CE G l (l + 1) x t k := by
  rintro ⟨i, a, b, c, -⟩
  obtain rfl : i = l := by omega
  rcases c with c | c
  · exact h (Or.inr (Or.inr c.1))
  · rcases c.1 with c | c
    · exact h (Or.inl c)
    · exact h (Or.inr (Or.inl c))
theorem ne_none {K : Nat → Int32} {H : Nat → Nat → Int32} {l x t k : Nat} (h : ¬ (H 20 l = 4 ∨ H 20 l = 5 ∨ H 20 l = 12)) : ¬ NE K H l (l + 1) x t k := by
  rintro (⟨i, a, b, c, -⟩ | ⟨-, i, a, b, c, -⟩)
  · obtain rfl : i = l := by omega
    rcases c with c | c
    · exact h (Or.inr (Or.inl c.1))
    · rcases c.1 with c | c
      · exact h (Or.inl c)
      · exact h (Or.inr (Or.inr c))
  · obtain rfl : i = l := by omega
    exact h c
theorem nh_none {H : Nat → Nat → Int32} {l t : Nat} (h : ¬ (H 20 l = 4 ∨ H 20 l = 5 ∨ H 20 l = 12)) : ¬ NH H l (l + 1) t := by
  rintro ⟨i, a, b, c, -⟩
  obtain rfl : i = l := by omega
  exact h c
theorem nh_empty {H : Nat → Nat → Int32} {l t : Nat} : ¬ NH H l l t := by
  rintro ⟨i, a, b, -⟩; omega
theorem ce_empty {G : Nat → Nat → Int32} {l x t k : Nat} : ¬ CE G l l x t k := by
  rintro ⟨i, a, b, -⟩; omega
theorem ne_empty {K : Nat → Int32} {H : Nat → Nat → Int32} {l x t k : Nat} : ¬ NE K H l l x t k := by
  rintro (⟨i, a, b, -⟩ | ⟨-, i, a, b, -⟩) <;> omega
theorem nh_congr {H H' : Nat → Nat → Int32} {nd nd' t : Nat} (h : ∀ i, nd ≤ i → i < nd' → H' 20 i = H 20 i ∧ H' 24 i = H 24 i ∧ H' 26 i = H 26 i) : NH H' nd nd' t ↔ NH H nd nd' t := by
  constructor
  · rintro ⟨i, a, b, c, d, e, f⟩
    obtain ⟨h1, h2, h3⟩ := h i a b
    exact ⟨i, a, b, by rw [← h1]; exact c, by rw [← h2]; exact d, by rw [← h3]; exact e, f⟩
  · rintro ⟨i, a, b, c, d, e, f⟩
    obtain ⟨h1, h2, h3⟩ := h i a b
    exact ⟨i, a, b, by rw [h1]; exact c, by rw [h2]; exact d, by rw [h3]; exact e, f⟩
/-- rows that are the same where a part was read -/
def AgC (C G : Nat → Nat → Int32) (l l' : Nat) : Prop := ∀ k, l ≤ k → k < l' → G 6 k = C 6 k ∧ G 7 k = C 7 k ∧ G 8 k = C 8 k
def AgN (M H : Nat → Nat → Int32) (nd nd' N : Nat) : Prop := ∀ i, nd ≤ i → i < nd' → H 20 i = M 20 i ∧ H 21 i = M 21 i ∧ H 22 i = M 22 i ∧ H 23 i = M 23 i ∧ H 24 i = M 24 i ∧ H 26 i = M 26 i ∧ (i ≠ N → H 25 i = M 25 i)
/-- all names have been looked up: G, H before, G', H' behind it -/
def Fin (G H G' H' : Nat → Nat → Int32) (F : Nat → Nat → Nat → Prop) (len nn : Nat) : Prop :=
  nn ≤ 499 ∧
  (∀ k, k < len → G' 6 k = G 6 k ∧ (¬ (G 6 k = 13 ∨ G 6 k = 14 ∨ G 6 k = 15) → G' 7 k = G 7 k)) ∧
  (∀ i, i < nn → H' 20 i = H 20 i ∧ H' 21 i = H 21 i ∧ H' 22 i = H 22 i ∧ H' 23 i = H 23 i ∧ H' 25 i = H 25 i ∧ (H 20 i = 13 → H' 24 i = H 24 i)) ∧
  (∀ i e t, t < 1000 → i < nn → e < len → (H 20 i = 4 ∨ H 20 i = 12) → (G 6 e = 13 ∨ G 6 e = 14) → G 7 e = nI t → H 26 i = nI t → JA G' H' i e) ∧
  (∀ i e t c, t < 1000 → c < 1000 → i < nn → e < len → H 20 i = 5 → G 6 e = 15 → G 7 e = nI t → H 26 i = nI t → G 8 e = nI c → H 21 i = nI c → c ≤ 4 ∧ G' 8 e = nI c ∧ ∃ q s, H' 24 i = nI q ∧ G' 7 e = nI s ∧ F q s c)
/-- blamed names: fC before, fC' behind on the class's side, fM, fM' on the model's; S are the hidden ones, blamed later by the model -/
def BI (ag : Prop) (a fC fC' fM fM' : Nat) (S : Nat → Prop) : Prop := ∃ X Y, a ≤ X ∧ a ≤ Y ∧ fC' = min fC X ∧ fM' = min fM Y ∧ (∀ t, S t → a ≤ t) ∧ (ag → X ≤ Y ∧ (∀ t, S t → X ≤ t) ∧ (X = Y ∨ S X))
theorem bi_none {ag : Prop} {a fC fM : Nat} {S : Nat → Prop} (h : ∀ t, ¬ S t) : BI ag a fC fC fM fM S := ⟨a + fC + fM, a + fC + fM, by omega, by omega, by omega, by omega, fun t ht => absurd ht (h t), fun _ => ⟨by omega, fun t ht => absurd ht (h t), Or.inl rfl⟩⟩
theorem bi_comp {ag : Prop} {a a1 fC f1 f2 fM m1 m2 : Nat} {S S1 S2 : Nat → Prop} (h1 : BI ag a fC f1 fM m1 S1) (h2 : BI ag a1 f1 f2 m1 m2 S2) (ha : a ≤ a1) (hS : ∀ t, S t ↔ S1 t ∨ S2 t) : BI ag a fC f2 fM m2 S := by
  obtain ⟨X1, Y1, b1, b2, b3, b4, b5, b6⟩ := h1
  obtain ⟨X2, Y2, c1, c2, c3, c4, c5, c6⟩ := h2
  refine ⟨min X1 X2, min Y1 Y2, by omega, by omega, by omega, by omega, fun t ht => ?_, fun h => ?_⟩
  · rcases (hS t).mp ht with h | h
    · exact b5 t h
    · have := c5 t h; omega
  · obtain ⟨d1, d2, d3⟩ := b6 h
    obtain ⟨e1, e2, e3⟩ := c6 h
    refine ⟨by omega, fun t ht => ?_, ?_⟩
    · rcases (hS t).mp ht with h | h
      · have := d2 t h; omega
      · have := e2 t h; omega
    · rcases Nat.lt_or_ge X2 X1 with hx | hx
      · rw [show min X1 X2 = X2 by omega]
        rcases e3 with e3 | e3
        · left; omega
        · right; exact (hS _).mpr (Or.inr e3)
      · rw [show min X1 X2 = X1 by omega]
        rcases d3 with d3 | d3
        · left; omega
        · right; exact (hS _).mpr (Or.inl d3)
theorem bi_congr {ag : Prop} {a fC f1 fM m1 : Nat} {S S1 : Nat → Prop} (h : BI ag a fC f1 fM m1 S1) (hS : ∀ t, S t ↔ S1 t) : BI ag a fC f1 fM m1 S := by
  obtain ⟨X, Y, b1, b2, b3, b4, b5, b6⟩ := h
  exact ⟨X, Y, b1, b2, b3, b4, fun t ht => b5 t ((hS t).mp ht), fun ha => ⟨(b6 ha).1, fun t ht => (b6 ha).2.1 t ((hS t).mp ht), (b6 ha).2.2.imp id (fun e => (hS _).mpr e)⟩⟩
theorem bi_low {ag : Prop} {a a' fC f1 fM m1 : Nat} {S : Nat → Prop} (h : BI ag a fC f1 fM m1 S) (ha : a' ≤ a) : BI ag a' fC f1 fM m1 S := by
  obtain ⟨X, Y, b1, b2, b3, b4, b5, b6⟩ := h
  exact ⟨X, Y, by omega, by omega, b3, b4, fun t ht => by have := b5 t ht; omega, b6⟩
