/-! Between two calls. -/
def IS (σ : St) : Prop := ∃ (tx : Nat → Nat) (L qn on : Nat), TxC σ tx L ∧ TxM σ tx L ∧ (σ.1 1 = σ.1 29 ∧ σ.1 2 = σ.1 30) ∧ (σ.1 15 = nI qn ∧ σ.1 45 = nI qn ∧ qn ≤ 20 ∧ ∀ j, j < qn → σ.2.2.1 9 j = σ.2.2.1 37 j) ∧ (σ.1 22 = nI on ∧ σ.1 47 = nI on ∧ on ≤ 30 ∧ ∀ j, j < on → σ.2.2.1 14 j = σ.2.2.1 38 j) ∧ (σ.1 23 = σ.1 51 ∧ σ.1 24 = σ.1 53) ∧ ((σ.1 25 = 0 ∧ σ.1 43 = 0) ∨ (σ.1 25 = 1 ∧ σ.1 43 = 1 ∧ PR σ)) ∧ BdC σ ∧ BdM σ
theorem pr_of {c m : St} (h : PR2 c m) (hi : ∀ k, k < 26 → m.1 k = c.1 k) (hr : ∀ k, k < 16 → m.2.2.1 k = c.2.2.1 k) : PR m := by
  obtain ⟨F, len, nn, i, s, p1, p2, p3, p4, p5, p6, p7, p8⟩ := h
  refine ⟨F, len, nn, i, s, (hi 13 (by omega)).trans p1, p2, p3, p4, p5, (hi 14 (by omega)).trans p6, p7, fun i s n hF => ?_⟩
  obtain ⟨w1, w2, w3, B, d, e, z, w4, w5, w6, w7, w8, w9, w10, w11⟩ := p8 i s n hF
  refine ⟨w1, w2, w3, B, d, e, z, w4, cs_congr (fun k _ => ⟨by rw [hr 6 (by omega)], by rw [hr 7 (by omega)], by rw [hr 8 (by omega)]⟩) ⟨fun _ _ => ⟨rfl, rfl, rfl, rfl, rfl, rfl⟩, rfl, rfl⟩ _ _ _ _ _ _ _ w5, w6, w7, w8, by rw [hr 6 (by omega)]; exact w9, by rw [hr 7 (by omega)]; exact w10, by rw [hr 6 (by omega)]; exact w11⟩
theorem pr2_of_pr {σ b : St} (h : PR σ) (hi : ∀ k, (k = 34 ∨ k = 44) → b.1 k = σ.1 k) (hr : ∀ k, (20 ≤ k ∧ k ≤ 30) → b.2.2.1 k = σ.2.2.1 k) : PR2 σ b := by
  obtain ⟨F, len, nn, i, s, p1, p2, p3, p4, p5, p6, p7, p8⟩ := h
  refine ⟨F, len, nn, i, s, p1, p2, (hi 34 (by omega)).trans p3, p4, (hi 44 (by omega)).trans p5, p6, p7, fun i s n hF => ?_⟩
  obtain ⟨w1, w2, w3, B, d, e, z, w4, w5, w6, w7, w8, w9, w10, w11⟩ := p8 i s n hF
  refine ⟨w1, w2, by rw [hr 29 (by omega)]; exact w3, B, d, e, z, by rw [hr 30 (by omega)]; exact w4, cs_congr (fun k _ => ⟨rfl, rfl, rfl⟩) ⟨fun _ _ => ⟨by rw [hr 20 (by omega)], by rw [hr 21 (by omega)], by rw [hr 22 (by omega)], by rw [hr 23 (by omega)], by rw [hr 24 (by omega)], by rw [hr 25 (by omega)]⟩, hr 29 (by omega), hr 30 (by omega)⟩ _ _ _ _ _ _ _ w5, w6, w7, w8, w9, w10, w11⟩
theorem is_26 {σ : St} {x : Int32} (h : IS σ) : IS (sI σ 26 x) := by
  obtain ⟨tx, L, qn, on, h1, h2, h3, h4, h5, h6, h7, h8, h9⟩ := h
  refine ⟨tx, L, qn, on, h1, h2, h3, h4, h5, h6, ?_, h8, h9⟩
  rcases h7 with h7 | ⟨a1, a2, a3⟩
  · exact Or.inl h7
  · exact Or.inr ⟨a1, a2, PR.keep ⟨rfl, rfl, rfl, rfl, rfl, rfl, rfl, fun _ _ => ⟨rfl, rfl, rfl, rfl, rfl, rfl⟩, rfl, rfl⟩ a3⟩
/-- both sides have done a call that may be refused -/
def CallOk (X : Option (Int32 × St)) (Y : St → Option (Int32 × St)) : Prop := ∃ (r7 r11 : Int32) (u7 u11 : St), X = some (r7, u7) ∧ Y u7 = some (r11, u11) ∧ u11.1 26 = r7 ∧ (r7 = 0 → u11.2.2.2 3 0 = r11.toInt64) ∧ IS u11
theorem call_fin {X : Option (Int32 × St)} {Y : St → Option (Int32 × St)} {k : St → Option Unit} (h : CallOk X Y) (hk : ∀ u, IS u → k u = some ()) : b2 X (fun r7 u7 => b2 (Y u7) (fun r11 u11 => b1 (tModel_thrown u11) (fun r12 => if r12 = r7 then if r7 = 0 then gd (inB 0 1) (if (lg_cmp ((u11.2.2.2 3) (0 : Int32).toNatClampNeg) ((r11 : Int32).toInt64)) = 0 then k u11 else none) else k u11 else none))) = some () := by
  obtain ⟨r7, r11, u7, u11, h1, h2, h3, h4, h5⟩ := h
  have h3' : tModel_thrown u11 = some r7 := by unfold tModel_thrown; rw [h3]
  rw [b2S h1, b2S h2, b1S h3', if_pos rfl]
  by_cases h0 : r7 = 0
  · rw [if_pos h0, gdT (by decide), show (0 : Int32).toNatClampNeg = 0 from rfl, if_pos (lg_eq.mpr (h4 h0))]
    exact hk u11 h5
  · rw [if_neg h0]
    exact hk u11 h5
theorem b3T {β : Type} {k : Nat} {r : Int32} {u : St} {f : Nat → Int32 → St → Option β} : b3 (some (k, r, u)) f = f k r u := rfl
theorem forge_ok {σ : St} (hI : IS σ) : CallOk (tLaw_forge σ) tModel_forge := by
  obtain ⟨tx, L, qn, on, h1, h2, h3, h4, h5, h6, h7, h8, h9⟩ := hI
  -- the class's answer, whatever the model's state
  obtain ⟨c, m, f1, f2, f3, f4, f5, f6, f7, f8, f9⟩ := forge_both h1 h2 h8 h9
  -- the model begins where the class ended
  have hB : ∀ (b : St) (r7 : Int32), (b = c ∨ ∃ x, b = sL c 3 x) → tLaw_forge σ = some (r7, b) → (r7 = 0 → ∃ k, tForge_forge σ = some (0, k, c) ∧ b.2.2.2 3 0 = k.toInt64) → (¬ r7 = 0 → r7 = 1 ∧ tForge_forge σ = some (3, 0, c)) → CallOk (tLaw_forge σ) tModel_forge := by
    intro b r7 hb e1 e2 e3
    have bi : ∀ k, b.1 k = c.1 k := fun k => by rcases hb with e | ⟨x, e⟩ <;> rw [e]; rfl
    have br : ∀ k, b.2.2.1 k = c.2.2.1 k := fun k => by rcases hb with e | ⟨x, e⟩ <;> rw [e]; rfl
    have T2 : TxM b tx L := by
      obtain ⟨t1, t2, t3⟩ := h2
      refine ⟨by rw [bi, f1.1 27 (by omega)]; exact t1, t2, fun i hi => ?_⟩
      rw [br, f1.2.2.1 15 (by omega)]; exact t3 i hi
    have B2 : BdM b := by
      refine ⟨?_, ?_⟩
      · rw [bi, f1.1 40 (by omega)]; exact h9.1
      · rw [bi, f1.1 42 (by omega)]; exact h9.2
    obtain ⟨c2, m2, g1, g2, g3, g4, g5, g6, g7, g8, g9⟩ := forge_both h1 T2 h8 B2
    have fin : c2 = c → (PR2 c m2 ∧ c.1 25 = 1 ∧ m2.1 43 = 1 ∨ c.1 25 = 0 ∧ m2.1 43 = 0) → IS m2 := by
      intro ec hpr
      rw [ec] at g1 g3 g4 g5 g7
      have mi : ∀ k, (k < 26 ∨ k = 27 ∨ (44 < k ∧ ¬ (k = 47 ∨ k = 51 ∨ k = 53))) → m2.1 k = c.1 k := fun k hk => (g2.1 k hk).trans (bi k)
      have mr : ∀ k, (k < 16 ∨ 36 < k) → m2.2.2.1 k = c.2.2.1 k := fun k hk => (g2.2.2.1 k hk).trans (br k)
      refine ⟨tx, L, qn, 0, ?_, ?_, ⟨?_, ?_⟩, ⟨?_, ?_, h4.2.2.1, fun j hj => ?_⟩, ⟨?_, ?_, by omega, fun j hj => absurd hj (by omega)⟩, ⟨?_, ?_⟩, ?_, ?_, g8⟩
      · obtain ⟨t1, t2, t3⟩ := h1
        refine ⟨by rw [mi 0 (by omega), g1.1 0 (by omega)]; exact t1, t2, fun i hi => ?_⟩
        rw [mr 0 (by omega), g1.2.2.1 0 (by omega)]; exact t3 i hi
      · obtain ⟨t1, t2, t3⟩ := h2
        refine ⟨by rw [mi 27 (by omega), g1.1 27 (by omega)]; exact t1, t2, fun i hi => ?_⟩
        rw [mr 15 (by omega), g1.2.2.1 15 (by omega)]; exact t3 i hi
      · rw [mi 1 (by omega)]; exact g3
      · rw [mi 2 (by omega)]; exact g4
      · rw [mi 15 (by omega), g1.1 15 (by omega)]; exact h4.1
      · rw [mi 45 (by omega), g1.1 45 (by omega)]; exact h4.2.1
      · rw [mr 9 (by omega), mr 37 (by omega), g1.2.2.1 9 (by omega), g1.2.2.1 37 (by omega)]; exact h4.2.2.2 j hj
      · rw [mi 22 (by omega)]; exact g5.1
      · exact g6.1
      · rw [mi 23 (by omega), g5.2.1, g6.2.1]
      · rw [mi 24 (by omega), g5.2.2, g6.2.2]
      · rcases hpr with ⟨a1, a2, a3⟩ | ⟨a2, a3⟩
        · exact Or.inr ⟨by rw [mi 25 (by omega)]; exact a2, a3, pr_of a1 (fun k hk => mi k (by omega)) (fun k hk => mr k (by omega))⟩
        · exact Or.inl ⟨by rw [mi 25 (by omega)]; exact a2, a3⟩
      · refine ⟨?_, ?_, ?_⟩
        · rw [mi 8 (by omega)]; exact g7.1
        · rw [mi 9 (by omega)]; exact g7.2.1
        · rw [mi 10 (by omega)]; exact g7.2.2
    rcases g9 with ⟨k, k1, k2, k3, k4, k5, k6⟩ | ⟨k1, k2, k3, k4, k5⟩
    · by_cases h0 : r7 = 0
      · obtain ⟨k', q1, q2⟩ := e2 h0
        rw [q1] at k1
        have ek : k' = k ∧ c = c2 := by
          have := Option.some.inj k1
          exact ⟨congrArg (fun z : Nat × Int32 × St => z.2.1) this, congrArg (fun z : Nat × Int32 × St => z.2.2) this⟩
        rw [← ek.2] at k3 k6
        refine ⟨r7, k, b, m2, e1, k2, k5.trans h0.symm, fun _ => ?_, fin ek.2.symm (Or.inl ⟨k6, k3, k4⟩)⟩
        rw [g2.2.2.2, q2, ek.1]
      · obtain ⟨q0, q1⟩ := e3 h0
        rw [q1] at k1
        have := congrArg (fun z : Nat × Int32 × St => z.1) (Option.some.inj k1)
        exact absurd (show (3 : Nat) = 0 from this) (by decide)
    · by_cases h0 : r7 = 0
      · obtain ⟨k', q1, q2⟩ := e2 h0
        rw [q1] at k1
        have := congrArg (fun z : Nat × Int32 × St => z.1) (Option.some.inj k1)
        exact absurd (show (0 : Nat) = 3 from this) (by decide)
      · obtain ⟨q0, q1⟩ := e3 h0
        rw [q1] at k1
        have ec := congrArg (fun z : Nat × Int32 × St => z.2.2) (Option.some.inj k1)
        have ec : c = c2 := ec
        rw [← ec] at k3
        exact ⟨r7, 0, b, m2, e1, k2, k5.trans q0.symm, fun z => absurd z h0, fin ec.symm (Or.inr ⟨k3, k4⟩)⟩
  rcases f9 with ⟨k, k1, -⟩ | ⟨k1, -⟩
  · refine hB (sL c 3 (vp_updL (c.2.2.2 3) 0 k.toInt64)) 0 (Or.inr ⟨_, rfl⟩) ?_ (fun _ => ⟨k, k1, ?_⟩) (fun z => absurd rfl z)
    · unfold tLaw_forge
      rw [k1]
      rw [b3T, if_pos rfl, gdT (by decide)]
      rfl
    · show vp_updL (c.2.2.2 3) 0 k.toInt64 0 = k.toInt64
      exact updL_e
  · refine hB c 1 (Or.inl rfl) ?_ (fun z => absurd z (by decide)) (fun _ => ⟨rfl, k1⟩)
    unfold tLaw_forge
    rw [k1]
    rw [b3T]
    rw [if_neg (by decide), if_pos rfl]
theorem run_ok {σ : St} (hI : IS σ) : CallOk (tLaw_run σ) tModel_run := by
  obtain ⟨tx, L, qn, on, h1, h2, h3, h4, h5, h6, h7, h8, h9⟩ := id hI
  rcases h7 with ⟨a1, a2⟩ | ⟨a1, a2, a3⟩
  · refine ⟨1, 0, σ, sI (sI σ 26 0) 26 1, ?_, ?_, rfl, fun z => absurd z (by decide), is_26 (is_26 hI)⟩
    · unfold tLaw_run tForge_run
      rw [if_pos a1]
      rw [b3T]
      rw [if_neg (by decide), if_pos rfl]
    · unfold tModel_run tModel_refuse
      rw [if_pos a2, b2S rfl]
  · obtain ⟨r, c, m, x1, -, x3, -⟩ := run_both (a := σ) (b := σ) (pr2_of_pr a3 (fun _ _ => rfl) (fun _ _ => rfl)) h4
    obtain ⟨b, hb⟩ : ∃ b, b = sL c 3 (vp_updL (c.2.2.2 3) 0 r.toInt64) := ⟨_, rfl⟩
    have bi : ∀ k, b.1 k = c.1 k := fun k => by rw [hb]; rfl
    have br : ∀ k, b.2.2.1 k = c.2.2.1 k := fun k => by rw [hb]; rfl
    have hq : σ.1 15 = nI qn ∧ b.1 45 = nI qn ∧ qn ≤ 20 ∧ ∀ j, j < qn → σ.2.2.1 9 j = b.2.2.1 37 j := ⟨h4.1, by rw [bi, x3.1 45 (by omega)]; exact h4.2.1, h4.2.2.1, fun j hj => by rw [br, x3.2.2.1 37 (by omega)]; exact h4.2.2.2 j hj⟩
    obtain ⟨r', c', m', y1, y2, y3, y4, y5, y6, y7, y8⟩ := run_both (a := σ) (b := b) (pr2_of_pr a3 (fun k hk => by rw [bi]; exact x3.1 k (by omega)) (fun k hk => by rw [br]; exact x3.2.2.1 k (by omega))) hq
    have e := Option.some.inj (x1.symm.trans y1)
    have er : r = r' := congrArg (fun z : Int32 × St => z.1) e
    have ec : c = c' := congrArg (fun z : Int32 × St => z.2) e
    rw [← ec] at y3 y5 y6 y7
    have mi : ∀ k, ((k < 46 ∧ k ≠ 26) ∨ 53 < k) → m'.1 k = c.1 k := fun k hk => (y4.1 k hk).trans (bi k)
    have mr : ∀ k, (k ≠ 20 ∧ k ≠ 21 ∧ k ≠ 22 ∧ k ≠ 24 ∧ (k < 38 ∨ 43 < k)) → m'.2.2.1 k = c.2.2.1 k := fun k hk => (y4.2.2.1 k hk).trans (br k)
    have ci : ∀ k, (k < 16 ∨ 24 < k) → c.1 k = σ.1 k := y3.1
    have cr : ∀ k, (k < 10 ∨ 14 < k) → c.2.2.1 k = σ.2.2.1 k := y3.2.2.1
    refine ⟨0, r', b, m', ?_, ?_, y8, fun _ => ?_, ?_⟩
    · unfold tLaw_run tForge_run
      rw [a1, if_neg (by decide), b2S x1]
      rw [b3T, if_pos rfl, gdT (by decide), hb]
      rfl
    · unfold tModel_run
      rw [bi, ci 43 (by omega), a2, if_neg (by decide)]
      exact y2
    · rw [y4.2.2.2.1, hb, ← er]
      show vp_updL (c.2.2.2 3) 0 r.toInt64 0 = r.toInt64
      exact updL_e
    · obtain ⟨o, o1, o2, o3, o4⟩ := y5
      refine ⟨tx, L, qn, o, ?_, ?_, ⟨?_, ?_⟩, ⟨?_, ?_, h4.2.2.1, fun j hj => ?_⟩, ⟨?_, o3, o1, fun j hj => ?_⟩, ⟨?_, ?_⟩, Or.inr ⟨?_, ?_, ?_⟩, ⟨?_, ?_, ?_⟩, ⟨?_, ?_⟩⟩
      · obtain ⟨t1, t2, t3⟩ := h1
        refine ⟨by rw [mi 0 (by omega), ci 0 (by omega)]; exact t1, t2, fun i hi => ?_⟩
        rw [mr 0 (by omega), cr 0 (by omega)]; exact t3 i hi
      · obtain ⟨t1, t2, t3⟩ := h2
        refine ⟨by rw [mi 27 (by omega), ci 27 (by omega)]; exact t1, t2, fun i hi => ?_⟩
        rw [mr 15 (by omega), cr 15 (by omega)]; exact t3 i hi
      · rw [mi 1 (by omega), mi 29 (by omega), ci 1 (by omega), ci 29 (by omega)]; exact h3.1
      · rw [mi 2 (by omega), mi 30 (by omega), ci 2 (by omega), ci 30 (by omega)]; exact h3.2
      · rw [mi 15 (by omega), ci 15 (by omega)]; exact h4.1
      · rw [mi 45 (by omega), ci 45 (by omega)]; exact h4.2.1
      · rw [mr 9 (by omega), mr 37 (by omega), cr 9 (by omega), cr 37 (by omega)]; exact h4.2.2.2 j hj
      · rw [mi 22 (by omega)]; exact o2
      · rw [mr 14 (by omega)]; exact o4 j hj
      · rw [mi 23 (by omega)]; exact y6
      · rw [mi 24 (by omega)]; exact y7
      · rw [mi 25 (by omega), ci 25 (by omega)]; exact a1
      · rw [mi 43 (by omega), ci 43 (by omega)]; exact a2
      · refine PR.keep ⟨?_, ?_, ?_, ?_, ?_, ?_, ?_, fun N hN => ?_, ?_, ?_⟩ a3
        · rw [mi 13 (by omega), ci 13 (by omega)]
        · rw [mi 14 (by omega), ci 14 (by omega)]
        · rw [mi 34 (by omega), ci 34 (by omega)]
        · rw [mi 44 (by omega), ci 44 (by omega)]
        · rw [mr 6 (by omega), cr 6 (by omega)]
        · rw [mr 7 (by omega), cr 7 (by omega)]
        · rw [mr 8 (by omega), cr 8 (by omega)]
        · obtain ⟨F, len, nn, i, s, p1, p2, p3, p4, -⟩ := id a3
          rw [p3, ti_nI (by omega)] at hN
          have hN' : N < nn := by simpa using hN
          have e34 : b.1 34 = nI nn := by rw [bi, ci 34 (by omega)]; exact p3
          obtain ⟨w1, w2, w3, w4⟩ := y4.2.2.2.2 nn N e34 (by omega) hN'
          refine ⟨?_, ?_, ?_, ?_, ?_, ?_⟩
          · rw [w1, br, cr 20 (by omega)]
          · rw [w2, br, cr 21 (by omega)]
          · rw [w3, br, cr 22 (by omega)]
          · rw [mr 23 (by omega), cr 23 (by omega)]
          · rw [w4, br, cr 24 (by omega)]
          · rw [mr 25 (by omega), cr 25 (by omega)]
        · rw [mr 29 (by omega), cr 29 (by omega)]
        · rw [mr 30 (by omega), cr 30 (by omega)]
      · rw [mi 8 (by omega), ci 8 (by omega)]; exact h8.1
      · rw [mi 9 (by omega), ci 9 (by omega)]; exact h8.2.1
      · rw [mi 10 (by omega), ci 10 (by omega)]; exact h8.2.2
      · rw [mi 40 (by omega), ci 40 (by omega)]; exact h9.1
      · rw [mi 42 (by omega), ci 42 (by omega)]; exact h9.2
