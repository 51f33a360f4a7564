/-! The class behind a refusal: it reads on, and nothing of it counts. -/
def FrC (g σ : St) : Prop := (∀ k, (k = 0 ∨ k = 4 ∨ k = 5 ∨ 14 < k) → σ.1 k = g.1 k) ∧ σ.2.1 = g.2.1 ∧ (∀ k, (k < 3 ∨ 8 < k) → σ.2.2.1 k = g.2.2.1 k) ∧ (∀ k, (k = 0 ∨ 2 < k) → σ.2.2.2 k = g.2.2.2 k)
def CBad (g : St) (n : Nat) (r q : Int32) (σ : St) : Prop := FrC g σ ∧ σ.1 1 = r ∧ σ.1 2 = q ∧ ¬ r = 0 ∧ (g.1 4 = nI n ∧ n ≤ 220) ∧ (∃ v, v ≤ 12 ∧ σ.1 8 = nI v) ∧ (∃ b, b ≤ 12 ∧ σ.1 9 = nI b) ∧ (∃ l, l ≤ 440 ∧ σ.1 13 = nI l) ∧ (∃ c, c ≤ 12 ∧ σ.1 10 = nI c)
def KB (g : St) (n : Nat) (r q : Int32) (o : Option St) : Prop := ∃ u, o = some u ∧ CBad g n r q u
def KB2 (g : St) (n : Nat) (r q : Int32) (o : Option (Int32 × St)) : Prop := ∃ x u, o = some (x, u) ∧ CBad g n r q u
theorem frc_refl (g : St) : FrC g g := ⟨fun _ _ => rfl, rfl, fun _ _ => rfl, fun _ _ => rfl⟩
theorem frc_trans {g u v : St} (h1 : FrC g u) (h2 : FrC u v) : FrC g v := ⟨fun k hk => (h2.1 k hk).trans (h1.1 k hk), h2.2.1.trans h1.2.1, fun k hk => (h2.2.2.1 k hk).trans (h1.2.2.1 k hk), fun k hk => (h2.2.2.2 k hk).trans (h1.2.2.2 k hk)⟩
theorem frc_sI {g σ : St} {k : Nat} {x : Int32} (h : FrC g σ) (hk : ¬ (k = 0 ∨ k = 4 ∨ k = 5 ∨ 14 < k)) : FrC g (sI σ k x) := ⟨fun j hj => by rw [sI1, if_neg (fun e => hk (by rw [← e]; exact hj))]; exact h.1 j hj, h.2.1, h.2.2.1, h.2.2.2⟩
theorem frc_sA {g σ : St} {k : Nat} {f : Nat → Int32} (h : FrC g σ) (hk : ¬ (k < 3 ∨ 8 < k)) : FrC g (sA σ k f) := ⟨h.1, h.2.1, fun j hj => by rw [sA3, if_neg (fun e => hk (by rw [← e]; exact hj))]; exact h.2.2.1 j hj, h.2.2.2⟩
theorem frc_sL {g σ : St} {k : Nat} {f : Nat → Int64} (h : FrC g σ) (hk : ¬ (k = 0 ∨ 2 < k)) : FrC g (sL σ k f) := ⟨h.1, h.2.1, h.2.2.1, fun j hj => by rw [sL4, if_neg (fun e => hk (by rw [← e]; exact hj))]; exact h.2.2.2 j hj⟩
theorem frc_mkW {g g0 : St} {r q w a o l : Int32} {co op sz : Nat → Int32} (h : FrC g0 g) : FrC g0 (mkW g r q w a o l co op sz) := by
  refine ⟨fun k hk => ?_, h.2.1, fun k hk => ?_, h.2.2.2⟩
  · rw [← h.1 k hk]
    show (if k = 1 then r else if k = 2 then q else if k = 3 then w else if k = 6 then a else if k = 7 then o else if k = 13 then l else g.1 k) = g.1 k
    rw [if_neg (by omega), if_neg (by omega), if_neg (by omega), if_neg (by omega), if_neg (by omega), if_neg (by omega)]
  · rw [← h.2.2.1 k hk]
    show (if k = 6 then co else if k = 7 then op else if k = 8 then sz else g.2.2.1 k) = g.2.2.1 k
    rw [if_neg (by omega), if_neg (by omega), if_neg (by omega)]
theorem tG_0 (d : Nat) (σ : St) (a b : Int32) : tG (d + 1) 0 σ a b = tGrammar_block (tG d) σ  := by rw [tG]
theorem tG_1 (d : Nat) (σ : St) (a b : Int32) : tG (d + 1) 1 σ a b = tGrammar_conditional (tG d) σ a := by rw [tG]
theorem tG_2 (d : Nat) (σ : St) (a b : Int32) : tG (d + 1) 2 σ a b = tGrammar_element (tG d) σ  := by rw [tG]
theorem tG_3 (d : Nat) (σ : St) (a b : Int32) : tG (d + 1) 3 σ a b = tGrammar_elementFirst (tG d) σ a := by rw [tG]
theorem tG_4 (d : Nat) (σ : St) (a b : Int32) : tG (d + 1) 4 σ a b = tGrammar_endWith (tG d) σ a b := by rw [tG]
theorem tG_5 (d : Nat) (σ : St) (a b : Int32) : tG (d + 1) 5 σ a b = tGrammar_given (tG d) σ  := by rw [tG]
theorem tG_6 (d : Nat) (σ : St) (a b : Int32) : tG (d + 1) 6 σ a b = tGrammar_namedStatement (tG d) σ a := by rw [tG]
theorem tG_7 (d : Nat) (σ : St) (a b : Int32) : tG (d + 1) 7 σ a b = tGrammar_namedValue (tG d) σ a := by rw [tG]
theorem tG_8 (d : Nat) (σ : St) (a b : Int32) : tG (d + 1) 8 σ a b = tGrammar_newVariable (tG d) σ a := by rw [tG]
theorem tG_9 (d : Nat) (σ : St) (a b : Int32) : tG (d + 1) 9 σ a b = tGrammar_one (tG d) σ  := by rw [tG]
theorem tG_10 (d : Nat) (σ : St) (a b : Int32) : tG (d + 1) 10 σ a b = tGrammar_otherwise (tG d) σ a := by rw [tG]
theorem tG_11 (d : Nat) (σ : St) (a b : Int32) : tG (d + 1) 11 σ a b = tGrammar_sign (tG d) σ a := by rw [tG]
theorem tG_12 (d : Nat) (σ : St) (a b : Int32) : tG (d + 1) 12 σ a b = tGrammar_signed (tG d) σ a := by rw [tG]
theorem tG_13 (d : Nat) (σ : St) (a b : Int32) : tG (d + 1) 13 σ a b = tGrammar_signs (tG d) σ a := by rw [tG]
theorem tG_14 (d : Nat) (σ : St) (a b : Int32) : tG (d + 1) 14 σ a b = tGrammar_statement (tG d) σ a := by rw [tG]
theorem tG_15 (d : Nat) (σ : St) (a b : Int32) : tG (d + 1) 15 σ a b = tGrammar_statements (tG d) σ  := by rw [tG]
theorem tG_16 (d : Nat) (σ : St) (a b : Int32) : tG (d + 1) 16 σ a b = tGrammar_value (tG d) σ a := by rw [tG]
section CB
variable {g : St} {n : Nat} {r q : Int32} {σ : St}
theorem kb1 {o : Option St} {f : St → Option St} (h : KB g n r q o) (hf : ∀ u, CBad g n r q u → KB g n r q (f u)) : KB g n r q (b1 o f) := by
  obtain ⟨u, rfl, hu⟩ := h; exact hf u hu
theorem kb12 {o : Option St} {f : St → Option (Int32 × St)} (h : KB g n r q o) (hf : ∀ u, CBad g n r q u → KB2 g n r q (f u)) : KB2 g n r q (b1 o f) := by
  obtain ⟨u, rfl, hu⟩ := h; exact hf u hu
theorem kb2 {o : Option (Int32 × St)} {f : Int32 → St → Option (Int32 × St)} (h : KB2 g n r q o) (hf : ∀ x u, CBad g n r q u → KB2 g n r q (f x u)) : KB2 g n r q (b2 o f) := by
  obtain ⟨x, u, rfl, hu⟩ := h; exact hf x u hu
theorem kb21 {o : Option (Int32 × St)} {f : Int32 → St → Option St} (h : KB2 g n r q o) (hf : ∀ x u, CBad g n r q u → KB g n r q (f x u)) : KB g n r q (b2 o f) := by
  obtain ⟨x, u, rfl, hu⟩ := h; exact hf x u hu
theorem kbs {u : St} (h : CBad g n r q u) : KB g n r q (some u) := ⟨u, rfl, h⟩
theorem kbs2 {u : St} {x : Int32} (h : CBad g n r q u) : KB2 g n r q (some (x, u)) := ⟨x, u, rfl, h⟩
theorem cb_sI {k : Nat} {x : Int32} (h : CBad g n r q σ) (hk : k = 3 ∨ k = 6 ∨ k = 7 ∨ k = 11 ∨ k = 12 ∨ k = 14) : CBad g n r q (sI σ k x) := by
  obtain ⟨h1, h2, h3, h4, h5, ⟨v, h6, h6'⟩, ⟨b, h7, h7'⟩, ⟨l, h8, h8'⟩, ⟨c, h9, h9'⟩⟩ := h
  refine ⟨frc_sI h1 (by omega), ?_, ?_, h4, h5, ⟨v, h6, ?_⟩, ⟨b, h7, ?_⟩, ⟨l, h8, ?_⟩, ⟨c, h9, ?_⟩⟩
  all_goals rw [sI1, if_neg (by omega)]; assumption
theorem cb_s8 {v : Nat} (h : CBad g n r q σ) (hv : v ≤ 12) : CBad g n r q (sI σ 8 (nI v)) := by
  obtain ⟨h1, h2, h3, h4, h5, h6, h7, h8, h9⟩ := h
  exact ⟨frc_sI h1 (by omega), h2, h3, h4, h5, ⟨v, hv, rfl⟩, h7, h8, h9⟩
theorem cb_s9 {v : Nat} (h : CBad g n r q σ) (hv : v ≤ 12) : CBad g n r q (sI σ 9 (nI v)) := by
  obtain ⟨h1, h2, h3, h4, h5, h6, h7, h8, h9⟩ := h
  exact ⟨frc_sI h1 (by omega), h2, h3, h4, h5, h6, ⟨v, hv, rfl⟩, h8, h9⟩
theorem cb_s13 {v : Nat} (h : CBad g n r q σ) (hv : v ≤ 440) : CBad g n r q (sI σ 13 (nI v)) := by
  obtain ⟨h1, h2, h3, h4, h5, h6, h7, h8, h9⟩ := h
  exact ⟨frc_sI h1 (by omega), h2, h3, h4, h5, h6, h7, ⟨v, hv, rfl⟩, h9⟩
theorem cb_s10 {v : Nat} (h : CBad g n r q σ) (hv : v ≤ 12) : CBad g n r q (sI σ 10 (nI v)) := by
  obtain ⟨h1, h2, h3, h4, h5, h6, h7, h8, h9⟩ := h
  exact ⟨frc_sI h1 (by omega), h2, h3, h4, h5, h6, h7, h8, ⟨v, hv, rfl⟩⟩
theorem cb_sA {k : Nat} {f : Nat → Int32} (h : CBad g n r q σ) (hk : ¬ (k < 3 ∨ 8 < k)) : CBad g n r q (sA σ k f) := ⟨frc_sA h.1 hk, h.2⟩
theorem cb_sL {k : Nat} {f : Nat → Int64} (h : CBad g n r q σ) (hk : ¬ (k = 0 ∨ 2 < k)) : CBad g n r q (sL σ k f) := ⟨frc_sL h.1 hk, h.2⟩
theorem cb_kind (h : CBad g n r q σ) : tCursor_kind σ = some 0 := by
  unfold tCursor_kind tRefusal_isNone
  rw [h.2.1, if_neg h.2.2.2.1, b1S rfl, if_pos rfl]
theorem cb_next (h : CBad g n r q σ) : tCursor_nextKind σ = some 0 := by
  unfold tCursor_nextKind tRefusal_isNone
  rw [h.2.1, if_neg h.2.2.2.1, b1S rfl, if_pos rfl]
theorem cb_tok (h : CBad g n r q σ) : σ.1 4 = nI n := (h.1.1 4 (by omega)).trans h.2.2.2.2.1.1
theorem tot_place {x : Int32} {n : Nat} (h4 : σ.1 4 = nI n) (hn : n ≤ 220) : ∃ y, tTokens_placeOf σ x = some y := by
  unfold tTokens_placeOf
  by_cases h : x < 0
  · rw [if_pos h]; exact ⟨_, rfl⟩
  rw [if_neg h, h4]
  by_cases h2 : nI n ≤ x
  · rw [if_pos h2]; exact ⟨_, rfl⟩
  rw [if_neg h2, gdT]
  · exact ⟨_, rfl⟩
  · rw [ti_lt] at h; rw [ti_le, ti_nI (by omega)] at h2
    exact inT (by have : (0 : Int32).toInt = 0 := rfl; omega) (by omega)
theorem tot_value {x : Int32} {n : Nat} (h4 : σ.1 4 = nI n) (hn : n ≤ 220) : ∃ y, tTokens_valueOf σ x = some y := by
  unfold tTokens_valueOf
  by_cases h : x < 0
  · rw [if_pos h]; exact ⟨_, rfl⟩
  rw [if_neg h, h4]
  by_cases h2 : nI n ≤ x
  · rw [if_pos h2]; exact ⟨_, rfl⟩
  rw [if_neg h2, gdT]
  · exact ⟨_, rfl⟩
  · rw [ti_lt] at h; rw [ti_le, ti_nI (by omega)] at h2
    exact inT (by have : (0 : Int32).toInt = 0 := rfl; omega) (by omega)
theorem cb_place {x : Int32} (h : CBad g n r q σ) : ∃ y, tTokens_placeOf σ x = some y := tot_place (cb_tok h) h.2.2.2.2.1.2
theorem cb_value {x : Int32} (h : CBad g n r q σ) : ∃ y, tTokens_valueOf σ x = some y := tot_value (cb_tok h) h.2.2.2.2.1.2
theorem cb_refuse {x y : Int32} (h : CBad g n r q σ) : tRefusal_refuse σ x y = some σ := by
  unfold tRefusal_refuse
  rw [h.2.1, if_neg h.2.2.2.1]
theorem kb_pass {k : Int32} (h : CBad g n r q σ) (hk : ¬ (0 : Int32) = k) : KB g n r q (tCursor_pass σ k) := by
  obtain ⟨y, hy⟩ := cb_place (x := σ.1 6) h
  unfold tCursor_pass
  rw [b1S (cb_kind h), if_neg hk, b1S hy, b1_id, cb_refuse h]
  exact kbs h
theorem kb_open {k : Int32} (h : CBad g n r q σ) (hk : ¬ (0 : Int32) = k) : KB g n r q (tCursor_passOpening σ k) := by
  obtain ⟨y, hy⟩ := cb_place (x := σ.1 6) h
  unfold tCursor_passOpening
  rw [b1S (cb_kind h), if_neg hk, b1S hy, b1_id, cb_refuse h]
  exact kbs h
theorem kb_closing {k : Int32} (h : CBad g n r q σ) (hk : ¬ (0 : Int32) = k) : KB g n r q (tCursor_passClosing σ k) := by
  unfold tCursor_passClosing
  exact kb1 (kb_pass h hk) fun u hu => kbs (cb_sI hu (by omega))
theorem kb_close (h : CBad g n r q σ) : KB g n r q (tCursor_close σ) := kbs (cb_sI h (by omega))
theorem kb_add {x y z : Int32} (h : CBad g n r q σ) : KB g n r q (tProgram_add σ x y z) := by
  obtain ⟨l, h8, h8'⟩ := h.2.2.2.2.2.2.2.1
  unfold tProgram_add
  by_cases h4 : (440 : Int32) ≤ σ.1 13
  · rw [if_pos h4]; exact kbs h
  · rw [if_neg h4]
    rw [h8'] at h4 ⊢
    have hl : l < 440 := by
      rcases Nat.lt_or_ge l 440 with h | h
      · exact h
      · exact absurd ((nI_leI (a := 440) (by omega) (by omega)).mpr h) h4
    rw [gdT (inI hl (by omega)), gdT (inI hl (by omega)), gdT (inI hl (by omega)), nI_suc]
    exact kbs (cb_s13 (cb_sA (cb_sA (cb_sA h (by omega)) (by omega)) (by omega)) (by omega))
theorem kb_addJump {x : Int32} (h : CBad g n r q σ) : KB2 g n r q (tProgram_addJump σ x) := by
  unfold tProgram_addJump
  exact kb12 (kb_add h) fun u hu => kbs2 hu
theorem kb_land {x : Int32} (h : CBad g n r q σ) : KB g n r q (tProgram_land σ x) := by
  obtain ⟨l, h8, h8'⟩ := h.2.2.2.2.2.2.2.1
  unfold tProgram_land
  by_cases h1 : x < 0
  · rw [if_pos h1]; exact kbs h
  rw [if_neg h1]
  by_cases h2 : σ.1 13 ≤ x
  · rw [if_pos h2]; exact kbs h
  rw [if_neg h2, gdT]
  · exact kbs (cb_sA h (by omega))
  · rw [ti_lt] at h1; rw [ti_le, h8', ti_nI (by omega)] at h2
    exact inT (by have : (0 : Int32).toInt = 0 := rfl; omega) (by omega)
theorem kb_blame {x : Int32} (h : CBad g n r q σ) : KB g n r q (tRefusal_blameName σ x) := by
  unfold tRefusal_blameName
  split
  · exact kbs (cb_sI h (by omega))
  split
  · exact kbs h
  · exact kbs (cb_sI h (by omega))
theorem cb_find {x : Int64} (h : CBad g n r q σ) : ∃ v, v ≤ 12 ∧ σ.1 8 = nI v ∧ tVariables_find σ x = some (fnd (σ.2.2.2 1) v x) := by
  obtain ⟨v, h6, h6'⟩ := h.2.2.2.2.2.1
  exact ⟨v, h6, h6', find_c h6' h6⟩
theorem kb_use {x : Int32} (h : CBad g n r q σ) : KB2 g n r q (tVariables_use σ x) := by
  obtain ⟨y, hy⟩ := cb_value (x := x) h
  obtain ⟨v, -, -, hf⟩ := cb_find (x := y) h
  obtain ⟨y', hy'⟩ := cb_place (x := x) h
  unfold tVariables_use
  rw [b1S hy, b1S hf]
  split
  · exact kbs2 h
  · rw [b1S hy']
    exact kb12 (kb_blame h) fun u hu => kbs2 hu
theorem kb_hide {x : Int32} (h : CBad g n r q σ) : KB g n r q (tVariables_mustNotHide σ x) := by
  obtain ⟨y, hy⟩ := cb_value (x := x) h
  obtain ⟨v, -, -, hf⟩ := cb_find (x := y) h
  obtain ⟨y', hy'⟩ := cb_place (x := x) h
  unfold tVariables_mustNotHide
  rw [b1S hy, b1S hf]
  split
  · exact kbs h
  · rw [b1S hy', b1_id]
    exact kb_blame h
theorem kb_notMake {x : Int32} (h : CBad g n r q σ) : KB g n r q (tVariables_mustNotMake σ x) := by
  obtain ⟨y', hy'⟩ := cb_place (x := x) h
  unfold tVariables_mustNotMake
  rw [b1S hy', b1_id]
  exact kb_blame h
theorem kb_make1 {x : Int32} {N : Nat} (h : CBad g n r q σ) : KB2 g n r q (tVariables_make_L (N + 1) 1 σ x) := by
  obtain ⟨y', hy'⟩ := cb_place (x := x) h
  show KB2 g n r q (tVariables_make_b1 (tVariables_make_L N) σ x)
  unfold tVariables_make_b1
  rw [b1S hy']
  exact kb12 (kb_blame h) fun u hu => kbs2 hu
theorem kb_make {x : Int32} (h : CBad g n r q σ) : KB2 g n r q (tVariables_make σ x) := by
  obtain ⟨y, hy⟩ := cb_value (x := x) h
  obtain ⟨v, hv, hv', hf⟩ := cb_find (x := y) h
  unfold tVariables_make
  rw [b1S hy]
  by_cases h12 : (12 : Int32) ≤ σ.1 8
  · rw [if_pos h12]; exact kb_make1 h
  rw [if_neg h12, b1S hf]
  split
  · rw [hv'] at h12 ⊢
    have hl : v < 12 := by
      rcases Nat.lt_or_ge v 12 with h | h
      · exact h
      · exact absurd ((nI_leI (a := 12) (by omega) (by omega)).mpr h) h12
    rw [gdT (inI hl (by omega)), nI_suc]
    exact kbs2 (cb_s8 (cb_sL h (by omega)) (by omega))
  · exact kb_make1 h
/-! The grammar behind a refusal. -/
theorem kb_one {d : Nat} (h : CBad g n r q σ) : KB2 g n r q (tG (d + 1) 9 σ 0 0) := by
  rw [tG_9]
  unfold tGrammar_one
  rw [b1S (cb_kind h), if_neg (by decide), if_neg (by decide), if_neg (by decide), if_neg (by decide), if_neg (by decide), if_neg (by decide), if_neg (by decide)]
  exact kb12 (kb_pass h (by decide)) fun u hu => kbs2 hu
theorem signs_L1 (rec : Nat → St → Int32 → Int32 → Option (Int32 × St)) (N : Nat) (σ : St) (x1 x2 : Int32) : tGrammar_signs_L rec (N + 1) 1 σ x1 x2 = tGrammar_signs_b1 rec (tGrammar_signs_L rec N) σ x1 x2 := rfl
theorem statements_L1 (rec : Nat → St → Int32 → Int32 → Option (Int32 × St)) (N : Nat) (σ : St) (x1 : Int32) : tGrammar_statements_L rec (N + 1) 1 σ x1 = tGrammar_statements_b1 rec (tGrammar_statements_L rec N) σ x1 := rfl
theorem given_L1 (rec : Nat → St → Int32 → Int32 → Option (Int32 × St)) (N : Nat) (σ : St) (x1 : Int32) : tGrammar_given_L rec (N + 1) 1 σ x1 = tGrammar_given_b1 rec (tGrammar_given_L rec N) σ x1 := rfl
theorem kb_signs_L {rec : Nat → St → Int32 → Int32 → Option (Int32 × St)} {N m : Nat} {x2 : Int32} (h : CBad g n r q σ) (hm : 1 ≤ m) (hm2 : m < 100) (hN : 0 < N) : KB2 g n r q (tGrammar_signs_L rec N 1 σ (nI m) x2) := by
  obtain ⟨N, rfl⟩ : ∃ j, N = j + 1 := ⟨N - 1, by omega⟩
  rw [signs_L1]
  unfold tGrammar_signs_b1
  split
  · exact kbs2 h
  rw [b1S (cb_kind h), b1S (sth_c σ 0), if_pos (show nI (sth 0) < nI m from (nI_ltI (a := 0) (by omega) (by omega)).mpr (by omega))]
  exact kbs2 h
theorem kb_signs {d m : Nat} {y : Int32} (h : CBad g n r q σ) (hm : 1 ≤ m) (hm2 : m < 100) : KB2 g n r q (tG (d + 1) 13 σ (nI m) y) := by
  rw [tG_13]
  unfold tGrammar_signs
  exact kb_signs_L h hm hm2 (by omega)
theorem kb_value {d m : Nat} {y : Int32} (h : CBad g n r q σ) (hm : 1 ≤ m) (hm2 : m < 100) : KB2 g n r q (tG (d + 2) 16 σ (nI m) y) := by
  rw [tG_16]
  unfold tGrammar_value
  exact kb2 (kb_one h) fun x u hu => kb2 (kb_signs hu hm hm2) fun x u hu => kbs2 hu
theorem kb_value1 {d : Nat} {y : Int32} (h : CBad g n r q σ) : KB2 g n r q (tG (d + 2) 16 σ 1 y) := kb_value (m := 1) h (by omega) (by omega)
theorem kb_endWith {d : Nat} {x y : Int32} (h : CBad g n r q σ) : KB2 g n r q (tG (d + 3) 4 σ x y) := by
  rw [tG_4]
  unfold tGrammar_endWith
  exact kb2 (kb_value1 h) fun _ u hu => kb12 (kb_pass hu (by decide)) fun u hu => kb12 (kb_add hu) fun u hu => kbs2 hu
theorem kb_statement {d : Nat} {x y : Int32} (h : CBad g n r q σ) : KB2 g n r q (tG (d + 4) 14 σ x y) := by
  rw [tG_14]
  unfold tGrammar_statement
  rw [b1S (cb_kind h), if_neg (by decide), if_neg (by decide), if_neg (by decide), if_neg (by decide), if_neg (by decide), if_neg (by decide), if_neg (by decide)]
  exact kb2 (kb_endWith h) fun _ u hu => kbs2 hu
theorem kb_statements_L {rec : Nat → St → Int32 → Int32 → Option (Int32 × St)} {N : Nat} {x1 : Int32} (h : CBad g n r q σ) (hN : 0 < N) : KB2 g n r q (tGrammar_statements_L rec N 1 σ x1) := by
  obtain ⟨N, rfl⟩ : ∃ j, N = j + 1 := ⟨N - 1, by omega⟩
  rw [statements_L1]
  unfold tGrammar_statements_b1
  split
  · exact kbs2 h
  · rw [b1S (cb_kind h), if_neg (by decide), b1S (cb_kind h), if_pos rfl]
    exact kbs2 h
theorem kb_statements {d : Nat} {x y : Int32} (h : CBad g n r q σ) : KB2 g n r q (tG (d + 1) 15 σ x y) := by
  rw [tG_15]
  unfold tGrammar_statements
  exact kb_statements_L h (by omega)
theorem kb_given_L {rec : Nat → St → Int32 → Int32 → Option (Int32 × St)} {N : Nat} {x1 : Int32} (h : CBad g n r q σ) (hN : 0 < N) : KB2 g n r q (tGrammar_given_L rec N 1 σ x1) := by
  obtain ⟨N, rfl⟩ : ∃ j, N = j + 1 := ⟨N - 1, by omega⟩
  rw [given_L1]
  unfold tGrammar_given_b1
  split
  · exact kb12 (kb_closing h (by decide)) fun u hu => kbs2 hu
  · rw [b1S (cb_kind h), if_neg (by decide)]
    exact kb12 (kb_closing h (by decide)) fun u hu => kbs2 hu
end CB
