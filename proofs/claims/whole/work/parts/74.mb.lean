/-! The model begins a value; it closes a bracket. -/
/-! The model behind a refusal. -/
def FrM (h σ : St) : Prop := (∀ k, (k < 29 ∨ (42 < k ∧ k ≠ 44)) → σ.1 k = h.1 k) ∧ σ.2.1 = h.2.1 ∧ (∀ k, (k < 20 ∨ 36 < k) → σ.2.2.1 k = h.2.2.1 k) ∧ σ.2.2.2 = h.2.2.2
def MBad (h : St) (n k : Nat) (r q : Int32) (σ : St) : Prop := FrM h σ ∧ σ.1 29 = r ∧ σ.1 30 = q ∧ ¬ r = 0 ∧ (∃ a, a ≤ n ∧ σ.1 31 = nI a) ∧ (∃ x, x ≤ 400 + k ∧ σ.1 34 = nI x) ∧ (∃ x, x ≤ 40 ∧ σ.1 40 = nI x) ∧ (∃ x, x ≤ 30 + k ∧ σ.1 42 = nI x)
def KM (h : St) (n k : Nat) (r q : Int32) (o : Option St) : Prop := ∃ u, o = some u ∧ MBad h n k r q u
def KM2 (h : St) (n k : Nat) (r q : Int32) (o : Option (Int32 × St)) : Prop := ∃ x u, o = some (x, u) ∧ MBad h n k r q u
theorem frm_refl (g : St) : FrM g g := ⟨fun _ _ => rfl, rfl, fun _ _ => rfl, rfl⟩
theorem frm_trans {g u v : St} (h1 : FrM g u) (h2 : FrM u v) : FrM g v := ⟨fun k hk => (h2.1 k hk).trans (h1.1 k hk), h2.2.1.trans h1.2.1, fun k hk => (h2.2.2.1 k hk).trans (h1.2.2.1 k hk), h2.2.2.2.trans h1.2.2.2⟩
theorem frm_sI {g σ : St} {k : Nat} {x : Int32} (h : FrM g σ) (hk : ¬ (k < 29 ∨ (42 < k ∧ k ≠ 44))) : FrM g (sI σ k x) := ⟨fun j hj => by rw [sI1, if_neg (fun e => hk (by rw [← e]; exact hj))]; exact h.1 j hj, h.2.1, h.2.2.1, h.2.2.2⟩
theorem frm_sA {g σ : St} {k : Nat} {f : Nat → Int32} (h : FrM g σ) (hk : ¬ (k < 20 ∨ 36 < k)) : FrM g (sA σ k f) := ⟨h.1, h.2.1, fun j hj => by rw [sA3, if_neg (fun e => hk (by rw [← e]; exact hj))]; exact h.2.2.1 j hj, h.2.2.2⟩
theorem frm_mkV {g g0 : St} {y q ft a o nd oc wt : Int32} {so wh oe tw th nx tk os wa wf : Nat → Int32} (h : FrM g0 g) : FrM g0 (mkV g y q ft a o nd oc wt so wh oe tw th nx tk os wa wf) := by
  refine ⟨fun k hk => ?_, h.2.1, fun k hk => ?_, h.2.2.2⟩
  · rw [← h.1 k hk]
    show (if k = 29 then y else if k = 30 then q else if k = 33 then ft else if k = 31 then a else if k = 32 then o else if k = 34 then nd else if k = 40 then oc else if k = 41 then wt else g.1 k) = g.1 k
    rw [if_neg (by omega), if_neg (by omega), if_neg (by omega), if_neg (by omega), if_neg (by omega), if_neg (by omega), if_neg (by omega), if_neg (by omega)]
  · rw [← h.2.2.1 k hk]
    show (if k = 20 then so else if k = 21 then wh else if k = 22 then oe else if k = 23 then tw else if k = 24 then th else if k = 25 then nx else if k = 26 then tk else if k = 33 then os else if k = 34 then wa else if k = 35 then wf else g.2.2.1 k) = g.2.2.1 k
    rw [if_neg (by omega), if_neg (by omega), if_neg (by omega), if_neg (by omega), if_neg (by omega), if_neg (by omega), if_neg (by omega), if_neg (by omega), if_neg (by omega), if_neg (by omega)]
theorem frm_same {h σ : St} (s : FrM h σ) : SameT h σ := ⟨s.1 27 (by omega), s.2.2.1 15 (by omega), s.2.2.1 16 (by omega), s.2.2.1 17 (by omega), s.2.2.1 18 (by omega), s.2.2.1 19 (by omega)⟩
section MBD
variable {h : St} {n k : Nat} {K : Nat → Int32} {p : Nat → Nat} {V : Nat → Int64} {r q : Int32} {σ : St}
theorem mb_mkV {g : St} {ft o wt : Int32} {a nd oc ar : Nat} {so wh oe tw th nx tk os wa wf : Nat → Int32} (hf : FrM h g) (hr : ¬ r = 0) (ha : a ≤ n) (hd : nd ≤ 400 + k) (hoc : oc ≤ 40) (har : g.1 42 = nI ar) (har2 : ar ≤ 30 + k) : MBad h n k r q (mkV g r q ft (nI a) o (nI nd) (nI oc) wt so wh oe tw th nx tk os wa wf) :=
  ⟨frm_mkV hf, rfl, rfl, hr, ⟨a, ha, rfl⟩, ⟨nd, hd, rfl⟩, ⟨oc, hoc, rfl⟩, ⟨ar, har2, har⟩⟩
theorem mb_mono {k' : Nat} (b : MBad h n k r q σ) (hk : k ≤ k') : MBad h n k' r q σ := by
  obtain ⟨b1, b2, b3, b4, b5, ⟨x, b6, b6'⟩, ⟨z, b7, b7'⟩, ⟨w, b8, b8'⟩⟩ := b
  exact ⟨b1, b2, b3, b4, b5, ⟨x, by omega, b6'⟩, ⟨z, by omega, b7'⟩, ⟨w, by omega, b8'⟩⟩
theorem km1 {k' : Nat} {o : Option St} {f : St → Option St} (h1 : KM h n k r q o) (hf : ∀ u, MBad h n k r q u → KM h n k' r q (f u)) : KM h n k' r q (b1 o f) := by
  obtain ⟨u, rfl, hu⟩ := h1; exact hf u hu
theorem km12 {k' : Nat} {o : Option St} {f : St → Option (Int32 × St)} (h1 : KM h n k r q o) (hf : ∀ u, MBad h n k r q u → KM2 h n k' r q (f u)) : KM2 h n k' r q (b1 o f) := by
  obtain ⟨u, rfl, hu⟩ := h1; exact hf u hu
theorem km2 {k' : Nat} {o : Option (Int32 × St)} {f : Int32 → St → Option (Int32 × St)} (h1 : KM2 h n k r q o) (hf : ∀ x u, MBad h n k r q u → KM2 h n k' r q (f x u)) : KM2 h n k' r q (b2 o f) := by
  obtain ⟨x, u, rfl, hu⟩ := h1; exact hf x u hu
theorem km21 {k' : Nat} {o : Option (Int32 × St)} {f : Int32 → St → Option St} (h1 : KM2 h n k r q o) (hf : ∀ x u, MBad h n k r q u → KM h n k' r q (f x u)) : KM h n k' r q (b2 o f) := by
  obtain ⟨x, u, rfl, hu⟩ := h1; exact hf x u hu
theorem kms {u : St} (h1 : MBad h n k r q u) : KM h n k r q (some u) := ⟨u, rfl, h1⟩
theorem kms2 {u : St} {x : Int32} (h1 : MBad h n k r q u) : KM2 h n k r q (some (x, u)) := ⟨x, u, rfl, h1⟩
theorem mb_sI {j : Nat} {x : Int32} (b : MBad h n k r q σ) (hj : j = 32 ∨ j = 33 ∨ j = 35 ∨ j = 36 ∨ j = 37 ∨ j = 38 ∨ j = 39 ∨ j = 41 ∨ j = 44) : MBad h n k r q (sI σ j x) := by
  obtain ⟨b1, b2, b3, b4, ⟨a, b5, b5'⟩, ⟨x, b6, b6'⟩, ⟨z, b7, b7'⟩, ⟨w, b8, b8'⟩⟩ := b
  refine ⟨frm_sI b1 (by omega), ?_, ?_, b4, ⟨a, b5, ?_⟩, ⟨x, b6, ?_⟩, ⟨z, b7, ?_⟩, ⟨w, b8, ?_⟩⟩
  all_goals rw [sI1, if_neg (by omega)]; assumption
theorem mb_s34 {x : Nat} (b : MBad h n k r q σ) (hx : x ≤ 400 + k) : MBad h n k r q (sI σ 34 (nI x)) := by
  obtain ⟨b1, b2, b3, b4, b5, b6, b7, b8⟩ := b
  exact ⟨frm_sI b1 (by omega), b2, b3, b4, b5, ⟨x, hx, rfl⟩, b7, b8⟩
theorem mb_s40 {x : Nat} (b : MBad h n k r q σ) (hx : x ≤ 40) : MBad h n k r q (sI σ 40 (nI x)) := by
  obtain ⟨b1, b2, b3, b4, b5, b6, b7, b8⟩ := b
  exact ⟨frm_sI b1 (by omega), b2, b3, b4, b5, b6, ⟨x, hx, rfl⟩, b8⟩
theorem mb_s42 {x : Nat} (b : MBad h n k r q σ) (hx : x ≤ 30 + k) : MBad h n k r q (sI σ 42 (nI x)) := by
  obtain ⟨b1, b2, b3, b4, b5, b6, b7, b8⟩ := b
  exact ⟨frm_sI b1 (by omega), b2, b3, b4, b5, b6, b7, ⟨x, hx, rfl⟩⟩
theorem mb_sA {j : Nat} {f : Nat → Int32} (b : MBad h n k r q σ) (hj : ¬ (j < 20 ∨ 36 < j)) : MBad h n k r q (sA σ j f) := ⟨frm_sA b.1 hj, b.2⟩
theorem mb_sees {w : Int64} {c : Int32} (T : TkM h n K p V) (b : MBad h n k r q σ) (hw : wd w c) : tModel_sees σ w = some 0 ∨ tModel_sees σ w = some 1 := by
  obtain ⟨a, ha, ha'⟩ := b.2.2.2.2.1
  unfold tModel_sees
  rw [ha', is_congr (frm_same b.1), b1S (T.2.2.2.2.1 a w c ha hw), gdT nz_if]
  by_cases hk : K a = c
  · rw [if_pos hk]; exact Or.inr rfl
  · rw [if_neg hk]; exact Or.inl rfl
theorem mb_spoil (T : TkM h n K p V) (b : MBad h n k r q σ) : tModel_spoil σ = some σ := by
  obtain ⟨a, ha, ha'⟩ := b.2.2.2.2.1
  have hn := T.1.1
  unfold tModel_spoil tModel_blame
  rw [ha', gdT (inI (by omega) (by omega)), b.2.1, if_neg b.2.2.2.1, b1_id]
theorem mb_need {w : Int64} {c : Int32} (T : TkM h n K p V) (b : MBad h n k r q σ) (hw : wd w c) : tModel_need σ w = some σ := by
  unfold tModel_need
  rw [b1_id, mb_spoil T b, b.2.1, if_neg b.2.2.2.1]
  rcases mb_sees T b hw with e | e
  · rw [b1S e, if_pos rfl]
  · rw [b1S e, if_neg (by decide)]
theorem km_node {c v x z : Int32} (b : MBad h n k r q σ) (hk : k ≤ 30) : KM2 h n (k + 1) r q (tModel_node σ c v x z) := by
  obtain ⟨x, hx, hx'⟩ := b.2.2.2.2.2.1
  unfold tModel_node
  simp only [hx', gdT (inI (show x < 500 by omega) (show 500 < 2147483648 by omega)), nI_suc]
  exact kms2 (mb_s34 (mb_sA (mb_sA (mb_sA (mb_sA (mb_sA (mb_sA (mb_sA (mb_mono b (by omega)) (by omega)) (by omega)) (by omega)) (by omega)) (by omega)) (by omega)) (by omega)) (by omega))
theorem km_node40 {c v x z : Int32} (b : MBad h n k r q σ) (hk : k ≤ 30) : ∃ y u, tModel_node σ c v x z = some (y, u) ∧ MBad h n (k + 1) r q u ∧ u.1 40 = σ.1 40 := by
  obtain ⟨x', hx, hx'⟩ := b.2.2.2.2.2.1
  unfold tModel_node
  simp only [hx', gdT (inI (show x' < 500 by omega) (show 500 < 2147483648 by omega)), nI_suc]
  exact ⟨_, _, rfl, mb_s34 (mb_sA (mb_sA (mb_sA (mb_sA (mb_sA (mb_sA (mb_sA (mb_mono b (by omega)) (by omega)) (by omega)) (by omega)) (by omega)) (by omega)) (by omega)) (by omega)) (by omega), rfl⟩
theorem km_operand {c : Int32} {x : Nat} (b : MBad h n k r q σ) (hx' : σ.1 40 = nI x) (hx : x < 40) : KM h n k r q (tModel_operand σ c) := by
  unfold tModel_operand
  rw [hx', gdT (inI (show x < 60 by omega) (by omega)), nI_suc]
  exact kms (mb_s40 (mb_sA b (by omega)) (by omega))
theorem km_begin {c : Int32} (b : MBad h n k r q σ) (hk : k ≤ 20) : KM h n (k + 1) r q (tModel_begin σ c) := by
  obtain ⟨x, hx, hx'⟩ := b.2.2.2.2.2.2.2
  unfold tModel_begin
  rw [hx', gdT (inI (show x < 60 by omega) (by omega)), nI_suc]
  exact kms (mb_s42 (mb_sA (mb_mono b (by omega)) (by omega)) (by omega))
theorem val_L1 (N : Nat) (σ : St) (x1 x2 x3 x4 : Int32) : tModel_value_L (N + 1) 1 σ x1 x2 x3 x4 = tModel_value_b1 (tModel_value_L N) σ x1 x2 x3 x4 := rfl
theorem val_L2 (N : Nat) (σ : St) (x1 x2 x3 x4 : Int32) : tModel_value_L (N + 1) 2 σ x1 x2 x3 x4 = tModel_value_b2 (tModel_value_L N) σ x1 x2 x3 x4 := rfl
theorem val_L3 (N : Nat) (σ : St) (x1 x2 x3 x4 : Int32) : tModel_value_L (N + 1) 3 σ x1 x2 x3 x4 = tModel_value_b3 (tModel_value_L N) σ x1 x2 x3 x4 := rfl
theorem val_L4 (N : Nat) (σ : St) (x1 x2 x3 x4 : Int32) : tModel_value_L (N + 1) 4 σ x1 x2 x3 x4 = tModel_value_b4 (tModel_value_L N) σ x1 x2 x3 x4 := rfl
theorem val_L5 (N : Nat) (σ : St) (x1 x2 x3 x4 : Int32) : tModel_value_L (N + 1) 5 σ x1 x2 x3 x4 = tModel_value_b5 (tModel_value_L N) σ x1 x2 x3 x4 := rfl
theorem val_L6 (N : Nat) (σ : St) (x1 x2 x3 x4 : Int32) : tModel_value_L (N + 1) 6 σ x1 x2 x3 x4 = tModel_value_b6 (tModel_value_L N) σ x1 x2 x3 x4 := rfl
theorem val_L7 (N : Nat) (σ : St) (x1 x2 x3 x4 : Int32) : tModel_value_L (N + 1) 7 σ x1 x2 x3 x4 = tModel_value_b7 (tModel_value_L N) σ x1 x2 x3 x4 := rfl
theorem km_value3 {N : Nat} {x : Int32} (b : MBad h n k r q σ) (hN : 2 ≤ N) : tModel_value_L N 3 σ x 0 0 0 = some (0, σ) := by
  obtain ⟨N, rfl⟩ : ∃ j, N = j + 2 := ⟨N - 2, by omega⟩
  rw [val_L3]
  unfold tModel_value_b3
  rw [if_pos rfl, b.2.1, if_neg b.2.2.2.1, val_L7]
  unfold tModel_value_b7
  rw [b.2.1, if_neg b.2.2.2.1]
theorem km_value (b : MBad h n k r q σ) : KM2 h n k r q (tModel_value σ (-1)) := by
  have b' : MBad h n k r q (sI (sI σ 40 (nI 0)) 41 0) := mb_sI (mb_s40 b (by omega)) (by omega)
  unfold tModel_value
  rw [if_neg (by decide), val_L1 1999]
  unfold tModel_value_b1
  rw [if_pos (by decide), val_L2 1998]
  unfold tModel_value_b2
  exact ⟨0, _, km_value3 b' (by omega), b'⟩
end MBD
section MB
variable {h : St} {n : Nat} {K : Nat → Int32} {p : Nat → Nat} {V : Nat → Int64} {y q ft A O ND OC WT : Int32} {a o nd oc wt f t v : Nat} {tv : Nat → Nat} {so wh oe tw th nx tk os wa wf : Nat → Int32}
theorem ki {x y : Int32} (hx : K a = x) (hxy : ¬ x = y) : ¬ K a = y := fun e => hxy (hx.symm.trans e)
theorem bv_neg (T : TkM h n K p V) (ha : a ≤ n) (h1 : ¬ K a = 45) (h2 : ¬ K a = 33) (h3 : ¬ K a = 126) : tModel_beginValue (mkV h y q ft (nI a) O ND OC WT so wh oe tw th nx tk os wa wf) = (if K a = 40 then b1 (tModel_opens (mkV h y q ft (nI a) O ND OC WT so wh oe tw th nx tk os wa wf)) (fun u23 => b1 (tModel_hold u23 30 0) (fun u24 => some (1, u24))) else
    if h.2.2.1 16 a = 2 then b2 (tModel_node (mkV h y q ft (nI a) O ND OC WT so wh oe tw th nx tk os wa wf) 1 (h.2.2.1 19 a) (-1) (-1)) (fun r21 u21 => b1 (tModel_operand u21 r21) (fun u22 => some (0, (sI u22 31 ((u22.1 31) + 1))))) else
    if K a = 8 then b2 (tModel_readNumber (mkV h y q ft (nI a) O ND OC WT so wh oe tw th nx tk os wa wf)) (fun r18 u18 => gd (nZ r18) (some (r18, u18))) else
    if h.2.2.1 16 a = 1 then b2 (tModel_beginName (mkV h y q ft (nI a) O ND OC WT so wh oe tw th nx tk os wa wf)) (fun r16 u16 => gd (nZ r16) (some (r16, u16))) else b1 (tModel_spoil (mkV h y q ft (nI a) O ND OC WT so wh oe tw th nx tk os wa wf)) (fun u15 => some (0, u15))) := by
  have hn := T.1.1
  unfold tModel_beginValue
  rw [b1S (v_sees T ha wd45), if_neg h1, if_pos rfl, b1S (v_sees T ha wd33), if_neg h2, if_pos rfl, b1S (v_sees T ha wd126), if_neg h3, if_pos rfl, b1S (v_sees T ha wd40)]
  by_cases h40 : K a = 40
  · rw [if_pos h40, if_neg (by decide), if_pos h40]
  rw [if_neg h40, if_pos rfl, if_neg h40, mkV_i31, gdT (inI (by omega) (by omega)), tc_nI (by omega), mkV_r16, mkV_r19]
  by_cases h2' : h.2.2.1 16 a = 2
  · rw [if_pos h2', if_pos h2', gdT (inI (by omega) (by omega))]
  rw [if_neg h2', if_neg h2', b1S (v_sees T ha wd8)]
  by_cases h8 : K a = 8
  · rw [if_pos h8, if_neg (by decide), if_pos h8]
  rw [if_neg h8, if_pos rfl, if_neg h8, gdT (inI (by omega) (by omega))]
theorem bv_sign0 (T : TkM h n K p V) (ha : a ≤ n) (hk : K a = 45 ∨ K a = 33 ∨ K a = 126) : tModel_beginValue (mkV h y q ft (nI a) O ND OC WT so wh oe tw th nx tk os wa wf) = b1 (tModel_opens (mkV h y q ft (nI a) O ND OC WT so wh oe tw th nx tk os wa wf)) (fun u25 => b1 (tModel_hold u25 31 (nI a)) (fun u26 => some (1, u26))) := by
  have e : ∀ N, tModel_beginValue_L (N + 1) 1 (mkV h y q ft (nI a) O ND OC WT so wh oe tw th nx tk os wa wf) = b1 (tModel_opens (mkV h y q ft (nI a) O ND OC WT so wh oe tw th nx tk os wa wf)) (fun u25 => b1 (tModel_hold u25 31 (nI a)) (fun u26 => some (1, u26))) := fun N => rfl
  unfold tModel_beginValue
  rw [e 1999, b1S (v_sees T ha wd45)]
  by_cases h45 : K a = 45
  · rw [if_pos h45, if_neg (by decide)]
  rw [if_neg h45, if_pos rfl, b1S (v_sees T ha wd33)]
  by_cases h33 : K a = 33
  · rw [if_pos h33, if_neg (by decide)]
  have h126 : K a = 126 := by
    rcases hk with h | h | h
    · exact absurd h h45
    · exact absurd h h33
    · exact h
  rw [if_neg h33, if_pos rfl, b1S (v_sees T ha wd126), if_pos h126, if_neg (by decide)]
theorem bv_sign (T : TkM h n K p V) (ha : a ≤ n) (hk : K a = 45 ∨ K a = 33 ∨ K a = 126) (ho : o < 12) (hwt : wt < 60) : tModel_beginValue (mkV h 0 q ft (nI a) (nI o) ND OC (nI wt) so wh oe tw th nx tk os wa wf) = some (1, mkV h 0 q ft (nI (a + 1)) (nI (o + 1)) ND OC (nI (wt + 1)) so wh oe tw th nx tk os (upd wa wt 31) (upd wf wt (nI a))) := by
  rw [bv_sign0 T ha hk, b1S (v_opens ho), b1S (v_hold hwt)]
theorem bv_sign12 (T : TkM h n K p V) (ha : a ≤ n) (hk : K a = 45 ∨ K a = 33 ∨ K a = 126) (hwt : wt < 60) : tModel_beginValue (mkV h 0 q ft (nI a) (nI 12) ND OC (nI wt) so wh oe tw th nx tk os wa wf) = some (1, mkV h 2 (nI (p a)) ft (nI a) (nI 13) ND OC (nI (wt + 1)) so wh oe tw th nx tk os (upd wa wt 31) (upd wf wt (nI a))) := by
  rw [bv_sign0 T ha hk, b1S (v_opens12 T ha), b1S (v_hold hwt)]
theorem bv_round (T : TkM h n K p V) (ha : a ≤ n) (hk : K a = 40) (ho : o < 12) (hwt : wt < 60) : tModel_beginValue (mkV h 0 q ft (nI a) (nI o) ND OC (nI wt) so wh oe tw th nx tk os wa wf) = some (1, mkV h 0 q ft (nI (a + 1)) (nI (o + 1)) ND OC (nI (wt + 1)) so wh oe tw th nx tk os (upd wa wt 30) (upd wf wt 0)) := by
  rw [bv_neg T ha (ki hk (by decide)) (ki hk (by decide)) (ki hk (by decide)), if_pos hk, b1S (v_opens ho), b1S (v_hold hwt)]
theorem bv_round12 (T : TkM h n K p V) (ha : a ≤ n) (hk : K a = 40) (hwt : wt < 60) : tModel_beginValue (mkV h 0 q ft (nI a) (nI 12) ND OC (nI wt) so wh oe tw th nx tk os wa wf) = some (1, mkV h 2 (nI (p a)) ft (nI a) (nI 13) ND OC (nI (wt + 1)) so wh oe tw th nx tk os (upd wa wt 30) (upd wf wt 0)) := by
  rw [bv_neg T ha (ki hk (by decide)) (ki hk (by decide)) (ki hk (by decide)), if_pos hk, b1S (v_opens12 T ha), b1S (v_hold hwt)]
theorem bv_num (T : TkM h n K p V) (ha : a < n) (hk : K a = 2) (hd : nd < 500) (hoc : oc < 60) : tModel_beginValue (mkV h y q ft (nI a) O (nI nd) (nI oc) WT so wh oe tw th nx tk os wa wf) = some (0, mkV h y q ft (nI (a + 1)) O (nI (nd + 1)) (nI (oc + 1)) WT (upd so nd 1) (upd wh nd ((V a).toInt32)) (upd oe nd (-1)) (upd tw nd (-1)) (upd th nd (-1)) (upd nx nd (-1)) (upd tk nd (nI a)) (upd os oc (nI nd)) wa wf) := by
  rw [bv_neg T (by omega) (ki hk (by decide)) (ki hk (by decide)) (ki hk (by decide)), if_neg (ki hk (by decide)), if_pos ((T.2.2.1 a (by omega)).2.1.mpr hk), (T.2.2.2.1 a ha hk).1, b2S (v_node hd), b1S (v_operand hoc), mkV_i31, nI_suc, mkV_s31]
theorem bv_bad (T : TkM h n K p V) (ha : a ≤ n) (h1 : ¬ K a = 45) (h2 : ¬ K a = 33) (h3 : ¬ K a = 126) (h4 : ¬ K a = 40) (h5 : ¬ K a = 2) (h6 : ¬ K a = 8) (h7 : ¬ K a = 1) : tModel_beginValue (mkV h 0 q ft (nI a) O ND OC WT so wh oe tw th nx tk os wa wf) = some (0, mkV h 3 (nI (p a)) ft (nI a) O ND OC WT so wh oe tw th nx tk os wa wf) := by
  rw [bv_neg T ha h1 h2 h3, if_neg h4, if_neg (fun e => h5 ((T.2.2.1 a ha).2.1.mp e)), if_neg h6, if_neg (fun e => h7 ((T.2.2.1 a ha).1.mp e)), b1S (v_spoil T ha)]
theorem bv_read0 (T : TkM h n K p V) (ha : a ≤ n) (hk : K a = 8) : tModel_beginValue (mkV h y q ft (nI a) O ND OC WT so wh oe tw th nx tk os wa wf) = b2 (tModel_readNumber (mkV h y q ft (nI a) O ND OC WT so wh oe tw th nx tk os wa wf)) (fun r18 u18 => gd (nZ r18) (some (r18, u18))) := by
  rw [bv_neg T ha (ki hk (by decide)) (ki hk (by decide)) (ki hk (by decide)), if_neg (ki hk (by decide)), if_neg (fun e => absurd (hk.symm.trans ((T.2.2.1 a ha).2.1.mp e)) (by decide)), if_pos hk]
theorem bv_name0 (T : TkM h n K p V) (ha : a ≤ n) (hk : K a = 1) : tModel_beginValue (mkV h y q ft (nI a) O ND OC WT so wh oe tw th nx tk os wa wf) = b2 (tModel_beginName (mkV h y q ft (nI a) O ND OC WT so wh oe tw th nx tk os wa wf)) (fun r16 u16 => gd (nZ r16) (some (r16, u16))) := by
  rw [bv_neg T ha (ki hk (by decide)) (ki hk (by decide)) (ki hk (by decide)), if_neg (ki hk (by decide)), if_neg (fun e => absurd (hk.symm.trans ((T.2.2.1 a ha).2.1.mp e)) (by decide)), if_neg (ki hk (by decide)), if_pos ((T.2.2.1 a ha).1.mpr hk)]
/-- the rest of "read" -/
theorem readN_L (N : Nat) (σ : St) : tModel_readNumber_L (N + 1) 1 σ = b1 (tModel_need (sI σ 32 ((σ.1 32) - 1)) 41) (fun u5 => b2 (tModel_node u5 2 0 (-1) (-1)) (fun r6 u6 => b1 (tModel_operand u6 r6) (fun u7 => some (0, u7)))) := rfl
theorem bv_read (T : TkM h n K p V) (ha : a + 1 < n) (hk : K a = 8) (hk1 : K (a + 1) = 40) (hk2 : K (a + 2) = 41) (ho : o < 12) (hd : nd < 500) (hoc : oc < 60) : tModel_beginValue (mkV h 0 q ft (nI a) (nI o) (nI nd) (nI oc) WT so wh oe tw th nx tk os wa wf) = some (0, mkV h 0 q ft (nI (a + 3)) (nI o) (nI (nd + 1)) (nI (oc + 1)) WT (upd so nd 2) (upd wh nd 0) (upd oe nd (-1)) (upd tw nd (-1)) (upd th nd (-1)) (upd nx nd (-1)) (upd tk nd (nI (a + 3))) (upd os oc (nI nd)) wa wf) := by
  rw [bv_read0 T (by omega) hk]
  unfold tModel_readNumber
  rw [mkV_i31, nI_suc, mkV_s31, b1S (v_sees T (by omega) wd40), if_pos hk1, if_neg (by decide), b1S (v_opens ho), readN_L 1999, mkV_i32, nI_pred, mkV_s32, b1S (v_need T (by omega) wd41 hk2), b2S (v_node hd), b1S (v_operand hoc)]
  rfl
/-- "read" with its brackets wrong, or too much open -/
theorem bv_readN (T : TkM h n K p V) {ar : Nat} (ha : a < n) (hk : K a = 8) (hd : nd < 400) (hoc : oc < 30) (har : h.1 42 = nI ar) (har2 : ar ≤ 30) (hb : ¬ (K (a + 1) = 40 ∧ K (a + 2) = 41 ∧ o < 12)) (ho : o ≤ 12) : ∃ (r : Int32) (P : Nat), ((¬ K (a + 1) = 40 ∧ r = 3 ∧ P = p (a + 1)) ∨ (K (a + 1) = 40 ∧ o = 12 ∧ r = 2 ∧ P = p (a + 1)) ∨ (K (a + 1) = 40 ∧ o < 12 ∧ r = 3 ∧ P = p (a + 2))) ∧ KM2 h n 2 r (nI P) (tModel_beginValue (mkV h 0 q ft (nI a) (nI o) (nI nd) (nI oc) WT so wh oe tw th nx tk os wa wf)) := by
  have fin : ∀ (r q' : Int32) (u : St), MBad h n 0 r q' u → u.1 40 = nI oc → KM2 h n 2 r q' (b2 (tModel_node u 2 0 (-1) (-1)) (fun r6 u6 => b1 (tModel_operand u6 r6) (fun u7 => some (0, u7)))) := by
    intro r q' u b e40
    obtain ⟨y, u1, e1, b1, e2⟩ := km_node40 (c := 2) (v := 0) (x := -1) (z := -1) b (by omega)
    rw [b2S e1]
    exact km12 (km_operand b1 (e2.trans e40) (by omega)) fun u b => kms2 (mb_mono b (by omega))
  have gdz : ∀ (r q' : Int32) (e : Option (Int32 × St)), KM2 h n 2 r q' e → (∀ x u, e = some (x, u) → x = 0) → KM2 h n 2 r q' (b2 e (fun r18 u18 => gd (nZ r18) (some (r18, u18)))) := by
    intro r q' e ⟨x, u, h1, h2⟩ h3
    rw [b2S h1, h3 x u h1, gdT nZ0]
    exact kms2 h2
  have tz : ∀ (u : St) (x : Int32) (v : St), b2 (tModel_node u 2 0 (-1) (-1)) (fun r6 u6 => b1 (tModel_operand u6 r6) (fun u7 => some ((0 : Int32), u7))) = some (x, v) → x = 0 := by
    intro u x v e
    cases h1 : tModel_node u 2 0 (-1) (-1) with
    | none => rw [h1] at e; cases e
    | some z =>
      obtain ⟨z1, z2⟩ := z
      rw [b2S h1] at e
      cases h2 : tModel_operand z2 z1 with
      | none => rw [h2] at e; cases e
      | some z3 => rw [b1S h2] at e; cases e; rfl
  have hn := T.1.1
  have bad : ∀ (r q' : Int32) (N : Nat) (σ : St), MBad h n 0 r q' σ → σ.1 40 = nI oc → KM2 h n 2 r q' (b2 (tModel_readNumber_L (N + 1) 1 σ) (fun r18 u18 => gd (nZ r18) (some (r18, u18)))) := by
    intro r q' N σ b e40
    have b' : MBad h n 0 r q' (sI σ 32 (σ.1 32 - 1)) := mb_sI b (by omega)
    rw [readN_L, b1S (mb_need T b' wd41)]
    exact gdz _ _ _ (fin _ _ _ b' e40) (tz _)
  rw [bv_read0 T (by omega) hk]
  unfold tModel_readNumber
  rw [mkV_i31, nI_suc, mkV_s31, b1S (v_sees T (by omega) wd40)]
  by_cases hk1 : K (a + 1) = 40
  · rw [if_pos hk1, if_neg (by decide)]
    by_cases h12 : o = 12
    · subst h12
      rw [b1S (v_opens12 T (by omega))]
      exact ⟨2, p (a + 1), Or.inr (Or.inl ⟨hk1, rfl, rfl, rfl⟩), bad _ _ 1999 _ (mb_mkV (frm_refl h) (by decide) (by omega) (by omega) (by omega) har (by omega)) rfl⟩
    · have ha2 : a + 1 < n := by
        rcases Nat.lt_or_ge (a + 1) n with h | h
        · exact h
        · exact absurd (hk1.symm.trans (T.1.2 (a + 1) h)) (by decide)
      rw [b1S (v_opens (by omega)), readN_L 1999, mkV_i32, nI_pred, mkV_s32, b1S (v_needN T (by omega) wd41 (fun e => hb ⟨hk1, e, by omega⟩))]
      exact ⟨3, p (a + 2), Or.inr (Or.inr ⟨hk1, by omega, rfl, rfl⟩), gdz _ _ _ (fin _ _ _ (mb_mkV (frm_refl h) (by decide) (by omega) (by omega) (by omega) har (by omega)) rfl) (tz _)⟩
  · rw [if_neg hk1, if_pos rfl, b1S (v_spoil T (by omega))]
    exact ⟨3, p (a + 1), Or.inl ⟨hk1, rfl, rfl⟩, bad _ _ 1999 _ (mb_mkV (frm_refl h) (by decide) (by omega) (by omega) (by omega) har (by omega)) rfl⟩
/-- a name that is a variable -/
theorem bv_var (T : TkM h n K p V) (hv : VrM h n K tv v) (ha : a < n) (hk : K a = 1) (h91 : ¬ K (a + 1) = 91) (h40 : ¬ K (a + 1) = 40) (hd : nd < 500) (hoc : oc < 60) : tModel_beginValue (mkV h y q (ftk n f) (nI a) O (nI nd) (nI oc) WT so wh oe tw th nx tk os wa wf) = some (0, mkV h y q (ftk n (if fnd (fun i => V (tv i)) v (V a) = -1 then min f a else f)) (nI (a + 1)) O (nI (nd + 1)) (nI (oc + 1)) WT (upd so nd 3) (upd wh nd (fnd (fun i => V (tv i)) v (V a))) (upd oe nd (-1)) (upd tw nd (-1)) (upd th nd (-1)) (upd nx nd (-1)) (upd tk nd (nI (a + 1))) (upd os oc (nI nd)) wa wf) := by
  have e : ∀ (N : Nat) (σ : St) (x : Int32), tModel_beginName_L (N + 1) 1 σ x = b2 (tModel_node σ 3 x (-1) (-1)) (fun r19 u19 => b1 (tModel_operand u19 r19) (fun u20 => some (0, u20))) := fun N σ x => rfl
  have hvb := hv.2.1
  rw [bv_name0 T (by omega) hk]
  unfold tModel_beginName
  rw [mkV_i31, nI_suc, mkV_s31, b1S (v_sees T (by omega) wd91), if_neg h91, if_pos rfl, b1S (v_sees T (by omega) wd40), if_neg h40, if_pos rfl, b1S (v_variable T hv ha hk)]
  by_cases hx : fnd (fun i => V (tv i)) v (V a) = -1
  · rw [if_neg (show ¬ (0 : Int32) ≤ fnd (fun i => V (tv i)) v (V a) by rw [hx]; decide), b1S (v_notName (by omega) T.1.1), e 1999, b2S (v_node hd), b1S (v_operand hoc), if_pos hx]
    rfl
  · rw [if_pos (show (0 : Int32) ≤ fnd (fun i => V (tv i)) v (V a) from ?_), e 1999, b2S (v_node hd), b1S (v_operand hoc), if_neg hx]
    · rfl
    · rcases fnd_or (fun i => V (tv i)) (V a) v with h1 | ⟨i, h1, h2⟩
      · exact absurd h1 hx
      · rw [h2]; exact nI_le0 (by omega)
/-- a name with an index behind it -/
theorem bv_index (T : TkM h n K p V) (ha : a < n) (hk : K a = 1) (h91 : K (a + 1) = 91) (ho : o < 12) (hwt : wt < 60) : tModel_beginValue (mkV h 0 q ft (nI a) (nI o) ND OC (nI wt) so wh oe tw th nx tk os wa wf) = some (1, mkV h 0 q ft (nI (a + 2)) (nI (o + 1)) ND OC (nI (wt + 1)) so wh oe tw th nx tk os (upd wa wt 33) (upd wf wt (nI a))) := by
  rw [bv_name0 T (by omega) hk]
  unfold tModel_beginName
  rw [mkV_i31, nI_suc, mkV_s31, b1S (v_sees T (by omega) wd91), if_pos h91, if_neg (by decide), b1S (v_opens ho), b1S (v_hold hwt)]
  rfl
theorem bv_index12 (T : TkM h n K p V) (ha : a < n) (hk : K a = 1) (h91 : K (a + 1) = 91) (hwt : wt < 60) : tModel_beginValue (mkV h 0 q ft (nI a) (nI 12) ND OC (nI wt) so wh oe tw th nx tk os wa wf) = some (1, mkV h 2 (nI (p (a + 1))) ft (nI (a + 1)) (nI 13) ND OC (nI (wt + 1)) so wh oe tw th nx tk os (upd wa wt 33) (upd wf wt (nI a))) := by
  rw [bv_name0 T (by omega) hk]
  unfold tModel_beginName
  rw [mkV_i31, nI_suc, mkV_s31, b1S (v_sees T (by omega) wd91), if_pos h91, if_neg (by decide), b1S (v_opens12 T (by omega)), b1S (v_hold hwt)]
  rfl
/-- a call -/
theorem bv_call (T : TkM h n K p V) (hv : VrM h n K tv v) (ha : a + 1 < n) (hk : K a = 1) (h40 : K (a + 1) = 40) (h41 : ¬ K (a + 2) = 41) (ho : o < 12) (hd : nd < 500) (hwt : wt < 60) : tModel_beginValue (mkV h 0 q ft (nI a) (nI o) (nI nd) OC (nI wt) so wh oe tw th nx tk os wa wf) = some (1, mkV h 0 q ft (nI (a + 2)) (nI (o + 1)) (nI (nd + 1)) OC (nI (wt + 1)) (upd so nd 5) (upd wh nd 0) (upd oe nd (-1)) (upd tw nd (-1)) (upd (upd th nd (-1)) nd (fnd (fun i => V (tv i)) v (V a))) (upd nx nd (-1)) (upd (upd tk nd (nI (a + 1))) nd (nI a)) os (upd wa wt 34) (upd wf wt (nI nd))) := by
  rw [bv_name0 T (by omega) hk]
  unfold tModel_beginName
  rw [mkV_i31, nI_suc, mkV_s31, b1S (v_sees T (by omega) wd91), if_neg (ki h40 (by decide)), if_pos rfl, b1S (v_sees T (by omega) wd40), if_pos h40, if_neg (by decide), b2S (v_node hd), gdT (inI hd (by omega)), tc_nI (by omega), mkV_r26, mkV_t26, b1S (v_variable T hv (by omega) hk), gdT (inI hd (by omega)), mkV_r24, mkV_t24, b1S (v_opens ho), b1S (v_hold hwt), b1S (v_sees T (by omega) wd41), if_neg h41, if_pos rfl]
  rfl
theorem bv_call0 (T : TkM h n K p V) (hv : VrM h n K tv v) (ha : a + 1 < n) (hk : K a = 1) (h40 : K (a + 1) = 40) (h41 : K (a + 2) = 41) (ho : o < 12) (hd : nd < 500) (hwt : wt < 60) (hoc : oc < 60) : tModel_beginValue (mkV h 0 q ft (nI a) (nI o) (nI nd) (nI oc) (nI wt) so wh oe tw th nx tk os wa wf) = some (0, mkV h 0 q ft (nI (a + 3)) (nI o) (nI (nd + 1)) (nI (oc + 1)) (nI wt) (upd so nd 5) (upd wh nd 0) (upd oe nd (-1)) (upd tw nd (-1)) (upd (upd th nd (-1)) nd (fnd (fun i => V (tv i)) v (V a))) (upd nx nd (-1)) (upd (upd tk nd (nI (a + 1))) nd (nI a)) (upd os oc (nI nd)) (upd wa wt 34) (upd wf wt (nI nd))) := by
  rw [bv_name0 T (by omega) hk]
  unfold tModel_beginName tModel_closeCall
  rw [mkV_i31, nI_suc, mkV_s31, b1S (v_sees T (by omega) wd91), if_neg (ki h40 (by decide)), if_pos rfl, b1S (v_sees T (by omega) wd40), if_pos h40, if_neg (by decide), b2S (v_node hd), gdT (inI hd (by omega)), tc_nI (by omega), mkV_r26, mkV_t26, b1S (v_variable T hv (by omega) hk), gdT (inI hd (by omega)), mkV_r24, mkV_t24, b1S (v_opens ho), b1S (v_hold hwt), b1S (v_sees T (by omega) wd41), if_pos h41, if_neg (by decide)]
  rw [mkV_i41, nI_pred, gdT (inI hwt (by omega)), mkV_i32, nI_pred, mkV_s41, mkV_s32, tc_nI (by omega), mkV_r35, upd_e, b1S (v_operand hoc), mkV_i31, nI_suc, mkV_s31, b1S rfl]
  rfl
theorem bv_call12 (T : TkM h n K p V) (hv : VrM h n K tv v) (ha : a + 1 < n) (hk : K a = 1) (h40 : K (a + 1) = 40) (hd : nd < 500) (hwt : wt < 60) : tModel_beginValue (mkV h 0 q ft (nI a) (nI 12) (nI nd) OC (nI wt) so wh oe tw th nx tk os wa wf) = some (1, mkV h 2 (nI (p (a + 1))) ft (nI (a + 1)) (nI 13) (nI (nd + 1)) OC (nI (wt + 1)) (upd so nd 5) (upd wh nd 0) (upd oe nd (-1)) (upd tw nd (-1)) (upd (upd th nd (-1)) nd (fnd (fun i => V (tv i)) v (V a))) (upd nx nd (-1)) (upd (upd tk nd (nI (a + 1))) nd (nI a)) os (upd wa wt 34) (upd wf wt (nI nd))) := by
  rw [bv_name0 T (by omega) hk]
  unfold tModel_beginName
  rw [mkV_i31, nI_suc, mkV_s31, b1S (v_sees T (by omega) wd91), if_neg (ki h40 (by decide)), if_pos rfl, b1S (v_sees T (by omega) wd40), if_pos h40, if_neg (by decide), b2S (v_node hd), gdT (inI hd (by omega)), tc_nI (by omega), mkV_r26, mkV_t26, b1S (v_variable T hv (by omega) hk), gdT (inI hd (by omega)), mkV_r24, mkV_t24, b1S (v_opens12 T (by omega)), b1S (v_hold hwt), b1S (v_sees T (by omega) wd41), if_neg (ki h40 (by decide)), if_pos rfl]
  rfl
/-! Closing a bracket. -/
theorem clB_L1 (N : Nat) (σ : St) (x1 x2 x3 x4 : Int32) : tModel_closeBracket_L (N + 1) 1 σ x1 x2 x3 x4 = tModel_closeBracket_b1 (tModel_closeBracket_L N) σ x1 x2 x3 x4 := rfl
theorem clB_L2 (N : Nat) (σ : St) (x1 x2 x3 x4 : Int32) : tModel_closeBracket_L (N + 1) 2 σ x1 x2 x3 x4 = tModel_closeBracket_b2 (tModel_closeBracket_L N) σ x1 x2 x3 x4 := rfl
theorem clB_L3 (N : Nat) (σ : St) (x1 x2 x3 x4 : Int32) : tModel_closeBracket_L (N + 1) 3 σ x1 x2 x3 x4 = tModel_closeBracket_b3 (tModel_closeBracket_L N) σ x1 x2 x3 x4 := rfl
theorem clB_L4 (N : Nat) (σ : St) (x1 x2 x3 x4 : Int32) : tModel_closeBracket_L (N + 1) 4 σ x1 x2 x3 x4 = tModel_closeBracket_b4 (tModel_closeBracket_L N) σ x1 x2 x3 x4 := rfl
theorem clB_L5 (N : Nat) (σ : St) (x1 x2 x3 x4 : Int32) : tModel_closeBracket_L (N + 1) 5 σ x1 x2 x3 x4 = tModel_closeBracket_b5 (tModel_closeBracket_L N) σ x1 x2 x3 x4 := rfl
theorem clB_L6 (N : Nat) (σ : St) (x1 x2 x3 x4 : Int32) : tModel_closeBracket_L (N + 1) 6 σ x1 x2 x3 x4 = tModel_closeBracket_b6 (tModel_closeBracket_L N) σ x1 x2 x3 x4 := rfl
theorem addL_L1 (N : Nat) (σ : St) (x1 x2 : Int32) : tModel_addLast_L (N + 1) 1 σ x1 x2 = tModel_addLast_b1 (tModel_addLast_L N) σ x1 x2 := rfl
theorem v_element {x : Int32} (T : TkM h n K p V) (hv : VrM h n K tv v) (ht : t < n) (hk : K t = 1) (hd : nd < 500) : tModel_element (mkV h y q ft A O (nI nd) OC WT so wh oe tw th nx tk os wa wf) (nI t) x = some (nI nd, mkV h y q ft A O (nI (nd + 1)) OC WT (upd so nd 4) (upd wh nd 0) (upd oe nd x) (upd tw nd (-1)) (upd (upd th nd (-1)) nd (fnd (fun i => V (tv i)) v (V t))) (upd nx nd (-1)) (upd (upd tk nd A) nd (nI t)) os wa wf) := by
  unfold tModel_element
  rw [b2S (v_node hd), gdT (inI hd (by omega)), tc_nI (by omega), mkV_r26, mkV_t26, b1S (v_variable T hv ht hk), gdT (inI hd (by omega)), mkV_r24, mkV_t24]
theorem cb6 {N : Nat} {σ : St} {x1 x2 x3 x4 : Int32} : tModel_closeBracket_L (N + 1) 6 σ x1 x2 x3 x4 = tModel_closeBracket_b6 (tModel_closeBracket_L N) σ x1 x2 x3 x4 := rfl
theorem cb_round (T : TkM h n K p V) (ha : a ≤ n) (hw : wa wt = 30) (hk : K a = 41) (hwt : wt < 60) (hoc : oc < 60) : tModel_closeBracket (mkV h y q ft (nI a) (nI (o + 1)) ND (nI (oc + 1)) (nI (wt + 1)) so wh oe tw th nx tk os wa wf) = some (0, mkV h y q ft (nI (a + 1)) (nI o) ND (nI (oc + 1)) (nI wt) so wh oe tw th nx tk os wa wf) := by
  unfold tModel_closeBracket
  rw [mkV_i41, nI_pred, gdT (inI hwt (by omega)), gdT (inI hwt (by omega)), mkV_i40, nI_pred, gdT (inI hoc (by omega)), tc_nI (by omega), mkV_r34, hw, if_neg (by decide)]
  rw [clB_L2 1999]
  unfold tModel_closeBracket_b2
  rw [if_pos rfl, b1S (v_sees T ha wd41), if_pos hk, if_neg (by decide)]
  rw [clB_L4 1998]
  unfold tModel_closeBracket_b4
  rw [clB_L6 1997]
  unfold tModel_closeBracket_b6
  rw [if_neg (by decide), if_neg (by decide), mkV_i41, mkV_i32, mkV_i31, nI_pred, nI_pred, nI_suc, mkV_s41, mkV_s32, mkV_s31]
theorem cb_index (T : TkM h n K p V) (hv : VrM h n K tv v) (ha : a ≤ n) (hw : wa wt = 33) (hf : wf wt = nI t) (ht : t < n) (hkt : K t = 1) (hk : K a = 93) (hwt : wt < 60) (hoc : oc < 60) (hd : nd < 500) : tModel_closeBracket (mkV h y q ft (nI a) (nI (o + 1)) (nI nd) (nI (oc + 1)) (nI (wt + 1)) so wh oe tw th nx tk os wa wf) = some (0, mkV h y q ft (nI (a + 1)) (nI o) (nI (nd + 1)) (nI (oc + 1)) (nI wt) (upd so nd 4) (upd wh nd 0) (upd oe nd (os oc)) (upd tw nd (-1)) (upd (upd th nd (-1)) nd (fnd (fun i => V (tv i)) v (V t))) (upd nx nd (-1)) (upd (upd tk nd (nI (a + 1))) nd (nI t)) (upd os oc (nI nd)) wa wf) := by
  unfold tModel_closeBracket
  rw [mkV_i41, nI_pred, gdT (inI hwt (by omega)), gdT (inI hwt (by omega)), mkV_i40, nI_pred, gdT (inI hoc (by omega)), tc_nI (by omega), mkV_r34, hw, if_neg (by decide), tc_nI (by omega), mkV_r35, hf, mkV_r33]
  rw [clB_L2 1999]
  unfold tModel_closeBracket_b2
  rw [if_neg (by decide)]
  rw [clB_L3 1998]
  unfold tModel_closeBracket_b3
  rw [if_pos rfl, b1S (v_sees T ha wd93), if_pos hk, if_neg (by decide)]
  rw [clB_L4 1997]
  unfold tModel_closeBracket_b4
  rw [clB_L6 1996]
  unfold tModel_closeBracket_b6
  rw [if_neg (by decide), if_pos rfl, mkV_i41, mkV_i32, mkV_i31, mkV_i40, nI_pred, nI_pred, nI_pred, nI_suc, mkV_s41, mkV_s32, mkV_s31, mkV_s40, b2S (v_element T hv ht hkt hd), b1S (v_operand hoc)]
/-- nothing fits -/
theorem cb_bad (T : TkM h n K p V) (ha : a ≤ n) (hwt : wt < 60) (hoc : oc < 60) (hk : (wa wt = 30 ∧ ¬ K a = 41) ∨ (wa wt = 33 ∧ ¬ K a = 93) ∨ (wa wt = 34 ∧ ¬ K a = 44 ∧ ¬ K a = 41)) : tModel_closeBracket (mkV h 0 q ft (nI a) (nI (o + 1)) ND (nI (oc + 1)) (nI (wt + 1)) so wh oe tw th nx tk os wa wf) = some (0, mkV h 3 (nI (p a)) ft (nI a) (nI (o + 1)) ND (nI (oc + 1)) (nI (wt + 1)) so wh oe tw th nx tk os wa wf) := by
  have e : ∀ (N : Nat) (x1 x2 x3 : Int32), tModel_closeBracket_L (N + 2) 5 (mkV h 0 q ft (nI a) (nI (o + 1)) ND (nI (oc + 1)) (nI (wt + 1)) so wh oe tw th nx tk os wa wf) x1 x2 x3 0 = some (0, mkV h 3 (nI (p a)) ft (nI a) (nI (o + 1)) ND (nI (oc + 1)) (nI (wt + 1)) so wh oe tw th nx tk os wa wf) := by
    intro N x1 x2 x3
    rw [clB_L5]
    unfold tModel_closeBracket_b5
    rw [clB_L6]
    unfold tModel_closeBracket_b6
    rw [if_pos rfl, b1S (v_spoil T ha)]
  unfold tModel_closeBracket
  rw [mkV_i41, nI_pred, gdT (inI hwt (by omega)), gdT (inI hwt (by omega)), mkV_i40, nI_pred, gdT (inI hoc (by omega)), tc_nI (by omega), mkV_r34]
  rcases hk with ⟨hw, hk⟩ | ⟨hw, hk⟩ | ⟨hw, hk, hk'⟩
  · rw [hw, if_neg (by decide)]
    rw [clB_L2 1999]
    unfold tModel_closeBracket_b2
    rw [if_pos rfl, b1S (v_sees T ha wd41), if_neg hk, if_pos rfl]
    rw [clB_L3 1998]
    unfold tModel_closeBracket_b3
    rw [if_neg (by decide)]
    exact e _ _ _ _
  · rw [hw, if_neg (by decide)]
    rw [clB_L2 1999]
    unfold tModel_closeBracket_b2
    rw [if_neg (by decide)]
    rw [clB_L3 1998]
    unfold tModel_closeBracket_b3
    rw [if_pos rfl, b1S (v_sees T ha wd93), if_neg hk, if_pos rfl]
    exact e _ _ _ _
  · rw [hw, if_pos rfl, b1S (v_sees T ha wd44), if_neg hk, if_pos rfl, b1S (v_sees T ha wd41), if_neg hk', if_pos rfl]
    rw [clB_L2 1999]
    unfold tModel_closeBracket_b2
    rw [if_neg (by decide)]
    rw [clB_L3 1998]
    unfold tModel_closeBracket_b3
    rw [if_neg (by decide)]
    exact e _ _ _ _
/-- a part is added to a list: the first one, or behind the last -/
theorem v_addFirst {c k : Nat} {x : Int32} (hc : c < 500) (h1 : oe c < 0) (h2 : wh c = nI k) : tModel_addLast (mkV h y q ft A O ND OC WT so wh oe tw th nx tk os wa wf) (nI c) x = some (mkV h y q ft A O ND OC WT so (upd wh c (nI (k + 1))) (upd oe c x) (upd tw c x) th nx tk os wa wf) := by
  unfold tModel_addLast
  rw [gdT (inI hc (by omega)), tc_nI (by omega), mkV_r22, if_neg (fun e => by rw [ti_lt] at h1; rw [ti_le] at e; omega), gdT (inI hc (by omega)), mkV_t22]
  rw [addL_L1 1999]
  unfold tModel_addLast_b1
  rw [gdT (inI hc (by omega)), gdT (inI hc (by omega)), gdT (inI hc (by omega)), tc_nI (by omega), mkV_r23, mkV_t23, mkV_r21, mkV_t21, h2, nI_suc]
theorem v_addNext {c k l : Nat} {x : Int32} (hc : c < 500) (h1 : ¬ oe c < 0) (h2 : wh c = nI k) (h3 : tw c = nI l) (hl : l < 500) : tModel_addLast (mkV h y q ft A O ND OC WT so wh oe tw th nx tk os wa wf) (nI c) x = some (mkV h y q ft A O ND OC WT so (upd wh c (nI (k + 1))) oe (upd tw c x) th (upd nx l x) tk os wa wf) := by
  unfold tModel_addLast
  rw [gdT (inI hc (by omega)), tc_nI (by omega), mkV_r22, if_pos (by rw [ti_lt] at h1; rw [ti_le]; omega), gdT (inI hc (by omega)), mkV_r23, h3, gdT (inI hl (by omega)), tc_nI (by omega), mkV_r25, mkV_t25]
  rw [addL_L1 1999]
  unfold tModel_addLast_b1
  rw [gdT (inI hc (by omega)), gdT (inI hc (by omega)), gdT (inI hc (by omega)), tc_nI (by omega), mkV_r23, mkV_t23, mkV_r21, mkV_t21, h2, nI_suc]
/-- the next value of a call; and its end -/
theorem cb_comma {c : Nat} {wh' oe' tw' nx' : Nat → Int32} (T : TkM h n K p V) (ha : a ≤ n) (hw : wa wt = 34) (hf : wf wt = nI c) (hk : K a = 44) (hwt : wt < 60) (hoc : oc < 60)
    (he : tModel_addLast (mkV h y q ft (nI a) O ND (nI oc) (nI (wt + 1)) so wh oe tw th nx tk os wa wf) (nI c) (os oc) = some (mkV h y q ft (nI a) O ND (nI oc) (nI (wt + 1)) so wh' oe' tw' th nx' tk os wa wf)) : tModel_closeBracket (mkV h y q ft (nI a) O ND (nI (oc + 1)) (nI (wt + 1)) so wh oe tw th nx tk os wa wf) = some (1, mkV h y q ft (nI (a + 1)) O ND (nI oc) (nI (wt + 1)) so wh' oe' tw' th nx' tk os wa wf) := by
  unfold tModel_closeBracket
  rw [mkV_i41, nI_pred, gdT (inI hwt (by omega)), gdT (inI hwt (by omega)), mkV_i40, nI_pred, gdT (inI hoc (by omega)), tc_nI (by omega), mkV_r34, hw, if_pos rfl, b1S (v_sees T ha wd44), if_pos hk, if_neg (by decide), tc_nI (by omega), mkV_r35, hf, mkV_r33]
  rw [clB_L1 1999]
  unfold tModel_closeBracket_b1
  rw [mkV_i40, nI_pred, mkV_s40, b1S he, b1S (v_sees T ha wd41), if_neg (ki hk (by decide)), if_pos rfl, mkV_i31, nI_suc, mkV_s31]
theorem cb_endcall {c : Nat} {wh' oe' tw' nx' : Nat → Int32} (T : TkM h n K p V) (ha : a ≤ n) (hw : wa wt = 34) (hf : wf wt = nI c) (hk : K a = 41) (hwt : wt < 60) (hoc : oc < 60)
    (he : tModel_addLast (mkV h y q ft (nI a) (nI (o + 1)) ND (nI oc) (nI (wt + 1)) so wh oe tw th nx tk os wa wf) (nI c) (os oc) = some (mkV h y q ft (nI a) (nI (o + 1)) ND (nI oc) (nI (wt + 1)) so wh' oe' tw' th nx' tk os wa wf)) : tModel_closeBracket (mkV h y q ft (nI a) (nI (o + 1)) ND (nI (oc + 1)) (nI (wt + 1)) so wh oe tw th nx tk os wa wf) = some (0, mkV h y q ft (nI (a + 1)) (nI o) ND (nI (oc + 1)) (nI wt) so wh' oe' tw' th nx' tk (upd os oc (nI c)) wa wf) := by
  unfold tModel_closeBracket
  rw [mkV_i41, nI_pred, gdT (inI hwt (by omega)), gdT (inI hwt (by omega)), mkV_i40, nI_pred, gdT (inI hoc (by omega)), tc_nI (by omega), mkV_r34, hw, if_pos rfl, b1S (v_sees T ha wd44), if_neg (ki hk (by decide)), if_pos rfl, b1S (v_sees T ha wd41), if_pos hk, if_neg (by decide), tc_nI (by omega), mkV_r35, hf, mkV_r33]
  rw [clB_L1 1999]
  unfold tModel_closeBracket_b1 tModel_closeCall
  rw [mkV_i40, nI_pred, mkV_s40, b1S he, b1S (v_sees T ha wd41), if_pos hk, if_neg (by decide)]
  rw [mkV_i41, nI_pred, gdT (inI hwt (by omega)), mkV_i32, nI_pred, mkV_s41, mkV_s32, tc_nI (by omega), mkV_r35, hf, b1S (v_operand hoc), mkV_i31, nI_suc, mkV_s31, b1S rfl]
end MB
