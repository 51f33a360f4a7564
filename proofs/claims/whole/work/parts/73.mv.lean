/-! The model reads tokens: its small steps. -/
def wdL : List (Int64 × Int32) := [(7630441, 3), (26217, 4), (1702063205, 5), (435610544247, 6), (121437875889522, 7), (1684104562, 8), (500068610672, 9), (40, 40), (41, 41), (91, 91), (93, 93), (123, 123), (125, 125), (44, 44), (59, 59), (61, 61), (45, 45), (33, 33), (126, 126)]
def wd (w : Int64) (c : Int32) : Prop := (w, c) ∈ wdL
theorem wd3 : wd 7630441 3 := by unfold wd wdL; decide
theorem wd4 : wd 26217 4 := by unfold wd wdL; decide
theorem wd5 : wd 1702063205 5 := by unfold wd wdL; decide
theorem wd6 : wd 435610544247 6 := by unfold wd wdL; decide
theorem wd7 : wd 121437875889522 7 := by unfold wd wdL; decide
theorem wd8 : wd 1684104562 8 := by unfold wd wdL; decide
theorem wd9 : wd 500068610672 9 := by unfold wd wdL; decide
theorem wd40 : wd 40 40 := by unfold wd wdL; decide
theorem wd41 : wd 41 41 := by unfold wd wdL; decide
theorem wd91 : wd 91 91 := by unfold wd wdL; decide
theorem wd93 : wd 93 93 := by unfold wd wdL; decide
theorem wd123 : wd 123 123 := by unfold wd wdL; decide
theorem wd125 : wd 125 125 := by unfold wd wdL; decide
theorem wd44 : wd 44 44 := by unfold wd wdL; decide
theorem wd59 : wd 59 59 := by unfold wd wdL; decide
theorem wd61 : wd 61 61 := by unfold wd wdL; decide
theorem wd45 : wd 45 45 := by unfold wd wdL; decide
theorem wd33 : wd 33 33 := by unfold wd wdL; decide
theorem wd126 : wd 126 126 := by unfold wd wdL; decide
/-- the tokens as the model has them -/
def TkM (h : St) (n : Nat) (K : Nat → Int32) (p : Nat → Nat) (V : Nat → Int64) : Prop :=
  (n ≤ 220 ∧ ∀ i, n ≤ i → K i = 0) ∧ (∀ i, i ≤ n → h.2.2.1 17 i = nI (p i)) ∧
  (∀ i, i ≤ n → (h.2.2.1 16 i = 1 ↔ K i = 1) ∧ (h.2.2.1 16 i = 2 ↔ K i = 2) ∧ (h.2.2.1 16 i = 0 ↔ K i = 0)) ∧
  (∀ i, i < n → K i = 2 → h.2.2.1 19 i = (V i).toInt32 ∧ 0 ≤ (V i).toInt ∧ (V i).toInt ≤ 2147483647) ∧
  (∀ i w c, i ≤ n → wd w c → tModel_is h (nI i) w = some (if K i = c then 1 else 0)) ∧
  (∀ i j, i < n → j < n → K i = 1 → K j = 1 → tModel_areAlike h (nI i) (nI j) = some (if V i = V j then 1 else 0)) ∧
  (∀ i, i ≤ n → tModel_strength h (nI i) = some (nI (sth (K i)))) ∧
  (∀ i, i < n → (0 < sth (K i) ∨ K i = 33 ∨ K i = 126) → ∃ s, tModel_sign h (nI (p i)) = some s ∧ s + (if h.2.2.1 18 i = 2 then 256 else 0) = K i)
def SameT (h σ : St) : Prop := σ.1 27 = h.1 27 ∧ σ.2.2.1 15 = h.2.2.1 15 ∧ σ.2.2.1 16 = h.2.2.1 16 ∧ σ.2.2.1 17 = h.2.2.1 17 ∧ σ.2.2.1 18 = h.2.2.1 18 ∧ σ.2.2.1 19 = h.2.2.1 19
theorem is_L_congr {h σ : St} (s : SameT h σ) : ∀ (n lab : Nat) (x1 x2 x3 : Int32) (y1 : Int64), tModel_is_L n lab σ x1 x2 x3 y1 = tModel_is_L n lab h x1 x2 x3 y1 := by
  intro n
  induction n with
  | zero => intro lab x1 x2 x3 y1; rfl
  | succ n ih =>
    intro lab x1 x2 x3 y1
    unfold tModel_is_L
    split
    · simp only [tModel_is_b1, s.2.1, s.2.2.2.1, s.2.2.2.2.1, ih]
    · simp only [tModel_is_b2, ih]
    · simp only [tModel_is_b3, ih]
    · simp only [tModel_is_b4, ih]
    · rfl
theorem is_congr {h σ : St} (s : SameT h σ) (x : Int32) (w : Int64) : tModel_is σ x w = tModel_is h x w := by
  unfold tModel_is
  exact is_L_congr s _ _ _ _ _ _
theorem alike_L_congr {h σ : St} (s : SameT h σ) : ∀ (n lab : Nat) (x1 x2 x3 x4 : Int32), tModel_areAlike_L n lab σ x1 x2 x3 x4 = tModel_areAlike_L n lab h x1 x2 x3 x4 := by
  intro n
  induction n with
  | zero => intro lab x1 x2 x3 x4; rfl
  | succ n ih =>
    intro lab x1 x2 x3 x4
    unfold tModel_areAlike_L
    split
    · simp only [tModel_areAlike_b1, ih]
    · simp only [tModel_areAlike_b2, s.2.1, s.2.2.2.1, s.2.2.2.2.1, ih]
    · simp only [tModel_areAlike_b3, ih]
    · rfl
theorem alike_congr {h σ : St} (s : SameT h σ) (x y : Int32) : tModel_areAlike σ x y = tModel_areAlike h x y := by
  unfold tModel_areAlike
  rw [s.2.2.2.2.1, alike_L_congr s, alike_L_congr s]
theorem sign_congr {h σ : St} (s : SameT h σ) (x : Int32) : tModel_sign σ x = tModel_sign h x := by
  unfold tModel_sign
  rw [s.1, s.2.1]
def mth1 (x1 : Int32) : Int32 := if x1 = 60 then 4 else if x1 = 62 then 4 else if x1 = 43 then 5 else if x1 = 45 then 5 else if x1 = 42 then 6 else if x1 = 47 then 6 else if x1 = 37 then 6 else 0
def mth (a1 a2 : Int32) : Int32 := if a1 = 124 then 1 else if a1 = 38 then 2 else if a2 = 61 then if a1 = 61 then 3 else if a1 = 33 then 3 else mth1 a1 else mth1 a1
theorem mth1_L (σ : St) (n : Nat) (x : Int32) : tModel_strengthOf_L (n + 1) 1 σ x = some (mth1 x) := by
  show tModel_strengthOf_b1 (tModel_strengthOf_L n) σ x = _
  unfold tModel_strengthOf_b1 mth1
  by_cases h60 : x = 60
  · rw [if_pos h60, if_pos h60]
  rw [if_neg h60, if_neg h60]
  by_cases h62 : x = 62
  · rw [if_pos h62, if_pos h62]
  rw [if_neg h62, if_neg h62]
  by_cases h43 : x = 43
  · rw [if_pos h43, if_pos h43]
  rw [if_neg h43, if_neg h43]
  by_cases h45 : x = 45
  · rw [if_pos h45, if_pos h45]
  rw [if_neg h45, if_neg h45]
  by_cases h42 : x = 42
  · rw [if_pos h42, if_pos h42]
  rw [if_neg h42, if_neg h42]
  by_cases h47 : x = 47
  · rw [if_pos h47, if_pos h47]
  rw [if_neg h47, if_neg h47]
  by_cases h37 : x = 37
  · rw [if_pos h37, if_pos h37]
  rw [if_neg h37, if_neg h37]
theorem mth_c (σ : St) (a b : Int32) : tModel_strengthOf σ a b = some (mth a b) := by
  unfold tModel_strengthOf mth
  rw [mth1_L σ 1999]
  by_cases h124 : a = 124
  · rw [if_pos h124, if_pos h124]
  rw [if_neg h124, if_neg h124]
  by_cases h38 : a = 38
  · rw [if_pos h38, if_pos h38]
  rw [if_neg h38, if_neg h38]
  by_cases hb : b = 61
  · rw [if_pos hb, if_pos hb]
    by_cases h61 : a = 61
    · rw [if_pos h61, if_pos h61]
    rw [if_neg h61, if_neg h61]
    by_cases h33 : a = 33
    · rw [if_pos h33, if_pos h33]
    rw [if_neg h33, if_neg h33]
  · rw [if_neg hb, if_neg hb]
theorem strength_congr {h σ : St} (s : SameT h σ) (x : Int32) : tModel_strength σ x = tModel_strength h x := by
  unfold tModel_strength
  simp only [s.2.2.1, s.2.2.2.1, s.2.2.2.2.1, sign_congr s, mth_c]
theorem tkm_keep {h σ : St} {n : Nat} {K : Nat → Int32} {p : Nat → Nat} {V : Nat → Int64} (s : SameT h σ) (T : TkM h n K p V) : TkM σ n K p V := by
  obtain ⟨t0, t1, t2, t3, t4, t5, t6, t7⟩ := T
  refine ⟨t0, fun i hi => ?_, fun i hi => ?_, fun i hi => ?_, fun i w c hi hw => ?_, fun i j hi hj h1 h2 => ?_, fun i hi => ?_, fun i hi hk => ?_⟩
  · rw [s.2.2.2.1]; exact t1 i hi
  · rw [s.2.2.1]; exact t2 i hi
  · rw [s.2.2.2.2.2]; exact t3 i hi
  · rw [is_congr s]; exact t4 i w c hi hw
  · rw [alike_congr s]; exact t5 i j hi hj h1 h2
  · rw [strength_congr s]; exact t6 i hi
  · rw [sign_congr s, s.2.2.2.2.1]; exact t7 i hi hk
def ftk (n f : Nat) : Int32 := if f ≤ n then nI f else -1
section MV
variable {h : St} {n : Nat} {K : Nat → Int32} {p : Nat → Nat} {V : Nat → Int64} {y q ft A O ND OC WT : Int32} {a o nd oc wt f t : Nat} {so wh oe tw th nx tk os wa wf : Nat → Int32}
theorem samev : SameT h (mkV h y q ft A O ND OC WT so wh oe tw th nx tk os wa wf) := ⟨rfl, rfl, rfl, rfl, rfl, rfl⟩
theorem v_is {w : Int64} {c : Int32} (T : TkM h n K p V) (ha : a ≤ n) (hw : wd w c) : tModel_is (mkV h y q ft A O ND OC WT so wh oe tw th nx tk os wa wf) (nI a) w = some (if K a = c then 1 else 0) := by
  rw [is_congr samev]; exact T.2.2.2.2.1 a w c ha hw
theorem nz_if {c : Prop} [Decidable c] : nZ (if c then 1 else 0) = true := by split <;> rfl
theorem v_sees {w : Int64} {c : Int32} (T : TkM h n K p V) (ha : a ≤ n) (hw : wd w c) : tModel_sees (mkV h y q ft (nI a) O ND OC WT so wh oe tw th nx tk os wa wf) w = some (if K a = c then 1 else 0) := by
  unfold tModel_sees
  rw [mkV_i31, b1S (v_is T ha hw), gdT nz_if]
theorem v_spoil (T : TkM h n K p V) (ha : a ≤ n) : tModel_spoil (mkV h 0 q ft (nI a) O ND OC WT so wh oe tw th nx tk os wa wf) = some (mkV h 3 (nI (p a)) ft (nI a) O ND OC WT so wh oe tw th nx tk os wa wf) := by
  have hn := T.1.1
  unfold tModel_spoil tModel_blame
  simp only [mkV_i31, mkV_r17, mkV_i29]
  rw [gdT (inI (by omega) (by omega)), tc_nI (by omega), T.2.1 a ha, if_pos trivial, b1_id, mkV_s29, mkV_s30]
theorem v_need {w : Int64} {c : Int32} (T : TkM h n K p V) (ha : a ≤ n) (hw : wd w c) (hk : K a = c) : tModel_need (mkV h 0 q ft (nI a) O ND OC WT so wh oe tw th nx tk os wa wf) w = some (mkV h 0 q ft (nI (a + 1)) O ND OC WT so wh oe tw th nx tk os wa wf) := by
  unfold tModel_need
  rw [b1S (v_sees T ha hw), if_pos hk, if_neg (by decide), mkV_i29, if_pos rfl, mkV_i31, nI_suc, mkV_s31]
theorem v_needN {w : Int64} {c : Int32} (T : TkM h n K p V) (ha : a ≤ n) (hw : wd w c) (hk : ¬ K a = c) : tModel_need (mkV h 0 q ft (nI a) O ND OC WT so wh oe tw th nx tk os wa wf) w = some (mkV h 3 (nI (p a)) ft (nI a) O ND OC WT so wh oe tw th nx tk os wa wf) := by
  unfold tModel_need
  rw [b1S (v_sees T ha hw), if_neg hk, if_pos rfl, b1_id, v_spoil T ha]
theorem v_opens (ho : o < 12) : tModel_opens (mkV h 0 q ft (nI a) (nI o) ND OC WT so wh oe tw th nx tk os wa wf) = some (mkV h 0 q ft (nI (a + 1)) (nI (o + 1)) ND OC WT so wh oe tw th nx tk os wa wf) := by
  unfold tModel_opens
  rw [mkV_i32, if_neg (show ¬ nI o = 12 from fun e => absurd (nI_inj (b := 12) (by omega) (by omega) e) (by omega))]
  show tModel_opens_b1 (tModel_opens_L 1999) _ = _
  unfold tModel_opens_b1
  rw [mkV_i29, if_pos rfl, mkV_i32, mkV_i31, nI_suc, nI_suc, mkV_s32, mkV_s31]
theorem v_opens12 (T : TkM h n K p V) (ha : a ≤ n) : tModel_opens (mkV h 0 q ft (nI a) (nI 12) ND OC WT so wh oe tw th nx tk os wa wf) = some (mkV h 2 (nI (p a)) ft (nI a) (nI 13) ND OC WT so wh oe tw th nx tk os wa wf) := by
  have hn := T.1.1
  unfold tModel_opens tModel_blame
  simp only [mkV_i31, mkV_r17, mkV_i29, mkV_i32]
  rw [if_pos (show nI 12 = 12 from rfl), gdT (inI (by omega) (by omega)), tc_nI (by omega), T.2.1 a ha, if_pos trivial, b1S rfl]
  show tModel_opens_b1 (tModel_opens_L 1999) _ = _
  unfold tModel_opens_b1
  rw [mkV_s29, mkV_s30, mkV_i29, if_neg (by decide), mkV_i32, nI_suc, mkV_s32]
theorem v_node {k v x z : Int32} (hd : nd < 500) : tModel_node (mkV h y q ft A O (nI nd) OC WT so wh oe tw th nx tk os wa wf) k v x z = some (nI nd, mkV h y q ft A O (nI (nd + 1)) OC WT (upd so nd k) (upd wh nd v) (upd oe nd x) (upd tw nd z) (upd th nd (-1)) (upd nx nd (-1)) (upd tk nd A) os wa wf) := by
  unfold tModel_node
  simp only [mkV_i34, mkV_i31, mkV_r20, mkV_r21, mkV_r22, mkV_r23, mkV_r24, mkV_r25, mkV_r26, mkV_t20, mkV_t21, mkV_t22, mkV_t23, mkV_t24, mkV_t25, mkV_t26, nI_suc, nI_pred, mkV_s34, gdT (inI hd (show 500 < 2147483648 by omega)), tc_nI (show nd < 2147483648 by omega)]
theorem v_operand {x : Int32} (hd : oc < 60) : tModel_operand (mkV h y q ft A O ND (nI oc) WT so wh oe tw th nx tk os wa wf) x = some (mkV h y q ft A O ND (nI (oc + 1)) WT so wh oe tw th nx tk (upd os oc x) wa wf) := by
  unfold tModel_operand
  simp only [mkV_i40, mkV_r33, mkV_t33, mkV_s40, nI_suc, gdT (inI hd (show 60 < 2147483648 by omega)), tc_nI (show oc < 2147483648 by omega)]
theorem v_hold {x z : Int32} (hd : wt < 60) : tModel_hold (mkV h y q ft A O ND OC (nI wt) so wh oe tw th nx tk os wa wf) x z = some (mkV h y q ft A O ND OC (nI (wt + 1)) so wh oe tw th nx tk os (upd wa wt x) (upd wf wt z)) := by
  unfold tModel_hold
  simp only [mkV_i41, mkV_r34, mkV_r35, mkV_t34, mkV_t35, mkV_s41, nI_suc, gdT (inI hd (show 60 < 2147483648 by omega)), tc_nI (show wt < 2147483648 by omega)]
theorem v_notName (ht : t ≤ n) (hn : n ≤ 220) : tModel_notName (mkV h y q (ftk n f) A O ND OC WT so wh oe tw th nx tk os wa wf) (nI t) = some (mkV h y q (ftk n (min f t)) A O ND OC WT so wh oe tw th nx tk os wa wf) := by
  unfold tModel_notName
  simp only [mkV_i33, mkV_s33]
  by_cases hf : f ≤ n
  · rw [ftk, if_pos hf, if_neg (nI_nneg (by omega))]
    by_cases hft : f ≤ t
    · rw [if_pos ((nI_leI (by omega) (by omega)).mpr hft), show min f t = f by omega, ftk, if_pos hf]
    · rw [if_neg (fun e => absurd ((nI_leI (by omega) (by omega)).mp e) hft), show min f t = t by omega, ftk, if_pos ht]
  · rw [show ftk n f = -1 from if_neg hf, if_pos neg1_lt, show min f t = t by omega, ftk, if_pos ht]
/-- the variables as the model has them: tokens of names -/
def VrM (h : St) (n : Nat) (K : Nat → Int32) (tv : Nat → Nat) (v : Nat) : Prop := h.1 38 = nI v ∧ v ≤ 119 ∧ ∀ k, k < v → h.2.2.1 31 k = nI (tv k) ∧ tv k < n ∧ K (tv k) = 1
theorem variable_L {σ : St} {tv : Nat → Nat} {v : Nat} (T : TkM σ n K p V) (hv : VrM σ n K tv v) (ht : t < n) (hk : K t = 1) : ∀ (j k N : Nat), k + j = v → 2 * j < N → tModel_variable_L N 1 σ (nI t) (fnd (fun i => V (tv i)) k (V t)) (nI k) = some (fnd (fun i => V (tv i)) v (V t)) := by
  have hn := T.1.1
  intro j
  induction j with
  | zero =>
    intro k N hkj hN
    obtain ⟨N, rfl⟩ : ∃ i, N = i + 1 := ⟨N - 1, by omega⟩
    obtain rfl : k = v := by omega
    show tModel_variable_b1 _ σ _ _ _ = _
    unfold tModel_variable_b1
    rw [hv.1, if_pos ((nI_leI (by have := hv.2.1; omega) (by have := hv.2.1; omega)).mpr (Nat.le_refl _))]
  | succ j ih =>
    intro k N hkj hN
    obtain ⟨N, rfl⟩ : ∃ i, N = i + 2 := ⟨N - 2, by omega⟩
    obtain ⟨v1, v2, v3⟩ := hv.2.2 k (by omega)
    have hvb := hv.2.1
    show tModel_variable_b1 _ σ _ _ _ = _
    unfold tModel_variable_b1
    rw [hv.1, if_neg (fun e => absurd ((nI_leI (by omega) (by omega)).mp e) (by omega)), gdT (inI (by omega) (by omega)), tc_nI (by omega), v1, b1S (T.2.2.2.2.2.1 (tv k) t v2 ht v3 hk)]
    have e := ih (k + 1) N (by omega) (by omega)
    rw [show fnd (fun i => V (tv i)) (k + 1) (V t) = if V (tv k) = V t then nI k else fnd (fun i => V (tv i)) k (V t) from rfl] at e
    by_cases hx : V (tv k) = V t
    · rw [if_pos hx, if_neg (by decide)]
      rw [if_pos hx] at e
      show tModel_variable_b2 _ σ _ _ _ = _
      unfold tModel_variable_b2
      rw [nI_suc]; exact e
    · rw [if_neg hx, if_pos rfl]
      rw [if_neg hx] at e
      show tModel_variable_b2 _ σ _ _ _ = _
      unfold tModel_variable_b2
      rw [nI_suc]; exact e
theorem variable_c {σ : St} {tv : Nat → Nat} {v : Nat} (T : TkM σ n K p V) (hv : VrM σ n K tv v) (ht : t < n) (hk : K t = 1) : tModel_variable σ (nI t) = some (fnd (fun i => V (tv i)) v (V t)) := by
  unfold tModel_variable
  exact variable_L T hv ht hk v 0 2000 (by omega) (by have := hv.2.1; omega)
theorem v_variable {tv : Nat → Nat} {v : Nat} (T : TkM h n K p V) (hv : VrM h n K tv v) (ht : t < n) (hk : K t = 1) : tModel_variable (mkV h y q ft A O ND OC WT so wh oe tw th nx tk os wa wf) (nI t) = some (fnd (fun i => V (tv i)) v (V t)) :=
  variable_c (σ := mkV h y q ft A O ND OC WT so wh oe tw th nx tk os wa wf) (tkm_keep samev T) hv ht hk
theorem v_strength (T : TkM h n K p V) (ha : a ≤ n) : tModel_strength (mkV h y q ft A O ND OC WT so wh oe tw th nx tk os wa wf) (nI a) = some (nI (sth (K a))) := by
  rw [strength_congr samev]; exact T.2.2.2.2.2.2.1 a ha
/-! Settling. -/
theorem settle_L1 (N : Nat) (σ : St) (x1 x2 x3 x4 x5 x6 x7 : Int32) : tModel_settle_L (N + 1) 1 σ x1 x2 x3 x4 x5 x6 x7 = tModel_settle_b1 (tModel_settle_L N) σ x1 x2 x3 x4 x5 x6 x7 := rfl
theorem settle_L2 (N : Nat) (σ : St) (x1 x2 x3 x4 x5 x6 x7 : Int32) : tModel_settle_L (N + 1) 2 σ x1 x2 x3 x4 x5 x6 x7 = tModel_settle_b2 (tModel_settle_L N) σ x1 x2 x3 x4 x5 x6 x7 := rfl
theorem settle_L3 (N : Nat) (σ : St) (x1 x2 x3 x4 x5 x6 x7 : Int32) : tModel_settle_L (N + 1) 3 σ x1 x2 x3 x4 x5 x6 x7 = tModel_settle_b3 (tModel_settle_L N) σ x1 x2 x3 x4 x5 x6 x7 := rfl
theorem settle_L4 (N : Nat) (σ : St) (x1 x2 x3 x4 x5 x6 x7 : Int32) : tModel_settle_L (N + 1) 4 σ x1 x2 x3 x4 x5 x6 x7 = tModel_settle_b4 (tModel_settle_L N) σ x1 x2 x3 x4 x5 x6 x7 := rfl
theorem settle_L5 (N : Nat) (σ : St) (x1 x2 x3 x4 x5 x6 x7 : Int32) : tModel_settle_L (N + 1) 5 σ x1 x2 x3 x4 x5 x6 x7 = tModel_settle_b5 (tModel_settle_L N) σ x1 x2 x3 x4 x5 x6 x7 := rfl
theorem settle_L6 (N : Nat) (σ : St) (x1 x2 x3 x4 x5 x6 x7 : Int32) : tModel_settle_L (N + 1) 6 σ x1 x2 x3 x4 x5 x6 x7 = tModel_settle_b6 (tModel_settle_L N) σ x1 x2 x3 x4 x5 x6 x7 := rfl
theorem settle_L7 (N : Nat) (σ : St) (x1 x2 x3 x4 x5 x6 x7 : Int32) : tModel_settle_L (N + 1) 7 σ x1 x2 x3 x4 x5 x6 x7 = tModel_settle_b7 (tModel_settle_L N) σ x1 x2 x3 x4 x5 x6 x7 := rfl
theorem settle_L8 (N : Nat) (σ : St) (x1 x2 x3 x4 x5 x6 x7 : Int32) : tModel_settle_L (N + 1) 8 σ x1 x2 x3 x4 x5 x6 x7 = tModel_settle_b8 (tModel_settle_L N) σ x1 x2 x3 x4 x5 x6 x7 := rfl
theorem settle_L9 (N : Nat) (σ : St) (x1 x2 x3 x4 x5 x6 x7 : Int32) : tModel_settle_L (N + 1) 9 σ x1 x2 x3 x4 x5 x6 x7 = tModel_settle_b9 (tModel_settle_L N) σ x1 x2 x3 x4 x5 x6 x7 := rfl
theorem settle_L10 (N : Nat) (σ : St) (x1 x2 x3 x4 x5 x6 x7 : Int32) : tModel_settle_L (N + 1) 10 σ x1 x2 x3 x4 x5 x6 x7 = tModel_settle_b10 (tModel_settle_L N) σ x1 x2 x3 x4 x5 x6 x7 := rfl
def SSt (least : Int32) (k : Nat) (m m' : St) : Prop := ∀ N, tModel_settle_L (N + 9 * k) 1 m least 1 0 0 0 0 0 = tModel_settle_L N 1 m' least 1 0 0 0 0 0
theorem sst_refl {least : Int32} {m : St} : SSt least 0 m m := fun _ => rfl
theorem sst_trans {least : Int32} {i j : Nat} {m1 m2 m3 : St} (h1 : SSt least i m1 m2) (h2 : SSt least j m2 m3) : SSt least (i + j) m1 m3 := fun N => by
  rw [show N + 9 * (i + j) = (N + 9 * j) + 9 * i by omega, h1, h2]
theorem s_before {least : Int32} (T : TkM h n K p V) (h1 : wa wt = 31) (h2 : wf wt = nI t) (ht : t < n) (hk : K t = 45 ∨ K t = 33 ∨ K t = 126) (hd : nd < 500) (hoc : oc < 59) (hwt : wt < 60) :
    SSt least 1 (mkV h y q ft A (nI (o + 1)) (nI nd) (nI (oc + 1)) (nI (wt + 1)) so wh oe tw th nx tk os wa wf) (mkV h y q ft A (nI o) (nI (nd + 1)) (nI (oc + 1)) (nI wt) (upd so nd 6) (upd wh nd (K t)) (upd oe nd (os oc)) (upd tw nd (-1)) (upd th nd (-1)) (upd nx nd (-1)) (upd tk nd A) (upd os oc (nI nd)) wa wf) := by
  intro N
  rw [show N + 9 * 1 = N + 8 + 1 from rfl]
  have hn := T.1.1
  obtain ⟨s, hs1, hs2⟩ := T.2.2.2.2.2.2.2 t ht (by rcases hk with h | h | h <;> rw [h] <;> decide)
  rw [settle_L1]
  unfold tModel_settle_b1
  rw [if_neg (by decide), mkV_i41, if_neg (show ¬ nI (wt + 1) ≤ 0 from nI_nle (by omega) (by omega)), nI_pred, gdT (inI hwt (by omega)), tc_nI (by omega), mkV_r34, h1]
  rw [settle_L2]
  unfold tModel_settle_b2
  rw [mkV_i41, if_neg (show ¬ nI (wt + 1) ≤ 0 from nI_nle (by omega) (by omega)), nI_pred, gdT (inI hwt (by omega)), tc_nI (by omega), mkV_r35, h2]
  rw [settle_L3]
  unfold tModel_settle_b3
  rw [if_pos rfl]
  rw [settle_L4]
  unfold tModel_settle_b4
  rw [settle_L6]
  unfold tModel_settle_b6
  rw [if_neg (by decide), mkV_i40, nI_pred, gdT (inI (by omega) (by omega)), if_pos rfl, tc_nI (by omega), mkV_i41, mkV_i32, nI_pred, nI_pred, mkV_s41, mkV_s32, mkV_r33]
  rw [settle_L7]
  unfold tModel_settle_b7
  rw [gdT (inI (by omega) (by omega)), tc_nI (by omega), mkV_r17, T.2.1 t (by omega), show nI (oc + 1) - 1 = nI oc from nI_pred _, mkV_s40, b1S ((sign_congr samev _).trans hs1), gdT (inI (by omega) (by omega)), mkV_r18]
  have e8 : ∀ z : Int32, s + z = K t → tModel_settle_L (N + 3) 8 (mkV h y q ft A (nI o) (nI nd) (nI oc) (nI wt) so wh oe tw th nx tk os wa wf) least 1 31 (os oc) z s 0 = tModel_settle_L N 1 (mkV h y q ft A (nI o) (nI (nd + 1)) (nI (oc + 1)) (nI wt) (upd so nd 6) (upd wh nd (K t)) (upd oe nd (os oc)) (upd tw nd (-1)) (upd th nd (-1)) (upd nx nd (-1)) (upd tk nd A) (upd os oc (nI nd)) wa wf) least 1 0 0 0 0 0 := by
    intro z hz
    rw [settle_L8]
    unfold tModel_settle_b8
    rw [if_pos rfl, b2S (v_node hd), hz]
    rw [settle_L9]
    unfold tModel_settle_b9
    rw [b1S (v_operand (by omega))]
    rfl
  by_cases h18 : h.2.2.1 18 t = 2
  · rw [if_pos h18]; rw [if_pos h18] at hs2
    exact e8 256 hs2
  · rw [if_neg h18]; rw [if_neg h18] at hs2
    exact e8 0 hs2
theorem s_between {least : Int32} (T : TkM h n K p V) (h1 : wa wt = 32) (h2 : wf wt = nI t) (ht : t < n) (hk : 0 < sth (K t)) (hl : ¬ nI (sth (K t)) < least) (hd : nd < 500) (hoc : oc < 58) (hwt : wt < 60) :
    SSt least 1 (mkV h y q ft A (nI (o + 1)) (nI nd) (nI (oc + 2)) (nI (wt + 1)) so wh oe tw th nx tk os wa wf) (mkV h y q ft A (nI o) (nI (nd + 1)) (nI (oc + 1)) (nI wt) (upd so nd 7) (upd wh nd (K t)) (upd oe nd (os oc)) (upd tw nd (os (oc + 1))) (upd th nd (-1)) (upd nx nd (-1)) (upd tk nd A) (upd os oc (nI nd)) wa wf) := by
  intro N
  rw [show N + 9 * 1 = N + 8 + 1 from rfl]
  have hn := T.1.1
  obtain ⟨s, hs1, hs2⟩ := T.2.2.2.2.2.2.2 t ht (Or.inl hk)
  rw [settle_L1]
  unfold tModel_settle_b1
  rw [if_neg (by decide), mkV_i41, if_neg (show ¬ nI (wt + 1) ≤ 0 from nI_nle (by omega) (by omega)), nI_pred, gdT (inI hwt (by omega)), tc_nI (by omega), mkV_r34, h1]
  rw [settle_L2]
  unfold tModel_settle_b2
  rw [mkV_i41, if_neg (show ¬ nI (wt + 1) ≤ 0 from nI_nle (by omega) (by omega)), nI_pred, gdT (inI hwt (by omega)), tc_nI (by omega), mkV_r35, h2]
  rw [settle_L3]
  unfold tModel_settle_b3
  rw [if_neg (by decide), if_pos rfl, b1S (v_strength T (by omega)), if_neg hl]
  rw [settle_L4]
  unfold tModel_settle_b4
  rw [settle_L6]
  unfold tModel_settle_b6
  rw [if_neg (by decide), mkV_i40, show nI (oc + 2) - 1 = nI (oc + 1) from nI_pred _, gdT (inI (by omega) (by omega)), if_neg (by decide), tc_nI (by omega), mkV_i41, mkV_i32, nI_pred, nI_pred, mkV_s41, mkV_s32, mkV_r33]
  rw [settle_L7]
  unfold tModel_settle_b7
  rw [gdT (inI (by omega) (by omega)), tc_nI (by omega), mkV_r17, T.2.1 t (by omega), show nI (oc + 2) - 2 = nI oc from nI_sub (a := oc + 2) (b := 2) (by omega), mkV_s40, b1S ((sign_congr samev _).trans hs1), gdT (inI (by omega) (by omega)), mkV_r18]
  have e8 : ∀ z : Int32, s + z = K t → tModel_settle_L (N + 3) 8 (mkV h y q ft A (nI o) (nI nd) (nI oc) (nI wt) so wh oe tw th nx tk os wa wf) least 1 32 (os (oc + 1)) z s 0 = tModel_settle_L N 1 (mkV h y q ft A (nI o) (nI (nd + 1)) (nI (oc + 1)) (nI wt) (upd so nd 7) (upd wh nd (K t)) (upd oe nd (os oc)) (upd tw nd (os (oc + 1))) (upd th nd (-1)) (upd nx nd (-1)) (upd tk nd A) (upd os oc (nI nd)) wa wf) least 1 0 0 0 0 0 := by
    intro z hz
    rw [settle_L8]
    unfold tModel_settle_b8
    rw [if_neg (by decide), mkV_i40, gdT (inI (by omega) (by omega)), tc_nI (by omega), mkV_r33, b2S (v_node hd), hz]
    rw [settle_L9]
    unfold tModel_settle_b9
    rw [b1S (v_operand (by omega))]
    rfl
  by_cases h18 : h.2.2.1 18 t = 2
  · rw [if_pos h18]; rw [if_pos h18] at hs2
    exact e8 256 hs2
  · rw [if_neg h18]; rw [if_neg h18] at hs2
    exact e8 0 hs2
/-- what waits on top is not settled at this strength -/
def StpW (K : Nat → Int32) (n : Nat) (least : Int32) (wt : Nat) (wa wf : Nat → Int32) : Prop := wt = 0 ∨ ∃ j, wt = j + 1 ∧ (wa j = 30 ∨ wa j = 33 ∨ wa j = 34 ∨ (wa j = 32 ∧ ∃ t, t < n ∧ wf j = nI t ∧ nI (sth (K t)) < least))
theorem s_end {N : Nat} {σ : St} {least x2 x3 : Int32} : tModel_settle_L (N + 4) 5 σ least x2 x3 0 0 0 0 = some σ := rfl
theorem s_stop {least : Int32} {N : Nat} (T : TkM h n K p V) (hwt : wt < 60) (hs : StpW K n least wt wa wf) : tModel_settle_L (N + 7) 1 (mkV h y q ft A O ND OC (nI wt) so wh oe tw th nx tk os wa wf) least 1 0 0 0 0 0 = some (mkV h y q ft A O ND OC (nI wt) so wh oe tw th nx tk os wa wf) := by
  have hn := T.1.1
  rw [settle_L1]
  unfold tModel_settle_b1
  rw [if_neg (by decide), mkV_i41]
  rcases hs with rfl | ⟨j, rfl, hs⟩
  · rw [if_pos (by decide)]
    rw [settle_L2]
    unfold tModel_settle_b2
    rw [mkV_i41, if_pos (by decide)]
    rw [settle_L3]
    unfold tModel_settle_b3
    rw [if_neg (by decide), if_neg (by decide)]
    exact s_end
  · rw [if_neg (show ¬ nI (j + 1) ≤ 0 from nI_nle (by omega) (by omega)), nI_pred, gdT (inI (by omega) (by omega)), tc_nI (by omega), mkV_r34]
    rw [settle_L2]
    unfold tModel_settle_b2
    rw [mkV_i41, if_neg (show ¬ nI (j + 1) ≤ 0 from nI_nle (by omega) (by omega)), nI_pred, gdT (inI (by omega) (by omega)), tc_nI (by omega), mkV_r35]
    rw [settle_L3]
    unfold tModel_settle_b3
    rcases hs with hs | hs | hs | ⟨hs, t, ht, h2, h3⟩
    · rw [hs, if_neg (by decide), if_neg (by decide)]; exact s_end
    · rw [hs, if_neg (by decide), if_neg (by decide)]; exact s_end
    · rw [hs, if_neg (by decide), if_neg (by decide)]; exact s_end
    · rw [hs, if_neg (by decide), if_pos rfl, h2, b1S (v_strength T (by omega)), if_pos h3]; exact s_end
theorem v_settle {least : Int32} {k : Nat} {m1 : St} (T : TkM h n K p V) (hwt : wt < 60) (hs : StpW K n least wt wa wf) (h1 : SSt least k m1 (mkV h y q ft A O ND OC (nI wt) so wh oe tw th nx tk os wa wf)) (hk : k ≤ 100) : tModel_settle m1 least = some (mkV h y q ft A O ND OC (nI wt) so wh oe tw th nx tk os wa wf) := by
  unfold tModel_settle
  rw [show 2000 = (1993 - 9 * k) + 7 + 9 * k by omega, h1, s_stop T hwt hs]
end MV
