/-! One step of the class's machine, instruction by instruction. -/
theorem b1_id {α : Type} (o : Option α) : b1 o (fun u => some u) = o := by cases o <;> rfl
theorem b1_id2 {α : Type} (o : Option α) : b1 o some = o := by cases o <;> rfl
def CSteps : Nat → St → St → Prop
  | 0, c, c' => c = c'
  | k + 1, c, c' => c.1 21 = 3 ∧ ∃ c1, tMachine_step c = some c1 ∧ CSteps k c1 c'
theorem CSteps.trans {i : Nat} : ∀ {j : Nat} {a b c : St}, CSteps i a b → CSteps j b c → CSteps (i + j) a c := by
  induction i with
  | zero => intro j a b c h1 h2; cases h1; rw [Nat.zero_add]; exact h2
  | succ i ih =>
    intro j a b c h1 h2
    obtain ⟨g1, c1, g2, g3⟩ := h1
    rw [Nat.succ_add]
    exact ⟨g1, c1, g2, ih g3 h2⟩
theorem CSteps.one {a b : St} (h1 : a.1 21 = 3) (h2 : tMachine_step a = some b) : CSteps 1 a b := ⟨h1, b, h2, rfl⟩
def wo (k a b : Int32) : Int32 := if k = 37 then (if b = 0 then a else a - a / b * b) else if k = 42 then a * b else if k = 43 then a + b else if k = 45 then a - b else if k = 47 then (if b = 0 then -1 else a / b) else if k = 60 then (if b ≤ a then 0 else 1) else if k = 62 then (if a ≤ b then 0 else 1) else if k = 316 then (if b < a then 0 else 1) else if k = 317 then (if a = b then 1 else 0) else if k = 318 then (if a < b then 0 else 1) else (if a = b then 0 else 1)
theorem nz0T {y : Int32} (h : ¬ y = 0) : nz0 y = true := by simp [nz0, h]
theorem wo_c (σ : St) (k a b : Int32) : tMachine_workedOut σ k a b = some (wo k a b) := by
  unfold tMachine_workedOut wo
  have t0 : tMachine_truth σ 0 = some 0 := rfl
  have t1 : tMachine_truth σ 1 = some 1 := rfl
  simp only [b1S t0, b1S t1]
  by_cases h37 : k = 37
  · rw [if_pos h37, if_pos h37]
    by_cases hb : b = 0
    · rw [if_pos hb, if_pos hb]
    · rw [if_neg hb, if_neg hb, gdT (nz0T hb)]
  rw [if_neg h37, if_neg h37]
  by_cases h42 : k = 42
  · rw [if_pos h42, if_pos h42]
  rw [if_neg h42, if_neg h42]
  by_cases h43 : k = 43
  · rw [if_pos h43, if_pos h43]
  rw [if_neg h43, if_neg h43]
  by_cases h45 : k = 45
  · rw [if_pos h45, if_pos h45]
  rw [if_neg h45, if_neg h45]
  by_cases h47 : k = 47
  · rw [if_pos h47, if_pos h47]
    by_cases hb : b = 0
    · rw [if_pos hb, if_pos hb]
    · rw [if_neg hb, if_neg hb, gdT (nz0T hb)]
  rw [if_neg h47, if_neg h47]
  by_cases h60 : k = 60
  · rw [if_pos h60, if_pos h60]
    split <;> rfl
  rw [if_neg h60, if_neg h60]
  by_cases h62 : k = 62
  · rw [if_pos h62, if_pos h62]
    split <;> rfl
  rw [if_neg h62, if_neg h62]
  by_cases h316 : k = 316
  · rw [if_pos h316, if_pos h316]
    split <;> rfl
  rw [if_neg h316, if_neg h316]
  by_cases h317 : k = 317
  · rw [if_pos h317, if_pos h317]
    split <;> rfl
  rw [if_neg h317, if_neg h317]
  by_cases h318 : k = 318
  · rw [if_pos h318, if_pos h318]
    split <;> rfl
  rw [if_neg h318, if_neg h318]
  split <;> rfl
theorem wo_m (σ : St) (k a b : Int32) (hk : k = 37 ∨ k = 42 ∨ k = 43 ∨ k = 45 ∨ k = 47 ∨ k = 60 ∨ k = 62 ∨ k = 316 ∨ k = 317 ∨ k = 318 ∨ k = 289) : tModel_combined σ k a b = some (wo k a b) := by
  have t0 : tModel_bit σ 0 = some 0 := rfl
  have t1 : tModel_bit σ 1 = some 1 := rfl
  rcases hk with rfl | rfl | rfl | rfl | rfl | rfl | rfl | rfl | rfl | rfl | rfl
  · show (if b = 0 then some a else gd (nz0 b) (some (a - a / b * b))) = some (if b = 0 then a else a - a / b * b)
    split
    · rfl
    · rename_i h; rw [gdT (nz0T h)]
  · rfl
  · rfl
  · rfl
  · show (if b = 0 then some (-1) else gd (nz0 b) (some (a / b))) = some (if b = 0 then -1 else a / b)
    split
    · rfl
    · rename_i h; rw [gdT (nz0T h)]
  · show (if b ≤ a then b1 (tModel_bit σ 0) (fun r => some r) else b1 (tModel_bit σ 1) (fun r => some r)) = some (if b ≤ a then 0 else 1)
    split <;> rfl
  · show (if a ≤ b then b1 (tModel_bit σ 0) (fun r => some r) else b1 (tModel_bit σ 1) (fun r => some r)) = some (if a ≤ b then 0 else 1)
    split <;> rfl
  · show b1 (if b < a then b1 (tModel_bit σ 0) (fun r => some r) else b1 (tModel_bit σ 1) (fun r => some r)) (fun r => some r) = some (if b < a then 0 else 1)
    split <;> rfl
  · show b1 (if a = b then b1 (tModel_bit σ 1) (fun r => some r) else b1 (tModel_bit σ 0) (fun r => some r)) (fun r => some r) = some (if a = b then 1 else 0)
    split <;> rfl
  · show b1 (if a < b then b1 (tModel_bit σ 0) (fun r => some r) else b1 (tModel_bit σ 1) (fun r => some r)) (fun r => some r) = some (if a < b then 0 else 1)
    split <;> rfl
  · show b1 (if a = b then b1 (tModel_bit σ 0) (fun r => some r) else b1 (tModel_bit σ 1) (fun r => some r)) (fun r => some r) = some (if a = b then 0 else 1)
    split <;> rfl
section CM
variable {g : St} {nx T B f p s o t res : Int32} {stk el re ba ou : Nat → Int32}
theorem c_cell (σ : St) {k : Nat} (h : k < 576) : tMachine_cell σ (nI k) = some (σ.2.2.1 10 k) := by
  unfold tMachine_cell
  rw [if_neg (nI_pos (by omega)), if_neg (show ¬ (576 : Int32) ≤ nI k from nI_ge (b := 576) h (by omega)), gdT (inI h (by omega)), tc_nI (by omega)]
theorem c_setCell (σ : St) {k : Nat} (v : Int32) (h : k < 576) : tMachine_setCell σ (nI k) v = some (sA σ 10 (upd (σ.2.2.1 10) k v)) := by
  unfold tMachine_setCell
  rw [if_neg (nI_pos (by omega)), if_neg (show ¬ (576 : Int32) ≤ nI k from nI_ge (b := 576) h (by omega)), gdT (inI h (by omega)), tc_nI (by omega)]
theorem c_push {k : Nat} (v : Int32) (h : k < 576) : tMachine_push (mkC g nx (nI k) B f p s o t res stk el re ba ou) v = some (mkC g nx (nI (k + 1)) B f p s o t res (upd stk k v) el re ba ou) := by
  unfold tMachine_push
  simp only [mkC_i16, mkC_i17, mkC_i18, mkC_i19, mkC_i20, mkC_i21, mkC_i22, mkC_i23, mkC_i24, mkC_i13, mkC_i14, mkC_i15, mkC_r10, mkC_r11, mkC_r12, mkC_r13, mkC_r14, mkC_r6, mkC_r7, mkC_r8, mkC_r9, mkC_s16, mkC_s17, mkC_s18, mkC_s19, mkC_s20, mkC_s21, mkC_s22, mkC_s23, mkC_s24, mkC_t10, mkC_t11, mkC_t12, mkC_t13, mkC_t14]
  rw [b1S (c_setCell _ v h)]
  simp only [mkC_i16, mkC_i17, mkC_i18, mkC_i19, mkC_i20, mkC_i21, mkC_i22, mkC_i23, mkC_i24, mkC_i13, mkC_i14, mkC_i15, mkC_r10, mkC_r11, mkC_r12, mkC_r13, mkC_r14, mkC_r6, mkC_r7, mkC_r8, mkC_r9, mkC_s16, mkC_s17, mkC_s18, mkC_s19, mkC_s20, mkC_s21, mkC_s22, mkC_s23, mkC_s24, mkC_t10, mkC_t11, mkC_t12, mkC_t13, mkC_t14, nI_1]
theorem c_pop {k : Nat} (h : k < 576) : tMachine_pop (mkC g nx (nI (k + 1)) B f p s o t res stk el re ba ou) = some (stk k, mkC g nx (nI k) B f p s o t res stk el re ba ou) := by
  unfold tMachine_pop
  simp only [mkC_i16, mkC_i17, mkC_i18, mkC_i19, mkC_i20, mkC_i21, mkC_i22, mkC_i23, mkC_i24, mkC_i13, mkC_i14, mkC_i15, mkC_r10, mkC_r11, mkC_r12, mkC_r13, mkC_r14, mkC_r6, mkC_r7, mkC_r8, mkC_r9, mkC_s16, mkC_s17, mkC_s18, mkC_s19, mkC_s20, mkC_s21, mkC_s22, mkC_s23, mkC_s24, mkC_t10, mkC_t11, mkC_t12, mkC_t13, mkC_t14, nI_pred]
  rw [b1S (c_cell _ h)]
  rfl
def stepK (u : St) (k a z : Int32) : Option St :=
  if k = 7 then b2 (tMachine_pop u) (fun r7 u7 => tMachine_leave u7 r7) else if k = 9 then b2 (tMachine_pop u) (fun r10 u10 => tMachine_put u10 r10) else if k = 13 then tMachine_fetchElement u a z else if k = 14 then tMachine_setElement u a z else if k = 15 then tMachine_call u a z else if k = 16 then some (sI u 20 a) else if k = 17 then b2 (tMachine_pop u) (fun r20 u20 => if r20 = 0 then some (sI u20 20 a) else some u20) else if k = 20 then tMachine_tick u else if k = 294 then tMachine_decide u 0 a else if k = 380 then tMachine_decide u 1 a else tMachine_move u k a
theorem step_open {n len : Nat} (hg : g.1 13 = nI len) (hl : len ≤ 440) (hn : n < len) : tMachine_step (mkC g nx T B f (nI n) s o t res stk el re ba ou) = stepK (mkC g nx T B f (nI (n + 1)) s o t res stk el re ba ou) (g.2.2.1 6 n) (g.2.2.1 7 n) (g.2.2.1 8 n) := by
  unfold tMachine_step stepK
  simp only [mkC_i16, mkC_i17, mkC_i18, mkC_i19, mkC_i20, mkC_i21, mkC_i22, mkC_i23, mkC_i24, mkC_i13, mkC_i14, mkC_i15, mkC_r10, mkC_r11, mkC_r12, mkC_r13, mkC_r14, mkC_r6, mkC_r7, mkC_r8, mkC_r9, mkC_s16, mkC_s17, mkC_s18, mkC_s19, mkC_s20, mkC_s21, mkC_s22, mkC_s23, mkC_s24, mkC_t10, mkC_t11, mkC_t12, mkC_t13, mkC_t14, hg, nI_1, tc_nI (show n < 2147483648 by omega), b1_id]
  rw [if_neg (nI_pos (by omega)), if_pos (nI_lt hn (by omega)), gdT (inI (by omega) (by omega)), gdT (inI (by omega) (by omega)), gdT (inI (by omega) (by omega))]
  generalize g.2.2.1 6 n = k
  by_cases h7 : k = 7
  · rw [if_pos h7, if_pos h7]
  rw [if_neg h7, if_neg h7]
  by_cases h9 : k = 9
  · rw [if_pos h9, if_pos h9]
  rw [if_neg h9, if_neg h9]
  by_cases h13 : k = 13
  · rw [if_pos h13, if_pos h13]
  rw [if_neg h13, if_neg h13]
  by_cases h14 : k = 14
  · rw [if_pos h14, if_pos h14]
  rw [if_neg h14, if_neg h14]
  by_cases h15 : k = 15
  · rw [if_pos h15, if_pos h15]
  rw [if_neg h15, if_neg h15]
  by_cases h16 : k = 16
  · rw [if_pos h16, if_pos h16]
  rw [if_neg h16, if_neg h16]
  by_cases h17 : k = 17
  · rw [if_pos h17, if_pos h17]
  rw [if_neg h17, if_neg h17]
  by_cases h20 : k = 20
  · rw [if_pos h20, if_pos h20]
  rw [if_neg h20, if_neg h20]
  by_cases h294 : k = 294
  · rw [if_pos h294, if_pos h294, if_neg (by rw [h294]; decide)]
  rw [if_neg h294, if_neg h294]
  by_cases h380 : k = 380
  · rw [if_pos h380, if_pos h380, if_pos h380]
  rw [if_neg h380, if_neg h380]
end CM
