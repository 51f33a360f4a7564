/-! The class's instructions, one lemma each. -/
section CI
variable {g : St} {nx T B f p s o t res : Int32} {stk el re ba ou : Nat → Int32} {len n k : Nat}
theorem c_take {i q : Nat} (hq : g.1 15 = nI q) (h20 : q ≤ 20) (h : i < q) : tInput_take (mkC g (nI i) T B f p s o t res stk el re ba ou) = some (g.2.2.1 9 i, mkC g (nI (i + 1)) T B f p s o t res stk el re ba ou) := by
  unfold tInput_take
  simp only [mkC_i16, mkC_i17, mkC_i18, mkC_i19, mkC_i20, mkC_i21, mkC_i22, mkC_i23, mkC_i24, mkC_i13, mkC_i14, mkC_i15, mkC_r10, mkC_r11, mkC_r12, mkC_r13, mkC_r14, mkC_r6, mkC_r7, mkC_r8, mkC_r9, mkC_s16, mkC_s17, mkC_s18, mkC_s19, mkC_s20, mkC_s21, mkC_s22, mkC_s23, mkC_s24, mkC_t10, mkC_t11, mkC_t12, mkC_t13, mkC_t14, hq, nI_1]
  rw [if_pos (nI_lt h (by omega)), nI_pred, gdT (inI (by omega) (by omega)), tc_nI (by omega)]
theorem c_take0 {i q : Nat} (hq : g.1 15 = nI q) (h20 : q ≤ 20) (hi : i < 2147483648) (h : q ≤ i) : tInput_take (mkC g (nI i) T B f p s o t res stk el re ba ou) = some (0, mkC g (nI i) T B f p s o t res stk el re ba ou) := by
  unfold tInput_take
  simp only [mkC_i16, mkC_i17, mkC_i18, mkC_i19, mkC_i20, mkC_i21, mkC_i22, mkC_i23, mkC_i24, mkC_i13, mkC_i14, mkC_i15, mkC_r10, mkC_r11, mkC_r12, mkC_r13, mkC_r14, mkC_r6, mkC_r7, mkC_r8, mkC_r9, mkC_s16, mkC_s17, mkC_s18, mkC_s19, mkC_s20, mkC_s21, mkC_s22, mkC_s23, mkC_s24, mkC_t10, mkC_t11, mkC_t12, mkC_t13, mkC_t14, hq]
  rw [if_neg (nI_nlt h (by omega))]
theorem i_num (hg : g.1 13 = nI len) (hl : len ≤ 440) (hn : n < len) (h : g.2.2.1 6 n = 10) (hk : k < 576) : tMachine_step (mkC g nx (nI k) B f (nI n) s o t res stk el re ba ou) = some (mkC g nx (nI (k + 1)) B f (nI (n + 1)) s o t res (upd stk k (g.2.2.1 7 n)) el re ba ou) := by
  rw [step_open hg hl hn, h]
  show b1 (tMachine_push _ _) (fun u => some u) = _
  rw [b1_id]; exact c_push _ hk
theorem i_read (hg : g.1 13 = nI len) (hl : len ≤ 440) (hn : n < len) {i q : Nat} (hq : g.1 15 = nI q) (h20 : q ≤ 20) (hi : i < q) (h : g.2.2.1 6 n = 8) (hk : k < 576) : tMachine_step (mkC g (nI i) (nI k) B f (nI n) s o t res stk el re ba ou) = some (mkC g (nI (i + 1)) (nI (k + 1)) B f (nI (n + 1)) s o t res (upd stk k (g.2.2.1 9 i)) el re ba ou) := by
  rw [step_open hg hl hn, h]
  show b2 (tInput_take _) (fun r2 u2 => b1 (tMachine_push u2 r2) (fun u3 => some u3)) = _
  rw [b2S (c_take hq h20 hi), b1_id]; exact c_push _ hk
theorem i_read0 (hg : g.1 13 = nI len) (hl : len ≤ 440) (hn : n < len) {i q : Nat} (hq : g.1 15 = nI q) (h20 : q ≤ 20) (hi : i < 2147483648) (hi2 : q ≤ i) (h : g.2.2.1 6 n = 8) (hk : k < 576) : tMachine_step (mkC g (nI i) (nI k) B f (nI n) s o t res stk el re ba ou) = some (mkC g (nI i) (nI (k + 1)) B f (nI (n + 1)) s o t res (upd stk k 0) el re ba ou) := by
  rw [step_open hg hl hn, h]
  show b2 (tInput_take _) (fun r2 u2 => b1 (tMachine_push u2 r2) (fun u3 => some u3)) = _
  rw [b2S (c_take0 hq h20 hi hi2), b1_id]; exact c_push _ hk
theorem i_var (hg : g.1 13 = nI len) (hl : len ≤ 440) (hn : n < len) {b0 j : Nat} (h : g.2.2.1 6 n = 11) (hj : g.2.2.1 7 n = nI j) (hb : b0 + j < 576) (hk : k < 576) : tMachine_step (mkC g nx (nI k) (nI b0) f (nI n) s o t res stk el re ba ou) = some (mkC g nx (nI (k + 1)) (nI b0) f (nI (n + 1)) s o t res (upd stk k (stk (b0 + j))) el re ba ou) := by
  rw [step_open hg hl hn, h, hj]
  show b1 (tMachine_cell _ (nI b0 + nI j)) (fun r7 => b1 (tMachine_push _ r7) (fun u8 => some u8)) = _
  rw [nI_add, b1S (c_cell _ hb), b1_id]; exact c_push _ hk
theorem i_set (hg : g.1 13 = nI len) (hl : len ≤ 440) (hn : n < len) {b0 j : Nat} (h : g.2.2.1 6 n = 12) (hj : g.2.2.1 7 n = nI j) (hb : b0 + j < 576) (hk : k < 576) : tMachine_step (mkC g nx (nI (k + 1)) (nI b0) f (nI n) s o t res stk el re ba ou) = some (mkC g nx (nI k) (nI b0) f (nI (n + 1)) s o t res (upd stk (b0 + j) (stk k)) el re ba ou) := by
  rw [step_open hg hl hn, h, hj]
  show b2 (tMachine_pop _) (fun r10 u10 => b1 (tMachine_setCell u10 (nI b0 + nI j) r10) (fun u11 => some u11)) = _
  rw [b2S (c_pop hk), b1_id, nI_add, c_setCell _ _ hb]
  simp only [mkC_i16, mkC_i17, mkC_i18, mkC_i19, mkC_i20, mkC_i21, mkC_i22, mkC_i23, mkC_i24, mkC_i13, mkC_i14, mkC_i15, mkC_r10, mkC_r11, mkC_r12, mkC_r13, mkC_r14, mkC_r6, mkC_r7, mkC_r8, mkC_r9, mkC_s16, mkC_s17, mkC_s18, mkC_s19, mkC_s20, mkC_s21, mkC_s22, mkC_s23, mkC_s24, mkC_t10, mkC_t11, mkC_t12, mkC_t13, mkC_t14]
def tr (b : Int32) : Int32 := if b = 0 then 0 else 1
theorem i_truth (hg : g.1 13 = nI len) (hl : len ≤ 440) (hn : n < len) (h : g.2.2.1 6 n = 18) (hk : k < 576) : tMachine_step (mkC g nx (nI (k + 1)) B f (nI n) s o t res stk el re ba ou) = some (mkC g nx (nI (k + 1)) B f (nI (n + 1)) s o t res (upd stk k (tr (stk k))) el re ba ou) := by
  rw [step_open hg hl hn, h]
  show b2 (tMachine_pop _) (fun r13 u13 => if r13 = 0 then b1 (tMachine_truth u13 0) (fun r15 => b1 (tMachine_push u13 r15) (fun u16 => some u16)) else b1 (tMachine_truth u13 1) (fun r17 => b1 (tMachine_push u13 r17) (fun u18 => some u18))) = _
  rw [b2S (c_pop hk)]
  unfold tr
  split
  · show b1 (tMachine_push _ 0) (fun u => some u) = _
    rw [b1_id]; exact c_push _ hk
  · show b1 (tMachine_push _ 1) (fun u => some u) = _
    rw [b1_id]; exact c_push _ hk
theorem i_neg (hg : g.1 13 = nI len) (hl : len ≤ 440) (hn : n < len) (h : g.2.2.1 6 n = 19) (hk : k < 576) : tMachine_step (mkC g nx (nI (k + 1)) B f (nI n) s o t res stk el re ba ou) = some (mkC g nx (nI (k + 1)) B f (nI (n + 1)) s o t res (upd stk k (-(stk k))) el re ba ou) := by
  rw [step_open hg hl hn, h]
  show b2 (tMachine_pop _) (fun r20 u20 => b1 (tMachine_push u20 (-r20)) (fun u21 => some u21)) = _
  rw [b2S (c_pop hk), b1_id]; exact c_push _ hk
theorem i_drop (hg : g.1 13 = nI len) (hl : len ≤ 440) (hn : n < len) (h : g.2.2.1 6 n = 21) (hk : k < 576) : tMachine_step (mkC g nx (nI (k + 1)) B f (nI n) s o t res stk el re ba ou) = some (mkC g nx (nI k) B f (nI (n + 1)) s o t res stk el re ba ou) := by
  rw [step_open hg hl hn, h]
  show b2 (tMachine_pop _) (fun r23 u23 => some u23) = _
  rw [b2S (c_pop hk)]
theorem i_not (hg : g.1 13 = nI len) (hl : len ≤ 440) (hn : n < len) (h : g.2.2.1 6 n = 33) (hk : k < 576) : tMachine_step (mkC g nx (nI (k + 1)) B f (nI n) s o t res stk el re ba ou) = some (mkC g nx (nI (k + 1)) B f (nI (n + 1)) s o t res (upd stk k (if stk k = 0 then 1 else 0)) el re ba ou) := by
  rw [step_open hg hl hn, h]
  show b2 (tMachine_pop _) (fun r25 u25 => if r25 = 0 then b1 (tMachine_truth u25 1) (fun r29 => b1 (tMachine_push u25 r29) (fun u30 => some u30)) else b1 (tMachine_truth u25 0) (fun r27 => b1 (tMachine_push u25 r27) (fun u28 => some u28))) = _
  rw [b2S (c_pop hk)]
  split
  · show b1 (tMachine_push _ 1) (fun u => some u) = _
    rw [b1_id]; exact c_push _ hk
  · show b1 (tMachine_push _ 0) (fun u => some u) = _
    rw [b1_id]; exact c_push _ hk
theorem i_inv (hg : g.1 13 = nI len) (hl : len ≤ 440) (hn : n < len) (h : g.2.2.1 6 n = 126) (hk : k < 576) : tMachine_step (mkC g nx (nI (k + 1)) B f (nI n) s o t res stk el re ba ou) = some (mkC g nx (nI (k + 1)) B f (nI (n + 1)) s o t res (upd stk k (stk k ^^^ (-1))) el re ba ou) := by
  rw [step_open hg hl hn, h]
  show b2 (tMachine_pop _) (fun r32 u32 => b1 (tMachine_push u32 (r32 ^^^ (-1))) (fun u33 => some u33)) = _
  rw [b2S (c_pop hk), b1_id]; exact c_push _ hk
def strict (k : Int32) : Prop := k = 37 ∨ k = 42 ∨ k = 43 ∨ k = 45 ∨ k = 47 ∨ k = 60 ∨ k = 62 ∨ k = 316 ∨ k = 317 ∨ k = 318 ∨ k = 289
theorem i_bin (hg : g.1 13 = nI len) (hl : len ≤ 440) (hn : n < len) {w : Int32} (h : g.2.2.1 6 n = w) (hw : strict w) (hk : k + 1 < 576) : tMachine_step (mkC g nx (nI (k + 2)) B f (nI n) s o t res stk el re ba ou) = some (mkC g nx (nI (k + 1)) B f (nI (n + 1)) s o t res (upd stk k (wo w (stk k) (stk (k + 1)))) el re ba ou) := by
  rw [step_open hg hl hn, h]
  have e : stepK (mkC g nx (nI (k + 2)) B f (nI (n + 1)) s o t res stk el re ba ou) w (g.2.2.1 7 n) (g.2.2.1 8 n) = b2 (tMachine_pop (mkC g nx (nI (k + 2)) B f (nI (n + 1)) s o t res stk el re ba ou)) (fun r34 u34 => b2 (tMachine_pop u34) (fun r35 u35 => b1 (tMachine_workedOut u35 w r35 r34) (fun r36 => b1 (tMachine_push u35 r36) (fun u37 => some u37)))) := by
    rcases hw with rfl | rfl | rfl | rfl | rfl | rfl | rfl | rfl | rfl | rfl | rfl <;> rfl
  rw [e, b2S (c_pop (k := k + 1) hk), b2S (c_pop (k := k) (by omega)), b1S (wo_c _ _ _ _), b1_id]
  exact c_push _ (by omega)
theorem i_jump (hg : g.1 13 = nI len) (hl : len ≤ 440) (hn : n < len) {j : Int32} (h : g.2.2.1 6 n = 16) (hj : g.2.2.1 7 n = j) : tMachine_step (mkC g nx T B f (nI n) s o t res stk el re ba ou) = some (mkC g nx T B f j s o t res stk el re ba ou) := by
  rw [step_open hg hl hn, h, hj]
  show some (sI _ 20 j) = _
  rw [mkC_s20]
theorem i_jz (hg : g.1 13 = nI len) (hl : len ≤ 440) (hn : n < len) {j : Int32} (h : g.2.2.1 6 n = 17) (hj : g.2.2.1 7 n = j) (hk : k < 576) : tMachine_step (mkC g nx (nI (k + 1)) B f (nI n) s o t res stk el re ba ou) = some (mkC g nx (nI k) B f (if stk k = 0 then j else nI (n + 1)) s o t res stk el re ba ou) := by
  rw [step_open hg hl hn, h, hj]
  show b2 (tMachine_pop _) (fun r20 u20 => if r20 = 0 then some (sI u20 20 j) else some u20) = _
  rw [b2S (c_pop hk)]
  split
  · rw [mkC_s20]
  · rfl
theorem i_tick (hg : g.1 13 = nI len) (hl : len ≤ 440) (hn : n < len) {m : Nat} (h : g.2.2.1 6 n = 20) (hm : m < 400) : tMachine_step (mkC g nx T B f (nI n) s o (nI m) res stk el re ba ou) = some (mkC g nx T B f (nI (n + 1)) s o (nI (m + 1)) res stk el re ba ou) := by
  rw [step_open hg hl hn, h]
  show tMachine_tick _ = _
  unfold tMachine_tick
  simp only [mkC_i16, mkC_i17, mkC_i18, mkC_i19, mkC_i20, mkC_i21, mkC_i22, mkC_i23, mkC_i24, mkC_i13, mkC_i14, mkC_i15, mkC_r10, mkC_r11, mkC_r12, mkC_r13, mkC_r14, mkC_r6, mkC_r7, mkC_r8, mkC_r9, mkC_s16, mkC_s17, mkC_s18, mkC_s19, mkC_s20, mkC_s21, mkC_s22, mkC_s23, mkC_s24, mkC_t10, mkC_t11, mkC_t12, mkC_t13, mkC_t14, nI_1]
  rw [if_pos (show nI m < 400 from nI_lt (b := 400) hm (by omega))]
theorem i_tickK (hg : g.1 13 = nI len) (hl : len ≤ 440) (hn : n < len) (h : g.2.2.1 6 n = 20) : tMachine_step (mkC g nx T B f (nI n) s o t res stk el re ba ou) = tMachine_tick (mkC g nx T B f (nI (n + 1)) s o t res stk el re ba ou) := by
  rw [step_open hg hl hn, h]
  rfl
theorem i_tick0 (hg : g.1 13 = nI len) (hl : len ≤ 440) (hn : n < len) (h : g.2.2.1 6 n = 20) : tMachine_step (mkC g nx T B f (nI n) s o (nI 400) res stk el re ba ou) = some (mkC g nx T B f (nI (n + 1)) 2 o (nI 400) res stk el re ba ou) := by
  rw [i_tickK hg hl hn h]
  unfold tMachine_tick
  simp only [mkC_i16, mkC_i17, mkC_i18, mkC_i19, mkC_i20, mkC_i21, mkC_i22, mkC_i23, mkC_i24, mkC_i13, mkC_i14, mkC_i15, mkC_r10, mkC_r11, mkC_r12, mkC_r13, mkC_r14, mkC_r6, mkC_r7, mkC_r8, mkC_r9, mkC_s16, mkC_s17, mkC_s18, mkC_s19, mkC_s20, mkC_s21, mkC_s22, mkC_s23, mkC_s24, mkC_t10, mkC_t11, mkC_t12, mkC_t13, mkC_t14]
  rw [if_neg (show ¬ nI 400 < 400 by decide)]
theorem c_decide {w j : Int32} (hw : w = 0 ∨ w = 1) (hk : k < 576) : tMachine_decide (mkC g nx (nI (k + 1)) B f p s o t res stk el re ba ou) w j = some (if tr (stk k) = w then mkC g nx (nI (k + 1)) B f j s o t res (upd stk k w) el re ba ou else mkC g nx (nI k) B f p s o t res stk el re ba ou) := by
  unfold tMachine_decide
  rw [b2S (c_pop hk)]
  unfold tr
  by_cases h0 : stk k = 0
  · rw [if_pos h0, if_pos h0]
    show (if (0 : Int32) = w then b1 (tMachine_truth _ 0) (fun r4 => b1 (tMachine_push _ r4) (fun u5 => some (sI u5 20 j))) else some _) = _
    rcases hw with rfl | rfl
    · rw [if_pos rfl, if_pos rfl]
      show b1 (tMachine_push _ 0) (fun u5 => some (sI u5 20 j)) = _
      rw [b1S (c_push _ hk), mkC_s20]
    · rw [if_neg (by decide), if_neg (by decide)]
  · rw [if_neg h0, if_neg h0]
    show (if (1 : Int32) = w then b1 (tMachine_truth _ 1) (fun r4 => b1 (tMachine_push _ r4) (fun u5 => some (sI u5 20 j))) else some _) = _
    rcases hw with rfl | rfl
    · rw [if_neg (by decide), if_neg (by decide)]
    · rw [if_pos rfl, if_pos rfl]
      show b1 (tMachine_push _ 1) (fun u5 => some (sI u5 20 j)) = _
      rw [b1S (c_push _ hk), mkC_s20]
theorem i_both (hg : g.1 13 = nI len) (hl : len ≤ 440) (hn : n < len) {j : Int32} (h : g.2.2.1 6 n = 294) (hj : g.2.2.1 7 n = j) (hk : k < 576) : tMachine_step (mkC g nx (nI (k + 1)) B f (nI n) s o t res stk el re ba ou) = some (if tr (stk k) = 0 then mkC g nx (nI (k + 1)) B f j s o t res (upd stk k 0) el re ba ou else mkC g nx (nI k) B f (nI (n + 1)) s o t res stk el re ba ou) := by
  rw [step_open hg hl hn, h, hj]
  exact c_decide (Or.inl rfl) hk
theorem i_either (hg : g.1 13 = nI len) (hl : len ≤ 440) (hn : n < len) {j : Int32} (h : g.2.2.1 6 n = 380) (hj : g.2.2.1 7 n = j) (hk : k < 576) : tMachine_step (mkC g nx (nI (k + 1)) B f (nI n) s o t res stk el re ba ou) = some (if tr (stk k) = 1 then mkC g nx (nI (k + 1)) B f j s o t res (upd stk k 1) el re ba ou else mkC g nx (nI k) B f (nI (n + 1)) s o t res stk el re ba ou) := by
  rw [step_open hg hl hn, h, hj]
  exact c_decide (Or.inr rfl) hk
theorem i_print (hg : g.1 13 = nI len) (hl : len ≤ 440) (hn : n < len) {m : Nat} (h : g.2.2.1 6 n = 9) (hm : m < 30) (hk : k < 576) : tMachine_step (mkC g nx (nI (k + 1)) B f (nI n) s (nI m) t res stk el re ba ou) = some (mkC g nx (nI k) B f (nI (n + 1)) s (nI (m + 1)) t res stk el re ba (upd ou m (stk k))) := by
  rw [step_open hg hl hn, h]
  show b2 (tMachine_pop _) (fun r10 u10 => tMachine_put u10 r10) = _
  rw [b2S (c_pop hk)]
  unfold tMachine_put
  simp only [mkC_i16, mkC_i17, mkC_i18, mkC_i19, mkC_i20, mkC_i21, mkC_i22, mkC_i23, mkC_i24, mkC_i13, mkC_i14, mkC_i15, mkC_r10, mkC_r11, mkC_r12, mkC_r13, mkC_r14, mkC_r6, mkC_r7, mkC_r8, mkC_r9, mkC_s16, mkC_s17, mkC_s18, mkC_s19, mkC_s20, mkC_s21, mkC_s22, mkC_s23, mkC_s24, mkC_t10, mkC_t11, mkC_t12, mkC_t13, mkC_t14, nI_1]
  rw [if_pos (show nI m < 30 from nI_lt (b := 30) hm (by omega)), gdT (inI hm (by omega)), tc_nI (by omega)]
theorem i_print0 (hg : g.1 13 = nI len) (hl : len ≤ 440) (hn : n < len) (h : g.2.2.1 6 n = 9) (hk : k < 576) : tMachine_step (mkC g nx (nI (k + 1)) B f (nI n) s (nI 30) t res stk el re ba ou) = some (mkC g nx (nI k) B f (nI (n + 1)) 1 (nI 30) t res stk el re ba ou) := by
  rw [step_open hg hl hn, h]
  show b2 (tMachine_pop _) (fun r10 u10 => tMachine_put u10 r10) = _
  rw [b2S (c_pop hk)]
  unfold tMachine_put
  simp only [mkC_i16, mkC_i17, mkC_i18, mkC_i19, mkC_i20, mkC_i21, mkC_i22, mkC_i23, mkC_i24, mkC_i13, mkC_i14, mkC_i15, mkC_r10, mkC_r11, mkC_r12, mkC_r13, mkC_r14, mkC_r6, mkC_r7, mkC_r8, mkC_r9, mkC_s16, mkC_s17, mkC_s18, mkC_s19, mkC_s20, mkC_s21, mkC_s22, mkC_s23, mkC_s24, mkC_t10, mkC_t11, mkC_t12, mkC_t13, mkC_t14]
  rw [if_neg (show ¬ nI 30 < 30 by decide)]
theorem i_ret (hg : g.1 13 = nI len) (hl : len ≤ 440) (hn : n < len) {m : Nat} {b0 : Nat} (h : g.2.2.1 6 n = 7) (hm : 1 ≤ m) (hm2 : m < 12) (hb : b0 < 576) (hk : k < 576) : tMachine_step (mkC g nx (nI (k + 1)) (nI b0) (nI (m + 1)) (nI n) s o t res stk el re ba ou) = some (mkC g nx (nI (b0 + 1)) (ba m) (nI m) (re m) s o t res (upd stk b0 (stk k)) el re ba ou) := by
  rw [step_open hg hl hn, h]
  show b2 (tMachine_pop _) (fun r7 u7 => tMachine_leave u7 r7) = _
  rw [b2S (c_pop hk)]
  unfold tMachine_leave
  simp only [mkC_i16, mkC_i17, mkC_i18, mkC_i19, mkC_i20, mkC_i21, mkC_i22, mkC_i23, mkC_i24, mkC_i13, mkC_i14, mkC_i15, mkC_r10, mkC_r11, mkC_r12, mkC_r13, mkC_r14, mkC_r6, mkC_r7, mkC_r8, mkC_r9, mkC_s16, mkC_s17, mkC_s18, mkC_s19, mkC_s20, mkC_s21, mkC_s22, mkC_s23, mkC_s24, mkC_t10, mkC_t11, mkC_t12, mkC_t13, mkC_t14, nI_pred]
  rw [if_pos (show (1 : Int32) < nI (m + 1) from nI_lt (a := 1) (by omega) (by omega)), gdT (inI hm2 (by omega)), gdT (inI hm2 (by omega)), tc_nI (by omega), b1_id]
  exact c_push _ hb
theorem i_ret1 (hg : g.1 13 = nI len) (hl : len ≤ 440) (hn : n < len) (h : g.2.2.1 6 n = 7) (hk : k < 576) : tMachine_step (mkC g nx (nI (k + 1)) B (nI 1) (nI n) s o t res stk el re ba ou) = some (mkC g nx (nI k) B (nI 1) (nI (n + 1)) 0 o t (stk k) stk el re ba ou) := by
  rw [step_open hg hl hn, h]
  show b2 (tMachine_pop _) (fun r7 u7 => tMachine_leave u7 r7) = _
  rw [b2S (c_pop hk)]
  unfold tMachine_leave
  simp only [mkC_i16, mkC_i17, mkC_i18, mkC_i19, mkC_i20, mkC_i21, mkC_i22, mkC_i23, mkC_i24, mkC_i13, mkC_i14, mkC_i15, mkC_r10, mkC_r11, mkC_r12, mkC_r13, mkC_r14, mkC_r6, mkC_r7, mkC_r8, mkC_r9, mkC_s16, mkC_s17, mkC_s18, mkC_s19, mkC_s20, mkC_s21, mkC_s22, mkC_s23, mkC_s24, mkC_t10, mkC_t11, mkC_t12, mkC_t13, mkC_t14]
  rw [if_neg (show ¬ (1 : Int32) < nI 1 by decide)]
theorem i_elem (hg : g.1 13 = nI len) (hl : len ≤ 440) (hn : n < len) {a z : Nat} {i : Int32} (h : g.2.2.1 6 n = 13) (ha : g.2.2.1 7 n = nI a) (hz : g.2.2.1 8 n = nI z) (haz : a + z ≤ 64) (hi : stk k = i) (hk : k < 576) : tMachine_step (mkC g nx (nI (k + 1)) B f (nI n) s o t res stk el re ba ou) = some (if 0 ≤ i.toInt ∧ i.toInt < z then mkC g nx (nI (k + 1)) B f (nI (n + 1)) s o t res (upd stk k (el (a + i.toInt.toNat))) el re ba ou else mkC g nx (nI k) B f (nI (n + 1)) 1 o t res stk el re ba ou) := by
  rw [step_open hg hl hn, h, ha, hz]
  show tMachine_fetchElement _ _ _ = _
  unfold tMachine_fetchElement
  rw [b2S (c_pop hk), hi]
  by_cases h0 : i < 0
  · rw [if_pos h0, if_neg (by rw [ti_lt] at h0; simp at h0; omega), mkC_s21]
  · rw [if_neg h0]
    have h0' : 0 ≤ i.toInt := by rw [ti_lt] at h0; simp at h0; omega
    by_cases h1 : i < nI z
    · have h1' : i.toInt < z := by rw [ti_lt, ti_nI (by omega)] at h1; exact h1
      have e : nI a + i = nI (a + i.toInt.toNat) := by rw [eq_nI (x := i) (n := i.toInt.toNat) (by omega), nI_add, ti_nI (by omega)]; rfl
      rw [if_pos h1, if_pos ⟨h0', h1'⟩, e, gdT (inI (by omega) (by omega)), tc_nI (by omega), b1_id]
      exact c_push _ hk
    · have h1' : ¬ i.toInt < z := by rw [ti_lt, ti_nI (by omega)] at h1; exact h1
      rw [if_neg h1, if_neg (fun q => h1' q.2), mkC_s21]
theorem i_put (hg : g.1 13 = nI len) (hl : len ≤ 440) (hn : n < len) {a z : Nat} {i : Int32} (h : g.2.2.1 6 n = 14) (ha : g.2.2.1 7 n = nI a) (hz : g.2.2.1 8 n = nI z) (haz : a + z ≤ 64) (hi : stk k = i) (hk : k + 1 < 576) : tMachine_step (mkC g nx (nI (k + 2)) B f (nI n) s o t res stk el re ba ou) = some (if 0 ≤ i.toInt ∧ i.toInt < z then mkC g nx (nI k) B f (nI (n + 1)) s o t res stk (upd el (a + i.toInt.toNat) (stk (k + 1))) re ba ou else mkC g nx (nI k) B f (nI (n + 1)) 1 o t res stk el re ba ou) := by
  rw [step_open hg hl hn, h, ha, hz]
  show tMachine_setElement _ _ _ = _
  unfold tMachine_setElement
  rw [b2S (c_pop (k := k + 1) hk), b2S (c_pop (k := k) (by omega)), hi]
  by_cases h0 : i < 0
  · rw [if_pos h0, if_neg (by rw [ti_lt] at h0; simp at h0; omega), mkC_s21]
  · rw [if_neg h0]
    have h0' : 0 ≤ i.toInt := by rw [ti_lt] at h0; simp at h0; omega
    by_cases h1 : i < nI z
    · have h1' : i.toInt < z := by rw [ti_lt, ti_nI (by omega)] at h1; exact h1
      have e : nI a + i = nI (a + i.toInt.toNat) := by rw [eq_nI (x := i) (n := i.toInt.toNat) (by omega), nI_add, ti_nI (by omega)]; rfl
      rw [if_pos h1, if_pos ⟨h0', h1'⟩, e, gdT (inI (by omega) (by omega)), tc_nI (by omega)]
      simp only [mkC_i16, mkC_i17, mkC_i18, mkC_i19, mkC_i20, mkC_i21, mkC_i22, mkC_i23, mkC_i24, mkC_i13, mkC_i14, mkC_i15, mkC_r10, mkC_r11, mkC_r12, mkC_r13, mkC_r14, mkC_r6, mkC_r7, mkC_r8, mkC_r9, mkC_s16, mkC_s17, mkC_s18, mkC_s19, mkC_s20, mkC_s21, mkC_s22, mkC_s23, mkC_s24, mkC_t10, mkC_t11, mkC_t12, mkC_t13, mkC_t14]
    · have h1' : ¬ i.toInt < z := by rw [ti_lt, ti_nI (by omega)] at h1; exact h1
      rw [if_neg h1, if_neg (fun q => h1' q.2), mkC_s21]
theorem c_call {m z t0 : Nat} {a : Int32} (hm : m < 12) (ht : t0 < 400) (hz : z ≤ k) : tMachine_call (mkC g nx (nI k) B (nI m) p s o (nI t0) res stk el re ba ou) a (nI z) = some (mkC g nx (nI (k - z + 12)) (nI (k - z)) (nI (m + 1)) a s o (nI (t0 + 1)) res stk el (upd re m p) (upd ba m B) ou) := by
  unfold tMachine_call
  have e : tMachine_tick (mkC g nx (nI k) B (nI m) p s o (nI t0) res stk el re ba ou) = some (mkC g nx (nI k) B (nI m) p s o (nI (t0 + 1)) res stk el re ba ou) := by
    unfold tMachine_tick
    simp only [mkC_i16, mkC_i17, mkC_i18, mkC_i19, mkC_i20, mkC_i21, mkC_i22, mkC_i23, mkC_i24, mkC_i13, mkC_i14, mkC_i15, mkC_r10, mkC_r11, mkC_r12, mkC_r13, mkC_r14, mkC_r6, mkC_r7, mkC_r8, mkC_r9, mkC_s16, mkC_s17, mkC_s18, mkC_s19, mkC_s20, mkC_s21, mkC_s22, mkC_s23, mkC_s24, mkC_t10, mkC_t11, mkC_t12, mkC_t13, mkC_t14, nI_1]
    rw [if_pos (show nI t0 < 400 from nI_lt (b := 400) ht (by omega))]
  rw [b1S e]
  simp only [mkC_i16, mkC_i17, mkC_i18, mkC_i19, mkC_i20, mkC_i21, mkC_i22, mkC_i23, mkC_i24, mkC_i13, mkC_i14, mkC_i15, mkC_r10, mkC_r11, mkC_r12, mkC_r13, mkC_r14, mkC_r6, mkC_r7, mkC_r8, mkC_r9, mkC_s16, mkC_s17, mkC_s18, mkC_s19, mkC_s20, mkC_s21, mkC_s22, mkC_s23, mkC_s24, mkC_t10, mkC_t11, mkC_t12, mkC_t13, mkC_t14, nI_1, nI_sub hz]
  rw [if_pos (show nI m < 12 from nI_lt (b := 12) hm (by omega)), gdT (inI hm (by omega)), gdT (inI hm (by omega)), tc_nI (by omega), show nI (k - z) + 12 = nI (k - z + 12) from nI_add _ 12]
theorem c_call12 {z : Nat} {a : Int32} : tMachine_call (mkC g nx T B (nI 12) p s o t res stk el re ba ou) a (nI z) = some (mkC g nx T B (nI 12) p 2 o t res stk el re ba ou) := by
  unfold tMachine_call
  simp only [mkC_i16, mkC_i17, mkC_i18, mkC_i19, mkC_i20, mkC_i21, mkC_i22, mkC_i23, mkC_i24, mkC_i13, mkC_i14, mkC_i15, mkC_r10, mkC_r11, mkC_r12, mkC_r13, mkC_r14, mkC_r6, mkC_r7, mkC_r8, mkC_r9, mkC_s16, mkC_s17, mkC_s18, mkC_s19, mkC_s20, mkC_s21, mkC_s22, mkC_s23, mkC_s24, mkC_t10, mkC_t11, mkC_t12, mkC_t13, mkC_t14]
  rw [if_neg (show ¬ nI 12 < 12 by decide)]
theorem c_call400 {m z : Nat} {a : Int32} (hm : m < 12) : ∃ T' B' f' re' ba', tMachine_call (mkC g nx T B (nI m) p s o (nI 400) res stk el re ba ou) a (nI z) = some (mkC g nx T' B' f' a 2 o (nI 400) res stk el re' ba' ou) := by
  unfold tMachine_call
  have e : tMachine_tick (mkC g nx T B (nI m) p s o (nI 400) res stk el re ba ou) = some (mkC g nx T B (nI m) p 2 o (nI 400) res stk el re ba ou) := by
    unfold tMachine_tick
    simp only [mkC_i16, mkC_i17, mkC_i18, mkC_i19, mkC_i20, mkC_i21, mkC_i22, mkC_i23, mkC_i24, mkC_i13, mkC_i14, mkC_i15, mkC_r10, mkC_r11, mkC_r12, mkC_r13, mkC_r14, mkC_r6, mkC_r7, mkC_r8, mkC_r9, mkC_s16, mkC_s17, mkC_s18, mkC_s19, mkC_s20, mkC_s21, mkC_s22, mkC_s23, mkC_s24, mkC_t10, mkC_t11, mkC_t12, mkC_t13, mkC_t14]
    rw [if_neg (show ¬ nI 400 < 400 by decide)]
  rw [b1S e]
  simp only [mkC_i16, mkC_i17, mkC_i18, mkC_i19, mkC_i20, mkC_i21, mkC_i22, mkC_i23, mkC_i24, mkC_i13, mkC_i14, mkC_i15, mkC_r10, mkC_r11, mkC_r12, mkC_r13, mkC_r14, mkC_r6, mkC_r7, mkC_r8, mkC_r9, mkC_s16, mkC_s17, mkC_s18, mkC_s19, mkC_s20, mkC_s21, mkC_s22, mkC_s23, mkC_s24, mkC_t10, mkC_t11, mkC_t12, mkC_t13, mkC_t14]
  rw [if_pos (show nI m < 12 from nI_lt (b := 12) hm (by omega)), gdT (inI hm (by omega)), gdT (inI hm (by omega))]
  exact ⟨_, _, _, _, _, rfl⟩
theorem i_call (hg : g.1 13 = nI len) (hl : len ≤ 440) (hn : n < len) (h : g.2.2.1 6 n = 15) : tMachine_step (mkC g nx T B f (nI n) s o t res stk el re ba ou) = tMachine_call (mkC g nx T B f (nI (n + 1)) s o t res stk el re ba ou) (g.2.2.1 7 n) (g.2.2.1 8 n) := by
  rw [step_open hg hl hn, h]
  rfl
end CI
