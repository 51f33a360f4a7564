/-! A run, on both sides. -/
theorem mkC_eta (σ : St) : mkC σ (σ.1 16) (σ.1 17) (σ.1 18) (σ.1 19) (σ.1 20) (σ.1 21) (σ.1 22) (σ.1 23) (σ.1 24) (σ.2.2.1 10) (σ.2.2.1 11) (σ.2.2.1 12) (σ.2.2.1 13) (σ.2.2.1 14) = σ := by
  refine Prod.ext (funext fun j => ?_) (Prod.ext rfl (Prod.ext (funext fun j => ?_) rfl))
  · show (if j = 16 then σ.1 16 else if j = 17 then σ.1 17 else if j = 18 then σ.1 18 else if j = 19 then σ.1 19 else if j = 20 then σ.1 20 else if j = 21 then σ.1 21 else if j = 22 then σ.1 22 else if j = 23 then σ.1 23 else if j = 24 then σ.1 24 else σ.1 j) = σ.1 j
    repeat' split
    all_goals first | rfl | (rename_i h; rw [h])
  · show (if j = 10 then σ.2.2.1 10 else if j = 11 then σ.2.2.1 11 else if j = 12 then σ.2.2.1 12 else if j = 13 then σ.2.2.1 13 else if j = 14 then σ.2.2.1 14 else σ.2.2.1 j) = σ.2.2.1 j
    repeat' split
    all_goals first | rfl | (rename_i h; rw [h])
theorem mkM_eta (σ : St) : mkM σ (σ.1 46) (σ.1 47) (σ.1 48) (σ.1 49) (σ.1 50) (σ.1 51) (σ.1 52) (σ.2.2.1 38) (σ.2.2.1 39) (σ.2.2.1 40) (σ.2.2.1 41) (σ.2.2.1 42) (σ.2.2.1 43) = σ := by
  refine Prod.ext (funext fun j => ?_) (Prod.ext rfl (Prod.ext (funext fun j => ?_) rfl))
  · show (if j = 46 then σ.1 46 else if j = 47 then σ.1 47 else if j = 48 then σ.1 48 else if j = 49 then σ.1 49 else if j = 50 then σ.1 50 else if j = 51 then σ.1 51 else if j = 52 then σ.1 52 else σ.1 j) = σ.1 j
    repeat' split
    all_goals first | rfl | (rename_i h; rw [h])
  · show (if j = 38 then σ.2.2.1 38 else if j = 39 then σ.2.2.1 39 else if j = 40 then σ.2.2.1 40 else if j = 41 then σ.2.2.1 41 else if j = 42 then σ.2.2.1 42 else if j = 43 then σ.2.2.1 43 else σ.2.2.1 j) = σ.2.2.1 j
    repeat' split
    all_goals first | rfl | (rename_i h; rw [h])
theorem wk_L1 (N : Nat) (σ : St) (x : Int32) : tMachine_work_L (N + 1) 1 σ x = tMachine_work_b1 (tMachine_work_L N) σ x := rfl
theorem wk_L2 (N : Nat) (σ : St) (x : Int32) : tMachine_work_L (N + 1) 2 σ x = tMachine_work_b2 (tMachine_work_L N) σ x := rfl
theorem wk_L3 (N : Nat) (σ : St) (x : Int32) : tMachine_work_L (N + 1) 3 σ x = tMachine_work_b3 (tMachine_work_L N) σ x := rfl
theorem rn_L1 (N : Nat) (σ : St) (x : Int32) : tModel_run_L (N + 1) 1 σ x = tModel_run_b1 (tModel_run_L N) σ x := rfl
theorem rn_L2 (N : Nat) (σ : St) (x : Int32) : tModel_run_L (N + 1) 2 σ x = tModel_run_b2 (tModel_run_L N) σ x := rfl
theorem rn_L3 (N : Nat) (σ : St) (x : Int32) : tModel_run_L (N + 1) 3 σ x = tModel_run_b3 (tModel_run_L N) σ x := rfl
theorem wk_steps : ∀ {k : Nat} {c c' : St} (N x : Nat), CSteps k c c' → x + k < 1000000 → tMachine_work_L (N + k) 2 c (nI x) = tMachine_work_L N 2 c' (nI (x + k)) := by
  intro k
  induction k with
  | zero => intro c c' N x h _; cases h; rfl
  | succ k ih =>
    intro c c' N x h hx
    obtain ⟨h1, c1, h2, h3⟩ := h
    rw [show N + (k + 1) = (N + k) + 1 by omega, wk_L2]
    unfold tMachine_work_b2
    rw [if_neg (show ¬ (1000000 : Int32) ≤ nI x from fun e => absurd ((nI_leI (a := 1000000) (by omega) (by omega)).mp e) (by omega)), h1, if_pos rfl, b1S h2, nI_suc, ih N (x + 1) h3 (by omega), show x + 1 + k = x + (k + 1) by omega]
theorem wk_end {c : St} {N : Nat} {x : Int32} (h : ¬ c.1 21 = 3) : tMachine_work_L (N + 2) 2 c x = some (c.1 21, c) := by
  have e3 : tMachine_work_L (N + 1) 3 c 0 = some (c.1 21, c) := by
    rw [wk_L3]
    unfold tMachine_work_b3
    rw [if_neg h]
  rw [wk_L2]
  unfold tMachine_work_b2
  rw [if_neg h, e3]
  split <;> rfl
theorem rn_steps : ∀ {k : Nat} {m m' : St} (N : Nat), MSteps k m m' → tModel_run_L (N + k) 2 m 0 = tModel_run_L N 2 m' 0 := by
  intro k
  induction k with
  | zero => intro m m' N h; cases h; rfl
  | succ k ih =>
    intro m m' N h
    obtain ⟨h0, h1, m1, h2, h3⟩ := h
    rw [show N + (k + 1) = (N + k) + 1 by omega, rn_L2]
    unfold tModel_run_b2
    rw [if_neg h0, h1, if_pos rfl, b1S h2, ih N h3]
theorem rn_end0 {m : St} {N : Nat} (h : m.1 48 ≤ 0) (h2 : m.1 52 = 0) : tModel_run_L (N + 2) 2 m 0 = some (0, sI m 53 (m.2.2.1 43 0)) := by
  rw [rn_L2]
  unfold tModel_run_b2
  rw [if_pos h, rn_L3]
  unfold tModel_run_b3
  rw [h2, if_pos rfl, gdT (by decide)]
  rfl
theorem rn_end1 {m : St} {N : Nat} (h2 : ¬ m.1 52 = 0) : tModel_run_L (N + 2) 2 m 0 = some (m.1 52, sI m 53 0) := by
  have e3 : tModel_run_L (N + 1) 3 m 0 = some (m.1 52, sI m 53 0) := by
    rw [rn_L3]
    unfold tModel_run_b3
    rw [if_neg h2]
  rw [rn_L2]
  unfold tModel_run_b2
  rw [if_neg h2, e3]
  split <;> rfl
/-- the elements are cleared -/
theorem clr_c {g : St} {nx T B f p s o t res : Int32} {stk re ba ou : Nat → Int32} : ∀ (r x N : Nat) (el : Nat → Int32), x + r = 64 → (∀ j, j < x → el j = 0) → ∃ el' : Nat → Int32, tMachine_work_L (N + r) 1 (mkC g nx T B f p s o t res stk el re ba ou) (nI x) = tMachine_work_L N 1 (mkC g nx T B f p s o t res stk el' re ba ou) (nI 64) ∧ ∀ j, j < 64 → el' j = 0 := by
  intro r
  induction r with
  | zero =>
    intro x N el hx h
    obtain rfl : x = 64 := by omega
    exact ⟨el, rfl, h⟩
  | succ r ih =>
    intro x N el hx h
    obtain ⟨el', e1, e2⟩ := ih (x + 1) N (upd el x 0) (by omega) (fun j hj => by
      by_cases e : j = x
      · rw [e, upd_e]
      · rw [upd_n e]; exact h j (by omega))
    refine ⟨el', ?_, e2⟩
    rw [show N + (r + 1) = (N + r) + 1 by omega, wk_L1]
    unfold tMachine_work_b1
    rw [if_neg (show ¬ (64 : Int32) ≤ nI x from fun e => absurd ((nI_leI (a := 64) (by omega) (by omega)).mp e) (by omega)), gdT (inI (show x < 64 by omega) (by omega)), tc_nI (by omega), mkC_r11, mkC_t11, nI_suc, e1]
theorem clr_m {g : St} {tk o D V f t s : Int32} {ou bk bg sg vl : Nat → Int32} : ∀ (r x N : Nat) (ce : Nat → Int32), x + r = 960 → (∀ j, j < x → ce j = 0) → ∃ ce' : Nat → Int32, tModel_run_L (N + r) 1 (mkM g tk o D V f t s ou ce bk bg sg vl) (nI x) = tModel_run_L N 1 (mkM g tk o D V f t s ou ce' bk bg sg vl) (nI 960) ∧ ∀ j, j < 960 → ce' j = 0 := by
  intro r
  induction r with
  | zero =>
    intro x N ce hx h
    obtain rfl : x = 960 := by omega
    exact ⟨ce, rfl, h⟩
  | succ r ih =>
    intro x N ce hx h
    obtain ⟨ce', e1, e2⟩ := ih (x + 1) N (upd ce x 0) (by omega) (fun j hj => by
      by_cases e : j = x
      · rw [e, upd_e]
      · rw [upd_n e]; exact h j (by omega))
    refine ⟨ce', ?_, e2⟩
    rw [show N + (r + 1) = (N + r) + 1 by omega, rn_L1]
    unfold tModel_run_b1
    rw [if_neg (show ¬ (960 : Int32) ≤ nI x from fun e => absurd ((nI_leI (a := 960) (by omega) (by omega)).mp e) (by omega)), gdT (inI (show x < 960 by omega) (by omega)), tc_nI (by omega), mkM_r39, mkM_t39, nI_suc, e1]
