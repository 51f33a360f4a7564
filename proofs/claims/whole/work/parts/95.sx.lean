/-! A block as a statement; every statement. -/
section SX
variable {n : Nat} {K : Nat → Int32} {p : Nat → Nat} {V : Nat → Int64} {g h : St} {tv : Nat → Nat} {vc vm ar sb dp A : Nat} {ag nb : Prop} {co op sz so wh oe tw th nx tk os wa wf : Nat → Int32} {fC fM a o l nd d oc : Nat} {WT : Int32}
theorem leave_L1 (N : Nat) (σ : St) : tModel_leaveBlock_L (N + 1) 1 σ = tModel_leaveBlock_b1 (tModel_leaveBlock_L N) σ := rfl
theorem leave_L2 (N : Nat) (σ : St) : tModel_leaveBlock_L (N + 1) 2 σ = some (sI (sI σ 39 ((σ.1 39) - 1)) 32 ((σ.1 32) - 1)) := rfl
/-- the variables of a block go -/
theorem leave_all {y q ft A ND OC WT : Int32} (h39 : h.1 39 = nI (dp + 1)) : ∀ (v N : Nat), v ≤ 119 → v + 1 < N → ∃ w, w ≤ v ∧ tModel_leaveBlock_L N 1 (mkV (sI h 38 (nI v)) y q ft A (nI (o + 1)) ND OC WT so wh oe tw th nx tk os wa wf) = some (mkV (sI (sI h 38 (nI w)) 39 (nI dp)) y q ft A (nI o) ND OC WT so wh oe tw th nx tk os wa wf) ∧ ∀ u, u ≤ v → (∀ k, k < v → (h.2.2.1 32 k = nI (dp + 1) ↔ u ≤ k)) → w = u := by
  intro v
  induction v with
  | zero =>
    intro N _ hN
    obtain ⟨N, rfl⟩ : ∃ j, N = j + 2 := ⟨N - 2, by omega⟩
    refine ⟨0, Nat.le_refl _, ?_, fun u hu _ => by omega⟩
    rw [leave_L1]
    unfold tModel_leaveBlock_b1
    rw [mkV_i38, show (sI h 38 (nI 0)).1 38 = nI 0 from rfl, if_pos (by decide), leave_L2, mkV_i39, show (sI h 38 (nI 0)).1 39 = h.1 39 from rfl, h39, nI_pred, mkV_i32, nI_pred, mkV_b39, mkV_s32]
  | succ v ih =>
    intro N hv hN
    obtain ⟨N, rfl⟩ : ∃ j, N = j + 2 := ⟨N - 2, by omega⟩
    have e0 : tModel_leaveBlock_L (N + 2) 1 (mkV (sI h 38 (nI (v + 1))) y q ft A (nI (o + 1)) ND OC WT so wh oe tw th nx tk os wa wf) = (if h.2.2.1 32 v = nI (dp + 1) then tModel_leaveBlock_L (N + 1) 1 (mkV (sI h 38 (nI v)) y q ft A (nI (o + 1)) ND OC WT so wh oe tw th nx tk os wa wf) else tModel_leaveBlock_L (N + 1) 2 (mkV (sI h 38 (nI (v + 1))) y q ft A (nI (o + 1)) ND OC WT so wh oe tw th nx tk os wa wf)) := by
      rw [leave_L1]
      unfold tModel_leaveBlock_b1
      rw [mkV_i38, show (sI h 38 (nI (v + 1))).1 38 = nI (v + 1) from rfl, if_neg (nI_nle (by omega) (by omega)), nI_pred, gdT (inI (by omega) (by omega)), tc_nI (by omega), mkV_r32, mkV_i39, show (sI h 38 (nI (v + 1))).1 39 = h.1 39 from rfl, h39, show (sI h 38 (nI (v + 1))).2.2.1 32 v = h.2.2.1 32 v from rfl, mkV_b38]
      congr 2
      refine congrArg (fun z => mkV z y q ft A (nI (o + 1)) ND OC WT so wh oe tw th nx tk os wa wf) ?_
      refine Prod.ext (funext fun j => ?_) rfl
      show (if j = 38 then nI v else if j = 38 then nI (v + 1) else h.1 j) = if j = 38 then nI v else h.1 j
      by_cases hj : j = 38
      · rw [if_pos hj, if_pos hj]
      · rw [if_neg hj, if_neg hj, if_neg hj]
    rw [e0]
    by_cases hl : h.2.2.1 32 v = nI (dp + 1)
    · rw [if_pos hl]
      obtain ⟨w, w1, w2, w3⟩ := ih (N + 1) (by omega) (by omega)
      refine ⟨w, by omega, w2, fun u hu hk => ?_⟩
      have h1 := (hk v (by omega)).mp hl
      exact w3 u h1 (fun k hk' => hk k (by omega))
    · rw [if_neg hl]
      refine ⟨v + 1, Nat.le_refl _, ?_, fun u hu hk => ?_⟩
      · rw [leave_L2, mkV_i39, show (sI h 38 (nI (v + 1))).1 39 = h.1 39 from rfl, h39, nI_pred, mkV_i32, nI_pred, mkV_b39, mkV_s32]
      · rcases Nat.lt_or_ge v u with e | e
        · omega
        · exact absurd ((hk v (by omega)).mpr e) hl
theorem v_beginBlock {q ft : Int32} (h39 : h.1 39 = nI dp) (h42 : h.1 42 = nI ar) (har : ar < 60) (ho : o < 12) (hd : nd < 500) : tModel_beginBlock (mkV h 0 q ft (nI a) (nI o) (nI nd) (nI oc) WT so wh oe tw th nx tk os wa wf) = some (mkV (hBeg (sI h 39 (nI (dp + 1))) ar nd) 0 q ft (nI (a + 1)) (nI (o + 1)) (nI (nd + 1)) (nI oc) WT (upd so nd 10) (upd wh nd 0) (upd oe nd (-1)) (upd tw nd (-1)) (upd th nd (-1)) (upd nx nd (-1)) (upd tk nd (nI (a + 1))) os wa wf) := by
  unfold tModel_beginBlock
  rw [b1S (v_opens ho), mkV_i39, h39, nI_suc, mkV_b39, b2S (v_node hd), b1S (v_begin (show (sI h 39 (nI (dp + 1))).1 42 = nI ar from h42) har)]

end SX
