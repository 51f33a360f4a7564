/-! A part behind a refusal. -/
section PRB
variable {n : Nat} {g c : St} {r q : Int32}
theorem kb_params (hb : CBad g n r q c) : KB2 g n r q (tGrammar_parameters c) := by
  rw [par_first]
  exact kb12 (kb_param hb) fun u hu => kb_params_L hu
theorem kb_function {t : Int32} (hb : CBad g n r q c) : KB g n r q (tGrammar_function c t) := by
  have h1 : CBad g n r q (sI (sI c 8 0) 9 0) := cb_s9 (v := 0) (cb_s8 (v := 0) hb (by omega)) (by omega)
  unfold tGrammar_function tVariables_startFunction
  rw [b1S rfl]
  refine kb1 (kb_pass h1 (by decide)) fun u hu => ?_
  rw [b1S (cb_kind hu), if_neg (by decide)]
  exact kb21 (kb_params hu) fun _ u hu => kb_funL hu (by omega)
theorem kb_part (hb : CBad g n r q c) : KB g n r q (tGrammar_part c) := by
  unfold tGrammar_part
  refine kb1 (kb_pass hb (by decide)) fun u hu => kb1 (kb_pass hu (by decide)) fun u' hu => ?_
  rw [b1S (cb_kind hu), if_neg (by decide)]
  exact kb1 (kb_function hu) fun u hu => kbs hu
theorem rw_L1 (N : Nat) (σ : St) (x1 : Int32) : tGrammar_readWhole_L (N + 1) 1 σ x1 = tGrammar_readWhole_b1 (tGrammar_readWhole_L N) σ x1 := rfl
theorem kb_readWhole_L {N : Nat} {x : Int32} (hb : CBad g n r q c) (hN : 0 < N) : KB g n r q (tGrammar_readWhole_L N 1 c x) := by
  obtain ⟨N, rfl⟩ : ∃ j, N = j + 1 := ⟨N - 1, by omega⟩
  rw [rw_L1]
  unfold tGrammar_readWhole_b1
  split
  · exact kbs hb
  · rw [b1S (cb_kind hb), if_pos rfl]
    exact kbs hb
end PRB
