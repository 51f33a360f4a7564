/-! An array behind a refusal. -/
section AR
variable {n : Nat} {g c : St} {r q : Int32}
theorem kb_arr3 {N : Nat} {t x2 : Int32} {y : Int64} (hb : CBad g n r q c) : KB g n r q (tGlobals_makeArray_L (N + 1) 3 c t x2 y) := by
  obtain ⟨z, hz⟩ := cb_place (x := t) hb
  rw [mkA_L3]
  unfold tGlobals_makeArray_b3
  rw [b1S hz, b1_id]
  exact kb_blame hb
theorem kb_arr2 {N : Nat} {t x2 : Int32} {y : Int64} (hb : CBad g n r q c) : KB g n r q (tGlobals_makeArray_L (N + 2) 2 c t x2 y) := by
  rw [mkA_L2]
  unfold tGlobals_makeArray_b2
  split
  · exact kb_arr3 hb
  rcases tot_new (t := t) hb with e | e
  · rw [b1S e, if_pos rfl]; exact kb_arr3 hb
  · rw [b1S e, if_neg (by decide)]
    exact kb1 (kb_gadd hb (Or.inl rfl)) fun u hu => kbs (cb_sI hu (by omega))
theorem kb_arr1 {N : Nat} {t x2 : Int32} {y : Int64} (hb : CBad g n r q c) : KB g n r q (tGlobals_makeArray_L (N + 3) 1 c t x2 y) := by
  obtain ⟨z, hz⟩ := cb_place (x := x2) hb
  rw [mkA_L1]
  unfold tGlobals_makeArray_b1
  rw [b1S hz]
  exact kb1 (kb_blame hb) fun u hu => kb_arr2 hu
theorem kb_makeArr {t x2 : Int32} (hb : CBad g n r q c) : KB g n r q (tGlobals_makeArray c t x2) := by
  obtain ⟨y, hy⟩ := cb_value (x := x2) hb
  unfold tGlobals_makeArray
  rw [b1S hy]
  split
  · exact kb_arr1 (N := 1997) hb
  split
  · exact kb_arr2 (N := 1998) hb
  · exact kb_arr1 (N := 1997) hb
theorem kb_array {t : Int32} (hb : CBad g n r q c) : KB g n r q (tGrammar_array c t) := by
  unfold tGrammar_array
  exact kb1 (kb_open hb (by decide)) fun u hu => kb1 (kb_makeArr hu) fun u hu => kb1 (kb_pass hu (by decide)) fun u hu => kb1 (kb_closing hu (by decide)) fun u hu => kb1 (kb_pass hu (by decide)) fun u hu => kbs hu
end AR
