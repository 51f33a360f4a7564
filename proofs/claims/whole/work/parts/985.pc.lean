/-! All parameters. -/
section PC
variable {n : Nat} {K : Nat → Int32} {p : Nat → Nat} {V : Nat → Int64} {g h : St} {co op sz so wh oe tw th nx tk os wa wf : Nat → Int32} {l nd oc ar T0 fC0 : Nat} {WT : Int32} {S : Nat → Prop}
theorem kh_tkm {h' : St} (k : KeepH h h') (T : TkM h' n K p V) : TkM h n K p V := by
  have s := frm_same k.2.2.2.2.2.2.2.2.2.2
  exact tkm_keep ⟨s.1.symm, s.2.1.symm, s.2.2.1.symm, s.2.2.2.1.symm, s.2.2.2.2.1.symm, s.2.2.2.2.2.symm⟩ T
theorem par_all (h42 : h.1 42 = nI ar) (har : ar ≤ 40) (hoc : oc ≤ 40) (hnd : nd ≤ 400) (hl : l ≤ 440) :
    ∀ (r N M i a : Nat) (c m : St), PL n K p V g h co op sz so wh oe tw th nx tk os wa wf l nd oc WT S T0 fC0 i a c m → n - a ≤ r → 2 * r + 1 < N → 5 * r + 30 < M → i < a →
      (∃ i' a' c' m', tGrammar_parameters_L N 1 c (nI i) = some (nI i', c') ∧ tModel_parameters_L M 5 m (nI i) 0 = b1 (tModel_need m' 41) (fun u4 => some (nI i', u4)) ∧ PL n K p V g h co op sz so wh oe tw th nx tk os wa wf l nd oc WT S T0 fC0 i' a' c' m' ∧ ¬ K a' = 44 ∧ a ≤ a' ∧ i' < a') ∨
      (∃ r' q', KB2 g n r' q' (tGrammar_parameters_L N 1 c (nI i)) ∧ KM2 h n 10 r' q' (tModel_parameters_L M 5 m (nI i) 0)) := by
  intro r
  induction r with
  | zero =>
    intro N M i a c m P h1 h2 h3 hia
    obtain ⟨N, rfl⟩ : ∃ j, N = j + 1 := ⟨N - 1, by omega⟩
    obtain ⟨M, rfl⟩ : ∃ j, M = j + 2 := ⟨M - 2, by omega⟩
    obtain ⟨g', h', tv, vc, vm, fC, fM, ag, rfl, rfl, B, L, kG, kH, hag, hfC, hF, hvi, ha⟩ := id P
    have hn := B.2.1.1.1
    have hk0 : K a = 0 := B.2.1.1.2 a (by omega)
    left
    refine ⟨i, a, _, _, ?_, ?_, P, by rw [hk0]; decide, Nat.le_refl _, hia⟩
    · rw [par_L1]
      unfold tGrammar_parameters_b1
      rw [if_neg (show ¬ (220 : Int32) ≤ nI i from fun e => absurd ((nI_leI (a := 220) (by omega) (by omega)).mp e) (by omega)), b1S (w_kind B.1 ha), if_neg (by rw [hk0]; decide)]
    · rw [mpar_L5]
      unfold tModel_parameters_b5
      rw [b1S (v_sees B.2.1 ha wd44), if_neg (show ¬ K a = 44 by rw [hk0]; decide), if_pos rfl, mpar_L2]
      unfold tModel_parameters_b2
      rw [if_pos rfl]
  | succ r ih =>
    intro N M i a c m P h1 h2 h3 hia
    obtain ⟨N, rfl⟩ : ∃ j, N = j + 2 := ⟨N - 2, by omega⟩
    obtain ⟨M, rfl⟩ : ∃ j, M = j + 2 := ⟨M - 2, by omega⟩
    obtain ⟨g', h', tv, vc, vm, fC, fM, ag, rfl, rfl, B, L, kG, kH, hag, hfC, hF, hvi, ha⟩ := id P
    have hn := B.2.1.1.1
    by_cases h44 : K a = 44
    · have ha1 := kz_lt B.1 h44 (by decide)
      have P1 : PL n K p V g h co op sz so wh oe tw th nx tk os wa wf l nd oc WT S T0 fC0 i (a + 1) (mkW g' 0 (-1) (wn n p fC) (nI (a + 1)) (nI 0) (nI l) co op sz) (mkV h' 0 (-1) (ftk n fM) (nI (a + 1)) (nI 0) (nI nd) (nI oc) WT so wh oe tw th nx tk os wa wf) := ⟨g', h', tv, vc, vm, fC, fM, ag, rfl, rfl, B, L, kG, kH, by rcases hag with e | e; exact Or.inl e; right; omega, hfC, hF, hvi, by omega⟩
      have ec : tGrammar_parameters_L (N + 2) 1 (mkW g' 0 (-1) (wn n p fC) (nI a) (nI 0) (nI l) co op sz) (nI i) = b1 (if i < 4 then tGrammar_parameter (mkW g' 0 (-1) (wn n p fC) (nI (a + 1)) (nI 0) (nI l) co op sz) else b1 (tVariables_mustNotMake (mkW g' 0 (-1) (wn n p fC) (nI (a + 1)) (nI 0) (nI l) co op sz) (nI (a + 1 + 1))) (fun u => tGrammar_parameter u)) (fun u8 => tGrammar_parameters_L N 1 u8 (nI (i + 1))) := by
        have e2 : ∀ u : St, tGrammar_parameters_L (N + 1) 2 u (nI i) = b1 (tGrammar_parameter u) (fun u8 => tGrammar_parameters_L N 1 u8 (nI (i + 1))) := by
          intro u
          rw [par_L2]
          unfold tGrammar_parameters_b2
          rw [nI_suc]
        rw [par_L1]
        unfold tGrammar_parameters_b1
        rw [if_neg (show ¬ (220 : Int32) ≤ nI i from fun e => absurd ((nI_leI (a := 220) (by omega) (by omega)).mp e) (by omega)), b1S (w_kind B.1 ha), if_pos h44, b1S (w_pass B.1 ha h44)]
        by_cases h4 : i < 4
        · rw [if_pos (show nI i < 4 from (nI_ltI (b := 4) (by omega) (by omega)).mpr h4), if_pos h4, e2]
        · rw [if_neg (show ¬ nI i < 4 from fun e => h4 ((nI_ltI (b := 4) (by omega) (by omega)).mp e)), if_neg h4, mkW_i6, nI_suc]
          cases tVariables_mustNotMake (mkW g' 0 (-1) (wn n p fC) (nI (a + 1)) (nI 0) (nI l) co op sz) (nI (a + 1 + 1)) with
          | none => rfl
          | some u => exact e2 u
      have em : tModel_parameters_L (M + 2) 5 (mkV h' 0 (-1) (ftk n fM) (nI a) (nI 0) (nI nd) (nI oc) WT so wh oe tw th nx tk os wa wf) (nI i) 0 = tModel_parameters_L (M + 1) 2 (mkV h' 0 (-1) (ftk n fM) (nI (a + 1)) (nI 0) (nI nd) (nI oc) WT so wh oe tw th nx tk os wa wf) (nI i) 1 := by
        rw [mpar_L5]
        unfold tModel_parameters_b5
        rw [b1S (v_sees B.2.1 ha wd44), if_pos h44, if_neg (by decide), mkV_i29, if_pos rfl, mkV_i31, nI_suc, mkV_s31]
      rw [ec, em]
      rcases par_step (N := M + 1) h42 har hoc hnd hl (by omega) (by omega) P1 with ⟨c', m', e1, ⟨M', e2, e3⟩, P2⟩ | ⟨r', q', e1, e2⟩
      · rw [e1, b1S rfl, e3]
        rcases ih N M' (i + 1) (a + 1 + 2) c' m' P2 (by omega) (by omega) (by omega) (by omega) with ⟨i', a', c2, m2, q1, q2, q3, q4, q5, q6⟩ | hb
        · exact Or.inl ⟨i', a', c2, m2, q1, q2, q3, q4, by omega, q6⟩
        · exact Or.inr hb
      · right
        refine ⟨r', q', kb12 e1 fun u hu => ?_, e2⟩
        rcases Nat.lt_or_ge 0 N with hN | hN
        · exact kb_params_L hu hN
        · omega
    · left
      refine ⟨i, a, _, _, ?_, ?_, P, h44, Nat.le_refl _, hia⟩
      · rw [par_L1]
        unfold tGrammar_parameters_b1
        rw [if_neg (show ¬ (220 : Int32) ≤ nI i from fun e => absurd ((nI_leI (a := 220) (by omega) (by omega)).mp e) (by omega)), b1S (w_kind B.1 ha), if_neg h44]
      · rw [mpar_L5]
        unfold tModel_parameters_b5
        rw [b1S (v_sees B.2.1 ha wd44), if_neg h44, if_pos rfl, mpar_L2]
        unfold tModel_parameters_b2
        rw [if_pos rfl]
/-- from behind "(" to behind ")" -/
theorem par_both {a : Nat} {c m : St} (h42 : h.1 42 = nI ar) (har : ar ≤ 40) (hoc : oc ≤ 40) (hnd : nd ≤ 400) (hl : l ≤ 440) (ha1 : 1 ≤ a) (P : PL n K p V g h co op sz so wh oe tw th nx tk os wa wf l nd oc WT S T0 fC0 0 a c m) :
    (∃ i a' c' m', (b1 (tCursor_kind c) (fun r3 => if r3 = 41 then some ((0 : Int32), c) else tGrammar_parameters c)) = some (nI i, c') ∧ tModel_parameters m = b1 (tModel_need m' 41) (fun u4 => some (nI i, u4)) ∧ PL n K p V g h co op sz so wh oe tw th nx tk os wa wf l nd oc WT S T0 fC0 i a' c' m' ∧ a ≤ a' ∧ i < 1000) ∨
    (∃ r q, KB2 g n r q (b1 (tCursor_kind c) (fun r3 => if r3 = 41 then some ((0 : Int32), c) else tGrammar_parameters c)) ∧ KM2 h n 10 r q (tModel_parameters m)) := by
  obtain ⟨g', h', tv, vc, vm, fC, fM, ag, rfl, rfl, B, L, kG, kH, hag, hfC, hF, hvi, ha⟩ := id P
  have hn := B.2.1.1.1
  rw [b1S (w_kind B.1 ha)]
  unfold tModel_parameters
  rw [b1S (v_sees B.2.1 ha wd41)]
  by_cases h41 : K a = 41
  · left
    rw [if_pos h41, if_pos h41, if_neg (by decide), mpar_L1 1999, mpar_L2 1998]
    unfold tModel_parameters_b2
    rw [if_pos rfl]
    exact ⟨0, a, _, _, rfl, rfl, P, Nat.le_refl _, by omega⟩
  · rw [if_neg h41, if_neg h41, if_pos rfl, mpar_L1 1999]
    unfold tGrammar_parameters
    rcases par_step (N := 1999) h42 har hoc hnd hl (show 0 < 1000 by omega) (by omega) P with ⟨c', m', e1, ⟨M', e2, e3⟩, P2⟩ | ⟨r', q', e1, e2⟩
    · rw [if_pos (by omega)] at e1
      rw [b1S e1]
      have e3' : tModel_parameters_L 1999 2 (mkV h' 0 (-1) (ftk n fM) (nI a) (nI 0) (nI nd) (nI oc) WT so wh oe tw th nx tk os wa wf) 0 1 = tModel_parameters_L M' 5 m' (nI (0 + 1)) 0 := e3
      rw [e3']
      rcases par_all h42 har hoc hnd hl (n - (a + 2)) 2000 M' 1 (a + 2) c' m' P2 (Nat.le_refl _) (by omega) (by omega) (by omega) with ⟨i', a', c2, m2, q1, q2, q3, q4, q5, q6⟩ | ⟨r', q', b1, b2⟩
      · have hi : i' < 1000 := by
          obtain ⟨-, -, -, -, -, -, -, -, -, -, BB, -, -, -, -, -, -, -, hh⟩ := q3
          omega
        exact Or.inl ⟨i', a', c2, m2, q1, q2, q3, by omega, hi⟩
      · exact Or.inr ⟨r', q', b1, b2⟩
    · right
      rw [if_pos (by omega)] at e1
      exact ⟨r', q', kb12 e1 fun u hu => kb_params_L hu (by omega), e2⟩
end PC
