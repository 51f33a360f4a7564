/-! All parameters. -/
section PC
variable {n : Nat} {K : Nat → Int32} {p : Nat → Nat} {V : Nat → Int64} {g h : St} {co op sz so wh oe tw th nx tk os wa wf : Nat → Int32} {l nd oc ar T0 fC0 : Nat} {WT : Int32} {S : Nat → Prop}
theorem kh_tkm {h' : St} (k : KeepH h h') (T : TkM h' n K p V) : TkM h n K p V := by
  have s := frm_same k.2.2.2.2.2.2.2.2.2.2
  exact tkm_keep ⟨s.1.symm, s.2.1.symm, s.2.2.1.symm, s.2.2.2.1.symm, s.2.2.2.2.1.symm, s.2.2.2.2.2.symm⟩ T
theorem par_all (h42 : h.1 42 = nI ar) (har : ar ≤ 40) (hoc : oc ≤ 40) (hnd : nd ≤ 400) (hl : l ≤ 440) :
    ∀ (r N M i a : Nat) (c m : St), PL n K p V g h co op sz so wh oe tw th nx tk os wa wf l nd oc WT S T0 fC0 i a c m → n - a ≤ r → 3 * r ≤ N → 5 * r + 30 < M → i < a → 0 < i →
      (∃ i' a' c' m', parTail N i c = some (nI i', c') ∧ tModel_parameters_L M 5 m (nI i) 0 = b1 (tModel_need m' 41) (fun u4 => some (nI i', u4)) ∧ PL n K p V g h co op sz so wh oe tw th nx tk os wa wf l nd oc WT S T0 fC0 i' a' c' m' ∧ ¬ K a' = 44 ∧ a ≤ a' ∧ i' < a') ∨
      (∃ r' q', KB2 g n r' q' (parTail N i c) ∧ KM2 h n 10 r' q' (tModel_parameters_L M 5 m (nI i) 0)) := by
  intro r
  induction r with
  | zero =>
    intro N M i a c m P h1 h2 h3 hia hi0
    obtain ⟨M, rfl⟩ : ∃ j, M = j + 2 := ⟨M - 2, by omega⟩
    obtain ⟨g', h', tv, vc, vm, fC, fM, ag, rfl, rfl, B, L, kG, kH, hag, hfC, hF, hvi, ha⟩ := id P
    have hn := B.2.1.1.1
    have hk0 : K a = 0 := B.2.1.1.2 a (by omega)
    left
    refine ⟨i, a, _, _, ?_, ?_, P, by rw [hk0]; decide, Nat.le_refl _, hia⟩
    · unfold parTail
      rw [if_neg (show ¬ (220 : Int32) ≤ nI i from fun e => absurd ((nI_leI (a := 220) (by omega) (by omega)).mp e) (by omega)), b1S (w_kind B.1 ha), if_neg (by rw [hk0]; decide)]
    · rw [mpar_L5]
      unfold tModel_parameters_b5
      rw [b1S (v_sees B.2.1 ha wd44), if_neg (show ¬ K a = 44 by rw [hk0]; decide), if_pos rfl, mpar_L2]
      unfold tModel_parameters_b2
      rw [if_pos rfl]
  | succ r ih =>
    intro N M i a c m P h1 h2 h3 hia hi0
    obtain ⟨N, rfl⟩ : ∃ j, N = j + 3 := ⟨N - 3, by omega⟩
    obtain ⟨M, rfl⟩ : ∃ j, M = j + 2 := ⟨M - 2, by omega⟩
    obtain ⟨g', h', tv, vc, vm, fC, fM, ag, rfl, rfl, B, L, kG, kH, hag, hfC, hF, hvi, ha⟩ := id P
    have hn := B.2.1.1.1
    by_cases h44 : K a = 44
    · have ha1 := kz_lt B.1 h44 (by decide)
      have P1 : PL n K p V g h co op sz so wh oe tw th nx tk os wa wf l nd oc WT S T0 fC0 i (a + 1) (mkW g' 0 (-1) (wn n p fC) (nI (a + 1)) (nI 0) (nI l) co op sz) (mkV h' 0 (-1) (ftk n fM) (nI (a + 1)) (nI 0) (nI nd) (nI oc) WT so wh oe tw th nx tk os wa wf) := ⟨g', h', tv, vc, vm, fC, fM, ag, rfl, rfl, B, L, kG, kH, by rcases hag with e | e; exact Or.inl e; right; omega, hfC, hF, hvi, by omega⟩
      have ec : parTail (N + 3) i (mkW g' 0 (-1) (wn n p fC) (nI a) (nI 0) (nI l) co op sz) = b1 (parOne i (mkW g' 0 (-1) (wn n p fC) (nI (a + 1)) (nI 0) (nI l) co op sz)) (fun u => parTail N (i + 1) u) := by
        rw [← par_mid N i _ (by omega)]
        unfold parTail
        rw [if_neg (show ¬ (220 : Int32) ≤ nI i from fun e => absurd ((nI_leI (a := 220) (by omega) (by omega)).mp e) (by omega)), b1S (w_kind B.1 ha), if_pos h44, par_L1]
        unfold tGrammar_parameters_b1
        rw [if_neg (show ¬ nI i ≤ 0 from fun e => absurd ((nI_leI (b := 0) (by omega) (by omega)).mp e) (by omega)), b1S (w_pass B.1 ha h44)]
      have em : tModel_parameters_L (M + 2) 5 (mkV h' 0 (-1) (ftk n fM) (nI a) (nI 0) (nI nd) (nI oc) WT so wh oe tw th nx tk os wa wf) (nI i) 0 = tModel_parameters_L (M + 1) 2 (mkV h' 0 (-1) (ftk n fM) (nI (a + 1)) (nI 0) (nI nd) (nI oc) WT so wh oe tw th nx tk os wa wf) (nI i) 1 := by
        rw [mpar_L5]
        unfold tModel_parameters_b5
        rw [b1S (v_sees B.2.1 ha wd44), if_pos h44, if_neg (by decide), mkV_i29, if_pos rfl, mkV_i31, nI_suc, mkV_s31]
      rw [ec, em]
      rcases par_step (N := M + 1) h42 har hoc hnd hl (by omega) (by omega) P1 with ⟨c', m', e1, ⟨M', e2, e3⟩, P2⟩ | ⟨r', q', e1, e2⟩
      · rw [e1, b1S rfl, e3]
        rcases ih N M' (i + 1) (a + 1 + 2) c' m' P2 (by omega) (by omega) (by omega) (by omega) (by omega) with ⟨i', a', c2, m2, q1, q2, q3, q4, q5, q6⟩ | hb
        · exact Or.inl ⟨i', a', c2, m2, q1, q2, q3, q4, by omega, q6⟩
        · exact Or.inr hb
      · right
        exact ⟨r', q', kb12 e1 fun u hu => kb_params_L hu, e2⟩
    · left
      refine ⟨i, a, _, _, ?_, ?_, P, h44, Nat.le_refl _, hia⟩
      · unfold parTail
        rw [if_neg (show ¬ (220 : Int32) ≤ nI i from fun e => absurd ((nI_leI (a := 220) (by omega) (by omega)).mp e) (by omega)), b1S (w_kind B.1 ha), if_neg h44]
      · rw [mpar_L5]
        unfold tModel_parameters_b5
        rw [b1S (v_sees B.2.1 ha wd44), if_neg h44, if_pos rfl, mpar_L2]
        unfold tModel_parameters_b2
        rw [if_pos rfl]
/-- from behind "(" to behind ")" -/
theorem par_both {a : Nat} {c m : St} (h42 : h.1 42 = nI ar) (har : ar ≤ 40) (hoc : oc ≤ 40) (hnd : nd ≤ 400) (hl : l ≤ 440) (ha1 : 1 ≤ a) (P : PL n K p V g h co op sz so wh oe tw th nx tk os wa wf l nd oc WT S T0 fC0 0 a c m) :
    (∃ i a' c' m', (b1 (tCursor_kind c) (fun r3 => if r3 = 41 then some ((0 : Int32), c) else tGrammar_parameters c)) = some (nI i, c') ∧ tModel_parameters m = b1 (tModel_need m' 41) (fun u4 => some (nI i, u4)) ∧ PL n K p V g h co op sz so wh oe tw th nx tk os wa wf l nd oc WT S T0 fC0 i a' c' m' ∧ a ≤ a' ∧ i < 1000) ∨
    (∃ r q, KB2 g n r q (b1 (tCursor_kind c) (fun r3 => if r3 = 41 then some ((0 : Int32), c) else tGrammar_parameters c)) ∧ KM2 h n 10 r q (tModel_parameters m)) := by
  obtain ⟨g', h', tv, vc, vm, fC, fM, ag, rfl, rfl, B, L, kG, kH, hag, hfC, hF, hvi, ha⟩ := id P
  have hn := B.2.1.1.1
  rw [b1S (w_kind B.1 ha)]
  unfold tModel_parameters
  rw [b1S (v_sees B.2.1 ha wd41)]
  by_cases h41 : K a = 41
  · left
    rw [if_pos h41, if_pos h41, if_neg (by decide), mpar_L1 1999, mpar_L2 1998]
    unfold tModel_parameters_b2
    rw [if_pos rfl]
    exact ⟨0, a, _, _, rfl, rfl, P, Nat.le_refl _, by omega⟩
  · rw [if_neg h41, if_neg h41, if_pos rfl, mpar_L1 1999]
    rw [par_first]
    rcases par_step (N := 1999) h42 har hoc hnd hl (show 0 < 1000 by omega) (by omega) P with ⟨c', m', e1, ⟨M', e2, e3⟩, P2⟩ | ⟨r', q', e1, e2⟩
    · rw [b1S e1]
      have e3' : tModel_parameters_L 1999 2 (mkV h' 0 (-1) (ftk n fM) (nI a) (nI 0) (nI nd) (nI oc) WT so wh oe tw th nx tk os wa wf) 0 1 = tModel_parameters_L M' 5 m' (nI (0 + 1)) 0 := e3
      rw [e3']
      rcases par_all h42 har hoc hnd hl (n - (a + 2)) 1997 M' 1 (a + 2) c' m' P2 (Nat.le_refl _) (by omega) (by omega) (by omega) (by omega) with ⟨i', a', c2, m2, q1, q2, q3, q4, q5, q6⟩ | ⟨r', q', b1, b2⟩
      · have hi : i' < 1000 := by
          obtain ⟨-, -, -, -, -, -, -, -, -, -, BB, -, -, -, -, -, -, -, hh⟩ := q3
          omega
        exact Or.inl ⟨i', a', c2, m2, q1, q2, q3, by omega, hi⟩
      · exact Or.inr ⟨r', q', b1, b2⟩
    · right
      exact ⟨r', q', kb12 e1 fun u hu => kb_params_L hu, e2⟩
end PC
