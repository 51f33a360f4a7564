/-! A part, and all parts. -/
section PZ
variable {n : Nat} {K : Nat → Int32} {p : Nat → Nat} {V : Nat → Int64} {g0 h0 : St}
theorem mpt_L1 (N : Nat) (σ : St) : tModel_part_L (N + 1) 1 σ = tModel_part_b1 (tModel_part_L N) σ := rfl
theorem part_both {c m : St} {a : Nat} (P : TP n K p V g0 h0 c m a) :
    (∃ (c' m' : St) (a' : Nat), tGrammar_part c = some c' ∧ tModel_part m = some m' ∧ TP n K p V g0 h0 c' m' a' ∧ a < a') ∨
    (∃ r y, KB g0 n r y (tGrammar_part c) ∧ KM h0 n 10 r y (tModel_part m)) := by
  obtain ⟨g, h, tg, q, na, nf, fC, fM, l, nd, oc, wt, ar, co, op, sz, so, wh, oe, tw, th, nx, tk, os, wa, wf, rfl, rfl, T, TM, R, h89, hm, Fc, Fm, hb, hF, hE, hA, hN⟩ := P
  have hn := TM.1.1
  have TM0 := frm_back Fm TM
  have hcb : ∀ (y w A O : Int32), CBad g0 n 3 y (mkW g 3 y w A O (nI l) co op sz) := fun y w A O => cb_base Fc ⟨frc_mkW (frc_refl g), rfl, rfl, by decide, ⟨T.1, T.2.1⟩, h89.1, h89.2, ⟨l, by omega, rfl⟩, ⟨q, R.2.2.1.2.1, R.1.1⟩⟩
  have hmb : ∀ (y ft O w : Int32) (A : Nat), A ≤ n → MBad h0 n 10 3 y (mkV h 3 y ft (nI A) O (nI nd) (nI oc) w so wh oe tw th nx tk os wa wf) := fun y ft O w A hA => mb_mkV Fm (by decide) hA (by omega) hm.2.2 hm.1 (by omega)
  have tail : ∀ (u : St) (r y t : Int32), CBad g0 n r y u → KB g0 n r y (b1 (tCursor_kind u) (fun r3 => if r3 = 91 then b1 (tGrammar_array u t) (fun u6 => some u6) else b1 (tGrammar_function u t) (fun u5 => some u5))) := fun u r y t hu => by
    rw [b1S (cb_kind hu), if_neg (by decide)]
    exact kb1 (kb_function hu) fun u hu => kbs hu
  unfold tGrammar_part tModel_part
  by_cases h3 : K a = 3
  · have ha := kz_lt T h3 (by decide)
    rw [b1S (w_pass T (by omega) h3), b1S (v_need TM (by omega) wd3 h3), mkV_i29, if_pos rfl, mkV_i31, gdT (inI (by omega) (by omega)), tc_nI (by omega), mkV_r16, mkW_i6]
    by_cases h1 : K (a + 1) = 1
    · have ha1 := kz_lt T h1 (by decide)
      rw [b1S (w_pass T (by omega) h1), if_pos ((TM.2.2.1 (a + 1) (by omega)).1.mpr h1), mpt_L1 1999, b1S (w_kind T (by omega))]
      unfold tModel_part_b1
      rw [mkV_i29, if_pos rfl, mkV_i31, nI_suc, mkV_s31, b1S (v_sees TM (by omega) wd91)]
      by_cases h91 : K (a + 1 + 1) = 91
      · rw [if_pos h91, if_pos h91, if_neg (by decide), b1_id, b1_id]
        exact arr_both T TM R h89 hm Fc Fm hb (frel_nh hF rfl rfl rfl) hE hA hN h1 h91
      · rw [if_neg h91, if_neg h91, if_pos rfl, b1S (v_sees TM (by omega) wd40), b1_id]
        by_cases h40 : K (a + 1 + 1) = 40
        · rw [if_pos h40, if_neg (by decide), b1_id]
          exact fun_both T TM R hm Fc Fm hb (frel_nh hF rfl rfl rfl) hE hA hN h1 h40
        · right
          rw [if_neg h40, if_pos rfl, b1_id, v_spoil TM (by omega)]
          refine ⟨3, nI (p (a + 1 + 1)), ?_, kms (hmb _ _ _ _ _ (by omega))⟩
          have Fg : FrC g (sI (sI g 8 0) 9 0) := frc_sI (frc_sI (frc_refl g) (by omega)) (by omega)
          unfold tGrammar_function tVariables_startFunction
          rw [b1S rfl, mkW_b8, mkW_b9, b1S (w_passN (tkc_keep T Fg) (by omega) h40)]
          have hcb2 : CBad g0 n 3 (nI (p (a + 1 + 1))) (mkW (sI (sI g 8 0) 9 0) 3 (nI (p (a + 1 + 1))) (wn n p fC) (nI (a + 1 + 1)) (nI 0) (nI l) co op sz) := cb_base (frc_trans Fc Fg) ⟨frc_mkW (frc_refl _), rfl, rfl, by decide, ⟨T.1, T.2.1⟩, ⟨0, by omega, rfl⟩, ⟨0, by omega, rfl⟩, ⟨l, by omega, rfl⟩, ⟨q, R.2.2.1.2.1, R.1.1⟩⟩
          rw [b1S (cb_kind hcb2), if_neg (by decide)]
          refine kb21 ?_ fun x u hu => kb_funL hu (by omega)
          rw [par_first]
          exact kb12 (kb_param hcb2) fun u hu => kb_params_L hu
    · right
      rw [b1S (w_passN T (by omega) h1), if_neg (fun e => h1 ((TM.2.2.1 (a + 1) (by omega)).1.mp e)), b1S (v_spoil TM (by omega)), mpt_L1 1999]
      unfold tModel_part_b1
      rw [mkV_i29, if_neg (by decide)]
      exact ⟨3, nI (p (a + 1)), tail _ _ _ _ (hcb _ _ _ _), kms (hmb _ _ _ _ _ (by omega))⟩
  · right
    rw [b1S (w_passN T (by omega) h3), b1S (v_needN TM (by omega) wd3 h3), mkV_i29, if_neg (by decide), mpt_L1 1999]
    unfold tModel_part_b1
    rw [mkV_i29, if_neg (by decide)]
    exact ⟨3, nI (p a), kb1 (kb_pass (hcb _ _ _ _) (by decide)) fun u hu => tail _ _ _ _ hu, kms (hmb _ _ _ _ _ (by omega))⟩
theorem mrd_L2 (N : Nat) (σ : St) (x1 : Int32) : tModel_read_L (N + 1) 2 σ x1 = tModel_read_b2 (tModel_read_L N) σ x1 := rfl
theorem mrd_L3 (N : Nat) (σ : St) (x1 : Int32) : tModel_read_L (N + 1) 3 σ x1 = tModel_read_L N 4 σ 0 := rfl
theorem mrd_L4 (N : Nat) (σ : St) (x1 : Int32) : tModel_read_L (N + 1) 4 σ x1 = tModel_read_L N 2 σ x1 := rfl
theorem read_all : ∀ (r N M i a : Nat) (c m : St), TP n K p V g0 h0 c m a → n - a < r → r < N → 2 * r + 10 < M → i ≤ a + 1 →
    (∃ (c' m' : St) (a' M' : Nat), b1 (tGrammar_part c) (fun u3 => tGrammar_readWhole_L N 1 u3 (nI i)) = some c' ∧ tModel_read_L M 2 m 1 = tModel_read_L (M' + 1) 2 m' 0 ∧ TP n K p V g0 h0 c' m' a' ∧ K a' = 0) ∨
    (∃ r y, KB g0 n r y (b1 (tGrammar_part c) (fun u3 => tGrammar_readWhole_L N 1 u3 (nI i))) ∧ KM h0 n 10 r y (tModel_read_L M 2 m 1)) := by
  intro r
  induction r with
  | zero => intro N M i a c m P h1; omega
  | succ r ih =>
    intro N M i a c m P h1 h2 h3 hi
    obtain ⟨N, rfl⟩ : ∃ j, N = j + 1 := ⟨N - 1, by omega⟩
    obtain ⟨M, rfl⟩ : ∃ j, M = j + 5 := ⟨M - 5, by omega⟩
    rcases part_both P with ⟨c', m', a', e1, e2, P', hlt⟩ | ⟨r', y, k1, k2⟩
    · have em : tModel_read_L (M + 5) 2 m 1 = (if K a' = 0 then tModel_read_L (M + 1 + 1) 2 m' 0 else tModel_read_L (M + 3) 2 m' 1) := by
        rw [mrd_L2]
        unfold tModel_read_b2
        rw [if_neg (by decide), b1S e2]
        obtain ⟨g, h, tg, q, na, nf, fC, fM, l, nd, oc, wt, ar, co, op, sz, so, wh, oe, tw, th, nx, tk, os, wa, wf, -, rfl, T, TM, R, h89, hm, Fc, Fm, hb, -⟩ := P'
        have hn := TM.1.1
        rw [mkV_i29, if_pos rfl, mkV_i31, gdT (inI (by omega) (by omega)), tc_nI (by omega), mkV_r16]
        by_cases hk : K a' = 0
        · rw [if_pos hk, if_pos ((TM.2.2.1 a' (by omega)).2.2.mpr hk), mrd_L3, mrd_L4]
        · rw [if_neg hk, if_neg (fun e => hk ((TM.2.2.1 a' (by omega)).2.2.mp e)), mrd_L4]
      have hn : n ≤ 220 ∧ a' ≤ n ∧ (K a' = 0 ∨ a' < n) ∧ tCursor_kind c' = some (K a') := by
        obtain ⟨g, h, tg, q, na, nf, fC, fM, l, nd, oc, wt, ar, co, op, sz, so, wh, oe, tw, th, nx, tk, os, wa, wf, rfl, -, T, TM, R, h89, hm, Fc, Fm, hb, -⟩ := P'
        refine ⟨TM.1.1, hb.1, ?_, w_kind T hb.1⟩
        rcases Nat.lt_or_ge a' n with e | e
        · exact Or.inr e
        · exact Or.inl (TM.1.2 a' e)
      obtain ⟨hn1, hn2, hn3, ek⟩ := hn
      rw [b1S e1, em, rw_L1]
      unfold tGrammar_readWhole_b1
      by_cases hk : K a' = 0
      · left
        rw [if_pos hk]
        refine ⟨c', m', a', M + 1, ?_, rfl, P', hk⟩
        split
        · rfl
        · rw [b1S ek, if_pos hk]
      · have hlt2 : a' < n := by rcases hn3 with e | e; exact absurd e hk; exact e
        rw [if_neg hk, if_neg (show ¬ (220 : Int32) ≤ nI i from fun e => absurd ((nI_leI (a := 220) (by omega) (by omega)).mp e) (by omega)), b1S ek, if_neg hk, nI_suc]
        exact ih N (M + 3) (i + 1) a' c' m' P' (by omega) (by omega) (by omega) (by omega)
    · right
      refine ⟨r', y, kb1 k1 fun u hu => kb_readWhole_L hu (by omega), ?_⟩
      obtain ⟨u, w1, w2⟩ := k2
      rw [mrd_L2]
      unfold tModel_read_b2
      rw [if_neg (by decide), b1S w1, w2.2.1, if_neg w2.2.2.2.1, mrd_L3, mrd_L4, mrd_L2]
      unfold tModel_read_b2
      rw [if_pos rfl, w2.2.1, if_neg w2.2.2.2.1]
      exact kms w2
end PZ
