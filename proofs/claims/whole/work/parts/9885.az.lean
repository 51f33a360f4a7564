/-! An array, both sides. -/
theorem v32 {v : Int64} (h0 : 0 ≤ v.toInt) (h1 : v.toInt ≤ 2147483647) : v.toInt32.toInt = v.toInt := by
  rw [Int64.toInt_toInt32, bm32 (by omega) (by omega)]
theorem v32_lt1 {v : Int64} (h0 : 0 ≤ v.toInt) (h1 : v.toInt ≤ 2147483647) : v.toInt32 < 1 ↔ v.toInt < 1 := by
  rw [Int32.lt_iff_toInt_lt, v32 h0 h1]
  exact Iff.rfl
theorem v32_le16 {v : Int64} (h0 : 0 ≤ v.toInt) (h1 : v.toInt ≤ 2147483647) : v.toInt32 ≤ 16 ↔ v.toInt ≤ 16 := by
  rw [Int32.le_iff_toInt_le, v32 h0 h1]
  exact Iff.rfl
theorem v32_nI {v : Int64} (h0 : 0 ≤ v.toInt) (h1 : v.toInt ≤ 2147483647) : v.toInt32 = nI v.toInt.toNat := by
  apply Int32.toInt_inj.mp
  rw [v32 h0 h1, ti_nI (by omega)]
  omega
section AZ
variable {n : Nat} {K : Nat → Int32} {p : Nat → Nat} {V : Nat → Int64} {g h g0 h0 : St} {tg : Nat → Nat} {q na nf fC fM a l nd oc wt ar : Nat} {co op sz so wh oe tw th nx tk os wa wf : Nat → Int32}
theorem w_val_any {r y w : Int32} {t o b : Nat} (T : TkC g n K p V) (hb : b < 1000) : ∃ v, tTokens_valueOf (mkW g r y w (nI t) (nI o) (nI l) co op sz) (nI b) = some v ∧ (b < n → v = V b) := by
  by_cases hbn : b < n
  · exact ⟨V b, w_value T hbn, fun _ => rfl⟩
  · refine ⟨0, ?_, fun e => absurd e hbn⟩
    have h4 : (mkW g r y w (nI t) (nI o) (nI l) co op sz).1 4 = nI n := T.1
    have hn := T.2.1
    unfold tTokens_valueOf
    rw [if_neg (nI_nneg (by omega)), h4, if_pos ((nI_leI (by omega) (by omega)).mpr (by omega))]
theorem arr_made {A O b t : Nat} (X : Nat) (T : TkC g n K p V) (R : GR n K V g h tg q na nf) (ht : t < n) (hb : b ≤ n) (hX : fC ≤ X) :
    ∃ (g3 : St) (T1 T2 : Nat) (z : Int32), tGlobals_makeArray (mkW g 0 (-1) (wn n p fC) (nI A) (nI O) (nI l) co op sz) (nI t) (nI b) = some (mkW g3 0 (-1) (wn n p (min (min fC T1) T2)) (nI A) (nI O) (nI l) co op sz) ∧ FrC g g3 ∧ g3.1 8 = g.1 8 ∧ g3.1 9 = g.1 9 ∧ (∃ c, c ≤ 12 ∧ g3.1 10 = nI c) ∧ (b < n → (1 ≤ (V b).toInt ∧ (V b).toInt ≤ 16 ∧ T1 = X ∧ z = (V b).toInt32) ∨ (¬ (1 ≤ (V b).toInt ∧ (V b).toInt ≤ 16) ∧ T1 = b)) ∧ ((Free V tg q t (na = 4) ∧ T2 = X ∧ g3 = sI (gAdd g q (V t) 0 (nI (na * 16)) z) 11 (nI (na + 1))) ∨ (¬ Free V tg q t (na = 4) ∧ T2 = t ∧ g3 = g)) := by
  have hn := T.2.1
  have hq := R.2.2.1.2.1
  obtain ⟨v, e1, e2⟩ := w_val_any (r := 0) (y := -1) (w := wn n p fC) (t := A) (o := O) (l := l) (co := co) (op := op) (sz := sz) (b := b) T (by omega)
  have i1 : (1 : Int64).toInt = 1 := rfl
  have i16 : (16 : Int64).toInt = 16 := rfl
  have step : ∃ (N T1 : Nat) (z : Int64), tGlobals_makeArray (mkW g 0 (-1) (wn n p fC) (nI A) (nI O) (nI l) co op sz) (nI t) (nI b) = tGlobals_makeArray_L (N + 2) 2 (mkW g 0 (-1) (wn n p (min fC T1)) (nI A) (nI O) (nI l) co op sz) (nI t) 0 z ∧ ((1 ≤ v.toInt ∧ v.toInt ≤ 16 ∧ T1 = X ∧ z = v) ∨ (¬ (1 ≤ v.toInt ∧ v.toInt ≤ 16) ∧ T1 = b)) := by
    have bad : tGlobals_makeArray_L 2000 1 (mkW g 0 (-1) (wn n p fC) (nI A) (nI O) (nI l) co op sz) (nI t) (nI b) 0 = tGlobals_makeArray_L (1997 + 2) 2 (mkW g 0 (-1) (wn n p (min fC b)) (nI A) (nI O) (nI l) co op sz) (nI t) 0 0 := by
      rw [mkA_L1 1999]
      unfold tGlobals_makeArray_b1
      rw [b1S (w_place T hb), b1S (w_blame T hb)]
    unfold tGlobals_makeArray
    rw [b1S e1]
    by_cases hlt : lg_cmp v 1 < 0
    · rw [if_pos hlt, bad]
      have := lg_lt.mp hlt
      exact ⟨1997, b, 0, rfl, Or.inr ⟨fun e => by omega, rfl⟩⟩
    · rw [if_neg hlt]
      have h1 : ¬ v.toInt < (1 : Int64).toInt := fun e => hlt (lg_lt.mpr e)
      by_cases hle : lg_cmp v 16 ≤ 0
      · rw [if_pos hle]
        have := lg_le.mp hle
        refine ⟨1998, X, v, ?_, Or.inl ⟨by omega, by omega, rfl, rfl⟩⟩
        rw [show min fC X = fC by omega]
      · rw [if_neg hle, bad]
        have h2 : ¬ v.toInt ≤ (16 : Int64).toInt := fun e => hle (lg_le.mpr e)
        exact ⟨1997, b, 0, rfl, Or.inr ⟨fun e => by omega, rfl⟩⟩
  obtain ⟨N, T1, z, e3, e4⟩ := step
  obtain ⟨w1, w2⟩ := w_makeArr2 (r := 0) (y := -1) (f := min fC T1) (a := A) (o := O) (l := l) (co := co) (op := op) (sz := sz) (z := z) (x2 := 0) T R ht N
  have hv : b < n → (1 ≤ (V b).toInt ∧ (V b).toInt ≤ 16 ∧ T1 = X ∧ z.toInt32 = (V b).toInt32) ∨ (¬ (1 ≤ (V b).toInt ∧ (V b).toInt ≤ 16) ∧ T1 = b) := fun hbn => by
    rw [e2 hbn] at e4
    rcases e4 with ⟨a1, a2, a3, a4⟩ | a1
    · exact Or.inl ⟨a1, a2, a3, by rw [a4]⟩
    · exact Or.inr a1
  rcases Classical.em (Free V tg q t (na = 4)) with hfr | hfr
  · refine ⟨_, T1, X, z.toInt32, ?_, frc_sI (frc_sI (frc_sA (frc_sA (frc_sA (frc_sL (frc_refl g) (by omega)) (by omega)) (by omega)) (by omega)) (by omega)) (by omega), rfl, rfl, ⟨q + 1, ?_, rfl⟩, hv, Or.inl ⟨hfr, rfl, rfl⟩⟩
    · rw [e3, show min (min fC T1) X = min fC T1 by omega]
      exact w1 hfr
    · have := hfr.1
      have := R.2.1
      omega
  · refine ⟨g, T1, t, z.toInt32, ?_, frc_refl g, rfl, rfl, ⟨q, hq, R.1.1⟩, hv, Or.inr ⟨hfr, rfl, rfl⟩⟩
    rw [e3]
    exact w2 hfr
theorem arrp_L1 (N : Nat) (σ : St) (x1 x2 x3 : Int32) : tModel_arrayPart_L (N + 1) 1 σ x1 x2 x3 = tModel_arrayPart_b1 (tModel_arrayPart_L N) σ x1 x2 x3 := rfl
theorem km_arrp {σ : St} {k : Nat} {r y x1 x2 x3 : Int32} (TM : TkM h0 n K p V) (b : MBad h0 n k r y σ) (N : Nat) : KM h0 n k r y (tModel_arrayPart_L (N + 1) 1 σ x1 x2 x3) := by
  rw [arrp_L1]
  unfold tModel_arrayPart_b1
  rw [b1S (mb_need TM b wd93), b1S (mb_need TM b wd59), b.2.1, if_neg b.2.2.2.1]
  exact kms b
theorem frm_back {h0 h : St} (F : FrM h0 h) (TM : TkM h n K p V) : TkM h0 n K p V := by
  have s := frm_same F
  exact tkm_keep ⟨s.1.symm, s.2.1.symm, s.2.2.1.symm, s.2.2.2.1.symm, s.2.2.2.2.1.symm, s.2.2.2.2.2.symm⟩ TM
theorem arr_both (T : TkC g n K p V) (TM : TkM h n K p V) (R : GR n K V g h tg q na nf) (h89 : (∃ v, v ≤ 12 ∧ g.1 8 = nI v) ∧ (∃ v, v ≤ 12 ∧ g.1 9 = nI v)) (hm : h.1 42 = nI ar ∧ ar ≤ 40 ∧ oc ≤ 40) (Fc : FrC g0 g) (Fm : FrM h0 h) (hb : a ≤ n ∧ l ≤ 2 * a ∧ nd ≤ a) (hF : FRel fC fM (NH (mkV h 0 (-1) (ftk n fM) (nI (a + 2)) (nI 0) (nI nd) (nI oc) (nI wt) so wh oe tw th nx tk os wa wf).2.2.1 0 nd))
    (hE : ∀ x t k, CE (mkW g 0 (-1) (wn n p fC) (nI (a + 2)) (nI 0) (nI l) co op sz).2.2.1 0 l x t k ↔ NE K (mkV h 0 (-1) (ftk n fM) (nI (a + 2)) (nI 0) (nI nd) (nI oc) (nI wt) so wh oe tw th nx tk os wa wf).2.2.1 0 nd x t k)
    (hA : ∀ k, k < q → g.2.2.1 3 k = 0 → ArI n g h fC k) (hN : ∀ k, k < q → g.2.2.1 3 k = 1 → FnI n K g h (mkW g 0 (-1) (wn n p fC) (nI (a + 2)) (nI 0) (nI l) co op sz).2.2.1 (mkV h 0 (-1) (ftk n fM) (nI (a + 2)) (nI 0) (nI nd) (nI oc) (nI wt) so wh oe tw th nx tk os wa wf).2.2.1 fC l nd k) (h1 : K (a + 1) = 1) (h91 : K (a + 2) = 91) :
    (∃ (c m : St) (a' : Nat), tGrammar_array (mkW g 0 (-1) (wn n p fC) (nI (a + 2)) (nI 0) (nI l) co op sz) (nI (a + 1)) = some c ∧ tModel_arrayPart (mkV h 0 (-1) (ftk n fM) (nI (a + 2)) (nI 0) (nI nd) (nI oc) (nI wt) so wh oe tw th nx tk os wa wf) (nI (a + 1)) = some m ∧ TP n K p V g0 h0 c m a' ∧ a < a') ∨
    (∃ r y, KB g0 n r y (tGrammar_array (mkW g 0 (-1) (wn n p fC) (nI (a + 2)) (nI 0) (nI l) co op sz) (nI (a + 1))) ∧ KM h0 n 10 r y (tModel_arrayPart (mkV h 0 (-1) (ftk n fM) (nI (a + 2)) (nI 0) (nI nd) (nI oc) (nI wt) so wh oe tw th nx tk os wa wf) (nI (a + 1)))) := by
  have hn := TM.1.1
  have ha2 := kz_lt T h91 (by decide)
  have hq := R.2.2.1.2.1
  obtain ⟨h42, har, hoc⟩ := hm
  obtain ⟨hb1, hb2, hb3⟩ := hb
  obtain ⟨⟨v8, hv8, h8⟩, ⟨v9, hv9, h9⟩⟩ := h89
  obtain ⟨g3, T1, T2, z, eC, F3, e8, e9, e10, hv, hfree⟩ := arr_made (A := a + 2 + 1) (O := 0 + 1) (b := a + 2 + 1) (t := a + 1) (fC + fM + n + 1) (fC := fC) (l := l) (co := co) (op := op) (sz := sz) T R (by omega) (by omega) (by omega)
  have T3 := tkc_keep T F3
  have TM0 := frm_back Fm TM
  have hcb : ∀ (y w A O : Int32), CBad g0 n 3 y (mkW g3 3 y w A O (nI l) co op sz) := fun y w A O => cb_base (frc_trans Fc F3) ⟨frc_mkW (frc_refl g3), rfl, rfl, by decide, ⟨T3.1, T3.2.1⟩, ⟨v8, hv8, e8.trans h8⟩, ⟨v9, hv9, e9.trans h9⟩, ⟨l, by omega, rfl⟩, e10⟩
  have hmb : ∀ (y ft O w : Int32) (A : Nat), A ≤ n → MBad h0 n 10 3 y (mkV h 3 y ft (nI A) O (nI nd) (nI oc) w so wh oe tw th nx tk os wa wf) := fun y ft O w A hA => mb_mkV Fm (by decide) hA (by omega) hoc h42 (by omega)
  unfold tGrammar_array tModel_arrayPart
  rw [b1S (w_open T (by omega) h91 (by omega)), mkW_i6, b1S eC, mkV_i31, nI_suc, gdT (inI (by omega) (by omega)), gdT (inI (by omega) (by omega)), tc_nI (by omega), mkV_r16, mkV_r19]
  by_cases h2 : K (a + 2 + 1) = 2
  · have hk3 := kz_lt T h2 (by decide)
    rw [if_pos ((TM.2.2.1 (a + 2 + 1) (by omega)).2.1.mpr h2), mkV_s31, mkV_s31, nI_suc, b1S (w_pass T3 (by omega) h2), arrp_L1 1999]
    unfold tModel_arrayPart_b1
    by_cases h93 : K (a + 2 + 1 + 1) = 93
    · have hk4 := kz_lt T h93 (by decide)
      rw [b1S (w_closing T3 (by omega) h93), b1S (v_need TM (by omega) wd93 h93)]
      by_cases h59 : K (a + 2 + 1 + 1 + 1) = 59
      · left
        have hk5 := kz_lt T h59 (by decide)
        obtain ⟨n1, n2, n3⟩ := TM.2.2.2.1 (a + 2 + 1) hk3 h2
        rw [b1S (w_pass T3 (by omega) h59), b1S (v_need TM (by omega) wd59 h59), mkV_i29, if_pos rfl, n1]
        obtain ⟨v1, v2⟩ := v_makeGlobal (f := fM) (y := 0) (u := -1) (A := nI (a + 2 + 1 + 1 + 1 + 1)) (O := nI 0) (ND := nI nd) (OC := nI oc) (WT := nI wt) (so := so) (wh := wh) (oe := oe) (tw := tw) (th := th) (nx := nx) (tk := tk) (os := os) (wa := wa) (wf := wf) (t := a + 1) (fn := 0) (v := (V (a + 2 + 1)).toInt32) TM R (by omega) h1 (Or.inl rfl)
        simp only [if_true] at v1 v2
        have hlast : ∀ (h4 : St) (f4 : Nat), f4 ≤ fM → (if (V (a + 2 + 1)).toInt32 < 1 then b1 (tModel_notName (mkV h4 0 (-1) (ftk n f4) (nI (a + 2 + 1 + 1 + 1 + 1)) (nI 0) (nI nd) (nI oc) (nI wt) so wh oe tw th nx tk os wa wf) (nI (a + 2 + 1))) (fun u10 => some u10) else if (V (a + 2 + 1)).toInt32 ≤ 16 then some (mkV h4 0 (-1) (ftk n f4) (nI (a + 2 + 1 + 1 + 1 + 1)) (nI 0) (nI nd) (nI oc) (nI wt) so wh oe tw th nx tk os wa wf) else b1 (tModel_notName (mkV h4 0 (-1) (ftk n f4) (nI (a + 2 + 1 + 1 + 1 + 1)) (nI 0) (nI nd) (nI oc) (nI wt) so wh oe tw th nx tk os wa wf) (nI (a + 2 + 1))) (fun u12 => some u12)) = some (mkV h4 0 (-1) (ftk n (min f4 T1)) (nI (a + 2 + 1 + 1 + 1 + 1)) (nI 0) (nI nd) (nI oc) (nI wt) so wh oe tw th nx tk os wa wf) := by
          intro h4 f4 hf4
          have i1 := v32_lt1 n2 n3
          have i2 := v32_le16 n2 n3
          rcases hv hk3 with ⟨q1, q2, q3, q4⟩ | ⟨q1, q2⟩
          · rw [if_neg (fun e => by have := i1.mp e; omega), if_pos (i2.mpr q2), show min f4 T1 = f4 by omega]
          · by_cases hlt : (V (a + 2 + 1)).toInt32 < 1
            · rw [if_pos hlt, b1_id, v_notName (by omega) hn, q2]
            · have hx : ¬ (V (a + 2 + 1)).toInt < 1 := fun e => hlt (i1.mpr e)
              rw [if_neg hlt, if_neg (fun e => q1 ⟨by omega, i2.mp e⟩), b1_id, v_notName (by omega) hn, q2]
        have hE' : ∀ (g4 h4 : St) (f4 m4 : Nat) (x t k : Nat), CE (mkW g4 0 (-1) (wn n p f4) (nI (a + 2 + 1 + 1 + 1 + 1)) (nI 0) (nI l) co op sz).2.2.1 0 l x t k ↔ NE K (mkV h4 0 (-1) (ftk n m4) (nI (a + 2 + 1 + 1 + 1 + 1)) (nI 0) (nI nd) (nI oc) (nI wt) so wh oe tw th nx tk os wa wf).2.2.1 0 nd x t k := fun g4 h4 f4 m4 x t k => (ce_congr (fun _ _ _ => ⟨rfl, rfl, rfl⟩)).trans ((hE x t k).trans (ne_congr (fun _ _ _ => ⟨rfl, rfl, rfl⟩)))
        have hz : n < T1 → z = nI (V (a + 2 + 1)).toInt.toNat ∧ 1 ≤ (V (a + 2 + 1)).toInt.toNat ∧ (V (a + 2 + 1)).toInt.toNat ≤ 16 := fun e => by
          rcases hv hk3 with ⟨q1, q2, q3, q4⟩ | ⟨q1, q2⟩
          · exact ⟨q4.trans (v32_nI n2 n3), by omega, by omega⟩
          · omega
        have hna := R.2.1
        rcases hfree with ⟨hfr, t2, eg⟩ | ⟨hfr, t2, eg⟩
        · have hna4 := hfr.1
          rw [b2S (v1 hfr), hlast _ _ (Nat.le_refl _)]
          refine ⟨_, _, a + 2 + 1 + 1 + 1 + 1, rfl, rfl, ⟨g3, hGl h q (a + 1) 0 (V (a + 2 + 1)).toInt32 (q + 1) nf (na + 1) na, fset tg q (a + 1), q + 1, na + 1, nf, min (min fC T1) T2, min fM T1, l, nd, oc, wt, ar, co, op, sz, so, wh, oe, tw, th, nx, tk, os, wa, wf, rfl, rfl, T3, ?_, ?_, ⟨⟨v8, hv8, e8.trans h8⟩, ⟨v9, hv9, e9.trans h9⟩⟩, ⟨h42, har, hoc⟩, frc_trans Fc F3, ?_, ⟨by omega, by omega, by omega⟩, ?_, hE' _ _ _ _, ?_, ?_⟩, by omega⟩
          · exact tkm_keep (frm_same (frm_sI (frm_sI (frm_sI (frm_sA (frm_sA (frm_sA (frm_sA (frm_refl h) (by omega)) (by omega)) (by omega)) (by omega)) (by omega)) (by omega)) (by omega))) TM
          · rw [eg]
            exact gr_more R ⟨rfl, rfl, R.1.2.2⟩ ⟨by omega, by omega, hna.2.2⟩ ⟨rfl, rfl, rfl⟩ (fun k hk => ⟨updL_n (by omega), upd_n (by omega), upd_n (by omega), upd_n (by omega)⟩) ⟨updL_e, upd_e, upd_e, upd_e⟩ (Or.inl rfl) (by omega) h1 hfr.2
          · exact frm_sI (frm_sI (frm_sI (frm_sA (frm_sA (frm_sA (frm_sA Fm (by omega)) (by omega)) (by omega)) (by omega)) (by omega)) (by omega)) (by omega)
          · rw [show min (min fC T1) T2 = min fC T1 by omega]
            exact frel_nh (frel_min hF) rfl rfl rfl
          · intro k hk e0
            rcases Nat.lt_or_ge k q with hkq | hkq
            · refine ari_keep (hA k hkq ?_) (by omega) ?_ ?_ (upd_n (by omega)) (upd_n (by omega))
              · rw [eg] at e0
                rw [← e0]
                exact (upd_n (by omega)).symm
              · rw [eg]; exact upd_n (by omega)
              · rw [eg]; exact upd_n (by omega)
            · obtain rfl : k = q := by omega
              refine ⟨na, (V (a + 2 + 1)).toInt.toNat, by omega, ?_, upd_e, fun hnf => ?_⟩
              · rw [eg, Nat.mul_comm 16 na]; exact upd_e
              · obtain ⟨z1, z2, z3⟩ := hz (by omega)
                refine ⟨?_, ?_, z2, z3⟩
                · rw [eg, ← z1]; exact upd_e
                · rw [← v32_nI n2 n3]; exact upd_e
          · intro k hk e0
            rcases Nat.lt_or_ge k q with hkq | hkq
            · refine fni_keep (hN k hkq ?_) (by omega) (Nat.le_refl _) (Nat.le_refl _) (fun _ _ => ⟨rfl, rfl, rfl⟩) (fun _ _ => ⟨rfl, rfl, rfl, rfl, rfl, rfl, rfl⟩) ?_ ?_ (upd_n (by omega)) (upd_n (by omega))
              · rw [eg] at e0
                rw [← e0]
                exact (upd_n (by omega)).symm
              · rw [eg]; exact upd_n (by omega)
              · rw [eg]; exact upd_n (by omega)
            · obtain rfl : k = q := by omega
              rw [eg, show (sI (gAdd g k (V (a + 1)) 0 (nI (na * 16)) z) 11 (nI (na + 1))).2.2.1 3 k = 0 from (upd_e : upd (g.2.2.1 3) k 0 k = 0)] at e0
              exact absurd e0 (by decide)
        · rw [b2S (v2 hfr), hlast _ (min fM (a + 1)) (by omega)]
          refine ⟨_, _, a + 2 + 1 + 1 + 1 + 1, rfl, rfl, ⟨g3, hGl h 59 (a + 1) 0 (V (a + 2 + 1)).toInt32 q nf na na, tg, q, na, nf, min (min fC T1) T2, min (min fM (a + 1)) T1, l, nd, oc, wt, ar, co, op, sz, so, wh, oe, tw, th, nx, tk, os, wa, wf, rfl, rfl, T3, ?_, ?_, ⟨⟨v8, hv8, e8.trans h8⟩, ⟨v9, hv9, e9.trans h9⟩⟩, ⟨h42, har, hoc⟩, frc_trans Fc F3, ?_, ⟨by omega, by omega, by omega⟩, ?_, hE' _ _ _ _, ?_, ?_⟩, by omega⟩
          · exact tkm_keep (frm_same (frm_sI (frm_sI (frm_sI (frm_sA (frm_sA (frm_sA (frm_sA (frm_refl h) (by omega)) (by omega)) (by omega)) (by omega)) (by omega)) (by omega)) (by omega))) TM
          · rw [eg]
            exact gr_same R ⟨rfl, rfl, rfl⟩ ⟨R.2.2.1.1.symm, R.2.2.2.1.1.symm, R.2.2.2.1.2.symm⟩ (fun k hk => ⟨rfl, rfl, upd_n (by omega), upd_n (by omega)⟩)
          · exact frm_sI (frm_sI (frm_sI (frm_sA (frm_sA (frm_sA (frm_sA Fm (by omega)) (by omega)) (by omega)) (by omega)) (by omega)) (by omega)) (by omega)
          · rw [t2, show min (min fM (a + 1)) T1 = min (min fM T1) (a + 1) by omega]
            exact frel_nh (frel_min (frel_min hF)) rfl rfl rfl
          · intro k hk e0
            rw [eg] at e0
            exact ari_keep (hA k hk e0) (by omega) (by rw [eg]) (by rw [eg]) (upd_n (by omega)) (upd_n (by omega))
          · intro k hk e0
            rw [eg] at e0
            exact fni_keep (hN k hk e0) (by omega) (Nat.le_refl _) (Nat.le_refl _) (fun _ _ => ⟨rfl, rfl, rfl⟩) (fun _ _ => ⟨rfl, rfl, rfl, rfl, rfl, rfl, rfl⟩) (by rw [eg]) (by rw [eg]) (upd_n (by omega)) (upd_n (by omega))
      · right
        rw [b1S (w_passN T3 (by omega) h59), b1S (v_needN TM (by omega) wd59 h59), mkV_i29, if_neg (by decide)]
        exact ⟨3, nI (p (a + 2 + 1 + 1 + 1)), kbs (hcb _ _ _ _), kms (hmb _ _ _ _ _ (by omega))⟩
    · right
      rw [b1S (w_closingN T3 (by omega) h93), b1S (v_needN TM (by omega) wd93 h93)]
      refine ⟨3, nI (p (a + 2 + 1 + 1)), kb1 (kb_pass (hcb _ _ _ _) (by decide)) fun u hu => kbs hu, ?_⟩
      rw [b1S (mb_need TM0 (hmb (nI (p (a + 2 + 1 + 1))) _ _ _ _ (by omega)) wd59), mkV_i29, if_neg (by decide)]
      exact kms (hmb _ _ _ _ _ (by omega))
  · right
    rw [if_neg (fun e => h2 ((TM.2.2.1 (a + 2 + 1) (by omega)).2.1.mp e)), mkV_s31, b1S (v_spoil TM (by omega)), b1S (w_passN T3 (by omega) h2)]
    exact ⟨3, nI (p (a + 2 + 1)), kb1 (kb_closing (hcb _ _ _ _) (by decide)) fun u hu => kb1 (kb_pass hu (by decide)) fun u hu => kbs hu, km_arrp TM0 (hmb _ _ _ _ _ (by omega)) 1999⟩
end AZ
