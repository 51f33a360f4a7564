/-! The parts of a text. -/
def ArI (n : Nat) (g h : St) (f k : Nat) : Prop := ∃ i z, i < 4 ∧ g.2.2.1 4 k = nI (16 * i) ∧ h.2.2.1 30 k = nI (16 * i) ∧ (n < f → g.2.2.1 5 k = nI z ∧ h.2.2.1 29 k = nI z ∧ 1 ≤ z ∧ z ≤ 16)
def FnI (n : Nat) (K : Nat → Int32) (g h : St) (C M : Nat → Nat → Int32) (f l nd k : Nat) : Prop := ∃ cnt s, g.2.2.1 5 k = nI cnt ∧ h.2.2.1 29 k = nI cnt ∧ cnt < 1000 ∧ g.2.2.1 4 k = nI s ∧ s < 1000 ∧ (n < f → cnt ≤ 4 ∧ ∃ B e a a' n1 n2, h.2.2.1 30 k = nI B ∧ SQ n K C M f a a' 0 s e n1 n2 B cnt cnt ∧ a < a' ∧ a' ≤ n ∧ s ≤ e ∧ e + 2 ≤ l ∧ n1 ≤ B ∧ B < n2 ∧ n2 ≤ nd ∧ C 6 e = 10 ∧ C 7 e = 0 ∧ C 6 (e + 1) = 7)
/-- between two parts -/
def TP (n : Nat) (K : Nat → Int32) (p : Nat → Nat) (V : Nat → Int64) (g0 h0 c m : St) (a : Nat) : Prop :=
  ∃ (g h : St) (tg : Nat → Nat) (q na nf fC fM l nd oc wt ar : Nat) (co op sz so wh oe tw th nx tk os wa wf : Nat → Int32),
    c = mkW g 0 (-1) (wn n p fC) (nI a) (nI 0) (nI l) co op sz ∧ m = mkV h 0 (-1) (ftk n fM) (nI a) (nI 0) (nI nd) (nI oc) (nI wt) so wh oe tw th nx tk os wa wf ∧
    TkC g n K p V ∧ TkM h n K p V ∧ GR n K V g h tg q na nf ∧ ((∃ v, v ≤ 12 ∧ g.1 8 = nI v) ∧ (∃ v, v ≤ 12 ∧ g.1 9 = nI v)) ∧ (h.1 42 = nI ar ∧ ar ≤ 40 ∧ oc ≤ 40) ∧ FrC g0 g ∧ FrM h0 h ∧ (a ≤ n ∧ l ≤ 2 * a ∧ nd ≤ a) ∧ FRel fC fM (NH m.2.2.1 0 nd) ∧ (∀ x t k, CE c.2.2.1 0 l x t k ↔ NE K m.2.2.1 0 nd x t k) ∧
    (∀ k, k < q → g.2.2.1 3 k = 0 → ArI n g h fC k) ∧ (∀ k, k < q → g.2.2.1 3 k = 1 → FnI n K g h c.2.2.1 m.2.2.1 fC l nd k)
theorem frel_min {fC fM t : Nat} {S : Nat → Prop} (h : FRel fC fM S) : FRel (min fC t) (min fM t) S := by
  obtain ⟨a1, a2, a3⟩ := h
  refine ⟨by omega, fun x hx => by have := a2 x hx; omega, ?_⟩
  rcases Nat.lt_or_ge t fC with e | e
  · left; omega
  · rw [show min fC t = fC by omega]
    rcases a3 with a3 | a3
    · left; omega
    · exact Or.inr a3
section TPS
variable {n : Nat} {K : Nat → Int32} {p : Nat → Nat} {V : Nat → Int64}
theorem fp_L1 (N : Nat) (σ : St) (x1 x2 : Int32) : tModel_functionPart_L (N + 1) 1 σ x1 x2 = tModel_functionPart_b1 (tModel_functionPart_L N) σ x1 x2 := rfl
theorem fp_L2 (N : Nat) (σ : St) (x1 x2 : Int32) : tModel_functionPart_L (N + 1) 2 σ x1 x2 = tModel_functionPart_b2 (tModel_functionPart_L N) σ x1 x2 := rfl
theorem fp_steps {x1 x2 : Int32} : ∀ {j : Nat} {m m' : St} (N : Nat), StSteps j m m' → tModel_functionPart_L (N + j) 2 m x1 x2 = tModel_functionPart_L N 2 m' x1 x2 := by
  intro j
  induction j with
  | zero => intro m m' N h; cases h; rfl
  | succ j ih =>
    intro m m' N h
    obtain ⟨g1, g0, c1, g2, g3⟩ := h
    rw [show N + (j + 1) = (N + j) + 1 by omega, fp_L2]
    unfold tModel_functionPart_b2
    rw [if_neg g0, g1, if_pos rfl, b1S g2]
    exact ih N g3
theorem km_fp2 {h : St} {σ : St} {k N x : Nat} {r q x2 : Int32} (b : MBad h n k r q σ) (hx : x < 60) (hN : 0 < N) : KM h n k r q (tModel_functionPart_L N 2 σ (nI x) x2) := by
  obtain ⟨N, rfl⟩ : ∃ j, N = j + 1 := ⟨N - 1, by omega⟩
  rw [fp_L2]
  unfold tModel_functionPart_b2
  rw [b.2.1, if_neg b.2.2.2.1, gdT (inI hx (by omega))]
  split <;> exact kms (mb_sA b (by omega))
/-- the body of a function: from "{" -/
theorem fun_body {g h : St} {tv : Nat → Nat} {vc vm fC fM a l nd oc x : Nat} {ag : Prop} {co op sz so wh oe tw th nx tk os wa wf : Nat → Int32} {WT : Nat} (B : Bq n K p V g h tv vc vm ag) (L : Lv g h vc 0 1 ag) (hx : x < 60) (hoc : oc ≤ 40) (hag : ag ∨ fC < a) (hF : FRel fC fM (NH (mkV h 0 (-1) (ftk n fM) (nI a) (nI 0) (nI nd) (nI oc) (nI WT) so wh oe tw th nx tk os wa wf).2.2.1 0 nd)) (ha : a ≤ n) (ha1 : 1 ≤ a) (hl : l ≤ 2 * a) (hnd : nd ≤ a) (h42 : ∃ z, z ≤ 40 ∧ h.1 42 = nI z) :
    (∃ (g' h' : St) (a' e nd' fC' fM' oc' wt' : Nat) (co' op' sz' so' wh' oe' tw' th' nx' tk' os' wa' wf' : Nat → Int32), b1 (tCursor_passOpening (mkW g 0 (-1) (wn n p fC) (nI a) (nI 0) (nI l) co op sz) 123) (fun u8 => b2 (tG 80 15 u8 0 0) (fun r9 u9 => b1 (tCursor_passClosing u9 125) (fun u10 => b1 (tProgram_add u10 10 0 0) (fun u11 => b1 (tProgram_add u11 7 0 0) (fun u12 => some u12))))) = some (mkW g' 0 (-1) (wn n p fC') (nI a') (nI 0) (nI (e + 2)) co' op' sz') ∧
        (if K a = 123 then tModel_functionPart_L 2000 1 (mkV h 0 (-1) (ftk n fM) (nI a) (nI 0) (nI nd) (nI oc) (nI WT) so wh oe tw th nx tk os wa wf) (nI x) 0 else b1 (tModel_spoil (mkV h 0 (-1) (ftk n fM) (nI a) (nI 0) (nI nd) (nI oc) (nI WT) so wh oe tw th nx tk os wa wf)) (fun u7 => tModel_functionPart_L 2000 1 u7 (nI x) 0)) = some (mkV (sA h' 30 (upd (h'.2.2.1 30) x (nI nd))) 0 (-1) (ftk n fM') (nI a') (nI 0) (nI nd') (nI oc') (nI wt') so' wh' oe' tw' th' nx' tk' os' wa' wf') ∧
        GK g h g' h' ∧ FrC g g' ∧ FrM h h' ∧ ((∃ v, v ≤ 12 ∧ g'.1 8 = nI v) ∧ (∃ v, v ≤ 12 ∧ g'.1 9 = nI v)) ∧ (h'.1 42 = nI 0 ∧ oc' ≤ 40) ∧ (a < a' ∧ a' ≤ n ∧ l ≤ e ∧ e + 2 ≤ 2 * a' ∧ nd < nd' ∧ nd' ≤ a' ∧ fC' ≤ fC) ∧ FW (mkW g 0 (-1) (wn n p fC) (nI a) (nI 0) (nI l) co op sz) (mkW g' 0 (-1) (wn n p fC') (nI a') (nI 0) (nI (e + 2)) co' op' sz') l ∧ (∀ i, i < nd → NodeEq (mkV h 0 (-1) (ftk n fM) (nI a) (nI 0) (nI nd) (nI oc) (nI WT) so wh oe tw th nx tk os wa wf).2.2.1 (mkV (sA h' 30 (upd (h'.2.2.1 30) x (nI nd))) 0 (-1) (ftk n fM') (nI a') (nI 0) (nI nd') (nI oc') (nI wt') so' wh' oe' tw' th' nx' tk' os' wa' wf').2.2.1 i) ∧ SQ n K (mkW g' 0 (-1) (wn n p fC') (nI a') (nI 0) (nI (e + 2)) co' op' sz').2.2.1 (mkV (sA h' 30 (upd (h'.2.2.1 30) x (nI nd))) 0 (-1) (ftk n fM') (nI a') (nI 0) (nI nd') (nI oc') (nI wt') so' wh' oe' tw' th' nx' tk' os' wa' wf').2.2.1 fC' a a' 0 l e nd nd' nd vc vc ∧ (co' e = 10 ∧ op' e = 0 ∧ co' (e + 1) = 7) ∧ FRel fC' fM' (NH (mkV (sA h' 30 (upd (h'.2.2.1 30) x (nI nd))) 0 (-1) (ftk n fM') (nI a') (nI 0) (nI nd') (nI oc') (nI wt') so' wh' oe' tw' th' nx' tk' os' wa' wf').2.2.1 0 nd')) ∨
    (∃ r q, KB g n r q (b1 (tCursor_passOpening (mkW g 0 (-1) (wn n p fC) (nI a) (nI 0) (nI l) co op sz) 123) (fun u8 => b2 (tG 80 15 u8 0 0) (fun r9 u9 => b1 (tCursor_passClosing u9 125) (fun u10 => b1 (tProgram_add u10 10 0 0) (fun u11 => b1 (tProgram_add u11 7 0 0) (fun u12 => some u12)))))) ∧ KM h n 10 r q (if K a = 123 then tModel_functionPart_L 2000 1 (mkV h 0 (-1) (ftk n fM) (nI a) (nI 0) (nI nd) (nI oc) (nI WT) so wh oe tw th nx tk os wa wf) (nI x) 0 else b1 (tModel_spoil (mkV h 0 (-1) (ftk n fM) (nI a) (nI 0) (nI nd) (nI oc) (nI WT) so wh oe tw th nx tk os wa wf)) (fun u7 => tModel_functionPart_L 2000 1 u7 (nI x) 0))) := by
  have hn := B.2.1.1.1
  have hvc := B.2.2.1.2
  obtain ⟨L1, L2, L3, L4, L5⟩ := L
  have tailb : ∀ (u : St) (r q : Int32), CBad g n r q u → KB g n r q (b1 (tCursor_passClosing u 125) (fun u10 => b1 (tProgram_add u10 10 0 0) (fun u11 => b1 (tProgram_add u11 7 0 0) (fun u12 => some u12)))) := fun u r q hu => kb1 (kb_closing hu (by decide)) fun u hu => kb1 (kb_add hu) fun u hu => kb1 (kb_add hu) fun u hu => kbs hu
  by_cases h123 : K a = 123
  · have ha2 := kz_lt B.1 h123 (by decide)
    have em : tModel_functionPart_L 2000 1 (mkV h 0 (-1) (ftk n fM) (nI a) (nI 0) (nI nd) (nI oc) (nI WT) so wh oe tw th nx tk os wa wf) (nI x) 0 = tModel_functionPart_L 1999 2 (mkV (hBeg (sI (sI (sI h 42 0) 39 0) 39 (nI (0 + 1))) 0 nd) 0 (-1) (ftk n fM) (nI (a + 1)) (nI (0 + 1)) (nI (nd + 1)) (nI oc) (nI WT) (upd so nd 10) (upd wh nd 0) (upd oe nd (-1)) (upd tw nd (-1)) (upd th nd (-1)) (upd nx nd (-1)) (upd tk nd (nI (a + 1))) os wa wf) (nI x) (nI nd) := by
      have eb := v_beginBlock (h := sI (sI h 42 0) 39 0) (dp := 0) (ar := 0) (a := a) (o := 0) (nd := nd) (oc := oc) (WT := nI WT) (q := -1) (ft := ftk n fM) (so := so) (wh := wh) (oe := oe) (tw := tw) (th := th) (nx := nx) (tk := tk) (os := os) (wa := wa) (wf := wf) rfl rfl (by omega) (by omega) (by omega)
      rw [fp_L1 1999]
      unfold tModel_functionPart_b1
      rw [mkV_i29, if_pos rfl, mkV_b42, mkV_b39, b1S eb, gdT (by decide), mkV_r36, show (0 : Int32).toNatClampNeg = 0 from rfl, show (hBeg (sI (sI (sI h 42 0) 39 0) 39 (nI (0 + 1))) 0 nd).2.2.1 36 0 = nI nd from (upd_e : upd (h.2.2.1 36) 0 (nI nd) 0 = nI nd)]
    rw [if_pos h123, em, b1S (w_open B.1 ha h123 (by omega)), tG_15 79]
    unfold tGrammar_statements
    have Fh : FrM h (hBeg (sI (sI (sI h 42 0) 39 0) 39 (nI (0 + 1))) 0 nd) := frm_sI (frm_sA (frm_sI (frm_sI (frm_sI (frm_refl h) (by omega)) (by omega)) (by omega)) (by omega)) (by omega)
    have B1 : Bs n K p V g (hBeg (sI (sI (sI h 42 0) 39 0) 39 (nI (0 + 1))) 0 nd) tv vc vm 1 ag := ⟨B.1, tkm_keep (frm_same Fh) B.2.1, B.2.2.1, B.2.2.2.1, B.2.2.2.2.1, ⟨rfl, by omega⟩, B.2.2.2.2.2.1, B.2.2.2.2.2.2⟩
    have L1' : Lv g (hBeg (sI (sI (sI h 42 0) 39 0) 39 (nI (0 + 1))) 0 nd) vc 0 1 ag := ⟨L1, L2, rfl, by omega, L5⟩
    have hBL : BL n K p V g (hBeg (sI (sI (sI h 42 0) 39 0) 39 (nI (0 + 1))) 0 nd) (mkW g 0 (-1) (wn n p fC) (nI (a + 1)) (nI (0 + 1)) (nI l) co op sz) (mkV (hBeg (sI (sI (sI h 42 0) 39 0) 39 (nI (0 + 1))) 0 nd) 0 (-1) (ftk n fM) (nI (a + 1)) (nI (0 + 1)) (nI (nd + 1)) (nI oc) (nI WT) (upd so nd 10) (upd wh nd 0) (upd oe nd (-1)) (upd tw nd (-1)) (upd th nd (-1)) (upd nx nd (-1)) (upd tk nd (nI (a + 1))) os wa wf) (mkW g 0 (-1) (wn n p fC) (nI (a + 1)) (nI (0 + 1)) (nI l) co op sz) fC (a + 1) (0 + 1) l nd vc 0 1 1 ag 0 (a + 1) := by
      refine ⟨l, nd + 1, fC, fM, vc, vm, 0, ag, _, _, _, tv, fun _ => 0, fun _ => l, fun _ => nd + 1, fun _ => a + 1, fun _ => vc, ⟨_, _, _, rfl⟩, ⟨oc, WT, hoc, _, _, _, _, _, _, _, _, _, _, rfl⟩, rfl, B1, L1', frv_refl, fun hg => ⟨hg, Nat.le_refl _⟩, by rcases hag with e | e; exact Or.inl e; right; omega, Nat.le_refl _, ⟨by omega, by omega, by omega, by omega, by omega, by omega, by omega, by omega⟩, fw_refl, fun _ _ => ne_refl, ⟨upd_e, upd_e, upd_e, fun _ => upd_e, fun e => absurd e (by omega), fun x hx => absurd hx (by omega), fun e => absurd e (by omega)⟩, ⟨rfl, rfl, rfl, rfl, rfl, rfl, rfl, rfl⟩, fun x hx => absurd hx (by omega), ?_⟩
      obtain ⟨z1, z2, z3⟩ := hF
      have hnh : ∀ t, NH (mkV (hBeg (sI (sI (sI h 42 0) 39 0) 39 (nI (0 + 1))) 0 nd) 0 (-1) (ftk n fM) (nI (a + 1)) (nI (0 + 1)) (nI (nd + 1)) (nI oc) (nI WT) (upd so nd 10) (upd wh nd 0) (upd oe nd (-1)) (upd tw nd (-1)) (upd th nd (-1)) (upd nx nd (-1)) (upd tk nd (nI (a + 1))) os wa wf).2.2.1 0 (nd + 1) t ↔ NH (mkV h 0 (-1) (ftk n fM) (nI a) (nI 0) (nI nd) (nI oc) (nI WT) so wh oe tw th nx tk os wa wf).2.2.1 0 nd t := by
        intro t
        rw [nh_split (m := nd) (by omega) (by omega)]
        constructor
        · rintro (e | e)
          · exact (nh_congr fun i _ hi => ⟨upd_n (by omega), upd_n (by omega), upd_n (by omega)⟩).mp e
          · refine absurd e (nh_none ?_)
            show ¬ (upd so nd 10 nd = 4 ∨ upd so nd 10 nd = 5 ∨ upd so nd 10 nd = 12)
            rw [upd_e]; decide
        · intro e
          exact Or.inl ((nh_congr fun i _ hi => ⟨upd_n (by omega), upd_n (by omega), upd_n (by omega)⟩).mpr e)
      exact ⟨z1, fun t ht => z2 t ((hnh t).mp ht), z3.imp id (fun e => (hnh _).mpr e)⟩
    have h36 : (hBeg (sI (sI (sI h 42 0) 39 0) 39 (nI (0 + 1))) 0 nd).2.2.1 36 (1 - 1) = nI nd := (upd_e : upd (h.2.2.1 36) 0 (nI nd) 0 = nI nd)
    obtain ⟨xx, c2, e1, hres⟩ := bl_all (stm_all 11 1 79 (by omega) (by omega) (by omega)) (by omega) (by omega) hn (by omega) (by omega) (by omega) (by omega) (by omega) (by omega) h36 n 2000 0 (a + 1) _ hBL (by omega) (by omega)
    rw [show nI 0 = (0 : Int32) from rfl] at e1
    rw [b2S e1]
    rcases hres with ⟨i2, a2, hb, hk2⟩ | ⟨r, q, j, m', hb1, hb2, hb3, hb4⟩
    · obtain ⟨l', nd', fC', fM', vc', vm', j, ag', g', h', m', tv', Cf, Pf, Nf, Ta, Yf, ⟨co', op', sz', rfl⟩, ⟨oc', wt', hoc', so', wh', oe', tw', th', nx', tk', os', wa', wf', rfl⟩, I3, B2, L', I6, I7, I8, I9, ⟨j1, j2, j3, j4, j5, j6, j7, j8⟩, I10, I11, hLst, ⟨p1, p2, p3, p4, p5, p6, p7, p8⟩, hSt, hFR⟩ := hb
      obtain ⟨M1, M2, M3, M4, M5⟩ := L'
      have h36' : h'.2.2.1 36 (1 - 1) = nI nd := (I6.2.2.2.1 (1 - 1) (by omega)).trans h36
      by_cases h125 : K a2 = 125
      · left
        have ha2' := kz_lt B2.1 h125 (by decide)
        obtain ⟨w, w1, w2, w3⟩ := stm_close (fM := fM') (o := 0) (dp := 0) (nd := nd') (oc := oc') (WT := nI wt') (so := so') (wh := wh') (oe := oe') (tw := tw') (th := th') (nx := nx') (tk := tk') (os := os') (wa := wa') (wf := wf') B2 j2 (by omega) h36' (by omega) hLst.1 M3 h125
        have e0 : ∀ (N : Nat) (σ : St) (z : Int32), σ.1 42 ≤ 0 → tModel_whole_L (N + 1) 1 σ z 1 0 = some σ := by
          intro N σ z hz
          show tModel_whole_b1 (tModel_whole_L N) σ z 1 0 = _
          unfold tModel_whole_b1
          rw [if_neg (by decide), if_pos hz]
        rw [e0 1999 _ _ (show (nI (1 - 1) : Int32) ≤ 0 by decide)] at w2
        have hst := st_trans I3 (st_one rfl (by rw [mkV_i42, B2.2.2.2.2.2.1.1]; decide) w2)
        rw [b1S (w_closing B2.1 j2 h125), b1S (w_add (by omega)), b1S (w_add (by omega))]
        have e2 := fp_steps (x1 := nI x) (x2 := nI nd) (1999 - (j + 1)) hst
        rw [show 1999 - (j + 1) + (j + 1) = 1999 by omega] at e2
        obtain ⟨N3, hN3⟩ : ∃ k, 1999 - (j + 1) = k + 1 := ⟨1999 - (j + 1) - 1, by omega⟩
        rw [e2, hN3, fp_L2]
        unfold tModel_functionPart_b2
        rw [mkV_i42, show (sI (sI (sI h' 38 (nI w)) 39 (nI 0)) 42 (nI (1 - 1))).1 42 = nI (1 - 1) from rfl, if_pos (by decide), gdT (inI hx (by omega)), tc_nI (by omega), mkV_r30, mkV_c30]
        refine ⟨g', sI (sI (sI h' 38 (nI w)) 39 (nI 0)) 42 (nI (1 - 1)), a2 + 1, l', nd', fC', fM', oc', wt', _, _, _, _, _, _, _, _, _, _, _, _, _, rfl, rfl, ⟨I6.2.2.2.2.1, I6.2.2.2.2.2⟩, I6.1, frm_sI (frm_sI (frm_sI (frm_trans Fh I6.2.1) (by omega)) (by omega)) (by omega), ⟨⟨vc', B2.2.2.1.2, B2.2.2.1.1⟩, B2.2.2.2.2.2.2.1⟩, ⟨rfl, hoc'⟩, ⟨by omega, by omega, by omega, by omega, by omega, by omega, I9⟩, fun i hi => ?_, fun i hi => ?_, ?_, ⟨?_, ?_, upd_e⟩, hFR⟩
        · obtain ⟨q1, q2, q3⟩ := I10 i hi
          exact ⟨((upd_n (by omega)).trans (upd_n (by omega))).trans q1, ((upd_n (by omega)).trans (upd_n (by omega))).trans q2, ((upd_n (by omega)).trans (upd_n (by omega))).trans q3⟩
        · exact ne_trans ⟨upd_n (by omega), upd_n (by omega), upd_n (by omega), upd_n (by omega), upd_n (by omega), upd_n (by omega), upd_n (by omega)⟩ (I11 i hi)
        · exact sq_block hSt hLst (by omega) (Nat.le_refl _) (by omega) (Or.inl (Nat.le_refl _)) rfl (by omega) j1 ⟨p1, p2, p3, p4, p5, p6, p7⟩ hvc (fun i _ _ => ⟨(upd_n (by omega)).trans (upd_n (by omega)), (upd_n (by omega)).trans (upd_n (by omega)), (upd_n (by omega)).trans (upd_n (by omega))⟩) (fun x hx i _ _ => ⟨rfl, rfl, rfl, rfl, rfl, rfl, fun _ => rfl⟩)
        · rw [upd_n (by omega), upd_e]
        · rw [upd_n (by omega), upd_e]
      · right
        have hk0 : K a2 = 0 := by rcases hk2 with e | e; exact absurd e h125; exact e
        obtain ⟨m2, w1, w2⟩ := stm_none (fM := fM') (o := 0 + 1) (nd := nd') (oc := oc') (WT := nI wt') (so := so') (wh := wh') (oe := oe') (tw := tw') (th := th') (nx := nx') (tk := tk') (os := os') (wa := wa') (wf := wf') B2 j2 (by omega) h36' (by omega) (by omega) hk0
        have hst := st_trans I3 (st_one rfl (by rw [mkV_i42, B2.2.2.2.2.2.1.1]; decide) w1)
        have e2 := fp_steps (x1 := nI x) (x2 := nI nd) (1999 - (j + 1)) hst
        rw [show 1999 - (j + 1) + (j + 1) = 1999 by omega] at e2
        rw [e2, b1S (w_closingN B2.1 j2 h125)]
        refine ⟨3, nI (p a2), ?_, km_fp2 (mb_mono (mb_base (frm_trans Fh I6.2.1) w2) (by omega)) hx (by omega)⟩
        exact kb1 (kb_add (cb_base I6.1 (cb_mkW B2 (by decide) (by omega)))) fun u hu => kb1 (kb_add hu) fun u hu => kbs hu
    · right
      have e2 := fp_steps (x1 := nI x) (x2 := nI nd) (1999 - j) hb2
      rw [show 1999 - j + j = 1999 by omega] at e2
      rw [e2]
      exact ⟨r, q, tailb _ _ _ hb1, km_fp2 (mb_base Fh hb3) hx (by omega)⟩
  · right
    rw [if_neg h123, b1S (v_spoil B.2.1 ha), b1S (w_openN B.1 ha h123), fp_L1 1999]
    unfold tModel_functionPart_b1
    rw [mkV_i29, if_neg (by decide)]
    obtain ⟨z, hz, hz'⟩ := h42
    refine ⟨3, nI (p a), kb21 (kb_statements (d := 79) (cq_mkW B (by decide) (by omega))) fun _ u hu => tailb _ _ _ hu, kms (mb_mkV (frm_refl h) (by decide) ha (by omega) (by omega) hz' (by omega))⟩
end TPS
