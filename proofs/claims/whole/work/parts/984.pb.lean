/-! Parameters, both sides. -/
theorem mpar_L1 (N : Nat) (σ : St) (x1 x2 : Int32) : tModel_parameters_L (N + 1) 1 σ x1 x2 = tModel_parameters_L N 2 σ x1 x2 := rfl
theorem mpar_L2 (N : Nat) (σ : St) (x1 x2 : Int32) : tModel_parameters_L (N + 1) 2 σ x1 x2 = tModel_parameters_b2 (tModel_parameters_L N) σ x1 x2 := rfl
theorem mpar_L3 (N : Nat) (σ : St) (x1 x2 : Int32) : tModel_parameters_L (N + 1) 3 σ x1 x2 = tModel_parameters_b3 (tModel_parameters_L N) σ x1 x2 := rfl
theorem mpar_L4 (N : Nat) (σ : St) (x1 x2 : Int32) : tModel_parameters_L (N + 1) 4 σ x1 x2 = tModel_parameters_b4 (tModel_parameters_L N) σ x1 x2 := rfl
theorem mpar_L5 (N : Nat) (σ : St) (x1 x2 : Int32) : tModel_parameters_L (N + 1) 5 σ x1 x2 = tModel_parameters_b5 (tModel_parameters_L N) σ x1 x2 := rfl
/-- the globals are left alone -/
def KeepG (g g' : St) : Prop := g'.1 9 = g.1 9 ∧ g'.1 10 = g.1 10 ∧ g'.1 11 = g.1 11 ∧ g'.1 12 = g.1 12 ∧ g'.2.2.1 = g.2.2.1 ∧ g'.2.2.2 2 = g.2.2.2 2 ∧ FrC g g'
def KeepH (h h' : St) : Prop := h'.1 35 = h.1 35 ∧ h'.1 36 = h.1 36 ∧ h'.1 37 = h.1 37 ∧ h'.1 39 = h.1 39 ∧ h'.1 42 = h.1 42 ∧ h'.2.2.1 27 = h.2.2.1 27 ∧ h'.2.2.1 28 = h.2.2.1 28 ∧ h'.2.2.1 29 = h.2.2.1 29 ∧ h'.2.2.1 30 = h.2.2.1 30 ∧ h'.2.2.1 36 = h.2.2.1 36 ∧ FrM h h'
theorem kg_refl {g : St} : KeepG g g := ⟨rfl, rfl, rfl, rfl, rfl, rfl, frc_refl g⟩
theorem kh_refl {h : St} : KeepH h h := ⟨rfl, rfl, rfl, rfl, rfl, rfl, rfl, rfl, rfl, rfl, frm_refl h⟩
theorem kg_trans {g g1 g2 : St} (a : KeepG g g1) (b : KeepG g1 g2) : KeepG g g2 := ⟨b.1.trans a.1, b.2.1.trans a.2.1, b.2.2.1.trans a.2.2.1, b.2.2.2.1.trans a.2.2.2.1, b.2.2.2.2.1.trans a.2.2.2.2.1, b.2.2.2.2.2.1.trans a.2.2.2.2.2.1, frc_trans a.2.2.2.2.2.2 b.2.2.2.2.2.2⟩
theorem kh_trans {h h1 h2 : St} (a : KeepH h h1) (b : KeepH h1 h2) : KeepH h h2 := by
  obtain ⟨a1, a2, a3, a4, a5, a6, a7, a8, a9, a10, a11⟩ := a
  obtain ⟨b1, b2, b3, b4, b5, b6, b7, b8, b9, b10, b11⟩ := b
  exact ⟨b1.trans a1, b2.trans a2, b3.trans a3, b4.trans a4, b5.trans a5, b6.trans a6, b7.trans a7, b8.trans a8, b9.trans a9, b10.trans a10, frm_trans a11 b11⟩
section PB
variable {n : Nat} {K : Nat → Int32} {p : Nat → Nat} {V : Nat → Int64} {g h : St} {co op sz so wh oe tw th nx tk os wa wf : Nat → Int32} {l nd oc ar T0 : Nat} {WT : Int32}
theorem mq_V {h' : St} {r q ft o wt : Int32} {a : Nat} (hk : KeepH h h') (h42 : h.1 42 = nI ar) (har : ar ≤ 40) (hr : ¬ r = 0) (ha : a ≤ n) (hd : nd ≤ 400) (hoc : oc ≤ 40) : MBad h n 10 r q (mkV h' r q ft (nI a) o (nI nd) (nI oc) wt so wh oe tw th nx tk os wa wf) :=
  mb_mkV hk.2.2.2.2.2.2.2.2.2.2 hr ha (by omega) (by omega) (hk.2.2.2.2.1.trans h42) (by omega)
/-- behind a refusal among the parameters -/
theorem km_par2 {σ : St} {k N : Nat} {r q x y : Int32} (T : TkM h n K p V) (b : MBad h n k r q σ) (hN : 0 < N) : KM2 h n k r q (tModel_parameters_L N 2 σ x y) := by
  obtain ⟨N, rfl⟩ : ∃ j, N = j + 1 := ⟨N - 1, by omega⟩
  rw [mpar_L2]
  unfold tModel_parameters_b2
  rw [b.2.1, if_neg b.2.2.2.1, b1S (mb_need T b wd41)]
  split <;> exact kms2 b
theorem km_par5 {σ : St} {k N : Nat} {r q x y : Int32} (T : TkM h n K p V) (b : MBad h n k r q σ) (hN : 1 < N) : KM2 h n k r q (tModel_parameters_L N 5 σ x y) := by
  obtain ⟨N, rfl⟩ : ∃ j, N = j + 1 := ⟨N - 1, by omega⟩
  rw [mpar_L5]
  unfold tModel_parameters_b5
  rcases mb_sees T b wd44 with e | e
  · rw [b1S e, if_pos rfl]; exact km_par2 T b (by omega)
  · rw [b1S e, if_neg (by decide), b.2.1, if_neg b.2.2.2.1]; exact km_par2 T b (by omega)
theorem km_par3 {σ : St} {k N : Nat} {r q x y : Int32} (T : TkM h n K p V) (b : MBad h n k r q σ) (hN : 2 < N) : KM2 h n k r q (tModel_parameters_L N 3 σ x y) := by
  obtain ⟨N, rfl⟩ : ∃ j, N = j + 1 := ⟨N - 1, by omega⟩
  rw [mpar_L3]
  unfold tModel_parameters_b3
  rw [b.2.1, if_neg b.2.2.2.1]
  exact km_par5 T b (by omega)
/-- i parameters have been read: T0 is a name blamed by the model only, as yet -/
def PL (n : Nat) (K : Nat → Int32) (p : Nat → Nat) (V : Nat → Int64) (g h : St) (co op sz so wh oe tw th nx tk os wa wf : Nat → Int32) (l nd oc : Nat) (WT : Int32) (S : Nat → Prop) (T0 fC0 i a : Nat) (c m : St) : Prop :=
  ∃ (g' h' : St) (tv : Nat → Nat) (vc vm fC fM : Nat) (ag : Prop), c = mkW g' 0 (-1) (wn n p fC) (nI a) (nI 0) (nI l) co op sz ∧ m = mkV h' 0 (-1) (ftk n fM) (nI a) (nI 0) (nI nd) (nI oc) WT so wh oe tw th nx tk os wa wf ∧ Bq n K p V g' h' tv vc vm ag ∧ Lv g' h' vc 0 1 ag ∧ KeepG g g' ∧ KeepH h h' ∧ (ag ∨ fC < a) ∧ fC ≤ fC0 ∧ FRel (min fC T0) fM S ∧ (n < fC → vc = i ∧ i ≤ 4) ∧ a ≤ n
theorem bi_virt {ag : Prop} {a fC fC' fM fM' T : Nat} {S : Nat → Prop} (h : BI ag a fC fC' fM fM' S) : BI ag a (min fC T) (min fC' T) fM fM' S := by
  obtain ⟨X, Y, b1, b2, b3, b4, b5, b6⟩ := h
  exact ⟨X, Y, b1, b2, by omega, b4, b5, b6⟩
/-- one parameter -/
theorem par_step {S : Nat → Prop} {fC0 i a N : Nat} {c m : St} (h42 : h.1 42 = nI ar) (har : ar ≤ 40) (hoc : oc ≤ 40) (hnd : nd ≤ 400) (hl : l ≤ 440) (hi : i < 1000) (hN : 10 < N) (P : PL n K p V g h co op sz so wh oe tw th nx tk os wa wf l nd oc WT S T0 fC0 i a c m) :
    (∃ c' m', parOne i c = some c' ∧ (∃ N', N ≤ N' + 4 ∧ tModel_parameters_L N 2 m (nI i) 1 = tModel_parameters_L N' 5 m' (nI (i + 1)) 0) ∧ PL n K p V g h co op sz so wh oe tw th nx tk os wa wf l nd oc WT S T0 fC0 (i + 1) (a + 2) c' m') ∨
    (∃ r q, KB g n r q (parOne i c) ∧ KM2 h n 10 r q (tModel_parameters_L N 2 m (nI i) 1)) := by
  obtain ⟨g', h', tv, vc, vm, fC, fM, ag, rfl, rfl, B, L, kG, kH, hag, hfC, hF, hvi, ha⟩ := P
  have hn := B.2.1.1.1
  obtain ⟨N, rfl⟩ : ∃ j, N = j + 4 := ⟨N - 4, by omega⟩
  rw [mpar_L2]
  unfold tModel_parameters_b2
  rw [if_neg (by decide), mkV_i29, if_pos rfl]
  unfold parOne
  by_cases h3 : K a = 3
  · have ha3 := kz_lt B.1 h3 (by decide)
    -- the blame of one too many
    have hb0 : ∃ f1, f1 ≤ fC ∧ (i < 4 → f1 = fC) ∧ (¬ i < 4 → f1 = min fC (a + 1)) ∧ (if i < 4 then some (mkW g' 0 (-1) (wn n p fC) (nI (a + 1)) (nI 0) (nI l) co op sz) else tVariables_mustNotMake (mkW g' 0 (-1) (wn n p fC) (nI (a + 1)) (nI 0) (nI l) co op sz) (nI (a + 1))) = some (mkW g' 0 (-1) (wn n p f1) (nI (a + 1)) (nI 0) (nI l) co op sz) := by
      by_cases h4 : i < 4
      · exact ⟨fC, Nat.le_refl _, fun _ => rfl, fun e => absurd h4 e, by rw [if_pos h4]⟩
      · refine ⟨min fC (a + 1), by omega, fun e => absurd e h4, fun _ => rfl, ?_⟩
        rw [if_neg h4, w_notMake B.1 (by omega)]
    obtain ⟨f1, f1a, f1b, f1c, hb0⟩ := hb0
    rw [b1S (v_need B.2.1 ha wd3 h3), mkV_i29, if_pos rfl, mkV_i31, gdT (inI (by omega) (by omega)), tc_nI (by omega), mkV_r16, b1S (w_pass B.1 ha h3), mkW_i6, b1S hb0, mkW_i6]
    by_cases h1 : K (a + 1) = 1
    · left
      have ha1 := kz_lt B.1 h1 (by decide)
      rw [if_pos ((B.2.1.2.2.1 (a + 1) (by omega)).1.mpr h1), mpar_L3]
      unfold tModel_parameters_b3
      obtain ⟨g2, h2, tv2, v2, vm2, f2, m2, ag2, xx, y1, y2, y3, y4, y5, y6, y7, y8, y9, y10, y11⟩ := make_bq (fC := f1) (fM := fM) (a := a + 1) (o := 0) (l := l) (co := co) (op := op) (sz := sz) (A := nI (a + 1)) (O := nI 0) (ND := nI nd) (OC := nI oc) (WT := WT) (so := so) (wh := wh) (oe := oe) (tw := tw) (th := th) (nx := nx) (tk := tk) (os := os) (wa := wa) (wf := wf) B L ha1 h1
      have kG2 : KeepG g' g2 := by
        rcases y10 with e | ⟨x, v, e⟩
        · rw [e]; exact kg_refl
        · rw [e]; exact ⟨rfl, rfl, rfl, rfl, rfl, rfl, frc_sI (frc_sL (frc_refl g') (by omega)) (by omega)⟩
      have kH2 : KeepH h' h2 := by
        rw [y11]
        exact ⟨rfl, rfl, rfl, rfl, rfl, rfl, rfl, rfl, rfl, rfl, frm_sI (frm_sA (frm_sA (frm_refl h') (by omega)) (by omega)) (by omega)⟩
      rw [mkV_i29, if_pos rfl, mkV_i31, b1S y2, nI_suc, b2S y1, b1S (w_pass y3.1 (by omega) h1)]
      have hag2 : ag2 ∨ f2 < a + 2 := by
        rcases y8 with e | e | ⟨e1, e2⟩
        · exact Or.inl e
        · right; omega
        · rcases hag with e | e
          · exact absurd e e1
          · right; omega
      -- the model's blame of one too many
      have hb1 : ∃ m3, (i < 4 → m3 = m2) ∧ (¬ i < 4 → m3 = min m2 (a + 1)) ∧ (if nI (i + 1) ≤ 4 then tModel_parameters_L (N + 2) 4 (mkV h2 0 (-1) (ftk n m2) (nI (a + 1)) (nI 0) (nI nd) (nI oc) WT so wh oe tw th nx tk os wa wf) (nI (i + 1)) 0 else b1 (tModel_notName (mkV h2 0 (-1) (ftk n m2) (nI (a + 1)) (nI 0) (nI nd) (nI oc) WT so wh oe tw th nx tk os wa wf) ((mkV h2 0 (-1) (ftk n m2) (nI (a + 1)) (nI 0) (nI nd) (nI oc) WT so wh oe tw th nx tk os wa wf).1 31)) (fun u15 => tModel_parameters_L (N + 2) 4 u15 (nI (i + 1)) 0)) = tModel_parameters_L (N + 2) 4 (mkV h2 0 (-1) (ftk n m3) (nI (a + 1)) (nI 0) (nI nd) (nI oc) WT so wh oe tw th nx tk os wa wf) (nI (i + 1)) 0 := by
        by_cases h4 : i < 4
        · exact ⟨m2, fun _ => rfl, fun e => absurd h4 e, if_pos (show nI (i + 1) ≤ 4 from (nI_leI (b := 4) (by omega) (by omega)).mpr (by omega))⟩
        · refine ⟨min m2 (a + 1), fun e => absurd e h4, fun _ => rfl, ?_⟩
          rw [if_neg (show ¬ nI (i + 1) ≤ 4 from fun e => absurd ((nI_leI (b := 4) (by omega) (by omega)).mp e) (by omega)), mkV_i31, b1S (v_notName (by omega) hn)]
      obtain ⟨m3, m3a, m3b, hb1⟩ := hb1
      refine ⟨_, _, rfl, ⟨N + 1, by omega, ?_⟩, g2, h2, tv2, v2, vm2, f2, m3, ag2, rfl, rfl, y3, y4, kg_trans kG kG2, kh_trans kH kH2, hag2, by omega, ?_, fun hf => ?_, by omega⟩
      · refine Eq.trans hb1 ?_
        rw [mpar_L4]
        unfold tModel_parameters_b4
        rw [mkV_i31, nI_suc, mkV_s31]
      · have g1 : BI ag (a + 1) (min fC T0) (min f2 T0) fM m3 (fun _ => False) := by
          refine bi_virt ?_
          by_cases h4 : i < 4
          · rw [m3a h4, ← f1b h4]; exact y7
          · rw [m3b h4]
            have e1 := f1c h4
            obtain ⟨X, Y, b1, b2, b3, b4, b5, b6⟩ := y7
            exact ⟨a + 1, a + 1, Nat.le_refl _, Nat.le_refl _, by omega, by omega, fun t ht => ht.elim, fun _ => ⟨Nat.le_refl _, fun t ht => ht.elim, Or.inl rfl⟩⟩
        exact frel_step hF g1 (by rcases hag with e | e; exact Or.inl e; right; omega) (fun t => ⟨Or.inl, fun e => e.elim id (fun e => e.elim)⟩)
      · have h4 : i < 4 := by
          rcases Nat.lt_or_ge i 4 with e | e
          · exact e
          · have := f1c (by omega); omega
        have e1 := f1b h4
        have hg : ag2 := by rcases hag2 with e | e; exact e; omega
        obtain ⟨z1, z2, z3, z4, z5⟩ := y6 hg
        have := hvi (by omega)
        omega
    · right
      rw [if_neg (fun e => h1 ((B.2.1.2.2.1 (a + 1) (by omega)).1.mp e)), b1S (v_spoil B.2.1 (by omega))]
      have b := mq_V (nd := nd) (oc := oc) (so := so) (wh := wh) (oe := oe) (tw := tw) (th := th) (nx := nx) (tk := tk) (os := os) (wa := wa) (wf := wf) (r := 3) (q := nI (p (a + 1))) (ft := ftk n fM) (o := nI 0) (wt := WT) kH h42 har (by decide) (show a + 1 ≤ n by omega) hnd hoc
      have hT : TkM h n K p V := tkm_keep (frm_same kH.2.2.2.2.2.2.2.2.2.2 |> fun s => ⟨s.1.symm, s.2.1.symm, s.2.2.1.symm, s.2.2.2.1.symm, s.2.2.2.2.1.symm, s.2.2.2.2.2.symm⟩) B.2.1
      refine ⟨3, nI (p (a + 1)), ?_, km_par3 hT b (by omega)⟩
      obtain ⟨u, w1, w2⟩ := make_any (f := f1) (o := 0) (co := co) (op := op) (sz := sz) B.1 B.2.2.1.1 B.2.2.1.2 L.1 (by omega) B.2.2.2.2.2.2 (show a + 1 ≤ n by omega) (show a + 1 ≤ n by omega) hl h1
      exact ⟨u, w1, cb_base kG.2.2.2.2.2.2 w2⟩
  · right
    rw [b1S (v_needN B.2.1 ha wd3 h3), mkV_i29, if_neg (by decide), b1S (w_passN B.1 ha h3)]
    have b := mq_V (nd := nd) (oc := oc) (so := so) (wh := wh) (oe := oe) (tw := tw) (th := th) (nx := nx) (tk := tk) (os := os) (wa := wa) (wf := wf) (r := 3) (q := nI (p a)) (ft := ftk n fM) (o := nI 0) (wt := WT) kH h42 har (by decide) ha hnd hoc
    have hT : TkM h n K p V := tkm_keep (frm_same kH.2.2.2.2.2.2.2.2.2.2 |> fun s => ⟨s.1.symm, s.2.1.symm, s.2.2.1.symm, s.2.2.2.1.symm, s.2.2.2.2.1.symm, s.2.2.2.2.2.symm⟩) B.2.1
    refine ⟨3, nI (p a), ?_, km_par3 hT b (by omega)⟩
    have hcb := cb_base kG.2.2.2.2.2.2 (cq_mkW (r := 3) (q := nI (p a)) (w := wn n p fC) (a := nI a) (o := nI 0) (co := co) (op := op) (sz := sz) B (by decide) hl)
    refine kb1 ?_ fun u hu => kb21 (kb_make hu) fun _ u hu => kb1 (kb_pass hu (by decide)) fun u hu => kbs hu
    split
    · exact kbs hcb
    · exact kb_notMake hcb
end PB
