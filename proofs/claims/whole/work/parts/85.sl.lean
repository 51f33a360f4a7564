/-! Statements without statements in them. -/
section SL
variable {n : Nat} {K : Nat → Int32} {p : Nat → Nat} {V : Nat → Int64} {g h : St} {tv : Nat → Nat} {vc vm ar sb dp : Nat} {ag nb : Prop} {co op sz so wh oe tw th nx tk os wa wf : Nat → Int32} {fC fC1 fM1 a a1 o l nd d : Nat} {OC WT : Int32}
theorem nh_ext {M M1 : Nat → Nat → Int32} {nd nd' t : Nat} (h : ∀ i, i < nd → NodeEq M M1 i) (hn : nd ≤ nd') : NH M1 0 nd' t ↔ NH M 0 nd t ∨ NH M1 nd nd' t := by
  rw [nh_split (m := nd) (by omega) hn]
  exact or_congr (nh_congr fun i _ hi => ⟨(h i hi).1, (h i hi).2.2.2.2.1, (h i hi).2.2.2.2.2.2⟩) Iff.rfl
theorem cb_base {g' : St} {r q : Int32} {c : St} (e : FrC g g') (h : CBad g' n r q c) : CBad g n r q c := by
  obtain ⟨h1, h2, h3, h4, h5, h6⟩ := h
  exact ⟨frc_trans e h1, h2, h3, h4, ⟨(e.1 4 (by omega)).symm.trans h5.1, h5.2⟩, h6⟩
theorem mb_base {h' : St} {k : Nat} {r q : Int32} {m : St} (e : FrM h h') (b : MBad h' n k r q m) : MBad h n k r q m := ⟨frm_trans e b.1, b.2⟩
/-- a value, a semicolon, and what is done with the value -/
theorem fin_stm {c0 m0 : St} {X Y kk vv : Int32} (B : Bs n K p V g h tv vc vm ar ag) (L : Lv g h vc sb dp ag) (hag : ag ∨ fC1 < a) (hfC : fC1 ≤ fC) (hF : FRel fC1 fM1 (NH m0.2.2.1 0 nd)) (ha : a ≤ a1) (ha1 : a1 ≤ n) (hl : l ≤ 2 * a) (hnd : nd ≤ a) (ho1 : 1 ≤ o) (ho : o ≤ 12) (hd : 70 ≤ d + 5 * o) (hd2 : 10 ≤ d)
    (hm0 : tModel_statement m0 = b2 (tModel_value (mkV h 0 (-1) (ftk n fM1) (nI a1) (nI o) (nI nd) OC WT so wh oe tw th nx tk os wa wf) (-1)) (fun r1 u1 => b1 (tModel_need u1 59) (fun u2 => if (u2.1 29) = 0 then b2 (tModel_node u2 kk vv r1 (-1)) (fun r4 u4 => b1 (tModel_whole u4 r4) (fun u5 => some u5)) else some u2))) (hm1 : m0.1 29 = 0 ∧ ¬ m0.1 42 ≤ 0) (hm2 : ∀ i, i < nd → NodeEq m0.2.2.1 (mkV h 0 (-1) (ftk n fM1) (nI a1) (nI o) (nI nd) OC WT so wh oe tw th nx tk os wa wf).2.2.1 i) (hc0 : FW c0 (mkW g 0 (-1) (wn n p fC1) (nI a1) (nI o) (nI l) co op sz) l)
    (hk : kk = 11 ∨ kk = 15 ∨ kk = 16 ∨ kk = 17) (hX : X = 12 ∨ X = 7 ∨ X = 9 ∨ X = 21)
    (hq : n < fC1 → (kk = 15 ∧ X = 7) ∨ (kk = 16 ∧ X = 9) ∨ (kk = 17 ∧ X = 21) ∨ (kk = 11 ∧ X = 12 ∧ ∃ k : Nat, vv = nI k ∧ Y = nI k ∧ k < vc)) :
    SRes n K p V g h c0 m0 fC a o l nd vc sb dp ar ag nb (b2 (tG d 16 (mkW g 0 (-1) (wn n p fC1) (nI a1) (nI o) (nI l) co op sz) 1 0) (fun _ u1 => b1 (tCursor_pass u1 59) (fun u2 => b1 (tProgram_add u2 X Y 0) (fun u3 => some (0, u3))))) := by
  have hn := B.2.1.1.1
  obtain ⟨x, c', e1, e2⟩ := value_both (co := co) (op := op) (sz := sz) (so := so) (wh := wh) (oe := oe) (tw := tw) (th := th) (nx := nx) (tk := tk) (os := os) (wa := wa) (wf := wf) (fC := fC1) (fM := fM1) (a := a1) (l := l) (nd := nd) (OC := OC) (WT := WT) B hd hd2 ho1 ho ha1 (by omega) (by omega) (by rcases hag with e | e; exact Or.inl e; right; omega)
  rw [b2S e1]
  rcases e2 with ⟨a', l', nd', fC', fM', N, m2, ⟨co', op', sz', rfl⟩, ⟨so', wh', oe', tw', th', nx', tk', os', wa', wf', rfl⟩, e3, e4, ⟨j1, j2, j3, j4, j5, j6, j7⟩, e5, e6, e7, e8, e9⟩ | ⟨r, q, m', e3, e4, e5⟩
  · rw [b2S e3] at hm0
    by_cases h59 : K a' = 59
    · have ha' := kz_lt B.1 h59 (by decide)
      rw [b1S (v_need B.2.1 j2 wd59 h59), mkV_i29, if_pos rfl, b2S (v_node (by omega)), b1_id] at hm0
      rw [b1S (w_pass B.1 j2 h59), b1S (w_add (by omega))]
      refine ⟨0, _, rfl, Or.inl ⟨a' + 1, l' + 1, nd' + 1, fC', fM', nd', vc, vm, 0, 2000, ag, g, h, m0, _, tv, ⟨_, _, _, rfl⟩, ⟨1, 0, by omega, _, _, _, _, _, _, _, _, _, _, rfl⟩, rfl, hm1, ⟨hm0, by omega⟩, B, L, frv_refl, ⟨fun hg => ⟨hg, Nat.le_refl _⟩, fun _ _ => rfl⟩, ?_, by omega, ⟨by omega, by omega, by omega, by omega, by omega, by omega, by omega, by omega⟩, upd_e, ?_, fun i hi => ?_, ?_, ?_⟩⟩
      · rcases hag with e | e
        · exact Or.inl e
        · right; omega
      · intro i hi
        obtain ⟨q1, q2, q3⟩ := fw_trans hc0 e5 (Nat.le_refl _) i hi
        exact ⟨(upd_n (by omega)).trans q1, (upd_n (by omega)).trans q2, (upd_n (by omega)).trans q3⟩
      · exact ne_trans (ne_trans (hm2 i hi) (e6 i hi)) ⟨upd_n (by omega), upd_n (by omega), upd_n (by omega), upd_n (by omega), upd_n (by omega), upd_n (by omega), upd_n (by omega)⟩
      · refine sq_leaf (kk := kk) (vv := vv) (X := X) (Y := Y) e7 (Nat.le_refl _) ho1 ho (Nat.le_refl _) ha j1 (Nat.le_refl _) j3 ⟨j5, j6⟩ B.2.2.1.2 B.2.2.1.2 (fun i h1 h2 => ⟨upd_n (by omega), upd_n (by omega), upd_n (by omega)⟩) (fun i h1 h2 => ⟨upd_n (by omega), upd_n (by omega), upd_n (by omega), upd_n (by omega), upd_n (by omega), upd_n (by omega), fun _ => upd_n (by omega)⟩) ⟨upd_e, upd_e, upd_e⟩ ⟨upd_e, upd_e⟩ hk hX (fun hf => ?_)
        rcases hq (by omega) with ⟨q1, q2⟩ | ⟨q1, q2⟩ | ⟨q1, q2⟩ | ⟨q1, q2, k, q3, q4, q5⟩
        · exact Or.inl ⟨q1, q2, rfl⟩
        · exact Or.inr (Or.inl ⟨q1, q2, rfl⟩)
        · exact Or.inr (Or.inr (Or.inl ⟨q1, q2, rfl⟩))
        · exact Or.inr (Or.inr (Or.inr ⟨q1, q2, k, q3, q4, Or.inl ⟨q5, rfl⟩⟩))
      · refine frel_step hF e8 (by rcases hag with e | e; exact Or.inl e; right; omega) fun t => ?_
        rw [nh_ext (M := m0.2.2.1) (nd := nd) (fun i hi => ne_trans (ne_trans (hm2 i hi) (e6 i hi)) ⟨upd_n (by omega), upd_n (by omega), upd_n (by omega), upd_n (by omega), upd_n (by omega), upd_n (by omega), upd_n (by omega)⟩) (by omega), nh_split (l := nd) (m := nd') (by omega) (by omega)]
        refine or_congr Iff.rfl ⟨?_, fun e => Or.inl ((nh_congr fun i _ hi => ⟨upd_n (by omega), upd_n (by omega), upd_n (by omega)⟩).mpr e)⟩
        rintro (e | e)
        · exact (nh_congr fun i _ hi => ⟨upd_n (by omega), upd_n (by omega), upd_n (by omega)⟩).mp e
        · refine absurd e (nh_none ?_)
          show ¬ (upd so' nd' kk nd' = 4 ∨ upd so' nd' kk nd' = 5 ∨ upd so' nd' kk nd' = 12)
          rw [upd_e]; rcases hk with e | e | e | e <;> rw [e] <;> decide
    · rw [b1S (v_needN B.2.1 j2 wd59 h59), mkV_i29, if_neg (by decide)] at hm0
      rw [b1S (w_passN B.1 j2 h59)]
      obtain ⟨x', u, w1, w2⟩ := kb12 (kb_add (x := X) (y := Y) (z := 0) (cb_mkW (r := 3) (q := nI (p a')) (w := wn n p fC') (a := nI a') (o := nI o) (co := co') (op := op') (sz := sz') B (by decide) (show l' ≤ 440 by omega))) fun u hu => kbs2 (x := 0) hu
      exact ⟨x', u, w1, Or.inr ⟨3, nI (p a'), 1, _, w2, st_one hm1.1 hm1.2 hm0, mb_mono (mb_V B (by decide) j2 (by omega) (by omega)) (by omega), by omega⟩⟩
  · rw [b2S e4, b1S (mb_need B.2.1 e5 wd59), e5.2.1, if_neg e5.2.2.2.1] at hm0
    obtain ⟨x', u, w1, w2⟩ := kb12 (kb_pass (k := 59) e3 (by decide)) fun u hu => kb12 (kb_add (x := X) (y := Y) (z := 0) hu) fun u hu => kbs2 (x := 0) hu
    exact ⟨x', u, w1, Or.inr ⟨r, q, 1, m', w2, st_one hm1.1 hm1.2 hm0, mb_mono e5 (by omega), by omega⟩⟩
theorem ends_open {σ : St} {kk : Int32} : tModel_ends σ kk (-1) = b2 (tModel_value σ (-1)) (fun r1 u1 => b1 (tModel_need u1 59) (fun u2 => if (u2.1 29) = 0 then b2 (tModel_node u2 kk 0 r1 (-1)) (fun r4 u4 => b1 (tModel_whole u4 r4) (fun u5 => some u5)) else some u2)) := rfl
/-- brackets with a value in them, on the model's side -/
theorem inB_L1 (N : Nat) (σ : St) : tModel_inBrackets_L (N + 1) 1 σ 0 = b2 (tModel_value σ (-1)) (fun r5 u5 => b1 (tModel_sees u5 41) (fun r6 => if r6 = 0 then b1 (tModel_spoil u5) (fun u8 => tModel_inBrackets_L N 2 u8 r5) else tModel_inBrackets_L N 2 u5 r5)) := rfl
theorem inB_L2 (N : Nat) (σ : St) (x : Int32) : tModel_inBrackets_L (N + 1) 2 σ x = some (x, sI σ 32 ((σ.1 32) - 1)) := rfl
theorem km_inB {σ : St} {r q : Int32} {k : Nat} (T : TkM h n K p V) (b : MBad h n k r q σ) : KM2 h n k r q (tModel_inBrackets_L 2000 1 σ 0) := by
  rw [inB_L1 1999]
  refine km2 (km_value b) fun x u b => ?_
  have e : KM2 h n k r q (tModel_inBrackets_L 1999 2 u x) := by
    rw [inB_L2 1998]; exact kms2 (mb_sI b (by omega))
  rcases mb_sees T b wd41 with e1 | e1
  · rw [b1S e1, if_pos rfl, b1S (mb_spoil T b)]; exact e
  · rw [b1S e1, if_neg (by decide)]; exact e
/-- what a value in brackets comes to -/
def BStm (n : Nat) (K : Nat → Int32) (p : Nat → Nat) (g h c m c' : St) (mres : Option (Int32 × St)) (fC fM a o l nd vc : Nat) (ag : Prop) : Prop :=
  (∃ (a' l' nd' fC' fM' N : Nat) (m2 : St), PW n p g c' fC' a' (o + 1) l' ∧ PV n h m2 fM' a' o nd' 1 0 ∧ mres = some (nI N, m2) ∧ K a' = 41 ∧ o < 12 ∧ (a + 2 < a' ∧ a' < n ∧ l < l' ∧ l' + 4 ≤ l + 2 * (a' - a) ∧ nd ≤ N ∧ N < nd' ∧ nd' + 2 ≤ nd + (a' - a)) ∧ FW c c' l ∧ (∀ i, i < nd → NodeEq m.2.2.1 m2.2.2.1 i) ∧ VQ n K c'.2.2.1 m2.2.2.1 fC' (a + 2) a' (o + 1) l l' nd nd' N vc ∧ BI ag a fC fC' fM fM' (NH m2.2.2.1 nd nd') ∧ fC' ≤ fC) ∨
  (∃ (r q : Int32) (x : Int32) (m' : St), ((CBad g n r q c') ∨ (∃ a' l' fC', PW n p g c' fC' a' (o + 1) l' ∧ a' ≤ n ∧ l' ≤ 2 * a' ∧ ¬ K a' = 41 ∧ r = 3 ∧ q = nI (p a'))) ∧ mres = some (x, m') ∧ MBad h n 5 r q m')
/-- a word, and a value in brackets behind it; the word's place is a -/
theorem brackets {fC fM oc : Nat} (B : Bs n K p V g h tv vc vm ar ag) (hag : ag ∨ fC ≤ n) (ha : a < n) (hl : l ≤ 2 * a + 1) (hnd : nd ≤ a) (hoc : oc ≤ 40) (ho1 : 1 ≤ o) (ho : o ≤ 12) (hd : 65 ≤ d + 5 * o) (hd2 : 10 ≤ d) :
    ∃ x c', b1 (tCursor_passOpening (mkW g 0 (-1) (wn n p fC) (nI (a + 1)) (nI o) (nI l) co op sz) 40) (fun u => tG d 16 u 1 0) = some (x, c') ∧ BStm n K p g h (mkW g 0 (-1) (wn n p fC) (nI (a + 1)) (nI o) (nI l) co op sz) (mkV h 0 (-1) (ftk n fM) (nI a) (nI o) (nI nd) (nI oc) WT so wh oe tw th nx tk os wa wf) c' (tModel_inBrackets (mkV h 0 (-1) (ftk n fM) (nI a) (nI o) (nI nd) (nI oc) WT so wh oe tw th nx tk os wa wf)) fC fM a o l nd vc ag := by
  have hn := B.2.1.1.1
  have hd3 : ∃ j, d = j + 2 := ⟨d - 2, by omega⟩
  unfold tModel_inBrackets
  rw [mkV_i31, nI_suc, mkV_s31, b1S (v_sees B.2.1 (by omega) wd40)]
  by_cases h40 : K (a + 1) = 40
  · rw [if_pos h40, if_neg (by decide)]
    have ha1 := kz_lt B.1 h40 (by decide)
    by_cases h12 : o = 12
    · subst h12
      rw [b1S (v_opens12 B.2.1 (by omega)), b1S (w_open12 B.1 (by omega) h40)]
      obtain ⟨j, rfl⟩ := hd3
      obtain ⟨x, u, e1, e2⟩ := kb_value1 (d := j) (y := 0) (cb_mkW (r := 2) (q := nI (p (a + 1))) (w := wn n p fC) (a := nI (a + 1)) (o := nI 12) (co := co) (op := op) (sz := sz) B (by decide) (show l ≤ 440 by omega))
      obtain ⟨x', m', e3, e4⟩ := km_inB B.2.1 (mb_V (q := nI (p (a + 1))) (ft := ftk n fM) (o := nI 13) (wt := WT) (so := so) (wh := wh) (oe := oe) (tw := tw) (th := th) (nx := nx) (tk := tk) (os := os) (wa := wa) (wf := wf) B (show ¬ (2 : Int32) = 0 by decide) (show a + 1 ≤ n by omega) (show nd ≤ 400 by omega) (show oc ≤ 40 by omega))
      exact ⟨x, u, e1, Or.inr ⟨2, nI (p (a + 1)), x', m', Or.inl e2, e3, mb_mono e4 (by omega)⟩⟩
    · have ho' : o < 12 := by omega
      rw [b1S (v_opens ho'), b1S (w_open B.1 (by omega) h40 ho'), inB_L1 1999]
      obtain ⟨x, c', e1, e2⟩ := value_both (co := co) (op := op) (sz := sz) (so := so) (wh := wh) (oe := oe) (tw := tw) (th := th) (nx := nx) (tk := tk) (os := os) (wa := wa) (wf := wf) (fC := fC) (fM := fM) (a := a + 2) (o := o + 1) (l := l) (nd := nd) (d := d) (OC := nI oc) (WT := WT) B (by omega) hd2 (by omega) (by omega) (by omega) (by omega) (by omega) hag
      refine ⟨x, c', e1, ?_⟩
      rcases e2 with ⟨a', l', nd', fC', fM', N, m2, hc', ⟨so', wh', oe', tw', th', nx', tk', os', wa', wf', rfl⟩, e3, e4, ⟨j1, j2, j3, j4, j5, j6, j7⟩, e5, e6, e7, e8, e9⟩ | ⟨r, q, m', e3, e4, e5⟩
      · rw [b2S e3, b1S (v_sees B.2.1 j2 wd41)]
        by_cases h41 : K a' = 41
        · have ha' := kz_lt B.1 h41 (by decide)
          rw [if_pos h41, if_neg (by decide), inB_L2 1998, mkV_i32, nI_pred, mkV_s32]
          exact Or.inl ⟨a', l', nd', fC', fM', N, _, hc', ⟨_, _, _, _, _, _, _, _, _, _, rfl⟩, rfl, h41, ho', ⟨by omega, ha', by omega, by omega, by omega, by omega, by omega⟩, e5, e6, e7, bi_low e8 (by omega), e9⟩
        · rw [if_neg h41, if_pos rfl, b1S (v_spoil B.2.1 j2), inB_L2 1998, mkV_i32, nI_pred, mkV_s32]
          exact Or.inr ⟨3, nI (p a'), nI N, _, Or.inr ⟨a', l', fC', hc', j2, by omega, h41, rfl, rfl⟩, rfl, mb_mono (mb_V B (by decide) j2 (by omega) (by omega)) (by omega)⟩
      · rw [b2S e4]
        have e6 : KM2 h n 5 r q (tModel_inBrackets_L 1999 2 m' 0) := by
          rw [inB_L2 1998]; exact kms2 (mb_sI e5 (by omega))
        obtain ⟨x', u, w1, w2⟩ := e6
        refine Or.inr ⟨r, q, x', u, Or.inl e3, ?_, w2⟩
        rcases mb_sees B.2.1 e5 wd41 with y | y
        · rw [b1S y, if_pos rfl, b1S (mb_spoil B.2.1 e5), w1]
        · rw [b1S y, if_neg (by decide), w1]
  · rw [if_neg h40, if_pos rfl, b1S (v_spoil B.2.1 (by omega)), b1S (w_openN B.1 (by omega) h40)]
    obtain ⟨j, rfl⟩ := hd3
    obtain ⟨x, u, e1, e2⟩ := kb_value1 (d := j) (y := 0) (cb_mkW (r := 3) (q := nI (p (a + 1))) (w := wn n p fC) (a := nI (a + 1)) (o := nI o) (co := co) (op := op) (sz := sz) B (by decide) (show l ≤ 440 by omega))
    obtain ⟨x', m', e3, e4⟩ := km_inB B.2.1 (mb_V (q := nI (p (a + 1))) (ft := ftk n fM) (o := nI o) (wt := WT) (so := so) (wh := wh) (oe := oe) (tw := tw) (th := th) (nx := nx) (tk := tk) (os := os) (wa := wa) (wf := wf) B (show ¬ (3 : Int32) = 0 by decide) (show a + 1 ≤ n by omega) (show nd ≤ 400 by omega) (show oc ≤ 40 by omega))
    exact ⟨x, u, e1, Or.inr ⟨3, nI (p (a + 1)), x', m', Or.inl e2, e3, mb_mono e4 (by omega)⟩⟩
end SL
