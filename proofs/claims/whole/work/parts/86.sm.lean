/-! Printing, setting, making. -/
theorem b1_b2 {β : Type} {o : Option St} {k : St → Option (Int32 × St)} {f : Int32 → St → Option β} : b1 o (fun u => b2 (k u) f) = b2 (b1 o k) f := by cases o <;> rfl
section SM
variable {n : Nat} {K : Nat → Int32} {p : Nat → Nat} {V : Nat → Int64} {g h : St} {tv : Nat → Nat} {vc vm ar sb dp A : Nat} {ag nb : Prop} {co op sz so wh oe tw th nx tk os wa wf : Nat → Int32} {fC fM a o l nd d oc : Nat} {WT : Int32}
theorem beg_ar (B : Bs n K p V g h tv vc vm ar ag) (har : 1 ≤ ar) : (mkV h 0 (-1) (ftk n fM) (nI a) (nI o) (nI nd) (nI oc) WT so wh oe tw th nx tk os wa wf).1 29 = 0 ∧ ¬ (mkV h 0 (-1) (ftk n fM) (nI a) (nI o) (nI nd) (nI oc) WT so wh oe tw th nx tk os wa wf).1 42 ≤ 0 := by
  refine ⟨rfl, ?_⟩
  rw [mkV_i42, B.2.2.2.2.2.1.1]
  exact nI_nle (by have := B.2.2.2.2.2.1.2; omega) (by have := B.2.2.2.2.2.1.2; omega)
theorem stm_print (hB : Beg n K p V g h (mkV h 0 (-1) (ftk n fM) (nI a) (nI o) (nI nd) (nI oc) WT so wh oe tw th nx tk os wa wf) tv fC fM a o l nd vc vm sb dp ar A ag) (hoc : oc ≤ 40) (hd : 65 ≤ d + 5 * o) (hd2 : 10 ≤ d) (hk : K a = 9)
    (hm0 : tModel_statement (mkV h 0 (-1) (ftk n fM) (nI a) (nI o) (nI nd) (nI oc) WT so wh oe tw th nx tk os wa wf) = tModel_prints (mkV h 0 (-1) (ftk n fM) (nI a) (nI o) (nI nd) (nI oc) WT so wh oe tw th nx tk os wa wf)) :
    SRes n K p V g h (mkW g 0 (-1) (wn n p fC) (nI a) (nI o) (nI l) co op sz) (mkV h 0 (-1) (ftk n fM) (nI a) (nI o) (nI nd) (nI oc) WT so wh oe tw th nx tk os wa wf) fC a o l nd vc sb dp ar ag nb (b1 (tCursor_pass (mkW g 0 (-1) (wn n p fC) (nI a) (nI o) (nI l) co op sz) 9) (fun u16 => b1 (tCursor_passOpening u16 40) (fun u17 => b2 (tG d 16 u17 1 0) (fun r18 u18 => b1 (tCursor_passClosing u18 41) (fun u19 => b1 (tCursor_pass u19 59) (fun u20 => b1 (tProgram_add u20 9 0 0) (fun u21 => some (0, u21)))))))) := by
  obtain ⟨B, L, hag, hF, ⟨ha, hl, hnd, ho1, ho⟩, ⟨har, har2, hA, hA2, hdp⟩⟩ := hB
  have hn := B.2.1.1.1
  have han := kz_lt B.1 hk (by decide)
  have hm1 := beg_ar (fM := fM) (a := a) (o := o) (nd := nd) (oc := oc) (WT := WT) (so := so) (wh := wh) (oe := oe) (tw := tw) (th := th) (nx := nx) (tk := tk) (os := os) (wa := wa) (wf := wf) B har
  rw [b1S (w_pass B.1 ha hk), b1_b2]
  obtain ⟨x, c', e1, e2⟩ := brackets (co := co) (op := op) (sz := sz) (so := so) (wh := wh) (oe := oe) (tw := tw) (th := th) (nx := nx) (tk := tk) (os := os) (wa := wa) (wf := wf) (fC := fC) (fM := fM) (a := a) (o := o) (l := l) (nd := nd) (d := d) (oc := oc) (WT := WT) B (by rcases hag with e | e; exact Or.inl e; right; omega) han (by omega) hnd hoc ho1 ho hd hd2
  rw [b2S e1]
  unfold tModel_prints at hm0
  rcases e2 with ⟨a', l', nd', fC', fM', N, m2, ⟨co', op', sz', rfl⟩, ⟨so', wh', oe', tw', th', nx', tk', os', wa', wf', rfl⟩, e3, h41, ho', ⟨j1, j2, j3, j4, j5, j6, j7⟩, e5, e6, e7, e8, e9⟩ | ⟨r, q, x', m', e3, e4, e5⟩
  · rw [b2S e3, b1S (v_need B.2.1 (by omega) wd41 h41)] at hm0
    rw [b1S (w_closing B.1 (by omega) h41)]
    by_cases h59 : K (a' + 1) = 59
    · have ha' := kz_lt B.1 h59 (by decide)
      rw [b1S (v_need B.2.1 (by omega) wd59 h59), mkV_i29, if_pos rfl, b2S (v_node (by omega)), b1_id] at hm0
      rw [b1S (w_pass B.1 (by omega) h59), b1S (w_add (by omega))]
      refine ⟨0, _, rfl, Or.inl ⟨a' + 2, l' + 1, nd' + 1, fC', fM', nd', vc, vm, 0, 2000, ag, g, h, _, _, tv, ⟨_, _, _, rfl⟩, ⟨1, 0, by omega, _, _, _, _, _, _, _, _, _, _, rfl⟩, rfl, hm1, ⟨hm0, by omega⟩, B, L, frv_refl, ⟨fun hg => ⟨hg, Nat.le_refl _⟩, fun _ _ => rfl⟩, ?_, by omega, ⟨by omega, by omega, by omega, by omega, by omega, by omega, by omega, by omega⟩, upd_e, ?_, fun i hi => ?_, ?_, ?_⟩⟩
      · rcases hag with e | e
        · exact Or.inl e
        · right; omega
      · intro i hi
        obtain ⟨q1, q2, q3⟩ := e5 i hi
        exact ⟨(upd_n (by omega)).trans q1, (upd_n (by omega)).trans q2, (upd_n (by omega)).trans q3⟩
      · exact ne_trans (e6 i hi) ⟨upd_n (by omega), upd_n (by omega), upd_n (by omega), upd_n (by omega), upd_n (by omega), upd_n (by omega), upd_n (by omega)⟩
      · exact sq_leaf (kk := 16) (vv := 0) (X := 9) (Y := 0) e7 (Nat.le_refl _) ho1 ho (by omega) (by omega) (by omega) (by omega) j3 ⟨j5, j6⟩ B.2.2.1.2 B.2.2.1.2 (fun i h1 h2 => ⟨upd_n (by omega), upd_n (by omega), upd_n (by omega)⟩) (fun i h1 h2 => ⟨upd_n (by omega), upd_n (by omega), upd_n (by omega), upd_n (by omega), upd_n (by omega), upd_n (by omega), fun _ => upd_n (by omega)⟩) ⟨upd_e, upd_e, upd_e⟩ ⟨upd_e, upd_e⟩ (by decide) (by decide) (fun _ => Or.inr (Or.inl ⟨rfl, rfl, rfl⟩))
      · refine frel_step hF e8 hag fun t => ?_
        rw [nh_ext (M := (mkV h 0 (-1) (ftk n fM) (nI a) (nI o) (nI nd) (nI oc) WT so wh oe tw th nx tk os wa wf).2.2.1) (nd := nd) (fun i hi => ne_trans (e6 i hi) ⟨upd_n (by omega), upd_n (by omega), upd_n (by omega), upd_n (by omega), upd_n (by omega), upd_n (by omega), upd_n (by omega)⟩) (by omega), nh_split (l := nd) (m := nd') (by omega) (by omega)]
        refine or_congr Iff.rfl ⟨?_, fun e => Or.inl ((nh_congr fun i _ hi => ⟨upd_n (by omega), upd_n (by omega), upd_n (by omega)⟩).mpr e)⟩
        rintro (e | e)
        · exact (nh_congr fun i _ hi => ⟨upd_n (by omega), upd_n (by omega), upd_n (by omega)⟩).mp e
        · refine absurd e (nh_none ?_)
          show ¬ (upd so' nd' 16 nd' = 4 ∨ upd so' nd' 16 nd' = 5 ∨ upd so' nd' 16 nd' = 12)
          rw [upd_e]; decide
    · rw [b1S (v_needN B.2.1 (by omega) wd59 h59), mkV_i29, if_neg (by decide)] at hm0
      rw [b1S (w_passN B.1 (by omega) h59)]
      obtain ⟨x', u, w1, w2⟩ := kb12 (kb_add (x := 9) (y := 0) (z := 0) (cb_mkW (r := 3) (q := nI (p (a' + 1))) (w := wn n p fC') (a := nI (a' + 1)) (o := nI o) (co := co') (op := op') (sz := sz') B (by decide) (show l' ≤ 440 by omega))) fun u hu => kbs2 (x := 0) hu
      exact ⟨x', u, w1, Or.inr ⟨3, nI (p (a' + 1)), 1, _, w2, st_one hm1.1 hm1.2 hm0, mb_mono (mb_V B (by decide) (by omega) (by omega) (by omega)) (by omega), by omega⟩⟩
  · rw [b2S e4, b1S (mb_need B.2.1 e5 wd41), b1S (mb_need B.2.1 e5 wd59), e5.2.1, if_neg e5.2.2.2.1] at hm0
    have hcb : KB g n r q (tCursor_passClosing c' 41) := by
      rcases e3 with e3 | ⟨a', l', fC', ⟨co', op', sz', rfl⟩, q1, q2, q3, rfl, rfl⟩
      · exact kb_closing e3 (by decide)
      · rw [w_closingN B.1 q1 q3]
        exact kbs (cb_mkW B (by decide) (by omega))
    obtain ⟨x', u, w1, w2⟩ := kb12 hcb fun u hu => kb12 (kb_pass (k := 59) hu (by decide)) fun u hu => kb12 (kb_add (x := 9) (y := 0) (z := 0) hu) fun u hu => kbs2 (x := 0) hu
    exact ⟨x', u, w1, Or.inr ⟨r, q, 1, m', w2, st_one hm1.1 hm1.2 hm0, mb_mono e5 (by omega), by omega⟩⟩
theorem named_L1 (N : Nat) (σ : St) (x1 x2 : Int32) : tModel_named_L (N + 1) 1 σ x1 x2 = b2 (tModel_value σ (-1)) (fun r15 u15 => b1 (tModel_need u15 59) (fun u16 => if (u16.1 29) = 0 then b2 (tModel_node u16 11 x1 r15 (-1)) (fun r18 u18 => b1 (tModel_whole u18 r18) (fun u19 => some u19)) else some u16)) := rfl
/-- a name, "=" and a value -/
theorem stm_set (hB : Beg n K p V g h (mkV h 0 (-1) (ftk n fM) (nI a) (nI o) (nI nd) (nI oc) WT so wh oe tw th nx tk os wa wf) tv fC fM a o l nd vc vm sb dp ar A ag) (hd : 70 ≤ d + 5 * o) (hd2 : 10 ≤ d) (hk : K a = 1) (hk1 : K (a + 1) = 61)
    (hm0 : tModel_statement (mkV h 0 (-1) (ftk n fM) (nI a) (nI o) (nI nd) (nI oc) WT so wh oe tw th nx tk os wa wf) = tModel_named (mkV h 0 (-1) (ftk n fM) (nI a) (nI o) (nI nd) (nI oc) WT so wh oe tw th nx tk os wa wf)) :
    SRes n K p V g h (mkW g 0 (-1) (wn n p fC) (nI a) (nI o) (nI l) co op sz) (mkV h 0 (-1) (ftk n fM) (nI a) (nI o) (nI nd) (nI oc) WT so wh oe tw th nx tk os wa wf) fC a o l nd vc sb dp ar ag nb (b2 (tVariables_use (mkW g 0 (-1) (wn n p fC) (nI a) (nI o) (nI l) co op sz) (nI a)) (fun r7 u7 => b1 (tCursor_pass u7 1) (fun u8 => b1 (tCursor_pass u8 61) (fun u9 => b2 (tG (d + 1) 4 u9 12 r7) (fun r10 u10 => some (0, u10)))))) := by
  obtain ⟨B, L, hag, hF, ⟨ha, hl, hnd, ho1, ho⟩, ⟨har, har2, hA, hA2, hdp⟩⟩ := hB
  have hn := B.2.1.1.1
  have hvm := B.2.2.2.1.2.1
  have han := kz_lt B.1 hk1 (by decide)
  have hm1 := beg_ar (fM := fM) (a := a) (o := o) (nd := nd) (oc := oc) (WT := WT) (so := so) (wh := wh) (oe := oe) (tw := tw) (th := th) (nx := nx) (tk := tk) (os := os) (wa := wa) (wf := wf) B har
  rw [b2S (w_use B.1 B.2.2.1.1 B.2.2.1.2 (by omega)), b1S (w_pass B.1 ha hk), b1S (w_pass B.1 (by omega) hk1)]
  show SRes n K p V g h _ _ fC a o l nd vc sb dp ar ag nb (b2 (tGrammar_endWith (tG d) _ 12 _) _)
  unfold tGrammar_endWith
  have e0 : tModel_statement (mkV h 0 (-1) (ftk n fM) (nI a) (nI o) (nI nd) (nI oc) WT so wh oe tw th nx tk os wa wf) = b2 (tModel_value (mkV h 0 (-1) (ftk n (if fnd (fun i => V (tv i)) vm (V a) = -1 then min fM a else fM)) (nI (a + 2)) (nI o) (nI nd) (nI oc) WT so wh oe tw th nx tk os wa wf) (-1)) (fun r1 u1 => b1 (tModel_need u1 59) (fun u2 => if (u2.1 29) = 0 then b2 (tModel_node u2 11 (fnd (fun i => V (tv i)) vm (V a)) r1 (-1)) (fun r4 u4 => b1 (tModel_whole u4 r4) (fun u5 => some u5)) else some u2)) := by
    rw [hm0]
    unfold tModel_named
    rw [mkV_i31, nI_suc, b1S (v_is B.2.1 (by omega) wd61), if_pos hk1, if_neg (by decide), show nI a + 2 = nI (a + 2) from nI_add a 2, mkV_s31, b1S (v_variable B.2.1 B.2.2.2.1 (by omega) hk)]
    by_cases hx : fnd (fun i => V (tv i)) vm (V a) = -1
    · rw [if_neg (show ¬ (0 : Int32) ≤ fnd (fun i => V (tv i)) vm (V a) by rw [hx]; decide), b1S (v_notName (by omega) hn), named_L1 1999, if_pos hx]
    · rw [if_pos (fnd_nneg (by omega) hx), named_L1 1999, if_neg hx]
  have hBI : BI ag a fC (if fnd (g.2.2.2 1) vc (V a) = -1 then min fC a else fC) fM (if fnd (fun i => V (tv i)) vm (V a) = -1 then min fM a else fM) (fun _ => False) := bi_use (fun hg => bs_fnd B hg) (fun _ h => h)
  have hq : n < (if fnd (g.2.2.2 1) vc (V a) = -1 then min fC a else fC) → ∃ k : Nat, fnd (fun i => V (tv i)) vm (V a) = nI k ∧ (if fnd (g.2.2.2 1) vc (V a) = -1 then 0 else fnd (g.2.2.2 1) vc (V a)) = nI k ∧ k < vc := by
    intro hf
    by_cases hx : fnd (g.2.2.2 1) vc (V a) = -1
    · rw [if_pos hx] at hf; omega
    · rw [if_neg hx] at hf
      have hg : ag := by rcases hag with e | e; exact e; omega
      rw [if_neg hx, ← bs_fnd B hg]
      rcases fnd_or (g.2.2.2 1) (V a) vc with e | ⟨i, e1, e2⟩
      · exact absurd e hx
      · exact ⟨i, e2, e2, e1⟩
  obtain ⟨x, c', e1, e2⟩ := fin_stm (nb := nb) (co := co) (op := op) (sz := sz) (X := 12) (Y := if fnd (g.2.2.2 1) vc (V a) = -1 then 0 else fnd (g.2.2.2 1) vc (V a)) (kk := 11) (vv := fnd (fun i => V (tv i)) vm (V a)) (fC := fC) (fC1 := if fnd (g.2.2.2 1) vc (V a) = -1 then min fC a else fC) (a := a) (a1 := a + 2) (d := d) (c0 := mkW g 0 (-1) (wn n p fC) (nI a) (nI o) (nI l) co op sz) (m0 := mkV h 0 (-1) (ftk n fM) (nI a) (nI o) (nI nd) (nI oc) WT so wh oe tw th nx tk os wa wf) B L (by rcases hag with e | e; exact Or.inl e; right; split <;> omega) (by split <;> omega) (frel_step hF hBI hag (fun t => ⟨Or.inl, fun e => e.elim id (fun e => e.elim)⟩)) (by omega) (by omega) hl hnd ho1 ho hd hd2 e0 hm1 (fun i hi => ne_refl) (fun i hi => ⟨rfl, rfl, rfl⟩) (by decide) (by decide) (fun hf => Or.inr (Or.inr (Or.inr ⟨rfl, rfl, hq hf⟩)))
  exact ⟨0, c', by rw [b2S e1], e2⟩
/-- "return" and a value; a value alone -/
theorem stm_val {a1 : Nat} {X kk : Int32} (hB : Beg n K p V g h (mkV h 0 (-1) (ftk n fM) (nI a) (nI o) (nI nd) (nI oc) WT so wh oe tw th nx tk os wa wf) tv fC fM a o l nd vc vm sb dp ar A ag) (hd : 70 ≤ d + 5 * o) (hd2 : 10 ≤ d) (ha1 : a ≤ a1) (ha1n : a1 ≤ n) (hX : (kk = 15 ∧ X = 7) ∨ (kk = 17 ∧ X = 21))
    (hm0 : tModel_statement (mkV h 0 (-1) (ftk n fM) (nI a) (nI o) (nI nd) (nI oc) WT so wh oe tw th nx tk os wa wf) = tModel_ends (mkV h 0 (-1) (ftk n fM) (nI a1) (nI o) (nI nd) (nI oc) WT so wh oe tw th nx tk os wa wf) kk (-1)) :
    SRes n K p V g h (mkW g 0 (-1) (wn n p fC) (nI a) (nI o) (nI l) co op sz) (mkV h 0 (-1) (ftk n fM) (nI a) (nI o) (nI nd) (nI oc) WT so wh oe tw th nx tk os wa wf) fC a o l nd vc sb dp ar ag nb (b2 (tG (d + 1) 4 (mkW g 0 (-1) (wn n p fC) (nI a1) (nI o) (nI l) co op sz) X 0) (fun r10 u10 => some (0, u10))) := by
  obtain ⟨B, L, hag, hF, ⟨ha, hl, hnd, ho1, ho⟩, ⟨har, har2, hA, hA2, hdp⟩⟩ := hB
  have hm1 := beg_ar (fM := fM) (a := a) (o := o) (nd := nd) (oc := oc) (WT := WT) (so := so) (wh := wh) (oe := oe) (tw := tw) (th := th) (nx := nx) (tk := tk) (os := os) (wa := wa) (wf := wf) B har
  show SRes n K p V g h _ _ fC a o l nd vc sb dp ar ag nb (b2 (tGrammar_endWith (tG d) _ X 0) _)
  unfold tGrammar_endWith
  rw [ends_open] at hm0
  obtain ⟨x, c', e1, e2⟩ := fin_stm (nb := nb) (co := co) (op := op) (sz := sz) (X := X) (Y := 0) (kk := kk) (vv := 0) (fC := fC) (fC1 := fC) (a := a) (a1 := a1) (d := d) (c0 := mkW g 0 (-1) (wn n p fC) (nI a) (nI o) (nI l) co op sz) (m0 := mkV h 0 (-1) (ftk n fM) (nI a) (nI o) (nI nd) (nI oc) WT so wh oe tw th nx tk os wa wf) B L hag (Nat.le_refl _) hF ha1 ha1n hl hnd ho1 ho hd hd2 hm0 hm1 (fun i hi => ne_refl) (fun i hi => ⟨rfl, rfl, rfl⟩) (by rcases hX with ⟨e, -⟩ | ⟨e, -⟩ <;> rw [e] <;> decide) (by rcases hX with ⟨-, e⟩ | ⟨-, e⟩ <;> rw [e] <;> decide) (fun _ => by rcases hX with e | e; exact Or.inl e; exact Or.inr (Or.inr (Or.inl e)))
  exact ⟨0, c', by rw [b2S e1], e2⟩
end SM
