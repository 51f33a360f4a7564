/-! "int", a name and its value. -/
section SN
variable {n : Nat} {K : Nat → Int32} {p : Nat → Nat} {V : Nat → Int64} {g h : St} {tv : Nat → Nat} {vc vm ar sb dp A : Nat} {ag nb : Prop} {co op sz so wh oe tw th nx tk os wa wf : Nat → Int32} {fC fM a o l nd d oc : Nat} {WT : Int32}
theorem makes_L1 (N : Nat) (σ : St) : tModel_makes_L (N + 1) 1 σ 0 0 = gd (inB ((σ.1 31) + 1) 500) (if ((σ.2.2.1 16) ((σ.1 31) + 1).toNatClampNeg) = 1 then tModel_makes_L N 2 (sI (sI σ 31 ((σ.1 31) + 1)) 31 (((σ.1 31) + 1) + 1)) ((σ.1 31) + 1) 0 else b1 (tModel_spoil (sI σ 31 ((σ.1 31) + 1))) (fun u7 => tModel_makes_L N 2 u7 ((σ.1 31) + 1) 0)) := rfl
theorem makes_L2 (N : Nat) (σ : St) (x1 : Int32) : tModel_makes_L (N + 1) 2 σ x1 0 = b1 (tModel_need σ 61) (fun u8 => if (u8.1 29) = 0 then b2 (tModel_value u8 (-1)) (fun r10 u10 => tModel_makes_L N 3 u10 x1 r10) else tModel_makes_L N 3 u8 x1 0) := rfl
theorem makes_L3 (N : Nat) (σ : St) (x1 x2 : Int32) : tModel_makes_L (N + 1) 3 σ x1 x2 = b1 (tModel_need σ 59) (fun u11 => if (u11.1 29) = 0 then b1 (tModel_makeVariable u11 x1) (fun u13 => b2 (tModel_node u13 11 ((u13.1 38) - 1) x2 (-1)) (fun r14 u14 => b1 (tModel_whole u14 r14) (fun u15 => some u15))) else some u11) := rfl
theorem km_makes3 {N k : Nat} {r q : Int32} {σ : St} {x1 x2 : Int32} (T : TkM h n K p V) (b : MBad h n k r q σ) : tModel_makes_L (N + 1) 3 σ x1 x2 = some σ := by
  rw [makes_L3, b1S (mb_need T b wd59), b.2.1, if_neg b.2.2.2.1]
theorem km_makes2 {N k : Nat} {r q : Int32} {σ : St} {x1 : Int32} (T : TkM h n K p V) (b : MBad h n k r q σ) : tModel_makes_L (N + 2) 2 σ x1 0 = some σ := by
  rw [makes_L2, b1S (mb_need T b wd61), b.2.1, if_neg b.2.2.2.1, km_makes3 T b]
theorem newV_L (rec : Nat → St → Int32 → Int32 → Option (Int32 × St)) (N : Nat) (σ : St) : tGrammar_newVariable_L rec (N + 1) 1 σ = b1 (tCursor_pass σ 3) (fun u3 => b1 (tCursor_pass u3 1) (fun u4 => b1 (tCursor_pass u4 61) (fun u5 => b2 (rec 16 u5 1 0) (fun r6 u6 => b1 (tCursor_pass u6 59) (fun u7 => b2 (tVariables_make u7 (u3.1 6)) (fun r8 u8 => b1 (tProgram_add u8 12 r8 0) (fun u9 => some (0, u9)))))))) := rfl
/-- behind a refusal -/
theorem kb_new1 {c : St} {r q t : Int32} (hb : CBad g n r q c) : KB2 g n r q (b1 (tCursor_pass c 59) (fun u7 => b2 (tVariables_make u7 t) (fun r8 u8 => b1 (tProgram_add u8 12 r8 0) (fun u9 => some (0, u9))))) :=
  kb12 (kb_pass hb (by decide)) fun u hu => kb2 (kb_make hu) fun _ u hu => kb12 (kb_add hu) fun u hu => kbs2 hu
theorem kb_new2 {c : St} {r q t : Int32} (hb : CBad g n r q c) : KB2 g n r q (b1 (tCursor_pass c 61) (fun u5 => b2 (tG (d + 2) 16 u5 1 0) (fun r6 u6 => b1 (tCursor_pass u6 59) (fun u7 => b2 (tVariables_make u7 t) (fun r8 u8 => b1 (tProgram_add u8 12 r8 0) (fun u9 => some (0, u9))))))) :=
  kb12 (kb_pass hb (by decide)) fun u hu => kb2 (kb_value1 hu) fun _ u hu => kb_new1 hu
theorem stm_new1 {c0 m0 : St} {fC0 : Nat} (B : Bs n K p V g h tv vc vm ar ag) (L : Lv g h vc sb dp ag) (hag : ag ∨ fC < a) (hfC : fC ≤ fC0) (hnb : nb → fC ≤ n) (hF : FRel fC fM (NH m0.2.2.1 0 nd)) (hl : l ≤ 2 * a) (hnd : nd ≤ a) (ho1 : 1 ≤ o) (ho : o ≤ 12) (hoc : oc ≤ 40) (hd : 70 ≤ d + 2 + 5 * o) (hd2 : 10 ≤ d + 2) (hk : K a = 3)
    (hm0 : tModel_statement m0 = tModel_makes_L 2000 1 (mkV h 0 (-1) (ftk n fM) (nI a) (nI o) (nI nd) (nI oc) WT so wh oe tw th nx tk os wa wf) 0 0) (hm1 : m0.1 29 = 0 ∧ ¬ m0.1 42 ≤ 0) (hm2 : ∀ i, i < nd → NodeEq m0.2.2.1 (mkV h 0 (-1) (ftk n fM) (nI a) (nI o) (nI nd) (nI oc) WT so wh oe tw th nx tk os wa wf).2.2.1 i) (hc0 : FW c0 (mkW g 0 (-1) (wn n p fC) (nI a) (nI o) (nI l) co op sz) l) :
    SRes n K p V g h c0 m0 fC0 a o l nd vc sb dp ar ag nb (tGrammar_newVariable_L (tG (d + 2)) 2000 1 (mkW g 0 (-1) (wn n p fC) (nI a) (nI o) (nI l) co op sz)) := by
  have hn := B.2.1.1.1
  have han := kz_lt B.1 hk (by decide)
  rw [makes_L1 1999, mkV_i31, nI_suc, gdT (inI (by omega) (by omega)), tc_nI (by omega), mkV_r16, nI_suc, mkV_s31, mkV_s31] at hm0
  rw [newV_L _ 1999, b1S (w_pass B.1 (by omega) hk), mkW_i6]
  by_cases h1 : K (a + 1) = 1
  · have ha1 := kz_lt B.1 h1 (by decide)
    rw [if_pos ((B.2.1.2.2.1 (a + 1) (by omega)).1.mpr h1), makes_L2 1998] at hm0
    rw [b1S (w_pass B.1 (by omega) h1)]
    by_cases h61 : K (a + 2) = 61
    · have ha2 := kz_lt B.1 h61 (by decide)
      rw [b1S (v_need B.2.1 (by omega) wd61 h61), mkV_i29, if_pos rfl] at hm0
      rw [b1S (w_pass B.1 (by omega) h61)]
      obtain ⟨x, c', e1, e2⟩ := value_both (co := co) (op := op) (sz := sz) (so := so) (wh := wh) (oe := oe) (tw := tw) (th := th) (nx := nx) (tk := tk) (os := os) (wa := wa) (wf := wf) (fC := fC) (fM := fM) (a := a + 3) (o := o) (l := l) (nd := nd) (d := d + 2) (OC := nI oc) (WT := WT) B hd hd2 ho1 ho (by omega) (by omega) (by omega) (by rcases hag with e | e; exact Or.inl e; right; omega)
      rw [b2S e1]
      rcases e2 with ⟨a', l', nd', fC', fM', N, m2, ⟨co', op', sz', rfl⟩, ⟨so', wh', oe', tw', th', nx', tk', os', wa', wf', rfl⟩, e3, e4, ⟨j1, j2, j3, j4, j5, j6, j7⟩, e5, e6, e7, e8, e9⟩ | ⟨r, q, m', e3, e4, e5⟩
      · rw [b2S e3, makes_L3 1997] at hm0
        by_cases h59 : K a' = 59
        · have ha' := kz_lt B.1 h59 (by decide)
          obtain ⟨g', h', tv', vc', vm', fC2, fM2, ag', xx, y1, y2, y3, y4, y5, y6, y7, y8, y9⟩ := make_both (fC := fC') (fM := fM') (a := a' + 1) (o := o) (l := l') (co := co') (op := op') (sz := sz') (A := nI (a' + 1)) (O := nI o) (ND := nI nd') (OC := nI 1) (WT := nI 0) (so := so') (wh := wh') (oe := oe') (tw := tw') (th := th') (nx := nx') (tk := tk') (os := os') (wa := wa') (wf := wf') B L ha1 h1
          rw [b1S (v_need B.2.1 j2 wd59 h59), mkV_i29, if_pos rfl, b1S y2, b2S (v_node (by omega)), b1_id] at hm0
          rw [b1S (w_pass B.1 j2 h59), b2S y1, b1S (w_add (by omega))]
          have hag' : ag' ∨ fC2 < a' + 1 := by
            rcases y8 with e | e | ⟨e1, e2⟩
            · exact Or.inl e
            · right; omega
            · rcases hag with e | e
              · exact absurd e e1
              · right; omega
          refine ⟨0, _, rfl, Or.inl ⟨a' + 1, l' + 1, nd' + 1, fC2, fM2, nd', vc', vm', 0, 2000, ag', g', h', m0, _, tv', ⟨_, _, _, rfl⟩, ⟨1, 0, by omega, _, _, _, _, _, _, _, _, _, _, rfl⟩, rfl, hm1, ⟨hm0, by omega⟩, y3, y4, ⟨y5.1, y5.2.1, y5.2.2.1, fun k hk => y5.2.2.2.1 k (by have := B.2.2.2.2.2.1.2; omega), y5.2.2.2.2⟩, ⟨fun hg => ⟨(y6 hg).1, by have := (y6 hg).2.2.1; omega⟩, fun h1 h2 => absurd (hnb h1) (by omega)⟩, hag', by omega, ⟨by omega, by omega, by omega, by omega, by omega, by omega, by omega, by omega⟩, upd_e, ?_, fun i hi => ?_, ?_, ?_⟩⟩
          · intro i hi
            obtain ⟨q1, q2, q3⟩ := fw_trans hc0 e5 (Nat.le_refl _) i hi
            exact ⟨(upd_n (by omega)).trans q1, (upd_n (by omega)).trans q2, (upd_n (by omega)).trans q3⟩
          · exact ne_trans (ne_trans (hm2 i hi) (e6 i hi)) ⟨upd_n (by omega), upd_n (by omega), upd_n (by omega), upd_n (by omega), upd_n (by omega), upd_n (by omega), upd_n (by omega)⟩
          · refine sq_leaf (kk := 11) (vv := h'.1 38 - 1) (X := 12) (Y := xx) e7 y9 ho1 ho (Nat.le_refl _) (by omega) j1 (Nat.le_refl _) j3 ⟨j5, j6⟩ B.2.2.1.2 y3.2.2.1.2 (fun i h1 h2 => ⟨upd_n (by omega), upd_n (by omega), upd_n (by omega)⟩) (fun i h1 h2 => ⟨upd_n (by omega), upd_n (by omega), upd_n (by omega), upd_n (by omega), upd_n (by omega), upd_n (by omega), fun _ => upd_n (by omega)⟩) ⟨upd_e, upd_e, upd_e⟩ ⟨upd_e, upd_e⟩ (by decide) (by decide) (fun hf => Or.inr (Or.inr (Or.inr ⟨rfl, rfl, vc, ?_, ?_, Or.inr ⟨rfl, ?_⟩⟩)))
            all_goals
              have hg : ag' := by rcases hag' with e | e; exact e; omega
              obtain ⟨z1, z2, z3, z4, z5⟩ := y6 hg
            · rw [y3.2.2.2.1.1, z4, nI_pred, (B.2.2.2.2.1 z1).1]
            · exact z2
            · exact z3
          · refine frel_step (S := NH (mkV h 0 (-1) (ftk n fM') (nI a') (nI o) (nI nd') (nI 1) (nI 0) so' wh' oe' tw' th' nx' tk' os' wa' wf').2.2.1 0 nd') (frel_step hF e8 (by rcases hag with e | e; exact Or.inl e; right; omega) fun t => ?_) y7 (by rcases hag with e | e; exact Or.inl e; right; omega) fun t => ?_
            · exact nh_ext (fun i hi => ne_trans (hm2 i hi) (e6 i hi)) (by omega)
            · rw [nh_split (m := nd') (by omega) (by omega)]
              refine ⟨?_, fun e => e.elim (fun e => Or.inl ((nh_congr fun i _ hi => ⟨upd_n (by omega), upd_n (by omega), upd_n (by omega)⟩).mpr e)) (fun e => e.elim)⟩
              rintro (e | e)
              · exact Or.inl ((nh_congr fun i _ hi => ⟨upd_n (by omega), upd_n (by omega), upd_n (by omega)⟩).mp e)
              · refine absurd e (nh_none ?_)
                show ¬ (upd so' nd' 11 nd' = 4 ∨ upd so' nd' 11 nd' = 5 ∨ upd so' nd' 11 nd' = 12)
                rw [upd_e]; decide
        · rw [b1S (v_needN B.2.1 j2 wd59 h59), mkV_i29, if_neg (by decide)] at hm0
          rw [b1S (w_passN B.1 j2 h59)]
          obtain ⟨x', u, w1, w2⟩ := kb2 (kb_make (x := nI (a + 1)) (cb_mkW (r := 3) (q := nI (p a')) (w := wn n p fC') (a := nI a') (o := nI o) (co := co') (op := op') (sz := sz') B (by decide) (show l' ≤ 440 by omega))) fun xx u hu => kb12 (kb_add (x := 12) (y := xx) (z := 0) hu) fun u hu => kbs2 (x := 0) hu
          exact ⟨x', u, w1, Or.inr ⟨3, nI (p a'), 1, _, w2, st_one hm1.1 hm1.2 hm0, mb_mono (mb_V B (by decide) j2 (by omega) (by omega)) (by omega), by omega⟩⟩
      · rw [b2S e4, km_makes3 B.2.1 e5] at hm0
        obtain ⟨x', u, w1, w2⟩ := kb_new1 (t := nI (a + 1)) e3
        exact ⟨x', u, w1, Or.inr ⟨r, q, 1, m', w2, st_one hm1.1 hm1.2 hm0, mb_mono e5 (by omega), by omega⟩⟩
    · have b := mb_V (r := 3) (q := nI (p (a + 2))) (ft := ftk n fM) (o := nI o) (wt := WT) (so := so) (wh := wh) (oe := oe) (tw := tw) (th := th) (nx := nx) (tk := tk) (os := os) (wa := wa) (wf := wf) B (by decide) (show a + 2 ≤ n by omega) (show nd ≤ 400 by omega) (show oc ≤ 40 by omega)
      rw [b1S (v_needN B.2.1 (by omega) wd61 h61), mkV_i29, if_neg (by decide), km_makes3 B.2.1 b] at hm0
      rw [b1S (w_passN B.1 (by omega) h61)]
      obtain ⟨x', u, w1, w2⟩ := kb2 (kb_value1 (d := d) (y := 0) (cb_mkW (r := 3) (q := nI (p (a + 2))) (w := wn n p fC) (a := nI (a + 2)) (o := nI o) (co := co) (op := op) (sz := sz) B (by decide) (show l ≤ 440 by omega))) fun _ u hu => kb_new1 (t := nI (a + 1)) hu
      exact ⟨x', u, w1, Or.inr ⟨3, nI (p (a + 2)), 1, _, w2, st_one hm1.1 hm1.2 hm0, mb_mono b (by omega), by omega⟩⟩
  · have b := mb_V (r := 3) (q := nI (p (a + 1))) (ft := ftk n fM) (o := nI o) (wt := WT) (so := so) (wh := wh) (oe := oe) (tw := tw) (th := th) (nx := nx) (tk := tk) (os := os) (wa := wa) (wf := wf) B (by decide) (show a + 1 ≤ n by omega) (show nd ≤ 400 by omega) (show oc ≤ 40 by omega)
    rw [if_neg (fun e => h1 ((B.2.1.2.2.1 (a + 1) (by omega)).1.mp e)), b1S (v_spoil B.2.1 (by omega)), km_makes2 (N := 1997) B.2.1 b] at hm0
    rw [b1S (w_passN B.1 (by omega) h1)]
    obtain ⟨x', u, w1, w2⟩ := kb_new2 (d := d) (t := nI (a + 1)) (cb_mkW (r := 3) (q := nI (p (a + 1))) (w := wn n p fC) (a := nI (a + 1)) (o := nI o) (co := co) (op := op) (sz := sz) B (by decide) (show l ≤ 440 by omega))
    exact ⟨x', u, w1, Or.inr ⟨3, nI (p (a + 1)), 1, _, w2, st_one hm1.1 hm1.2 hm0, mb_mono b (by omega), by omega⟩⟩
theorem w_notMake {r q : Int32} {f t : Nat} (T : TkC g n K p V) (ht : t ≤ n) : tVariables_mustNotMake (mkW g r q (wn n p f) (nI a) (nI o) (nI l) co op sz) (nI t) = some (mkW g r q (wn n p (min f t)) (nI a) (nI o) (nI l) co op sz) := by
  unfold tVariables_mustNotMake
  rw [b1S (w_place T ht), b1_id, w_blame T ht]
theorem stm_new {ib : Int32} (hB : Beg n K p V g h (mkV h 0 (-1) (ftk n fM) (nI a) (nI o) (nI nd) (nI oc) WT so wh oe tw th nx tk os wa wf) tv fC fM a o l nd vc vm sb dp ar A ag) (hoc : oc ≤ 40) (hd : 70 ≤ d + 2 + 5 * o) (hd2 : 10 ≤ d + 2) (hk : K a = 3) (hib : ib = 0 ↔ ¬ so A = 10) (hib2 : nb → ¬ so A = 10)
    (hm0 : tModel_statement (mkV h 0 (-1) (ftk n fM) (nI a) (nI o) (nI nd) (nI oc) WT so wh oe tw th nx tk os wa wf) = tModel_makes (mkV h 0 (-1) (ftk n fM) (nI a) (nI o) (nI nd) (nI oc) WT so wh oe tw th nx tk os wa wf)) :
    SRes n K p V g h (mkW g 0 (-1) (wn n p fC) (nI a) (nI o) (nI l) co op sz) (mkV h 0 (-1) (ftk n fM) (nI a) (nI o) (nI nd) (nI oc) WT so wh oe tw th nx tk os wa wf) fC a o l nd vc sb dp ar ag nb (tG (d + 3) 8 (mkW g 0 (-1) (wn n p fC) (nI a) (nI o) (nI l) co op sz) ib 0) := by
  obtain ⟨B, L, hag, hF, ⟨ha, hl, hnd, ho1, ho⟩, ⟨har, har2, hA, hA2, hdp⟩⟩ := hB
  have hn := B.2.1.1.1
  have hm1 := beg_ar (fM := fM) (a := a) (o := o) (nd := nd) (oc := oc) (WT := WT) (so := so) (wh := wh) (oe := oe) (tw := tw) (th := th) (nx := nx) (tk := tk) (os := os) (wa := wa) (wf := wf) B har
  show SRes n K p V g h _ _ fC a o l nd vc sb dp ar ag nb (tGrammar_newVariable (tG (d + 2)) _ ib)
  unfold tGrammar_newVariable
  unfold tModel_makes at hm0
  rw [mkV_i42, B.2.2.2.2.2.1.1, nI_pred' (by omega), gdT (inI (by omega) (by omega)), tc_nI (by omega), mkV_r36, hA, gdT (inI (by omega) (by omega)), tc_nI (by omega), mkV_r20] at hm0
  by_cases h10 : so A = 10
  · rw [if_pos h10] at hm0
    rw [if_neg (fun e => hib.mp e h10)]
    exact stm_new1 B L hag (Nat.le_refl _) (fun h => absurd h10 (hib2 h)) hF hl hnd ho1 ho hoc hd hd2 hk hm0 hm1 (fun i hi => ne_refl) (fun i hi => ⟨rfl, rfl, rfl⟩)
  · rw [if_neg h10, mkV_i31, b1S (v_notName ha hn)] at hm0
    rw [if_pos (hib.mpr h10), mkW_i6, b1S (w_notMake B.1 ha)]
    have hBI : BI ag a fC (min fC a) fM (min fM a) (fun _ => False) := ⟨a, a, Nat.le_refl _, Nat.le_refl _, rfl, rfl, fun t ht => ht.elim, fun _ => ⟨Nat.le_refl _, fun t ht => ht.elim, Or.inl rfl⟩⟩
    exact stm_new1 B L (by rcases hag with e | e; exact Or.inl e; right; omega) (by omega) (fun _ => by omega) (frel_step hF hBI hag (fun t => ⟨Or.inl, fun e => e.elim id (fun e => e.elim)⟩)) hl hnd ho1 ho hoc hd hd2 hk hm0 hm1 (fun i hi => ne_refl) (fun i hi => ⟨rfl, rfl, rfl⟩)
end SN
