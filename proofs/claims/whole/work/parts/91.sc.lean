/-! If and while are read. -/
def condT (rec : Nat → St → Int32 → Int32 → Option (Int32 × St)) (w x2 r8 : Int32) (u9 : St) : Option (Int32 × St) := b1 (tCursor_close u9) (fun u10 => if w = 6 then b1 (tProgram_add u10 16 x2 0) (fun u17 => b1 (tProgram_land u17 r8) (fun u18 => some (0, u18))) else b1 (tCursor_kind u10) (fun r12 => if r12 = 5 then b2 (rec 10 u10 r8 0) (fun r15 u15 => b1 (tProgram_land u15 r15) (fun u16 => some (0, u16))) else b1 (tProgram_land u10 r8) (fun u14 => some (0, u14))))
def condM (rec : Nat → St → Int32 → Int32 → Option (Int32 × St)) (w x2 : Int32) (u5 : St) : Option (Int32 × St) := b1 (tCursor_close u5) (fun u6 => b1 (tCursor_passOpening u6 41) (fun u7 => b2 (tProgram_addJump u7 17) (fun r8 u8 => b2 (rec 14 u8 0 0) (fun _ u9 => condT rec w x2 r8 u9))))
theorem cond_L (rec : Nat → St → Int32 → Int32 → Option (Int32 × St)) (N : Nat) (σ : St) (w x2 : Int32) : tGrammar_conditional_L rec (N + 1) 1 σ w x2 = b1 (tCursor_pass σ w) (fun u3 => b2 (b1 (tCursor_passOpening u3 40) (fun u => rec 16 u 1 0)) (fun _ u5 => condM rec w x2 u5)) := by
  show tGrammar_conditional_b1 rec (tGrammar_conditional_L rec N) σ w x2 = _
  unfold tGrammar_conditional_b1 condM condT
  congr 1
  funext u3
  rw [← b1_b2]
/-- what a conditional's word begins: a node, put on what is around -/
def hBeg (h : St) (ar x : Nat) : St := sI (sA h 36 (upd (h.2.2.1 36) ar (nI x))) 42 (nI (ar + 1))
def StP (n : Nat) (K : Nat → Int32) (p : Nat → Nat) (V : Nat → Int64) (d o : Nat) : Prop :=
  ∀ (g h c m : St) (tv : Nat → Nat) (fC fM a l nd vc vm sb dp ar A : Nat) (ag nb : Prop) (ib : Int32), PW n p g c fC a o l → PS n h m fM a o nd → Beg n K p V g h m tv fC fM a o l nd vc vm sb dp ar A ag → (ib = 0 ↔ ¬ m.2.2.1 20 A = 10) → (nb → ¬ m.2.2.1 20 A = 10) → (m.2.2.1 20 A = 10 → ¬ K a = 125) → SRes n K p V g h c m fC a o l nd vc sb dp ar ag nb (tG d 14 c ib 0)
section SC
variable {n : Nat} {K : Nat → Int32} {p : Nat → Nat} {V : Nat → Int64} {g h : St} {tv : Nat → Nat} {vc vm ar sb dp A : Nat} {ag nb : Prop} {co op sz so wh oe tw th nx tk os wa wf : Nat → Int32} {fC fM a o l nd d oc : Nat} {WT : Int32}
theorem v_begin {y q ft A O ND OC WT : Int32} {x : Nat} (h42 : h.1 42 = nI ar) (har : ar < 60) : tModel_begin (mkV h y q ft A O ND OC WT so wh oe tw th nx tk os wa wf) (nI x) = some (mkV (hBeg h ar x) y q ft A O ND OC WT so wh oe tw th nx tk os wa wf) := by
  unfold tModel_begin hBeg
  rw [mkV_i42, h42, gdT (inI har (by omega)), tc_nI (by omega), mkV_r36, mkV_c36, nI_suc, mkV_b42]
theorem frm_beg {x : Nat} : FrM h (hBeg h ar x) := frm_sI (frm_sA (frm_refl h) (by omega)) (by omega)
theorem bs_beg {x : Nat} (B : Bs n K p V g h tv vc vm ar ag) (har : ar + 1 ≤ 20) : Bs n K p V g (hBeg h ar x) tv vc vm (ar + 1) ag :=
  ⟨B.1, tkm_keep (frm_same frm_beg) B.2.1, B.2.2.1, B.2.2.2.1, B.2.2.2.2.1, ⟨rfl, har⟩, B.2.2.2.2.2.2⟩
theorem bs_end {g2 h2 : St} {tv2 : Nat → Nat} {v2 vm2 : Nat} {ag2 : Prop} (B : Bs n K p V g2 h2 tv2 v2 vm2 (ar + 1) ag2) : Bs n K p V g2 (sI h2 42 (nI ar)) tv2 v2 vm2 ar ag2 :=
  ⟨B.1, tkm_keep (frm_same (frm_sI (frm_refl h2) (by omega))) B.2.1, B.2.2.1, B.2.2.2.1, B.2.2.2.2.1, ⟨rfl, by have := B.2.2.2.2.2.1.2; omega⟩, B.2.2.2.2.2.2⟩
theorem frv_cond {g2 h2 : St} {x : Nat} {ag2 : Prop} (e : FrV g (hBeg h ar x) g2 h2 vc (ar + 1) ag2) : FrV g h g2 (sI h2 42 (nI ar)) vc ar ag2 := by
  obtain ⟨e1, e2, e3, e4, e5⟩ := e
  refine ⟨e1, frm_sI (frm_trans frm_beg e2) (by omega), fun hg k hk => e3 hg k hk, fun k hk => (e4 k (by omega)).trans ?_, e5⟩
  show upd (h.2.2.1 36) ar (nI x) k = _
  exact upd_n (by omega)
theorem kb_condT {c : St} {r q w x2 r8 : Int32} (hb : CBad g n r q c) : KB2 g n r q (condT (tG d) w x2 r8 c) := by
  unfold condT
  refine kb12 (kb_close hb) fun u hu => ?_
  split
  · exact kb12 (kb_add hu) fun u hu => kb12 (kb_land hu) fun u hu => kbs2 hu
  · rw [b1S (cb_kind hu), if_neg (by decide)]
    exact kb12 (kb_land hu) fun u hu => kbs2 hu
theorem kb_condM2 {c : St} {r q w x2 : Int32} (hb : CBad g n r q c) : KB2 g n r q (b2 (tProgram_addJump c 17) (fun r8 u8 => b2 (tG (d + 4) 14 u8 0 0) (fun _ u9 => condT (tG (d + 4)) w x2 r8 u9))) :=
  kb2 (kb_addJump hb) fun _ u hu => kb2 (kb_statement hu) fun _ u hu => kb_condT hu
theorem kb_condM {c : St} {r q w x2 : Int32} (hb : CBad g n r q c) : KB2 g n r q (condM (tG (d + 4)) w x2 c) := by
  unfold condM
  exact kb12 (kb_close hb) fun u hu => kb12 (kb_open hu (by decide)) fun u hu => kb_condM2 hu
/-- behind the brackets of "if" or "while" -/
def CMid (n : Nat) (K : Nat → Int32) (p : Nat → Nat) (V : Nat → Int64) (g h m : St) (tv : Nat → Nat) (c1 : St) (fC a o l l0 nd vc vm sb dp ar : Nat) (ag : Prop) (kk : Int32) (u8 : St) : Prop :=
  ∃ (a' l1 n1 f1 m1f N1 : Nat) (co op sz so wh oe tw th nx tk os wa wf : Nat → Int32), u8 = mkW g 0 (-1) (wn n p f1) (nI (a' + 1)) (nI (o + 1)) (nI (l1 + 1)) co op sz ∧ tModel_statement m = some (mkV (hBeg h ar n1) 0 (-1) (ftk n m1f) (nI (a' + 1)) (nI (o + 1)) (nI (n1 + 1)) (nI 1) (nI 0) so wh oe tw th nx tk os wa wf) ∧
    Beg n K p V g (hBeg h ar n1) (mkV (hBeg h ar n1) 0 (-1) (ftk n m1f) (nI (a' + 1)) (nI (o + 1)) (nI (n1 + 1)) (nI 1) (nI 0) so wh oe tw th nx tk os wa wf) tv f1 m1f (a' + 1) (o + 1) (l1 + 1) (n1 + 1) vc vm sb dp (ar + 1) n1 ag ∧
    (so n1 = kk ∧ oe n1 = nI N1 ∧ tw n1 = -1 ∧ th n1 = -1 ∧ nx n1 = -1) ∧ (co l1 = 17) ∧ (a + 2 < a' ∧ a' < n ∧ l0 < l1 ∧ l1 + 4 ≤ l0 + 2 * (a' - a) ∧ nd ≤ N1 ∧ N1 < n1 ∧ n1 + 2 ≤ nd + (a' - a) ∧ o < 12 ∧ f1 ≤ fC) ∧ FW c1 u8 l0 ∧ (∀ i, i < nd → NodeEq m.2.2.1 (mkV (hBeg h ar n1) 0 (-1) (ftk n m1f) (nI (a' + 1)) (nI (o + 1)) (nI (n1 + 1)) (nI 1) (nI 0) so wh oe tw th nx tk os wa wf).2.2.1 i) ∧
    (∀ C M : Nat → Nat → Int32, AgC u8.2.2.1 C l0 l1 → AgN (mkV (hBeg h ar n1) 0 (-1) (ftk n m1f) (nI (a' + 1)) (nI (o + 1)) (nI (n1 + 1)) (nI 1) (nI 0) so wh oe tw th nx tk os wa wf).2.2.1 M nd n1 N1 → VQ n K C M f1 (a + 2) a' (o + 1) l0 l1 nd n1 N1 vc)
theorem cond_mid {l0 : Nat} {kk w x2 : Int32} {F : Int32 → St → Option (Int32 × St)} (hB : Beg n K p V g h (mkV h 0 (-1) (ftk n fM) (nI a) (nI o) (nI nd) (nI oc) WT so wh oe tw th nx tk os wa wf) tv fC fM a o l nd vc vm sb dp ar A ag) (hoc : oc ≤ 40) (hd : 65 ≤ d + 4 + 5 * o) (hd2 : 10 ≤ d + 4) (hl0 : l0 ≤ 2 * a + 1) (hw : K a = w) (hw0 : ¬ w = 0) (hkk : kk = 13 ∨ kk = 14)
    (hm0 : tModel_statement (mkV h 0 (-1) (ftk n fM) (nI a) (nI o) (nI nd) (nI oc) WT so wh oe tw th nx tk os wa wf) = tModel_conditional (mkV h 0 (-1) (ftk n fM) (nI a) (nI o) (nI nd) (nI oc) WT so wh oe tw th nx tk os wa wf) kk) :
    (∃ u8, tGrammar_conditional_L (tG (d + 4)) 2000 1 (mkW g 0 (-1) (wn n p fC) (nI a) (nI o) (nI l0) co op sz) w x2 = b2 (tG (d + 4) 14 u8 0 0) (fun _ u9 => condT (tG (d + 4)) w x2 (u8.1 13 - 1) u9) ∧ CMid n K p V g h (mkV h 0 (-1) (ftk n fM) (nI a) (nI o) (nI nd) (nI oc) WT so wh oe tw th nx tk os wa wf) tv (mkW g 0 (-1) (wn n p fC) (nI a) (nI o) (nI l0) co op sz) fC a o l l0 nd vc vm sb dp ar ag kk u8) ∨
    (∃ x c', tGrammar_conditional_L (tG (d + 4)) 2000 1 (mkW g 0 (-1) (wn n p fC) (nI a) (nI o) (nI l0) co op sz) w x2 = some (x, c') ∧ SBad n g h (mkV h 0 (-1) (ftk n fM) (nI a) (nI o) (nI nd) (nI oc) WT so wh oe tw th nx tk os wa wf) c' a) := by
  obtain ⟨B, L, hag, hF, ⟨ha, hl, hnd, ho1, ho⟩, ⟨har, har2, hA, hA2, hdp⟩⟩ := hB
  have hn := B.2.1.1.1
  have han := kz_lt B.1 hw hw0
  have hm1 := beg_ar (fM := fM) (a := a) (o := o) (nd := nd) (oc := oc) (WT := WT) (so := so) (wh := wh) (oe := oe) (tw := tw) (th := th) (nx := nx) (tk := tk) (os := os) (wa := wa) (wf := wf) B har
  rw [cond_L _ 1999, b1S (w_pass B.1 ha hw)]
  obtain ⟨x, c', e1, e2⟩ := brackets (co := co) (op := op) (sz := sz) (so := so) (wh := wh) (oe := oe) (tw := tw) (th := th) (nx := nx) (tk := tk) (os := os) (wa := wa) (wf := wf) (fC := fC) (fM := fM) (a := a) (o := o) (l := l0) (nd := nd) (d := d + 4) (oc := oc) (WT := WT) B (by rcases hag with e | e; exact Or.inl e; right; omega) han hl0 hnd hoc ho1 ho hd hd2
  rw [b2S e1]
  unfold tModel_conditional at hm0
  rcases e2 with ⟨a', l', nd', fC', fM', N, m2, ⟨co', op', sz', rfl⟩, ⟨so', wh', oe', tw', th', nx', tk', os', wa', wf', rfl⟩, e3, h41, ho', ⟨j1, j2, j3, j4, j5, j6, j7⟩, e5, e6, e7, e8, e9⟩ | ⟨r, q, x', m', e3, e4, e5⟩
  · left
    rw [b2S e3, b2S (v_node (by omega)), mkV_i29, if_pos rfl, b1S (v_opens ho'), b1S (v_begin B.2.2.2.2.2.1.1 (by omega))] at hm0
    unfold condM
    rw [b1S w_close, b1S (w_open B.1 (by omega) h41 ho'), b2S (w_addJump (by omega))]
    refine ⟨_, by rw [mkW_i13, nI_pred], a', l', nd', fC', fM', N, _, _, _, _, _, _, _, _, _, _, _, _, _, rfl, hm0, ⟨bs_beg B (by omega), L, ?_, ?_, ⟨by omega, by omega, by omega, by omega, by omega⟩, ⟨by omega, by omega, ?_, by omega, by omega⟩⟩, ⟨upd_e, upd_e, upd_e, upd_e, upd_e⟩, upd_e, ⟨by omega, by omega, by omega, by omega, by omega, by omega, by omega, ho', e9⟩, fun i hi => ?_, fun i hi => ?_, fun C M hC hM => ?_⟩
    · rcases hag with e | e
      · exact Or.inl e
      · right; omega
    · refine frel_step hF e8 hag fun t => ?_
      rw [nh_ext (M := (mkV h 0 (-1) (ftk n fM) (nI a) (nI o) (nI nd) (nI oc) WT so wh oe tw th nx tk os wa wf).2.2.1) (nd := nd) (fun i hi => ne_trans (e6 i hi) ⟨upd_n (by omega), upd_n (by omega), upd_n (by omega), upd_n (by omega), upd_n (by omega), upd_n (by omega), upd_n (by omega)⟩) (by omega), nh_split (l := nd) (m := nd') (by omega) (by omega)]
      refine or_congr Iff.rfl ⟨?_, fun e => Or.inl ((nh_congr fun i _ hi => ⟨upd_n (by omega), upd_n (by omega), upd_n (by omega)⟩).mpr e)⟩
      rintro (e | e)
      · exact (nh_congr fun i _ hi => ⟨upd_n (by omega), upd_n (by omega), upd_n (by omega)⟩).mp e
      · refine absurd e (nh_none ?_)
        show ¬ (upd so' nd' kk nd' = 4 ∨ upd so' nd' kk nd' = 5 ∨ upd so' nd' kk nd' = 12)
        rw [upd_e]; rcases hkk with e | e <;> rw [e] <;> decide
    · show upd (h.2.2.1 36) ar (nI nd') (ar + 1 - 1) = nI nd'
      rw [show ar + 1 - 1 = ar by omega, upd_e]
    · obtain ⟨q1, q2, q3⟩ := e5 i hi
      exact ⟨(upd_n (by omega)).trans q1, (upd_n (by omega)).trans q2, (upd_n (by omega)).trans q3⟩
    · exact ne_trans (e6 i hi) ⟨upd_n (by omega), upd_n (by omega), upd_n (by omega), upd_n (by omega), upd_n (by omega), upd_n (by omega), upd_n (by omega)⟩
    · refine vq_keep e7 (fun i h1 h2 => ?_) (fun i h1 h2 => ?_) (Nat.le_refl _)
      · obtain ⟨q1, q2, q3⟩ := hC i h1 h2
        exact ⟨q1.trans (upd_n (by omega)), q2.trans (upd_n (by omega)), q3.trans (upd_n (by omega))⟩
      · obtain ⟨q1, q2, q3, q4, q5, q6, q7⟩ := hM i h1 h2
        exact ⟨q1.trans (upd_n (by omega)), q2.trans (upd_n (by omega)), q3.trans (upd_n (by omega)), q4.trans (upd_n (by omega)), q5.trans (upd_n (by omega)), q6.trans (upd_n (by omega)), fun hi => (q7 hi).trans (upd_n (by omega))⟩
  · right
    have hcb : KB2 g n r q (condM (tG (d + 4)) w x2 c') := by
      rcases e3 with e3 | ⟨a', l', fC', ⟨co', op', sz', rfl⟩, q1, q2, q3, rfl, rfl⟩
      · exact kb_condM e3
      · unfold condM
        rw [b1S w_close, b1S (w_openN B.1 q1 q3)]
        exact kb_condM2 (cb_mkW B (by decide) (by omega))
    obtain ⟨x2', u, w1, w2⟩ := hcb
    have hm : KM h n 7 r q (b2 (tModel_node m' kk 0 x' (-1)) (fun r2 u2 => if (u2.1 29) = 0 then b1 (tModel_opens u2) (fun u5 => b1 (tModel_begin u5 r2) (fun u6 => some u6)) else b1 (tModel_begin u2 r2) (fun u4 => some u4))) := by
      refine km21 (km_node e5 (by omega)) fun x u b => ?_
      rw [b.2.1, if_neg b.2.2.2.1]
      exact km1 (km_begin b (by omega)) fun u b => kms b
    obtain ⟨m3, w3, w4⟩ := hm
    rw [b2S e4, w3] at hm0
    exact ⟨x2', u, w1, r, q, 1, m3, w2, st_one hm1.1 hm1.2 hm0, mb_mono w4 (by omega), by omega⟩
end SC
