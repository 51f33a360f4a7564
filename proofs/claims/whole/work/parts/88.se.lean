/-! A statement that begins with an element. -/
theorem vq_elem {n : Nat} {K : Nat → Int32} {C1 M1 C3 M3 : Nat → Nat → Int32} {f f3 a a' o l l' nd nd' N vc : Nat} (h1 : VQ n K C1 M1 f (a + 2) a' (o + 1) l l' nd nd' N vc) (hf : f3 ≤ f) (ho1 : 1 ≤ o) (ho : o < 12) (ha : a + 2 < a') (han : a < 1000 ∧ K a = 1) (hl : l < l') (hN : nd ≤ N ∧ N < nd') (k1 : AgC C1 C3 l l') (k3 : AgN M1 M3 nd nd' N) (k5 : M3 20 nd' = 4 ∧ M3 22 nd' = nI N ∧ M3 26 nd' = nI a) (k6 : C3 6 l' = 13 ∧ C3 7 l' = nI a) :
    VQ n K C3 M3 f3 a (a' + 1) o l (l' + 1) nd (nd' + 1) nd' vc := by
  intro G H hG hH
  obtain ⟨c1, c2⟩ := h1 G H (agc_tr k1 (agc_sub hG (by omega) (by omega))) (agn_sub k3 hH (by omega) (by omega) (Or.inl (by omega)))
  obtain ⟨g6, g7, -⟩ := hG l' (by omega) (by omega)
  obtain ⟨h20, h21, h22, -, -, h26, -⟩ := hH nd' (by omega) (by omega)
  rw [k6.1] at g6; rw [k6.2] at g7; rw [k5.1] at h20; rw [k5.2.1] at h22; rw [k5.2.2] at h26
  refine ⟨cene_app c1 (cene_elem (Or.inl g6) (Or.inl h20) g7 h26 han) (by omega) (by omega) (by omega) (by omega), fun hf3 G' H' F len nn hF hl1 hn1 w x hw hx => ?_⟩
  obtain ⟨z, hz, hcv⟩ := c2 (by omega) G' H' F len nn hF (by omega) (by omega) w x (by omega) (by omega)
  obtain ⟨f1, f2, f3', f4, f5⟩ := hF
  obtain ⟨e6, -⟩ := f2 l' (by omega)
  obtain ⟨i20, i21, i22, -⟩ := f3' nd' (by omega)
  rw [h20] at i20; rw [h22] at i22
  obtain ⟨D, hD⟩ : ∃ D, (a' + 1 - a + 1) / 2 + (13 - o) = D + 1 := ⟨(a' + 1 - a + 1) / 2 + (13 - o) - 1, by omega⟩
  refine ⟨z + 2, by omega, ?_⟩
  rw [hD]
  exact ⟨⟨by omega, f1⟩, by omega, by omega, by omega, by omega, Or.inr (Or.inr (Or.inr (Or.inl ⟨i20, N, l', z, rfl, rfl, i22, cv_up (by omega) hcv, e6.trans g6, f4 nd' l' a (by omega) (by omega) (by omega) (Or.inl h20) (Or.inl g6) g7 h26⟩)))⟩
theorem sq_put {n : Nat} {K : Nat → Int32} {C1 M1 C2 M2 C3 M3 : Nat → Nat → Int32} {f1 f2 f3 a a' a2 o l l1 l2 nd n1 n2 N1 N2 vc : Nat} (h1 : VQ n K C1 M1 f1 (a + 2) a' (o + 1) l l1 nd n1 N1 vc) (h2 : VQ n K C2 M2 f2 (a' + 2) a2 o l1 l2 (n1 + 1) n2 N2 vc) (hf1 : f3 ≤ f1) (hf2 : f3 ≤ f2) (ho1 : 1 ≤ o) (ho : o < 12) (ha : a + 2 < a') (ha2 : a' + 2 < a2) (han : a < 1000 ∧ K a = 1) (hv : vc ≤ 12) (hl : l < l1) (hl2 : l1 < l2) (hN1 : nd ≤ N1 ∧ N1 < n1) (hN2 : n1 + 1 ≤ N2 ∧ N2 < n2)
    (k1 : AgC C1 C3 l l1) (k2 : AgC C2 C3 l1 l2) (k3 : AgN M1 M3 nd n1 N1) (k4 : AgN M2 M3 (n1 + 1) n2 N2) (k5 : M3 20 n1 = 12 ∧ M3 22 n1 = nI N1 ∧ M3 23 n1 = nI N2 ∧ M3 26 n1 = nI a) (k6 : C3 6 l2 = 14 ∧ C3 7 l2 = nI a) :
    SQ n K C3 M3 f3 a (a2 + 1) o l (l2 + 1) nd n2 n1 vc vc := by
  intro G H hG hH
  obtain ⟨c1, c1'⟩ := h1 G H (agc_tr k1 (agc_sub hG (by omega) (by omega))) (agn_sub k3 hH (by omega) (by omega) (Or.inl (by omega)))
  obtain ⟨c2, c2'⟩ := h2 G H (agc_tr k2 (agc_sub hG (by omega) (by omega))) (agn_sub k4 hH (by omega) (by omega) (Or.inl (by omega)))
  obtain ⟨g6, g7, -⟩ := hG l2 (by omega) (by omega)
  obtain ⟨h20, h21, h22, h23, -, h26, -⟩ := hH n1 (by omega) (by omega)
  rw [k6.1] at g6; rw [k6.2] at g7; rw [k5.1] at h20; rw [k5.2.1] at h22; rw [k5.2.2.1] at h23; rw [k5.2.2.2] at h26
  refine ⟨fun x t k => ?_, fun hf G' H' F len nn hF hlen hnn => ?_⟩
  · rw [ce_split (m := l2) (by omega) (by omega), ce_split (m := l1) (by omega) (by omega), ne_split (m := n1) (by omega) (by omega), ne_split (l := n1) (m := n1 + 1) (by omega) (by omega), c1, c2, cene_elem (Or.inr g6) (Or.inr h20) g7 h26 han x t k]
    constructor
    · rintro ((e | e) | e)
      · exact Or.inl e
      · exact Or.inr (Or.inr e)
      · exact Or.inr (Or.inl e)
    · rintro (e | e | e)
      · exact Or.inl (Or.inl e)
      · exact Or.inr e
      · exact Or.inl (Or.inr e)
  · obtain ⟨z1, hz1, hv1⟩ := c1' (by omega) G' H' F len nn hF (by omega) (by omega) 0 0 (by omega) (by omega)
    obtain ⟨z2, hz2, hv2⟩ := c2' (by omega) G' H' F len nn hF (by omega) (by omega) 1 1 (by omega) (by omega)
    obtain ⟨f1', f2', f3', f4', -⟩ := hF
    obtain ⟨e6, -⟩ := f2' l2 (by omega)
    obtain ⟨i20, i21, i22, i23, -⟩ := f3' n1 (by omega)
    rw [h20] at i20; rw [h22] at i22; rw [h23] at i23
    obtain ⟨D, hD⟩ : ∃ D, (a2 + 1 - a + 1) / 2 + (14 - o) = D + 1 := ⟨(a2 + 1 - a + 1) / 2 + (14 - o) - 1, by omega⟩
    rw [hD]
    exact ⟨z1 + z2 + 3, by omega, ⟨by omega, f1'⟩, by omega, by omega, hv, hv, Or.inr (Or.inr (Or.inl ⟨i20, rfl, N1, N2, l1, l2, z1, z2, rfl, rfl, i22, i23, cv_up (by omega) hv1, cv_up (by omega) hv2, e6.trans g6, f4' n1 l2 a (by omega) (by omega) (by omega) (Or.inr h20) (Or.inr g6) g7 h26⟩))⟩
section SE
variable {n : Nat} {K : Nat → Int32} {p : Nat → Nat} {V : Nat → Int64} {g h : St} {tv : Nat → Nat} {vc vm ar sb dp A : Nat} {ag nb : Prop} {co op sz so wh oe tw th nx tk os wa wf : Nat → Int32} {fC fM a o l nd d oc : Nat} {WT : Int32}
theorem named_L2 (N : Nat) (σ : St) (x1 x2 : Int32) : tModel_named_L (N + 1) 2 σ x1 x2 = b1 (tModel_sees σ 93) (fun r12 => if r12 = 0 then b1 (tModel_spoil σ) (fun u14 => tModel_named_L N 3 u14 x1 x2) else tModel_named_L N 3 σ x1 x2) := rfl
theorem named_L3 (N : Nat) (σ : St) (x1 x2 : Int32) : tModel_named_L (N + 1) 3 σ x1 x2 = (if (σ.1 29) = 0 then b2 (tModel_element (sI (sI σ 32 ((σ.1 32) - 1)) 31 ((σ.1 31) + 1)) x1 x2) (fun r21 u21 => b1 (tModel_sees u21 61) (fun r22 => if r22 = 0 then b1 (tModel_ends u21 17 r21) (fun u30 => some u30) else b2 (tModel_value (sI u21 31 ((u21.1 31) + 1)) (-1)) (fun r24 u24 => b1 (tModel_need u24 59) (fun u25 => if (u25.1 29) = 0 then gd (inB r21 500) (gd (inB r21 500) (b1 (tModel_whole (sA (sA u25 20 (upd (u25.2.2.1 20) r21.toNatClampNeg 12)) 23 (upd (u25.2.2.1 23) r21.toNatClampNeg r24)) r21) (fun u29 => some u29))) else some u25)))) else some (sI σ 32 ((σ.1 32) - 1))) := rfl
theorem km_named3 {N k : Nat} {r q : Int32} {σ : St} {x1 x2 : Int32} (b : MBad h n k r q σ) : KM h n k r q (tModel_named_L (N + 1) 3 σ x1 x2) := by
  rw [named_L3, b.2.1, if_neg b.2.2.2.1]
  exact kms (mb_sI b (by omega))
theorem km_named2 {N k : Nat} {r q : Int32} {σ : St} {x1 x2 : Int32} (T : TkM h n K p V) (b : MBad h n k r q σ) : KM h n k r q (tModel_named_L (N + 2) 2 σ x1 x2) := by
  rw [named_L2]
  rcases mb_sees T b wd93 with e | e
  · rw [b1S e, if_pos rfl, b1S (mb_spoil T b)]; exact km_named3 b
  · rw [b1S e, if_neg (by decide)]; exact km_named3 b
/-- behind an element that is refused -/
theorem kb_elemF {c : St} {r q nm : Int32} (hb : CBad g n r q c) : KB2 g n r q (b1 (tCursor_kind c) (fun r2 => if r2 = 61 then b1 (tCursor_pass c 61) (fun u8 => b2 (tG (d + 3) 4 u8 14 nm) (fun r9 u9 => some (0, u9))) else b1 (tProgram_add c 13 nm 0) (fun u4 => b2 (tG (d + 3) 13 u4 1 0) (fun r5 u5 => b1 (tCursor_pass u5 59) (fun u6 => b1 (tProgram_add u6 21 0 0) (fun u7 => some (0, u7))))))) := by
  rw [b1S (cb_kind hb), if_neg (by decide)]
  exact kb12 (kb_add hb) fun u hu => kb2 (kb_signs (m := 1) hu (by omega) (by omega)) fun _ u hu => kb12 (kb_pass hu (by decide)) fun u hu => kb12 (kb_add hu) fun u hu => kbs2 hu
theorem ends_first {σ : St} {kk x : Int32} : tModel_ends σ kk x = b2 (tModel_value σ x) (fun r1 u1 => b1 (tModel_need u1 59) (fun u2 => if (u2.1 29) = 0 then b2 (tModel_node u2 kk 0 r1 (-1)) (fun r4 u4 => b1 (tModel_whole u4 r4) (fun u5 => some u5)) else some u2)) := rfl
/-- the element has been read: it is set, or it begins a value -/
theorem stm_elem2 {c0 m0 : St} {a' l1 n1 f1 m1f N1 : Nat} (B : Bs n K p V g h tv vc vm ar ag) (L : Lv g h vc sb dp ag) (hag : ag ∨ fC < a) (hF : FRel fC fM (NH m0.2.2.1 0 nd)) (hl : l ≤ 2 * a) (hnd : nd ≤ a) (ho1 : 1 ≤ o) (ho : o < 12) (hd : 70 ≤ d + 5 * o) (hd2 : 10 ≤ d) (hk : K a = 1) (hk1 : K (a + 1) = 91)
    (ha' : a + 2 < a' ∧ a' < n ∧ l < l1 ∧ l1 + 4 ≤ l + 2 * (a' - a) ∧ nd ≤ N1 ∧ N1 < n1 ∧ n1 + 2 ≤ nd + (a' - a)) (hf1 : f1 ≤ fC) (hc0 : FW c0 (mkW g 0 (-1) (wn n p f1) (nI (a' + 1)) (nI o) (nI l1) co op sz) l) (hm1 : m0.1 29 = 0 ∧ ¬ m0.1 42 ≤ 0)
    (hm2 : ∀ i, i < nd → NodeEq m0.2.2.1 (mkV h 0 (-1) (ftk n m1f) (nI (a' + 1)) (nI o) (nI (n1 + 1)) (nI oc) WT so wh oe tw th nx tk os wa wf).2.2.1 i) (hnode : so n1 = 4 ∧ oe n1 = nI N1 ∧ tk n1 = nI a ∧ th n1 = fnd (fun i => V (tv i)) vm (V a) ∧ nx n1 = -1)
    (hQ : ∀ C M : Nat → Nat → Int32, AgC (mkW g 0 (-1) (wn n p f1) (nI (a' + 1)) (nI o) (nI l1) co op sz).2.2.1 C l l1 → AgN (mkV h 0 (-1) (ftk n m1f) (nI (a' + 1)) (nI o) (nI (n1 + 1)) (nI oc) WT so wh oe tw th nx tk os wa wf).2.2.1 M nd n1 N1 → VQ n K C M f1 (a + 2) a' (o + 1) l l1 nd n1 N1 vc)
    (hBI : BI ag a fC f1 fM m1f (NH (mkV h 0 (-1) (ftk n m1f) (nI (a' + 1)) (nI o) (nI (n1 + 1)) (nI oc) WT so wh oe tw th nx tk os wa wf).2.2.1 nd (n1 + 1)))
    (hm0 : tModel_statement m0 = b1 (tModel_sees (mkV h 0 (-1) (ftk n m1f) (nI (a' + 1)) (nI o) (nI (n1 + 1)) (nI oc) WT so wh oe tw th nx tk os wa wf) 61) (fun r22 => if r22 = 0 then b1 (tModel_ends (mkV h 0 (-1) (ftk n m1f) (nI (a' + 1)) (nI o) (nI (n1 + 1)) (nI oc) WT so wh oe tw th nx tk os wa wf) 17 (nI n1)) (fun u30 => some u30) else b2 (tModel_value (sI (mkV h 0 (-1) (ftk n m1f) (nI (a' + 1)) (nI o) (nI (n1 + 1)) (nI oc) WT so wh oe tw th nx tk os wa wf) 31 (nI (a' + 1) + 1)) (-1)) (fun r24 u24 => b1 (tModel_need u24 59) (fun u25 => if (u25.1 29) = 0 then gd (inB (nI n1) 500) (gd (inB (nI n1) 500) (b1 (tModel_whole (sA (sA u25 20 (upd (u25.2.2.1 20) (nI n1).toNatClampNeg 12)) 23 (upd (u25.2.2.1 23) (nI n1).toNatClampNeg r24)) (nI n1)) (fun u29 => some u29))) else some u25)))) :
    SRes n K p V g h c0 m0 fC a o l nd vc sb dp ar ag nb (b1 (tCursor_kind (mkW g 0 (-1) (wn n p f1) (nI (a' + 1)) (nI o) (nI l1) co op sz)) (fun r2 => if r2 = 61 then b1 (tCursor_pass (mkW g 0 (-1) (wn n p f1) (nI (a' + 1)) (nI o) (nI l1) co op sz) 61) (fun u8 => b2 (tG (d + 1) 4 u8 14 (nI a)) (fun r9 u9 => some (0, u9))) else b1 (tProgram_add (mkW g 0 (-1) (wn n p f1) (nI (a' + 1)) (nI o) (nI l1) co op sz) 13 (nI a) 0) (fun u4 => b2 (tG (d + 1) 13 u4 1 0) (fun r5 u5 => b1 (tCursor_pass u5 59) (fun u6 => b1 (tProgram_add u6 21 0 0) (fun u7 => some (0, u7))))))) := by
  have hn := B.2.1.1.1
  obtain ⟨A1, A2, A3, A4, A5, A6, A7⟩ := ha'
  have hag1 : ag ∨ f1 ≤ n := by rcases hag with e | e; exact Or.inl e; right; omega
  have hF1 : FRel f1 m1f (NH (mkV h 0 (-1) (ftk n m1f) (nI (a' + 1)) (nI o) (nI (n1 + 1)) (nI oc) WT so wh oe tw th nx tk os wa wf).2.2.1 0 (n1 + 1)) := frel_step hF hBI hag (fun t => nh_ext hm2 (by omega))
  rw [b1S (w_kind B.1 (by omega))]
  rw [b1S (v_sees B.2.1 (by omega) wd61)] at hm0
  by_cases h61 : K (a' + 1) = 61
  · have ha2 := kz_lt B.1 h61 (by decide)
    rw [if_pos h61, if_neg (by decide), nI_suc, mkV_s31] at hm0
    rw [if_pos h61, b1S (w_pass B.1 (by omega) h61)]
    rw [tG_4]
    unfold tGrammar_endWith
    obtain ⟨x, c', e1, e2⟩ := value_both (co := co) (op := op) (sz := sz) (so := so) (wh := wh) (oe := oe) (tw := tw) (th := th) (nx := nx) (tk := tk) (os := os) (wa := wa) (wf := wf) (fC := f1) (fM := m1f) (a := a' + 2) (o := o) (l := l1) (nd := n1 + 1) (d := d) (OC := nI oc) (WT := WT) B hd hd2 ho1 (by omega) (by omega) (by omega) (by omega) hag1
    rw [b2S e1]
    rcases e2 with ⟨a2, l2, n2, f2, m2f, N2, m2, ⟨co', op', sz', rfl⟩, ⟨so', wh', oe', tw', th', nx', tk', os', wa', wf', rfl⟩, e3, e4, ⟨j1, j2, j3, j4, j5, j6, j7⟩, e5, e6, e7, e8, e9⟩ | ⟨r, q, m', e3, e4, e5⟩
    · rw [b2S e3] at hm0
      by_cases h59 : K a2 = 59
      · have ha3 := kz_lt B.1 h59 (by decide)
        rw [b1S (v_need B.2.1 j2 wd59 h59), mkV_i29, if_pos rfl, gdT (inI (by omega) (by omega)), gdT (inI (by omega) (by omega)), tc_nI (by omega), mkV_r20, mkV_t20, mkV_r23, mkV_t23, b1_id] at hm0
        rw [b1S (w_pass B.1 j2 h59), b1S (w_add (by omega)), b2S rfl]
        obtain ⟨s20, s21, s22, s23, s24, s25, s26⟩ := e6 n1 (by omega)
        have low : ∀ i, i < n1 + 1 → i ≠ n1 → NodeEq (mkV h 0 (-1) (ftk n m1f) (nI (a' + 1)) (nI o) (nI (n1 + 1)) (nI oc) WT so wh oe tw th nx tk os wa wf).2.2.1 (mkV h 0 (-1) (ftk n m2f) (nI (a2 + 1)) (nI o) (nI n2) (nI 1) (nI 0) (upd so' n1 12) wh' oe' (upd tw' n1 (nI N2)) th' nx' tk' os' wa' wf').2.2.1 i := fun i hi hne => ne_trans (e6 i hi) ⟨upd_n hne, rfl, rfl, upd_n hne, rfl, rfl, rfl⟩
        refine ⟨0, _, rfl, Or.inl ⟨a2 + 1, l2 + 1, n2, f2, m2f, n1, vc, vm, 0, 2000, ag, g, h, m0, _, tv, ⟨_, _, _, rfl⟩, ⟨1, 0, by omega, _, _, _, _, _, _, _, _, _, _, rfl⟩, rfl, hm1, ⟨hm0, by omega⟩, B, L, frv_refl, ⟨fun hg => ⟨hg, Nat.le_refl _⟩, fun _ _ => rfl⟩, ?_, by omega, ⟨by omega, by omega, by omega, by omega, by omega, by omega, by omega, by omega⟩, s25.trans hnode.2.2.2.2, ?_, fun i hi => ?_, ?_, ?_⟩⟩
        · rcases hag with e | e
          · exact Or.inl e
          · right; omega
        · intro i hi
          obtain ⟨q1, q2, q3⟩ := fw_trans hc0 e5 (by omega) i hi
          exact ⟨(upd_n (by omega)).trans q1, (upd_n (by omega)).trans q2, (upd_n (by omega)).trans q3⟩
        · exact ne_trans (hm2 i hi) (low i (by omega) (by omega))
        · refine sq_put (hQ _ _ (fun i h1 h2 => ⟨rfl, rfl, rfl⟩) (fun i h1 h2 => ⟨rfl, rfl, rfl, rfl, rfl, rfl, fun _ => rfl⟩)) e7 (by omega) (Nat.le_refl _) ho1 ho A1 (by omega) ⟨by omega, hk⟩ B.2.2.1.2 A3 j3 ⟨A5, A6⟩ ⟨j5, j6⟩ (fun i h1 h2 => ?_) (fun i h1 h2 => ⟨upd_n (by omega), upd_n (by omega), upd_n (by omega)⟩) (fun i h1 h2 => ?_) (fun i h1 h2 => ⟨upd_n (by omega), rfl, rfl, upd_n (by omega), rfl, rfl, fun _ => rfl⟩) ⟨upd_e, s22.trans hnode.2.1, upd_e, s26.trans hnode.2.2.1⟩ ⟨upd_e, upd_e⟩
          · obtain ⟨q1, q2, q3⟩ := e5 i (by omega)
            exact ⟨(upd_n (by omega)).trans q1, (upd_n (by omega)).trans q2, (upd_n (by omega)).trans q3⟩
          · obtain ⟨q1, q2, q3, q4, q5, q6, q7⟩ := low i (by omega) (by omega)
            exact ⟨q1, q2, q3, q4, q5, q7, fun _ => q6⟩
        · refine frel_step hF1 e8 (by rcases hag with e | e; exact Or.inl e; right; omega) fun t => ?_
          rw [nh_split (m := n1 + 1) (by omega) (by omega)]
          refine or_congr ?_ (nh_congr fun i h1 _ => ⟨upd_n (by omega), rfl, rfl⟩)
          refine Iff.trans (nh_split (m := n1) (by omega) (by omega)) (Iff.trans (or_congr (nh_congr fun i _ h2 => ?_) ?_) (nh_split (m := n1) (by omega) (by omega)).symm)
          · obtain ⟨q1, q2, q3, q4, q5, q6, q7⟩ := low i (by omega) (by omega)
            exact ⟨q1, q5, q7⟩
          · constructor
            · rintro ⟨i, x1, x2, x3, x4, x5, x6⟩
              obtain rfl : i = n1 := by omega
              exact ⟨i, x1, x2, Or.inl hnode.1, by show 0 ≤ th i; rw [← show th' i = th i from s24]; exact x4, by show tk i = nI t; rw [← show tk' i = tk i from s26]; exact x5, x6⟩
            · rintro ⟨i, x1, x2, x3, x4, x5, x6⟩
              obtain rfl : i = n1 := by omega
              exact ⟨i, x1, x2, Or.inr (Or.inr upd_e), by show 0 ≤ th' i; rw [show th' i = _ from s24]; exact x4, by show tk' i = _; rw [show tk' i = _ from s26]; exact x5, x6⟩
      · rw [b1S (v_needN B.2.1 j2 wd59 h59), mkV_i29, if_neg (by decide)] at hm0
        rw [b1S (w_passN B.1 j2 h59)]
        obtain ⟨x', u, w1, w2⟩ := kb2 (kb12 (kb_add (x := 14) (y := nI a) (z := 0) (cb_mkW (r := 3) (q := nI (p a2)) (w := wn n p f2) (a := nI a2) (o := nI o) (co := co') (op := op') (sz := sz') B (by decide) (show l2 ≤ 440 by omega))) fun u hu => kbs2 (x := 0) hu) fun _ u hu => kbs2 (x := 0) hu
        exact ⟨x', u, w1, Or.inr ⟨3, nI (p a2), 1, _, w2, st_one hm1.1 hm1.2 hm0, mb_mono (mb_V B (by decide) j2 (by omega) (by omega)) (by omega), by omega⟩⟩
    · rw [b2S e4, b1S (mb_need B.2.1 e5 wd59), e5.2.1, if_neg e5.2.2.2.1] at hm0
      obtain ⟨x', u, w1, w2⟩ := kb2 (kb12 (kb_pass (k := 59) e3 (by decide)) fun u hu => kb12 (kb_add (x := 14) (y := nI a) (z := 0) hu) fun u hu => kbs2 (x := 0) hu) fun _ u hu => kbs2 (x := 0) hu
      exact ⟨x', u, w1, Or.inr ⟨r, q, 1, m', w2, st_one hm1.1 hm1.2 hm0, mb_mono e5 (by omega), by omega⟩⟩
  · rw [if_neg h61, if_pos rfl, b1_id, ends_first] at hm0
    rw [if_neg h61, b1S (w_add (by omega))]
    obtain ⟨dd, rfl⟩ : ∃ j, d = j + 3 := ⟨d - 3, by omega⟩
    -- the model's loop begins with the element
    have ev : tModel_value (mkV h 0 (-1) (ftk n m1f) (nI (a' + 1)) (nI o) (nI (n1 + 1)) (nI oc) WT so wh oe tw th nx tk os wa wf) (nI n1) = tModel_value_L 1998 3 (mkV h 0 (-1) (ftk n m1f) (nI (a' + 1)) (nI o) (nI (n1 + 1)) (nI 1) (nI 0) so wh oe tw th nx tk (upd os 0 (nI n1)) wa wf) 0 0 0 0 := by
      unfold tModel_value
      rw [if_pos (nI_le0 (by omega)), mkV_s40, mkV_s41]
      exact value_start' (N := 1998) (nI_nneg (by omega)) (v_operand (oc := 0) (by omega))
    rw [ev] at hm0
    have hok : VOk n K p g h (mkW g 0 (-1) (wn n p f1) (nI (a' + 1)) (nI o) (nI l1) co op sz) (mkV h 0 (-1) (ftk n m1f) (nI (a' + 1)) (nI o) (nI (n1 + 1)) (nI 1) (nI 0) so wh oe tw th nx tk (upd os 0 (nI n1)) wa wf) (mkW g 0 (-1) (wn n p f1) (nI (a' + 1)) (nI o) (nI (l1 + 1)) (upd co l1 13) (upd op l1 (nI a)) (upd sz l1 0)) 0 fC fM a o l nd 0 0 vc ag 7 := by
      refine ⟨a' + 1, l1 + 1, n1 + 1, f1, m1f, n1, 0, 0, _, _, ⟨_, _, _, rfl⟩, ⟨_, _, _, _, _, _, _, _, _, _, rfl⟩, vs_refl, ⟨rfl, rfl, samev⟩, sst_refl, by have := sth_le (K (a' + 1)); omega, ⟨by omega, by omega, by omega, by omega, by omega, by omega, by omega, by omega, by omega⟩, fun i hi => ⟨upd_n (by omega), upd_n (by omega), upd_n (by omega)⟩, fv_refl, upd_e (f := os) (k := 0) (x := nI n1), ?_, hBI⟩
      exact vq_elem (hQ _ _ (fun i h1 h2 => ⟨rfl, rfl, rfl⟩) (fun i h1 h2 => ⟨rfl, rfl, rfl, rfl, rfl, rfl, fun _ => rfl⟩)) (Nat.le_refl _) ho1 ho A1 ⟨by omega, hk⟩ A3 ⟨A5, A6⟩ (fun i h1 h2 => ⟨upd_n (by omega), upd_n (by omega), upd_n (by omega)⟩) (fun i h1 h2 => ⟨rfl, rfl, rfl, rfl, rfl, rfl, fun _ => rfl⟩) ⟨hnode.1, hnode.2.1, hnode.2.2.1⟩ ⟨upd_e, upd_e⟩
    have hsg := signs_all (d := dd) (lim := 1) B (fun ho' => (val_all B (12 - (o + 1)) (o + 1) (dd + 2) (by omega) (by omega)).2 (by omega)) ho1 (by omega) hl hnd (Nat.le_refl _) (by omega) (by rcases hag with e | e; exact Or.inl e; right; omega) (by omega) (by omega) (fun s _ _ => Or.inl rfl) n 2000 0 (a' + 1) _ hok rfl (by omega) (by omega) (by omega) (by omega)
    obtain ⟨x, c', e1, e2⟩ := hsg
    rw [show nI 1 = (1 : Int32) from rfl, show nI 0 = (0 : Int32) from rfl] at e1
    have e1' : tG (dd + 3 + 1) 13 (mkW g 0 (-1) (wn n p f1) (nI (a' + 1)) (nI o) (nI (l1 + 1)) (upd co l1 13) (upd op l1 (nI a)) (upd sz l1 0)) 1 0 = some (x, c') := by
      rw [tG_13]
      unfold tGrammar_signs
      exact e1
    rw [b2S e1']
    have hve := value_end B (by omega) e2
    rcases hve with ⟨a2, l2, n2, f2, m2f, N2, m2, ⟨co', op', sz', rfl⟩, ⟨so', wh', oe', tw', th', nx', tk', os', wa', wf', rfl⟩, e3, e4, ⟨j1, j2, j3, j4, j5, j6, j7⟩, e5, e6, e7, e8, e9⟩ | ⟨r, q, m', e3, e4, e5⟩
    · rw [b2S e3] at hm0
      by_cases h59 : K a2 = 59
      · have ha3 := kz_lt B.1 h59 (by decide)
        rw [b1S (v_need B.2.1 j2 wd59 h59), mkV_i29, if_pos rfl, b2S (v_node (by omega)), b1_id] at hm0
        rw [b1S (w_pass B.1 j2 h59), b1S (w_add (by omega))]
        refine ⟨0, _, rfl, Or.inl ⟨a2 + 1, l2 + 1, n2 + 1, f2, m2f, n2, vc, vm, 0, 2000, ag, g, h, m0, _, tv, ⟨_, _, _, rfl⟩, ⟨1, 0, by omega, _, _, _, _, _, _, _, _, _, _, rfl⟩, rfl, hm1, ⟨hm0, by omega⟩, B, L, frv_refl, ⟨fun hg => ⟨hg, Nat.le_refl _⟩, fun _ _ => rfl⟩, ?_, by omega, ⟨by omega, by omega, by omega, by omega, by omega, by omega, by omega, by omega⟩, upd_e, ?_, fun i hi => ?_, ?_, ?_⟩⟩
        · rcases hag with e | e
          · exact Or.inl e
          · right; omega
        · intro i hi
          obtain ⟨q1, q2, q3⟩ := fw_trans hc0 e5 (Nat.le_refl _) i hi
          exact ⟨(upd_n (by omega)).trans q1, (upd_n (by omega)).trans q2, (upd_n (by omega)).trans q3⟩
        · exact ne_trans (ne_trans (hm2 i hi) (e6 i hi)) ⟨upd_n (by omega), upd_n (by omega), upd_n (by omega), upd_n (by omega), upd_n (by omega), upd_n (by omega), upd_n (by omega)⟩
        · exact sq_leaf (kk := 17) (vv := 0) (X := 21) (Y := 0) e7 (Nat.le_refl _) ho1 (by omega) (Nat.le_refl _) (Nat.le_refl _) j1 (Nat.le_refl _) j3 ⟨j5, j6⟩ B.2.2.1.2 B.2.2.1.2 (fun i h1 h2 => ⟨upd_n (by omega), upd_n (by omega), upd_n (by omega)⟩) (fun i h1 h2 => ⟨upd_n (by omega), upd_n (by omega), upd_n (by omega), upd_n (by omega), upd_n (by omega), upd_n (by omega), fun _ => upd_n (by omega)⟩) ⟨upd_e, upd_e, upd_e⟩ ⟨upd_e, upd_e⟩ (by decide) (by decide) (fun _ => Or.inr (Or.inr (Or.inl ⟨rfl, rfl, rfl⟩)))
        · refine frel_step hF e8 hag fun t => ?_
          rw [nh_ext (M := m0.2.2.1) (nd := nd) (fun i hi => ne_trans (ne_trans (hm2 i hi) (e6 i hi)) ⟨upd_n (by omega), upd_n (by omega), upd_n (by omega), upd_n (by omega), upd_n (by omega), upd_n (by omega), upd_n (by omega)⟩) (by omega), nh_split (l := nd) (m := n2) (by omega) (by omega)]
          refine or_congr Iff.rfl ⟨?_, fun e => Or.inl ((nh_congr fun i _ hi => ⟨upd_n (by omega), upd_n (by omega), upd_n (by omega)⟩).mpr e)⟩
          rintro (e | e)
          · exact (nh_congr fun i _ hi => ⟨upd_n (by omega), upd_n (by omega), upd_n (by omega)⟩).mp e
          · refine absurd e (nh_none ?_)
            show ¬ (upd so' n2 17 n2 = 4 ∨ upd so' n2 17 n2 = 5 ∨ upd so' n2 17 n2 = 12)
            rw [upd_e]; decide
      · rw [b1S (v_needN B.2.1 j2 wd59 h59), mkV_i29, if_neg (by decide)] at hm0
        rw [b1S (w_passN B.1 j2 h59)]
        obtain ⟨x', u, w1, w2⟩ := kb12 (kb_add (x := 21) (y := 0) (z := 0) (cb_mkW (r := 3) (q := nI (p a2)) (w := wn n p f2) (a := nI a2) (o := nI o) (co := co') (op := op') (sz := sz') B (by decide) (show l2 ≤ 440 by omega))) fun u hu => kbs2 (x := 0) hu
        exact ⟨x', u, w1, Or.inr ⟨3, nI (p a2), 1, _, w2, st_one hm1.1 hm1.2 hm0, mb_mono (mb_V B (by decide) j2 (by omega) (by omega)) (by omega), by omega⟩⟩
    · rw [b2S e4, b1S (mb_need B.2.1 e5 wd59), e5.2.1, if_neg e5.2.2.2.1] at hm0
      obtain ⟨x', u, w1, w2⟩ := kb12 (kb_pass (k := 59) e3 (by decide)) fun u hu => kb12 (kb_add (x := 21) (y := 0) (z := 0) hu) fun u hu => kbs2 (x := 0) hu
      exact ⟨x', u, w1, Or.inr ⟨r, q, 1, m', w2, st_one hm1.1 hm1.2 hm0, mb_mono e5 (by omega), by omega⟩⟩
end SE
