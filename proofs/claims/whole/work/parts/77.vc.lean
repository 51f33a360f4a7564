/-! Values that are put together. -/
section VC
variable {n : Nat} {K : Nat → Int32} {p : Nat → Nat} {V : Nat → Int64} {g h : St} {tv : Nat → Nat} {vc vm ar : Nat} {ag : Prop} {co op sz so wh oe tw th nx tk os wa wf : Nat → Int32} {fC fM a o l nd oc wt : Nat}
theorem vs_close {m1 : St} {k a' nd' oc' : Nat} {ft O q : Int32} (T : TkM h n K p V) (ha : a' ≤ n) (h1 : m1.1 29 = 0 ∧ m1.1 31 = nI a' ∧ SameT h m1) (hS : SSt (nI (max 1 (sth (K a')))) k m1 (mkV h 0 q ft (nI a') O (nI nd') (nI oc') (nI (wt + 1)) so wh oe tw th nx tk os wa wf)) (h0 : sth (K a') = 0) (hp : StpW K n 1 (wt + 1) wa wf) (hwt : wt < 50) (hk : k ≤ 100) :
    vStep 0 m1 = b2 (tModel_closeBracket (mkV h 0 q ft (nI a') O (nI nd') (nI oc') (nI (wt + 1)) so wh oe tw th nx tk os wa wf)) (fun r v => some ((if r = 1 then 1 else 0), v)) := by
  unfold vStep
  rw [h0] at hS
  rw [if_pos rfl, h1.2.1, strength_congr h1.2.2, b1S (T.2.2.2.2.2.2.1 a' ha), h0, if_pos (by decide), b1S (v_settle (least := 1) T (by omega) hp hS hk), if_pos (by decide), mkV_i41, if_neg (nI_nle (by omega) (by omega))]
theorem vs_op {m1 : St} {k a' nd' oc' : Nat} {ft O q : Int32} (T : TkM h n K p V) (ha : a' ≤ n) (h1 : m1.1 29 = 0 ∧ m1.1 31 = nI a' ∧ SameT h m1) (hS : SSt (nI (max 1 (sth (K a')))) k m1 (mkV h 0 q ft (nI a') O (nI nd') (nI oc') (nI wt) so wh oe tw th nx tk os wa wf)) (h0 : 0 < sth (K a')) (hp : StpW K n (nI (sth (K a'))) wt wa wf) (hwt : wt < 50) (hk : k ≤ 100) :
    vStep 0 m1 = b1 (tModel_opens (mkV h 0 q ft (nI a') O (nI nd') (nI oc') (nI wt) so wh oe tw th nx tk os wa wf)) (fun v => b1 (tModel_hold v 32 (nI a')) (fun v' => some (1, v'))) := by
  have h6 := sth_le (K a')
  unfold vStep
  rw [show max 1 (sth (K a')) = sth (K a') by omega] at hS
  rw [if_pos rfl, h1.2.1, strength_congr h1.2.2, b1S (T.2.2.2.2.2.2.1 a' ha), if_neg (nI_nle (by omega) (by omega)), b1S (v_settle (least := nI (sth (K a'))) T (by omega) hp hS hk), if_neg (nI_nle (by omega) (by omega)), mkV_i31]
theorem nI1 : nI 1 = 1 := rfl
/-- a sign before a value -/
theorem vok_signed {s : Int32} {c2 : St} (B : Bs n K p V g h tv vc vm ar ag) (ho1 : 1 ≤ o) (ho : o < 12) (hk : K a = s) (hs : s = 45 ∨ s = 33 ∨ s = 126) (ha : a < n) (hl : l ≤ 2 * a) (hnd : nd ≤ a) (hoc : oc ≤ 12) (hwt : wt ≤ 12)
    (hi : VOk n K p g h (mkW g 0 (-1) (wn n p fC) (nI (a + 1)) (nI (o + 1)) (nI l) co op sz) (mkV h 0 (-1) (ftk n fM) (nI (a + 1)) (nI (o + 1)) (nI nd) (nI oc) (nI (wt + 1)) so wh oe tw th nx tk os (upd wa wt 31) (upd wf wt (nI a))) c2 1 fC fM (a + 1) (o + 1) l nd oc (wt + 1) vc ag 7) :
    ∃ c', b1 (tCursor_close c2) (fun u3 => if s = 45 then b1 (tProgram_add u3 19 0 0) (fun u6 => some ((0 : Int32), u6)) else b1 (tProgram_add u3 s 0 0) (fun u5 => some (0, u5))) = some (0, c') ∧
      VOk n K p g h (mkW g 0 (-1) (wn n p fC) (nI a) (nI o) (nI l) co op sz) (mkV h 0 (-1) (ftk n fM) (nI a) (nI o) (nI nd) (nI oc) (nI wt) so wh oe tw th nx tk os wa wf) c' 1 fC fM a o l nd oc wt vc ag 7 := by
  obtain ⟨B1, B2, B3, B4, B5, B6, B7, B8⟩ := B
  have hn := B2.1.1
  obtain ⟨a', l', nd', fC', fM', N, j, k, m1, m2, ⟨co', op', sz', rfl⟩, ⟨so', wh', oe', tw', th', nx', tk', os', wa', wf', rfl⟩, i3, i4, i5, i6, ⟨j1, j2, j3, j4, j5, j6, j7, j8, j9⟩, i8, i9, i10, i11, i12⟩ := hi
  have w1 : wa' wt = 31 := ((i9.2.2 wt (by omega)).1).trans upd_e
  have w2 : wf' wt = nI a := ((i9.2.2 wt (by omega)).2).trans upd_e
  have hos : os' oc = nI N := i10
  have hadd : b1 (tCursor_close (mkW g 0 (-1) (wn n p fC') (nI a') (nI (o + 1)) (nI l') co' op' sz')) (fun u3 => if s = 45 then b1 (tProgram_add u3 19 0 0) (fun u6 => some ((0 : Int32), u6)) else b1 (tProgram_add u3 s 0 0) (fun u5 => some (0, u5))) = some (0, mkW g 0 (-1) (wn n p fC') (nI a') (nI o) (nI (l' + 1)) (upd co' l' (if s = 45 then 19 else s)) (upd op' l' 0) (upd sz' l' 0)) := by
    rw [b1S w_close]
    by_cases h45 : s = 45
    · rw [if_pos h45, b1S (w_add (by omega)), if_pos h45]
    · rw [if_neg h45, b1S (w_add (by omega)), if_neg h45]
  refine ⟨_, hadd, a', l' + 1, nd' + 1, fC', fM', nd', 1 + j, k + 1, m1, _, ⟨_, _, _, rfl⟩, ⟨_, _, _, _, _, _, _, _, _, _, rfl⟩, vs_trans (vs_one rfl (show vStep 1 _ = _ from (if_neg (by decide)).trans (bv_sign B2 (by omega) (by rw [hk]; exact hs) ho (by omega)))) i3, i4, sst_trans i5 (s_before B2 w1 w2 ha (by rw [hk]; exact hs) (by omega) (by omega) (by omega)), i6, ⟨by omega, by omega, by omega, by omega, by omega, by omega, by omega, by omega, by omega⟩, ?_, ?_, upd_e, ?_, ?_⟩
  · intro i hi
    obtain ⟨q1, q2, q3⟩ := i8 i hi
    exact ⟨(upd_n (by omega)).trans q1, (upd_n (by omega)).trans q2, (upd_n (by omega)).trans q3⟩
  · refine ⟨fun i hi => ?_, fun i hi => ?_, fun i hi => ?_⟩
    · obtain ⟨q1, q2, q3, q4, q5, q6, q7⟩ := i9.1 i hi
      exact ⟨(upd_n (by omega)).trans q1, (upd_n (by omega)).trans q2, (upd_n (by omega)).trans q3, (upd_n (by omega)).trans q4, (upd_n (by omega)).trans q5, (upd_n (by omega)).trans q6, (upd_n (by omega)).trans q7⟩
    · exact (upd_n (by omega)).trans (i9.2.1 i hi)
    · obtain ⟨q1, q2⟩ := i9.2.2 i (by omega)
      exact ⟨q1.trans (upd_n (by omega)), q2.trans (upd_n (by omega))⟩
  · intro G H hG hH
    have hG1 : AgC (mkW g 0 (-1) (wn n p fC') (nI a') (nI (o + 1)) (nI l') co' op' sz').2.2.1 G l l' := fun i h1 h2 => by
      obtain ⟨q1, q2, q3⟩ := hG i h1 (by omega)
      exact ⟨q1.trans (upd_n (by omega)), q2.trans (upd_n (by omega)), q3.trans (upd_n (by omega))⟩
    have hH1 : AgN (mkV h 0 (-1) (ftk n fM') (nI a') (nI (o + 1)) (nI nd') (nI (oc + 1)) (nI (wt + 1)) so' wh' oe' tw' th' nx' tk' os' wa' wf').2.2.1 H nd nd' N := fun i h1 h2 => by
      obtain ⟨q1, q2, q3, q4, q5, q6, q7⟩ := hH i h1 (by omega)
      exact ⟨q1.trans (upd_n (by omega)), q2.trans (upd_n (by omega)), q3.trans (upd_n (by omega)), q4.trans (upd_n (by omega)), q5.trans (upd_n (by omega)), q6.trans (upd_n (by omega)), fun _ => (q7 (by omega)).trans (upd_n (by omega))⟩
    obtain ⟨c1, c2⟩ := i11 G H hG1 hH1
    obtain ⟨g6, -, -⟩ := hG l' (by omega) (by omega)
    obtain ⟨h20, h21, h22, -⟩ := hH nd' (by omega) (by omega)
    replace g6 : G 6 l' = (if s = 45 then 19 else s) := g6.trans upd_e
    replace h20 : H 20 nd' = 6 := h20.trans upd_e
    replace h21 : H 21 nd' = K a := h21.trans upd_e
    replace h22 : H 22 nd' = nI N := (h22.trans upd_e).trans hos
    rw [hk] at h21
    have hg : (s = 45 ∧ G 6 l' = 19) ∨ (s = 33 ∧ G 6 l' = 33) ∨ (s = 126 ∧ G 6 l' = 126) := by
      rcases hs with rfl | rfl | rfl
      · exact Or.inl ⟨rfl, g6⟩
      · exact Or.inr (Or.inl ⟨rfl, g6⟩)
      · exact Or.inr (Or.inr ⟨rfl, g6⟩)
    have hgn : ¬ (G 6 l' = 13 ∨ G 6 l' = 14 ∨ G 6 l' = 15) := by
      rcases hg with ⟨-, e⟩ | ⟨-, e⟩ | ⟨-, e⟩ <;> rw [e] <;> decide
    refine ⟨cene_app c1 (cene_none hgn (by rw [h20]; decide)) (by omega) (by omega) (by omega) (by omega), fun hf G' H' F len nn hF hl1 hn1 w x hw hx => ?_⟩
    obtain ⟨z, hz, hcv⟩ := c2 hf G' H' F len nn hF (by omega) (by omega) w x (by omega) (by omega)
    obtain ⟨f1, f2, f3, f4, f5⟩ := hF
    obtain ⟨e6, -⟩ := f2 l' (by omega)
    obtain ⟨i20, i21, i22, -⟩ := f3 nd' (by omega)
    rw [h20] at i20; rw [h21] at i21; rw [h22] at i22
    obtain ⟨D, hD⟩ : ∃ D, (a' - a + 1) / 2 + (13 - o) = D + 1 := ⟨(a' - a + 1) / 2 + (13 - o) - 1, by omega⟩
    refine ⟨z + 2, by omega, ?_⟩
    rw [hD]
    refine ⟨⟨by omega, f1⟩, by omega, by omega, by omega, by omega, Or.inr (Or.inr (Or.inr (Or.inr (Or.inr (Or.inl ⟨i20, N, l', z, rfl, rfl, i22, cv_up (by omega) hcv, ?_⟩)))))⟩
    rcases hg with ⟨e1, e2⟩ | ⟨e1, e2⟩ | ⟨e1, e2⟩
    · exact Or.inl ⟨i21.trans e1, e6.trans e2⟩
    · exact Or.inr (Or.inl ⟨i21.trans e1, e6.trans e2⟩)
    · exact Or.inr (Or.inr ⟨i21.trans e1, e6.trans e2⟩)
  · refine bi_low (bi_congr i12 fun t => ?_) (by omega)
    rw [nh_split (m := nd') (by omega) (by omega)]
    constructor
    · rintro (e | e)
      · exact (nh_congr fun i h1 h2 => ⟨upd_n (by omega), upd_n (by omega), upd_n (by omega)⟩).mp e
      · refine absurd e (nh_none ?_)
        show ¬ (upd so' nd' 6 nd' = 4 ∨ upd so' nd' 6 nd' = 5 ∨ upd so' nd' 6 nd' = 12)
        rw [upd_e]; decide
    · intro e
      exact Or.inl ((nh_congr fun i h1 h2 => ⟨upd_n (by omega), upd_n (by omega), upd_n (by omega)⟩).mpr e)
/-- a value in round brackets: its end -/
theorem vok_round {c2 : St} (B : Bs n K p V g h tv vc vm ar ag) (ho1 : 1 ≤ o) (ho : o < 12) (hk : K a = 40) (ha : a < n) (hl : l ≤ 2 * a) (hnd : nd ≤ a) (hoc : oc ≤ 12) (hwt : wt ≤ 12)
    (hi : VOk n K p g h (mkW g 0 (-1) (wn n p fC) (nI (a + 1)) (nI (o + 1)) (nI l) co op sz) (mkV h 0 (-1) (ftk n fM) (nI (a + 1)) (nI (o + 1)) (nI nd) (nI oc) (nI (wt + 1)) so wh oe tw th nx tk os (upd wa wt 30) (upd wf wt 0)) c2 1 fC fM (a + 1) (o + 1) l nd oc (wt + 1) vc ag 1) :
    VRes n K p g h (mkW g 0 (-1) (wn n p fC) (nI a) (nI o) (nI l) co op sz) (mkV h 0 (-1) (ftk n fM) (nI a) (nI o) (nI nd) (nI oc) (nI wt) so wh oe tw th nx tk os wa wf) 1 fC fM a o l nd oc wt vc ag 7 (b1 (tCursor_passClosing c2 41) (fun u19 => some (0, u19))) := by
  have B' := B
  obtain ⟨B1, B2, B3, B4, B5, B6, B7, B8⟩ := B
  have hn := B2.1.1
  obtain ⟨a', l', nd', fC', fM', N, j, k, m1, m2, ⟨co', op', sz', rfl⟩, ⟨so', wh', oe', tw', th', nx', tk', os', wa', wf', rfl⟩, i3, i4, i5, i6, ⟨j1, j2, j3, j4, j5, j6, j7, j8, j9⟩, i8, i9, i10, i11, i12⟩ := hi
  have w1 : wa' wt = 30 := ((i9.2.2 wt (by omega)).1).trans upd_e
  have hst := vs_close B2 j2 i4 i5 (by omega) (Or.inr ⟨wt, rfl, Or.inl w1⟩) (by omega) (by omega)
  have first : VSteps 1 1 (mkV h 0 (-1) (ftk n fM) (nI a) (nI o) (nI nd) (nI oc) (nI wt) so wh oe tw th nx tk os wa wf) 1 _ := vs_one rfl (show vStep 1 _ = _ from (if_neg (by decide)).trans (bv_round B2 (by omega) hk ho (by omega)))
  by_cases hk' : K a' = 41
  · have ha1 := kz_lt B1 hk' (by decide)
    rw [cb_round B2 j2 w1 hk' (by omega) (by omega)] at hst
    refine ⟨0, _, by rw [b1S (w_closing B1 j2 hk')], Or.inl ⟨a' + 1, l', nd', fC', fM', N, 1 + j + 1, 0, _, _, ⟨_, _, _, rfl⟩, ⟨_, _, _, _, _, _, _, _, _, _, rfl⟩, vs_trans (vs_trans first i3) (vs_one i4.1 hst), ⟨rfl, rfl, samev⟩, sst_refl, by have := sth_le (K (a' + 1)); omega, ⟨by omega, by omega, by omega, by omega, by omega, by omega, by omega, by omega, by omega⟩, i8, ⟨i9.1, i9.2.1, fun i hi => ?_⟩, i10, ?_, bi_low i12 (by omega)⟩⟩
    · obtain ⟨q1, q2⟩ := i9.2.2 i (by omega)
      exact ⟨q1.trans (upd_n (by omega)), q2.trans (upd_n (by omega))⟩
    · intro G H hG hH
      obtain ⟨c1, c2⟩ := i11 G H hG hH
      refine ⟨c1, fun hf G' H' F len nn hF hl1 hn1 w x hw hx => ?_⟩
      obtain ⟨z, hz, hcv⟩ := c2 hf G' H' F len nn hF hl1 hn1 w x (by omega) (by omega)
      exact ⟨z, by omega, cv_up (by omega) hcv⟩
  · rw [cb_bad B2 j2 (by omega) (by omega) (Or.inl ⟨w1, hk'⟩)] at hst
    exact ⟨0, _, by rw [b1S (w_closingN B1 j2 hk')], Or.inr ⟨3, nI (p a'), 1 + j + 1, _, _, cb_mkW B' (by decide) (by omega), vs_trans (vs_trans first i3) (vs_one i4.1 hst), mb_mono (mb_V B' (by decide) j2 (by omega) (by omega)) (by omega), by omega⟩⟩
end VC
