/-! Elements, calls without values, pairs. -/
theorem b2_b1 {o : Option St} {x : Int32} {β : Type} {f : Int32 → St → Option β} : b2 (b1 o (fun u => some (x, u))) f = b1 o (fun u => f x u) := by cases o <;> rfl
theorem strict_of {k : Int32} (h : 0 < sth k) (h1 : ¬ k = 294) (h2 : ¬ k = 380) : strict k := by
  unfold sth at h
  unfold strict
  by_cases a1 : k = 37
  · simp [a1]
  by_cases a2 : k = 42
  · simp [a2]
  by_cases a3 : k = 43
  · simp [a3]
  by_cases a4 : k = 45
  · simp [a4]
  by_cases a5 : k = 47
  · simp [a5]
  by_cases a6 : k = 60
  · simp [a6]
  by_cases a7 : k = 62
  · simp [a7]
  by_cases a8 : k = 289
  · simp [a8]
  by_cases a9 : k = 316
  · simp [a9]
  by_cases b1 : k = 317
  · simp [b1]
  by_cases b2 : k = 318
  · simp [b2]
  rw [if_neg a1, if_neg a2, if_neg a3, if_neg a4, if_neg a5, if_neg a6, if_neg a7, if_neg a8, if_neg h1, if_neg a9, if_neg b1, if_neg b2, if_neg h2] at h
  omega
theorem strict_ne {k : Int32} (h : strict k) : ¬ (k = 13 ∨ k = 14 ∨ k = 15) := by
  unfold strict at h
  rcases h with h | h | h | h | h | h | h | h | h | h | h <;> rw [h] <;> decide
theorem agc_sub {C G : Nat → Nat → Int32} {l l' k k' : Nat} (h : AgC C G l l') (h1 : l ≤ k) (h2 : k' ≤ l') : AgC C G k k' := fun i a b => h i (by omega) (by omega)
theorem agc_tr {C C1 G : Nat → Nat → Int32} {l l' : Nat} (h1 : AgC C C1 l l') (h2 : AgC C1 G l l') : AgC C G l l' := fun i a b => by
  obtain ⟨q1, q2, q3⟩ := h1 i a b
  obtain ⟨r1, r2, r3⟩ := h2 i a b
  exact ⟨r1.trans q1, r2.trans q2, r3.trans q3⟩
theorem agn_sub {M M1 H : Nat → Nat → Int32} {nd nd' k k' N N' : Nat} (h1 : AgN M M1 k k' N) (h : AgN M1 H nd nd' N') (a1 : nd ≤ k) (a2 : k' ≤ nd') (hN : ¬ (k ≤ N' ∧ N' < k') ∨ N' = N) : AgN M H k k' N := fun i a b => by
  obtain ⟨q1, q2, q3, q4, q5, q6, q7⟩ := h1 i a b
  obtain ⟨r1, r2, r3, r4, r5, r6, r7⟩ := h i (by omega) (by omega)
  exact ⟨r1.trans q1, r2.trans q2, r3.trans q3, r4.trans q4, r5.trans q5, r6.trans q6, fun hi => (r7 (by omega)).trans (q7 hi)⟩
theorem vq_keep {n : Nat} {K : Nat → Int32} {C M C1 M1 : Nat → Nat → Int32} {f f1 a a' o l l' nd nd' N vc : Nat} (h : VQ n K C M f a a' o l l' nd nd' N vc) (hC : AgC C C1 l l') (hM : AgN M M1 nd nd' N) (hf : f1 ≤ f) : VQ n K C1 M1 f1 a a' o l l' nd nd' N vc := fun G H hG hH => by
  obtain ⟨c1, c2⟩ := h G H (agc_tr hC hG) (agn_sub hM hH (Nat.le_refl _) (Nat.le_refl _) (Or.inr rfl))
  exact ⟨c1, fun hn => c2 (by omega)⟩
theorem nh_keep {M M1 : Nat → Nat → Int32} {nd nd' N t : Nat} (h : AgN M M1 nd nd' N) : NH M1 nd nd' t ↔ NH M nd nd' t := nh_congr fun i a b => ⟨(h i a b).1, (h i a b).2.2.2.2.1, (h i a b).2.2.2.2.2.1⟩
/-- two values and the sign between them -/
theorem vq_pair {n : Nat} {K : Nat → Int32} {C1 M1 C2 M2 C3 M3 : Nat → Nat → Int32} {f1 f2 a a' a2 o l l' l1 l2 nd n1 n2 N1 N2 vc : Nat} {s : Int32} (h1 : VQ n K C1 M1 f1 a a' o l l' nd n1 N1 vc) (h2 : VQ n K C2 M2 f2 (a' + 1) a2 (o + 1) l1 l2 n1 n2 N2 vc) (hf : f2 ≤ f1) (ho1 : 1 ≤ o) (ho : o < 12) (ha : a < a') (ha2 : a' + 1 < a2) (hl : l < l') (hl2 : l1 < l2) (hN1 : nd ≤ N1 ∧ N1 < n1) (hN2 : n1 ≤ N2 ∧ N2 < n2)
    (k1 : AgC C1 C3 l l') (k2 : AgC C2 C3 l1 l2) (k3 : AgN M1 M3 nd n1 N1) (k4 : AgN M2 M3 n1 n2 N2) (k5 : M3 20 n2 = 7 ∧ M3 21 n2 = s ∧ M3 22 n2 = nI N1 ∧ M3 23 n2 = nI N2)
    (k6 : (l1 = l' ∧ C3 6 l2 = s ∧ strict s) ∨ (l1 = l' + 1 ∧ (s = 294 ∨ s = 380) ∧ C3 6 l' = s ∧ C3 7 l' = nI (l2 + 1) ∧ C3 6 l2 = 18)) :
    VQ n K C3 M3 f2 a a2 o l (l2 + 1) nd (n2 + 1) n2 vc := by
  intro G H hG hH
  have hl1 : l' ≤ l1 := by rcases k6 with k | k <;> omega
  obtain ⟨c1, c1'⟩ := h1 G H (agc_tr k1 (agc_sub hG (by omega) (by omega))) (agn_sub k3 hH (by omega) (by omega) (Or.inl (by omega)))
  obtain ⟨c2, c2'⟩ := h2 G H (agc_tr k2 (agc_sub hG (by omega) (by omega))) (agn_sub k4 hH (by omega) (by omega) (Or.inl (by omega)))
  obtain ⟨d20, d21, d22, d23, -⟩ := hH n2 (by omega) (by omega)
  obtain ⟨k51, k52, k53, k54⟩ := k5
  rw [k51] at d20; rw [k52] at d21; rw [k53] at d22; rw [k54] at d23
  obtain ⟨e6, -⟩ := hG l2 (by omega) (by omega)
  have hnn : ¬ (H 20 n2 = 4 ∨ H 20 n2 = 5 ∨ H 20 n2 = 12) := by rw [d20]; decide
  have hmid : ∀ x t k, CE G l' l1 x t k ↔ NE K H n1 n1 x t k := by
    rcases k6 with ⟨q1, -⟩ | ⟨q1, q2, q3, -⟩
    · intro x t k; rw [q1]; exact ⟨fun e => absurd e ce_empty, fun e => absurd e ne_empty⟩
    · rw [q1]
      refine cene_c ?_
      rw [(hG l' (by omega) (by omega)).1, q3]
      rcases q2 with q2 | q2 <;> rw [q2] <;> decide
  have hlast : ¬ (G 6 l2 = 13 ∨ G 6 l2 = 14 ∨ G 6 l2 = 15) := by
    rw [e6]
    rcases k6 with ⟨-, q2, q3⟩ | ⟨-, -, -, -, q2⟩
    · rw [q2]; exact strict_ne q3
    · rw [q2]; decide
  refine ⟨cene_app (cene_app (cene_app c1 hmid (by omega) hl1 (by omega) (by omega)) c2 (by omega) (by omega) (by omega) (by omega)) (cene_none hlast hnn) (by omega) (by omega) (by omega) (by omega), fun hf2 G' H' F len nn hF hlen hnn' w x hw hx => ?_⟩
  obtain ⟨z1, hz1, hv1⟩ := c1' (by omega) G' H' F len nn hF (by omega) (by omega) w x (by omega) (by omega)
  obtain ⟨D, hD⟩ : ∃ D, (a2 - a + 1) / 2 + (13 - o) = D + 1 := ⟨(a2 - a + 1) / 2 + (13 - o) - 1, by omega⟩
  have hc2 := c2' hf2 G' H' F len nn hF (by omega) (by omega)
  obtain ⟨f1', f2', f3', -⟩ := hF
  obtain ⟨i20, i21, i22, i23, -⟩ := f3' n2 (by omega)
  rw [d20] at i20; rw [d21] at i21; rw [d22] at i22; rw [d23] at i23
  obtain ⟨g6, -⟩ := f2' l2 (by omega)
  rw [hD]
  rcases k6 with ⟨q1, q2, q3⟩ | ⟨q1, q2, q3, q4, q5⟩
  · obtain ⟨z2, hz2, hv2⟩ := hc2 (w + 1) (x + 1) (by omega) (by omega)
    refine ⟨z1 + z2 + 3, by omega, ⟨by omega, f1'⟩, by omega, by omega, by omega, by omega, Or.inr (Or.inr (Or.inr (Or.inr (Or.inr (Or.inr (Or.inl ⟨i20, N1, N2, l', l2, z1, z2, rfl, rfl, i22, i23, cv_up (by omega) hv1, ?_, by rw [g6, e6, q2, i21], by rw [i21]; exact q3⟩))))))⟩
    rw [← q1]; exact cv_up (by omega) hv2
  · obtain ⟨z2, hz2, hv2⟩ := hc2 w (x + 1) (by omega) (by omega)
    obtain ⟨r6, r7⟩ := f2' l' (by omega)
    obtain ⟨s6, s7, -⟩ := hG l' (by omega) (by omega)
    rw [q3] at s6; rw [q4] at s7
    have r7' := r7 (by rw [s6]; rcases q2 with q2 | q2 <;> rw [q2] <;> decide)
    refine ⟨z1 + z2 + 3, by omega, ⟨by omega, f1'⟩, by omega, by omega, by omega, by omega, Or.inr (Or.inr (Or.inr (Or.inr (Or.inr (Or.inr (Or.inr ⟨i20, N1, N2, l', l2, z1, z2, rfl, rfl, i22, i23, cv_up (by omega) hv1, by rw [r6, s6, i21], by rw [r7', s7], ?_, by rw [g6, e6, q5], by rw [i21]; exact q2⟩))))))⟩
    rw [← q1]; exact cv_up (by omega) hv2
theorem bi_hide {ag : Prop} {a fC fM : Nat} {hc hm : Int32} (h : ag → hc = hm) : BI ag a fC (if hc = -1 then fC else min fC a) fM fM (fun t => ¬ hm = -1 ∧ t = a) := by
  by_cases e : hc = -1
  · rw [if_pos e]
    refine ⟨a + fC + fM, a + fC + fM, by omega, by omega, by omega, by omega, fun t ht => by omega, fun hg => ⟨Nat.le_refl _, fun t ht => ?_, Or.inl rfl⟩⟩
    exact absurd (by rw [← h hg]; exact e) ht.1
  · rw [if_neg e]
    refine ⟨a, a + fC + fM, by omega, by omega, rfl, by omega, fun t ht => by omega, fun hg => ⟨by omega, fun t ht => by omega, Or.inr ⟨by rw [← h hg]; exact e, rfl⟩⟩⟩
/-- a name that is not there -/
theorem bi_use {ag : Prop} {a fC fM : Nat} {hc hm : Int32} {S : Nat → Prop} (h : ag → hc = hm) (hS : ∀ t, ¬ S t) : BI ag a fC (if hc = -1 then min fC a else fC) fM (if hm = -1 then min fM a else fM) S := by
  refine ⟨if hc = -1 then a else a + fC + fM, if hm = -1 then a else a + fC + fM, by split <;> omega, by split <;> omega, by split <;> omega, by split <;> omega, fun t ht => absurd ht (hS t), fun hg => ?_⟩
  rw [h hg]
  exact ⟨Nat.le_refl _, fun t ht => absurd ht (hS t), Or.inl rfl⟩
theorem neg1_nle : ¬ (0 : Int32) ≤ -1 := by decide
section VD
variable {n : Nat} {K : Nat → Int32} {p : Nat → Nat} {V : Nat → Int64} {g h : St} {tv : Nat → Nat} {vc vm ar : Nat} {ag : Prop} {co op sz so wh oe tw th nx tk os wa wf : Nat → Int32} {fC fM a o l nd oc wt : Nat}
theorem bs_fnd {x : Int64} (B : Bs n K p V g h tv vc vm ar ag) (hg : ag) : fnd (g.2.2.2 1) vc x = fnd (fun i => V (tv i)) vm x := by
  obtain ⟨e1, e2⟩ := B.2.2.2.2.1 hg
  rw [← e1]
  exact fnd_congr e2
theorem fnd_nneg {N : Nat → Int64} {x : Int64} {k : Nat} (hk : k ≤ 1000) (h : ¬ fnd N k x = -1) : (0 : Int32) ≤ fnd N k x := by
  rcases fnd_or N x k with h1 | ⟨i, h1, h2⟩
  · exact absurd h1 h
  · rw [h2]; exact nI_le0 (by omega)
/-- the hidden ones, with one node more that looks a name up -/
theorem nh_app {M : Nat → Nat → Int32} {nd nd' s : Nat} {hm : Int32} (h1 : nd ≤ nd') (h2 : M 20 nd' = 4 ∨ M 20 nd' = 5) (h3 : M 24 nd' = hm) (h4 : M 26 nd' = nI s) (hs : s < 1000) (hm0 : 0 ≤ hm ↔ ¬ hm = -1) : ∀ t, NH M nd (nd' + 1) t ↔ (¬ hm = -1 ∧ t = s) ∨ NH M nd nd' t := by
  intro t
  rw [nh_split (m := nd') h1 (by omega)]
  constructor
  · rintro (e | ⟨i, e1, e2, e3, e4, e5, e6⟩)
    · exact Or.inr e
    · obtain rfl : i = nd' := by omega
      rw [h3] at e4
      rw [h4] at e5
      exact Or.inl ⟨hm0.mp e4, (nI_inj (by omega) (by omega) e5).symm⟩
  · rintro (⟨e1, rfl⟩ | e)
    · exact Or.inr ⟨nd', Nat.le_refl _, by omega, by rcases h2 with h2 | h2; exact Or.inl h2; exact Or.inr (Or.inl h2), by rw [h3]; exact hm0.mpr e1, h4, hs⟩
    · exact Or.inl e
theorem fnd_iff {N : Nat → Int64} {x : Int64} {k : Nat} (hk : k ≤ 1000) : 0 ≤ fnd N k x ↔ ¬ fnd N k x = -1 := ⟨fun e h => by rw [h] at e; exact neg1_nle e, fnd_nneg hk⟩
/-- an element: its end -/
theorem vok_elem {c2 : St} (B : Bs n K p V g h tv vc vm ar ag) (ho1 : 1 ≤ o) (ho : o < 12) (hk : K a = 1) (hk1 : K (a + 1) = 91) (ha : a + 1 < n) (hl : l ≤ 2 * a) (hnd : nd ≤ a) (hoc : oc ≤ 12) (hwt : wt ≤ 12)
    (hi : VOk n K p g h (mkW g 0 (-1) (wn n p (if fnd (g.2.2.2 1) vc (V a) = -1 then fC else min fC a)) (nI (a + 2)) (nI (o + 1)) (nI l) co op sz) (mkV h 0 (-1) (ftk n fM) (nI (a + 2)) (nI (o + 1)) (nI nd) (nI oc) (nI (wt + 1)) so wh oe tw th nx tk os (upd wa wt 33) (upd wf wt (nI a))) c2 1 (if fnd (g.2.2.2 1) vc (V a) = -1 then fC else min fC a) fM (a + 2) (o + 1) l nd oc (wt + 1) vc ag 1) :
    VRes n K p g h (mkW g 0 (-1) (wn n p fC) (nI a) (nI o) (nI l) co op sz) (mkV h 0 (-1) (ftk n fM) (nI a) (nI o) (nI nd) (nI oc) (nI wt) so wh oe tw th nx tk os wa wf) 1 fC fM a o l nd oc wt vc ag 7 (b1 (tCursor_passClosing c2 93) (fun u5 => b1 (tProgram_add u5 13 (nI a) 0) (fun u13 => some (0, u13)))) := by
  have B' := B
  obtain ⟨B1, B2, B3, B4, B5, B6, B7, B8⟩ := B
  have hn := B2.1.1
  have hvm := B4.2.1
  obtain ⟨a', l', nd', fC', fM', N, j, k, m1, m2, ⟨co', op', sz', rfl⟩, ⟨so', wh', oe', tw', th', nx', tk', os', wa', wf', rfl⟩, i3, i4, i5, i6, ⟨j1, j2, j3, j4, j5, j6, j7, j8, j9⟩, i8, i9, i10, i11, i12⟩ := hi
  have w1 : wa' wt = 33 := ((i9.2.2 wt (by omega)).1).trans upd_e
  have w2 : wf' wt = nI a := ((i9.2.2 wt (by omega)).2).trans upd_e
  have hos : os' oc = nI N := i10
  have hst := vs_close B2 j2 i4 i5 (by omega) (Or.inr ⟨wt, rfl, Or.inr (Or.inl w1)⟩) (by omega) (by omega)
  have first : VSteps 1 1 (mkV h 0 (-1) (ftk n fM) (nI a) (nI o) (nI nd) (nI oc) (nI wt) so wh oe tw th nx tk os wa wf) 1 _ := vs_one rfl (show vStep 1 _ = _ from (if_neg (by decide)).trans (bv_index B2 (by omega) hk hk1 ho (by omega)))
  by_cases hk' : K a' = 93
  · have ha1 := kz_lt B1 hk' (by decide)
    rw [cb_index B2 B4 j2 w1 w2 (by omega) hk hk' (by omega) (by omega) (by omega)] at hst
    refine ⟨0, _, by rw [b1S (w_closing B1 j2 hk'), b1S (w_add (by omega))], Or.inl ⟨a' + 1, l' + 1, nd' + 1, fC', fM', nd', 1 + j + 1, 0, _, _, ⟨_, _, _, rfl⟩, ⟨_, _, _, _, _, _, _, _, _, _, rfl⟩, vs_trans (vs_trans first i3) (vs_one i4.1 hst), ⟨rfl, rfl, samev⟩, sst_refl, by have := sth_le (K (a' + 1)); omega, ⟨by omega, by omega, by omega, by omega, by omega, by omega, by omega, by omega, by omega⟩, ?_, ?_, upd_e, ?_, ?_⟩⟩
    · intro i hi
      obtain ⟨q1, q2, q3⟩ := i8 i hi
      exact ⟨(upd_n (by omega)).trans q1, (upd_n (by omega)).trans q2, (upd_n (by omega)).trans q3⟩
    · refine ⟨fun i hi => ?_, fun i hi => ?_, fun i hi => ?_⟩
      · obtain ⟨q1, q2, q3, q4, q5, q6, q7⟩ := i9.1 i hi
        exact ⟨(upd_n (by omega)).trans q1, (upd_n (by omega)).trans q2, (upd_n (by omega)).trans q3, (upd_n (by omega)).trans q4, ((upd_n (by omega)).trans (upd_n (by omega))).trans q5, (upd_n (by omega)).trans q6, ((upd_n (by omega)).trans (upd_n (by omega))).trans q7⟩
      · exact (upd_n (by omega)).trans (i9.2.1 i hi)
      · obtain ⟨q1, q2⟩ := i9.2.2 i (by omega)
        exact ⟨q1.trans (upd_n (by omega)), q2.trans (upd_n (by omega))⟩
    · intro G H hG hH
      have hG1 : AgC (mkW g 0 (-1) (wn n p fC') (nI a') (nI (o + 1)) (nI l') co' op' sz').2.2.1 G l l' := fun i h1 h2 => by
        obtain ⟨q1, q2, q3⟩ := hG i h1 (by omega)
        exact ⟨q1.trans (upd_n (by omega)), q2.trans (upd_n (by omega)), q3.trans (upd_n (by omega))⟩
      have hH1 : AgN (mkV h 0 (-1) (ftk n fM') (nI a') (nI (o + 1)) (nI nd') (nI (oc + 1)) (nI (wt + 1)) so' wh' oe' tw' th' nx' tk' os' wa' wf').2.2.1 H nd nd' N := fun i h1 h2 => by
        obtain ⟨q1, q2, q3, q4, q5, q6, q7⟩ := hH i h1 (by omega)
        exact ⟨q1.trans (upd_n (by omega)), q2.trans (upd_n (by omega)), q3.trans (upd_n (by omega)), q4.trans (upd_n (by omega)), q5.trans ((upd_n (by omega)).trans (upd_n (by omega))), q6.trans ((upd_n (by omega)).trans (upd_n (by omega))), fun _ => (q7 (by omega)).trans (upd_n (by omega))⟩
      obtain ⟨c1, c2⟩ := i11 G H hG1 hH1
      obtain ⟨g6, g7, -⟩ := hG l' (by omega) (by omega)
      obtain ⟨h20, h21, h22, -, -, h26, -⟩ := hH nd' (by omega) (by omega)
      replace g6 : G 6 l' = 13 := g6.trans upd_e
      replace g7 : G 7 l' = nI a := g7.trans upd_e
      replace h20 : H 20 nd' = 4 := h20.trans upd_e
      replace h22 : H 22 nd' = nI N := (h22.trans upd_e).trans hos
      replace h26 : H 26 nd' = nI a := h26.trans upd_e
      refine ⟨cene_app c1 (cene_elem (Or.inl g6) (Or.inl h20) g7 h26 ⟨by omega, hk⟩) (by omega) (by omega) (by omega) (by omega), fun hf G' H' F len nn hF hl1 hn1 w x hw hx => ?_⟩
      obtain ⟨z, hz, hcv⟩ := c2 hf G' H' F len nn hF (by omega) (by omega) w x (by omega) (by omega)
      obtain ⟨f1, f2, f3, f4, f5⟩ := hF
      obtain ⟨e6, -⟩ := f2 l' (by omega)
      obtain ⟨i20, i21, i22, -⟩ := f3 nd' (by omega)
      rw [h20] at i20; rw [h22] at i22
      obtain ⟨D, hD⟩ : ∃ D, (a' + 1 - a + 1) / 2 + (13 - o) = D + 1 := ⟨(a' + 1 - a + 1) / 2 + (13 - o) - 1, by omega⟩
      refine ⟨z + 2, by omega, ?_⟩
      rw [hD]
      exact ⟨⟨by omega, f1⟩, by omega, by omega, by omega, by omega, Or.inr (Or.inr (Or.inr (Or.inl ⟨i20, N, l', z, rfl, rfl, i22, cv_up (by omega) hcv, e6.trans g6, f4 nd' l' a (by omega) (by omega) (by omega) (Or.inl h20) (Or.inl g6) g7 h26⟩)))⟩
    · refine bi_comp (bi_hide (hc := fnd (g.2.2.2 1) vc (V a)) (hm := fnd (fun i => V (tv i)) vm (V a)) (fun hg => bs_fnd B' hg)) i12 (by omega) fun t => ?_
      rw [nh_app (s := a) (hm := fnd (fun i => V (tv i)) vm (V a)) (by omega) (Or.inl upd_e) upd_e upd_e (by omega) (fnd_iff (by omega))]
      exact or_congr Iff.rfl (nh_congr fun i h1 h2 => ⟨upd_n (by omega), (upd_n (by omega)).trans (upd_n (by omega)), (upd_n (by omega)).trans (upd_n (by omega))⟩)
  · rw [cb_bad B2 j2 (by omega) (by omega) (Or.inr (Or.inl ⟨w1, hk'⟩))] at hst
    rw [b1S (w_closingN B1 j2 hk')]
    obtain ⟨u, hu1, hu2⟩ := kb_add (x := 13) (y := nI a) (z := 0) (cb_mkW (w := wn n p fC') (a := nI a') (o := nI o) (co := co') (op := op') (sz := sz') (q := nI (p a')) (r := 3) B' (by decide) (show l' ≤ 440 by omega))
    exact ⟨0, u, by rw [b1S hu1], Or.inr ⟨3, nI (p a'), 1 + j + 1, _, _, hu2, vs_trans (vs_trans first i3) (vs_one i4.1 hst), mb_mono (mb_V B' (by decide) j2 (by omega) (by omega)) (by omega), by omega⟩⟩
/-- a call that takes nothing along -/
theorem vok_call0 (B : Bs n K p V g h tv vc vm ar ag) (ho1 : 1 ≤ o) (ho : o < 12) (hk : K a = 1) (hk1 : K (a + 1) = 40) (hk2 : K (a + 2) = 41) (hl : l ≤ 2 * a) (hnd : nd ≤ a) (hoc : oc ≤ 12) (hwt : wt ≤ 12) :
    VOk n K p g h (mkW g 0 (-1) (wn n p fC) (nI a) (nI o) (nI l) co op sz) (mkV h 0 (-1) (ftk n fM) (nI a) (nI o) (nI nd) (nI oc) (nI wt) so wh oe tw th nx tk os wa wf) (mkW g 0 (-1) (wn n p (if fnd (g.2.2.2 1) vc (V a) = -1 then fC else min fC a)) (nI (a + 3)) (nI o) (nI (l + 1)) (upd co l 15) (upd op l (nI a)) (upd sz l 0)) 1 fC fM a o l nd oc wt vc ag 7 := by
  have B' := B
  obtain ⟨B1, B2, B3, B4, B5, B6, B7, B8⟩ := B
  have hn := B2.1.1
  have hvm := B4.2.1
  have ha2 := kz_lt B1 hk2 (by decide)
  refine ⟨a + 3, l + 1, nd + 1, _, fM, nd, 1, 0, _, _, ⟨_, _, _, rfl⟩, ⟨_, _, _, _, _, _, _, _, _, _, rfl⟩, vs_one rfl (show vStep 1 _ = _ from (if_neg (by decide)).trans (bv_call0 B2 B4 (by omega) hk hk1 hk2 ho (by omega) (by omega) (by omega))), ⟨rfl, rfl, samev⟩, sst_refl, by have := sth_le (K (a + 3)); omega, ⟨by omega, by omega, by omega, by omega, by omega, by omega, by omega, by omega, by omega⟩, fun k hk => ⟨upd_n (by omega), upd_n (by omega), upd_n (by omega)⟩, ⟨fun i hi => ⟨upd_n (by omega), upd_n (by omega), upd_n (by omega), upd_n (by omega), (upd_n (by omega)).trans (upd_n (by omega)), upd_n (by omega), (upd_n (by omega)).trans (upd_n (by omega))⟩, fun i hi => upd_n (by omega), fun i hi => ⟨upd_n (by omega), upd_n (by omega)⟩⟩, upd_e, ?_, ?_⟩
  · intro G H hG hH
    obtain ⟨g6, g7, g8⟩ := hG l (by omega) (by omega)
    obtain ⟨h20, h21, h22, h23, h24, h26, -⟩ := hH nd (by omega) (by omega)
    replace g6 : G 6 l = 15 := g6.trans upd_e
    replace g7 : G 7 l = nI a := g7.trans upd_e
    replace g8 : G 8 l = 0 := g8.trans upd_e
    replace h20 : H 20 nd = 5 := h20.trans upd_e
    replace h21 : H 21 nd = 0 := h21.trans upd_e
    replace h26 : H 26 nd = nI a := h26.trans upd_e
    refine ⟨cene_call g6 h20 g7 h26 (by rw [g8, h21]) ⟨by omega, hk⟩, fun hf G' H' F len nn hF hl hn w x hw hx' => ⟨2, by omega, ?_⟩⟩
    obtain ⟨f1, f2, f3, f4, f5⟩ := hF
    obtain ⟨e6, -⟩ := f2 l (by omega)
    obtain ⟨i20, i21, -⟩ := f3 nd (by omega)
    obtain ⟨q1, q2, q, s, q3, q4, q5⟩ := f5 nd l a 0 (by omega) (by omega) (by omega) (by omega) h20 g6 g7 h26 g8 h21
    rw [g6] at e6; rw [h20] at i20; rw [h21] at i21
    obtain ⟨D, hD⟩ : ∃ D, (a + 3 - a + 1) / 2 + (13 - o) = D + 1 := ⟨(a + 3 - a + 1) / 2 + (13 - o) - 1, by omega⟩
    rw [hD]
    exact ⟨⟨by omega, f1⟩, by omega, by omega, by omega, by omega, Or.inr (Or.inr (Or.inr (Or.inr (Or.inl ⟨i20, 0, l, fun _ => 0, fun _ => l, fun _ => 0, fun _ => 0, by omega, rfl, by omega, by omega, rfl, rfl, rfl, rfl, i21, fun h0 => absurd h0 (by omega), fun i hi => absurd hi (by omega), e6, q2, q, s, q3, q4, q5⟩))))⟩
  · refine bi_congr (bi_hide (hc := fnd (g.2.2.2 1) vc (V a)) (hm := fnd (fun i => V (tv i)) vm (V a)) (fun hg => bs_fnd B' hg)) fun t => ?_
    rw [nh_app (s := a) (hm := fnd (fun i => V (tv i)) vm (V a)) (Nat.le_refl _) (Or.inr upd_e) upd_e upd_e (by omega) (fnd_iff (by omega))]
    exact ⟨fun e => e.elim id (fun e => absurd e nh_empty), Or.inl⟩
end VD
