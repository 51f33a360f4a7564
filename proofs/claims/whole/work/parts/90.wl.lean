/-! A statement is whole: what is around it takes it up. -/
section WL
variable {n : Nat} {K : Nat → Int32} {p : Nat → Nat} {V : Nat → Int64} {h : St} {ft q O ND OC WT : Int32} {a o r A : Nat} {so wh oe tw th nx tk os wa wf : Nat → Int32}
/-- the top of what is around, seen -/
theorem wh_top {N : Nat} {x : Int32} (h42 : h.1 42 = nI (r + 1)) (hr : r < 60) (h36 : h.2.2.1 36 r = nI A) (hA : A < 500) :
    tModel_whole_L (N + 1) 1 (mkV h 0 q ft (nI a) O ND OC WT so wh oe tw th nx tk os wa wf) x 1 0 = (if so A = 10 then b1 (tModel_addLast (mkV h 0 q ft (nI a) O ND OC WT so wh oe tw th nx tk os wa wf) (nI A) x) (fun u11 => tModel_whole_L N 9 u11 x 0 0) else if so A = 13 then (if (0 : Int32) ≤ tw A then tModel_whole_L N 2 (mkV h 0 q ft (nI a) (O - 1) ND OC WT so wh oe tw th nx tk os wa wf) x (nI A) 0 else tModel_whole_L N 3 (mkV h 0 q ft (nI a) (O - 1) ND OC WT so wh oe tw th nx tk os wa wf) x (nI A) 1) else tModel_whole_L N 2 (mkV h 0 q ft (nI a) (O - 1) ND OC WT so wh oe tw th nx tk os wa wf) x (nI A) 0) := by
  show tModel_whole_b1 (tModel_whole_L N) _ x 1 0 = _
  unfold tModel_whole_b1
  rw [if_neg (by decide), mkV_i42, h42, if_neg (nI_nle (by omega) (by omega)), mkV_i29, if_pos rfl, nI_pred, gdT (inI hr (by omega)), tc_nI (by omega), mkV_r36, h36, gdT (inI hA (by omega)), tc_nI (by omega), mkV_r20, gdT (inI hA (by omega)), gdT (inI hA (by omega)), mkV_r23, mkV_i32, mkV_s32]
theorem wh_block {N : Nat} {x : Int32} (h42 : h.1 42 = nI (r + 1)) (hr : r < 60) (h36 : h.2.2.1 36 r = nI A) (hA : A < 500) (hs : so A = 10) :
    tModel_whole_L (N + 3) 1 (mkV h 0 q ft (nI a) O ND OC WT so wh oe tw th nx tk os wa wf) x 1 0 = tModel_addLast (mkV h 0 q ft (nI a) O ND OC WT so wh oe tw th nx tk os wa wf) (nI A) x := by
  rw [wh_top h42 hr h36 hA, if_pos hs]
  have e : ∀ u : St, tModel_whole_L (N + 2) 9 u x 0 0 = some u := fun u => rfl
  simp only [e, b1_id]
theorem wh_up {N : Nat} {σ : St} (hA : A < 500) (e42 : σ.1 42 = nI (r + 1)) : tModel_whole_L (N + 5) 5 σ (nI A) 0 0 = tModel_whole_L N 1 (sI σ 42 (nI r)) (nI A) 1 0 := by
  show tModel_whole_L N 1 (sI σ 42 (σ.1 42 - 1)) (nI A) 1 0 = _
  rw [e42, nI_pred]
theorem wh_while {N : Nat} {x : Int32} (h42 : h.1 42 = nI (r + 1)) (hr : r < 60) (h36 : h.2.2.1 36 r = nI A) (hA : A < 500) (hs : so A = 14) :
    tModel_whole_L (N + 9) 1 (mkV h 0 q ft (nI a) (nI (o + 1)) ND OC WT so wh oe tw th nx tk os wa wf) x 1 0 = tModel_whole_L N 1 (mkV (sI h 42 (nI r)) 0 q ft (nI a) (nI o) ND OC WT so wh oe (upd tw A x) th nx tk os wa wf) (nI A) 1 0 := by
  rw [wh_top h42 hr h36 hA, if_neg (by rw [hs]; decide), if_neg (by rw [hs]; decide), nI_pred]
  show tModel_whole_b3 (tModel_whole_L (N + 6)) _ x (nI A) 0 = _
  unfold tModel_whole_b3
  rw [gdT (inI hA (by omega)), tc_nI (by omega), mkV_r20, if_neg (by rw [hs]; decide)]
  show tModel_whole_b4 (tModel_whole_L (N + 5)) _ x (nI A) 0 = _
  unfold tModel_whole_b4
  rw [gdT (inI hA (by omega)), tc_nI (by omega), mkV_r23, mkV_t23, wh_up hA (show (mkV h 0 q ft (nI a) (nI o) ND OC WT so wh oe (upd tw A x) th nx tk os wa wf).1 42 = nI (r + 1) from h42), mkV_b42]
theorem wh_if2 {N : Nat} {x : Int32} (h42 : h.1 42 = nI (r + 1)) (hr : r < 60) (h36 : h.2.2.1 36 r = nI A) (hA : A < 500) (hs : so A = 13) (ht : (0 : Int32) ≤ tw A) :
    tModel_whole_L (N + 8) 1 (mkV h 0 q ft (nI a) (nI (o + 1)) ND OC WT so wh oe tw th nx tk os wa wf) x 1 0 = tModel_whole_L N 1 (mkV (sI h 42 (nI r)) 0 q ft (nI a) (nI o) ND OC WT so wh oe tw (upd th A x) nx tk os wa wf) (nI A) 1 0 := by
  rw [wh_top h42 hr h36 hA, if_neg (by rw [hs]; decide), if_pos hs, if_pos ht, nI_pred]
  show tModel_whole_b3 (tModel_whole_L (N + 5)) _ x (nI A) 0 = _
  unfold tModel_whole_b3
  rw [gdT (inI hA (by omega)), tc_nI (by omega), mkV_r20, if_pos hs, if_pos rfl, gdT (inI hA (by omega)), mkV_r24, mkV_t24, wh_up hA (show (mkV h 0 q ft (nI a) (nI o) ND OC WT so wh oe tw (upd th A x) nx tk os wa wf).1 42 = nI (r + 1) from h42), mkV_b42]
theorem wh_if1 {N : Nat} {x : Int32} (T : TkM h n K p V) (ha : a ≤ n) (h42 : h.1 42 = nI (r + 1)) (hr : r < 60) (h36 : h.2.2.1 36 r = nI A) (hA : A < 500) (hs : so A = 13) (ht : tw A = -1) (hk : ¬ K a = 5) :
    tModel_whole_L (N + 8) 1 (mkV h 0 q ft (nI a) (nI (o + 1)) ND OC WT so wh oe tw th nx tk os wa wf) x 1 0 = tModel_whole_L N 1 (mkV (sI h 42 (nI r)) 0 q ft (nI a) (nI o) ND OC WT so wh oe (upd tw A x) th nx tk os wa wf) (nI A) 1 0 := by
  rw [wh_top h42 hr h36 hA, if_neg (by rw [hs]; decide), if_pos hs, if_neg (by rw [ht]; decide), nI_pred]
  show tModel_whole_b3 (tModel_whole_L (N + 6)) _ x (nI A) 1 = _
  unfold tModel_whole_b3
  rw [gdT (inI hA (by omega)), tc_nI (by omega), mkV_r20, if_pos hs, if_neg (by decide)]
  show tModel_whole_b4 (tModel_whole_L (N + 5)) _ x (nI A) 1 = _
  unfold tModel_whole_b4
  rw [gdT (inI hA (by omega)), tc_nI (by omega), mkV_r23, mkV_t23]
  show tModel_whole_b5 (tModel_whole_L (N + 4)) _ (nI A) 1 0 = _
  unfold tModel_whole_b5
  rw [if_neg (by decide), b1S (v_sees T ha wd5), if_neg hk, if_pos rfl]
  show tModel_whole_L N 1 (sI _ 42 (_ - 1)) (nI A) 1 0 = _
  rw [mkV_i42, h42, nI_pred, mkV_b42]
theorem wh_else {N : Nat} {x : Int32} (T : TkM h n K p V) (ha : a ≤ n) (h42 : h.1 42 = nI (r + 1)) (hr : r < 60) (h36 : h.2.2.1 36 r = nI A) (hA : A < 500) (hs : so A = 13) (ht : tw A = -1) (hk : K a = 5) (ho : o < 12) :
    tModel_whole_L (N + 8) 1 (mkV h 0 q ft (nI a) (nI (o + 1)) ND OC WT so wh oe tw th nx tk os wa wf) x 1 0 = some (mkV h 0 q ft (nI (a + 1)) (nI (o + 1)) ND OC WT so wh oe (upd tw A x) th nx tk os wa wf) := by
  rw [wh_top h42 hr h36 hA, if_neg (by rw [hs]; decide), if_pos hs, if_neg (by rw [ht]; decide), nI_pred]
  show tModel_whole_b3 (tModel_whole_L (N + 6)) _ x (nI A) 1 = _
  unfold tModel_whole_b3
  rw [gdT (inI hA (by omega)), tc_nI (by omega), mkV_r20, if_pos hs, if_neg (by decide)]
  show tModel_whole_b4 (tModel_whole_L (N + 5)) _ x (nI A) 1 = _
  unfold tModel_whole_b4
  rw [gdT (inI hA (by omega)), tc_nI (by omega), mkV_r23, mkV_t23]
  show tModel_whole_b5 (tModel_whole_L (N + 4)) _ (nI A) 1 0 = _
  unfold tModel_whole_b5
  rw [if_neg (by decide), b1S (v_sees T ha wd5), if_pos hk, if_neg (by decide)]
  show tModel_whole_b7 (tModel_whole_L (N + 3)) _ (nI A) 0 0 = _
  unfold tModel_whole_b7
  rw [if_pos rfl, b1S (v_opens ho)]
  rfl
end WL
/-! If and while: what they make. -/
section CQ
variable {n : Nat} {K : Nat → Int32} {C1 M1 C2 M2 C3 M3 C4 M4 : Nat → Nat → Int32} {f1 f2 f3 a a' a2 a3 o l l0 l1 l2 l3 nd n1 n2 n3 N1 N2 N3 vc v2 v3 : Nat}
/-- code l .. : (a tick,) the value l0 .. l1, a jump at l1, the statement l1 + 1 .. l2 -/
theorem sq_while (h1 : VQ n K C1 M1 f1 (a + 2) a' (o + 1) (l + 1) l1 nd n1 N1 vc) (h2 : SQ n K C2 M2 f2 (a' + 1) a2 (o + 1) (l1 + 1) l2 (n1 + 1) n2 N2 vc v2) (hv2 : n < f2 → v2 = vc) (hf1 : f2 ≤ f1) (ho1 : 1 ≤ o) (ho : o < 12) (ha : a + 2 < a') (ha2 : a' + 1 < a2) (ha2n : a2 ≤ 220) (hv : vc ≤ 12) (hl : l + 1 < l1) (hl2 : l1 + 1 ≤ l2) (hN1 : nd ≤ N1 ∧ N1 < n1) (hN2 : n1 + 1 ≤ N2 ∧ N2 < n2)
    (k1 : AgC C1 C3 (l + 1) l1) (k2 : AgC C2 C3 (l1 + 1) l2) (k3 : AgN M1 M3 nd n1 N1) (k4 : AgN M2 M3 (n1 + 1) n2 N2) (k5 : M3 20 n1 = 14 ∧ M3 22 n1 = nI N1 ∧ M3 23 n1 = nI N2)
    (k6 : C3 6 l = 20 ∧ C3 6 l1 = 17 ∧ C3 7 l1 = nI (l2 + 1) ∧ C3 6 l2 = 16 ∧ C3 7 l2 = nI l) :
    SQ n K C3 M3 f2 a a2 o l (l2 + 1) nd n2 n1 vc v2 := by
  intro G H hG hH
  obtain ⟨c1, c1'⟩ := h1 G H (agc_tr k1 (agc_sub hG (by omega) (by omega))) (agn_sub k3 hH (by omega) (by omega) (Or.inl (by omega)))
  obtain ⟨c2, c2'⟩ := h2 G H (agc_tr k2 (agc_sub hG (by omega) (by omega))) (agn_sub k4 hH (by omega) (by omega) (Or.inl (by omega)))
  obtain ⟨g6, -⟩ := hG l (by omega) (by omega)
  obtain ⟨j6, j7, -⟩ := hG l1 (by omega) (by omega)
  obtain ⟨i6, i7, -⟩ := hG l2 (by omega) (by omega)
  obtain ⟨h20, h21, h22, h23, -⟩ := hH n1 (by omega) (by omega)
  rw [k6.1] at g6; rw [k6.2.1] at j6; rw [k6.2.2.1] at j7; rw [k6.2.2.2.1] at i6; rw [k6.2.2.2.2] at i7
  rw [k5.1] at h20; rw [k5.2.1] at h22; rw [k5.2.2] at h23
  have q1 : ¬ (G 6 l = 13 ∨ G 6 l = 14 ∨ G 6 l = 15) := by rw [g6]; decide
  have q2 : ¬ (G 6 l1 = 13 ∨ G 6 l1 = 14 ∨ G 6 l1 = 15) := by rw [j6]; decide
  have q3 : ¬ (G 6 l2 = 13 ∨ G 6 l2 = 14 ∨ G 6 l2 = 15) := by rw [i6]; decide
  have q4 : ¬ (H 20 n1 = 4 ∨ H 20 n1 = 5 ∨ H 20 n1 = 12) := by rw [h20]; decide
  refine ⟨?_, fun hf G' H' F len nn hF hlen hnn => ?_⟩
  · exact cene_app (cene_app (cene_app (cene_app (cene_c q1) c1 (by omega) (by omega) (by omega) (by omega)) (cene_none q2 q4) (by omega) (by omega) (by omega) (by omega)) c2 (by omega) (by omega) (by omega) (by omega)) (cene_c q3) (by omega) (by omega) (by omega) (by omega)
  · obtain ⟨z1, hz1, hv1⟩ := c1' (by omega) G' H' F len nn hF (by omega) (by omega) 0 0 (by omega) (by omega)
    obtain ⟨z2, hz2, hs2⟩ := c2' hf G' H' F len nn hF (by omega) (by omega)
    rw [hv2 hf] at hs2 ⊢
    obtain ⟨f1', f2', f3', -⟩ := hF
    obtain ⟨r6, r7⟩ := f2' l (by omega)
    obtain ⟨s6, s7⟩ := f2' l1 (by omega)
    obtain ⟨t6, t7⟩ := f2' l2 (by omega)
    replace s7 := s7 q2
    replace t7 := t7 q3
    obtain ⟨i20, i21, i22, i23, -⟩ := f3' n1 (by omega)
    obtain ⟨D, hD⟩ : ∃ D, (a2 - a + 1) / 2 + (14 - o) = D + 1 := ⟨(a2 - a + 1) / 2 + (14 - o) - 1, by omega⟩
    rw [hD]
    exact ⟨z1 + z2 + 3, by omega, ⟨by omega, f1'⟩, by omega, by omega, hv, hv, Or.inr (Or.inr (Or.inr (Or.inr (Or.inl ⟨i20.trans h20, rfl, N1, N2, l1, l2, z1, z2, rfl, rfl, by omega, i22.trans h22, i23.trans h23, r6.trans g6, cv_up (by omega) hv1, s6.trans j6, s7.trans j7, cs_up (by omega) hs2, t6.trans i6, t7.trans i7⟩))))⟩
theorem sq_if (h1 : VQ n K C1 M1 f1 (a + 2) a' (o + 1) l l1 nd n1 N1 vc) (h2 : SQ n K C2 M2 f2 (a' + 1) a2 (o + 1) (l1 + 1) l2 (n1 + 1) n2 N2 vc v2) (hv2 : n < f2 → v2 = vc) (hf1 : f2 ≤ f1) (ho1 : 1 ≤ o) (ho : o < 12) (ha : a + 2 < a') (ha2 : a' + 1 < a2) (hv : vc ≤ 12) (hl : l < l1) (hl2 : l1 + 1 ≤ l2) (hN1 : nd ≤ N1 ∧ N1 < n1) (hN2 : n1 + 1 ≤ N2 ∧ N2 < n2)
    (k1 : AgC C1 C3 l l1) (k2 : AgC C2 C3 (l1 + 1) l2) (k3 : AgN M1 M3 nd n1 N1) (k4 : AgN M2 M3 (n1 + 1) n2 N2) (k5 : M3 20 n1 = 13 ∧ M3 22 n1 = nI N1 ∧ M3 23 n1 = nI N2 ∧ M3 24 n1 = -1) (k6 : C3 6 l1 = 17 ∧ C3 7 l1 = nI l2) :
    SQ n K C3 M3 f2 a a2 o l l2 nd n2 n1 vc v2 := by
  intro G H hG hH
  obtain ⟨c1, c1'⟩ := h1 G H (agc_tr k1 (agc_sub hG (by omega) (by omega))) (agn_sub k3 hH (by omega) (by omega) (Or.inl (by omega)))
  obtain ⟨c2, c2'⟩ := h2 G H (agc_tr k2 (agc_sub hG (by omega) (by omega))) (agn_sub k4 hH (by omega) (by omega) (Or.inl (by omega)))
  obtain ⟨j6, j7, -⟩ := hG l1 (by omega) (by omega)
  obtain ⟨h20, h21, h22, h23, h24, -⟩ := hH n1 (by omega) (by omega)
  rw [k6.1] at j6; rw [k6.2] at j7
  rw [k5.1] at h20; rw [k5.2.1] at h22; rw [k5.2.2.1] at h23; rw [k5.2.2.2] at h24
  have q2 : ¬ (G 6 l1 = 13 ∨ G 6 l1 = 14 ∨ G 6 l1 = 15) := by rw [j6]; decide
  have q4 : ¬ (H 20 n1 = 4 ∨ H 20 n1 = 5 ∨ H 20 n1 = 12) := by rw [h20]; decide
  refine ⟨?_, fun hf G' H' F len nn hF hlen hnn => ?_⟩
  · exact cene_app (cene_app c1 (cene_none q2 q4) (by omega) (by omega) (by omega) (by omega)) c2 (by omega) (by omega) (by omega) (by omega)
  · obtain ⟨z1, hz1, hv1⟩ := c1' (by omega) G' H' F len nn hF (by omega) (by omega) 0 0 (by omega) (by omega)
    obtain ⟨z2, hz2, hs2⟩ := c2' hf G' H' F len nn hF (by omega) (by omega)
    rw [hv2 hf] at hs2 ⊢
    obtain ⟨f1', f2', f3', -⟩ := hF
    obtain ⟨s6, s7⟩ := f2' l1 (by omega)
    replace s7 := s7 q2
    obtain ⟨i20, i21, i22, i23, -, i24⟩ := f3' n1 (by omega)
    obtain ⟨D, hD⟩ : ∃ D, (a2 - a + 1) / 2 + (14 - o) = D + 1 := ⟨(a2 - a + 1) / 2 + (14 - o) - 1, by omega⟩
    rw [hD]
    exact ⟨z1 + z2 + 0 + 3, by omega, ⟨by omega, f1'⟩, by omega, by omega, hv, hv, Or.inr (Or.inr (Or.inr (Or.inl ⟨i20.trans h20, rfl, N1, N2, l1, l2, z1, z2, 0, rfl, i22.trans h22, i23.trans h23, cv_up (by omega) hv1, s6.trans j6, cs_up (by omega) hs2, Or.inl ⟨(i24 h20).trans h24, rfl, s7.trans j7⟩⟩)))⟩
theorem sq_else (h1 : VQ n K C1 M1 f1 (a + 2) a' (o + 1) l l1 nd n1 N1 vc) (h2 : SQ n K C2 M2 f2 (a' + 1) a2 (o + 1) (l1 + 1) l2 (n1 + 1) n2 N2 vc v2) (h3 : SQ n K C3 M3 f3 (a2 + 1) a3 (o + 1) (l2 + 1) l3 n2 n3 N3 v2 v3) (hv2 : n < f2 → v2 = vc) (hv3 : n < f3 → v3 = v2) (hf1 : f2 ≤ f1) (hf2 : f3 ≤ f2) (ho1 : 1 ≤ o) (ho : o < 12) (ha : a + 2 < a') (ha2 : a' + 1 < a2) (ha3 : a2 + 1 < a3) (hv : vc ≤ 12) (hl : l < l1) (hl2 : l1 + 1 ≤ l2) (hl3 : l2 + 1 ≤ l3) (hN1 : nd ≤ N1 ∧ N1 < n1) (hN2 : n1 + 1 ≤ N2 ∧ N2 < n2) (hN3 : n2 ≤ N3 ∧ N3 < n3)
    (k1 : AgC C1 C4 l l1) (k2 : AgC C2 C4 (l1 + 1) l2) (k2' : AgC C3 C4 (l2 + 1) l3) (k3 : AgN M1 M4 nd n1 N1) (k4 : AgN M2 M4 (n1 + 1) n2 N2) (k4' : AgN M3 M4 n2 n3 N3) (k5 : M4 20 n1 = 13 ∧ M4 22 n1 = nI N1 ∧ M4 23 n1 = nI N2 ∧ M4 24 n1 = nI N3) (k6 : C4 6 l1 = 17 ∧ C4 7 l1 = nI (l2 + 1) ∧ C4 6 l2 = 16 ∧ C4 7 l2 = nI l3) :
    SQ n K C4 M4 f3 a a3 o l l3 nd n3 n1 vc v3 := by
  intro G H hG hH
  obtain ⟨c1, c1'⟩ := h1 G H (agc_tr k1 (agc_sub hG (by omega) (by omega))) (agn_sub k3 hH (by omega) (by omega) (Or.inl (by omega)))
  obtain ⟨c2, c2'⟩ := h2 G H (agc_tr k2 (agc_sub hG (by omega) (by omega))) (agn_sub k4 hH (by omega) (by omega) (Or.inl (by omega)))
  obtain ⟨c3, c3'⟩ := h3 G H (agc_tr k2' (agc_sub hG (by omega) (by omega))) (agn_sub k4' hH (by omega) (by omega) (Or.inl (by omega)))
  obtain ⟨j6, j7, -⟩ := hG l1 (by omega) (by omega)
  obtain ⟨i6, i7, -⟩ := hG l2 (by omega) (by omega)
  obtain ⟨h20, h21, h22, h23, h24, -⟩ := hH n1 (by omega) (by omega)
  rw [k6.1] at j6; rw [k6.2.1] at j7; rw [k6.2.2.1] at i6; rw [k6.2.2.2] at i7
  rw [k5.1] at h20; rw [k5.2.1] at h22; rw [k5.2.2.1] at h23; rw [k5.2.2.2] at h24
  have q2 : ¬ (G 6 l1 = 13 ∨ G 6 l1 = 14 ∨ G 6 l1 = 15) := by rw [j6]; decide
  have q3 : ¬ (G 6 l2 = 13 ∨ G 6 l2 = 14 ∨ G 6 l2 = 15) := by rw [i6]; decide
  have q4 : ¬ (H 20 n1 = 4 ∨ H 20 n1 = 5 ∨ H 20 n1 = 12) := by rw [h20]; decide
  refine ⟨?_, fun hf G' H' F len nn hF hlen hnn => ?_⟩
  · exact cene_app (cene_app (cene_app (cene_app c1 (cene_none q2 q4) (by omega) (by omega) (by omega) (by omega)) c2 (by omega) (by omega) (by omega) (by omega)) (cene_c q3) (by omega) (by omega) (by omega) (by omega)) c3 (by omega) (by omega) (by omega) (by omega)
  · obtain ⟨z1, hz1, hv1⟩ := c1' (by omega) G' H' F len nn hF (by omega) (by omega) 0 0 (by omega) (by omega)
    obtain ⟨z2, hz2, hs2⟩ := c2' (by omega) G' H' F len nn hF (by omega) (by omega)
    obtain ⟨z3, hz3, hs3⟩ := c3' hf G' H' F len nn hF (by omega) (by omega)
    rw [hv2 (by omega)] at hs2
    rw [hv3 hf, hv2 (by omega)] at hs3 ⊢
    obtain ⟨f1', f2', f3', -⟩ := hF
    obtain ⟨s6, s7⟩ := f2' l1 (by omega)
    obtain ⟨t6, t7⟩ := f2' l2 (by omega)
    replace s7 := s7 q2
    replace t7 := t7 q3
    obtain ⟨i20, i21, i22, i23, -, i24⟩ := f3' n1 (by omega)
    obtain ⟨D, hD⟩ : ∃ D, (a3 - a + 1) / 2 + (14 - o) = D + 1 := ⟨(a3 - a + 1) / 2 + (14 - o) - 1, by omega⟩
    rw [hD]
    exact ⟨z1 + z2 + z3 + 3, by omega, ⟨by omega, f1'⟩, by omega, by omega, hv, hv, Or.inr (Or.inr (Or.inr (Or.inl ⟨i20.trans h20, rfl, N1, N2, l1, l2, z1, z2, z3, rfl, i22.trans h22, i23.trans h23, cv_up (by omega) hv1, s6.trans j6, cs_up (by omega) hs2, Or.inr ⟨N3, (i24 h20).trans h24, by omega, t6.trans i6, t7.trans i7, s7.trans j7, cs_up (by omega) hs3⟩⟩)))⟩
end CQ
