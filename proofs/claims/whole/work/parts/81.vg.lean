/-! Every value, by what it begins with. -/
section VG
variable {n : Nat} {K : Nat → Int32} {p : Nat → Nat} {V : Nat → Int64} {g h : St} {tv : Nat → Nat} {vc vm ar : Nat} {ag : Prop} {co op sz so wh oe tw th nx tk os wa wf : Nat → Int32} {fC fM a o l nd oc wt d : Nat}
theorem vres_wrap {c m : St} {b : Int32} {lim : Nat} {res : Option (Int32 × St)} (h1 : VRes n K p g h c m b fC fM a o l nd oc wt vc ag lim res) : VRes n K p g h c m b fC fM a o l nd oc wt vc ag lim (b2 res (fun _ u => some (0, u))) := by
  obtain ⟨x, c', e, h2⟩ := h1
  exact ⟨0, c', by rw [b2S e], h2⟩
theorem w_number {r q w : Int32} (T : TkC g n K p V) (ha : a < n) : tCursor_number (mkW g r q w (nI a) (nI o) (nI l) co op sz) = some ((V a).toInt32) := by
  unfold tCursor_number
  rw [mkW_i6, b1S (w_value T ha)]
/-- a refusal on both sides at the first turn -/
theorem vres_bad1 {c' : St} {lim : Nat} {r q x : Int32} {k : Nat} {m' : St} {res : Option (Int32 × St)} (h1 : KB2 g n r q res) (h2 : tModel_beginValue (mkV h 0 (-1) (ftk n fM) (nI a) (nI o) (nI nd) (nI oc) (nI wt) so wh oe tw th nx tk os wa wf) = some (x, m')) (h3 : MBad h n k r q m') (hk : k ≤ 5) (ha : a ≤ n) : VRes n K p g h c' (mkV h 0 (-1) (ftk n fM) (nI a) (nI o) (nI nd) (nI oc) (nI wt) so wh oe tw th nx tk os wa wf) 1 fC fM a o l nd oc wt vc ag lim res := by
  obtain ⟨x', u, e1, e2⟩ := h1
  exact ⟨x', u, e1, Or.inr ⟨r, q, 1, x, m', e2, vs_one rfl (show vStep 1 _ = _ from (if_neg (by decide)).trans h2), mb_mono h3 hk, by omega⟩⟩
theorem one_signed {s : Int32} (B : Bs n K p V g h tv vc vm ar ag) (hOne : o < 12 → OneP n K p g h vc ag (d + 1) (o + 1)) (ho1 : 1 ≤ o) (ho : o ≤ 12) (ha : a ≤ n) (hl : l ≤ 2 * a) (hnd : nd ≤ a) (hoc : oc ≤ wt) (hwt : wt ≤ o) (hag : ag ∨ fC ≤ n) (hk : K a = s) (hs : s = 45 ∨ s = 33 ∨ s = 126) :
    VRes n K p g h (mkW g 0 (-1) (wn n p fC) (nI a) (nI o) (nI l) co op sz) (mkV h 0 (-1) (ftk n fM) (nI a) (nI o) (nI nd) (nI oc) (nI wt) so wh oe tw th nx tk os wa wf) 1 fC fM a o l nd oc wt vc ag 7 (tG (d + 2) 12 (mkW g 0 (-1) (wn n p fC) (nI a) (nI o) (nI l) co op sz) s 0) := by
  have hn := B.2.1.1.1
  have han : a < n := kz_lt B.1 hk (by rcases hs with e | e | e <;> rw [e] <;> decide)
  show VRes n K p g h _ _ 1 fC fM a o l nd oc wt vc ag 7 (tGrammar_signed (tG (d + 1)) _ s)
  unfold tGrammar_signed
  by_cases h12 : o = 12
  · subst h12
    rw [b1S (w_open12 B.1 ha hk)]
    refine vres_bad1 (kb2 (kb_one (cb_mkW B (by decide) (by omega))) fun _ u hu => kb12 (kb_close hu) fun u hu => ?_) (bv_sign12 B.2.1 ha (by rw [hk]; exact hs) (by omega)) (mb_V B (by decide) ha (by omega) (by omega)) (by omega) ha
    split
    · exact kb12 (kb_add hu) fun u hu => kbs2 hu
    · exact kb12 (kb_add hu) fun u hu => kbs2 hu
  · have ho' : o < 12 := by omega
    rw [b1S (w_open B.1 ha hk ho')]
    obtain ⟨x, c2, hc2, hres⟩ := hOne ho' _ _ fC fM (a + 1) l nd oc (wt + 1) ⟨co, op, sz, rfl⟩ ⟨so, wh, oe, tw, th, nx, tk, os, upd wa wt 31, upd wf wt (nI a), rfl⟩ (by omega) (by omega) (by omega) (by omega) (by omega) hag
    rw [b2S hc2]
    rcases hres with hok | ⟨r, q, jb, bb, mb, hb1, hb2, hb3, hb4⟩
    · obtain ⟨c', e1, e2⟩ := vok_signed B ho1 ho' hk hs han hl hnd (by omega) (by omega) hok
      exact ⟨0, c', e1, Or.inl e2⟩
    · have hkb : KB2 g n r q (b1 (tCursor_close c2) (fun u3 => if s = 45 then b1 (tProgram_add u3 19 0 0) (fun u6 => some ((0 : Int32), u6)) else b1 (tProgram_add u3 s 0 0) (fun u5 => some (0, u5)))) := by
        refine kb12 (kb_close hb1) fun u hu => ?_
        split
        · exact kb12 (kb_add hu) fun u hu => kbs2 hu
        · exact kb12 (kb_add hu) fun u hu => kbs2 hu
      obtain ⟨x', u, e1, e2⟩ := hkb
      exact ⟨x', u, e1, Or.inr ⟨r, q, 1 + jb, bb, mb, e2, vs_trans (vs_one rfl (show vStep 1 _ = _ from (if_neg (by decide)).trans (bv_sign B.2.1 ha (by rw [hk]; exact hs) ho' (by omega)))) hb2, hb3, by omega⟩⟩
theorem one_round (B : Bs n K p V g h tv vc vm ar ag) (hVal : o < 12 → ValP n K p g h vc ag (d + 2) (o + 1)) (ho1 : 1 ≤ o) (ho : o ≤ 12) (ha : a ≤ n) (hl : l ≤ 2 * a) (hnd : nd ≤ a) (hoc : oc ≤ wt) (hwt : wt ≤ o) (hag : ag ∨ fC ≤ n) (hk : K a = 40) :
    VRes n K p g h (mkW g 0 (-1) (wn n p fC) (nI a) (nI o) (nI l) co op sz) (mkV h 0 (-1) (ftk n fM) (nI a) (nI o) (nI nd) (nI oc) (nI wt) so wh oe tw th nx tk os wa wf) 1 fC fM a o l nd oc wt vc ag 7 (b1 (tCursor_passOpening (mkW g 0 (-1) (wn n p fC) (nI a) (nI o) (nI l) co op sz) 40) (fun u17 => b2 (tG (d + 2) 16 u17 1 0) (fun r18 u18 => b1 (tCursor_passClosing u18 41) (fun u19 => some (0, u19))))) := by
  have hn := B.2.1.1.1
  have han : a < n := kz_lt B.1 hk (by decide)
  by_cases h12 : o = 12
  · subst h12
    rw [b1S (w_open12 B.1 ha hk)]
    exact vres_bad1 (kb2 (kb_value1 (cb_mkW B (by decide) (by omega))) fun _ u hu => kb12 (kb_closing hu (by decide)) fun u hu => kbs2 hu) (bv_round12 B.2.1 ha hk (by omega)) (mb_V B (by decide) ha (by omega) (by omega)) (by omega) ha
  · have ho' : o < 12 := by omega
    rw [b1S (w_open B.1 ha hk ho')]
    obtain ⟨x, c2, hc2, hres⟩ := hVal ho' _ _ fC fM (a + 1) l nd oc (wt + 1) 1 ⟨co, op, sz, rfl⟩ ⟨so, wh, oe, tw, th, nx, tk, os, upd wa wt 30, upd wf wt 0, rfl⟩ (by omega) (by omega) (by omega) (by omega) (by omega) hag (by omega) (by omega) (fun s _ _ => Or.inr ⟨wt, rfl, Or.inl upd_e⟩)
    rw [nI1] at hc2
    rw [b2S hc2]
    rcases hres with hok | ⟨r, q, jb, bb, mb, hb1, hb2, hb3, hb4⟩
    · exact vok_round B ho1 ho' hk han hl hnd (by omega) (by omega) hok
    · obtain ⟨x', u, e1, e2⟩ := kb12 (kb_closing (k := 41) hb1 (by decide)) fun u hu => kbs2 (x := 0) hu
      exact ⟨x', u, e1, Or.inr ⟨r, q, 1 + jb, bb, mb, e2, vs_trans (vs_one rfl (show vStep 1 _ = _ from (if_neg (by decide)).trans (bv_round B.2.1 ha hk ho' (by omega)))) hb2, hb3, by omega⟩⟩
theorem one_read (B : Bs n K p V g h tv vc vm ar ag) (ho1 : 1 ≤ o) (ho : o ≤ 12) (ha : a ≤ n) (hl : l ≤ 2 * a) (hnd : nd ≤ a) (hoc : oc ≤ wt) (hwt : wt ≤ o) (hk : K a = 8) :
    VRes n K p g h (mkW g 0 (-1) (wn n p fC) (nI a) (nI o) (nI l) co op sz) (mkV h 0 (-1) (ftk n fM) (nI a) (nI o) (nI nd) (nI oc) (nI wt) so wh oe tw th nx tk os wa wf) 1 fC fM a o l nd oc wt vc ag 7 (b1 (tCursor_pass (mkW g 0 (-1) (wn n p fC) (nI a) (nI o) (nI l) co op sz) 8) (fun u9 => b1 (tCursor_passOpening u9 40) (fun u10 => b1 (tCursor_passClosing u10 41) (fun u11 => b1 (tProgram_add u11 8 0 0) (fun u12 => some (0, u12)))))) := by
  have hn := B.2.1.1.1
  have han : a < n := kz_lt B.1 hk (by decide)
  rw [b1S (w_pass B.1 ha hk)]
  by_cases hall : K (a + 1) = 40 ∧ K (a + 2) = 41 ∧ o < 12
  · obtain ⟨h1, h2, h3⟩ := hall
    have ha2 := kz_lt B.1 h2 (by decide)
    rw [b1S (w_open B.1 (by omega) h1 h3), b1S (w_closing B.1 (by omega) h2), b1S (w_add (by omega))]
    exact ⟨0, _, rfl, Or.inl (vok_leaf (a' := a + 3) (fC' := fC) (fM' := fM) B ho (by omega) (by omega) (by decide) (by decide) ho1 hnd (show vStep 1 _ = _ from (if_neg (by decide)).trans (bv_read B.2.1 (by omega) hk h1 h2 h3 (by omega) (by omega))) (fun _ => Or.inr (Or.inl ⟨rfl, rfl⟩)) (fun S hS => bi_none hS))⟩
  · obtain ⟨r, P, hcase, x, m', e1, e2⟩ := bv_readN (q := -1) (ft := ftk n fM) (WT := nI wt) (so := so) (wh := wh) (oe := oe) (tw := tw) (th := th) (nx := nx) (tk := tk) (os := os) (wa := wa) (wf := wf) B.2.1 han hk (show nd < 400 by omega) (show oc < 30 by omega) B.2.2.2.2.2.1.1 (by have := B.2.2.2.2.2.1.2; omega) hall ho
    refine vres_bad1 (r := r) (q := nI P) ?_ e1 e2 (by omega) ha
    rcases hcase with ⟨h1, rfl, rfl⟩ | ⟨h1, rfl, rfl, rfl⟩ | ⟨h1, h2, rfl, rfl⟩
    · rw [b1S (w_openN B.1 (by omega) h1)]
      exact kb12 (kb_closing (cb_mkW B (by decide) (by omega)) (by decide)) fun u hu => kb12 (kb_add hu) fun u hu => kbs2 hu
    · rw [b1S (w_open12 B.1 (by omega) h1)]
      exact kb12 (kb_closing (cb_mkW B (by decide) (by omega)) (by decide)) fun u hu => kb12 (kb_add hu) fun u hu => kbs2 hu
    · have ha2 := kz_lt B.1 h1 (by decide)
      rw [b1S (w_open B.1 (by omega) h1 h2), b1S (w_closingN B.1 (by omega) (fun e => hall ⟨h1, e, h2⟩))]
      exact kb12 (kb_add (cb_mkW B (by decide) (by omega))) fun u hu => kbs2 hu
/-- behind the values of a call -/
theorem given_all {c0 m0 : St} (B : Bs n K p V g h tv vc vm ar ag) (hVal : ValP n K p g h vc ag (d + 2) (o + 1)) (ho1 : 1 ≤ o) (ho : o < 12) (hl : l ≤ 2 * a) (hnd : nd ≤ a) (hoc : oc ≤ wt) (hwt : wt ≤ o) (hag : ag ∨ fC ≤ n) (hka : K a = 1) :
    ∀ (r N i a' : Nat) (c1 : St), GA n K p g h c0 m0 c1 fC fM a o l nd oc wt vc ag (fnd (fun i => V (tv i)) vm (V a)) i a' → n - a' ≤ r → r < N → VRes n K p g h c0 m0 1 fC fM a o l nd oc wt vc ag 7 (b2 (tGrammar_given_L (tG (d + 2)) N 1 c1 (nI i)) (fun r10 u10 => b1 (tProgram_add u10 15 (nI a) r10) (fun u11 => some (0, u11)))) := by
  have hn := B.2.1.1.1
  intro r
  induction r with
  | zero =>
    intro N i a' c1 hA h1 h2
    obtain ⟨N, rfl⟩ : ∃ j, N = j + 1 := ⟨N - 1, by omega⟩
    obtain ⟨l', nd', fC', fM', j, k, m1, m2, Cf, Pf, Nf, Ta, Te, ⟨co, op, sz, rfl⟩, y1, y2, y3, y4, y5, ⟨j1, j2, j3, j4, j5, j6, j7, j8⟩, y6⟩ := id hA
    have hk0 : K a' = 0 := B.2.1.1.2 a' (by omega)
    obtain ⟨c2, e1, r', q', jb, bb, mb, hb1, hb2, hb3, hb4⟩ := ga_bad B ho hl hnd (by omega) (by omega) hA (by rw [hk0]; decide) (by rw [hk0]; decide)
    rw [given_L1]
    unfold tGrammar_given_b1
    rw [if_neg (show ¬ (220 : Int32) ≤ nI i from fun e => absurd ((nI_leI (a := 220) (by omega) (by omega)).mp e) (by omega)), b1S (w_kind B.1 (by omega)), if_neg (by rw [hk0]; decide), b1S e1, b2S rfl]
    obtain ⟨x', u, e2, e3⟩ := kb12 (kb_add (x := 15) (y := nI a) (z := nI i) hb1) fun u hu => kbs2 (x := 0) hu
    exact ⟨x', u, e2, Or.inr ⟨r', q', jb, bb, mb, e3, hb2, hb3, hb4⟩⟩
  | succ r ih =>
    intro N i a' c1 hA h1 h2
    obtain ⟨N, rfl⟩ : ∃ j, N = j + 1 := ⟨N - 1, by omega⟩
    obtain ⟨l', nd', fC', fM', j, k, m1, m2, Cf, Pf, Nf, Ta, Te, ⟨co, op, sz, rfl⟩, y1, y2, y3, y4, y5, ⟨j1, j2, j3, j4, j5, j6, j7, j8⟩, y6⟩ := id hA
    rw [given_L1]
    unfold tGrammar_given_b1
    rw [if_neg (show ¬ (220 : Int32) ≤ nI i from fun e => absurd ((nI_leI (a := 220) (by omega) (by omega)).mp e) (by omega)), b1S (w_kind B.1 (by omega))]
    by_cases h44 : K a' = 44
    · rw [if_pos h44]
      obtain ⟨l1, nd1, f1, m1f, co1, op1, sz1, so1, wh1, oe1, tw1, th1, nx1, tk1, os1, wa1, wf1, jj, e1, e2, e3, e4, e5, e6, e7, e8, e9, e10⟩ := ga_next B ho1 ho hl hnd (by omega) (by omega) hA h44
      rw [b1S e1]
      obtain ⟨x, c2, hc2, hres⟩ := hVal _ _ f1 m1f (a' + 1) l1 nd1 oc (wt + 1) 1 ⟨co1, op1, sz1, rfl⟩ ⟨so1, wh1, oe1, tw1, th1, nx1, tk1, os1, wa1, wf1, rfl⟩ (by omega) (by omega) (by omega) (by omega) (by omega) (by rcases hag with e | e; exact Or.inl e; right; omega) (by omega) (by omega) (fun s _ _ => Or.inr ⟨wt, rfl, Or.inr (Or.inr (Or.inl e6))⟩)
      rw [nI1] at hc2
      rw [b2S hc2, nI_suc]
      rcases hres with hok | ⟨r', q', jb, bb, mb, hb1, hb2, hb3, hb4⟩
      · obtain ⟨a2, q1, q2⟩ := e10 c2 hok
        exact ih N (i + 1) a2 c2 q2 (by omega) (by omega)
      · obtain ⟨N, rfl⟩ : ∃ j, N = j + 1 := ⟨N - 1, by omega⟩
        have hkb : KB2 g n r' q' (b2 (tGrammar_given_L (tG (d + 2)) (N + 1) 1 c2 (nI (i + 1))) (fun r10 u10 => b1 (tProgram_add u10 15 (nI a) r10) (fun u11 => some ((0 : Int32), u11)))) := by
          exact kb2 (kb_given_L hb1 (by omega)) fun x u hu => kb12 (kb_add hu) fun u hu => kbs2 hu
        obtain ⟨x', u, w1, w2⟩ := hkb
        exact ⟨x', u, w1, Or.inr ⟨r', q', jj + jb, bb, mb, w2, vs_trans e2 hb2, hb3, by omega⟩⟩
    · rw [if_neg h44]
      by_cases h41 : K a' = 41
      · obtain ⟨c', e1, e2⟩ := ga_end B ho1 ho hl hnd (by omega) (by omega) hA h41 hka
        refine ⟨0, c', ?_, Or.inl e2⟩
        rw [w_closing B.1 (by omega) h41] at e1 ⊢
        exact e1
      · obtain ⟨c2, e1, r', q', jb, bb, mb, hb1, hb2, hb3, hb4⟩ := ga_bad B ho hl hnd (by omega) (by omega) hA h44 h41
        rw [b1S e1, b2S rfl]
        obtain ⟨x', u, e2, e3⟩ := kb12 (kb_add (x := 15) (y := nI a) (z := nI i) hb1) fun u hu => kbs2 (x := 0) hu
        exact ⟨x', u, e2, Or.inr ⟨r', q', jb, bb, mb, e3, hb2, hb3, hb4⟩⟩
theorem one_name (B : Bs n K p V g h tv vc vm ar ag) (hVal : o < 12 → ValP n K p g h vc ag (d + 2) (o + 1)) (ho1 : 1 ≤ o) (ho : o ≤ 12) (ha : a ≤ n) (hl : l ≤ 2 * a) (hnd : nd ≤ a) (hoc : oc ≤ wt) (hwt : wt ≤ o) (hag : ag ∨ fC ≤ n) (hk : K a = 1) :
    VRes n K p g h (mkW g 0 (-1) (wn n p fC) (nI a) (nI o) (nI l) co op sz) (mkV h 0 (-1) (ftk n fM) (nI a) (nI o) (nI nd) (nI oc) (nI wt) so wh oe tw th nx tk os wa wf) 1 fC fM a o l nd oc wt vc ag 7 (tG (d + 4) 7 (mkW g 0 (-1) (wn n p fC) (nI a) (nI o) (nI l) co op sz) (nI a) 0) := by
  have hn := B.2.1.1.1
  have han : a < n := kz_lt B.1 hk (by decide)
  have hvm := B.2.2.2.1.2.1
  show VRes n K p g h _ _ 1 fC fM a o l nd oc wt vc ag 7 (tGrammar_namedValue (tG (d + 3)) _ (nI a))
  unfold tGrammar_namedValue
  rw [b1S (w_next B.1 ha)]
  by_cases h91 : K (a + 1) = 91
  · have ha1 := kz_lt B.1 h91 (by decide)
    rw [if_pos h91]
    show VRes n K p g h _ _ 1 fC fM a o l nd oc wt vc ag 7 (b2 (tGrammar_element (tG (d + 2)) _) _)
    unfold tGrammar_element
    rw [mkW_i6, b1S (w_hide B.1 B.2.2.1.1 B.2.2.1.2 han), b1S (w_pass B.1 ha hk)]
    by_cases h12 : o = 12
    · subst h12
      rw [b1S (w_open12 B.1 (by omega) h91)]
      exact vres_bad1 (kb2 (kb2 (kb_value1 (cb_mkW B (by decide) (by omega))) fun _ u hu => kb12 (kb_closing hu (by decide)) fun u hu => kbs2 hu) fun _ u hu => kb12 (kb_add hu) fun u hu => kbs2 hu) (bv_index12 B.2.1 han hk h91 (by omega)) (mb_V B (by decide) (by omega) (by omega) (by omega)) (by omega) ha
    · have ho' : o < 12 := by omega
      rw [b1S (w_open B.1 (by omega) h91 ho')]
      obtain ⟨x, c2, hc2, hres⟩ := hVal ho' _ _ (if fnd (g.2.2.2 1) vc (V a) = -1 then fC else min fC a) fM (a + 2) l nd oc (wt + 1) 1 ⟨co, op, sz, rfl⟩ ⟨so, wh, oe, tw, th, nx, tk, os, upd wa wt 33, upd wf wt (nI a), rfl⟩ (by omega) (by omega) (by omega) (by omega) (by omega) (by rcases hag with e | e; exact Or.inl e; right; split <;> omega) (by omega) (by omega) (fun s _ _ => Or.inr ⟨wt, rfl, Or.inr (Or.inl upd_e)⟩)
      rw [nI1] at hc2
      rw [b2S hc2, b2_b1]
      rcases hres with hok | ⟨r, q, jb, bb, mb, hb1, hb2, hb3, hb4⟩
      · exact vok_elem B ho1 ho' hk h91 ha1 hl hnd (by omega) (by omega) hok
      · obtain ⟨x', u, e1, e2⟩ := kb12 (kb_closing (k := 93) hb1 (by decide)) fun u hu => kb12 (kb_add (x := 13) (y := nI a) (z := 0) hu) fun u hu => kbs2 (x := 0) hu
        exact ⟨x', u, e1, Or.inr ⟨r, q, 1 + jb, bb, mb, e2, vs_trans (vs_one rfl (show vStep 1 _ = _ from (if_neg (by decide)).trans (bv_index B.2.1 han hk h91 ho' (by omega)))) hb2, hb3, by omega⟩⟩
  rw [if_neg h91, b1S (w_next B.1 ha)]
  by_cases h40 : K (a + 1) = 40
  · have ha1 := kz_lt B.1 h40 (by decide)
    rw [if_pos h40, b1S (w_hide B.1 B.2.2.1.1 B.2.2.1.2 han), b1S (w_pass B.1 ha hk)]
    by_cases h12 : o = 12
    · subst h12
      refine vres_bad1 ?_ (bv_call12 B.2.1 B.2.2.2.1 ha1 hk h40 (by omega) (by omega)) (mb_V B (by decide) (by omega) (by omega) (by omega)) (by omega) ha
      show KB2 g n 2 _ (b2 (tGrammar_given (tG (d + 2)) _) _)
      unfold tGrammar_given
      rw [b1S (w_open12 B.1 (by omega) h40)]
      have hcb := cb_mkW (r := 2) (q := nI (p (a + 1))) (w := wn n p (if fnd (g.2.2.2 1) vc (V a) = -1 then fC else min fC a)) (a := nI (a + 1)) (o := nI 12) (co := co) (op := op) (sz := sz) B (by decide) (show l ≤ 440 by omega)
      rw [b1S (cb_kind hcb), if_neg (by decide)]
      exact kb2 (kb2 (kb_value1 hcb) fun x u hu => kb_given_L hu (by omega)) fun x u hu => kb12 (kb_add hu) fun u hu => kbs2 hu
    have ho' : o < 12 := by omega
    show VRes n K p g h _ _ 1 fC fM a o l nd oc wt vc ag 7 (b2 (tGrammar_given (tG (d + 2)) _) _)
    unfold tGrammar_given
    rw [b1S (w_open B.1 (by omega) h40 ho'), b1S (w_kind B.1 (by omega))]
    by_cases h41 : K (a + 2) = 41
    · have ha2 := kz_lt B.1 h41 (by decide)
      rw [if_pos h41, b1S (w_closing B.1 (by omega) h41), b2S rfl, b1S (w_add (by omega))]
      exact ⟨0, _, rfl, Or.inl (vok_call0 B ho1 ho' hk h40 h41 hl hnd (by omega) (by omega))⟩
    · rw [if_neg h41]
      obtain ⟨x, c2, hc2, hres⟩ := hVal ho' _ _ (if fnd (g.2.2.2 1) vc (V a) = -1 then fC else min fC a) fM (a + 2) l (nd + 1) oc (wt + 1) 1 ⟨co, op, sz, rfl⟩ ⟨upd so nd 5, upd wh nd 0, upd oe nd (-1), upd tw nd (-1), upd (upd th nd (-1)) nd (fnd (fun i => V (tv i)) vm (V a)), upd nx nd (-1), upd (upd tk nd (nI (a + 1))) nd (nI a), os, upd wa wt 34, upd wf wt (nI nd), rfl⟩ (by omega) (by omega) (by omega) (by omega) (by omega) (by rcases hag with e | e; exact Or.inl e; right; split <;> omega) (by omega) (by omega) (fun s _ _ => Or.inr ⟨wt, rfl, Or.inr (Or.inr (Or.inl upd_e))⟩)
      rw [nI1] at hc2
      rw [b2S hc2]
      rcases hres with hok | ⟨r, q, jb, bb, mb, hb1, hb2, hb3, hb4⟩
      · obtain ⟨a', hA⟩ := ga_first B ho1 ho' hk h40 h41 ha1 hl hnd (by omega) (by omega) hok
        exact given_all B (hVal ho') ho1 ho' hl hnd hoc hwt hag hk n 2000 1 a' c2 hA (by omega) (by omega)
      · have hkb : KB2 g n r q (b2 (tGrammar_given_L (tG (d + 2)) 2000 1 c2 1) (fun r10 u10 => b1 (tProgram_add u10 15 (nI a) r10) (fun u11 => some ((0 : Int32), u11)))) := by
          exact kb2 (kb_given_L hb1 (by omega)) fun x u hu => kb12 (kb_add hu) fun u hu => kbs2 hu
        obtain ⟨x', u, w1, w2⟩ := hkb
        exact ⟨x', u, w1, Or.inr ⟨r, q, 1 + jb, bb, mb, w2, vs_trans (vs_one rfl (show vStep 1 _ = _ from (if_neg (by decide)).trans (bv_call B.2.1 B.2.2.2.1 ha1 hk h40 h41 ho' (by omega) (by omega)))) hb2, hb3, by omega⟩⟩
  · rw [if_neg h40, b2S (w_use B.1 B.2.2.1.1 B.2.2.1.2 han), b1S (w_add (by omega)), b1S (w_pass B.1 ha hk)]
    refine ⟨0, _, rfl, Or.inl (vok_leaf (a' := a + 1) (fM' := if fnd (fun i => V (tv i)) vm (V a) = -1 then min fM a else fM) B ho (by omega) (by omega) (by decide) (by decide) ho1 hnd (show vStep 1 _ = _ from (if_neg (by decide)).trans (bv_var B.2.1 B.2.2.2.1 han hk h91 h40 (by omega) (by omega))) (fun hf => Or.inr (Or.inr ⟨rfl, rfl, ?_⟩)) (fun S hS => bi_use (fun hg => bs_fnd B hg) hS))⟩
    by_cases hx : fnd (g.2.2.2 1) vc (V a) = -1
    · rw [if_pos hx] at hf; omega
    · rw [if_neg hx] at hf
      have hg : ag := by rcases hag with e | e; exact e; omega
      rw [if_neg hx, ← bs_fnd B hg]
      rcases fnd_or (g.2.2.2 1) (V a) vc with e | ⟨i, e1, e2⟩
      · exact absurd e hx
      · exact ⟨i, e1, e2, e2⟩
/-- one value -/
theorem one_step (B : Bs n K p V g h tv vc vm ar ag) (hOne : o < 12 → OneP n K p g h vc ag (d + 3) (o + 1)) (hVal : o < 12 → ValP n K p g h vc ag (d + 2) (o + 1)) (hVal2 : o < 12 → ValP n K p g h vc ag (d + 4) (o + 1)) (ho1 : 1 ≤ o) (ho : o ≤ 12) : OneP n K p g h vc ag (d + 5) o := by
  intro c m fC fM a l nd oc wt ⟨co, op, sz, hc⟩ ⟨so, wh, oe, tw, th, nx, tk, os, wa, wf, hm⟩ ha hl hnd hoc hwt hag
  subst hc; subst hm
  have hn := B.2.1.1.1
  show VRes n K p g h _ _ 1 fC fM a o l nd oc wt vc ag 7 (tGrammar_one (tG (d + 4)) _)
  unfold tGrammar_one
  rw [b1S (w_kind B.1 ha)]
  by_cases h1 : K a = 1
  · rw [if_pos h1, mkW_i6]
    exact vres_wrap (one_name B hVal ho1 ho ha hl hnd hoc hwt hag h1)
  rw [if_neg h1]
  by_cases h2 : K a = 2
  · have han := kz_lt B.1 h2 (by decide)
    rw [if_pos h2, b1S (w_number B.1 han), b1S (w_add (by omega)), b1S (w_pass B.1 ha h2)]
    exact ⟨0, _, rfl, Or.inl (vok_leaf (a' := a + 1) (fC' := fC) (fM' := fM) B ho (by omega) (by omega) (by decide) (by decide) ho1 hnd (show vStep 1 _ = _ from (if_neg (by decide)).trans (bv_num B.2.1 han h2 (by omega) (by omega))) (fun _ => Or.inl ⟨rfl, rfl, rfl⟩) (fun S hS => bi_none hS))⟩
  rw [if_neg h2]
  by_cases h8 : K a = 8
  · rw [if_pos h8]
    exact one_read B ho1 ho ha hl hnd hoc hwt h8
  rw [if_neg h8]
  by_cases h33 : K a = 33
  · rw [if_pos h33, b1S (w_kind B.1 ha), h33]
    exact vres_wrap (one_signed (d := d + 2) B hOne ho1 ho ha hl hnd hoc hwt hag h33 (Or.inr (Or.inl rfl)))
  rw [if_neg h33]
  by_cases h40 : K a = 40
  · rw [if_pos h40]
    exact one_round (d := d + 2) B hVal2 ho1 ho ha hl hnd hoc hwt hag h40
  rw [if_neg h40]
  by_cases h45 : K a = 45
  · rw [if_pos h45, b1S (w_kind B.1 ha), h45]
    exact vres_wrap (one_signed (d := d + 2) B hOne ho1 ho ha hl hnd hoc hwt hag h45 (Or.inl rfl))
  rw [if_neg h45]
  by_cases h126 : K a = 126
  · rw [if_pos h126, b1S (w_kind B.1 ha), h126]
    exact vres_wrap (one_signed (d := d + 2) B hOne ho1 ho ha hl hnd hoc hwt hag h126 (Or.inr (Or.inr rfl)))
  rw [if_neg h126, b1S (w_passN B.1 ha h2)]
  exact vres_bad1 (kbs2 (cb_mkW B (by decide) (by omega))) (bv_bad B.2.1 ha h45 h33 h126 h40 h2 h8 h1) (mb_V B (by decide) ha (by omega) (by omega)) (by omega) ha
theorem val_step (B : Bs n K p V g h tv vc vm ar ag) (hOne : OneP n K p g h vc ag (d + 4) o) (hVal : o < 12 → ValP n K p g h vc ag (d + 2) (o + 1)) (ho1 : 1 ≤ o) (ho : o ≤ 12) : ValP n K p g h vc ag (d + 5) o := by
  intro c m fC fM a l nd oc wt lim hc hm ha hl hnd hoc hwt hag hl1 hl7 hst
  have hn := B.2.1.1.1
  rw [tG_16]
  unfold tGrammar_value
  obtain ⟨x, c1, hc1, hres⟩ := hOne c m fC fM a l nd oc wt hc hm ha hl hnd hoc hwt hag
  rw [b2S hc1]
  refine vres_wrap ?_
  rw [tG_13]
  unfold tGrammar_signs
  rw [show (0 : Int32) = nI 0 from rfl]
  rcases hres with hok | ⟨r, q, jb, bb, mb, hb1, hb2, hb3, hb4⟩
  · obtain ⟨a1, l1, nd1, f1, m1f, N1, j, k, m1, m2, ⟨co, op, sz, hc1'⟩, y2, y3, y4, y5, y6, y7, y8⟩ := id hok
    exact signs_all B hVal ho1 ho hl hnd hoc hwt hag hl1 hl7 hst n 2000 0 a1 c1 hok (by rw [hc1']; rfl) (by omega) (by omega) (by omega) (by omega)
  · obtain ⟨x', u, hu1, hu2⟩ := kb_signs_L (rec := tG (d + 3)) (N := 2000) (x2 := nI 0) (m := lim) hb1 hl1 (by omega) (by omega)
    exact ⟨x', u, hu1, Or.inr ⟨r, q, jb, bb, mb, hu2, hb2, hb3, hb4⟩⟩
/-- values are read alike -/
theorem val_all (B : Bs n K p V g h tv vc vm ar ag) : ∀ (k o d : Nat), o + k = 12 → 1 ≤ o → (5 * k + 8 ≤ d → OneP n K p g h vc ag d o) ∧ (5 * k + 10 ≤ d → ValP n K p g h vc ag d o) := by
  intro k
  induction k with
  | zero =>
    intro o d ho ho1
    have h1 : ∀ d, 8 ≤ d → OneP n K p g h vc ag d o := fun d hd => by
      obtain ⟨d, rfl⟩ : ∃ j, d = j + 5 := ⟨d - 5, by omega⟩
      exact one_step B (fun h => absurd h (by omega)) (fun h => absurd h (by omega)) (fun h => absurd h (by omega)) ho1 (by omega)
    refine ⟨fun hd => h1 d (by omega), fun hd => ?_⟩
    obtain ⟨d, rfl⟩ : ∃ j, d = j + 5 := ⟨d - 5, by omega⟩
    exact val_step B (h1 (d + 4) (by omega)) (fun h => absurd h (by omega)) ho1 (by omega)
  | succ k ih =>
    intro o d ho ho1
    have h1 : ∀ d, 5 * (k + 1) + 8 ≤ d → OneP n K p g h vc ag d o := fun d hd => by
      obtain ⟨d, rfl⟩ : ∃ j, d = j + 5 := ⟨d - 5, by omega⟩
      exact one_step B (fun h => (ih (o + 1) (d + 3) (by omega) (by omega)).1 (by omega)) (fun h => (ih (o + 1) (d + 2) (by omega) (by omega)).2 (by omega)) (fun h => (ih (o + 1) (d + 4) (by omega) (by omega)).2 (by omega)) ho1 (by omega)
    refine ⟨fun hd => h1 d hd, fun hd => ?_⟩
    obtain ⟨d, rfl⟩ : ∃ j, d = j + 5 := ⟨d - 5, by omega⟩
    exact val_step B (h1 (d + 4) (by omega)) (fun h => (ih (o + 1) (d + 2) (by omega) (by omega)).2 (by omega)) ho1 (by omega)
end VG
