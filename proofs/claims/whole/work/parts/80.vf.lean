/-! Every value. -/
section VF
variable {n : Nat} {K : Nat → Int32} {p : Nat → Nat} {V : Nat → Int64} {g h : St} {tv : Nat → Nat} {vc vm ar : Nat} {ag : Prop}
theorem sgn_L (rec : Nat → St → Int32 → Int32 → Option (Int32 × St)) (N : Nat) (σ : St) (x1 : Int32) : tGrammar_sign_L rec (N + 1) 1 σ x1 = b2 (tProgram_addJump σ x1) (fun r8 u8 => b1 (tGrammar_strengthOf u8 x1) (fun r9 => b2 (rec 16 u8 (r9 + 1) 0) (fun r10 u10 => b1 (tProgram_add u10 18 0 0) (fun u11 => b1 (tProgram_land u11 r8) (fun u12 => b1 (tCursor_close u12) (fun u13 => some (0, u13))))))) := rfl
/-- a sign behind a refusal -/
theorem kb_sign1 {σ : St} {r q s : Int32} {d : Nat} (h : CBad g n r q σ) : KB2 g n r q (if s = 380 then tGrammar_sign_L (tG (d + 2)) 2000 1 σ s else if s = 294 then tGrammar_sign_L (tG (d + 2)) 2000 1 σ s else b1 (tGrammar_strengthOf σ s) (fun r4 => b2 (tG (d + 2) 16 σ (r4 + 1) 0) (fun r5 u5 => b1 (tProgram_add u5 s 0 0) (fun u6 => b1 (tCursor_close u6) (fun u7 => some (0, u7)))))) := by
  have h6 := sth_le s
  have e1 : KB2 g n r q (tGrammar_sign_L (tG (d + 2)) 2000 1 σ s) := by
    rw [sgn_L _ 1999]
    refine kb2 (kb_addJump h) fun x u hu => ?_
    rw [b1S (sth_c u s), nI_suc]
    exact kb2 (kb_value hu (by omega) (by omega)) fun _ u hu => kb12 (kb_add hu) fun u hu => kb12 (kb_land hu) fun u hu => kb12 (kb_close hu) fun u hu => kbs2 hu
  split
  · exact e1
  split
  · exact e1
  rw [b1S (sth_c σ s), nI_suc]
  exact kb2 (kb_value h (by omega) (by omega)) fun _ u hu => kb12 (kb_add hu) fun u hu => kb12 (kb_close hu) fun u hu => kbs2 hu
def ValP (n : Nat) (K : Nat → Int32) (p : Nat → Nat) (g h : St) (vc : Nat) (ag : Prop) (d o : Nat) : Prop :=
  ∀ (c m : St) (fC fM a l nd oc wt lim : Nat), PW n p g c fC a o l → PV n h m fM a o nd oc wt → a ≤ n → l ≤ 2 * a → nd ≤ a → oc ≤ wt → wt ≤ o → (ag ∨ fC ≤ n) → 1 ≤ lim → lim ≤ 7 → (∀ s, lim ≤ s → s ≤ 6 → StpW K n (nI s) wt (m.2.2.1 34) (m.2.2.1 35)) → VRes n K p g h c m 1 fC fM a o l nd oc wt vc ag lim (tG d 16 c (nI lim) 0)
def OneP (n : Nat) (K : Nat → Int32) (p : Nat → Nat) (g h : St) (vc : Nat) (ag : Prop) (d o : Nat) : Prop :=
  ∀ (c m : St) (fC fM a l nd oc wt : Nat), PW n p g c fC a o l → PV n h m fM a o nd oc wt → a ≤ n → l ≤ 2 * a → nd ≤ a → oc ≤ wt → wt ≤ o → (ag ∨ fC ≤ n) → VRes n K p g h c m 1 fC fM a o l nd oc wt vc ag 7 (tG d 9 c 0 0)
theorem stp_keep {s : Int32} {wt : Nat} {wa wf wa' wf' : Nat → Int32} (h : StpW K n s wt wa wf) (e : ∀ i, i < wt → wa' i = wa i ∧ wf' i = wf i) : StpW K n s wt wa' wf' := by
  rcases h with h | ⟨j, h1, h2⟩
  · exact Or.inl h
  · obtain ⟨e1, e2⟩ := e j (by omega)
    exact Or.inr ⟨j, h1, by rw [e1, e2]; exact h2⟩
/-- one sign between, and the value behind it -/
theorem sign_step {c m c1 : St} {b : Int32} {fC fM a o l nd oc wt d : Nat} (B : Bs n K p V g h tv vc vm ar ag) (hVal : o < 12 → ValP n K p g h vc ag (d + 2) (o + 1)) (ho1 : 1 ≤ o) (ho : o ≤ 12) (hl : l ≤ 2 * a) (hnd : nd ≤ a) (hoc : oc ≤ wt) (hwt : wt ≤ o) (hag : ag ∨ fC ≤ n) (h1 : VOk n K p g h c m c1 b fC fM a o l nd oc wt vc ag 7) {a' : Nat} (hc1 : c1.1 6 = nI a') (ha'n : a' ≤ n) (hs : 0 < sth (K a')) (hst : StpW K n (nI (sth (K a'))) wt (m.2.2.1 34) (m.2.2.1 35)) :
    ∃ x c3, tG (d + 3) 11 c1 (K a') 0 = some (x, c3) ∧ ((VOk n K p g h c m c3 b fC fM a o l nd oc wt vc ag 7 ∧ ∃ a3, a' + 2 ≤ a3 ∧ a3 ≤ n ∧ c3.1 6 = nI a3) ∨ VBad n g h m c3 b a) := by
  have B' := B
  obtain ⟨B1, B2, B3, B4, B5, B6, B7, B8⟩ := B
  have hn := B2.1.1
  obtain ⟨a1, l1, nd1, f1, m1f, N1, j, k, m1, m2, ⟨co, op, sz, rfl⟩, ⟨so, wh, oe, tw, th, nx, tk, os, wa, wf, rfl⟩, i3, i4, i5, i6, ⟨j1, j2, j3, j4, j5, j6, j7, j8, j9⟩, i8, i9, i10, i11, i12⟩ := h1
  obtain rfl : a1 = a' := nI_inj (by omega) (by omega) hc1
  have hos : os oc = nI N1 := i10
  have h6 := sth_le (K a1)
  have ha1 : a1 < n := by
    rcases Nat.lt_or_ge a1 n with e | e
    · exact e
    · rw [B2.1.2 a1 e] at hs; exact absurd hs (by decide)
  have hop := vs_op B2 j2 i4 i5 hs (stp_keep hst i9.2.2) (by omega) (by omega)
  have hfl : f1 ≤ fC := by obtain ⟨X, Y, -, -, b3, -⟩ := i12; omega
  show ∃ x c3, tGrammar_sign (tG (d + 2)) _ (K a1) = some (x, c3) ∧ _
  unfold tGrammar_sign
  by_cases h12 : o = 12
  · subst h12
    rw [v_opens12 B2 j2, b1S rfl, b1S (v_hold (by omega))] at hop
    rw [b1S (w_open12 B1 j2 rfl)]
    obtain ⟨x, u, hu1, hu2⟩ := kb_sign1 (s := K a1) (d := d) (cb_mkW (r := 2) (q := nI (p a1)) (w := wn n p f1) (a := nI a1) (o := nI 12) (co := co) (op := op) (sz := sz) B' (by decide) (show l1 ≤ 440 by omega))
    exact ⟨x, u, hu1, Or.inr ⟨2, nI (p a1), j + 1, 1, _, hu2, vs_trans i3 (vs_one i4.1 hop), mb_mono (mb_V B' (by decide) j2 (by omega) (by omega)) (by omega), by omega⟩⟩
  have ho' : o < 12 := by omega
  rw [v_opens ho', b1S rfl, b1S (v_hold (by omega))] at hop
  rw [b1S (w_open B1 j2 rfl ho')]
  have stp' : ∀ s, sth (K a1) + 1 ≤ s → s ≤ 6 → StpW K n (nI s) (wt + 1) (upd wa wt 32) (upd wf wt (nI a1)) := fun s s1 s2 => Or.inr ⟨wt, rfl, Or.inr (Or.inr (Or.inr ⟨upd_e, a1, ha1, upd_e, (nI_ltI (by omega) (by omega)).mpr (by omega)⟩))⟩
  -- the result, once the right value is there
  have fin : ∀ (l0 : Nat) (c0 c2 : St) (co0 op0 sz0 : Nat → Int32), c0 = mkW g 0 (-1) (wn n p f1) (nI (a1 + 1)) (nI (o + 1)) (nI l0) co0 op0 sz0 → VOk n K p g h c0 (mkV h 0 (-1) (ftk n m1f) (nI (a1 + 1)) (nI (o + 1)) (nI nd1) (nI (oc + 1)) (nI (wt + 1)) so wh oe tw th nx tk os (upd wa wt 32) (upd wf wt (nI a1))) c2 1 f1 m1f (a1 + 1) (o + 1) l0 nd1 (oc + 1) (wt + 1) vc ag (sth (K a1) + 1) →
      ((l0 = l1 ∧ co0 = co ∧ op0 = op ∧ sz0 = sz ∧ strict (K a1)) ∨ (l0 = l1 + 1 ∧ co0 = upd co l1 (K a1) ∧ op0 = upd op l1 0 ∧ sz0 = upd sz l1 0 ∧ (K a1 = 294 ∨ K a1 = 380))) →
      ∀ c3, ((l0 = l1 → b1 (tProgram_add c2 (K a1) 0 0) (fun u6 => b1 (tCursor_close u6) (fun u7 => some ((0 : Int32), u7))) = some (0, c3)) ∧ (l0 = l1 + 1 → b1 (tProgram_add c2 18 0 0) (fun u11 => b1 (tProgram_land u11 (nI l1)) (fun u12 => b1 (tCursor_close u12) (fun u13 => some ((0 : Int32), u13)))) = some (0, c3))) →
      (VOk n K p g h c m c3 b fC fM a o l nd oc wt vc ag 7 ∧ ∃ a3, a1 + 2 ≤ a3 ∧ a3 ≤ n ∧ c3.1 6 = nI a3) := by
    intro l0 c0 c2 co0 op0 sz0 hc0 hv hkind c3 hc3
    subst hc0
    obtain ⟨a2, l2, nd2, f2, m2f, N2, jj, kk, m1', m2', ⟨co2, op2, sz2, rfl⟩, ⟨so2, wh2, oe2, tw2, th2, nx2, tk2, os2, wa2, wf2, rfl⟩, I3, I4, I5, I6, ⟨J1, J2, J3, J4, J5, J6, J7, J8, J9⟩, I8, I9, I10, I11, I12⟩ := hv
    have hos2 : os2 (oc + 1) = nI N2 := I10
    have hos1 : os2 oc = nI N1 := (I9.2.1 oc (by omega)).trans hos
    have v1 : wa2 wt = 32 := ((I9.2.2 wt (by omega)).1).trans upd_e
    have v2 : wf2 wt = nI a1 := ((I9.2.2 wt (by omega)).2).trans upd_e
    have hsb := s_between (least := nI (max 1 (sth (K a2)))) (y := 0) (q := -1) (ft := ftk n m2f) (A := nI a2) (o := o) (nd := nd2) (oc := oc) (so := so2) (wh := wh2) (oe := oe2) (tw := tw2) (th := th2) (nx := nx2) (tk := tk2) (os := os2) B2 v1 v2 ha1 hs (fun e => absurd ((nI_ltI (by omega) (by omega)).mp e) (by omega)) (by omega) (by omega) (by omega)
    rw [hos1, hos2] at hsb
    have hl0 : l1 ≤ l0 ∧ l0 ≤ l1 + 1 := by rcases hkind with ⟨e, -⟩ | ⟨e, -⟩ <;> omega
    have hnd2 : nd1 ≤ nd2 := by omega
    -- the class's last rows
    obtain ⟨co3, op3, sz3, hc3', k6, hC1, hC2⟩ : ∃ co3 op3 sz3 : Nat → Int32, c3 = mkW g 0 (-1) (wn n p f2) (nI a2) (nI o) (nI (l2 + 1)) co3 op3 sz3 ∧ ((l0 = l1 ∧ co3 l2 = K a1 ∧ strict (K a1)) ∨ (l0 = l1 + 1 ∧ (K a1 = 294 ∨ K a1 = 380) ∧ co3 l1 = K a1 ∧ op3 l1 = nI (l2 + 1) ∧ co3 l2 = 18)) ∧ (∀ x, x < l1 → co3 x = co2 x ∧ op3 x = op2 x ∧ sz3 x = sz2 x) ∧ (∀ x, l0 ≤ x → x < l2 → co3 x = co2 x ∧ op3 x = op2 x ∧ sz3 x = sz2 x) := by
      rcases hkind with ⟨e1, e2, e3, e4, e5⟩ | ⟨e1, e2, e3, e4, e5⟩
      · have := hc3.1 e1
        rw [b1S (w_add (by omega)), b1S w_close] at this
        cases this
        exact ⟨_, _, _, rfl, Or.inl ⟨e1, upd_e, e5⟩, fun x hx => ⟨upd_n (by omega), upd_n (by omega), upd_n (by omega)⟩, fun x hx hx2 => ⟨upd_n (by omega), upd_n (by omega), upd_n (by omega)⟩⟩
      · have := hc3.2 e1
        rw [b1S (w_add (by omega)), b1S (w_land (by omega) (by omega)), b1S w_close] at this
        cases this
        refine ⟨_, _, _, rfl, Or.inr ⟨e1, e5, ?_, upd_e, upd_e⟩, fun x hx => ⟨upd_n (by omega), (upd_n (by omega)).trans (upd_n (by omega)), upd_n (by omega)⟩, fun x hx hx2 => ⟨upd_n (by omega), (upd_n (by omega)).trans (upd_n (by omega)), upd_n (by omega)⟩⟩
        rw [upd_n (by omega)]
        refine ((I8 l1 (by omega)).1).trans ?_
        show co0 l1 = K a1
        rw [e2, upd_e]
    have hbelow : ∀ x, x < l1 → co2 x = co x ∧ op2 x = op x ∧ sz2 x = sz x := by
      intro x hx
      obtain ⟨q1, q2, q3⟩ := I8 x (by omega)
      replace q1 : co2 x = co0 x := q1
      replace q2 : op2 x = op0 x := q2
      replace q3 : sz2 x = sz0 x := q3
      rcases hkind with ⟨e1, e2, e3, e4, e5⟩ | ⟨e1, e2, e3, e4, e5⟩
      · rw [q1, q2, q3, e2, e3, e4]; exact ⟨rfl, rfl, rfl⟩
      · rw [q1, q2, q3, e2, e3, e4]; exact ⟨upd_n (by omega), upd_n (by omega), upd_n (by omega)⟩
    subst hc3'
    refine ⟨⟨a2, l2 + 1, nd2 + 1, f2, m2f, nd2, j + 1 + jj, kk + 1, m1', _, ⟨_, _, _, rfl⟩, ⟨_, _, _, _, _, _, _, _, _, _, rfl⟩, vs_trans (vs_trans i3 (vs_one i4.1 hop)) I3, I4, sst_trans I5 hsb, by have := sth_le (K a2); omega, ⟨by omega, by omega, by omega, by omega, by omega, by omega, by omega, by omega, by omega⟩, fun x hx => ?_, ⟨fun x hx => ?_, fun x hx => ?_, fun x hx => ?_⟩, upd_e, ?_, ?_⟩, a2, by omega, by omega, rfl⟩
    · obtain ⟨q1, q2, q3⟩ := hC1 x (by omega)
      obtain ⟨r1, r2, r3⟩ := hbelow x (by omega)
      obtain ⟨s1, s2, s3⟩ := i8 x hx
      exact ⟨(q1.trans r1).trans s1, (q2.trans r2).trans s2, (q3.trans r3).trans s3⟩
    · refine ne_trans (i9.1 x hx) (ne_trans (I9.1 x (by omega)) ⟨upd_n (by omega), upd_n (by omega), upd_n (by omega), upd_n (by omega), upd_n (by omega), upd_n (by omega), upd_n (by omega)⟩)
    · exact (upd_n (by omega)).trans ((I9.2.1 x (by omega)).trans (i9.2.1 x hx))
    · obtain ⟨q1, q2⟩ := I9.2.2 x (by omega)
      obtain ⟨r1, r2⟩ := i9.2.2 x hx
      exact ⟨(q1.trans (upd_n (by omega))).trans r1, (q2.trans (upd_n (by omega))).trans r2⟩
    · refine vq_pair (s := K a1) i11 I11 (by obtain ⟨X, Y, -, -, b3, -⟩ := I12; omega) ho1 ho' (by omega) (by omega) (by omega) (by omega) ⟨by omega, by omega⟩ ⟨by omega, by omega⟩ (fun x x1 x2 => ?_) (fun x x1 x2 => hC2 x x1 x2) (fun x x1 x2 => ?_) (fun x x1 x2 => ⟨upd_n (by omega), upd_n (by omega), upd_n (by omega), upd_n (by omega), upd_n (by omega), upd_n (by omega), fun _ => upd_n (by omega)⟩) ⟨upd_e, upd_e, upd_e, upd_e⟩ k6
      · obtain ⟨q1, q2, q3⟩ := hC1 x (by omega)
        obtain ⟨r1, r2, r3⟩ := hbelow x (by omega)
        exact ⟨q1.trans r1, q2.trans r2, q3.trans r3⟩
      · obtain ⟨q1, q2, q3, q4, q5, q6, q7⟩ := I9.1 x (by omega)
        exact ⟨(upd_n (by omega)).trans q1, (upd_n (by omega)).trans q2, (upd_n (by omega)).trans q3, (upd_n (by omega)).trans q4, (upd_n (by omega)).trans q5, (upd_n (by omega)).trans q7, fun _ => (upd_n (by omega)).trans q6⟩
    · refine bi_comp i12 I12 (by omega) fun t => ?_
      rw [nh_split (m := nd2) (by omega) (by omega), nh_split (m := nd1) (by omega) (by omega)]
      constructor
      · rintro ((e | e) | e)
        · refine Or.inl ((nh_congr fun x x1 x2 => ?_).mp e)
          obtain ⟨q1, q2, q3, q4, q5, q6, q7⟩ := I9.1 x (by omega)
          exact ⟨(upd_n (by omega)).trans q1, (upd_n (by omega)).trans q5, (upd_n (by omega)).trans q7⟩
        · exact Or.inr ((nh_congr fun x x1 x2 => ⟨upd_n (by omega), upd_n (by omega), upd_n (by omega)⟩).mp e)
        · refine absurd e (nh_none ?_)
          show ¬ (upd so2 nd2 7 nd2 = 4 ∨ upd so2 nd2 7 nd2 = 5 ∨ upd so2 nd2 7 nd2 = 12)
          rw [upd_e]; decide
      · rintro (e | e)
        · refine Or.inl (Or.inl ((nh_congr fun x x1 x2 => ?_).mpr e))
          obtain ⟨q1, q2, q3, q4, q5, q6, q7⟩ := I9.1 x (by omega)
          exact ⟨(upd_n (by omega)).trans q1, (upd_n (by omega)).trans q5, (upd_n (by omega)).trans q7⟩
        · exact Or.inl (Or.inr ((nh_congr fun x x1 x2 => ⟨upd_n (by omega), upd_n (by omega), upd_n (by omega)⟩).mpr e))
  have lazy : (K a1 = 294 ∨ K a1 = 380) → ∃ x c3, tGrammar_sign_L (tG (d + 2)) 2000 1 (mkW g 0 (-1) (wn n p f1) (nI (a1 + 1)) (nI (o + 1)) (nI l1) co op sz) (K a1) = some (x, c3) ∧ ((VOk n K p g h c m c3 b fC fM a o l nd oc wt vc ag 7 ∧ ∃ a3, a1 + 2 ≤ a3 ∧ a3 ≤ n ∧ c3.1 6 = nI a3) ∨ VBad n g h m c3 b a) := by
    intro hk
    rw [sgn_L _ 1999, b2S (w_addJump (by omega)), b1S (sth_c _ _), nI_suc]
    obtain ⟨x, c2, hc2, hres⟩ := hVal ho' _ _ f1 m1f (a1 + 1) (l1 + 1) nd1 (oc + 1) (wt + 1) (sth (K a1) + 1) ⟨_, _, _, rfl⟩ ⟨_, _, _, _, _, _, _, _, _, _, rfl⟩ (by omega) (by omega) (by omega) (by omega) (by omega) (by rcases hag with e | e; exact Or.inl e; right; omega) (by omega) (by omega) stp'
    rw [b2S hc2]
    rcases hres with hok | ⟨r, q, jb, bb, mb, hb1, hb2, hb3, hb4⟩
    · obtain ⟨a2, l2, nd2, f2, m2f, N2, jj, kk, m1', m2', ⟨co2, op2, sz2, rfl⟩, y2, y3, y4, y5, y6, y7, y8⟩ := id hok
      have := fin (l1 + 1) _ _ _ _ _ rfl hok (Or.inr ⟨rfl, rfl, rfl, rfl, hk⟩) _ ⟨fun e => absurd e (by omega), fun _ => by rw [b1S (w_add (by omega)), b1S (w_land (by omega) (by omega)), b1S w_close]⟩
      exact ⟨0, _, by rw [b1S (w_add (by omega)), b1S (w_land (by omega) (by omega)), b1S w_close], Or.inl this⟩
    · obtain ⟨x', u, hu1, hu2⟩ := kb12 (kb_add (x := 18) (y := 0) (z := 0) hb1) fun u hu => kb12 (kb_land (x := nI l1) hu) fun u hu => kb12 (kb_close hu) fun u hu => (kbs2 (x := 0) hu)
      exact ⟨x', u, hu1, Or.inr ⟨r, q, j + 1 + jb, bb, mb, hu2, vs_trans (vs_trans i3 (vs_one i4.1 hop)) hb2, hb3, by omega⟩⟩
  by_cases h380 : K a1 = 380
  · rw [if_pos h380]; exact lazy (Or.inr h380)
  rw [if_neg h380]
  by_cases h294 : K a1 = 294
  · rw [if_pos h294]; exact lazy (Or.inl h294)
  rw [if_neg h294, b1S (sth_c _ _), nI_suc]
  obtain ⟨x, c2, hc2, hres⟩ := hVal ho' _ _ f1 m1f (a1 + 1) l1 nd1 (oc + 1) (wt + 1) (sth (K a1) + 1) ⟨_, _, _, rfl⟩ ⟨_, _, _, _, _, _, _, _, _, _, rfl⟩ (by omega) (by omega) (by omega) (by omega) (by omega) (by rcases hag with e | e; exact Or.inl e; right; omega) (by omega) (by omega) stp'
  rw [b2S hc2]
  rcases hres with hok | ⟨r, q, jb, bb, mb, hb1, hb2, hb3, hb4⟩
  · obtain ⟨a2, l2, nd2, f2, m2f, N2, jj, kk, m1', m2', ⟨co2, op2, sz2, rfl⟩, y2, y3, y4, y5, y6, y7, y8⟩ := id hok
    have := fin l1 _ _ _ _ _ rfl hok (Or.inl ⟨rfl, rfl, rfl, rfl, strict_of hs h294 h380⟩) _ ⟨fun _ => by rw [b1S (w_add (by omega)), b1S w_close], fun e => absurd e (by omega)⟩
    exact ⟨0, _, by rw [b1S (w_add (by omega)), b1S w_close], Or.inl this⟩
  · obtain ⟨x', u, hu1, hu2⟩ := kb12 (kb_add (x := K a1) (y := 0) (z := 0) hb1) fun u hu => kb12 (kb_close hu) fun u hu => (kbs2 (x := 0) hu)
    exact ⟨x', u, hu1, Or.inr ⟨r, q, j + 1 + jb, bb, mb, hu2, vs_trans (vs_trans i3 (vs_one i4.1 hop)) hb2, hb3, by omega⟩⟩
/-- all signs that bind strongly enough -/
theorem signs_all {c m : St} {b : Int32} {fC fM a o l nd oc wt d lim : Nat} (B : Bs n K p V g h tv vc vm ar ag) (hVal : o < 12 → ValP n K p g h vc ag (d + 2) (o + 1)) (ho1 : 1 ≤ o) (ho : o ≤ 12) (hl : l ≤ 2 * a) (hnd : nd ≤ a) (hoc : oc ≤ wt) (hwt : wt ≤ o) (hag : ag ∨ fC ≤ n) (hlim : 1 ≤ lim) (hlim7 : lim ≤ 7) (hst : ∀ s, lim ≤ s → s ≤ 6 → StpW K n (nI s) wt (m.2.2.1 34) (m.2.2.1 35)) :
    ∀ (r N i a' : Nat) (c1 : St), VOk n K p g h c m c1 b fC fM a o l nd oc wt vc ag 7 → c1.1 6 = nI a' → a' ≤ n → n - a' ≤ r → r < N → i < a' → VRes n K p g h c m b fC fM a o l nd oc wt vc ag lim (tGrammar_signs_L (tG (d + 3)) N 1 c1 (nI lim) (nI i)) := by
  have hn := B.2.1.1.1
  intro r
  induction r with
  | zero =>
    intro N i a' c1 hv hc ha h1 h2 h3
    obtain ⟨N, rfl⟩ : ∃ j, N = j + 1 := ⟨N - 1, by omega⟩
    obtain ⟨a1, l1, nd1, f1, m1f, N1, j, k, m1, m2, ⟨co, op, sz, rfl⟩, y2, y3, y4, y5, y6, y7, y8⟩ := id hv
    obtain rfl : a1 = a' := nI_inj (by omega) (by omega) hc
    have hk0 : K a1 = 0 := B.2.1.1.2 a1 (by omega)
    rw [signs_L1]
    unfold tGrammar_signs_b1
    rw [if_neg (show ¬ (220 : Int32) ≤ nI i from fun e => absurd ((nI_leI (a := 220) (by omega) (by omega)).mp e) (by omega)), b1S (w_kind B.1 (by omega)), b1S (sth_c _ _), hk0, if_pos (show nI (sth 0) < nI lim from (nI_ltI (a := 0) (by omega) (by omega)).mpr (by omega))]
    refine ⟨0, _, rfl, Or.inl ⟨a1, l1, nd1, f1, m1f, N1, j, k, m1, m2, ⟨_, _, _, rfl⟩, y2, y3, y4, y5, ?_, y7, y8⟩⟩
    rw [hk0]; show 0 < lim; omega
  | succ r ih =>
    intro N i a' c1 hv hc ha h1 h2 h3
    obtain ⟨N, rfl⟩ : ∃ j, N = j + 1 := ⟨N - 1, by omega⟩
    obtain ⟨a1, l1, nd1, f1, m1f, N1, j, k, m1, m2, ⟨co, op, sz, rfl⟩, y2, y3, y4, y5, y6, y7, y8⟩ := id hv
    obtain rfl : a1 = a' := nI_inj (by omega) (by omega) hc
    have h6 := sth_le (K a1)
    rw [signs_L1]
    unfold tGrammar_signs_b1
    rw [if_neg (show ¬ (220 : Int32) ≤ nI i from fun e => absurd ((nI_leI (a := 220) (by omega) (by omega)).mp e) (by omega)), b1S (w_kind B.1 (by omega)), b1S (sth_c _ _)]
    by_cases hs : sth (K a1) < lim
    · rw [if_pos ((nI_ltI (by omega) (by omega)).mpr hs)]
      exact ⟨0, _, rfl, Or.inl ⟨a1, l1, nd1, f1, m1f, N1, j, k, m1, m2, ⟨_, _, _, rfl⟩, y2, y3, y4, y5, hs, y7, y8⟩⟩
    · rw [if_neg (fun e => hs ((nI_ltI (by omega) (by omega)).mp e)), b1S (w_kind B.1 (by omega))]
      obtain ⟨x, c3, e3, hres⟩ := sign_step B hVal ho1 ho hl hnd hoc hwt hag hv rfl ha (by omega) (hst _ (by omega) h6)
      rw [b2S e3, nI_suc]
      rcases hres with ⟨hok, a3, q1, q2, q3⟩ | ⟨r', q', jb, bb, mb, hb1, hb2, hb3, hb4⟩
      · exact ih N (i + 1) a3 c3 hok q3 q2 (by omega) (by omega) (by omega)
      · obtain ⟨N, rfl⟩ : ∃ j, N = j + 1 := ⟨N - 1, by omega⟩
        obtain ⟨x', u, hu1, hu2⟩ := kb_signs_L (rec := tG (d + 3)) (N := N + 1) (x2 := nI (i + 1)) (m := lim) hb1 hlim (by omega) (by omega)
        exact ⟨x', u, hu1, Or.inr ⟨r', q', jb, bb, mb, hu2, hb2, hb3, hb4⟩⟩
end VF
