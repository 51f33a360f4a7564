/-! A block is read. -/
def BL (n : Nat) (K : Nat → Int32) (p : Nat → Nat) (V : Nat → Int64) (g0 h0 c0 m0 c' : St) (fC a0 o l A vc sb dp ar : Nat) (ag : Prop) (i a' : Nat) : Prop :=
  ∃ (l' nd' fC' fM' vc' vm' j : Nat) (ag' : Prop) (g' h' m' : St) (tv' Cf Pf Nf Ta Yf : Nat → Nat), PW n p g' c' fC' a' o l' ∧ PS n h' m' fM' a' o nd' ∧ StSteps j m0 m' ∧ Bs n K p V g' h' tv' vc' vm' ar ag' ∧ Lv g' h' vc' sb dp ag' ∧ FrV g0 h0 g' h' vc ar ag' ∧ (ag' → ag ∧ vc ≤ vc') ∧ (ag' ∨ fC' < a') ∧ fC' ≤ fC ∧
    (a0 ≤ a' ∧ a' ≤ n ∧ l ≤ l' ∧ l' ≤ l + 2 * (a' - a0) ∧ nd' ≤ A + 1 + (a' - a0) ∧ A < nd' ∧ j ≤ a' - a0 ∧ i ≤ a' - a0) ∧ FW c0 c' l ∧ (∀ x, x < A → NodeEq m0.2.2.1 m'.2.2.1 x) ∧ Lst m'.2.2.1 A i Cf ∧
    (Pf 0 = l ∧ Pf i = l' ∧ Nf 0 = A + 1 ∧ Nf i = nd' ∧ Ta 0 = a0 ∧ Ta i = a' ∧ Yf 0 = vc ∧ Yf i = vc') ∧ StAt n K c'.2.2.1 m'.2.2.1 fC' o vc i Cf Pf Nf Ta Yf ∧ FRel fC' fM' (NH m'.2.2.1 0 nd')
def BBad (n : Nat) (g h m c' : St) (a0 : Nat) : Prop := ∃ (r q : Int32) (j : Nat) (m' : St), CBad g n r q c' ∧ StSteps j m m' ∧ MBad h n 10 r q m' ∧ j + a0 ≤ n + 5
section SB
variable {n : Nat} {K : Nat → Int32} {p : Nat → Nat} {V : Nat → Int64} {g h c0 m0 : St} {vc ar sb dp A : Nat} {ag : Prop} {fC a0 o l d : Nat}
/-- one statement more -/
theorem bl_step {c' : St} {i a' : Nat} (hStP : StP n K p V d o) (ho1 : 1 ≤ o) (ho : o ≤ 12) (hn : n ≤ 220) (ha0 : 1 ≤ a0) (hl : l ≤ 2 * a0) (hA : A < a0) (har : 1 ≤ ar) (har2 : ar ≤ o) (hdp : dp ≤ o) (h36 : h.2.2.1 36 (ar - 1) = nI A) (hb : BL n K p V g h c0 m0 c' fC a0 o l A vc sb dp ar ag i a') (hk : ¬ K a' = 125) :
    ∃ x c2, tG d 14 c' 1 0 = some (x, c2) ∧ ((∃ a2, a' < a2 ∧ a2 ≤ n ∧ BL n K p V g h c0 m0 c2 fC a0 o l A vc sb dp ar ag (i + 1) a2) ∨ BBad n g h m0 c2 a0) := by
  obtain ⟨l', nd', fC', fM', vc', vm', j, ag', g', h', m', tv', Cf, Pf, Nf, Ta, Yf, ⟨co, op, sz, rfl⟩, ⟨oc, wt, hoc, so, wh, oe, tw, th, nx, tk, os, wa, wf, rfl⟩, i3, B, L, i6, i7, i8, i9, ⟨j1, j2, j3, j4, j5, j6, j7, j8⟩, i10, i11, ⟨q20, q21, q25, q22, q22', qn, ql⟩, ⟨e1, e2, e3, e4, e5, e6, e7, e8⟩, hSt, hF⟩ := hb
  have mN : ∀ {k j : Nat}, j ≤ k → k ≤ i → Nf j ≤ Nf k := mono_le (fun j hj => by have := hSt j hj; omega)
  have mP : ∀ {k j : Nat}, j ≤ k → k ≤ i → Pf j ≤ Pf k := mono_le (fun j hj => (hSt j hj).2.2.1)
  have hCf : ∀ x, x < i → A < Cf x ∧ Cf x < nd' := fun x hx => by
    have q1 := hSt x hx
    have q2 := mN (k := x) (j := 0) (by omega) (by omega)
    have q3 := mN (k := i) (j := x + 1) (by omega) (by omega)
    omega
  have h36' : h'.2.2.1 36 (ar - 1) = nI A := (i6.2.2.2.1 (ar - 1) (by omega)).trans h36
  have hBg : Beg n K p V g' h' (mkV h' 0 (-1) (ftk n fM') (nI a') (nI o) (nI nd') (nI oc) (nI wt) so wh oe tw th nx tk os wa wf) tv' fC' fM' a' o l' nd' vc' vm' sb dp ar A ag' := ⟨B, L, i8, hF, ⟨by omega, by omega, by omega, ho1, ho⟩, ⟨har, har2, h36', by omega, hdp⟩⟩
  obtain ⟨x, c2, e9, hres⟩ := hStP g' h' _ _ tv' fC' fM' a' l' nd' vc' vm' sb dp ar A ag' False 1 ⟨co, op, sz, rfl⟩ ⟨oc, wt, hoc, so, wh, oe, tw, th, nx, tk, os, wa, wf, rfl⟩ hBg ⟨fun e => absurd e (by decide), fun e => absurd q20 e⟩ (fun e => e.elim) (fun _ => hk)
  refine ⟨x, c2, e9, ?_⟩
  rcases hres with ⟨a2, l2, n2, f2, m2f, N2, v2, vm2, jj, Fu, ag2, g2, h2, mB1, mB2, tv2, ⟨co2, op2, sz2, rfl⟩, ⟨oc2, wt2, hoc2, so2, wh2, oe2, tw2, th2, nx2, tk2, os2, wa2, wf2, rfl⟩, I3, I4, ⟨I5, I5'⟩, I6, I7, I8, ⟨I9, I9'⟩, I10, I11, ⟨J1, J2, J3, J4, J5, J6, J7, J8⟩, I12, I13, I14, I15, I16⟩ | ⟨r, q, jj, m', hb1, hb2, hb3, hb4⟩
  · left
    obtain ⟨F', rfl⟩ : ∃ i, Fu = i + 3 := ⟨Fu - 3, by omega⟩
    obtain ⟨s20, s21, s22, s23, s24, s25, s26⟩ := I14 A (by omega)
    replace s20 : so2 A = 10 := s20.trans q20
    replace s21 : wh2 A = nI i := s21.trans q21
    obtain ⟨ra, har'⟩ : ∃ r, ar = r + 1 := ⟨ar - 1, by omega⟩
    have h36'' : h2.2.2.1 36 ra = nI A := by
      have := (I8.2.2.2.1 (ar - 1) (by omega)).trans h36'
      rw [show ar - 1 = ra by omega] at this
      exact this
    have h42 : h2.1 42 = nI (ra + 1) := by rw [← har']; exact I6.2.2.2.2.2.1.1
    rw [wh_block h42 (by omega) h36'' (by omega) s20] at I5
    obtain ⟨wh', oe', tw', nx', hadd, r1, r2, r3, r4, r5, r6⟩ := ga_add (h := h2) (y := 0) (q := -1) (ft := ftk n m2f) (A := nI a2) (O := nI o) (ND := nI n2) (OC := nI oc2) (WT := nI wt2) (so := so2) (wh := wh2) (oe := oe2) (tw := tw2) (th := th2) (nx := nx2) (tk := tk2) (os := os2) (wa := wa2) (wf := wf2) (Cf := fset Cf i N2) (i := i + 1) (nd := A) (by omega) (by omega) (by rw [show i + 1 - 1 = i by omega]; exact s21) (fun h0 => s22.trans (q22 (by omega))) (fun h0 => by
      obtain ⟨y1, y2⟩ := q22' (by omega)
      rw [fset_n (show 0 ≠ i by omega), show i + 1 - 2 = i - 1 by omega, fset_n (show i - 1 ≠ i by omega)]
      exact ⟨s22.trans y1, s23.trans y2⟩) (fun x hx => by
      by_cases hxi : x = i
      · rw [hxi, fset_e]; omega
      · rw [fset_n hxi]; have := hCf x (by omega); omega)
    rw [show i + 1 - 1 = i by omega, fset_e] at hadd
    rw [hadd] at I5
    have keep : ∀ x, x < nd' → x ≠ A → (∀ y, y < i → y + 1 = i → x ≠ Cf y) → NodeEq (mkV h' 0 (-1) (ftk n fM') (nI a') (nI o) (nI nd') (nI oc) (nI wt) so wh oe tw th nx tk os wa wf).2.2.1 (mkV h2 0 (-1) (ftk n m2f) (nI a2) (nI o) (nI n2) (nI oc2) (nI wt2) so2 wh' oe' tw' th2 nx' tk2 os2 wa2 wf2).2.2.1 x := by
      intro x hx hxA hxl
      obtain ⟨t1, t2, t3⟩ := r4 x hxA
      refine ne_trans (I14 x hx) ⟨rfl, t1, t2, t3, rfl, r5 x ?_, rfl⟩
      rintro ⟨v1, v2⟩
      rw [show i + 1 - 2 = i - 1 by omega, fset_n (by omega)] at v2
      exact hxl (i - 1) (by omega) (by omega) v2
    have keepR : ∀ x, x < i → AgN (mkV h' 0 (-1) (ftk n fM') (nI a') (nI o) (nI nd') (nI oc) (nI wt) so wh oe tw th nx tk os wa wf).2.2.1 (mkV h2 0 (-1) (ftk n m2f) (nI a2) (nI o) (nI n2) (nI oc2) (nI wt2) so2 wh' oe' tw' th2 nx' tk2 os2 wa2 wf2).2.2.1 (Nf x) (Nf (x + 1)) (Cf x) := by
      intro x hx y y1 y2
      have z1 := mN (k := x) (j := 0) (by omega) (by omega)
      have z2 := mN (k := i) (j := x + 1) (by omega) (by omega)
      obtain ⟨t20, t21, t22, t23, t24, t25, t26⟩ := I14 y (by omega)
      obtain ⟨t1, t2, t3⟩ := r4 y (by omega)
      refine ⟨t20, t1.trans t21, t2.trans t22, t3.trans t23, t24, t26, fun hy => (r5 y ?_).trans t25⟩
      rintro ⟨v1, v2⟩
      rw [show i + 1 - 2 = i - 1 by omega, fset_n (by omega)] at v2
      have v3 := hSt (i - 1) (by omega)
      rcases Nat.lt_or_ge x (i - 1) with v4 | v4
      · have := mN (k := i - 1) (j := x + 1) (by omega) (by omega)
        omega
      · exact hy (by rw [v2, show i - 1 = x by omega])
    refine ⟨a2, by omega, by omega, l2, n2, f2, m2f, v2, vm2, j + jj + 1, ag2, g2, h2, _, tv2, fset Cf i N2, fset Pf (i + 1) l2, fset Nf (i + 1) n2, fset Ta (i + 1) a2, fset Yf (i + 1) v2, ⟨_, _, _, rfl⟩, ⟨oc2, wt2, hoc2, _, _, _, _, _, _, _, _, _, _, rfl⟩, st_trans (st_trans i3 I3) (st_one I4.1 I4.2 I5), I6, I7, frv_trans i6 I8 (fun hg => (i7 (I9 hg).1).2) (Nat.le_refl _) (fun hg => (I9 hg).1), fun hg => ⟨(i7 (I9 hg).1).1, by have y1 := (i7 (I9 hg).1).2; have y2 := (I9 hg).2; omega⟩, I10, by omega, ⟨by omega, by omega, by omega, by omega, by omega, by omega, by omega, by omega⟩, fw_trans i10 I13 (by omega), fun x hx => ne_trans (i11 x hx) (keep x (by omega) (by omega) (fun y y1 _ e => by have := hCf y y1; omega)), ⟨s20, r1, ?_, fun h0 => absurd h0 (by omega), fun _ => ⟨r2, by rw [show i + 1 - 1 = i by omega]; exact r3⟩, fun x hx => ?_, fun _ => ?_⟩, ⟨?_, fset_e, ?_, fset_e, ?_, fset_e, ?_, fset_e⟩, fun x hx => ?_, ?_⟩
    · refine (r5 A ?_).trans (s25.trans q25)
      rintro ⟨v1, v2⟩
      rw [show i + 1 - 2 = i - 1 by omega, fset_n (by omega)] at v2
      have := hCf (i - 1) (by omega)
      omega
    · rcases Nat.lt_or_ge (x + 1) i with v1 | v1
      · rw [fset_n (by omega), fset_n (by omega)]
        have y1 := hCf x (by omega)
        have y2 := hSt x (by omega)
        refine ((keep (Cf x) (by omega) (by omega) (fun y y1' y3 e => ?_)).2.2.2.2.2.1).trans (qn x v1)
        have y4 := hSt y y1'
        have := mN (k := y) (j := x + 1) (by omega) (by omega)
        omega
      · rw [fset_n (by omega), show x + 1 = i by omega, fset_e]
        have := r6 (by omega)
        rw [show i + 1 - 2 = x by omega, show i + 1 - 1 = i by omega, fset_e, fset_n (by omega)] at this
        exact this
    · rw [show i + 1 - 1 = i by omega, fset_e]
      refine (r5 N2 ?_).trans I12
      rintro ⟨v1, v2⟩
      rw [show i + 1 - 2 = i - 1 by omega, fset_n (by omega)] at v2
      have := hCf (i - 1) (by omega)
      omega
    · rw [fset_n (by omega)]; exact e1
    · rw [fset_n (by omega)]; exact e3
    · rw [fset_n (by omega)]; exact e5
    · rw [fset_n (by omega)]; exact e7
    · rcases Nat.lt_or_ge x i with v1 | v1
      · obtain ⟨z1, z2, z3, z4, z5, z6⟩ := hSt x v1
        rw [fset_n (show x ≠ i by omega), fset_n (show x ≠ i + 1 by omega), fset_n (show x + 1 ≠ i + 1 by omega), fset_n (show x ≠ i + 1 by omega), fset_n (show x + 1 ≠ i + 1 by omega), fset_n (show x ≠ i + 1 by omega), fset_n (show x + 1 ≠ i + 1 by omega), fset_n (show x ≠ i + 1 by omega), fset_n (show x + 1 ≠ i + 1 by omega)]
        refine ⟨sq_keep z1 (fun y y1 y2 => I13 y ?_) (keepR x v1) (by omega), z2, z3, z4, z5, fun hf => z6 (by omega)⟩
        have := mP (k := i) (j := x + 1) (by omega) (by omega)
        omega
      · obtain rfl : x = i := by omega
        rw [fset_e, fset_e, fset_e, fset_e, fset_e, fset_n (show x ≠ x + 1 by omega), fset_n (show x ≠ x + 1 by omega), fset_n (show x ≠ x + 1 by omega), fset_n (show x ≠ x + 1 by omega), e2, e4, e6, e8]
        refine ⟨sq_keep I15 (fun y _ _ => ⟨rfl, rfl, rfl⟩) (fun y y1 y2 => ?_) (Nat.le_refl _), by omega, by omega, by omega, by omega, fun hf => ?_⟩
        · obtain ⟨t1, t2, t3⟩ := r4 y (by omega)
          refine ⟨rfl, t1, t2, t3, rfl, rfl, fun _ => r5 y ?_⟩
          rintro ⟨v1, v2⟩
          rw [show x + 1 - 2 = x - 1 by omega, fset_n (by omega)] at v2
          have := hCf (x - 1) (by omega)
          omega
        · have hg : ag2 := by rcases I10 with e | e; exact e; omega
          have y1 := (i7 (I9 hg).1).2
          have y2 := (I9 hg).2
          omega
    · exact I16
  · right
    exact ⟨r, q, j + jj, m', cb_base i6.1 hb1, st_trans i3 hb2, mb_base i6.2.1 hb3, by omega⟩
/-- all statements of a block -/
theorem bl_all (hStP : StP n K p V d o) (ho1 : 1 ≤ o) (ho : o ≤ 12) (hn : n ≤ 220) (ha0 : 1 ≤ a0) (hl : l ≤ 2 * a0) (hA : A < a0) (har : 1 ≤ ar) (har2 : ar ≤ o) (hdp : dp ≤ o) (h36 : h.2.2.1 36 (ar - 1) = nI A) :
    ∀ (r N i a' : Nat) (c' : St), BL n K p V g h c0 m0 c' fC a0 o l A vc sb dp ar ag i a' → n - a' ≤ r → r < N →
      ∃ x c2, tGrammar_statements_L (tG d) N 1 c' (nI i) = some (x, c2) ∧ ((∃ i2 a2, BL n K p V g h c0 m0 c2 fC a0 o l A vc sb dp ar ag i2 a2 ∧ (K a2 = 125 ∨ K a2 = 0)) ∨ BBad n g h m0 c2 a0) := by
  intro r
  induction r with
  | zero =>
    intro N i a' c' hb h1 h2
    obtain ⟨N, rfl⟩ : ∃ j, N = j + 1 := ⟨N - 1, by omega⟩
    obtain ⟨l', nd', fC', fM', vc', vm', j, ag', g', h', m', tv', Cf, Pf, Nf, Ta, Yf, ⟨co, op, sz, rfl⟩, y1, y2, B, y3, y4, y5, y6, y7, ⟨j1, j2, j3, j4, j5, j6, j7, j8⟩, y8⟩ := id hb
    have hk0 : K a' = 0 := B.2.1.1.2 a' (by omega)
    rw [statements_L1]
    unfold tGrammar_statements_b1
    rw [if_neg (show ¬ (220 : Int32) ≤ nI i from fun e => absurd ((nI_leI (a := 220) (by omega) (by omega)).mp e) (by omega)), b1S (w_kind B.1 (by omega)), if_neg (by rw [hk0]; decide), b1S (w_kind B.1 (by omega)), if_pos hk0]
    exact ⟨0, _, rfl, Or.inl ⟨i, a', hb, Or.inr hk0⟩⟩
  | succ r ih =>
    intro N i a' c' hb h1 h2
    obtain ⟨N, rfl⟩ : ∃ j, N = j + 1 := ⟨N - 1, by omega⟩
    obtain ⟨l', nd', fC', fM', vc', vm', j, ag', g', h', m', tv', Cf, Pf, Nf, Ta, Yf, ⟨co, op, sz, rfl⟩, y1, y2, B, y3, y4, y5, y6, y7, ⟨j1, j2, j3, j4, j5, j6, j7, j8⟩, y8⟩ := id hb
    rw [statements_L1]
    unfold tGrammar_statements_b1
    rw [if_neg (show ¬ (220 : Int32) ≤ nI i from fun e => absurd ((nI_leI (a := 220) (by omega) (by omega)).mp e) (by omega)), b1S (w_kind B.1 (by omega))]
    by_cases h125 : K a' = 125
    · rw [if_pos h125]
      exact ⟨0, _, rfl, Or.inl ⟨i, a', hb, Or.inl h125⟩⟩
    rw [if_neg h125, b1S (w_kind B.1 (by omega))]
    by_cases h0 : K a' = 0
    · rw [if_pos h0]
      exact ⟨0, _, rfl, Or.inl ⟨i, a', hb, Or.inr h0⟩⟩
    rw [if_neg h0]
    obtain ⟨x, c2, e1, hres⟩ := bl_step hStP ho1 ho hn ha0 hl hA har har2 hdp h36 hb h125
    rw [b2S e1, nI_suc]
    rcases hres with ⟨a2, q1, q2, q3⟩ | ⟨r', q', jb, mb, hb1, hb2, hb3, hb4⟩
    · exact ih N (i + 1) a2 c2 q3 (by omega) (by omega)
    · obtain ⟨N, rfl⟩ : ∃ j, N = j + 1 := ⟨N - 1, by omega⟩
      obtain ⟨x', u, hu1, hu2⟩ := kb_statements_L (rec := tG d) (N := N + 1) (x1 := nI (i + 1)) hb1 (by omega)
      exact ⟨x', u, hu1, Or.inr ⟨r', q', jb, mb, hu2, hb2, hb3, hb4⟩⟩
end SB
