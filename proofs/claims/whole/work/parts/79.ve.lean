/-! Calls that take values along. -/
theorem mono_le {f : Nat → Nat} {i : Nat} (h : ∀ j, j < i → f j ≤ f (j + 1)) : ∀ {k j : Nat}, j ≤ k → k ≤ i → f j ≤ f k := by
  intro k
  induction k with
  | zero => intro j h1 _; obtain rfl : j = 0 := by omega
            exact Nat.le_refl _
  | succ k ih =>
    intro j h1 h2
    rcases Nat.lt_or_ge j (k + 1) with h3 | h3
    · exact Nat.le_trans (ih (by omega) (by omega)) (h k (by omega))
    · obtain rfl : j = k + 1 := by omega
      exact Nat.le_refl _
def fset (f : Nat → Nat) (k x : Nat) : Nat → Nat := fun j => if j = k then x else f j
theorem fset_e {f : Nat → Nat} {k x : Nat} : fset f k x k = x := if_pos rfl
theorem fset_n {f : Nat → Nat} {k x j : Nat} (h : j ≠ k) : fset f k x j = f j := if_neg h
def ArgsAt (n : Nat) (K : Nat → Int32) (C M : Nat → Nat → Int32) (f o vc i : Nat) (Cf Pf Nf Ta Te : Nat → Nat) : Prop := ∀ j, j < i → VQ n K C M f (Ta j) (Te j) (o + 1) (Pf j) (Pf (j + 1)) (Nf j) (Nf (j + 1)) (Cf j) vc ∧ Ta j < Te j ∧ Te j + 1 = Ta (j + 1) ∧ Pf j < Pf (j + 1) ∧ Nf j ≤ Cf j ∧ Cf j < Nf (j + 1)
/-- i values of a call have been read; the last one is not yet in the list -/
def GA (n : Nat) (K : Nat → Int32) (p : Nat → Nat) (g h c0 m0 c' : St) (fC fM a o l nd oc wt vc : Nat) (ag : Prop) (hm : Int32) (i a' : Nat) : Prop :=
  ∃ (l' nd' fC' fM' j k : Nat) (m1 m2 : St) (Cf Pf Nf Ta Te : Nat → Nat),
    PW n p g c' fC' a' (o + 1) l' ∧ PV n h m2 fM' a' (o + 1) nd' (oc + 1) (wt + 1) ∧ VSteps j 1 m0 0 m1 ∧ (m1.1 29 = 0 ∧ m1.1 31 = nI a' ∧ SameT h m1) ∧ SSt (nI (max 1 (sth (K a')))) k m1 m2 ∧ sth (K a') = 0 ∧
    (a + 2 < a' ∧ a' ≤ n ∧ l ≤ l' ∧ l' + 4 ≤ l + 2 * (a' - a) ∧ nd' + 1 ≤ nd + (a' - a) ∧ j ≤ a' - a ∧ k ≤ 12 ∧ i + 1 < a' - a) ∧ FW c0 c' l ∧ FV m0 m2 nd oc wt ∧ (m2.2.2.1 34 wt = 34 ∧ m2.2.2.1 35 wt = nI nd ∧ m2.2.2.1 33 oc = nI (Cf (i - 1))) ∧
    (m2.2.2.1 20 nd = 5 ∧ m2.2.2.1 21 nd = nI (i - 1) ∧ m2.2.2.1 24 nd = hm ∧ m2.2.2.1 26 nd = nI a) ∧ ((i = 1 → m2.2.2.1 22 nd = -1) ∧ (2 ≤ i → m2.2.2.1 22 nd = nI (Cf 0) ∧ m2.2.2.1 23 nd = nI (Cf (i - 2)))) ∧ (∀ j, j + 3 ≤ i → m2.2.2.1 25 (Cf j) = nI (Cf (j + 1))) ∧
    (1 ≤ i ∧ Pf 0 = l ∧ Pf i = l' ∧ Nf 0 = nd + 1 ∧ Nf i = nd' ∧ Ta 0 = a + 2 ∧ Te (i - 1) = a') ∧ ArgsAt n K c'.2.2.1 m2.2.2.1 fC' o vc i Cf Pf Nf Ta Te ∧ BI ag a fC fC' fM fM' (fun t => (¬ hm = -1 ∧ t = a) ∨ NH m2.2.2.1 (nd + 1) nd' t)
section VE
variable {n : Nat} {K : Nat → Int32} {p : Nat → Nat} {V : Nat → Int64} {g h : St} {tv : Nat → Nat} {vc vm ar : Nat} {ag : Prop} {co op sz so wh oe tw th nx tk os wa wf : Nat → Int32} {fC fM a o l nd oc wt : Nat}
/-- one part more in a list -/
theorem ga_add {y q ft A O ND OC WT : Int32} {Cf : Nat → Nat} {i : Nat} (hi : 1 ≤ i) (hnd : nd < 500) (h21 : wh nd = nI (i - 1)) (h1 : i = 1 → oe nd = -1) (h2 : 2 ≤ i → oe nd = nI (Cf 0) ∧ tw nd = nI (Cf (i - 2))) (hC : ∀ j, j < i → Cf j < 500) :
    ∃ wh' oe' tw' nx' : Nat → Int32, tModel_addLast (mkV h y q ft A O ND OC WT so wh oe tw th nx tk os wa wf) (nI nd) (nI (Cf (i - 1))) = some (mkV h y q ft A O ND OC WT so wh' oe' tw' th nx' tk os wa wf) ∧ wh' nd = nI i ∧ oe' nd = nI (Cf 0) ∧ tw' nd = nI (Cf (i - 1)) ∧ (∀ x, x ≠ nd → wh' x = wh x ∧ oe' x = oe x ∧ tw' x = tw x) ∧ (∀ x, ¬ (2 ≤ i ∧ x = Cf (i - 2)) → nx' x = nx x) ∧ (2 ≤ i → nx' (Cf (i - 2)) = nI (Cf (i - 1))) := by
  rcases Nat.lt_or_ge 1 i with h3 | h3
  · obtain ⟨e1, e2⟩ := h2 h3
    have hc0 := hC 0 (by omega)
    refine ⟨_, _, _, _, v_addNext hnd (by rw [e1]; exact nI_nneg (by omega)) h21 e2 (hC (i - 2) (by omega)), upd_e.trans (by rw [show i - 1 + 1 = i by omega]), e1, upd_e, fun x hx => ⟨upd_n hx, rfl, upd_n hx⟩, fun x hx => upd_n (by omega), fun _ => upd_e⟩
  · obtain rfl : i = 1 := by omega
    have e1 := h1 rfl
    refine ⟨_, _, _, _, v_addFirst hnd (by rw [e1]; exact neg1_lt) h21, upd_e, upd_e, upd_e, fun x hx => ⟨upd_n hx, upd_n hx, upd_n hx⟩, fun x hx => rfl, fun h => absurd h (by omega)⟩
theorem ga_first {c2 : St} (B : Bs n K p V g h tv vc vm ar ag) (ho1 : 1 ≤ o) (ho : o < 12) (hk : K a = 1) (hk1 : K (a + 1) = 40) (hk2 : ¬ K (a + 2) = 41) (ha : a + 1 < n) (hl : l ≤ 2 * a) (hnd : nd ≤ a) (hoc : oc ≤ 12) (hwt : wt ≤ 12)
    (hi : VOk n K p g h (mkW g 0 (-1) (wn n p (if fnd (g.2.2.2 1) vc (V a) = -1 then fC else min fC a)) (nI (a + 2)) (nI (o + 1)) (nI l) co op sz) (mkV h 0 (-1) (ftk n fM) (nI (a + 2)) (nI (o + 1)) (nI (nd + 1)) (nI oc) (nI (wt + 1)) (upd so nd 5) (upd wh nd 0) (upd oe nd (-1)) (upd tw nd (-1)) (upd (upd th nd (-1)) nd (fnd (fun i => V (tv i)) vm (V a))) (upd nx nd (-1)) (upd (upd tk nd (nI (a + 1))) nd (nI a)) os (upd wa wt 34) (upd wf wt (nI nd))) c2 1 (if fnd (g.2.2.2 1) vc (V a) = -1 then fC else min fC a) fM (a + 2) (o + 1) l (nd + 1) oc (wt + 1) vc ag 1) :
    ∃ a', GA n K p g h (mkW g 0 (-1) (wn n p fC) (nI a) (nI o) (nI l) co op sz) (mkV h 0 (-1) (ftk n fM) (nI a) (nI o) (nI nd) (nI oc) (nI wt) so wh oe tw th nx tk os wa wf) c2 fC fM a o l nd oc wt vc ag (fnd (fun i => V (tv i)) vm (V a)) 1 a' := by
  have B' := B
  obtain ⟨B1, B2, B3, B4, B5, B6, B7, B8⟩ := B
  have hn := B2.1.1
  obtain ⟨a', l', nd', fC', fM', N, j, k, m1, m2, ⟨co', op', sz', rfl⟩, ⟨so', wh', oe', tw', th', nx', tk', os', wa', wf', rfl⟩, i3, i4, i5, i6, ⟨j1, j2, j3, j4, j5, j6, j7, j8, j9⟩, i8, i9, i10, i11, i12⟩ := hi
  have first : VSteps 1 1 (mkV h 0 (-1) (ftk n fM) (nI a) (nI o) (nI nd) (nI oc) (nI wt) so wh oe tw th nx tk os wa wf) 1 _ := vs_one rfl (show vStep 1 _ = _ from (if_neg (by decide)).trans (bv_call B2 B4 ha hk hk1 hk2 ho (by omega) (by omega)))
  obtain ⟨n20, n21, n22, n23, n24, n25, n26⟩ := i9.1 nd (by omega)
  refine ⟨a', l', nd', fC', fM', 1 + j, k, m1, _, fun _ => N, fun j => if j = 0 then l else l', fun j => if j = 0 then nd + 1 else nd', fun j => if j = 0 then a + 2 else a' + 1, fun _ => a', ⟨_, _, _, rfl⟩, ⟨_, _, _, _, _, _, _, _, _, _, rfl⟩, vs_trans first i3, i4, i5, by omega, ⟨by omega, by omega, by omega, by omega, by omega, by omega, by omega, by omega⟩, i8, ⟨fun i hi => ?_, i9.2.1, fun i hi => ?_⟩, ⟨(i9.2.2 wt (by omega)).1.trans upd_e, (i9.2.2 wt (by omega)).2.trans upd_e, i10⟩, ⟨n20.trans upd_e, n21.trans upd_e, n24.trans upd_e, n26.trans upd_e⟩, ⟨fun _ => n22.trans upd_e, fun h => absurd h (by omega)⟩, fun j hj => absurd hj (by omega), ⟨by omega, rfl, rfl, rfl, rfl, rfl, rfl⟩, fun j hj => ?_, ?_⟩
  · obtain ⟨q1, q2, q3, q4, q5, q6, q7⟩ := i9.1 i (by omega)
    exact ⟨q1.trans (upd_n (by omega)), q2.trans (upd_n (by omega)), q3.trans (upd_n (by omega)), q4.trans (upd_n (by omega)), q5.trans ((upd_n (by omega)).trans (upd_n (by omega))), q6.trans (upd_n (by omega)), q7.trans ((upd_n (by omega)).trans (upd_n (by omega)))⟩
  · obtain ⟨q1, q2⟩ := i9.2.2 i (by omega)
    exact ⟨q1.trans (upd_n (by omega)), q2.trans (upd_n (by omega))⟩
  · obtain rfl : j = 0 := by omega
    exact ⟨i11, j1, rfl, j3, j5, j6⟩
  · exact bi_comp (bi_hide (hc := fnd (g.2.2.2 1) vc (V a)) (hm := fnd (fun i => V (tv i)) vm (V a)) (fun hg => bs_fnd B' hg)) i12 (by omega) fun t => Iff.rfl
/-- a value more -/
theorem ga_next {c0 m0 c1 : St} {hm : Int32} {i a' : Nat} (B : Bs n K p V g h tv vc vm ar ag) (ho1 : 1 ≤ o) (ho : o < 12) (hl : l ≤ 2 * a) (hnd : nd ≤ a) (hoc : oc ≤ 12) (hwt : wt ≤ 12) (hA : GA n K p g h c0 m0 c1 fC fM a o l nd oc wt vc ag hm i a') (hk : K a' = 44) :
    ∃ (l' nd' fC' fM' : Nat) (co op sz so wh oe tw th nx tk os wa wf : Nat → Int32) (j : Nat), tCursor_pass c1 44 = some (mkW g 0 (-1) (wn n p fC') (nI (a' + 1)) (nI (o + 1)) (nI l') co op sz) ∧ VSteps j 1 m0 1 (mkV h 0 (-1) (ftk n fM') (nI (a' + 1)) (nI (o + 1)) (nI nd') (nI oc) (nI (wt + 1)) so wh oe tw th nx tk os wa wf) ∧ l' ≤ 2 * (a' + 1) ∧ nd' ≤ a' + 1 ∧ a' + 1 ≤ n ∧ wa wt = 34 ∧ j + a ≤ a' + 1 ∧ (fC' ≤ fC) ∧ i + 1 < a' - a ∧
      ∀ c2, VOk n K p g h (mkW g 0 (-1) (wn n p fC') (nI (a' + 1)) (nI (o + 1)) (nI l') co op sz) (mkV h 0 (-1) (ftk n fM') (nI (a' + 1)) (nI (o + 1)) (nI nd') (nI oc) (nI (wt + 1)) so wh oe tw th nx tk os wa wf) c2 1 fC' fM' (a' + 1) (o + 1) l' nd' oc (wt + 1) vc ag 1 →
        ∃ a2, a' < a2 ∧ GA n K p g h c0 m0 c2 fC fM a o l nd oc wt vc ag hm (i + 1) a2 := by
  have B' := B
  obtain ⟨B1, B2, B3, B4, B5, B6, B7, B8⟩ := B
  have hn := B2.1.1
  obtain ⟨l', nd', fC', fM', j, k, m1, m2, Cf, Pf, Nf, Ta, Te, ⟨co, op, sz, rfl⟩, ⟨so, wh, oe, tw, th, nx, tk, os, wa, wf, rfl⟩, i3, i4, i5, i6, ⟨j1, j2, j3, j4, j5, j6, j7, j8⟩, i8, i9, ⟨w1, w2, w3⟩, ⟨c20, c21, c24, c26⟩, ⟨d1, d2⟩, dn, ⟨e1, e2, e3, e4, e5, e6, e7⟩, hAr, hBI⟩ := hA
  have ha1 := kz_lt B1 hk (by decide)
  have mN : ∀ {k j : Nat}, j ≤ k → k ≤ i → Nf j ≤ Nf k := mono_le (fun j hj => by have := hAr j hj; omega)
  have mP : ∀ {k j : Nat}, j ≤ k → k ≤ i → Pf j ≤ Pf k := mono_le (fun j hj => by have := hAr j hj; omega)
  have hCf : ∀ j, j < i → nd < Cf j ∧ Cf j < nd' := fun j hj => by
    have q1 := hAr j hj
    have q2 := mN (k := j) (j := 0) (by omega) (by omega)
    have q3 := mN (k := i) (j := j + 1) (by omega) (by omega)
    omega
  have hndl : nd < nd' := by
    have q1 := mN (k := i) (j := 0) (by omega) (by omega)
    omega
  have w1' : wa wt = 34 := w1
  have w2' : wf wt = nI nd := w2
  have w3' : os oc = nI (Cf (i - 1)) := w3
  obtain ⟨wh', oe', tw', nx', hadd, q1, q2, q3, q4, q5, q6⟩ := ga_add (h := h) (y := 0) (q := -1) (ft := ftk n fM') (A := nI a') (O := nI (o + 1)) (ND := nI nd') (OC := nI oc) (WT := nI (wt + 1)) (so := so) (wh := wh) (oe := oe) (tw := tw) (th := th) (nx := nx) (tk := tk) (os := os) (wa := wa) (wf := wf) (Cf := Cf) (i := i) (nd := nd) e1 (by omega) c21 d1 d2 (fun j hj => by have := hCf j hj; omega)
  have hst := vs_close B2 j2 i4 i5 i6 (Or.inr ⟨wt, rfl, Or.inr (Or.inr (Or.inl w1'))⟩) (by omega) (by omega)
  rw [cb_comma B2 j2 w1' w2' hk (by omega) (by omega) (by rw [w3']; exact hadd)] at hst
  refine ⟨l', nd', fC', fM', co, op, sz, so, wh', oe', tw', th, nx', tk, os, wa, wf, j + 1, w_pass B1 j2 hk, vs_trans i3 (vs_one i4.1 hst), by omega, by omega, by omega, w1', by omega, ?_, j8, fun c2 hv => ?_⟩
  · obtain ⟨X, Y, -, -, b3, -⟩ := hBI
    omega
  obtain ⟨a2, l2, nd2, fC2, fM2, N, jj, kk, m1', m2', ⟨co2, op2, sz2, rfl⟩, ⟨so2, wh2, oe2, tw2, th2, nx2, tk2, os2, wa2, wf2, rfl⟩, I3, I4, I5, I6, ⟨J1, J2, J3, J4, J5, J6, J7, J8, J9⟩, I8, I9, I10, I11, I12⟩ := hv
  obtain ⟨n20, n21, n22, n23, n24, n25, n26⟩ := I9.1 nd (by omega)
  have hTa : Ta i = a' + 1 := by
    have := (hAr (i - 1) (by omega)).2.2.1
    rw [e7, show i - 1 + 1 = i by omega] at this
    omega
  -- the rows of the earlier values
  have hkeep : ∀ j, j < i → AgN (mkV h 0 (-1) (ftk n fM') (nI a') (nI (o + 1)) (nI nd') (nI (oc + 1)) (nI (wt + 1)) so wh oe tw th nx tk os wa wf).2.2.1 (mkV h 0 (-1) (ftk n fM2) (nI a2) (nI (o + 1)) (nI nd2) (nI (oc + 1)) (nI (wt + 1)) so2 wh2 oe2 tw2 th2 nx2 tk2 os2 wa2 wf2).2.2.1 (Nf j) (Nf (j + 1)) (Cf j) := by
    intro j hj x x1 x2
    have r1 := mN (k := j) (j := 0) (by omega) (by omega)
    have r2 := mN (k := i) (j := j + 1) (by omega) (by omega)
    obtain ⟨s20, s21, s22, s23, s24, s25, s26⟩ := I9.1 x (by omega)
    obtain ⟨t1, t2, t3⟩ := q4 x (by omega)
    refine ⟨s20, s21.trans t1, s22.trans t2, s23.trans t3, s24, s26, fun hx => s25.trans (q5 x ?_)⟩
    rintro ⟨v1, v2⟩
    have v3 := hAr (i - 2) (by omega)
    rcases Nat.lt_or_ge j (i - 2) with v4 | v4
    · have := mN (k := i - 2) (j := j + 1) (by omega) (by omega)
      omega
    · rcases Nat.lt_or_ge (i - 2) j with v5 | v5
      · have := mN (k := j) (j := i - 2 + 1) (by omega) (by omega)
        omega
      · exact hx (by rw [v2, show i - 2 = j by omega])
  refine ⟨a2, by omega, l2, nd2, fC2, fM2, j + 1 + jj, kk, m1', _, fset Cf i N, fset Pf (i + 1) l2, fset Nf (i + 1) nd2, fset Ta (i + 1) (a2 + 1), fset Te i a2, ⟨_, _, _, rfl⟩, ⟨_, _, _, _, _, _, _, _, _, _, rfl⟩, vs_trans (vs_trans i3 (vs_one i4.1 hst)) I3, I4, I5, by omega, ⟨by omega, by omega, by omega, by omega, by omega, by omega, by omega, by omega⟩, fw_trans i8 I8 (by omega), ?_, ⟨?_, ?_, ?_⟩, ⟨?_, ?_, ?_, ?_⟩, ⟨fun h => absurd h (by omega), fun _ => ⟨?_, ?_⟩⟩, fun jx hjx => ?_, ⟨by omega, ?_, ?_, ?_, ?_, ?_, ?_⟩, fun jx hjx => ?_, ?_⟩
  · refine ⟨fun x hx => ?_, fun x hx => (I9.2.1 x hx).trans (i9.2.1 x hx), fun x hx => ⟨(I9.2.2 x (by omega)).1.trans (i9.2.2 x hx).1, (I9.2.2 x (by omega)).2.trans (i9.2.2 x hx).2⟩⟩
    obtain ⟨s20, s21, s22, s23, s24, s25, s26⟩ := I9.1 x (by omega)
    obtain ⟨t1, t2, t3⟩ := q4 x (by omega)
    refine ne_trans (i9.1 x hx) ⟨s20, s21.trans t1, s22.trans t2, s23.trans t3, s24, s25.trans (q5 x ?_), s26⟩
    rintro ⟨v1, v2⟩
    have := hCf (i - 2) (by omega)
    omega
  · exact (I9.2.2 wt (by omega)).1.trans w1'
  · exact (I9.2.2 wt (by omega)).2.trans w2'
  · rw [show i + 1 - 1 = i by omega, fset_e]; exact I10
  · exact n20.trans c20
  · rw [show i + 1 - 1 = i by omega]; exact n21.trans q1
  · exact n24.trans c24
  · exact n26.trans c26
  · rw [fset_n (by omega)]; exact n22.trans q2
  · rw [show i + 1 - 2 = i - 1 by omega, fset_n (by omega)]; exact n23.trans q3
  · rw [fset_n (by omega), fset_n (by omega)]
    have v1 := hCf jx (by omega)
    refine ((I9.1 (Cf jx) (by omega)).2.2.2.2.2.1).trans ?_
    show nx' (Cf jx) = nI (Cf (jx + 1))
    rcases Nat.lt_or_ge (jx + 2) i with v2 | v2
    · rw [q5 (Cf jx) ?_]
      · exact dn jx (by omega)
      · rintro ⟨v3, v4⟩
        have v5 := hAr jx (by omega)
        have v6 := hAr (i - 2) (by omega)
        have v7 := mN (k := i - 2) (j := jx + 1) (by omega) (by omega)
        omega
    · rw [show jx = i - 2 by omega, q6 (by omega), show i - 2 + 1 = i - 1 by omega]
  · rw [fset_n (by omega)]; exact e2
  · rw [fset_e]
  · rw [fset_n (by omega)]; exact e4
  · rw [fset_e]
  · rw [fset_n (by omega)]; exact e6
  · rw [show i + 1 - 1 = i by omega, fset_e]
  · rcases Nat.lt_or_ge jx i with v1 | v1
    · obtain ⟨z1, z2, z3, z4, z5, z6⟩ := hAr jx v1
      rw [fset_n (show jx ≠ i by omega), fset_n (show jx ≠ i + 1 by omega), fset_n (show jx + 1 ≠ i + 1 by omega), fset_n (show jx ≠ i + 1 by omega), fset_n (show jx + 1 ≠ i + 1 by omega), fset_n (show jx ≠ i + 1 by omega), fset_n (show jx + 1 ≠ i + 1 by omega), fset_n (show jx ≠ i by omega)]
      refine ⟨vq_keep z1 (fun x x1 x2 => I8 x ?_) (hkeep jx v1) ?_, z2, z3, z4, z5, z6⟩
      · have := mP (k := i) (j := jx + 1) (by omega) (by omega)
        omega
      · obtain ⟨X, Y, -, -, b3, -⟩ := I12
        omega
    · obtain rfl : jx = i := by omega
      rw [fset_e, fset_e, fset_e, fset_e, fset_e, fset_n (show jx ≠ jx + 1 by omega), fset_n (show jx ≠ jx + 1 by omega), fset_n (show jx ≠ jx + 1 by omega), e3, e5, hTa]
      exact ⟨I11, by omega, rfl, by omega, by omega, by omega⟩
  · refine bi_comp hBI I12 (by omega) fun t => ?_
    rw [nh_split (m := nd') (by omega) (by omega), or_assoc]
    refine or_congr Iff.rfl (or_congr (nh_congr fun x x1 x2 => ?_) Iff.rfl)
    obtain ⟨s20, s21, s22, s23, s24, s25, s26⟩ := I9.1 x (by omega)
    exact ⟨s20, s24, s26⟩
theorem ex_sum {P : Nat → Nat → Prop} {B : Nat → Nat} : ∀ (i : Nat), (∀ j, j < i → ∃ z, z + 1 ≤ B j ∧ P j z) → (∀ j, j < i → True) → ∃ Z : Nat → Nat, Z 0 = 0 ∧ ∀ j, j < i → ∃ z, Z (j + 1) = Z j + z + 1 ∧ z + 1 ≤ B j ∧ P j z := by
  intro i
  induction i with
  | zero => intro _ _; exact ⟨fun _ => 0, rfl, fun j hj => absurd hj (by omega)⟩
  | succ i ih =>
    intro h _
    obtain ⟨Z, z0, z1⟩ := ih (fun j hj => h j (by omega)) (fun _ _ => trivial)
    obtain ⟨z, hz, hp⟩ := h i (by omega)
    refine ⟨fset Z (i + 1) (Z i + z + 1), by rw [fset_n (by omega)]; exact z0, fun j hj => ?_⟩
    rcases Nat.lt_or_ge j i with v | v
    · rw [fset_n (by omega), fset_n (by omega)]; exact z1 j v
    · obtain rfl : j = i := by omega
      rw [fset_e, fset_n (by omega)]
      exact ⟨z, rfl, hz, hp⟩
theorem cene_args {K : Nat → Int32} {G H : Nat → Nat → Int32} {Pf Nf : Nat → Nat} : ∀ (i : Nat), (∀ j, j < i → Pf j ≤ Pf (j + 1) ∧ Nf j ≤ Nf (j + 1) ∧ ∀ x t k, CE G (Pf j) (Pf (j + 1)) x t k ↔ NE K H (Nf j) (Nf (j + 1)) x t k) → Pf 0 ≤ Pf i ∧ Nf 0 ≤ Nf i ∧ ∀ x t k, CE G (Pf 0) (Pf i) x t k ↔ NE K H (Nf 0) (Nf i) x t k := by
  intro i
  induction i with
  | zero => intro _; exact ⟨Nat.le_refl _, Nat.le_refl _, fun x t k => ⟨fun e => absurd e ce_empty, fun e => absurd e ne_empty⟩⟩
  | succ i ih =>
    intro h
    obtain ⟨a1, a2, a3⟩ := ih (fun j hj => h j (by omega))
    obtain ⟨b1, b2, b3⟩ := h i (by omega)
    exact ⟨by omega, by omega, cene_app a3 b3 a1 b1 a2 b2⟩
/-- the end of a call -/
theorem ga_end {c0 m0 c1 : St} {i a' : Nat} (B : Bs n K p V g h tv vc vm ar ag) (ho1 : 1 ≤ o) (ho : o < 12) (hl : l ≤ 2 * a) (hnd : nd ≤ a) (hoc : oc ≤ 12) (hwt : wt ≤ 12) (hA : GA n K p g h c0 m0 c1 fC fM a o l nd oc wt vc ag (fnd (fun i => V (tv i)) vm (V a)) i a') (hk : K a' = 41) (hka : K a = 1) :
    ∃ c', b1 (tCursor_passClosing c1 41) (fun u10 => b1 (tProgram_add u10 15 (nI a) (nI i)) (fun u11 => some ((0 : Int32), u11))) = some (0, c') ∧ VOk n K p g h c0 m0 c' 1 fC fM a o l nd oc wt vc ag 7 := by
  have B' := B
  obtain ⟨B1, B2, B3, B4, B5, B6, B7, B8⟩ := B
  have hn := B2.1.1
  have hvm := B4.2.1
  obtain ⟨l', nd', fC', fM', j, k, m1, m2, Cf, Pf, Nf, Ta, Te, ⟨co, op, sz, rfl⟩, ⟨so, wh, oe, tw, th, nx, tk, os, wa, wf, rfl⟩, i3, i4, i5, i6, ⟨j1, j2, j3, j4, j5, j6, j7, j8⟩, i8, i9, ⟨w1, w2, w3⟩, ⟨c20, c21, c24, c26⟩, ⟨d1, d2⟩, dn, ⟨e1, e2, e3, e4, e5, e6, e7⟩, hAr, hBI⟩ := hA
  have ha1 := kz_lt B1 hk (by decide)
  have mN : ∀ {k j : Nat}, j ≤ k → k ≤ i → Nf j ≤ Nf k := mono_le (fun j hj => by have := hAr j hj; omega)
  have mP : ∀ {k j : Nat}, j ≤ k → k ≤ i → Pf j ≤ Pf k := mono_le (fun j hj => by have := hAr j hj; omega)
  have mT : ∀ {k j : Nat}, j ≤ k → k ≤ i → Ta j ≤ Ta k := mono_le (fun j hj => by have := hAr j hj; omega)
  have hCf : ∀ j, j < i → nd < Cf j ∧ Cf j < nd' := fun j hj => by
    have q1 := hAr j hj
    have q2 := mN (k := j) (j := 0) (by omega) (by omega)
    have q3 := mN (k := i) (j := j + 1) (by omega) (by omega)
    omega
  have hndl : nd < nd' := by
    have q1 := mN (k := i) (j := 0) (by omega) (by omega)
    omega
  have w1' : wa wt = 34 := w1
  have w2' : wf wt = nI nd := w2
  have w3' : os oc = nI (Cf (i - 1)) := w3
  have c20' : so nd = 5 := c20
  have c24' : th nd = fnd (fun i => V (tv i)) vm (V a) := c24
  have c26' : tk nd = nI a := c26
  obtain ⟨wh', oe', tw', nx', hadd, q1, q2, q3, q4, q5, q6⟩ := ga_add (h := h) (y := 0) (q := -1) (ft := ftk n fM') (A := nI a') (O := nI (o + 1)) (ND := nI nd') (OC := nI oc) (WT := nI (wt + 1)) (so := so) (wh := wh) (oe := oe) (tw := tw) (th := th) (nx := nx) (tk := tk) (os := os) (wa := wa) (wf := wf) (Cf := Cf) (i := i) (nd := nd) e1 (by omega) c21 d1 d2 (fun j hj => by have := hCf j hj; omega)
  have hst := vs_close B2 j2 i4 i5 i6 (Or.inr ⟨wt, rfl, Or.inr (Or.inr (Or.inl w1'))⟩) (by omega) (by omega)
  rw [cb_endcall B2 j2 w1' w2' hk (by omega) (by omega) (by rw [w3']; exact hadd)] at hst
  have hTi : Ta i = a' + 1 := by
    have := (hAr (i - 1) (by omega)).2.2.1
    rw [e7, show i - 1 + 1 = i by omega] at this
    omega
  refine ⟨_, by rw [b1S (w_closing B1 j2 hk), b1S (w_add (by omega))], a' + 1, l' + 1, nd', fC', fM', nd, j + 1, 0, _, _, ⟨_, _, _, rfl⟩, ⟨_, _, _, _, _, _, _, _, _, _, rfl⟩, vs_trans i3 (vs_one i4.1 hst), ⟨rfl, rfl, samev⟩, sst_refl, by have := sth_le (K (a' + 1)); omega, ⟨by omega, by omega, by omega, by omega, by omega, by have := hCf 0 (by omega); omega, by omega, by omega, by omega⟩, ?_, ?_, upd_e, ?_, ?_⟩
  · intro x hx
    obtain ⟨s1, s2, s3⟩ := i8 x hx
    exact ⟨(upd_n (by omega)).trans s1, (upd_n (by omega)).trans s2, (upd_n (by omega)).trans s3⟩
  · refine ⟨fun x hx => ?_, fun x hx => (upd_n (by omega)).trans (i9.2.1 x hx), i9.2.2⟩
    obtain ⟨t1, t2, t3⟩ := q4 x (by omega)
    refine ne_trans (i9.1 x hx) ⟨rfl, t1, t2, t3, rfl, q5 x ?_, rfl⟩
    rintro ⟨v1, v2⟩
    have := hCf (i - 2) (by omega)
    omega
  · intro G H hG hH
    obtain ⟨g6, g7, g8⟩ := hG l' (by omega) (by omega)
    have hnd' : nd < nd' := by have := hCf 0 (by omega); omega
    obtain ⟨h20, h21, h22, -, -, h26, -⟩ := hH nd (by omega) hnd'
    replace g6 : G 6 l' = 15 := g6.trans upd_e
    replace g7 : G 7 l' = nI a := g7.trans upd_e
    replace g8 : G 8 l' = nI i := g8.trans upd_e
    replace h20 : H 20 nd = 5 := h20.trans c20'
    replace h21 : H 21 nd = nI i := h21.trans q1
    replace h22 : H 22 nd = nI (Cf 0) := h22.trans q2
    replace h26 : H 26 nd = nI a := h26.trans c26'
    have each : ∀ j, j < i → AgC (mkW g 0 (-1) (wn n p fC') (nI a') (nI (o + 1)) (nI l') co op sz).2.2.1 G (Pf j) (Pf (j + 1)) ∧ AgN (mkV h 0 (-1) (ftk n fM') (nI a') (nI (o + 1)) (nI nd') (nI (oc + 1)) (nI (wt + 1)) so wh oe tw th nx tk os wa wf).2.2.1 H (Nf j) (Nf (j + 1)) (Cf j) := by
      intro j hj
      have r1 := mN (k := j) (j := 0) (by omega) (by omega)
      have r2 := mN (k := i) (j := j + 1) (by omega) (by omega)
      have r3 := mP (k := j) (j := 0) (by omega) (by omega)
      have r4 := mP (k := i) (j := j + 1) (by omega) (by omega)
      refine ⟨fun x x1 x2 => ?_, fun x x1 x2 => ?_⟩
      · obtain ⟨s1, s2, s3⟩ := hG x (by omega) (by omega)
        exact ⟨s1.trans (upd_n (by omega)), s2.trans (upd_n (by omega)), s3.trans (upd_n (by omega))⟩
      · obtain ⟨s20, s21, s22, s23, s24, s26, s25⟩ := hH x (by omega) (by omega)
        obtain ⟨t1, t2, t3⟩ := q4 x (by omega)
        refine ⟨s20, s21.trans t1, s22.trans t2, s23.trans t3, s24, s26, fun hx => (s25 (by omega)).trans (q5 x ?_)⟩
        rintro ⟨v1, v2⟩
        have v3 := hAr (i - 2) (by omega)
        rcases Nat.lt_or_ge j (i - 2) with v4 | v4
        · have := mN (k := i - 2) (j := j + 1) (by omega) (by omega)
          omega
        · rcases Nat.lt_or_ge (i - 2) j with v5 | v5
          · have := mN (k := j) (j := i - 2 + 1) (by omega) (by omega)
            omega
          · exact hx (by rw [v2, show i - 2 = j by omega])
    have allq : ∀ j, j < i → _ := fun j hj => (hAr j hj).1 G H (each j hj).1 (each j hj).2
    obtain ⟨-, -, hce⟩ := cene_args (G := G) (H := H) (Pf := Pf) (Nf := Nf) i (fun j hj => ⟨by have := hAr j hj; omega, by have := hAr j hj; omega, (allq j hj).1⟩)
    rw [e2, e3, e4, e5] at hce
    refine ⟨fun x t kk => ?_, fun hf G' H' F len nn hF hlen hnn w x hw hx => ?_⟩
    · rw [ce_split (m := l') (by omega) (by omega), ne_split (m := nd + 1) (by omega) (by omega), hce, cene_call g6 h20 g7 h26 (by rw [g8, h21]) ⟨by omega, hka⟩]
      exact or_comm
    obtain ⟨f1, f2, f3, f4, f5⟩ := id hF
    obtain ⟨z4, zz, q, s, z1, z2, z3⟩ := f5 nd l' a i (by omega) (by omega) (by omega) (by omega) h20 g6 g7 h26 g8 h21
    have hlen' : ∀ j, j < i → Pf (j + 1) ≤ len ∧ Nf (j + 1) ≤ nn := fun j hj => by
      have r2 := mN (k := i) (j := j + 1) (by omega) (by omega)
      have r4 := mP (k := i) (j := j + 1) (by omega) (by omega)
      omega
    obtain ⟨Z, Z0, Z1⟩ := ex_sum (P := fun j z => CV G' H' F len nn ((Te j - Ta j + 1) / 2 + (13 - (o + 1))) (Cf j) (Pf j) (Pf (j + 1)) vc (w + j) (x + j) z) (B := fun j => 4 * (Te j - Ta j)) i (fun j hj => (allq j hj).2 hf G' H' F len nn hF (hlen' j hj).1 (hlen' j hj).2 (w + j) (x + j) (by omega) (by omega)) (fun _ _ => trivial)
    have hZ : ∀ j, j ≤ i → Z j ≤ 4 * (Ta j - (a + 2)) := by
      intro j
      induction j with
      | zero => intro _; omega
      | succ j ih =>
        intro hj
        obtain ⟨z, y1, y2, -⟩ := Z1 j (by omega)
        have y3 := hAr j (by omega)
        have y4 := ih (by omega)
        have y5 := mT (k := j) (j := 0) (by omega) (by omega)
        replace y2 : z + 1 ≤ 4 * (Te j - Ta j) := y2
        omega
    have hZi := hZ i (Nat.le_refl _)
    obtain ⟨e6', -⟩ := f2 l' (by omega)
    obtain ⟨i20, i21, i22, -⟩ := f3 nd (by omega)
    obtain ⟨D, hD⟩ : ∃ D, (a' + 1 - a + 1) / 2 + (13 - o) = D + 1 := ⟨(a' + 1 - a + 1) / 2 + (13 - o) - 1, by omega⟩
    rw [hD]
    have hll : l < l' + 1 := by have := mP (k := i) (j := 0) (by omega) (by omega); omega
    refine ⟨Z i + 2, by omega, ⟨by omega, f1⟩, hll, by omega, by omega, by omega, Or.inr (Or.inr (Or.inr (Or.inr (Or.inl ⟨i20.trans h20, i, l', Cf, Pf, Z, fun j => nI (Cf j), z4, rfl, by omega, by omega, rfl, e2, e3, Z0, i21.trans h21, fun _ => i22.trans h22, fun j hj => ⟨rfl, fun hj2 => ?_, ?_⟩, e6'.trans g6, zz, q, s, z1, z2, z3⟩))))⟩
    · have v1 := hCf j hj
      obtain ⟨-, -, -, -, y25, -⟩ := f3 (Cf j) (by omega)
      obtain ⟨-, -, -, -, -, -, x25⟩ := hH (Cf j) (by omega) (by omega)
      refine y25.trans ((x25 (by omega)).trans ?_)
      show nx' (Cf j) = nI (Cf (j + 1))
      rcases Nat.lt_or_ge (j + 2) i with v2 | v2
      · rw [q5 (Cf j) ?_]
        · exact dn j (by omega)
        · rintro ⟨v3, v4⟩
          have v5 := hAr j (by omega)
          have v6 := hAr (i - 2) (by omega)
          have v7 := mN (k := i - 2) (j := j + 1) (by omega) (by omega)
          omega
      · rw [show j = i - 2 by omega, q6 (by omega), show i - 2 + 1 = i - 1 by omega]
    · obtain ⟨z, y1, y2, y3⟩ := Z1 j hj
      refine ⟨z, y1, cv_up ?_ y3⟩
      have u1 := hAr j hj
      have u2 := mT (k := j) (j := 0) (by omega) (by omega)
      have u3 := mT (k := i) (j := j + 1) (by omega) (by omega)
      omega
  · refine bi_congr hBI fun t => ?_
    have hnd' : nd < nd' := by have := hCf 0 (by omega); omega
    rw [nh_split (m := nd + 1) (by omega) (by omega), nh_app (s := a) (hm := fnd (fun i => V (tv i)) vm (V a)) (Nat.le_refl _) (Or.inr c20') c24' c26' (by omega) (fnd_iff (by omega))]
    constructor
    · rintro ((e | e) | e)
      · exact Or.inl e
      · exact absurd e nh_empty
      · exact Or.inr ((nh_congr fun x _ _ => ⟨rfl, rfl, rfl⟩).mp e)
    · rintro (e | e)
      · exact Or.inl (Or.inl e)
      · exact Or.inr ((nh_congr fun x _ _ => ⟨rfl, rfl, rfl⟩).mp e)
/-- a call that does not end -/
theorem ga_bad {c0 m0 c1 : St} {hm : Int32} {i a' : Nat} (B : Bs n K p V g h tv vc vm ar ag) (ho : o < 12) (hl : l ≤ 2 * a) (hnd : nd ≤ a) (hoc : oc ≤ 12) (hwt : wt ≤ 12) (hA : GA n K p g h c0 m0 c1 fC fM a o l nd oc wt vc ag hm i a') (hk : ¬ K a' = 44) (hk1 : ¬ K a' = 41) :
    ∃ c2, tCursor_passClosing c1 41 = some c2 ∧ VBad n g h m0 c2 1 a := by
  have B' := B
  obtain ⟨B1, B2, B3, B4, B5, B6, B7, B8⟩ := B
  have hn := B2.1.1
  obtain ⟨l', nd', fC', fM', j, k, m1, m2, Cf, Pf, Nf, Ta, Te, ⟨co, op, sz, rfl⟩, ⟨so, wh, oe, tw, th, nx, tk, os, wa, wf, rfl⟩, i3, i4, i5, i6, ⟨j1, j2, j3, j4, j5, j6, j7, j8⟩, i8, i9, ⟨w1, w2, w3⟩, -⟩ := hA
  have w1' : wa wt = 34 := w1
  have hst := vs_close B2 j2 i4 i5 i6 (Or.inr ⟨wt, rfl, Or.inr (Or.inr (Or.inl w1'))⟩) (by omega) (by omega)
  rw [cb_bad B2 j2 (by omega) (by omega) (Or.inr (Or.inr ⟨w1', hk, hk1⟩))] at hst
  exact ⟨_, w_closingN B1 j2 hk1, 3, nI (p a'), j + 1, _, _, cb_mkW B' (by decide) (by omega), vs_trans i3 (vs_one i4.1 hst), mb_mono (mb_V B' (by decide) j2 (by omega) (by omega)) (by omega), by omega⟩
end VE
