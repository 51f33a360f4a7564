/-! All names are looked up: forged, or refused. -/
def PR2 (c m : St) : Prop := ∃ (F : Nat → Nat → Nat → Prop) (len nn i s : Nat),
  c.1 13 = nI len ∧ len ≤ 440 ∧ m.1 34 = nI nn ∧ nn ≤ 498 ∧ m.1 44 = nI i ∧ c.1 14 = nI s ∧ F i s 0 ∧
  ∀ i s n : Nat, F i s n → i < 60 ∧ n ≤ 4 ∧ m.2.2.1 29 i = nI n ∧ ∃ B d e z : Nat, m.2.2.1 30 i = nI B ∧ CS c.2.2.1 m.2.2.1 F len nn d B s e n n z ∧ d ≤ 125 ∧ z ≤ 4000 ∧ e + 2 ≤ len ∧ c.2.2.1 6 e = 10 ∧ c.2.2.1 7 e = 0 ∧ c.2.2.1 6 (e + 1) = 7
/-- both have forged -/
def Gf (g0 h0 c m : St) : Prop := (c.1 1 = 0 ∧ c.1 2 = -1) ∧ (m.1 29 = 0 ∧ m.1 30 = -1) ∧ FrC g0 c ∧ FrM h0 m ∧ PR2 c m ∧ (∃ k, c.1 12 = nI k ∧ m.1 36 = nI k) ∧ ((∃ v, v ≤ 12 ∧ c.1 8 = nI v) ∧ (∃ v, v ≤ 12 ∧ c.1 9 = nI v) ∧ (∃ v, v ≤ 12 ∧ c.1 10 = nI v)) ∧ ((∃ v, v ≤ 40 ∧ m.1 40 = nI v) ∧ (∃ v, v ≤ 40 ∧ m.1 42 = nI v))
section JF
variable {n : Nat} {K : Nat → Int32} {p : Nat → Nat} {V : Nat → Int64} {g h g0 h0 : St} {tg : Nat → Nat} {q na nf a o l nd oc wt ar fC fM : Nat} {co op sz so wh oe tw th nx tk os wa wf : Nat → Int32}
theorem w_refW {f : Nat} {A O L : Int32} (T : TkC g n K p V) : tRefusal_refuseWrongName (mkW g 0 (-1) (wn n p f) A O L co op sz) = if f ≤ n then some (mkW g 4 (nI (p f)) (wn n p f) A O L co op sz) else some (mkW g 0 (-1) (wn n p f) A O L co op sz) := by
  unfold tRefusal_refuseWrongName
  rw [mkW_i3]
  by_cases hf : f ≤ n
  · have hp : p f ≤ 480 := by
      obtain ⟨-, -, -, -, -, k6, k7⟩ := T
      rcases Nat.lt_or_ge f n with e | e
      · have := k6 f n e (Nat.le_refl _); omega
      · rw [show f = n by omega]; exact k7
    rw [if_pos hf, show wn n p f = nI (p f) from if_pos hf, if_neg (nI_nneg (by omega))]
    unfold tRefusal_refuse
    rw [mkW_i1, if_pos rfl, mkW_s1, mkW_s2, b1S rfl]
  · rw [if_neg hf, show wn n p f = -1 from if_neg hf, if_pos (by decide)]
/-- nothing is wrong: what the running needs -/
theorem fin_all {f : Nat} {op2 sz2 th2 : Nat → Int32} {C M C' M' : Nat → Nat → Int32} (R : GR n K V g h tg q na nf) (hn : n ≤ 220) (hnd : nd ≤ 499) (hf : n < f) (hfC : f ≤ fC) (hK : ∀ i, n ≤ i → K i = 0)
    (eC : C 6 = co ∧ C 7 = op ∧ C 8 = sz) (eM : M 20 = so ∧ M 21 = wh ∧ M 24 = th ∧ M 26 = tk) (eC' : C' 6 = co ∧ C' 7 = op2 ∧ C' 8 = sz2) (eM' : M' 20 = so ∧ M' 21 = wh ∧ M' 22 = M 22 ∧ M' 23 = M 23 ∧ M' 24 = th2 ∧ M' 25 = M 25 ∧ M' 29 = h.2.2.1 29 ∧ M' 30 = h.2.2.1 30)
    (hE : ∀ x t k, CE C 0 l x t k ↔ NE K M 0 nd x t k)
    (hA : ∀ k, k < q → g.2.2.1 3 k = 0 → ArI n g h fC k) (hN : ∀ k, k < q → g.2.2.1 3 k = 1 → FnI n K g h C M fC l nd k)
    (I : CInv g q V co op sz fC l f op2 sz2) (J : MInv g q V so wh th tk fM nd f th2) :
    Fin C M C' M' (fun k s c => k < q ∧ g.2.2.1 3 k = 1 ∧ g.2.2.1 4 k = nI s ∧ s < 1000 ∧ g.2.2.1 5 k = nI c ∧ c < 1000) l nd := by
  obtain ⟨I1, I2, I3⟩ := I
  obtain ⟨J1, J2, J3⟩ := J
  obtain ⟨c6, c7, c8⟩ := eC
  obtain ⟨m20, m21, m24, m26⟩ := eM
  obtain ⟨c6', c7', c8'⟩ := eC'
  obtain ⟨m20', m21', m22', m23', m24', m25', m29', m30'⟩ := eM'
  have hq := R.2.2.1.2.1
  have ltn : ∀ s, K s = 1 → s < n := fun s hs => by
    rcases Nat.lt_or_ge s n with e | e
    · exact e
    · rw [hK s e] at hs; exact absurd hs (by decide)
  -- nodes
  have okM : ∀ i t, i < nd → (so i = 4 ∨ so i = 5 ∨ so i = 12) → tk i = nI t → t < 1000 → ∃ r, OkI g q V (xM (so i)) t (wh i) r ∧ th2 i = nI r := by
    intro i t hi hk h26 ht
    have hno : ¬ BadM g q V so wh th tk nd t := fun hb => by
      have h1 := J1.2.1 t hb
      obtain ⟨s, s1, s2, s3⟩ := val_n hE hi (by rw [m20]; exact hk)
      rw [m26, h26] at s3
      have := nI_inj (by omega) (by omega) s3
      have := ltn s s2
      omega
    have hth : th i < 0 := by
      refine Classical.byContradiction fun z => hno ⟨i, hi, hk, h26, ht, Or.inl (Int32.not_lt.mp z)⟩
    have hr : ∃ r, OkI g q V (xM (so i)) t (wh i) r := by
      refine Classical.byContradiction fun z => hno ⟨i, hi, hk, h26, ht, Or.inr fun r hr => z ⟨r, hr⟩⟩
    obtain ⟨r, hr⟩ := hr
    exact ⟨r, hr, J3 i t r hi hk h26 ht hth hr⟩
  have okC : ∀ e t, e < l → (co e = 13 ∨ co e = 14 ∨ co e = 15) → op e = nI t → t < 1000 → ∃ r, OkI g q V (xC (co e)) t (sz e) r ∧ op2 e = g.2.2.1 4 r ∧ sz2 e = g.2.2.1 5 r := by
    intro e t he hk h7 ht
    have hno : ¬ BadC g q V co op sz l t := fun hb => by
      have h1 := I1.2.1 t hb
      obtain ⟨s, s1, s2, s3⟩ := val_c hE he (by rw [c6]; exact hk)
      rw [c7, h7] at s3
      have := nI_inj (by omega) (by omega) s3
      have := ltn s s2
      omega
    have hr : ∃ r, OkI g q V (xC (co e)) t (sz e) r := by
      refine Classical.byContradiction fun z => hno ⟨e, he, hk, h7, ht, fun r hr => z ⟨r, hr⟩⟩
    obtain ⟨r, hr⟩ := hr
    exact ⟨r, hr, I3 e t r he hk h7 ht hr⟩
  refine ⟨hnd, fun k hk => ⟨by rw [c6', c6], fun hc => ?_⟩, fun i hi => ⟨by rw [m20', m20], by rw [m21', m21], by rw [m22'], by rw [m23'], by rw [m25'], fun h13 => ?_⟩, fun i e t ht hi he hk hc h7 h26 => ?_, fun i e t c ht hc1000 hi he hk hc h7 h26 h8 h21 => ?_⟩
  · rw [c7', c7]
    exact (I2 k (Or.inr (by rw [c6] at hc; exact hc))).1
  · rw [m24', m24]
    rw [m20] at h13
    exact J2 i (Or.inr (by rw [h13]; decide))
  · rw [m20] at hk; rw [c6] at hc; rw [c7] at h7; rw [m26] at h26
    obtain ⟨r, r1, r2⟩ := okM i t hi (by rcases hk with z | z; exact Or.inl z; exact Or.inr (Or.inr z)) h26 ht
    obtain ⟨r', s1, s2, s3⟩ := okC e t he (by rcases hc with z | z; exact Or.inl z; exact Or.inr (Or.inl z)) h7 ht
    have er := ok_uniq R r1 s1.1 s1.2.1
    rw [er] at s2 s3
    have hx : xM (so i) = 0 := if_neg (by rcases hk with z | z <;> rw [z] <;> decide)
    rw [hx] at r1
    obtain ⟨i0, z, z1, z2, z3, z4⟩ := hA r r1.1 r1.2.2.1
    obtain ⟨w1, w2, w3, w4⟩ := z4 (by omega)
    refine ⟨r, 16 * i0, z, by rw [m24']; exact r2, by have := r1.1; omega, by rw [m29']; exact w2, by rw [m30']; exact z3, by rw [c7', s2]; exact z2, by rw [c8', s3]; exact w1, by omega⟩
  · rw [m20] at hk; rw [c6] at hc; rw [c7] at h7; rw [m26] at h26; rw [c8] at h8; rw [m21] at h21
    obtain ⟨r, r1, r2⟩ := okM i t hi (Or.inr (Or.inl hk)) h26 ht
    obtain ⟨r', s1, s2, s3⟩ := okC e t he (Or.inr (Or.inr hc)) h7 ht
    have er := ok_uniq R r1 s1.1 s1.2.1
    rw [er] at s2 s3
    have hx : xM (so i) = 1 := if_pos hk
    rw [hx] at r1
    have h5 : g.2.2.1 5 r = nI c := (r1.2.2.2 rfl).trans h21
    obtain ⟨cnt, s, i1, i2, i3, i4, i4', i5⟩ := hN r r1.1 r1.2.2.1
    obtain ⟨j1, -⟩ := i5 (by omega)
    have ec : cnt = c := nI_inj (by omega) (by omega) (i1.symm.trans h5)
    refine ⟨by omega, by rw [c8', s3]; exact h5, r, s, by rw [m24']; exact r2, by rw [c7', s2]; exact i4, r1.1, r1.2.2.1, i4, i4', h5, hc1000⟩
theorem pr2_of {f : Nat} {c m : St} {op2 sz2 th2 : Nat → Int32} {r : Nat} {C M : Nat → Nat → Int32} (R : GR n K V g h tg q na nf) (hn : n ≤ 220) (hnd : nd ≤ 498) (hl : l ≤ 440) (hf : n < f) (hfC : f ≤ fC) (hK : ∀ i, n ≤ i → K i = 0)
    (eC : C 6 = co ∧ C 7 = op ∧ C 8 = sz) (eM : M 20 = so ∧ M 21 = wh ∧ M 24 = th ∧ M 26 = tk) (eC' : c.2.2.1 6 = co ∧ c.2.2.1 7 = op2 ∧ c.2.2.1 8 = sz2) (eM' : m.2.2.1 20 = so ∧ m.2.2.1 21 = wh ∧ m.2.2.1 22 = M 22 ∧ m.2.2.1 23 = M 23 ∧ m.2.2.1 24 = th2 ∧ m.2.2.1 25 = M 25 ∧ m.2.2.1 29 = h.2.2.1 29 ∧ m.2.2.1 30 = h.2.2.1 30)
    (hE : ∀ x t k, CE C 0 l x t k ↔ NE K M 0 nd x t k)
    (hA : ∀ k, k < q → g.2.2.1 3 k = 0 → ArI n g h fC k) (hN : ∀ k, k < q → g.2.2.1 3 k = 1 → FnI n K g h C M fC l nd k)
    (I : CInv g q V co op sz fC l f op2 sz2) (J : MInv g q V so wh th tk fM nd f th2) (hr : GdM g q r) (c13 : c.1 13 = nI l) (m34 : m.1 34 = nI nd) (m44 : m.1 44 = nI r) (c14 : c.1 14 = g.2.2.1 4 r) : PR2 c m := by
  have hq := R.2.2.1.2.1
  have hFin := fin_all R hn (by omega) hf hfC hK eC eM eC' eM' hE hA hN I J
  obtain ⟨cnt, s, i1, i2, i3, i4, i4', i5⟩ := hN r hr.1 hr.2.2.1
  refine ⟨fun k s c => k < q ∧ g.2.2.1 3 k = 1 ∧ g.2.2.1 4 k = nI s ∧ s < 1000 ∧ g.2.2.1 5 k = nI c ∧ c < 1000, l, nd, r, s, c13, hl, m34, hnd, m44, c14.trans i4, ⟨hr.1, hr.2.2.1, i4, i4', hr.2.2.2, by omega⟩, fun i s c hF => ?_⟩
  obtain ⟨b1, b2, b3, b4, b5, b6⟩ := hF
  obtain ⟨cnt', s', k1, k2, k3, k4, k4', k5⟩ := hN i b1 b2
  have ec : cnt' = c := nI_inj (by omega) (by omega) (k1.symm.trans b5)
  have es : s' = s := nI_inj (by omega) (by omega) (k4.symm.trans b3)
  rw [ec] at k2 k5
  rw [es] at k5
  obtain ⟨j1, B, e, a1, a2, n1, n2, j2, j3, j4, j5, j6, j7, j8, j9, j10, j11, j12, j13⟩ := k5 (by omega)
  obtain ⟨-, x2⟩ := j3 _ _ (fun _ _ _ => ⟨rfl, rfl, rfl⟩) (fun _ _ _ => ⟨rfl, rfl, rfl, rfl, rfl, rfl, fun _ => rfl⟩)
  obtain ⟨z, z1, z2⟩ := x2 (by omega) _ _ _ l nd hFin (by omega) (by omega)
  refine ⟨by omega, j1, by rw [eM'.2.2.2.2.2.2.1]; exact k2, B, _, e, z, by rw [eM'.2.2.2.2.2.2.2]; exact j2, z2, by omega, by omega, j7, by rw [eC'.1, ← eC.1]; exact j11, ?_, by rw [eC'.1, ← eC.1]; exact j13⟩
  rw [eC'.2.1, (I.2.1 e (Or.inr (by rw [← eC.1, j11]; decide))).1, ← eC.2.1]
  exact j12
theorem join_both {c m : St} {M0 : Nat} (P : TP n K p V g0 h0 c m a) (h27 : h0.1 27 = nI (p n)) (hM : ∀ t, t < n → K t = 1 → tModel_is h0 (nI t) 1852399981 = some (if V t = 1835100526 then 1 else 0)) :
    (∃ c' m', tGlobals_join c = some c' ∧ tModel_read_L (M0 + 1) 2 m 0 = some m' ∧ Gf g0 h0 c' m') ∨
    (∃ y, KB g0 n 4 y (tGlobals_join c) ∧ KM h0 n 10 4 y (tModel_read_L (M0 + 1) 2 m 0)) := by
  obtain ⟨g, h, tg, q, na, nf, fC, fM, l, nd, oc, wt, ar, co, op, sz, so, wh, oe, tw, th, nx, tk, os, wa, wf, rfl, rfl, T, TM, R, h89, hm, Fc, Fm, hb, hF, hE, hA, hN⟩ := P
  have hn := TM.1.1
  have hq := R.2.2.1.2.1
  have hcnt : ∀ k, k < q → g.2.2.1 3 k = 1 → h.2.2.1 29 k = g.2.2.1 5 k := fun k hk e => by
    obtain ⟨cnt, s, i1, i2, -⟩ := hN k hk e
    rw [i1, i2]
  have hvN : ∀ j, j < nd → (so j = 4 ∨ so j = 5 ∨ so j = 12) → ∃ t, t < n ∧ K t = 1 ∧ tk j = nI t := fun j hj hk => by
    obtain ⟨s, s1, s2, s3⟩ := val_n hE hj hk
    exact ⟨s, kz_lt T s2 (by decide), s2, s3⟩
  have hvC : ∀ e, e < l → (co e = 13 ∨ co e = 14 ∨ co e = 15) → ∃ t, t < n ∧ op e = nI t := fun e he hk => by
    obtain ⟨s, s1, s2, s3⟩ := val_c hE he hk
    exact ⟨s, kz_lt T s2 (by decide), s3⟩
  obtain ⟨N', f, op2, sz2, e1, hI⟩ := join_all (fC := fC) (a := a) (o := 0) (co := co) (op := op) (sz := sz) T R (by omega) hvC l 0 2000 fC op sz (by omega) (by omega) ⟨⟨Nat.le_refl _, fun t ht => by obtain ⟨e, he, -⟩ := ht; omega, Or.inl rfl⟩, fun e _ => ⟨rfl, rfl⟩, fun e t r he => absurd he (by omega)⟩
  obtain ⟨f2, th2, e2, hJ⟩ := settle_all (fM := fM) (a := a) (nd := nd) (oc := oc) (wt := wt) (so := so) (wh := wh) (oe := oe) (tw := tw) (th := th) (nx := nx) (tk := tk) (os := os) (wa := wa) (wf := wf) TM R hcnt (by omega) hvN nd 0 2000 fM th (by omega) (by omega) ⟨⟨Nat.le_refl _, fun t ht => by obtain ⟨e, he, -⟩ := ht; omega, Or.inl rfl⟩, fun j _ => rfl, fun j t r hj => absurd hj (by omega)⟩
  have e1' : tGlobals_join (mkW g 0 (-1) (wn n p fC) (nI a) (nI 0) (nI l) co op sz) = tGlobals_join_L (N' + 1) 1 (mkW g 0 (-1) (wn n p f) (nI a) (nI 0) (nI l) co op2 sz2) (nI l) 0 0 := e1
  have e2' : tModel_settleNames (mkV h 0 (-1) (ftk n fM) (nI a) (nI 0) (nI nd) (nI oc) (nI wt) so wh oe tw th nx tk os wa wf) = some (mkV h 0 (-1) (ftk n f2) (nI a) (nI 0) (nI nd) (nI oc) (nI wt) so wh oe tw th2 nx tk os wa wf) := e2
  have feq : f = f2 := frel_eq hI.1 hJ.1 hF (fun t => by
    constructor
    · rintro ⟨j, j1, j2, j3, j4, j5 | j5⟩
      · exact Or.inl ⟨j, by omega, j1, j2, j5, j3, j4⟩
      · exact Or.inr ((bad_iff hE).mp ⟨j, j1, j2, j3, j4, j5⟩)
    · rintro (⟨j, -, j1, j2, j3, j4, j5⟩ | hb)
      · exact ⟨j, j1, j2, j4, j5, Or.inl j3⟩
      · obtain ⟨j, j1, j2, j3, j4, j5⟩ := (bad_iff hE).mpr hb
        exact ⟨j, j1, j2, j3, j4, Or.inr j5⟩)
  rw [← feq] at e2' hJ
  obtain ⟨r6, e3, hr6⟩ := v_mainF (σ := mkV h 0 (-1) (ftk n f) (nI a) (nI 0) (nI nd) (nI oc) (nI wt) so wh oe tw th2 nx tk os wa wf) R hcnt (fun t ht hk => by rw [is_congr (frm_same (frm_mkV Fm))]; exact hM t ht hk) rfl rfl rfl rfl
  have hcb : ∀ (g' : St) (y w : Int32), FrC g g' → g'.1 8 = g.1 8 → g'.1 9 = g.1 9 → g'.1 10 = g.1 10 → CBad g0 n 4 y (mkW g' 4 y w (nI a) (nI 0) (nI l) co op2 sz2) := fun g' y w F e8 e9 e10 => cb_base (frc_trans Fc F) ⟨frc_mkW (frc_refl g'), rfl, rfl, by decide, ⟨(tkc_keep T F).1, T.2.1⟩, by rw [show (mkW g' 4 y w (nI a) (nI 0) (nI l) co op2 sz2).1 8 = g.1 8 from e8]; exact h89.1, by rw [show (mkW g' 4 y w (nI a) (nI 0) (nI l) co op2 sz2).1 9 = g.1 9 from e9]; exact h89.2, ⟨l, by omega, rfl⟩, ⟨q, hq, e10.trans R.1.1⟩⟩
  have hmb : ∀ (h' : St) (y ft : Int32), FrM h h' → h'.1 42 = h.1 42 → MBad h0 n 10 4 y (mkV h' 4 y ft (nI a) (nI 0) (nI nd) (nI oc) (nI wt) so wh oe tw th2 nx tk os wa wf) := fun h' y ft F e42 => mb_mkV (frm_trans Fm F) (by decide) hb.1 (by omega) hm.2.2 (e42.trans hm.1) (by omega)
  have em : tModel_read_L (M0 + 1) 2 (mkV h 0 (-1) (ftk n fM) (nI a) (nI 0) (nI nd) (nI oc) (nI wt) so wh oe tw th nx tk os wa wf) 0 = if f ≤ n then some (mkV (sI h 44 r6) 4 (nI (p f)) (ftk n f) (nI a) (nI 0) (nI nd) (nI oc) (nI wt) so wh oe tw th2 nx tk os wa wf) else if (0 : Int32) ≤ r6 then some (mkV (sI h 44 r6) 0 (-1) (ftk n f) (nI a) (nI 0) (nI nd) (nI oc) (nI wt) so wh oe tw th2 nx tk os wa wf) else some (mkV (sI h 44 r6) 4 (nI (p n)) (ftk n f) (nI a) (nI 0) (nI nd) (nI oc) (nI wt) so wh oe tw th2 nx tk os wa wf) := by
    rw [mrd_L2]
    unfold tModel_read_b2
    rw [if_pos rfl, mkV_i29, if_pos rfl, b1S e2', b1S e3, mkV_i33, mkV_b44]
    unfold tModel_blame
    by_cases hf : f ≤ n
    · rw [if_pos hf, show ftk n f = nI f from if_pos hf, if_neg (nI_nneg (by omega)), gdT (inI (show f < 500 by omega) (by omega)), tc_nI (by omega), mkV_r17, TM.2.1 f hf, mkV_i29, if_pos rfl, mkV_s29, mkV_s30, b1S rfl]
    · rw [if_neg hf, show ftk n f = -1 from if_neg hf, if_pos (by decide)]
      by_cases h6 : (0 : Int32) ≤ r6
      · rw [if_pos h6, if_pos h6]
      · rw [if_neg h6, if_neg h6, mkV_i29, if_pos rfl, show (mkV h 0 (-1) (-1) (nI a) (nI 0) (nI nd) (nI oc) (nI wt) so wh oe tw th2 nx tk os wa wf).1 27 = h0.1 27 from Fm.1 27 (by omega), h27, mkV_s29, mkV_s30, b1S rfl]
  have F44 : FrM h (sI h 44 r6) := frm_sI (frm_refl h) (by omega)
  rw [e1', em, jn_L1]
  unfold tGlobals_join_b1
  rw [mkW_i13, if_pos ((nI_leI (by omega) (by omega)).mpr (Nat.le_refl _))]
  rcases w_joinMain (f := f) (a := a) (o := 0) (l := l) (co := co) (op := op2) (sz := sz2) T R with ⟨r, g1, g2⟩ | ⟨g1, g2⟩
  · have F14 : FrC g (sI g 14 (g.2.2.1 4 r)) := frc_sI (frc_refl g) (by omega)
    have hr : r6 = nI r := by
      rcases hr6 with ⟨-, z⟩ | ⟨i, z1, z2⟩
      · exact absurd g1 (z r)
      · rw [z2, gd_uniq R g1 z1.1 z1.2.1]
    rw [b1S g2, w_refW (tkc_keep T F14)]
    by_cases hf : f ≤ n
    · right
      rw [if_pos hf, if_pos hf, b1S rfl]
      exact ⟨nI (p f), kbs (hcb _ _ _ F14 rfl rfl rfl), kms (hmb _ _ _ F44 rfl)⟩
    · left
      rw [if_neg hf, if_neg hf, if_pos (by rw [hr]; exact nI_le0 (by have := g1.1; omega)), b1S rfl]
      refine ⟨_, _, rfl, rfl, ⟨rfl, rfl⟩, ⟨rfl, rfl⟩, frc_mkW (frc_trans Fc F14), frm_mkV (frm_trans Fm F44), ?_, ⟨nf, R.1.2.2, R.2.2.2.1.1⟩, ⟨h89.1, h89.2, ⟨q, hq, R.1.1⟩⟩, ⟨⟨oc, hm.2.2, rfl⟩, ⟨ar, hm.2.1, hm.1⟩⟩⟩
      exact pr2_of (C := (mkW g 0 (-1) (wn n p fC) (nI a) (nI 0) (nI l) co op sz).2.2.1) (M := (mkV h 0 (-1) (ftk n fM) (nI a) (nI 0) (nI nd) (nI oc) (nI wt) so wh oe tw th nx tk os wa wf).2.2.1) (r := r) R hn (by omega) (by omega) (by omega) hI.1.1 TM.1.2 ⟨rfl, rfl, rfl⟩ ⟨rfl, rfl, rfl, rfl⟩ ⟨rfl, rfl, rfl⟩ ⟨rfl, rfl, rfl, rfl, rfl, rfl, rfl, rfl⟩ hE hA hN hI hJ g1 rfl rfl hr rfl
  · right
    have hr : r6 = -1 := by
      rcases hr6 with ⟨z, -⟩ | ⟨i, z1, z2⟩
      · exact z
      · exact absurd z1 (g1 i)
    rw [b1S g2, w_refW T, if_pos (by omega), b1S rfl, hr, if_neg neg1_nle]
    by_cases hf : f ≤ n
    · rw [if_pos hf, show min f n = f by omega]
      exact ⟨nI (p f), kbs (hcb _ _ _ (frc_refl g) rfl rfl rfl), kms (hmb _ _ _ (frm_sI (frm_refl h) (by omega)) rfl)⟩
    · rw [if_neg hf, show min f n = n by omega]
      exact ⟨nI (p n), kbs (hcb _ _ _ (frc_refl g) rfl rfl rfl), kms (hmb _ _ _ (frm_sI (frm_refl h) (by omega)) rfl)⟩
end JF
