/-! The main function; what is forged. -/
theorem pk_L1 (N : Nat) (σ : St) (x1 : Int32) (y1 : Int64) (z1 : Nat) : tText_packed_L (N + 1) 1 σ x1 y1 z1 = tText_packed_b1 (tText_packed_L N) σ x1 y1 z1 := rfl
theorem pk_step {N z : Nat} {σ : St} {x c len : Int32} {y : Int64} (hb : sB z = true) (hl : tString_length σ z = some len) (hx : ¬ len ≤ x) (hc : tString_charAt σ z x = some c) : tText_packed_L (N + 1) 1 σ x y z = tText_packed_L N 1 σ (x + 1) ((y <<< ((8 : Int32).toInt64 &&& 63)) ||| c.toInt64) z := by
  rw [pk_L1]
  unfold tText_packed_b1
  rw [gdT hb, b1S hl, if_neg hx, b1S hc]
theorem pk_end {N z : Nat} {σ : St} {x len : Int32} {y : Int64} (hb : sB z = true) (hl : tString_length σ z = some len) (hx : len ≤ x) : tText_packed_L (N + 1) 1 σ x y z = some y := by
  rw [pk_L1]
  unfold tText_packed_b1
  rw [gdT hb, b1S hl, if_pos hx]
theorem pk_main (σ : St) : tText_packed σ 8 = some 1835100526 := by
  unfold tText_packed
  rw [gdT (by decide), pk_step (N := 1999) (c := 109) (len := 4) (by decide) rfl (by decide) rfl, pk_step (N := 1998) (c := 97) (len := 4) (by decide) rfl (by decide) rfl, pk_step (N := 1997) (c := 105) (len := 4) (by decide) rfl (by decide) rfl, pk_step (N := 1996) (c := 110) (len := 4) (by decide) rfl (by decide) rfl, pk_end (N := 1995) (len := 4) (by decide) rfl (by decide)]
  exact congrArg some (by decide)
theorem mkW_b14 {g : St} {r q w a o l x : Int32} {co op sz : Nat → Int32} : sI (mkW g r q w a o l co op sz) 14 x = mkW (sI g 14 x) r q w a o l co op sz := by
  refine Prod.ext (funext fun j => ?_) rfl
  simp only [sI, mkW]
  by_cases h : j = 14
  · subst h; rfl
  · simp only [if_neg h]
theorem mkV_b44 {h : St} {y q ft a o nd oc wt x : Int32} {so wh oe tw th nx tk os wa wf : Nat → Int32} : sI (mkV h y q ft a o nd oc wt so wh oe tw th nx tk os wa wf) 44 x = mkV (sI h 44 x) y q ft a o nd oc wt so wh oe tw th nx tk os wa wf := by
  refine Prod.ext (funext fun j => ?_) rfl
  simp only [sI, mkV]
  by_cases h : j = 44
  · subst h; rfl
  · simp only [if_neg h]
/-- a main function: it takes nothing -/
def GdM (g : St) (q r : Nat) : Prop := r < q ∧ g.2.2.2 2 r = 1835100526 ∧ g.2.2.1 3 r = 1 ∧ g.2.2.1 5 r = 0
section JB
variable {n : Nat} {K : Nat → Int32} {p : Nat → Nat} {V : Nat → Int64} {g h g0 h0 : St} {tg : Nat → Nat} {q na nf a o l nd oc wt : Nat} {co op sz so wh oe tw th nx tk os wa wf : Nat → Int32}
theorem jm_L1 (N : Nat) (σ : St) : tGlobals_joinMain_L (N + 1) 1 σ = tGlobals_joinMain_b1 (tGlobals_joinMain_L N) σ := rfl
theorem gd_uniq {r r' : Nat} (R : GR n K V g h tg q na nf) (h1 : GdM g q r) (hr : r' < q) (e : g.2.2.2 2 r' = 1835100526) : r' = r := by
  obtain ⟨-, -, -, -, r9, r10⟩ := R
  have e1 := h1.2.1
  have h1 := h1.1
  rw [(r9 r' hr).1] at e
  rw [(r9 r h1).1] at e1
  rcases Nat.lt_trichotomy r' r with z | z | z
  · exact absurd (e.trans e1.symm) (r10 r' r z h1)
  · exact z
  · exact absurd (e1.trans e.symm) (r10 r r' z hr)
theorem w_joinMain {f : Nat} (T : TkC g n K p V) (R : GR n K V g h tg q na nf) :
    (∃ r, GdM g q r ∧ tGlobals_joinMain (mkW g 0 (-1) (wn n p f) (nI a) (nI o) (nI l) co op sz) = some (mkW (sI g 14 (g.2.2.1 4 r)) 0 (-1) (wn n p f) (nI a) (nI o) (nI l) co op sz)) ∨ ((∀ r, ¬ GdM g q r) ∧ tGlobals_joinMain (mkW g 0 (-1) (wn n p f) (nI a) (nI o) (nI l) co op sz) = some (mkW g 0 (-1) (wn n p (min f n)) (nI a) (nI o) (nI l) co op sz)) := by
  have hq := R.2.2.1.2.1
  obtain ⟨r, e1, e2⟩ := gfind_c (σ := mkW g 0 (-1) (wn n p f) (nI a) (nI o) (nI l) co op sz) (x := 1835100526) (q := q) R.1.1 hq
  have bl : ∀ N, tGlobals_joinMain_L (N + 1) 1 (mkW g 0 (-1) (wn n p f) (nI a) (nI o) (nI l) co op sz) = some (mkW g 0 (-1) (wn n p (min f n)) (nI a) (nI o) (nI l) co op sz) := by
    intro N
    rw [jm_L1]
    unfold tGlobals_joinMain_b1
    rw [mkW_i0, T.2.2.1, b1_id, w_blame T (Nat.le_refl _)]
  unfold tGlobals_joinMain
  rw [b1S (pk_main _), b1S e1, bl 1999]
  rcases e2 with ⟨a1, a2⟩ | ⟨j, a1, a2, a3, a4⟩
  · right
    rw [a1, if_pos (by decide)]
    exact ⟨fun r hr => a2 r hr.1 hr.2.1, rfl⟩
  · have a3' : g.2.2.2 2 j = 1835100526 := a3
    rw [a2, if_neg (nI_nneg (by omega)), gdT (inI (show j < 12 by omega) (by omega)), tc_nI (by omega), mkW_r3]
    by_cases h3 : g.2.2.1 3 j = 0
    · right
      rw [if_pos h3]
      refine ⟨fun r hr => ?_, rfl⟩
      have e := gd_uniq R hr a1 a3'
      rw [e, hr.2.2.1] at h3
      exact absurd h3 (by decide)
    · rw [if_neg h3, gdT (inI (show j < 12 by omega) (by omega)), mkW_r5]
      by_cases h5 : g.2.2.1 5 j = 0
      · left
        rw [if_pos h5, gdT (inI (show j < 12 by omega) (by omega)), mkW_r4, mkW_b14]
        exact ⟨j, ⟨a1, a3', by rcases (R.2.2.2.2.1 j a1).2.2 with e | e; exact absurd e h3; exact e, h5⟩, rfl⟩
      · right
        rw [if_neg h5]
        refine ⟨fun r hr => h5 ?_, rfl⟩
        have e := gd_uniq R hr a1 a3'
        rw [e]
        exact hr.2.2.2
theorem mf_L1 (N : Nat) (σ : St) (x1 x2 : Int32) : tModel_mainFunction_L (N + 1) 1 σ x1 x2 = tModel_mainFunction_b1 (tModel_mainFunction_L N) σ x1 x2 := rfl
theorem mf_L2' (N : Nat) (σ : St) (x1 x2 : Int32) : tModel_mainFunction_L (N + 1) 2 σ x1 x2 = tModel_mainFunction_b2 (tModel_mainFunction_L N) σ x1 x2 := rfl
theorem mf_L3' (N : Nat) (σ : St) (x1 x2 : Int32) : tModel_mainFunction_L (N + 1) 3 σ x1 x2 = tModel_mainFunction_b3 (tModel_mainFunction_L N) σ x1 x2 := rfl
theorem mf_L2 (N : Nat) (σ : St) (x1 x2 : Int32) : tModel_mainFunction_L (N + 1) 2 σ x1 x2 = tModel_mainFunction_L N 3 σ x2 x1 := by
  rw [mf_L2']; unfold tModel_mainFunction_b2; rfl
theorem mf_L3 (N : Nat) (σ : St) (x1 x2 : Int32) : tModel_mainFunction_L (N + 1) 3 σ x1 x2 = tModel_mainFunction_L N 1 σ x2 (x1 + (-1)) := by
  rw [mf_L3']; unfold tModel_mainFunction_b3; rfl
theorem main_all {σ : St} (R : GR n K V g h tg q na nf) (hcnt : ∀ k, k < q → g.2.2.1 3 k = 1 → h.2.2.1 29 k = g.2.2.1 5 k) (hM : ∀ t, t < n → K t = 1 → tModel_is σ (nI t) 1852399981 = some (if V t = 1835100526 then 1 else 0)) (s27 : σ.2.2.1 27 = h.2.2.1 27) (s28 : σ.2.2.1 28 = h.2.2.1 28) (s29 : σ.2.2.1 29 = h.2.2.1 29) :
    ∀ (k N : Nat) (r : Int32), k ≤ q → 3 * k < N → ((r = -1 ∧ ∀ i, k ≤ i → ¬ GdM g q i) ∨ ∃ i, GdM g q i ∧ r = nI i) → ∃ r', tModel_mainFunction_L N 1 σ r (nI k - 1) = some r' ∧ ((r' = -1 ∧ ∀ i, ¬ GdM g q i) ∨ ∃ i, GdM g q i ∧ r' = nI i) := by
  have hq := R.2.2.1.2.1
  have r9 := R.2.2.2.2.1
  intro k
  induction k with
  | zero =>
    intro N r _ hN hr
    obtain ⟨N, rfl⟩ : ∃ i, N = i + 1 := ⟨N - 1, by omega⟩
    rw [mf_L1]
    unfold tModel_mainFunction_b1
    rw [if_pos (by decide)]
    refine ⟨r, rfl, ?_⟩
    rcases hr with ⟨a1, a2⟩ | hr
    · exact Or.inl ⟨a1, fun i => a2 i (by omega)⟩
    · exact Or.inr hr
  | succ k ih =>
    intro N r hkq hN hr
    obtain ⟨N, rfl⟩ : ∃ i, N = i + 3 := ⟨N - 3, by omega⟩
    obtain ⟨v1, v2, v3⟩ := R.2.2.1.2.2 k (by omega)
    have skip : ∀ N', 3 * k < N' → ¬ GdM g q k → ∃ r', tModel_mainFunction_L (N' + 2) 2 σ r (nI k) = some r' ∧ ((r' = -1 ∧ ∀ i, ¬ GdM g q i) ∨ ∃ i, GdM g q i ∧ r' = nI i) := by
      intro N' hN' hb
      rw [mf_L2, mf_L3, ← Int32.sub_eq_add_neg]
      refine ih N' r (by omega) hN' ?_
      rcases hr with ⟨a1, a2⟩ | hr
      · refine Or.inl ⟨a1, fun i hi => ?_⟩
        by_cases e : i = k
        · rw [e]; exact hb
        · exact a2 i (by omega)
      · exact Or.inr hr
    rw [mf_L1]
    unfold tModel_mainFunction_b1
    rw [nI_pred, if_neg (nI_nneg (by omega)), gdT (inI (show k < 60 by omega) (by omega)), tc_nI (by omega), s28, ← (r9 k (by omega)).2.1]
    by_cases h3 : g.2.2.1 3 k = 0
    · rw [if_pos h3]
      exact skip N (by omega) (fun e => absurd (h3.symm.trans e.2.2.1) (by decide))
    · have h3' : g.2.2.1 3 k = 1 := by rcases (r9 k (by omega)).2.2 with e | e; exact absurd e h3; exact e
      rw [if_neg h3, gdT (inI (show k < 60 by omega) (by omega)), s29, hcnt k (by omega) h3']
      by_cases h5 : g.2.2.1 5 k = 0
      · rw [if_pos h5, gdT (inI (show k < 60 by omega) (by omega)), s27, v1, b1S (hM (tg k) v2 v3)]
        by_cases hv : V (tg k) = 1835100526
        · rw [if_pos hv, if_neg (by decide), mf_L3, ← Int32.sub_eq_add_neg]
          exact ih (N + 1) (nI k) (by omega) (by omega) (Or.inr ⟨k, ⟨by omega, (r9 k (by omega)).1.trans hv, h3', h5⟩, rfl⟩)
        · rw [if_neg hv, if_pos rfl]
          exact skip N (by omega) (fun e => hv ((r9 k (by omega)).1.symm.trans e.2.1))
      · rw [if_neg h5]
        exact skip N (by omega) (fun e => h5 e.2.2.2)
theorem v_mainF {σ : St} (R : GR n K V g h tg q na nf) (hcnt : ∀ k, k < q → g.2.2.1 3 k = 1 → h.2.2.1 29 k = g.2.2.1 5 k) (hM : ∀ t, t < n → K t = 1 → tModel_is σ (nI t) 1852399981 = some (if V t = 1835100526 then 1 else 0)) (s35 : σ.1 35 = h.1 35) (s27 : σ.2.2.1 27 = h.2.2.1 27) (s28 : σ.2.2.1 28 = h.2.2.1 28) (s29 : σ.2.2.1 29 = h.2.2.1 29) :
    ∃ r', tModel_mainFunction σ = some r' ∧ ((r' = -1 ∧ ∀ i, ¬ GdM g q i) ∨ ∃ i, GdM g q i ∧ r' = nI i) := by
  have hq := R.2.2.1.2.1
  unfold tModel_mainFunction
  rw [s35, R.2.2.1.1]
  exact main_all R hcnt hM s27 s28 s29 q 2000 (-1) (Nat.le_refl _) (by omega) (Or.inl ⟨rfl, fun i hi hg => absurd hg.1 (by omega)⟩)
/-- both sides look the same names up -/
theorem bad_iff {G H : Nat → Nat → Int32} {t : Nat} (hE : ∀ x t k, CE G 0 l x t k ↔ NE K H 0 nd x t k) : (∃ j, j < nd ∧ (H 20 j = 4 ∨ H 20 j = 5 ∨ H 20 j = 12) ∧ H 26 j = nI t ∧ t < 1000 ∧ ∀ r, ¬ OkI g q V (xM (H 20 j)) t (H 21 j) r) ↔ BadC g q V (G 6) (G 7) (G 8) l t := by
  constructor
  · rintro ⟨j, j1, j2, j3, j4, j5⟩
    by_cases h5 : H 20 j = 5
    · obtain ⟨k, hk⟩ := nI_surj (H 21 j)
      obtain ⟨e, e1, e2, e3, e4⟩ := (hE 1 t k).mpr (Or.inl ⟨j, by omega, j1, Or.inl ⟨h5, rfl, hk⟩, j3⟩)
      rcases e3 with ⟨e3, -, e5⟩ | ⟨-, e3, -⟩
      · refine ⟨e, e2, Or.inr (Or.inr e3), e4, j4, fun r hr => j5 r ?_⟩
        rw [show xC (G 6 e) = 1 from if_pos e3, e5] at hr
        rw [show xM (H 20 j) = 1 from if_pos h5, hk]
        exact hr
      · exact absurd e3 (by decide)
    · obtain ⟨e, e1, e2, e3, e4⟩ := (hE 0 t 0).mpr (Or.inl ⟨j, by omega, j1, Or.inr ⟨by rcases j2 with z | z | z; exact Or.inl z; exact absurd z h5; exact Or.inr z, rfl, rfl⟩, j3⟩)
      rcases e3 with ⟨-, e3, -⟩ | ⟨e3, -, -⟩
      · exact absurd e3 (by decide)
      · have hne : ¬ G 6 e = 15 := by rcases e3 with z | z <;> rw [z] <;> decide
        refine ⟨e, e2, by rcases e3 with z | z; exact Or.inl z; exact Or.inr (Or.inl z), e4, j4, fun r hr => j5 r ?_⟩
        rw [show xC (G 6 e) = 0 from if_neg hne] at hr
        rw [show xM (H 20 j) = 0 from if_neg h5]
        exact ⟨hr.1, hr.2.1, hr.2.2.1, fun z => absurd z (by decide)⟩
  · rintro ⟨e, e1, e2, e3, e4, e5⟩
    by_cases h15 : G 6 e = 15
    · obtain ⟨k, hk⟩ := nI_surj (G 8 e)
      rcases (hE 1 t k).mp ⟨e, by omega, e1, Or.inl ⟨h15, rfl, hk⟩, e3⟩ with ⟨j, j1, j2, j3, j4⟩ | ⟨z, -⟩
      · rcases j3 with ⟨j3, -, j5⟩ | ⟨-, j3, -⟩
        · refine ⟨j, j2, Or.inr (Or.inl j3), j4, e4, fun r hr => e5 r ?_⟩
          rw [show xM (H 20 j) = 1 from if_pos j3, j5] at hr
          rw [show xC (G 6 e) = 1 from if_pos h15, hk]
          exact hr
        · exact absurd j3 (by decide)
      · exact absurd z (by decide)
    · rcases (hE 0 t 0).mp ⟨e, by omega, e1, Or.inr ⟨by rcases e2 with z | z | z; exact Or.inl z; exact Or.inr z; exact absurd z h15, rfl, rfl⟩, e3⟩ with ⟨j, j1, j2, j3, j4⟩ | ⟨z, -⟩
      · rcases j3 with ⟨-, j3, -⟩ | ⟨j3, -, -⟩
        · exact absurd j3 (by decide)
        · have hne : ¬ H 20 j = 5 := by rcases j3 with z | z <;> rw [z] <;> decide
          refine ⟨j, j2, by rcases j3 with z | z; exact Or.inl z; exact Or.inr (Or.inr z), j4, e4, fun r hr => e5 r ?_⟩
          rw [show xM (H 20 j) = 0 from if_neg hne] at hr
          rw [show xC (G 6 e) = 0 from if_neg h15]
          exact ⟨hr.1, hr.2.1, hr.2.2.1, fun z => absurd z (by decide)⟩
      · exact absurd z (by decide)
/-- the names are names -/
theorem val_n {G H : Nat → Nat → Int32} (hE : ∀ x t k, CE G 0 l x t k ↔ NE K H 0 nd x t k) {j : Nat} (hj : j < nd) (hk : H 20 j = 4 ∨ H 20 j = 5 ∨ H 20 j = 12) : ∃ s, s < 1000 ∧ K s = 1 ∧ H 26 j = nI s := by
  refine Classical.byContradiction fun hno => ?_
  obtain ⟨e, e1, e2, e3, e4⟩ := (hE 2 0 0).mpr (Or.inr ⟨rfl, j, by omega, hj, hk, hno⟩)
  rcases e3 with ⟨-, e3, -⟩ | ⟨-, e3, -⟩ <;> exact absurd e3 (by decide)
theorem val_c {G H : Nat → Nat → Int32} (hE : ∀ x t k, CE G 0 l x t k ↔ NE K H 0 nd x t k) {e : Nat} (he : e < l) (hk : G 6 e = 13 ∨ G 6 e = 14 ∨ G 6 e = 15) : ∃ s, s < 1000 ∧ K s = 1 ∧ G 7 e = nI s := by
  obtain ⟨t, ht⟩ := nI_surj (G 7 e)
  obtain ⟨k, hk8⟩ := nI_surj (G 8 e)
  have hx : ∃ x k, (x = 0 ∨ x = 1) ∧ CE G 0 l x t k := by
    by_cases h15 : G 6 e = 15
    · exact ⟨1, k, Or.inr rfl, e, by omega, he, Or.inl ⟨h15, rfl, hk8⟩, ht⟩
    · exact ⟨0, 0, Or.inl rfl, e, by omega, he, Or.inr ⟨by rcases hk with z | z | z; exact Or.inl z; exact Or.inr z; exact absurd z h15, rfl, rfl⟩, ht⟩
  obtain ⟨x, k', hx1, hx2⟩ := hx
  rcases (hE x t k').mp hx2 with ⟨j, j1, j2, j3, j4⟩ | ⟨z, -⟩
  · have hkj : H 20 j = 4 ∨ H 20 j = 5 ∨ H 20 j = 12 := by
      rcases j3 with ⟨z, -⟩ | ⟨z | z, -⟩
      · exact Or.inr (Or.inl z)
      · exact Or.inl z
      · exact Or.inr (Or.inr z)
    obtain ⟨s, s1, s2, s3⟩ := val_n hE j2 hkj
    exact ⟨s, s1, s2, by rw [ht, ← j4, s3]⟩
  · omega
end JB
