/-! Names are looked up, on both sides. -/
theorem nI_surj (x : Int32) : ∃ k, x = nI k := ⟨x.toBitVec.toNat, by
  show x = Int32.ofNat x.toBitVec.toNat
  rw [Int32.ofNat_bitVecToNat, Int32.ofBitVec_toBitVec]⟩
theorem frel_iff {f m : Nat} {S S' : Nat → Prop} (h : FRel f m S) (e : ∀ t, S' t ↔ S t) : FRel f m S' := ⟨h.1, fun t ht => h.2.1 t ((e t).mp ht), h.2.2.imp id (fun x => (e f).mpr x)⟩
theorem frel_ins {f m t0 : Nat} {S S' : Nat → Prop} (h : FRel f m S) (e : ∀ t, S' t ↔ S t ∨ t = t0) : FRel (min f t0) m S' := by
  obtain ⟨h1, h2, h3⟩ := h
  refine ⟨by omega, fun t ht => ?_, ?_⟩
  · rcases (e t).mp ht with x | x
    · have := h2 t x; omega
    · omega
  · rcases Nat.lt_or_ge t0 f with x | x
    · rw [show min f t0 = t0 by omega]
      exact Or.inr ((e t0).mpr (Or.inr rfl))
    · rw [show min f t0 = f by omega]
      exact h3.imp id (fun x => (e f).mpr (Or.inl x))
theorem frel_eq {f f' fC fM : Nat} {S W W' : Nat → Prop} (h1 : FRel f fC W) (h2 : FRel f' fM W') (h3 : FRel fC fM S) (e : ∀ t, W' t ↔ S t ∨ W t) : f = f' := by
  obtain ⟨a1, a2, a3⟩ := h1
  obtain ⟨b1, b2, b3⟩ := h2
  obtain ⟨c1, c2, c3⟩ := h3
  have x1 : f ≤ f' := by
    rcases b3 with x | x
    · omega
    · rcases (e f').mp x with x | x
      · have := c2 _ x; omega
      · exact a2 _ x
  have x2 : f' ≤ f := by
    rcases a3 with x | x
    · rcases c3 with y | y
      · omega
      · have := b2 _ ((e _).mpr (Or.inl y)); omega
    · exact b2 _ ((e _).mpr (Or.inr x))
  omega
/-- global r is what token t is taken for: x says whether as a function, k is how many values are given -/
def OkI (g : St) (q : Nat) (V : Nat → Int64) (x : Int32) (t : Nat) (k : Int32) (r : Nat) : Prop := r < q ∧ g.2.2.2 2 r = V t ∧ g.2.2.1 3 r = x ∧ (x = 1 → g.2.2.1 5 r = k)
def xC (c : Int32) : Int32 := if c = 15 then 1 else 0
def xM (c : Int32) : Int32 := if c = 5 then 1 else 0
theorem xC_or (c : Int32) : xC c = 0 ∨ xC c = 1 := by unfold xC; split; exact Or.inr rfl; exact Or.inl rfl
theorem xM_or (c : Int32) : xM c = 0 ∨ xM c = 1 := by unfold xM; split; exact Or.inr rfl; exact Or.inl rfl
section JN
variable {n : Nat} {K : Nat → Int32} {p : Nat → Nat} {V : Nat → Int64} {g h : St} {tg : Nat → Nat} {q na nf a o l nd : Nat} {co op sz so wh oe tw th nx tk os wa wf : Nat → Int32}
theorem ok_uniq {x k : Int32} {t r r' : Nat} (R : GR n K V g h tg q na nf) (h1 : OkI g q V x t k r) (hr : r' < q) (e : g.2.2.2 2 r' = V t) : r' = r := by
  obtain ⟨-, -, -, -, r9, r10⟩ := R
  have e1 := h1.2.1
  have h1 := h1.1
  rw [(r9 r' hr).1] at e
  rw [(r9 r h1).1] at e1
  rcases Nat.lt_trichotomy r' r with z | z | z
  · exact absurd (e.trans e1.symm) (r10 r' r z h1)
  · exact z
  · exact absurd (e1.trans e.symm) (r10 r r' z hr)
theorem jo_L1 (N : Nat) (σ : St) (x1 x2 : Int32) : tGlobals_joinOne_L (N + 1) 1 σ x1 x2 = tGlobals_joinOne_b1 (tGlobals_joinOne_L N) σ x1 x2 := rfl
theorem jo_L2 (N : Nat) (σ : St) (x1 x2 : Int32) : tGlobals_joinOne_L (N + 1) 2 σ x1 x2 = tGlobals_joinOne_b2 (tGlobals_joinOne_L N) σ x1 x2 := rfl
theorem w_joinOne {f i t : Nat} {x : Int32} (T : TkC g n K p V) (R : GR n K V g h tg q na nf) (hi : i < 440) (ht : t < n) (h7 : op i = nI t) (hx : x = 0 ∨ x = 1) :
    (∃ r, OkI g q V x t (sz i) r ∧ tGlobals_joinOne (mkW g 0 (-1) (wn n p f) (nI a) (nI o) (nI l) co op sz) (nI i) x = some (mkW g 0 (-1) (wn n p f) (nI a) (nI o) (nI l) co (upd op i (g.2.2.1 4 r)) (upd sz i (g.2.2.1 5 r)))) ∨
    ((∀ r, ¬ OkI g q V x t (sz i) r) ∧ tGlobals_joinOne (mkW g 0 (-1) (wn n p f) (nI a) (nI o) (nI l) co op sz) (nI i) x = some (mkW g 0 (-1) (wn n p (min f t)) (nI a) (nI o) (nI l) co op sz)) := by
  have hq := R.2.2.1.2.1
  obtain ⟨r, e1, e2⟩ := gfind_c (σ := mkW g 0 (-1) (wn n p f) (nI a) (nI o) (nI l) co op sz) (x := V t) (q := q) R.1.1 hq
  have bl : ∀ N, tGlobals_joinOne_L (N + 1) 1 (mkW g 0 (-1) (wn n p f) (nI a) (nI o) (nI l) co op sz) (nI t) 0 = some (mkW g 0 (-1) (wn n p (min f t)) (nI a) (nI o) (nI l) co op sz) := by
    intro N
    rw [jo_L1]
    unfold tGlobals_joinOne_b1
    rw [b1S (w_place T (by omega)), b1_id, w_blame T (by omega)]
  unfold tGlobals_joinOne
  rw [gdT (inI hi (by omega)), tc_nI (by omega), mkW_r7, h7, b1S (w_value T ht), b1S e1, bl 1999]
  rcases e2 with ⟨a1, a2⟩ | ⟨j, a1, a2, a3, a4⟩
  · right
    rw [a1, if_pos (by decide)]
    exact ⟨fun r hr => a2 r hr.1 hr.2.1, rfl⟩
  · rw [a2, if_neg (nI_nneg (by omega)), gdT (inI (show j < 12 by omega) (by omega)), tc_nI (by omega), mkW_r3]
    have st : ∀ N, tGlobals_joinOne_L (N + 1) 2 (mkW g 0 (-1) (wn n p f) (nI a) (nI o) (nI l) co op sz) (nI i) (nI j) = some (mkW g 0 (-1) (wn n p f) (nI a) (nI o) (nI l) co (upd op i (g.2.2.1 4 j)) (upd sz i (g.2.2.1 5 j))) := by
      intro N
      rw [jo_L2]
      unfold tGlobals_joinOne_b2
      rw [gdT (inI (show j < 12 by omega) (by omega)), gdT (inI hi (by omega)), gdT (inI (show j < 12 by omega) (by omega)), gdT (inI hi (by omega)), tc_nI (by omega), tc_nI (by omega), mkW_r7, mkW_r4, mkW_t7, mkW_r8, mkW_r5, mkW_t8]
    by_cases h3 : g.2.2.1 3 j = x
    · rw [if_pos h3, st 1999]
      rcases hx with hx | hx
      · rw [if_pos hx]
        exact Or.inl ⟨j, ⟨a1, a3, h3, fun e => absurd (hx.symm.trans e) (by decide)⟩, rfl⟩
      · rw [if_neg (by rw [hx]; decide), gdT (inI (show j < 12 by omega) (by omega)), gdT (inI hi (by omega)), mkW_r5, mkW_r8]
        by_cases h5 : g.2.2.1 5 j = sz i
        · rw [if_pos h5]
          exact Or.inl ⟨j, ⟨a1, a3, h3, fun _ => h5⟩, rfl⟩
        · rw [if_neg h5]
          refine Or.inr ⟨fun r hr => h5 ?_, rfl⟩
          have e := ok_uniq R hr a1 a3
          rw [e]
          exact hr.2.2.2 hx
    · rw [if_neg h3]
      refine Or.inr ⟨fun r hr => h3 ?_, rfl⟩
      have e := ok_uniq R hr a1 a3
      rw [e]
      exact hr.2.2.1
theorem jn_L1 (N : Nat) (σ : St) (x1 x2 x3 : Int32) : tGlobals_join_L (N + 1) 1 σ x1 x2 x3 = tGlobals_join_b1 (tGlobals_join_L N) σ x1 x2 x3 := rfl
theorem jn_L2 (N : Nat) (σ : St) (x1 x2 x3 : Int32) : tGlobals_join_L (N + 1) 2 σ x1 x2 x3 = tGlobals_join_b2 (tGlobals_join_L N) σ x1 x2 x3 := rfl
theorem jn_L3 (N : Nat) (σ : St) (x1 x2 x3 : Int32) : tGlobals_join_L (N + 1) 3 σ x1 x2 x3 = tGlobals_join_b3 (tGlobals_join_L N) σ x1 x2 x3 := rfl
theorem jn_L4 (N : Nat) (σ : St) (x1 x2 x3 : Int32) : tGlobals_join_L (N + 1) 4 σ x1 x2 x3 = tGlobals_join_L N 1 σ (x1 + 1) 0 0 := rfl
theorem jn_step {N f i : Nat} {u : St} (hi : i < l) (hl : l ≤ 440) (hc : co i = 13 ∨ co i = 14 ∨ co i = 15) (e : tGlobals_joinOne (mkW g 0 (-1) (wn n p f) (nI a) (nI o) (nI l) co op sz) (nI i) (xC (co i)) = some u) : tGlobals_join_L (N + 4) 1 (mkW g 0 (-1) (wn n p f) (nI a) (nI o) (nI l) co op sz) (nI i) 0 0 = tGlobals_join_L N 1 u (nI (i + 1)) 0 0 := by
  have e2 : tGlobals_join_L (N + 3) 2 (mkW g 0 (-1) (wn n p f) (nI a) (nI o) (nI l) co op sz) (nI i) (co i) 0 = tGlobals_join_L N 1 u (nI (i + 1)) 0 0 := by
    rw [jn_L2]
    unfold tGlobals_join_b2
    by_cases h15 : co i = 15
    · rw [show xC (co i) = 1 from if_pos h15] at e
      rw [if_pos h15, jn_L3]
      unfold tGlobals_join_b3
      rw [b1S e, jn_L4, nI_suc]
    · rw [show xC (co i) = 0 from if_neg h15] at e
      rw [if_neg h15, jn_L3]
      unfold tGlobals_join_b3
      rw [b1S e, jn_L4, nI_suc]
  rw [jn_L1]
  unfold tGlobals_join_b1
  rw [mkW_i13, if_neg (fun e => absurd ((nI_leI (by omega) (by omega)).mp e) (by omega)), gdT (inI (show i < 440 by omega) (by omega)), tc_nI (by omega), mkW_r6, e2]
  split
  · rfl
  · split
    · rfl
    · split
      · rfl
      · rename_i z1 z2 z3
        rcases hc with hc | hc | hc
        · exact absurd hc z2
        · exact absurd hc z3
        · exact absurd hc z1
theorem jn_skip {N f i : Nat} (hi : i < l) (hl : l ≤ 440) (hc : ¬ (co i = 13 ∨ co i = 14 ∨ co i = 15)) : tGlobals_join_L (N + 4) 1 (mkW g 0 (-1) (wn n p f) (nI a) (nI o) (nI l) co op sz) (nI i) 0 0 = tGlobals_join_L (N + 2) 1 (mkW g 0 (-1) (wn n p f) (nI a) (nI o) (nI l) co op sz) (nI (i + 1)) 0 0 := by
  rw [jn_L1]
  unfold tGlobals_join_b1
  rw [mkW_i13, if_neg (fun e => absurd ((nI_leI (by omega) (by omega)).mp e) (by omega)), gdT (inI (show i < 440 by omega) (by omega)), tc_nI (by omega), mkW_r6, if_neg (fun e => hc (Or.inr (Or.inr e))), if_neg (fun e => hc (Or.inl e)), if_neg (fun e => hc (Or.inr (Or.inl e))), jn_L4, nI_suc]
/-- the names that are wrong in the code below i -/
def BadC (g : St) (q : Nat) (V : Nat → Int64) (co op sz : Nat → Int32) (i t : Nat) : Prop := ∃ e, e < i ∧ (co e = 13 ∨ co e = 14 ∨ co e = 15) ∧ op e = nI t ∧ t < 1000 ∧ ∀ r, ¬ OkI g q V (xC (co e)) t (sz e) r
def CInv (g : St) (q : Nat) (V : Nat → Int64) (co op sz : Nat → Int32) (fC i f : Nat) (op' sz' : Nat → Int32) : Prop :=
  FRel f fC (BadC g q V co op sz i) ∧ (∀ e, (i ≤ e ∨ ¬ (co e = 13 ∨ co e = 14 ∨ co e = 15)) → op' e = op e ∧ sz' e = sz e) ∧ (∀ e t r, e < i → (co e = 13 ∨ co e = 14 ∨ co e = 15) → op e = nI t → t < 1000 → OkI g q V (xC (co e)) t (sz e) r → op' e = g.2.2.1 4 r ∧ sz' e = g.2.2.1 5 r)
theorem join_all {fC : Nat} (T : TkC g n K p V) (R : GR n K V g h tg q na nf) (hl : l ≤ 440) (hv : ∀ e, e < l → (co e = 13 ∨ co e = 14 ∨ co e = 15) → ∃ t, t < n ∧ op e = nI t) :
    ∀ (r i N f : Nat) (op' sz' : Nat → Int32), i + r = l → 4 * r < N → CInv g q V co op sz fC i f op' sz' →
      ∃ (N' f' : Nat) (op2 sz2 : Nat → Int32), tGlobals_join_L N 1 (mkW g 0 (-1) (wn n p f) (nI a) (nI o) (nI l) co op' sz') (nI i) 0 0 = tGlobals_join_L (N' + 1) 1 (mkW g 0 (-1) (wn n p f') (nI a) (nI o) (nI l) co op2 sz2) (nI l) 0 0 ∧ CInv g q V co op sz fC l f' op2 sz2 := by
  have hn := T.2.1
  intro r
  induction r with
  | zero =>
    intro i N f op' sz' h1 h2 I
    obtain rfl : i = l := by omega
    obtain ⟨N, rfl⟩ : ∃ j, N = j + 1 := ⟨N - 1, by omega⟩
    exact ⟨N, f, op', sz', rfl, I⟩
  | succ r ih =>
    intro i N f op' sz' h1 h2 I
    obtain ⟨N, rfl⟩ : ∃ j, N = j + 4 := ⟨N - 4, by omega⟩
    obtain ⟨I1, I2, I3⟩ := I
    by_cases hc : co i = 13 ∨ co i = 14 ∨ co i = 15
    · obtain ⟨t, ht, h7⟩ := hv i (by omega) hc
      obtain ⟨j1, j2⟩ := I2 i (Or.inl (Nat.le_refl _))
      rcases w_joinOne (f := f) (a := a) (o := o) (l := l) (co := co) (op := op') (sz := sz') (i := i) (x := xC (co i)) T R (by omega) ht (j1.trans h7) (xC_or _) with ⟨r0, k1, k2⟩ | ⟨k1, k2⟩
      · rw [j2] at k1
        rw [jn_step (by omega) hl hc k2]
        refine ih (i + 1) N f _ _ (by omega) (by omega) ⟨frel_iff I1 fun t' => ?_, fun e he => ?_, fun e t' r' he hce he7 ht' hok => ?_⟩
        · constructor
          · rintro ⟨e, b1, b2, b3, b4, b5⟩
            rcases Nat.lt_or_ge e i with z | z
            · exact ⟨e, z, b2, b3, b4, b5⟩
            · obtain rfl : e = i := by omega
              obtain rfl : t' = t := nI_inj (by omega) (by omega) (b3.symm.trans h7)
              exact absurd k1 (b5 r0)
          · rintro ⟨e, b1, b2⟩
            exact ⟨e, by omega, b2⟩
        · have hei : e ≠ i := by
            rcases he with z | z
            · omega
            · intro z2; rw [z2] at z; exact z hc
          rw [upd_n hei, upd_n hei]
          exact I2 e (by rcases he with z | z; exact Or.inl (by omega); exact Or.inr z)
        · rcases Nat.lt_or_ge e i with z | z
          · rw [upd_n (by omega), upd_n (by omega)]
            exact I3 e t' r' z hce he7 ht' hok
          · obtain rfl : e = i := by omega
            obtain rfl : t' = t := nI_inj (by omega) (by omega) (he7.symm.trans h7)
            have e1 := ok_uniq R k1 hok.1 hok.2.1
            rw [e1, upd_e, upd_e]
            exact ⟨rfl, rfl⟩
      · rw [j2] at k1
        rw [jn_step (by omega) hl hc k2]
        refine ih (i + 1) N (min f t) _ _ (by omega) (by omega) ⟨frel_ins (t0 := t) I1 fun t' => ?_, fun e he => I2 e (by rcases he with z | z; exact Or.inl (by omega); exact Or.inr z), fun e t' r' he hce he7 ht' hok => ?_⟩
        · constructor
          · rintro ⟨e, b1, b2, b3, b4, b5⟩
            rcases Nat.lt_or_ge e i with z | z
            · exact Or.inl ⟨e, z, b2, b3, b4, b5⟩
            · obtain rfl : e = i := by omega
              exact Or.inr (nI_inj (by omega) (by omega) (b3.symm.trans h7))
          · rintro (⟨e, b1, b2⟩ | z)
            · exact ⟨e, by omega, b2⟩
            · rw [z]
              exact ⟨i, by omega, hc, h7, by omega, k1⟩
        · rcases Nat.lt_or_ge e i with z | z
          · exact I3 e t' r' z hce he7 ht' hok
          · obtain rfl : e = i := by omega
            obtain rfl : t' = t := nI_inj (by omega) (by omega) (he7.symm.trans h7)
            exact absurd hok (k1 r')
    · rw [jn_skip (by omega) hl hc]
      refine ih (i + 1) (N + 2) f _ _ (by omega) (by omega) ⟨frel_iff I1 fun t' => ?_, fun e he => I2 e (by rcases he with z | z; exact Or.inl (by omega); exact Or.inr z), fun e t' r' he hce he7 ht' hok => ?_⟩
      · constructor
        · rintro ⟨e, b1, b2, b3⟩
          rcases Nat.lt_or_ge e i with z | z
          · exact ⟨e, z, b2, b3⟩
          · obtain rfl : e = i := by omega
            exact absurd b2 hc
        · rintro ⟨e, b1, b2⟩
          exact ⟨e, by omega, b2⟩
      · rcases Nat.lt_or_ge e i with z | z
        · exact I3 e t' r' z hce he7 ht' hok
        · obtain rfl : e = i := by omega
          exact absurd hce hc
end JN
