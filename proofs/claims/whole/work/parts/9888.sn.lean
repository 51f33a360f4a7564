/-! The model looks names up. -/
section SN
variable {n : Nat} {K : Nat → Int32} {p : Nat → Nat} {V : Nat → Int64} {g h : St} {tg : Nat → Nat} {q na nf a nd oc wt : Nat} {so wh oe tw th nx tk os wa wf : Nat → Int32}
theorem sn_L1 (N : Nat) (σ : St) (x1 x2 x3 : Int32) : tModel_settleNames_L (N + 1) 1 σ x1 x2 x3 = tModel_settleNames_b1 (tModel_settleNames_L N) σ x1 x2 x3 := rfl
theorem sn_L2 (N : Nat) (σ : St) (x1 x2 x3 : Int32) : tModel_settleNames_L (N + 1) 2 σ x1 x2 x3 = tModel_settleNames_b2 (tModel_settleNames_L N) σ x1 x2 x3 := rfl
theorem sn_L3 (N : Nat) (σ : St) (x1 x2 x3 : Int32) : tModel_settleNames_L (N + 1) 3 σ x1 x2 x3 = tModel_settleNames_b3 (tModel_settleNames_L N) σ x1 x2 x3 := rfl
theorem sn_L4 (N : Nat) (σ : St) (x1 x2 x3 : Int32) : tModel_settleNames_L (N + 1) 4 σ x1 x2 x3 = tModel_settleNames_b4 (tModel_settleNames_L N) σ x1 x2 x3 := rfl
theorem sn_L5 (N : Nat) (σ : St) (x1 x2 x3 : Int32) : tModel_settleNames_L (N + 1) 5 σ x1 x2 x3 = tModel_settleNames_b5 (tModel_settleNames_L N) σ x1 x2 x3 := rfl
theorem sn_L6 (N : Nat) (σ : St) (x1 x2 x3 : Int32) : tModel_settleNames_L (N + 1) 6 σ x1 x2 x3 = tModel_settleNames_b6 (tModel_settleNames_L N) σ x1 x2 x3 := rfl
theorem sn_L7 (N : Nat) (σ : St) (x1 x2 x3 : Int32) : tModel_settleNames_L (N + 1) 7 σ x1 x2 x3 = tModel_settleNames_L N 1 σ (x1 + 1) 0 0 := rfl
theorem sn_six {N f i : Nat} {v x3 : Int32} (hi : i < 500) : tModel_settleNames_L (N + 2) 6 (mkV h 0 (-1) (ftk n f) (nI a) (nI 0) (nI nd) (nI oc) (nI wt) so wh oe tw th nx tk os wa wf) (nI i) v x3 = tModel_settleNames_L N 1 (mkV h 0 (-1) (ftk n f) (nI a) (nI 0) (nI nd) (nI oc) (nI wt) so wh oe tw (upd th i v) nx tk os wa wf) (nI (i + 1)) 0 0 := by
  rw [sn_L6]
  unfold tModel_settleNames_b6
  rw [gdT (inI hi (by omega)), tc_nI (by omega), mkV_r24, mkV_t24, sn_L7, nI_suc]
theorem sn_five {N f i t : Nat} {v x3 : Int32} (hn : n ≤ 220) (hi : i < 500) (ht : t ≤ n) (h26 : tk i = nI t) : tModel_settleNames_L (N + 3) 5 (mkV h 0 (-1) (ftk n f) (nI a) (nI 0) (nI nd) (nI oc) (nI wt) so wh oe tw th nx tk os wa wf) (nI i) v x3 = tModel_settleNames_L N 1 (mkV h 0 (-1) (ftk n (min f t)) (nI a) (nI 0) (nI nd) (nI oc) (nI wt) so wh oe tw (upd th i v) nx tk os wa wf) (nI (i + 1)) 0 0 := by
  rw [sn_L5]
  unfold tModel_settleNames_b5
  rw [gdT (inI hi (by omega)), tc_nI (by omega), mkV_r26, h26, b1S (v_notName ht hn), sn_six hi]
theorem sn_three {N f i : Nat} (hi : i < nd) (hnd : nd ≤ 500) (hk : so i = 4 ∨ so i = 5 ∨ so i = 12) : tModel_settleNames_L (N + 2) 1 (mkV h 0 (-1) (ftk n f) (nI a) (nI 0) (nI nd) (nI oc) (nI wt) so wh oe tw th nx tk os wa wf) (nI i) 0 0 = tModel_settleNames_L N 3 (mkV h 0 (-1) (ftk n f) (nI a) (nI 0) (nI nd) (nI oc) (nI wt) so wh oe tw th nx tk os wa wf) (nI i) (xM (so i)) 0 := by
  rw [sn_L1]
  unfold tModel_settleNames_b1 xM
  rw [mkV_i34, if_neg (fun e => absurd ((nI_leI (by omega) (by omega)).mp e) (by omega)), gdT (inI (show i < 500 by omega) (by omega)), tc_nI (by omega), mkV_r20]
  by_cases h5 : so i = 5
  · rw [if_pos h5, if_pos h5, sn_L2]
    unfold tModel_settleNames_b2
    rw [if_neg (by decide)]
  · rw [if_neg h5, if_neg h5, sn_L2]
    unfold tModel_settleNames_b2
    rw [if_pos rfl, gdT (inI (show i < 500 by omega) (by omega)), gdT (inI (show i < 500 by omega) (by omega)), tc_nI (by omega), mkV_r20]
    by_cases h4 : so i = 4
    · rw [if_pos h4]
    · rw [if_neg h4, if_pos (by rcases hk with e | e | e; exact absurd e h4; exact absurd e h5; exact e)]
theorem sn_skip {N f i : Nat} (hi : i < nd) (hnd : nd ≤ 500) (hk : ¬ (so i = 4 ∨ so i = 5 ∨ so i = 12)) : tModel_settleNames_L (N + 3) 1 (mkV h 0 (-1) (ftk n f) (nI a) (nI 0) (nI nd) (nI oc) (nI wt) so wh oe tw th nx tk os wa wf) (nI i) 0 0 = tModel_settleNames_L N 1 (mkV h 0 (-1) (ftk n f) (nI a) (nI 0) (nI nd) (nI oc) (nI wt) so wh oe tw th nx tk os wa wf) (nI (i + 1)) 0 0 := by
  rw [sn_L1]
  unfold tModel_settleNames_b1
  rw [mkV_i34, if_neg (fun e => absurd ((nI_leI (by omega) (by omega)).mp e) (by omega)), gdT (inI (show i < 500 by omega) (by omega)), tc_nI (by omega), mkV_r20, if_neg (fun e => hk (Or.inr (Or.inl e))), sn_L2]
  unfold tModel_settleNames_b2
  rw [if_pos rfl, gdT (inI (show i < 500 by omega) (by omega)), gdT (inI (show i < 500 by omega) (by omega)), tc_nI (by omega), mkV_r20, if_neg (fun e => hk (Or.inl e)), if_neg (fun e => hk (Or.inr (Or.inr e))), sn_L7, nI_suc]
theorem sn_four {N i t : Nat} {σ : St} {x r : Int32} (R : GR n K V g h tg q na nf) (hcnt : ∀ k, k < q → g.2.2.1 3 k = 1 → h.2.2.1 29 k = g.2.2.1 5 k) (hi : i < 500) (hs28 : σ.2.2.1 28 = h.2.2.1 28) (hs29 : σ.2.2.1 29 = h.2.2.1 29) (hs21 : σ.2.2.1 21 = wh) (hx : x = 0 ∨ x = 1) (hr : IsF (fun i => V (tg i)) q (V t) r) :
    (∃ j, OkI g q V x t (wh i) j ∧ r = nI j ∧ tModel_settleNames_L (N + 1) 4 σ (nI i) x r = tModel_settleNames_L N 6 σ (nI i) r 0) ∨ ((∀ j, ¬ OkI g q V x t (wh i) j) ∧ tModel_settleNames_L (N + 1) 4 σ (nI i) x r = tModel_settleNames_L N 5 σ (nI i) r 0) := by
  have hq := R.2.2.1.2.1
  have r9 := R.2.2.2.2.1
  rw [sn_L4]
  unfold tModel_settleNames_b4
  rcases hr with ⟨a1, a2⟩ | ⟨j, a1, a2, a3, a4⟩
  · right
    rw [a1, if_pos (by decide)]
    exact ⟨fun j hj => a2 j hj.1 ((r9 j hj.1).1.symm.trans hj.2.1), rfl⟩
  · rw [a2, if_neg (nI_nneg (by omega)), gdT (inI (show j < 60 by omega) (by omega)), tc_nI (by omega), hs28, ← (r9 j a1).2.1]
    have a3' : g.2.2.2 2 j = V t := (r9 j a1).1.trans a3
    by_cases h3 : g.2.2.1 3 j = x
    · rw [if_pos h3]
      rcases hx with hx | hx
      · rw [if_pos hx]
        exact Or.inl ⟨j, ⟨a1, a3', h3, fun e => absurd (hx.symm.trans e) (by decide)⟩, rfl, rfl⟩
      · rw [if_neg (by rw [hx]; decide), gdT (inI (show j < 60 by omega) (by omega)), gdT (inI hi (by omega)), tc_nI (by omega), hs29, hs21, hcnt j a1 (h3.trans hx)]
        by_cases h5 : g.2.2.1 5 j = wh i
        · rw [if_pos h5]
          exact Or.inl ⟨j, ⟨a1, a3', h3, fun _ => h5⟩, rfl, rfl⟩
        · rw [if_neg h5]
          refine Or.inr ⟨fun r hr => h5 ?_, rfl⟩
          have e := ok_uniq R hr a1 a3'
          rw [e]
          exact hr.2.2.2 hx
    · rw [if_neg h3]
      refine Or.inr ⟨fun r hr => h3 ?_, rfl⟩
      have e := ok_uniq R hr a1 a3'
      rw [e]
      exact hr.2.2.1
theorem sn_node {N f i t : Nat} (T : TkM h n K p V) (R : GR n K V g h tg q na nf) (hcnt : ∀ k, k < q → g.2.2.1 3 k = 1 → h.2.2.1 29 k = g.2.2.1 5 k) (hi : i < nd) (hnd : nd ≤ 500) (hk : so i = 4 ∨ so i = 5 ∨ so i = 12) (ht : t < n) (hkt : K t = 1) (h26 : tk i = nI t) :
    ∃ (N' f' : Nat) (v : Int32), N ≤ N' ∧ tModel_settleNames_L (N + 7) 1 (mkV h 0 (-1) (ftk n f) (nI a) (nI 0) (nI nd) (nI oc) (nI wt) so wh oe tw th nx tk os wa wf) (nI i) 0 0 = tModel_settleNames_L N' 1 (mkV h 0 (-1) (ftk n f') (nI a) (nI 0) (nI nd) (nI oc) (nI wt) so wh oe tw (upd th i v) nx tk os wa wf) (nI (i + 1)) 0 0 ∧ (((0 ≤ th i ∨ ∀ r, ¬ OkI g q V (xM (so i)) t (wh i) r) ∧ f' = min f t) ∨ (th i < 0 ∧ ∃ r, OkI g q V (xM (so i)) t (wh i) r ∧ v = nI r ∧ f' = f)) := by
  have hn := T.1.1
  rw [sn_three (N := N + 5) hi hnd hk, sn_L3]
  unfold tModel_settleNames_b3
  rw [gdT (inI (show i < 500 by omega) (by omega)), gdT (inI (show i < 500 by omega) (by omega)), tc_nI (by omega), mkV_r24, mkV_r26, h26]
  by_cases hid : th i < 0
  · rw [if_pos hid]
    obtain ⟨r, e1, e2⟩ := glob_c (σ := mkV h 0 (-1) (ftk n f) (nI a) (nI 0) (nI nd) (nI oc) (nI wt) so wh oe tw th nx tk os wa wf) (tkm_keep samev T) R.2.2.1 ht hkt
    rw [b1S e1]
    rcases sn_four (N := N + 3) (i := i) (σ := mkV h 0 (-1) (ftk n f) (nI a) (nI 0) (nI nd) (nI oc) (nI wt) so wh oe tw th nx tk os wa wf) (wh := wh) R hcnt (by omega) rfl rfl rfl (xM_or (so i)) e2 with ⟨j, k1, k2, k3⟩ | ⟨k1, k3⟩
    · rw [k3, sn_six (by omega)]
      exact ⟨N + 1, f, r, by omega, rfl, Or.inr ⟨hid, j, k1, k2, rfl⟩⟩
    · rw [k3, sn_five hn (by omega) (by omega) h26]
      exact ⟨N, min f t, r, by omega, rfl, Or.inl ⟨Or.inr k1, rfl⟩⟩
  · rw [if_neg hid, sn_L4]
    unfold tModel_settleNames_b4
    rw [if_pos (by decide), sn_five hn (by omega) (by omega) h26]
    exact ⟨N, min f t, -1, by omega, rfl, Or.inl ⟨Or.inl (Int32.not_lt.mp hid), rfl⟩⟩
/-- the names that are wrong among the nodes below i -/
def BadM (g : St) (q : Nat) (V : Nat → Int64) (so wh th tk : Nat → Int32) (i t : Nat) : Prop := ∃ j, j < i ∧ (so j = 4 ∨ so j = 5 ∨ so j = 12) ∧ tk j = nI t ∧ t < 1000 ∧ (0 ≤ th j ∨ ∀ r, ¬ OkI g q V (xM (so j)) t (wh j) r)
def MInv (g : St) (q : Nat) (V : Nat → Int64) (so wh th tk : Nat → Int32) (fM i f : Nat) (th' : Nat → Int32) : Prop :=
  FRel f fM (BadM g q V so wh th tk i) ∧ (∀ j, (i ≤ j ∨ ¬ (so j = 4 ∨ so j = 5 ∨ so j = 12)) → th' j = th j) ∧ (∀ j t r, j < i → (so j = 4 ∨ so j = 5 ∨ so j = 12) → tk j = nI t → t < 1000 → th j < 0 → OkI g q V (xM (so j)) t (wh j) r → th' j = nI r)
theorem settle_all {fM : Nat} (T : TkM h n K p V) (R : GR n K V g h tg q na nf) (hcnt : ∀ k, k < q → g.2.2.1 3 k = 1 → h.2.2.1 29 k = g.2.2.1 5 k) (hnd : nd ≤ 500) (hv : ∀ j, j < nd → (so j = 4 ∨ so j = 5 ∨ so j = 12) → ∃ t, t < n ∧ K t = 1 ∧ tk j = nI t) :
    ∀ (r i N f : Nat) (th' : Nat → Int32), i + r = nd → 7 * r < N → MInv g q V so wh th tk fM i f th' →
      ∃ (f' : Nat) (th2 : Nat → Int32), tModel_settleNames_L N 1 (mkV h 0 (-1) (ftk n f) (nI a) (nI 0) (nI nd) (nI oc) (nI wt) so wh oe tw th' nx tk os wa wf) (nI i) 0 0 = some (mkV h 0 (-1) (ftk n f') (nI a) (nI 0) (nI nd) (nI oc) (nI wt) so wh oe tw th2 nx tk os wa wf) ∧ MInv g q V so wh th tk fM nd f' th2 := by
  have hn := T.1.1
  intro r
  induction r with
  | zero =>
    intro i N f th' h1 h2 I
    obtain rfl : i = nd := by omega
    obtain ⟨N, rfl⟩ : ∃ j, N = j + 1 := ⟨N - 1, by omega⟩
    refine ⟨f, th', ?_, I⟩
    rw [sn_L1]
    unfold tModel_settleNames_b1
    rw [mkV_i34, if_pos ((nI_leI (by omega) (by omega)).mpr (Nat.le_refl _))]
  | succ r ih =>
    intro i N f th' h1 h2 I
    obtain ⟨N, rfl⟩ : ∃ j, N = j + 7 := ⟨N - 7, by omega⟩
    obtain ⟨I1, I2, I3⟩ := I
    by_cases hk : so i = 4 ∨ so i = 5 ∨ so i = 12
    · obtain ⟨t, ht, hkt, h26⟩ := hv i (by omega) hk
      have j1 := I2 i (Or.inl (Nat.le_refl _))
      obtain ⟨N', f', v, k1, k2, k3⟩ := sn_node (N := N) (f := f) (i := i) (a := a) (nd := nd) (oc := oc) (wt := wt) (so := so) (wh := wh) (oe := oe) (tw := tw) (th := th') (nx := nx) (tk := tk) (os := os) (wa := wa) (wf := wf) T R hcnt (by omega) hnd hk ht hkt h26
      rw [j1] at k3
      rw [k2]
      have hth : ∀ j, (i + 1 ≤ j ∨ ¬ (so j = 4 ∨ so j = 5 ∨ so j = 12)) → upd th' i v j = th j := fun j hj => by
        have hji : j ≠ i := by
          rcases hj with z | z
          · omega
          · intro z2; rw [z2] at z; exact z hk
        rw [upd_n hji]
        exact I2 j (by rcases hj with z | z; exact Or.inl (by omega); exact Or.inr z)
      rcases k3 with ⟨b1, b2⟩ | ⟨b1, r0, b2, b3, b4⟩
      · rw [b2]
        refine ih (i + 1) N' (min f t) _ (by omega) (by omega) ⟨frel_ins (t0 := t) I1 fun t' => ?_, hth, fun j t' r' hj hkj hj26 ht' hthj hok => ?_⟩
        · constructor
          · rintro ⟨j, c1, c2, c3, c4⟩
            rcases Nat.lt_or_ge j i with z | z
            · exact Or.inl ⟨j, z, c2, c3, c4⟩
            · obtain rfl : j = i := by omega
              exact Or.inr (nI_inj (by omega) (by omega) (c3.symm.trans h26))
          · rintro (⟨j, c1, c2⟩ | z)
            · exact ⟨j, by omega, c2⟩
            · rw [z]
              exact ⟨i, by omega, hk, h26, by omega, b1⟩
        · rcases Nat.lt_or_ge j i with z | z
          · rw [upd_n (by omega)]
            exact I3 j t' r' z hkj hj26 ht' hthj hok
          · obtain rfl : j = i := by omega
            obtain rfl : t' = t := nI_inj (by omega) (by omega) (hj26.symm.trans h26)
            rcases b1 with b1 | b1
            · exact absurd hthj (Int32.not_lt.mpr b1)
            · exact absurd hok (b1 r')
      · rw [b4]
        refine ih (i + 1) N' f _ (by omega) (by omega) ⟨frel_iff I1 fun t' => ?_, hth, fun j t' r' hj hkj hj26 ht' hthj hok => ?_⟩
        · constructor
          · rintro ⟨j, c1, c2, c3, c4, c5⟩
            rcases Nat.lt_or_ge j i with z | z
            · exact ⟨j, z, c2, c3, c4, c5⟩
            · obtain rfl : j = i := by omega
              obtain rfl : t' = t := nI_inj (by omega) (by omega) (c3.symm.trans h26)
              rcases c5 with c5 | c5
              · exact absurd b1 (Int32.not_lt.mpr c5)
              · exact absurd b2 (c5 r0)
          · rintro ⟨j, c1, c2⟩
            exact ⟨j, by omega, c2⟩
        · rcases Nat.lt_or_ge j i with z | z
          · rw [upd_n (by omega)]
            exact I3 j t' r' z hkj hj26 ht' hthj hok
          · obtain rfl : j = i := by omega
            obtain rfl : t' = t := nI_inj (by omega) (by omega) (hj26.symm.trans h26)
            have e1 := ok_uniq R b2 hok.1 hok.2.1
            rw [upd_e, b3, e1]
    · rw [sn_skip (N := N + 4) (by omega) hnd hk]
      refine ih (i + 1) (N + 4) f _ (by omega) (by omega) ⟨frel_iff I1 fun t' => ?_, fun j hj => I2 j (by rcases hj with z | z; exact Or.inl (by omega); exact Or.inr z), fun j t' r' hj hkj hj26 ht' hthj hok => ?_⟩
      · constructor
        · rintro ⟨j, c1, c2, c3⟩
          rcases Nat.lt_or_ge j i with z | z
          · exact ⟨j, z, c2, c3⟩
          · obtain rfl : j = i := by omega
            exact absurd c2 hk
        · rintro ⟨j, c1, c2⟩
          exact ⟨j, by omega, c2⟩
      · rcases Nat.lt_or_ge j i with z | z
        · exact I3 j t' r' z hkj hj26 ht' hthj hok
        · obtain rfl : j = i := by omega
          exact absurd hkj hk
end SN
