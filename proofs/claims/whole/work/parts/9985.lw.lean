/-! The other calls; the law. -/
theorem okB_n : ∀ q : Nat, q < 256 → okB (nI q) = true → (q = 10 ∨ (32 ≤ q ∧ q ≤ 126)) := by decide +kernel
theorem tiN_eq {x : Int32} {n : Nat} (h : x.toInt = (n : Int)) (hn : n < 2147483648) : x = nI n := Int32.toInt_inj.mp (by rw [h, ti_nI hn])
/-- the text with m more signs -/
def txm (tx : Nat → Nat) (y : Int64) (L m j : Nat) : Nat := if L ≤ j ∧ j < L + m then (byt y (j - L)).toInt.toNat else tx j
theorem txm_ok {tx : Nat → Nat} {y : Int64} {L m j : Nat} (hm : m ≤ 8) (hok : okAll y m 0 = true) (hj : j < L + m) (h : j < L → okc (tx j)) : okc (txm tx y L m j) ∧ (L ≤ j → byt y (j - L) = nI (txm tx y L m j)) := by
  unfold txm
  by_cases hL : L ≤ j
  · rw [if_pos ⟨hL, hj⟩]
    obtain ⟨q, hq, e⟩ := byt_lo y (show j - L < 8 by omega)
    have hb := okAll_at m 0 hok (j - L) (by omega)
    rw [Nat.zero_add, e] at hb
    have e2 : (nI q).toInt.toNat = q := by rw [ti_nI (by omega)]; simp
    rw [e, e2]
    exact ⟨okB_n q hq hb, fun _ => rfl⟩
  · rw [if_neg (fun e => hL e.1)]
    exact ⟨h (by omega), fun e => absurd e hL⟩
theorem type_ok {σ : St} {y : Int64} {a2 : Int32} (hI : IS σ) : CallOk (tLaw_type σ y a2) (fun u => tModel_type u y a2) := by
  obtain ⟨tx, L, qn, on, h1, h2, h3, h4, h5, h6, h7, h8, h9⟩ := id hI
  have hL := h1.2.1
  have bad : ∀ (v : Nat) (w : Int32), (v = 1 ∧ w = 1 ∨ v = 2 ∧ w = 2) → tForge_type σ y a2 = some (v, 0, σ) → tModel_type σ y a2 = some (0, sI (sI σ 26 0) 26 w) → CallOk (tLaw_type σ y a2) (fun u => tModel_type u y a2) := by
    intro v w hv e1 e2
    refine ⟨w, 0, σ, _, ?_, e2, rfl, fun z => ?_, is_26 (is_26 hI)⟩
    · unfold tLaw_type
      rw [e1, b3T]
      rcases hv with ⟨p1, p2⟩ | ⟨p1, p2⟩
      · rw [p1, p2, if_neg (by decide), if_pos rfl]
      · rw [p1, p2, if_neg (by decide), if_neg (by decide), if_pos rfl]
    · rcases hv with ⟨p1, p2⟩ | ⟨p1, p2⟩ <;> rw [p2] at z <;> exact absurd z (by decide)
  by_cases hlo : a2 < 1
  · refine bad 1 1 (Or.inl ⟨rfl, rfl⟩) ?_ ?_
    · unfold tForge_type; rw [if_pos hlo]
    · unfold tModel_type tModel_refuse; rw [if_pos hlo, b2S rfl]
  by_cases hhi : (8 : Int32) < a2
  · refine bad 1 1 (Or.inl ⟨rfl, rfl⟩) ?_ ?_
    · unfold tForge_type; rw [if_neg hlo, if_pos hhi]
    · unfold tModel_type tModel_refuse; rw [if_neg hlo, if_neg (Int32.not_le.mpr hhi), b2S rfl]
  have i1 : ¬ a2.toInt < 1 := fun e => hlo (Int32.lt_iff_toInt_lt.mpr e)
  have i8 : ¬ 8 < a2.toInt := fun e => hhi (Int32.lt_iff_toInt_lt.mpr e)
  obtain ⟨m, hm⟩ : ∃ m : Nat, a2.toInt = (m : Int) := ⟨a2.toInt.toNat, by omega⟩
  obtain rfl : a2 = nI m := tiN_eq hm (by omega)
  have hm1 : 1 ≤ m ∧ m ≤ 8 := by omega
  have eA : tText_areCharacters σ y (nI m) = some (if okAll y m 0 then 1 else 0) := by
    have e := areC (σ := σ) (y := y) m 0 2000 (by omega) (by omega)
    rw [Nat.zero_add] at e
    unfold tText_areCharacters
    exact e
  have eT : ∀ b : St, tModel_type b y (nI m) = if okAll y m 0 then (if (b.1 27 + nI m) ≤ 480 then tModel_type_L (1999 - 2 * m) 3 (sI b 26 0) (nI m) 0 y else some (0, sI (sI b 26 0) 26 2)) else some (0, sI (sI b 26 0) 26 1) := fun b => by
    have e := typ1 (σ := sI b 26 0) (y := y) m 0 (1999 - 2 * m) (by omega)
    rw [show 1999 - 2 * m + 2 * m + 1 = 2000 by omega, Nat.zero_add] at e
    unfold tModel_type
    rw [if_neg hlo, if_pos (Int32.not_lt.mp hhi)]
    exact e
  have eF : tForge_type σ y (nI m) = b1 (tText_areCharacters σ y (nI m)) (fun r3 => if r3 = 0 then some (1, 0, σ) else b1 (tText_hasRoomFor σ (nI m)) (fun r5 => if r5 = 0 then some (2, 0, σ) else b1 (tText_add σ y (nI m)) (fun u7 => some (0, (u7.1 0), u7)))) := by
    unfold tForge_type
    rw [if_neg hlo, if_neg hhi]
  by_cases hok : okAll y m 0 = true
  · rw [if_pos hok] at eA
    have eR : tText_hasRoomFor σ (nI m) = some (if 480 - L < m then 0 else 1) := by
      unfold tText_hasRoomFor
      rw [h1.1, show (480 : Int32) - nI L = nI (480 - L) from nI_sub (a := 480) hL]
      by_cases hr : 480 - L < m
      · rw [if_pos ((nI_ltI (by omega) (by omega)).mpr hr), if_pos hr]
      · rw [if_neg (fun e => hr ((nI_ltI (by omega) (by omega)).mp e)), if_neg hr]
    by_cases hr : 480 - L < m
    · refine bad 2 2 (Or.inr ⟨rfl, rfl⟩) ?_ ?_
      · rw [eF, b1S eA, if_neg (by decide), b1S eR, if_pos hr, if_pos rfl]
      · rw [eT, if_pos hok, h2.1, nI_add, if_neg (show ¬ nI (L + m) ≤ 480 from fun e => absurd ((nI_leI (b := 480) (by omega) (by omega)).mp e) (by omega))]
    · have t0 : (σ.1 0).toInt = (L : Int) := by rw [h1.1, ti_nI (by omega)]
      obtain ⟨u, u1, u2⟩ := addC (y := y) m 0 2000 σ (by omega) (by omega) (by omega) (by omega)
      rw [Nat.zero_add] at u1
      have eAdd : tText_add σ y (nI m) = some u := by
        unfold tText_add
        exact u1
      obtain ⟨w1, w2, w3, w4, w5, w6⟩ := u2
      rw [t0] at w1 w4
      have u0 : u.1 0 = nI (L + m) := tiN_eq (by rw [w1]; simp) (by omega)
      obtain ⟨b, hb⟩ : ∃ b, b = sL u 3 (vp_updL (u.2.2.2 3) 0 (u.1 0).toInt64) := ⟨_, rfl⟩
      have bi : ∀ k, b.1 k = u.1 k := fun k => by rw [hb]; rfl
      have br : ∀ k, b.2.2.1 k = u.2.2.1 k := fun k => by rw [hb]; rfl
      have b27 : (sI b 26 0).1 27 = nI L := by
        show b.1 27 = nI L
        rw [bi, w2 27 (by omega)]; exact h2.1
      have t27 : ((sI b 26 0).1 27).toInt = (L : Int) := by rw [b27, ti_nI (by omega)]
      obtain ⟨u', v1, v2⟩ := addM (y := y) m 0 (1999 - 2 * m) (sI b 26 0) (by omega) (by omega) (by omega) (by omega)
      rw [Nat.zero_add] at v1
      obtain ⟨x1, x2, x3, x4, x5, x6⟩ := v2
      rw [t27] at x1 x4
      have v27 : u'.1 27 = nI (L + m) := tiN_eq (by rw [x1]; simp) (by omega)
      have ui : ∀ k, k ≠ 27 → k ≠ 26 → u'.1 k = u.1 k := fun k hk hk2 => by
        rw [x2 k hk]
        show (if k = 26 then (0 : Int32) else b.1 k) = u.1 k
        rw [if_neg hk2, bi]
      have ur : ∀ k, k ≠ 15 → u'.2.2.1 k = u.2.2.1 k := fun k hk => by
        rw [x5 k hk]
        exact br k
      have si : ∀ k, k ≠ 27 → k ≠ 26 → k ≠ 0 → u'.1 k = σ.1 k := fun k a1 a2 a3 => (ui k a1 a2).trans (w2 k a3)
      have sr : ∀ k, k ≠ 15 → k ≠ 0 → u'.2.2.1 k = σ.2.2.1 k := fun k a1 a2 => (ur k a1).trans (w5 k a2)
      refine ⟨0, u'.1 27, b, u', ?_, ?_, x2 26 (by omega), fun _ => ?_, ?_⟩
      · unfold tLaw_type
        rw [eF, b1S eA, if_neg (by decide), b1S eR, if_neg hr, if_neg (by decide), b1S eAdd, b3T, if_pos rfl, gdT (by decide), hb]
        rfl
      · show tModel_type b y (nI m) = _
        rw [eT, if_pos hok, show b.1 27 = nI L from b27, nI_add, if_pos (show nI (L + m) ≤ 480 from (nI_leI (b := 480) (by omega) (by omega)).mpr (by omega))]
        exact v1
      · rw [x6, v27, ← u0]
        show b.2.2.2 3 0 = _
        rw [hb]
        show vp_updL (u.2.2.2 3) 0 (u.1 0).toInt64 0 = _
        exact updL_e
      · have hnat : ((L : Int)).toNat = L := by simp
        rw [hnat] at w4 x4
        refine ⟨txm tx y L m, L + m, qn, on, ⟨by rw [ui 0 (by omega) (by omega)]; exact u0, by omega, fun i hi => ?_⟩, ⟨v27, by omega, fun i hi => ?_⟩, ⟨?_, ?_⟩, ⟨?_, ?_, h4.2.2.1, fun j hj => ?_⟩, ⟨?_, ?_, h5.2.2.1, fun j hj => ?_⟩, ⟨?_, ?_⟩, ?_, ⟨?_, ?_, ?_⟩, ⟨?_, ?_⟩⟩
        · obtain ⟨z1, z2⟩ := txm_ok (tx := tx) hm1.2 hok hi (fun hl => (h1.2.2 i hl).2)
          refine ⟨?_, z1⟩
          rw [ur 0 (by omega), w4 i]
          by_cases hl : L ≤ i
          · rw [if_pos ⟨hl, hi⟩, Nat.zero_add]; exact z2 hl
          · rw [if_neg (fun e => hl e.1), (h1.2.2 i (by omega)).1]
            unfold txm
            rw [if_neg (fun e => hl e.1)]
        · obtain ⟨z1, z2⟩ := txm_ok (tx := tx) hm1.2 hok hi (fun hl => (h1.2.2 i hl).2)
          refine ⟨?_, z1⟩
          rw [x4 i]
          by_cases hl : L ≤ i
          · rw [if_pos ⟨hl, hi⟩, Nat.zero_add]; exact z2 hl
          · rw [if_neg (fun e => hl e.1)]
            show b.2.2.1 15 i = _
            rw [br, w5 15 (by omega), (h2.2.2 i (by omega)).1]
            unfold txm
            rw [if_neg (fun e => hl e.1)]
        · rw [si 1 (by omega) (by omega) (by omega), si 29 (by omega) (by omega) (by omega)]; exact h3.1
        · rw [si 2 (by omega) (by omega) (by omega), si 30 (by omega) (by omega) (by omega)]; exact h3.2
        · rw [si 15 (by omega) (by omega) (by omega)]; exact h4.1
        · rw [si 45 (by omega) (by omega) (by omega)]; exact h4.2.1
        · rw [sr 9 (by omega) (by omega), sr 37 (by omega) (by omega)]; exact h4.2.2.2 j hj
        · rw [si 22 (by omega) (by omega) (by omega)]; exact h5.1
        · rw [si 47 (by omega) (by omega) (by omega)]; exact h5.2.1
        · rw [sr 14 (by omega) (by omega), sr 38 (by omega) (by omega)]; exact h5.2.2.2 j hj
        · rw [si 23 (by omega) (by omega) (by omega), si 51 (by omega) (by omega) (by omega)]; exact h6.1
        · rw [si 24 (by omega) (by omega) (by omega), si 53 (by omega) (by omega) (by omega)]; exact h6.2
        · rw [si 25 (by omega) (by omega) (by omega), si 43 (by omega) (by omega) (by omega)]
          rcases h7 with h7 | ⟨a1, a2, a3⟩
          · exact Or.inl h7
          · refine Or.inr ⟨a1, a2, PR.keep ⟨si 13 (by omega) (by omega) (by omega), si 14 (by omega) (by omega) (by omega), si 34 (by omega) (by omega) (by omega), si 44 (by omega) (by omega) (by omega), sr 6 (by omega) (by omega), sr 7 (by omega) (by omega), sr 8 (by omega) (by omega), fun N _ => ⟨by rw [sr 20 (by omega) (by omega)], by rw [sr 21 (by omega) (by omega)], by rw [sr 22 (by omega) (by omega)], by rw [sr 23 (by omega) (by omega)], by rw [sr 24 (by omega) (by omega)], by rw [sr 25 (by omega) (by omega)]⟩, sr 29 (by omega) (by omega), sr 30 (by omega) (by omega)⟩ a3⟩
        · rw [si 8 (by omega) (by omega) (by omega)]; exact h8.1
        · rw [si 9 (by omega) (by omega) (by omega)]; exact h8.2.1
        · rw [si 10 (by omega) (by omega) (by omega)]; exact h8.2.2
        · rw [si 40 (by omega) (by omega) (by omega)]; exact h9.1
        · rw [si 42 (by omega) (by omega) (by omega)]; exact h9.2
  · refine bad 1 1 (Or.inl ⟨rfl, rfl⟩) ?_ ?_
    · rw [eF, b1S eA, if_neg hok, if_pos rfl]
    · rw [eT, if_neg hok]
theorem give_ok {σ : St} {x : Int32} (hI : IS σ) : CallOk (tLaw_give σ x) (fun u => tModel_give u x) := by
  obtain ⟨tx, L, qn, on, h1, h2, h3, h4, h5, h6, h7, h8, h9⟩ := id hI
  obtain ⟨q1, q2, q3, q4⟩ := h4
  by_cases hq : qn < 20
  · obtain ⟨u, hu⟩ : ∃ u, u = sI (sA σ 9 (upd (σ.2.2.1 9) qn x)) 15 (nI (qn + 1)) := ⟨_, rfl⟩
    have e1 : tForge_give σ x = some (0, nI (qn + 1), u) := by
      unfold tForge_give tInput_add
      rw [q1, if_pos (show nI qn < 20 from (nI_ltI (b := 20) (by omega) (by omega)).mpr hq), if_neg (show ¬ (20 : Int32) ≤ nI qn from fun e => absurd ((nI_leI (a := 20) (by omega) (by omega)).mp e) (by omega)), gdT (inI hq (by omega)), tc_nI (by omega), nI_suc, ← hu, b1S rfl, hu]
      rfl
    obtain ⟨b, hb⟩ : ∃ b, b = sL u 3 (vp_updL (u.2.2.2 3) 0 (nI (qn + 1)).toInt64) := ⟨_, rfl⟩
    have b45 : b.1 45 = nI qn := by rw [hb, hu]; exact q2
    have e2 : tModel_give b x = some (nI (qn + 1), sI (sA (sI b 26 0) 37 (upd (b.2.2.1 37) qn x)) 45 (nI (qn + 1))) := by
      unfold tModel_give
      rw [b45, if_neg (show ¬ nI qn = 20 from fun e => by have := nI_inj (b := 20) (by omega) (by omega) e; omega), gdT (inI hq (by omega)), tc_nI (by omega), nI_suc]
    refine ⟨0, nI (qn + 1), b, _, ?_, e2, rfl, fun _ => ?_, ?_⟩
    · unfold tLaw_give
      rw [e1, b3T, if_pos rfl, gdT (by decide), hb]
      rfl
    · show b.2.2.2 3 0 = _
      rw [hb]
      show vp_updL (u.2.2.2 3) 0 (nI (qn + 1)).toInt64 0 = _
      exact updL_e
    · subst hb
      subst hu
      refine ⟨tx, L, qn + 1, on, h1, h2, h3, ⟨rfl, rfl, by omega, fun j hj => ?_⟩, h5, h6, ?_, h8, h9⟩
      · show upd (σ.2.2.1 9) qn x j = upd (σ.2.2.1 37) qn x j
        by_cases e : j = qn
        · rw [e, upd_e, upd_e]
        · rw [upd_n e, upd_n e]; exact q4 j (by omega)
      · rcases h7 with h7 | ⟨a1, a2, a3⟩
        · exact Or.inl h7
        · exact Or.inr ⟨a1, a2, PR.keep (σ := σ) ⟨rfl, rfl, rfl, rfl, rfl, rfl, rfl, fun _ _ => ⟨rfl, rfl, rfl, rfl, rfl, rfl⟩, rfl, rfl⟩ a3⟩
  · obtain rfl : qn = 20 := by omega
    refine ⟨1, 0, σ, sI (sI σ 26 0) 26 1, ?_, ?_, rfl, fun z => absurd z (by decide), is_26 (is_26 hI)⟩
    · unfold tLaw_give tForge_give
      rw [q1, if_neg (show ¬ nI 20 < 20 by decide), b3T, if_neg (by decide), if_pos rfl]
    · show tModel_give σ x = _
      unfold tModel_give tModel_refuse
      rw [q2, if_pos (show nI 20 = 20 from rfl), b2S rfl]
theorem fin_tail {r7 r11 : Int32} {u11 : St} {k : St → Option Unit} (h3 : u11.1 26 = r7) (h4 : r7 = 0 → u11.2.2.2 3 0 = r11.toInt64) (hk : k u11 = some ()) : b1 (tModel_thrown u11) (fun r12 => if r12 = r7 then if r7 = 0 then gd (inB 0 1) (if (lg_cmp ((u11.2.2.2 3) (0 : Int32).toNatClampNeg) ((r11 : Int32).toInt64)) = 0 then k u11 else none) else k u11 else none) = some () := by
  have h3' : tModel_thrown u11 = some r7 := by unfold tModel_thrown; rw [h3]
  rw [b1S h3', if_pos rfl]
  by_cases h0 : r7 = 0
  · rw [if_pos h0, gdT (by decide), show (0 : Int32).toNatClampNeg = 0 from rfl, if_pos (lg_eq.mpr (h4 h0))]
    exact hk
  · rw [if_neg h0]
    exact hk
theorem law_step {L x : Nat} {xs : Nat → Int32} {k : St → Int32 → Option Unit} {σ : St} (hL : L ≤ 2048) (hx : x + 4 ≤ L) (hI : IS σ) (hk : ∀ u, IS u → k u (nI (x + 4)) = some ()) : tLaw_b L xs k σ (nI x) = some () := by
  have hlt : ¬ (Int32.ofNat L) - 4 < nI x := by
    intro e
    have e2 : nI L - 4 < nI x := e
    rw [show nI L - 4 = nI (L - 4) from nI_sub (b := 4) (by omega), nI_ltI (by omega) (by omega)] at e2
    omega
  obtain ⟨tx, TL, qn, on, h1, h2, h3, h4, h5, h6, h7, h8, h9⟩ := id hI
  unfold tLaw_b
  rw [if_neg hlt, gdT (inI (show x < L by omega) (by omega)), nI_suc, show nI x + 2 = nI (x + 2) from nI_add x 2, show nI x + 3 = nI (x + 3) from nI_add x 3, show nI x + 4 = nI (x + 4) from nI_add x 4, tc_nI (show x < 2147483648 by omega), tc_nI (show x + 1 < 2147483648 by omega), tc_nI (show x + 2 < 2147483648 by omega), tc_nI (show x + 3 < 2147483648 by omega)]
  have g1 : inB (nI (x + 1)) L = true := inI (by omega) (by omega)
  have g2 : inB (nI (x + 2)) L = true := inI (by omega) (by omega)
  have g3 : inB (nI (x + 3)) L = true := inI (by omega) (by omega)
  have ask : ∀ (a b : Int32), a = b → (if a = b then k (sI σ 26 0) (nI (x + 4)) else none) = some () := fun a b e => by
    rw [if_pos e]; exact hk _ (is_26 hI)
  by_cases c0 : xs x &&& 15 = 0
  · rw [if_pos c0, gdT g1, gdT g2, gdT g3]
    obtain ⟨r7, r11, u7, u11, p1, p2, p3, p4, p5⟩ := type_ok (y := ((((xs (x + 1)) : Int32).toInt64) <<< ((32 : Int32).toInt64 &&& 63)) ||| ((((xs (x + 2)) : Int32).toInt64) &&& 4294967295)) (a2 := xs (x + 3)) hI
    rw [b2S p1, gdT g1, gdT g2, gdT g3, b2S p2]
    exact fin_tail (k := fun u => k u (nI (x + 4))) p3 p4 (hk _ p5)
  rw [if_neg c0]
  by_cases c1 : xs x &&& 15 = 1
  · rw [if_pos c1]
    unfold tForge_clear tModel_clear
    rw [b2S rfl, b2S rfl, if_pos (show σ.1 0 = (sI σ 0 0).1 27 by rw [h1.1]; exact h2.1.symm)]
    refine hk _ ⟨tx, 0, qn, on, ⟨rfl, by omega, fun i hi => absurd hi (by omega)⟩, ⟨rfl, by omega, fun i hi => absurd hi (by omega)⟩, h3, h4, h5, h6, ?_, h8, h9⟩
    rcases h7 with h7 | ⟨a1, a2, a3⟩
    · exact Or.inl h7
    · exact Or.inr ⟨a1, a2, PR.keep (σ := σ) ⟨rfl, rfl, rfl, rfl, rfl, rfl, rfl, fun _ _ => ⟨rfl, rfl, rfl, rfl, rfl, rfl⟩, rfl, rfl⟩ a3⟩
  rw [if_neg c1]
  by_cases c2 : xs x &&& 15 = 2
  · rw [if_pos c2]
    exact call_fin (k := fun u => k u (nI (x + 4))) (forge_ok hI) hk
  rw [if_neg c2]
  by_cases c3 : xs x &&& 15 = 3
  · rw [if_pos c3]
    unfold tForge_why tModel_why
    rw [b1S rfl, b2S rfl]
    exact ask _ _ h3.1
  rw [if_neg c3]
  by_cases c4 : xs x &&& 15 = 4
  · rw [if_pos c4]
    unfold tForge_where tModel_where
    rw [b1S rfl, b2S rfl]
    exact ask _ _ h3.2
  rw [if_neg c4]
  by_cases c5 : xs x &&& 15 = 5
  · rw [if_pos c5, gdT g1]
    obtain ⟨r7, r11, u7, u11, p1, p2, p3, p4, p5⟩ := give_ok (x := xs (x + 1)) hI
    rw [b2S p1, gdT g1, b2S p2]
    exact fin_tail (k := fun u => k u (nI (x + 4))) p3 p4 (hk _ p5)
  rw [if_neg c5]
  by_cases c6 : xs x &&& 15 = 6
  · rw [if_pos c6]
    unfold tForge_empty tModel_empty
    rw [b2S rfl, b2S rfl, if_pos (show σ.1 15 = (sI σ 15 0).1 45 by rw [h4.1]; exact h4.2.1.symm)]
    refine hk _ ⟨tx, TL, 0, on, h1, h2, h3, ⟨rfl, rfl, by omega, fun i hi => absurd hi (by omega)⟩, h5, h6, ?_, h8, h9⟩
    rcases h7 with h7 | ⟨a1, a2, a3⟩
    · exact Or.inl h7
    · exact Or.inr ⟨a1, a2, PR.keep (σ := σ) ⟨rfl, rfl, rfl, rfl, rfl, rfl, rfl, fun _ _ => ⟨rfl, rfl, rfl, rfl, rfl, rfl⟩, rfl, rfl⟩ a3⟩
  rw [if_neg c6]
  by_cases c7 : xs x &&& 15 = 7
  · rw [if_pos c7]
    exact call_fin (k := fun u => k u (nI (x + 4))) (run_ok hI) hk
  rw [if_neg c7]
  by_cases c8 : xs x &&& 15 = 8
  · rw [if_pos c8]
    unfold tForge_result tModel_result
    rw [b1S rfl, b2S rfl]
    exact ask _ _ h6.2
  rw [if_neg c8]
  by_cases c9 : xs x &&& 15 = 9
  · rw [if_pos c9, gdT g1]
    have ho : ∃ r, tForge_output σ (xs (x + 1)) = some r ∧ tModel_output σ (xs (x + 1)) = some (r, sI σ 26 0) := by
      unfold tForge_output tModel_output tMachine_outputAt
      by_cases e1 : xs (x + 1) = -1
      · rw [if_pos e1, if_pos e1]
        exact ⟨nI on, by rw [h5.1], by rw [h5.2.1]⟩
      · rw [if_neg e1, if_neg e1]
        by_cases e2 : xs (x + 1) < 0
        · rw [if_pos e2, if_pos e2, b1S rfl]
          exact ⟨0, rfl, rfl⟩
        · rw [if_neg e2, if_neg e2, h5.1, h5.2.1]
          by_cases e3 : nI on ≤ xs (x + 1)
          · rw [if_pos e3, if_pos e3, b1S rfl]
            exact ⟨0, rfl, rfl⟩
          · rw [if_neg e3, if_neg e3]
            have i1 : ¬ (xs (x + 1)).toInt < 0 := fun e => e2 (Int32.lt_iff_toInt_lt.mpr e)
            have ho := h5.2.2.1
            have i2 : ¬ (on : Int) ≤ (xs (x + 1)).toInt := fun e => e3 (Int32.le_iff_toInt_le.mpr (by rw [ti_nI (by omega)]; exact e))
            obtain ⟨j, hj⟩ : ∃ j : Nat, (xs (x + 1)).toInt = (j : Int) := ⟨(xs (x + 1)).toInt.toNat, by omega⟩
            rw [tiN_eq hj (by omega), gdT (inI (show j < 30 by omega) (by omega)), gdT (inI (show j < 30 by omega) (by omega)), tc_nI (by omega), b1S rfl]
            exact ⟨_, rfl, by rw [h5.2.2.2 j (by omega)]⟩
    obtain ⟨r, o1, o2⟩ := ho
    rw [b1S o1, gdT g1, b2S o2]
    exact ask _ _ rfl
  rw [if_neg c9]
  by_cases c10 : xs x &&& 15 = 10
  · rw [if_pos c10]
    unfold tForge_ticks tModel_ticks
    rw [b1S rfl, b2S rfl]
    exact ask _ _ h6.1
  rw [if_neg c10]
  exact hk σ hI
theorem law_all {L : Nat} {xs : Nat → Int32} (hL : L ≤ 2048) : ∀ (n j : Nat) (σ : St), IS σ → 4 * j ≤ L → L < 4 * j + 4 * n → tLaw_L L xs n σ (nI (4 * j)) = some () := by
  intro n
  induction n with
  | zero => intro j σ _ h1 h2; omega
  | succ n ih =>
    intro j σ hI h1 h2
    have e : tLaw_L L xs (n + 1) σ (nI (4 * j)) = tLaw_b L xs (tLaw_L L xs n) σ (nI (4 * j)) := rfl
    rw [e]
    by_cases hx : 4 * j + 4 ≤ L
    · exact law_step hL hx hI (fun u hu => by
        rw [show 4 * j + 4 = 4 * (j + 1) by omega]
        exact ih (j + 1) u hu (by omega) (by omega))
    · have hlt : (Int32.ofNat L) - 4 < nI (4 * j) := by
        show nI L - 4 < nI (4 * j)
        rw [Int32.lt_iff_toInt_lt, Int32.toInt_sub, ti_nI (by omega), ti_nI (by omega), show (4 : Int32).toInt = 4 from rfl, bm32 (by omega) (by omega)]
        omega
      unfold tLaw_b
      rw [if_pos hlt]
theorem is_start : IS σ0 := by
  refine ⟨fun _ => 0, 0, 0, 0, ⟨rfl, by omega, fun i hi => absurd hi (by omega)⟩, ⟨rfl, by omega, fun i hi => absurd hi (by omega)⟩, ⟨rfl, rfl⟩, ⟨rfl, rfl, by omega, fun i hi => absurd hi (by omega)⟩, ⟨rfl, rfl, by omega, fun i hi => absurd hi (by omega)⟩, ⟨rfl, rfl⟩, Or.inl ⟨rfl, rfl⟩, ⟨⟨0, by omega, rfl⟩, ⟨0, by omega, rfl⟩, ⟨0, by omega, rfl⟩⟩, ⟨⟨0, by omega, rfl⟩, ⟨0, by omega, rfl⟩⟩⟩
theorem law_whole {L : Nat} {xs : Nat → Int32} (hL : L ≤ 2048) : tLaw_L L xs 600 σ0 0 = some () := law_all hL 600 0 σ0 is_start (by omega) (by omega)
