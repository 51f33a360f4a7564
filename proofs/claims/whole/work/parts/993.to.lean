/-! One token, on both sides. -/
/-- a good token -/
def TokD (tx : Nat → Nat) (L i s : Nat) (K : Int32) (V : Int64) (a16 a19 : Int32) : Prop := 1 ≤ s ∧ i + s ≤ L ∧
  ((isA (tx i) = true ∧ s ≤ 8 ∧ (∀ m, m < s → isN (tx (i + m)) = true) ∧ KN tx i s K ∧ V = pv tx i s ∧ ((K = 1 ∧ a16 = 1) ∨ (¬ K = 1 ∧ a16 = 4))) ∨
   (isD (tx i) = true ∧ K = 2 ∧ a16 = 2 ∧ 0 ≤ V.toInt ∧ V.toInt ≤ 2147483647 ∧ a19 = V.toInt32) ∨
   (s = 1 ∧ K = nI (tx i) ∧ isS (tx i) = true ∧ a16 = 3) ∨
   (s = 2 ∧ K = nI (256 + tx i) ∧ dbl (tx i) (tx (i + 1)) = true ∧ a16 = 3))
section TO
variable {g h : St} {tx : Nat → Nat} {L : Nat} {r q cn fv : Int32} {k1 k2 ra rb rc rd : Nat → Int32} {v0 : Nat → Int64} {t i : Nat}
theorem t_refuse {v x : Int32} : tRefusal_refuse (mkT g r q cn fv k1 k2 v0) v x = some (mkT g (if r = 0 then v else r) (if r = 0 then x else q) cn fv k1 k2 v0) := by
  by_cases h : r = 0
  · subst h; rw [t_refuse0, if_pos rfl, if_pos rfl]
  · rw [t_refuse1 h, if_neg h, if_neg h]
theorem t_any {K x : Int32} {w : Int64} {n : Nat} (hn : n ≤ 220) : ∃ (n' : Nat) (fv' : Int32) (k1' k2' : Nat → Int32) (v0' : Nat → Int64), n' ≤ 220 ∧ tTokens_add (mkT g r q (nI n) fv k1 k2 v0) K x w = some (mkT g r q (nI n') fv' k1' k2' v0') := by
  rcases Nat.lt_or_ge n 220 with e | e
  · exact ⟨n + 1, _, _, _, _, by omega, t_add e⟩
  · obtain rfl : n = 220 := by omega
    exact ⟨220, _, _, _, _, Nat.le_refl _, t_full⟩
theorem cl_name (T : TxC g tx L) (hi : i < L) (hA : isA (tx i) = true) : ∃ (s : Nat) (K : Int32), 1 ≤ s ∧ WE tx L isN i (i + s) ∧ KN tx i s K ∧ tTokens_takeName (mkT g r q cn fv k1 k2 v0) (nI i) = b1 (tTokens_add (if s ≤ 8 then mkT g r q cn fv k1 k2 v0 else mkT g (if r = 0 then 1 else r) (if r = 0 then nI i else q) cn fv k1 k2 v0) K (nI i) (pv tx i s)) (fun u10 => some (nI (i + s), u10)) := by
  have hL := T.2.1
  have T' : ∀ (r q : Int32), TxC (mkT g r q cn fv k1 k2 v0) tx L := fun _ _ => T
  obtain ⟨j, N', d1, d2, d3⟩ := name_loop (i := i) (T' r q) (L - i) i 2000 (Nat.le_refl _) (by omega) (by omega)
  obtain ⟨s, rfl⟩ : ∃ s, j = i + s := ⟨j - i, by have := d2.1; omega⟩
  have hs : 1 ≤ s := by
    rcases Nat.lt_or_ge 0 s with e | e
    · exact e
    · obtain rfl : s = 0 := by omega
      rcases d2.2.2.2 with c4 | c4
      · omega
      · rw [show i + 0 = i from rfl] at c4
        unfold isN at c4; rw [hA] at c4; exact absurd c4 (by simp)
  have hle := d2.2.1
  obtain ⟨N', rfl⟩ : ∃ k, N' = k + 2 := ⟨N' - 2, by omega⟩
  rw [show i - i = 0 from Nat.sub_self i, show i + s - i = s by omega] at d3
  have e0 : tTokens_takeName (mkT g r q cn fv k1 k2 v0) (nI i) = tTokens_takeName_L (N' + 2) 3 (mkT g r q cn fv k1 k2 v0) (nI i) (nI (i + s)) (pv tx i s) := d3
  obtain ⟨K, x1, x2⟩ := kindOfName_c (s := s) (T' (if s ≤ 8 then r else if r = 0 then 1 else r) (if s ≤ 8 then q else if r = 0 then nI i else q)) hle
  refine ⟨s, K, hs, d2, x2, ?_⟩
  rw [e0, tn_L3]
  unfold tTokens_takeName_b3
  rw [nI_sub (by omega), show i + s - i = s by omega]
  have k4 : ∀ (u : St), tTokens_kindOfName u (nI i) (nI (i + s)) = some K → tTokens_takeName_L (N' + 1) 4 u (nI i) (nI (i + s)) (pv tx i s) = b1 (tTokens_add u K (nI i) (pv tx i s)) (fun u10 => some (nI (i + s), u10)) := fun u hu => by
    have e : tTokens_takeName_L (N' + 1) 4 u (nI i) (nI (i + s)) (pv tx i s) = tTokens_takeName_b4 (tTokens_takeName_L N') u (nI i) (nI (i + s)) (pv tx i s) := rfl
    rw [e]
    unfold tTokens_takeName_b4
    rw [b1S hu]
  by_cases h8 : s ≤ 8
  · rw [if_pos h8, if_pos h8] at x1
    rw [if_pos (show nI s ≤ 8 from (nI_leI (b := 8) (by omega) (by omega)).mpr h8), if_pos h8]
    exact k4 _ x1
  · rw [if_neg h8, if_neg h8] at x1
    rw [if_neg (show ¬ nI s ≤ 8 from fun e => h8 ((nI_leI (b := 8) (by omega) (by omega)).mp e)), if_neg h8, b1S t_refuse]
    exact k4 _ x1
theorem md_name (TM : TxM h tx L) (hi : i < L) {s : Nat} {K : Int32} (hW : WE tx L isN i (i + s)) (hK : KN tx i s K) (ht : t < 500) : ∃ ra' : Nat → Int32, (∀ k, k ≠ t → ra' k = ra k) ∧ ((K = 1 ∧ ra' t = 1) ∨ (¬ K = 1 ∧ ra' t = 4)) ∧ tModel_nameAt (mkU h (nI t) 0 (-1) ra rb rc rd) (nI i) = some (nI (i + s), mkU h (nI (t + 1)) (if s ≤ 8 then 0 else 1) (if s ≤ 8 then -1 else nI i) ra' (upd rb t (nI i)) (upd rc t (nI s)) (upd rd t 0)) := by
  have hL := TM.2.1
  have hle := hW.2.1
  have TM' : ∀ (c y z : Int32) (ra rb rc rd : Nat → Int32), TxM (mkU h c y z ra rb rc rd) tx L := fun _ _ _ _ _ _ _ => TM
  obtain ⟨j, N', d1, d2, d3⟩ := mm_loop (i := i) (TM' (nI t) 0 (-1) ra rb rc rd) (L - i) i 2000 (by omega) (by omega)
  obtain rfl : j = i + s := we_uniq d2 hW
  obtain ⟨N', rfl⟩ : ∃ k, N' = k + 1 := ⟨N' - 1, by omega⟩
  have k3 : ∀ (y z : Int32), ∃ ra' : Nat → Int32, (∀ k, k ≠ t → ra' k = ra k) ∧ ((K = 1 ∧ ra' t = 1) ∨ (¬ K = 1 ∧ ra' t = 4)) ∧ tModel_nameAt_L (N' + 1) 3 (mkU h (nI t) y z ra rb rc rd) (nI i) (nI (i + s)) = some (nI (i + s), mkU h (nI (t + 1)) y z ra' (upd rb t (nI i)) (upd rc t (nI s)) (upd rd t 0)) := by
    intro y z
    obtain ⟨r0, w1, w2, w3⟩ := isWord_c (TM' (nI (t + 1)) y z (upd ra t 1) (upd rb t (nI i)) (upd rc t (nI s)) (upd rd t 0)) ht (upd_e : upd rb t (nI i) t = nI i) (upd_e : upd rc t (nI s) t = nI s) hle
    have e : tModel_nameAt_L (N' + 1) 3 (mkU h (nI t) y z ra rb rc rd) (nI i) (nI (i + s)) = tModel_nameAt_b3 (tModel_nameAt_L N') (mkU h (nI t) y z ra rb rc rd) (nI i) (nI (i + s)) := rfl
    rw [e]
    unfold tModel_nameAt_b3
    rw [nI_sub (by omega), show i + s - i = s by omega, b1S (u_add ht), mkU_i28, nI_pred, b1S w1]
    rcases w2 with w2 | w2
    · rw [w2, if_pos rfl]
      exact ⟨upd ra t 1, fun k hk => upd_n hk, Or.inl ⟨(w3 K hK).mp w2, upd_e⟩, rfl⟩
    · rw [w2, if_neg (by decide), gdT (inI ht (by omega)), tc_nI (by omega), mkU_r16, mkU_t16]
      exact ⟨upd (upd ra t 1) t 4, fun k hk => (upd_n hk).trans (upd_n hk), Or.inr ⟨fun e => absurd (w2.symm.trans ((w3 K hK).mpr e)) (by decide), upd_e⟩, rfl⟩
  have e0 : tModel_nameAt (mkU h (nI t) 0 (-1) ra rb rc rd) (nI i) = _ := d3
  rw [e0, nI_sub (by omega), show i + s - i = s by omega]
  by_cases h8 : s ≤ 8
  · rw [if_pos (show nI s ≤ 8 from (nI_leI (b := 8) (by omega) (by omega)).mpr h8), if_pos h8, if_pos h8]
    exact k3 0 (-1)
  · rw [if_neg (show ¬ nI s ≤ 8 from fun e => h8 ((nI_leI (b := 8) (by omega) (by omega)).mp e)), if_neg h8, if_neg h8, b1S u_blame]
    exact k3 1 (nI i)
theorem dbl_beyond {tx : Nat → Nat} {L i : Nat} (T : ∀ i, i < L → okc (tx i)) (hi : i < L) (hb : ¬ tx i = 32) : dbl (tx i) (cC tx L (i + 1)) = dbl (tx i) (cM tx L (i + 1)) ∧ (dbl (tx i) (cM tx L (i + 1)) = true → i + 1 < L ∧ cM tx L (i + 1) = tx (i + 1)) := by
  have h1 := T i hi
  unfold okc at h1
  unfold cC cM
  by_cases hj : i + 1 < L
  · rw [if_pos hj, if_pos hj]
    exact ⟨rfl, fun _ => ⟨hj, rfl⟩⟩
  · rw [if_neg hj, if_neg hj]
    have hd : ∀ c : Nat, c < 128 → ¬ c = 32 → ¬ c = 0 → dbl c 32 = false ∧ dbl c 0 = false := by decide +kernel
    obtain ⟨a1, a2⟩ := hd (tx i) (by omega) hb (by omega)
    rw [a1, a2]
    exact ⟨rfl, fun e => absurd e (by decide)⟩
theorem ts_L1 (N : Nat) (σ : St) (x1 x2 : Int32) : tTokens_takeSign_L (N + 1) 1 σ x1 x2 = b1 (tTokens_add σ x2 x1 0) (fun u9 => some ((x1 + 1), u9)) := rfl
theorem cl_sign (T : TxC g tx L) (hi : i < L) (hb : ¬ tx i = 32) : ∃ (s : Nat) (K : Int32), ((dbl (tx i) (cM tx L (i + 1)) = true ∧ s = 2 ∧ K = nI (256 + tx i)) ∨ (dbl (tx i) (cM tx L (i + 1)) = false ∧ s = 1 ∧ K = nI (tx i))) ∧ tTokens_takeSign (mkT g r q cn fv k1 k2 v0) (nI i) = b1 (tTokens_add (if dbl (tx i) (cM tx L (i + 1)) = true ∨ isS (tx i) = true then mkT g r q cn fv k1 k2 v0 else mkT g (if r = 0 then 1 else r) (if r = 0 then nI i else q) cn fv k1 k2 v0) K (nI i) 0) (fun u10 => some (nI (i + s), u10)) := by
  have hL := T.2.1
  have T' : TxC (mkT g r q cn fv k1 k2 v0) tx L := T
  have hok : ∀ i, i < L → okc (tx i) := fun i hi => (T.2.2 i hi).2
  have hlt : tx i < 128 := by have := hok i hi; unfold okc at this; omega
  have hlt2 := cC_lt (i := i + 1) hok
  obtain ⟨b1', b2'⟩ := dbl_beyond hok hi hb
  obtain ⟨x, x1, x2⟩ := idx_o (σ := mkT g r q cn fv k1 k2 v0) hlt
  unfold tTokens_takeSign
  rw [b1S (atC T' (show i < 1000 by omega)), nI_suc, b1S (atC T' (show i + 1 < 1000 by omega)), b1S (dsg_o _ _ _), show cC tx L i = tx i from if_pos hi, dsg_c _ hlt _ hlt2, b1', b1S x1]
  by_cases hd : dbl (tx i) (cM tx L (i + 1)) = true
  · refine ⟨2, nI (256 + tx i), Or.inl ⟨hd, rfl, rfl⟩, ?_⟩
    rw [if_pos hd, if_neg (by decide), if_pos (Or.inl hd), show (256 : Int32) + nI (tx i) = nI (256 + tx i) from nI_add 256 (tx i), show nI i + 2 = nI (i + 2) from nI_add i 2]
  · refine ⟨1, nI (tx i), Or.inr ⟨by cases h : dbl (tx i) (cM tx L (i + 1)); rfl; exact absurd h hd, rfl, rfl⟩, ?_⟩
    rw [if_neg hd, if_pos rfl]
    by_cases hs : isS (tx i) = true
    · rw [if_pos (x2.mpr hs), if_pos (Or.inr hs), ts_L1 1999, nI_suc]
    · rw [if_neg (fun e => hs (x2.mp e)), if_neg (fun e => e.elim hd hs), b1S t_refuse, ts_L1 1999, nI_suc]
theorem mt_L1 (N : Nat) (m : St) (x1 x2 : Int32) : tModel_takeTokens_L (N + 1) 1 m x1 x2 = tModel_takeTokens_b1 (tModel_takeTokens_L N) m x1 x2 := rfl
theorem mt_L2 (N : Nat) (m : St) (x1 x2 : Int32) : tModel_takeTokens_L (N + 1) 2 m x1 x2 = tModel_takeTokens_b2 (tModel_takeTokens_L N) m x1 x2 := rfl
theorem mt_L3 (N : Nat) (m : St) (x1 x2 : Int32) : tModel_takeTokens_L (N + 1) 3 m x1 x2 = tModel_takeTokens_b3 (tModel_takeTokens_L N) m x1 x2 := rfl
theorem mt_L4 (N : Nat) (m : St) (x1 x2 : Int32) : tModel_takeTokens_L (N + 1) 4 m x1 x2 = tModel_takeTokens_b4 (tModel_takeTokens_L N) m x1 x2 := rfl
theorem mt_L5 (N : Nat) (m : St) (x1 x2 : Int32) : tModel_takeTokens_L (N + 1) 5 m x1 x2 = tModel_takeTokens_b5 (tModel_takeTokens_L N) m x1 x2 := rfl
theorem mt_L6 (N : Nat) (m : St) (x1 x2 : Int32) : tModel_takeTokens_L (N + 1) 6 m x1 x2 = tModel_takeTokens_b6 (tModel_takeTokens_L N) m x1 x2 := rfl
/-- the model behind a wrong token -/
theorem md_bad {N j : Nat} {y z : Int32} (TM : TxM h tx L) (hy : ¬ y = 0) (ht : t < 500) : ∃ (ra' rb' rc' rd' : Nat → Int32), tModel_takeTokens_L (N + 4) 4 (mkU h (nI t) y z ra rb rc rd) (nI j) 0 = some (mkU h (nI (t + 1)) y z ra' rb' rc' rd') := by
  have e6 : tModel_takeTokens_L (N + 1) 6 (mkU h (nI t) y z ra rb rc rd) 0 0 = some (mkU h (nI (t + 1)) y z (upd ra t 0) (upd rb t (h.1 27)) (upd rc t 0) (upd rd t 0)) := by
    rw [mt_L6]
    unfold tModel_takeTokens_b6
    rw [mkU_i27, b1_id, u_add ht]
  have e5 : tModel_takeTokens_L (N + 2) 5 (mkU h (nI t) y z ra rb rc rd) 0 0 = some (mkU h (nI (t + 1)) y z (upd ra t 0) (upd rb t (h.1 27)) (upd rc t 0) (upd rd t 0)) := by
    rw [mt_L5]
    unfold tModel_takeTokens_b5
    rw [mkU_i29, if_neg hy, e6]
  refine ⟨_, _, _, _, Eq.trans ?_ e5⟩
  rw [mt_L4]
  unfold tModel_takeTokens_b4
  rw [mt_L1]
  unfold tModel_takeTokens_b1
  rw [mkU_i29, if_neg hy]
  split <;> rfl
/-- one token is taken, on both sides -/
theorem one_both (T : TxC g tx L) (TM : TxM h tx L) (hi : i < L) (hb : ¬ tx i = 10 ∧ ¬ tx i = 32) (ht : t ≤ 480) : ∃ (j : Nat) (K : Int32) (V : Int64), i < j ∧ j ≤ L ∧
    ((∃ (a19 : Int32) (ra' : Nat → Int32), TokD tx L i (j - i) K V (ra' t) a19 ∧ (∀ k, k ≠ t → ra' k = ra k) ∧ tTokens_takeOne (mkT g r q cn fv k1 k2 v0) (nI i) = b1 (tTokens_add (mkT g r q cn fv k1 k2 v0) K (nI i) V) (fun u => some (nI j, u)) ∧ ∀ M, ∃ M', M ≤ M' ∧ tModel_takeTokens_L (M + 3) 1 (mkU h (nI t) 0 (-1) ra rb rc rd) (nI i) 0 = tModel_takeTokens_L M' 1 (mkU h (nI (t + 1)) 0 (-1) ra' (upd rb t (nI i)) (upd rc t (nI (j - i))) (upd rd t a19)) (nI j) 0) ∨
     (tTokens_takeOne (mkT g r q cn fv k1 k2 v0) (nI i) = b1 (tTokens_add (mkT g (if r = 0 then 1 else r) (if r = 0 then nI i else q) cn fv k1 k2 v0) K (nI i) V) (fun u => some (nI j, u)) ∧ ∀ M, ∃ (ra' rb' rc' rd' : Nat → Int32), tModel_takeTokens_L (M + 6) 1 (mkU h (nI t) 0 (-1) ra rb rc rd) (nI i) 0 = some (mkU h (nI (t + 2)) 1 (nI i) ra' rb' rc' rd'))) := by
  have hL := T.2.1
  have T' : TxC (mkT g r q cn fv k1 k2 v0) tx L := T
  have TM' : TxM (mkU h (nI t) 0 (-1) ra rb rc rd) tx L := TM
  have hok : ∀ i, i < L → okc (tx i) := fun i hi => (T.2.2 i hi).2
  have hlt : tx i < 128 := by have := hok i hi; unfold okc at this; omega
  have hat := atC T' (show i < 1000 by omega)
  rw [show cC tx L i = tx i from if_pos hi] at hat
  -- the model comes to the token
  have hm : ∀ M, tModel_takeTokens_L (M + 1) 1 (mkU h (nI t) 0 (-1) ra rb rc rd) (nI i) 0 = (if isA (tx i) = true then b2 (tModel_nameAt (mkU h (nI t) 0 (-1) ra rb rc rd) (nI i)) (fun r14 u14 => tModel_takeTokens_L M 4 u14 r14 0) else if isD (tx i) = true then b2 (tModel_numberAt (mkU h (nI t) 0 (-1) ra rb rc rd) (nI i)) (fun r13 u13 => tModel_takeTokens_L M 4 u13 r13 0) else b1 (tModel_signLength (mkU h (nI t) 0 (-1) ra rb rc rd) (nI i)) (fun r10 => if r10 = 0 then b1 (tModel_blame (mkU h (nI t) 0 (-1) ra rb rc rd) 1 (nI i)) (fun u12 => tModel_takeTokens_L M 3 u12 (nI i) r10) else tModel_takeTokens_L M 3 (mkU h (nI t) 0 (-1) ra rb rc rd) (nI i) r10)) := by
    intro M
    rw [mt_L1]
    unfold tModel_takeTokens_b1
    rw [mkU_i27, TM.1, if_neg (fun e => absurd ((nI_leI (by omega) (by omega)).mp e) (by omega)), mkU_i29, if_pos rfl, gdT (inI (show i < 480 by omega) (by omega)), tc_nI (by omega), mkU_r15, (TM.2.2 i hi).1, if_neg (show ¬ nI (tx i) = 10 from fun e => hb.1 (nI_inj (b := 10) (by omega) (by omega) e)), if_neg (show ¬ nI (tx i) = 32 from fun e => hb.2 (nI_inj (b := 32) (by omega) (by omega) e)), b1S letM, b1S digM, ltr_c _ hlt, dgt_c _ hlt]
    by_cases a1 : isA (tx i) = true
    · rw [show (if isA (tx i) = true then (1 : Int32) else 0) = 1 from if_pos a1, if_neg (by decide), if_pos a1]
    · rw [show (if isA (tx i) = true then (1 : Int32) else 0) = 0 from if_neg a1, if_pos rfl, if_neg a1]
      by_cases a2 : isD (tx i) = true
      · rw [show (if isD (tx i) = true then (1 : Int32) else 0) = 1 from if_pos a2, if_neg (by decide), if_pos a2]
      · rw [show (if isD (tx i) = true then (1 : Int32) else 0) = 0 from if_neg a2, if_pos rfl, if_neg a2]
  have k4 : ∀ (M j : Nat) (u : St), tModel_takeTokens_L (M + 1) 4 u (nI j) 0 = tModel_takeTokens_L M 1 u (nI j) 0 := fun M j u => by
    have e : tModel_takeTokens_L (M + 1) 4 u (nI j) 0 = tModel_takeTokens_b4 (tModel_takeTokens_L M) u (nI j) 0 := rfl
    rw [e]
    unfold tModel_takeTokens_b4
    rfl
  unfold tTokens_takeOne
  rw [b1S (letC hat), b1S (digC hat), ltr_c _ hlt, dgt_c _ hlt]
  by_cases hA : isA (tx i) = true
  · obtain ⟨s, K, s1, s2, s3, s4⟩ := cl_name (r := r) (q := q) (cn := cn) (fv := fv) (k1 := k1) (k2 := k2) (v0 := v0) T hi hA
    obtain ⟨ra', m1, m2, m3⟩ := md_name (t := t) (ra := ra) (rb := rb) (rc := rc) (rd := rd) TM hi s2 s3 (by omega)
    have hle := s2.2.1
    refine ⟨i + s, K, pv tx i s, by omega, hle, ?_⟩
    rw [if_pos hA, if_neg (by decide), show (fun r7 u7 => some (r7, u7) : Int32 → St → Option (Int32 × St)) = (fun r7 u7 => some (r7, u7)) from rfl]
    have eb : ∀ o : Option (Int32 × St), b2 o (fun r7 u7 => some (r7, u7)) = o := fun o => by cases o with | none => rfl | some z => rfl
    rw [eb, s4, show i + s - i = s by omega]
    by_cases h8 : s ≤ 8
    · left
      rw [if_pos h8]
      rw [if_pos h8, if_pos h8] at m3
      refine ⟨0, ra', ⟨s1, hle, Or.inl ⟨hA, h8, fun m hm => s2.2.2.1 (i + m) (by omega) (by omega), s3, rfl, m2⟩⟩, m1, rfl, fun M => ⟨M + 1, by omega, ?_⟩⟩
      rw [hm, if_pos hA, b2S m3, k4]
    · right
      rw [if_neg h8]
      rw [if_neg h8, if_neg h8] at m3
      refine ⟨rfl, fun M => ?_⟩
      rw [hm, if_pos hA, b2S m3]
      exact md_bad (N := M + 1) TM (by decide) (by omega)
  · rw [if_neg hA, if_pos rfl]
    by_cases hd : isD (tx i) = true
    · rw [if_pos hd, if_neg (by decide)]
      have eb : ∀ o : Option (Int32 × St), b2 o (fun r6 u6 => some (r6, u6)) = o := fun o => by cases o with | none => rfl | some z => rfl
      obtain ⟨j, v, n1, n2, n3⟩ := num_both T' TM' hi hd
      refine ⟨j, 2, v, n1, n2, ?_⟩
      rw [eb]
      rcases n3 with ⟨p1, p2, p3, p4⟩ | ⟨p3, w, p4⟩
      · left
        refine ⟨v.toInt32, upd ra t 2, ⟨by omega, by omega, Or.inr (Or.inl ⟨hd, rfl, upd_e, p1, p2, rfl⟩)⟩, fun k hk => upd_n hk, p3, fun M => ⟨M + 1, by omega, ?_⟩⟩
        rw [hm, if_neg hA, if_pos hd, p4, b1S (u_add (by omega)), b2S rfl, k4]
      · right
        refine ⟨by rw [p3, b1S t_refuse], fun M => ?_⟩
        rw [hm, if_neg hA, if_pos hd, p4, b1S u_blame, b1S (u_add (by omega)), b2S rfl]
        exact md_bad (N := M + 1) TM (by decide) (by omega)
    · rw [if_neg hd, if_pos rfl]
      have eb : ∀ o : Option (Int32 × St), b2 o (fun r5 u5 => some (r5, u5)) = o := fun o => by cases o with | none => rfl | some z => rfl
      obtain ⟨s, K, s1, s2⟩ := cl_sign (r := r) (q := q) (cn := cn) (fv := fv) (k1 := k1) (k2 := k2) (v0 := v0) T hi hb.2
      obtain ⟨-, b2'⟩ := dbl_beyond hok hi hb.2
      have hlt2 := cM_lt (i := i + 1) hok
      have hsl : tModel_signLength (mkU h (nI t) 0 (-1) ra rb rc rd) (nI i) = some (nI (if dbl (tx i) (cM tx L (i + 1)) = true then 2 else if isS (tx i) = true then 1 else 0)) := by
        rw [slM_o (signM TM' (show i < 1000 by omega)) (by rw [nI_suc]; exact signM TM' (show i + 1 < 1000 by omega)), show cM tx L i = tx i from if_pos hi, slM_c _ hlt _ hlt2]
        by_cases z1 : dbl (tx i) (cM tx L (i + 1)) = true
        · rw [if_pos z1, if_pos z1]; rfl
        · rw [if_neg z1, if_neg z1]
          by_cases z2 : isS (tx i) = true
          · rw [if_pos z2, if_pos z2]; rfl
          · rw [if_neg z2, if_neg z2]; rfl
      have k3 : ∀ (M : Nat) (y z : Int32) (s : Nat), tModel_takeTokens_L (M + 1) 3 (mkU h (nI t) y z ra rb rc rd) (nI i) (nI s) = tModel_takeTokens_L M 4 (mkU h (nI (t + 1)) y z (upd ra t 3) (upd rb t (nI i)) (upd rc t (nI s)) (upd rd t 0)) (nI (i + s)) 0 := fun M y z s => by
        rw [mt_L3]
        unfold tModel_takeTokens_b3
        rw [b1S (u_add (by omega)), nI_add]
      rcases s1 with ⟨q1, q2, q3⟩ | ⟨q1, q2, q3⟩
      · obtain ⟨hj, hcm⟩ := b2' q1
        rw [q1, if_pos rfl] at hsl
        rw [if_pos (Or.inl q1)] at s2
        refine ⟨i + 2, K, 0, by omega, by omega, Or.inl ⟨0, upd ra t 3, ⟨by omega, by omega, Or.inr (Or.inr (Or.inr ⟨by omega, q3, by rw [← hcm]; exact q1, upd_e⟩))⟩, fun k hk => upd_n hk, by rw [eb, s2, q2], fun M => ⟨M, Nat.le_refl _, ?_⟩⟩⟩
        rw [hm, if_neg hA, if_neg hd, b1S hsl, if_neg (show ¬ nI 2 = 0 by decide), show i + 2 - i = 2 by omega, k3, k4]
      · have hnd : ¬ dbl (tx i) (cM tx L (i + 1)) = true := by rw [q1]; decide
        rw [if_neg hnd] at hsl
        by_cases hs : isS (tx i) = true
        · rw [if_pos hs] at hsl
          rw [if_pos (Or.inr hs)] at s2
          refine ⟨i + 1, K, 0, by omega, by omega, Or.inl ⟨0, upd ra t 3, ⟨by omega, by omega, Or.inr (Or.inr (Or.inl ⟨by omega, q3, hs, upd_e⟩))⟩, fun k hk => upd_n hk, by rw [eb, s2, q2], fun M => ⟨M, Nat.le_refl _, ?_⟩⟩⟩
          rw [hm, if_neg hA, if_neg hd, b1S hsl, if_neg (show ¬ nI 1 = 0 by decide), show i + 1 - i = 1 by omega, k3, k4]
        · rw [if_neg hs] at hsl
          rw [if_neg (fun e => e.elim hnd hs)] at s2
          refine ⟨i + 1, K, 0, by omega, by omega, Or.inr ⟨by rw [eb, s2, q2], fun M => ?_⟩⟩
          rw [hm, if_neg hA, if_neg hd, b1S hsl, if_pos (show nI 0 = 0 from rfl), b1S u_blame, k3]
          obtain ⟨a1, a2, a3, a4, a5⟩ := md_bad (N := M) (j := i + 0) (y := 1) (z := nI i) (t := t + 1) (ra := upd ra t 3) (rb := upd rb t (nI i)) (rc := upd rc t (nI 0)) (rd := upd rd t 0) TM (by decide) (by omega)
          exact ⟨a1, a2, a3, a4, a5⟩
end TO
