/-! All tokens, on both sides. -/
def TI (tx : Nat → Nat) (L : Nat) (g h : St) (i t : Nat) (P S : Nat → Nat) (K : Nat → Int32) (V : Nat → Int64) (c m : St) : Prop :=
  ∃ (fv : Int32) (k1 k2 ra rb rc rd : Nat → Int32) (v0 : Nat → Int64), c = mkT g 0 (-1) (nI (min t 220)) fv k1 k2 v0 ∧ m = mkU h (nI t) 0 (-1) ra rb rc rd ∧ t ≤ i ∧ (∀ k, k < t → rb k = nI (P k) ∧ rc k = nI (S k) ∧ TokD tx L (P k) (S k) (K k) (V k) (ra k) (rd k) ∧ P k + S k ≤ i) ∧ (∀ k, k < t → k < 220 → k1 k = K k ∧ k2 k = nI (P k) ∧ v0 k = V k) ∧ (∀ j k, j < k → k < t → P j + S j ≤ P k) ∧ fv = (if t ≤ 220 then -1 else nI (P 220))
section TL
variable {g h : St} {tx : Nat → Nat} {L : Nat}
theorem ta_L1 (N : Nat) (σ : St) (x1 x2 : Int32) : tTokens_takeAll_L (N + 1) 1 σ x1 x2 = tTokens_takeAll_b1 (tTokens_takeAll_L N) σ x1 x2 := rfl
theorem ta_L2 (N : Nat) (σ : St) (x1 x2 : Int32) : tTokens_takeAll_L (N + 1) 2 σ x1 x2 = tTokens_takeAll_b2 (tTokens_takeAll_L N) σ x1 x2 := rfl
theorem ta_L3 (N : Nat) (σ : St) (x1 x2 : Int32) : tTokens_takeAll_L (N + 1) 3 σ x1 x2 = tTokens_takeAll_b3 (tTokens_takeAll_L N) σ x1 x2 := rfl
theorem ta_go {N j k : Nat} {u : St} : tTokens_takeAll_L (N + 1) 2 u (nI k) (nI j) = tTokens_takeAll_L N 1 u (nI j) (nI (k + 1)) := by
  rw [ta_L2]
  unfold tTokens_takeAll_b2
  rw [nI_suc]
theorem blankC {σ : St} {i : Nat} (T : TxC σ tx L) (hi : i < L) : tText_isBlank σ (nI i) = some (if tx i = 32 ∨ tx i = 10 then 1 else 0) := by
  have hL := T.2.1
  have hat := atC T (show i < 1000 by omega)
  rw [show cC tx L i = tx i from if_pos hi] at hat
  have hlt : tx i < 128 := by have := (T.2.2 i hi).2; unfold okc at this; omega
  unfold tText_isBlank
  rw [b1S hat, b1S hat]
  by_cases h1 : tx i = 32
  · rw [if_pos (show nI (tx i) = 32 by rw [h1]; rfl), if_pos (Or.inl h1)]
  · rw [if_neg (show ¬ nI (tx i) = 32 from fun e => h1 (nI_inj (b := 32) (by omega) (by omega) e))]
    by_cases h2 : tx i = 10
    · rw [if_pos (show nI (tx i) = 10 by rw [h2]; rfl), if_pos (Or.inr h2)]
    · rw [if_neg (show ¬ nI (tx i) = 10 from fun e => h2 (nI_inj (b := 10) (by omega) (by omega) e)), if_neg (fun e => e.elim h1 h2)]
/-- the class at the text's end, and before it -/
theorem ta_end {N i k : Nat} {σ : St} (T : TxC σ tx L) (hi : L ≤ i) (hi2 : i < 1000) : tTokens_takeAll_L (N + 1) 1 σ (nI i) (nI k) = tTokens_takeAll_L N 3 σ 0 0 := by
  rw [ta_L1]
  unfold tTokens_takeAll_b1
  rw [T.1, if_pos (show nI L ≤ nI i from (nI_leI (by omega) (by omega)).mpr hi)]
  split <;> rfl
theorem ta_blank {N i k : Nat} {σ : St} (T : TxC σ tx L) (hi : i < L) (hk : k ≤ i) (hb : tx i = 32 ∨ tx i = 10) : tTokens_takeAll_L (N + 2) 1 σ (nI i) (nI k) = tTokens_takeAll_L N 1 σ (nI (i + 1)) (nI (k + 1)) := by
  have hL := T.2.1
  rw [ta_L1]
  unfold tTokens_takeAll_b1
  rw [if_neg (show ¬ (480 : Int32) ≤ nI k from fun e => absurd ((nI_leI (a := 480) (by omega) (by omega)).mp e) (by omega)), T.1, if_neg (show ¬ nI L ≤ nI i from fun e => absurd ((nI_leI (by omega) (by omega)).mp e) (by omega)), b1S (blankC T hi), if_pos hb, if_neg (by decide), nI_suc, ta_go]
theorem ta_tok {N i k j : Nat} {σ u : St} (T : TxC σ tx L) (hi : i < L) (hk : k ≤ i) (hb : ¬ (tx i = 32 ∨ tx i = 10)) (e : tTokens_takeOne σ (nI i) = some (nI j, u)) : tTokens_takeAll_L (N + 2) 1 σ (nI i) (nI k) = tTokens_takeAll_L N 1 u (nI j) (nI (k + 1)) := by
  have hL := T.2.1
  rw [ta_L1]
  unfold tTokens_takeAll_b1
  rw [if_neg (show ¬ (480 : Int32) ≤ nI k from fun e => absurd ((nI_leI (a := 480) (by omega) (by omega)).mp e) (by omega)), T.1, if_neg (show ¬ nI L ≤ nI i from fun e => absurd ((nI_leI (by omega) (by omega)).mp e) (by omega)), b1S (blankC T hi), if_neg hb, if_pos rfl, b2S e, ta_go]
/-- the class goes on behind a wrong token -/
theorem cl_bad (T : TxC g tx L) (TM : TxM h tx L) {r q : Int32} (hr : ¬ r = 0) : ∀ (b i k N n : Nat) (fv : Int32) (k1 k2 : Nat → Int32) (v0 : Nat → Int64), L - i ≤ b → i ≤ L → k ≤ i → 2 * b + 3 < N → n ≤ 220 → ∃ (n' : Nat) (fv' : Int32) (k1' k2' : Nat → Int32) (v0' : Nat → Int64), n' ≤ 220 ∧ tTokens_takeAll_L N 1 (mkT g r q (nI n) fv k1 k2 v0) (nI i) (nI k) = some (mkT g r q (nI n') fv' k1' k2' v0') := by
  have hL := T.2.1
  have fin : ∀ (i k N n : Nat) (fv : Int32) (k1 k2 : Nat → Int32) (v0 : Nat → Int64), L ≤ i → i ≤ L → 3 < N → n ≤ 220 → ∃ (n' : Nat) (fv' : Int32) (k1' k2' : Nat → Int32) (v0' : Nat → Int64), n' ≤ 220 ∧ tTokens_takeAll_L N 1 (mkT g r q (nI n) fv k1 k2 v0) (nI i) (nI k) = some (mkT g r q (nI n') fv' k1' k2' v0') := by
    intro i k N n fv k1 k2 v0 h1 h2 h3 h4
    obtain ⟨N, rfl⟩ : ∃ j, N = j + 2 := ⟨N - 2, by omega⟩
    have T' : TxC (mkT g r q (nI n) fv k1 k2 v0) tx L := T
    refine ⟨n, fv, k1, k2, v0, h4, ?_⟩
    rw [ta_end T' h1 (by omega), ta_L3]
    unfold tTokens_takeAll_b3
    rw [mkT_i5]
    split
    · rfl
    · rw [b1_id, t_refuse1 hr]
  intro b
  induction b with
  | zero => intro i k N n fv k1 k2 v0 h1 h2 h3 h4 h5; exact fin i k N n fv k1 k2 v0 (by omega) h2 (by omega) h5
  | succ b ih =>
    intro i k N n fv k1 k2 v0 h1 h2 h3 h4 h5
    rcases Nat.lt_or_ge i L with hi | hi
    · obtain ⟨N, rfl⟩ : ∃ j, N = j + 2 := ⟨N - 2, by omega⟩
      have T' : TxC (mkT g r q (nI n) fv k1 k2 v0) tx L := T
      by_cases hb : tx i = 32 ∨ tx i = 10
      · rw [ta_blank T' hi h3 hb]
        exact ih (i + 1) (k + 1) N n fv k1 k2 v0 (by omega) (by omega) (by omega) (by omega) h5
      · have hone : ∃ (j : Nat) (K : Int32) (V : Int64), i < j ∧ j ≤ L ∧ tTokens_takeOne (mkT g r q (nI n) fv k1 k2 v0) (nI i) = b1 (tTokens_add (mkT g r q (nI n) fv k1 k2 v0) K (nI i) V) (fun u => some (nI j, u)) := by
          obtain ⟨j, K, V, o1, o2, o3⟩ := one_both (r := r) (q := q) (cn := nI n) (fv := fv) (k1 := k1) (k2 := k2) (v0 := v0) (t := 0) (ra := fun _ => 0) (rb := fun _ => 0) (rc := fun _ => 0) (rd := fun _ => 0) T TM hi ⟨fun e => hb (Or.inr e), fun e => hb (Or.inl e)⟩ (by omega)
          rcases o3 with ⟨-, -, -, -, o4, -⟩ | ⟨o4, -⟩
          · exact ⟨j, K, V, o1, o2, o4⟩
          · rw [if_neg hr, if_neg hr] at o4
            exact ⟨j, K, V, o1, o2, o4⟩
        obtain ⟨j, K, V, o1, o2, o3⟩ := hone
        obtain ⟨n', fv', k1', k2', v0', p1, p2⟩ := t_any (g := g) (r := r) (q := q) (fv := fv) (k1 := k1) (k2 := k2) (v0 := v0) (K := K) (x := nI i) (w := V) h5
        rw [b1S p2] at o3
        rw [ta_tok T' hi h3 hb o3]
        exact ih j (k + 1) N n' fv' k1' k2' v0' (by omega) o2 (by omega) (by omega) p1
    · exact fin i k N n fv k1 k2 v0 hi h2 (by omega) h5
theorem mt_end {N i : Nat} {m : St} (TM : TxM m tx L) (hi : L ≤ i) (hi2 : i < 1000) : tModel_takeTokens_L (N + 1) 1 m (nI i) 0 = tModel_takeTokens_L N 5 m 0 0 := by
  have hL := TM.2.1
  rw [mt_L1]
  unfold tModel_takeTokens_b1
  rw [TM.1, if_pos (show nI L ≤ nI i from (nI_leI (by omega) (by omega)).mpr hi)]
theorem mt_blank {N i : Nat} {m : St} (TM : TxM m tx L) (h29 : m.1 29 = 0) (hi : i < L) (hb : tx i = 32 ∨ tx i = 10) : tModel_takeTokens_L (N + 3) 1 m (nI i) 0 = tModel_takeTokens_L N 1 m (nI (i + 1)) 0 := by
  have hL := TM.2.1
  have hlt : tx i < 128 := by have := (TM.2.2 i hi).2; unfold okc at this; omega
  have e2 : tModel_takeTokens_L (N + 2) 2 m (nI i) 0 = tModel_takeTokens_L N 1 m (nI (i + 1)) 0 := by
    rw [mt_L2]
    unfold tModel_takeTokens_b2
    rw [nI_suc, mt_L4]
    unfold tModel_takeTokens_b4
    rfl
  rw [mt_L1]
  unfold tModel_takeTokens_b1
  rw [TM.1, if_neg (show ¬ nI L ≤ nI i from fun e => absurd ((nI_leI (by omega) (by omega)).mp e) (by omega)), h29, if_pos rfl, gdT (inI (show i < 480 by omega) (by omega)), tc_nI (by omega), (TM.2.2 i hi).1, e2]
  by_cases h1 : tx i = 10
  · rw [if_pos (show nI (tx i) = 10 by rw [h1]; rfl)]
  · rw [if_neg (show ¬ nI (tx i) = 10 from fun e => h1 (nI_inj (b := 10) (by omega) (by omega) e)), if_pos (show nI (tx i) = 32 by rcases hb with e | e; rw [e]; rfl; exact absurd e h1)]
theorem tok_all (T : TxC g tx L) (TM : TxM h tx L) : ∀ (b i k N M t : Nat) (P S : Nat → Nat) (K : Nat → Int32) (V : Nat → Int64) (c m : St), L - i ≤ b → i ≤ L → k ≤ i → 2 * b + 5 < N → 3 * b + 20 < M → TI tx L g h i t P S K V c m →
    (∃ (x n' n2 : Nat) (fv' : Int32) (k1' k2' : Nat → Int32) (v0' : Nat → Int64) (ra' rb' rc' rd' : Nat → Int32), n' ≤ 220 ∧ tTokens_takeAll_L N 1 c (nI i) (nI k) = some (mkT g 1 (nI x) (nI n') fv' k1' k2' v0') ∧ tModel_takeTokens_L M 1 m (nI i) 0 = some (mkU h (nI n2) 1 (nI x) ra' rb' rc' rd')) ∨
    (∃ (N' M' t' : Nat) (P' S' : Nat → Nat) (K' : Nat → Int32) (V' : Nat → Int64) (c' m' : St), tTokens_takeAll_L N 1 c (nI i) (nI k) = tTokens_takeAll_L (N' + 1) 3 c' 0 0 ∧ tModel_takeTokens_L M 1 m (nI i) 0 = tModel_takeTokens_L (M' + 2) 5 m' 0 0 ∧ TI tx L g h L t' P' S' K' V' c' m') := by
  have hL := T.2.1
  have fin : ∀ (i k N M t : Nat) (P S : Nat → Nat) (K : Nat → Int32) (V : Nat → Int64) (c m : St), L ≤ i → i ≤ L → 5 < N → 20 < M → TI tx L g h i t P S K V c m → ∃ (N' M' t' : Nat) (P' S' : Nat → Nat) (K' : Nat → Int32) (V' : Nat → Int64) (c' m' : St), tTokens_takeAll_L N 1 c (nI i) (nI k) = tTokens_takeAll_L (N' + 1) 3 c' 0 0 ∧ tModel_takeTokens_L M 1 m (nI i) 0 = tModel_takeTokens_L (M' + 2) 5 m' 0 0 ∧ TI tx L g h L t' P' S' K' V' c' m' := by
    intro i k N M t P S K V c m h1 h2 h3 h4 I
    obtain ⟨N, rfl⟩ : ∃ j, N = j + 2 := ⟨N - 2, by omega⟩
    obtain ⟨M, rfl⟩ : ∃ j, M = j + 3 := ⟨M - 3, by omega⟩
    obtain rfl : i = L := by omega
    refine ⟨N, M, t, P, S, K, V, c, m, ?_, ?_, I⟩
    · obtain ⟨fv, k1, k2, ra, rb, rc, rd, v0, rfl, -⟩ := I
      exact ta_end (show TxC (mkT g 0 (-1) (nI (min t 220)) fv k1 k2 v0) tx i from T) h1 (by omega)
    · obtain ⟨fv, k1, k2, ra, rb, rc, rd, v0, -, rfl, -⟩ := I
      exact mt_end (show TxM (mkU h (nI t) 0 (-1) ra rb rc rd) tx i from TM) h1 (by omega)
  intro b
  induction b with
  | zero => intro i k N M t P S K V c m h1 h2 h3 h4 h5 I; exact Or.inr (fin i k N M t P S K V c m (by omega) h2 (by omega) (by omega) I)
  | succ b ih =>
    intro i k N M t P S K V c m h1 h2 h3 h4 h5 I
    rcases Nat.lt_or_ge i L with hi | hi
    · obtain ⟨N, rfl⟩ : ∃ j, N = j + 2 := ⟨N - 2, by omega⟩
      obtain ⟨fv, k1, k2, ra, rb, rc, rd, v0, rfl, rfl, I1, I2, I3, I4, I5⟩ := id I
      have T' : TxC (mkT g 0 (-1) (nI (min t 220)) fv k1 k2 v0) tx L := T
      have TM' : TxM (mkU h (nI t) 0 (-1) ra rb rc rd) tx L := TM
      by_cases hb : tx i = 32 ∨ tx i = 10
      · obtain ⟨M, rfl⟩ : ∃ j, M = j + 3 := ⟨M - 3, by omega⟩
        rw [ta_blank T' hi h3 hb, mt_blank TM' rfl hi hb]
        exact ih (i + 1) (k + 1) N M t P S K V _ _ (by omega) (by omega) (by omega) (by omega) (by omega) ⟨fv, k1, k2, ra, rb, rc, rd, v0, rfl, rfl, by omega, fun j hj => ⟨(I2 j hj).1, (I2 j hj).2.1, (I2 j hj).2.2.1, by have := (I2 j hj).2.2.2; omega⟩, I3, I4, I5⟩
      · obtain ⟨j, K0, V0, o1, o2, o3⟩ := one_both (r := 0) (q := -1) (cn := nI (min t 220)) (fv := fv) (k1 := k1) (k2 := k2) (v0 := v0) (t := t) (ra := ra) (rb := rb) (rc := rc) (rd := rd) T TM hi ⟨fun e => hb (Or.inr e), fun e => hb (Or.inl e)⟩ (by omega)
        rcases o3 with ⟨a19, ra', o4, o5, o6, o7⟩ | ⟨o6, o7⟩
        · obtain ⟨M, rfl⟩ : ∃ j, M = j + 3 := ⟨M - 3, by omega⟩
          obtain ⟨M', m1, m2⟩ := o7 M
          have hadd : ∃ (fv' : Int32) (k1' k2' : Nat → Int32) (v0' : Nat → Int64), tTokens_add (mkT g 0 (-1) (nI (min t 220)) fv k1 k2 v0) K0 (nI i) V0 = some (mkT g 0 (-1) (nI (min (t + 1) 220)) fv' k1' k2' v0') ∧ (∀ k, k < t → k < 220 → k1' k = k1 k ∧ k2' k = k2 k ∧ v0' k = v0 k) ∧ (t < 220 → k1' t = K0 ∧ k2' t = nI i ∧ v0' t = V0) ∧ fv' = (if t + 1 ≤ 220 then -1 else nI (fset P t i 220)) := by
            rcases Nat.lt_or_ge t 220 with e | e
            · refine ⟨fv, upd k1 t K0, upd k2 t (nI i), vp_updL v0 t V0, ?_, fun k hk _ => ⟨upd_n (by omega), upd_n (by omega), updL_n (by omega)⟩, fun _ => ⟨upd_e, upd_e, updL_e⟩, ?_⟩
              · rw [show min t 220 = t by omega, show min (t + 1) 220 = t + 1 by omega, t_add e]
              · rw [I5, if_pos (by omega), if_pos (by omega)]
            · refine ⟨if (0 : Int32) ≤ fv then fv else nI i, k1, k2, v0, ?_, fun k hk _ => ⟨rfl, rfl, rfl⟩, fun e2 => by omega, ?_⟩
              · rw [show min t 220 = 220 by omega, show min (t + 1) 220 = 220 by omega, t_full]
              · rw [I5, if_neg (show ¬ t + 1 ≤ 220 by omega)]
                by_cases e3 : t = 220
                · rw [if_pos (show t ≤ 220 by omega), if_neg (by decide), e3, fset_e]
                · have hP : P 220 < 1000 := by have := (I2 220 (by omega)).2.2.2; omega
                  rw [if_neg (show ¬ t ≤ 220 by omega), if_pos (nI_le0 (by omega)), fset_n (by omega)]
          obtain ⟨fv', k1', k2', v0', a1, a2, a3, a4⟩ := hadd
          rw [b1S a1] at o6
          rw [ta_tok T' hi h3 hb o6, m2]
          refine ih j (k + 1) N M' (t + 1) (fset P t i) (fset S t (j - i)) (upd K t K0) (vp_updL V t V0) _ _ (by omega) o2 (by omega) (by omega) (by omega) ⟨fv', k1', k2', ra', upd rb t (nI i), upd rc t (nI (j - i)), upd rd t a19, v0', rfl, rfl, by omega, fun k hk => ?_, fun k hk hk2 => ?_, fun x y hxy hy => ?_, a4⟩
          · by_cases e : k = t
            · rw [e, fset_e, fset_e, upd_e, upd_e, upd_e, upd_e, updL_e]
              exact ⟨rfl, rfl, o4, by omega⟩
            · obtain ⟨b1', b2', b3', b4'⟩ := I2 k (by omega)
              rw [fset_n e, fset_n e, upd_n e, upd_n e, upd_n e, upd_n e, updL_n e, o5 k e]
              exact ⟨b1', b2', b3', by omega⟩
          · by_cases e : k = t
            · rw [e] at hk2 ⊢
              rw [fset_e, upd_e, updL_e]
              exact a3 hk2
            · obtain ⟨b1', b2', b3'⟩ := I3 k (by omega) hk2
              obtain ⟨c1', c2', c3'⟩ := a2 k (by omega) hk2
              rw [fset_n e, upd_n e, updL_n e]
              exact ⟨c1'.trans b1', c2'.trans b2', c3'.trans b3'⟩
          · by_cases e : y = t
            · rw [e, fset_e, fset_n (by omega), fset_n (by omega)]
              exact (I2 x (by omega)).2.2.2
            · rw [fset_n e, fset_n (by omega), fset_n (by omega)]
              exact I4 x y hxy (by omega)
        · left
          obtain ⟨M, rfl⟩ : ∃ j, M = j + 6 := ⟨M - 6, by omega⟩
          obtain ⟨ra', rb', rc', rd', m1⟩ := o7 M
          rw [if_pos rfl, if_pos rfl] at o6
          obtain ⟨n', fv', k1', k2', v0', p1, p2⟩ := t_any (g := g) (r := 1) (q := nI i) (fv := fv) (k1 := k1) (k2 := k2) (v0 := v0) (K := K0) (x := nI i) (w := V0) (show min t 220 ≤ 220 by omega)
          rw [b1S p2] at o6
          rw [ta_tok T' hi h3 hb o6, m1]
          obtain ⟨n2, fv2, k12, k22, v02, q1, q2⟩ := cl_bad (r := 1) (q := nI i) T TM (by decide) b j (k + 1) N n' fv' k1' k2' v0' (by omega) o2 (by omega) (by omega) p1
          exact ⟨i, n2, t + 2, fv2, k12, k22, v02, ra', rb', rc', rd', q1, q2, rfl⟩
    · exact Or.inr (fin i k N M t P S K V c m hi h2 (by omega) (by omega) I)
end TL
