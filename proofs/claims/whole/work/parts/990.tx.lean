/-! Tokens: the signs of a text, and the words, numbers and signs the class takes. -/
def ltr1 (c : Int32) : Int32 := if c < 65 then 0 else if 90 < c then 0 else 1
def ltr (c : Int32) : Int32 := if c < 97 then ltr1 c else if c ≤ 122 then 1 else ltr1 c
def dgt (c : Int32) : Int32 := if c < 48 then 0 else if 57 < c then 0 else 1
def isA (c : Nat) : Bool := decide ((97 ≤ c ∧ c ≤ 122) ∨ (65 ≤ c ∧ c ≤ 90))
def isD (c : Nat) : Bool := decide (48 ≤ c ∧ c ≤ 57)
theorem ltr_c : ∀ c : Nat, c < 128 → ltr (nI c) = if isA c = true then 1 else 0 := by decide +kernel
theorem dgt_c : ∀ c : Nat, c < 128 → dgt (nI c) = if isD c = true then 1 else 0 := by decide +kernel
theorem letL_C (N : Nat) (σ : St) (c : Int32) : tText_isLetter_L (N + 1) 1 σ c = tText_isLetter_b1 (tText_isLetter_L N) σ c := rfl
theorem letL_M (N : Nat) (σ : St) (c : Int32) : tModel_isLetter_L (N + 1) 1 σ c = tModel_isLetter_b1 (tModel_isLetter_L N) σ c := rfl
theorem let1 {P Q : Prop} [Decidable P] [Decidable Q] : (if P then some (0 : Int32) else if Q then some 0 else some 1) = some (if P then 0 else if Q then 0 else 1) := by
  by_cases h : P
  · rw [if_pos h, if_pos h]
  · rw [if_neg h, if_neg h]
    by_cases h2 : Q
    · rw [if_pos h2, if_pos h2]
    · rw [if_neg h2, if_neg h2]
theorem letC {σ : St} {x c : Int32} (h : tText_at σ x = some c) : tText_isLetter σ x = some (ltr c) := by
  have e : ∀ N, tText_isLetter_L (N + 1) 1 σ c = some (ltr1 c) := fun N => by
    rw [letL_C]
    unfold tText_isLetter_b1 ltr1
    exact let1
  unfold tText_isLetter ltr
  rw [b1S h, e 1999]
  by_cases h1 : c < 97
  · rw [if_pos h1, if_pos h1]
  · rw [if_neg h1, if_neg h1]
    by_cases h2 : c ≤ 122
    · rw [if_pos h2, if_pos h2]
    · rw [if_neg h2, if_neg h2]
theorem letM {σ : St} {c : Int32} : tModel_isLetter σ c = some (ltr c) := by
  have e : ∀ N, tModel_isLetter_L (N + 1) 1 σ c = some (ltr1 c) := fun N => by
    rw [letL_M]
    unfold tModel_isLetter_b1 ltr1
    exact let1
  unfold tModel_isLetter ltr
  rw [e 1999]
  by_cases h1 : c < 97
  · rw [if_pos h1, if_pos h1]
  · rw [if_neg h1, if_neg h1]
    by_cases h2 : c ≤ 122
    · rw [if_pos h2, if_pos h2]
    · rw [if_neg h2, if_neg h2]
theorem digC {σ : St} {x c : Int32} (h : tText_at σ x = some c) : tText_isDigit σ x = some (dgt c) := by
  unfold tText_isDigit dgt
  rw [b1S h, b1S h]
  exact let1
theorem digM {σ : St} {c : Int32} : tModel_isDigit σ c = some (dgt c) := by
  unfold tModel_isDigit dgt
  exact let1
def okc (c : Nat) : Prop := c = 10 ∨ (32 ≤ c ∧ c ≤ 126)
def TxC (g : St) (tx : Nat → Nat) (L : Nat) : Prop := g.1 0 = nI L ∧ L ≤ 480 ∧ ∀ i, i < L → g.2.2.1 0 i = nI (tx i) ∧ okc (tx i)
def TxM (h : St) (tx : Nat → Nat) (L : Nat) : Prop := h.1 27 = nI L ∧ L ≤ 480 ∧ ∀ i, i < L → h.2.2.1 15 i = nI (tx i) ∧ okc (tx i)
def cC (tx : Nat → Nat) (L i : Nat) : Nat := if i < L then tx i else 32
def cM (tx : Nat → Nat) (L i : Nat) : Nat := if i < L then tx i else 0
theorem nC_nI {c : Nat} (h : c < 65536) : nC (nI c) = true := by
  unfold nC
  rw [ti_nI (by omega)]
  simp only [Bool.and_eq_true, decide_eq_true_eq]
  omega
theorem atC {σ : St} {tx : Nat → Nat} {L i : Nat} (T : TxC σ tx L) (hi : i < 1000) : tText_at σ (nI i) = some (nI (cC tx L i)) := by
  obtain ⟨t1, t2, t3⟩ := T
  unfold tText_at cC
  rw [if_neg (nI_nneg (by omega)), t1]
  by_cases h : i < L
  · obtain ⟨a1, a2⟩ := t3 i h
    rw [if_neg (fun e => absurd ((nI_leI (by omega) (by omega)).mp e) (by omega)), gdT (inI (show i < 480 by omega) (by omega)), tc_nI (by omega), a1, if_pos h, gdT (nC_nI (by unfold okc at a2; omega))]
  · rw [if_pos ((nI_leI (by omega) (by omega)).mpr (by omega)), if_neg h]; rfl
theorem signM {σ : St} {tx : Nat → Nat} {L i : Nat} (T : TxM σ tx L) (hi : i < 1000) : tModel_sign σ (nI i) = some (nI (cM tx L i)) := by
  obtain ⟨t1, t2, t3⟩ := T
  unfold tModel_sign cM
  rw [t1]
  by_cases h : i < L
  · obtain ⟨a1, a2⟩ := t3 i h
    rw [if_neg (fun e => absurd ((nI_leI (by omega) (by omega)).mp e) (by omega)), gdT (inI (show i < 480 by omega) (by omega)), tc_nI (by omega), a1, if_pos h]
  · rw [if_pos ((nI_leI (by omega) (by omega)).mpr (by omega)), if_neg h]; rfl
theorem cC_lt {tx : Nat → Nat} {L i : Nat} (T : ∀ i, i < L → okc (tx i)) : cC tx L i < 128 := by
  unfold cC
  split
  · rename_i h; have := T i h; unfold okc at this; omega
  · omega
theorem cM_lt {tx : Nat → Nat} {L i : Nat} (T : ∀ i, i < L → okc (tx i)) : cM tx L i < 128 := by
  unfold cM
  split
  · rename_i h; have := T i h; unfold okc at this; omega
  · omega
/-- a word's end -/
def WE (tx : Nat → Nat) (L : Nat) (P : Nat → Bool) (i j : Nat) : Prop := i ≤ j ∧ j ≤ L ∧ (∀ k, i ≤ k → k < j → P (tx k) = true) ∧ (j = L ∨ P (tx j) = false)
theorem we_uniq {tx : Nat → Nat} {L : Nat} {P : Nat → Bool} {i j j' : Nat} (h1 : WE tx L P i j) (h2 : WE tx L P i j') : j = j' := by
  obtain ⟨a1, a2, a3, a4⟩ := h1
  obtain ⟨b1, b2, b3, b4⟩ := h2
  rcases Nat.lt_trichotomy j j' with e | e | e
  · rcases a4 with a4 | a4
    · omega
    · rw [b3 j a1 e] at a4; exact absurd a4 (by decide)
  · exact e
  · rcases b4 with b4 | b4
    · omega
    · rw [a3 j' b1 e] at b4; exact absurd b4 (by decide)
theorem we_next {tx : Nat → Nat} {L : Nat} {P : Nat → Bool} {i j : Nat} (hi : i < L) (hp : P (tx i) = true) (h : WE tx L P (i + 1) j) : WE tx L P i j := by
  obtain ⟨a1, a2, a3, a4⟩ := h
  refine ⟨by omega, a2, fun k h1 h2 => ?_, a4⟩
  by_cases e : k = i
  · rw [e]; exact hp
  · exact a3 k (by omega) h2
def isN (c : Nat) : Bool := isA c || isD c
/-- the packed value of k signs -/
def pv (tx : Nat → Nat) (i : Nat) : Nat → Int64
  | 0 => 0
  | k + 1 => (pv tx i k <<< ((8 : Int32).toInt64 &&& 63)) ||| (nI (tx (i + k))).toInt64
theorem pv_succ {tx : Nat → Nat} {i k : Nat} : pv tx i (k + 1) = (pv tx i k <<< ((8 : Int32).toInt64 &&& 63)) ||| (nI (tx (i + k))).toInt64 := rfl
section TX
variable {σ : St} {tx : Nat → Nat} {L : Nat}
theorem tn_L1 (N : Nat) (x1 x2 : Int32) (y1 : Int64) : tTokens_takeName_L (N + 1) 1 σ x1 x2 y1 = tTokens_takeName_b1 (tTokens_takeName_L N) σ x1 x2 y1 := rfl
theorem tn_L2 (N : Nat) (x1 x2 : Int32) (y1 : Int64) : tTokens_takeName_L (N + 1) 2 σ x1 x2 y1 = tTokens_takeName_b2 (tTokens_takeName_L N) σ x1 x2 y1 := rfl
theorem tn_L3 (N : Nat) (x1 x2 : Int32) (y1 : Int64) : tTokens_takeName_L (N + 1) 3 σ x1 x2 y1 = tTokens_takeName_b3 (tTokens_takeName_L N) σ x1 x2 y1 := rfl
theorem tn_L4 (N : Nat) (x1 x2 : Int32) (y1 : Int64) : tTokens_takeName_L (N + 1) 4 σ x1 x2 y1 = tTokens_takeName_b4 (tTokens_takeName_L N) σ x1 x2 y1 := rfl
theorem name_loop (T : TxC σ tx L) {i : Nat} : ∀ (r j N : Nat), i ≤ j → j + r = L → 2 * r < N → ∃ j' N', N ≤ N' + 2 * r + 1 ∧ WE tx L isN j j' ∧ tTokens_takeName_L N 1 σ (nI i) (nI j) (pv tx i (j - i)) = tTokens_takeName_L N' 3 σ (nI i) (nI j') (pv tx i (j' - i)) := by
  have hL := T.2.1
  intro r
  induction r with
  | zero =>
    intro j N hij hj hN
    obtain ⟨N, rfl⟩ : ∃ k, N = k + 1 := ⟨N - 1, by omega⟩
    refine ⟨j, N, by omega, ⟨Nat.le_refl _, by omega, fun k h1 h2 => by omega, Or.inl (by omega)⟩, ?_⟩
    rw [tn_L1]
    unfold tTokens_takeName_b1
    rw [T.1, if_pos ((nI_leI (by omega) (by omega)).mpr (by omega))]
  | succ r ih =>
    intro j N hij hj hN
    obtain ⟨N, rfl⟩ : ∃ k, N = k + 2 := ⟨N - 2, by omega⟩
    have hjL : j < L := by omega
    have hat := atC T (show j < 1000 by omega)
    rw [show cC tx L j = tx j from if_pos hjL] at hat
    have hlt : tx j < 128 := by have := (T.2.2 j hjL).2; unfold okc at this; omega
    have e2 : tTokens_takeName_L (N + 1) 2 σ (nI i) (nI j) (pv tx i (j - i)) = tTokens_takeName_L N 1 σ (nI i) (nI (j + 1)) (pv tx i (j + 1 - i)) := by
      rw [tn_L2]
      unfold tTokens_takeName_b2
      rw [b1S hat, nI_suc, show j + 1 - i = (j - i) + 1 by omega, pv_succ, show i + (j - i) = j by omega]
    have e1 : tTokens_takeName_L (N + 2) 1 σ (nI i) (nI j) (pv tx i (j - i)) = if isN (tx j) = true then tTokens_takeName_L (N + 1) 2 σ (nI i) (nI j) (pv tx i (j - i)) else tTokens_takeName_L (N + 1) 3 σ (nI i) (nI j) (pv tx i (j - i)) := by
      rw [tn_L1]
      unfold tTokens_takeName_b1 isN
      rw [T.1, if_neg (fun e => absurd ((nI_leI (by omega) (by omega)).mp e) (by omega)), b1S (letC hat), b1S (digC hat), ltr_c _ hlt, dgt_c _ hlt]
      cases isA (tx j) <;> cases isD (tx j) <;> rfl
    rw [e1]
    by_cases hp : isN (tx j) = true
    · rw [if_pos hp, e2]
      obtain ⟨j', N', a1, a2, a3⟩ := ih (j + 1) N (by omega) (by omega) (by omega)
      exact ⟨j', N', by omega, we_next hjL hp a2, a3⟩
    · rw [if_neg hp]
      exact ⟨j, N + 1, by omega, ⟨Nat.le_refl _, by omega, fun k h1 h2 => by omega, Or.inr (by cases h : isN (tx j); rfl; exact absurd h hp)⟩, rfl⟩
/-- words -/
def SpN (tx : Nat → Nat) (i s : Nat) (w : List Nat) : Prop := s = w.length ∧ ∀ m, m < s → tx (i + m) = w.getD m 0
theorem sp_L1 (N : Nat) (x1 x2 : Int32) (z : Nat) : tText_spells_L (N + 1) 1 σ x1 x2 z = tText_spells_b1 (tText_spells_L N) σ x1 x2 z := rfl
theorem spells_L (T : TxC σ tx L) {z i : Nat} {w : List Nat} (hb : sB z = true) (hl : tString_length σ z = some (nI w.length)) (hc : ∀ k, k < w.length → tString_charAt σ z (nI k) = some (nI (w.getD k 0)) ∧ w.getD k 0 < 1000) (hi : i + w.length ≤ L) :
    ∀ (r k N : Nat), k + r = w.length → r < N → ((∀ m, k ≤ m → m < w.length → tx (i + m) = w.getD m 0) ∧ tText_spells_L N 1 σ (nI i) (nI k) z = some 1) ∨ (¬ (∀ m, k ≤ m → m < w.length → tx (i + m) = w.getD m 0) ∧ tText_spells_L N 1 σ (nI i) (nI k) z = some 0) := by
  have hL := T.2.1
  intro r
  induction r with
  | zero =>
    intro k N hk hN
    obtain ⟨N, rfl⟩ : ∃ j, N = j + 1 := ⟨N - 1, by omega⟩
    left
    refine ⟨fun m h1 h2 => by omega, ?_⟩
    rw [sp_L1]
    unfold tText_spells_b1
    rw [gdT hb, b1S hl, if_pos ((nI_leI (by omega) (by omega)).mpr (by omega))]
  | succ r ih =>
    intro k N hk hN
    obtain ⟨N, rfl⟩ : ∃ j, N = j + 1 := ⟨N - 1, by omega⟩
    obtain ⟨c1, c2⟩ := hc k (by omega)
    have hlt : tx (i + k) < 128 := by have := (T.2.2 (i + k) (by omega)).2; unfold okc at this; omega
    rw [sp_L1]
    unfold tText_spells_b1
    rw [gdT hb, b1S hl, if_neg (fun e => absurd ((nI_leI (by omega) (by omega)).mp e) (by omega)), nI_add, b1S (atC T (show i + k < 1000 by omega)), b1S c1, show cC tx L (i + k) = tx (i + k) from if_pos (by omega)]
    by_cases he : tx (i + k) = w.getD k 0
    · rw [if_pos (by rw [he]), nI_suc]
      rcases ih (k + 1) N (by omega) (by omega) with ⟨a1, a2⟩ | ⟨a1, a2⟩
      · left
        refine ⟨fun m h1 h2 => ?_, a2⟩
        by_cases e : m = k
        · rw [e]; exact he
        · exact a1 m (by omega) h2
      · exact Or.inr ⟨fun e => a1 fun m h1 h2 => e m (by omega) h2, a2⟩
    · rw [if_neg (fun e => he (nI_inj (by omega) (by omega) e))]
      exact Or.inr ⟨fun e => he (e k (Nat.le_refl _) (by omega)), rfl⟩
theorem spells_c (T : TxC σ tx L) {z i s : Nat} {w : List Nat} (hb : sB z = true) (hl : tString_length σ z = some (nI w.length)) (hc : ∀ k, k < w.length → tString_charAt σ z (nI k) = some (nI (w.getD k 0)) ∧ w.getD k 0 < 1000) (hw : w.length < 1000) (hi : i + s ≤ L) : (SpN tx i s w ∧ tText_spells σ z (nI i) (nI (i + s)) = some 1) ∨ (¬ SpN tx i s w ∧ tText_spells σ z (nI i) (nI (i + s)) = some 0) := by
  have hL := T.2.1
  unfold tText_spells
  rw [gdT hb, b1S hl, nI_sub (by omega), show i + s - i = s by omega]
  by_cases hs : s = w.length
  · rw [if_pos (by rw [hs])]
    rcases spells_L (i := i) T hb hl hc (by omega) w.length 0 2000 (by omega) (by omega) with ⟨a1, a2⟩ | ⟨a1, a2⟩
    · exact Or.inl ⟨⟨hs, fun m hm => a1 m (by omega) (by omega)⟩, a2⟩
    · exact Or.inr ⟨fun e => a1 fun m _ h2 => e.2 m (by omega), a2⟩
  · rw [if_neg (fun e => hs (nI_inj (by omega) (by omega) e))]
    exact Or.inr ⟨fun e => hs e.1, rfl⟩
def w_int : List Nat := [105, 110, 116]
def w_if : List Nat := [105, 102]
def w_else : List Nat := [101, 108, 115, 101]
def w_while : List Nat := [119, 104, 105, 108, 101]
def w_return : List Nat := [114, 101, 116, 117, 114, 110]
def w_read : List Nat := [114, 101, 97, 100]
def w_print : List Nat := [112, 114, 105, 110, 116]
/-- the kind of a word -/
def KN (tx : Nat → Nat) (i s : Nat) (K : Int32) : Prop :=
  (SpN tx i s w_int ∧ K = 3) ∨ (SpN tx i s w_if ∧ K = 4) ∨ (SpN tx i s w_else ∧ K = 5) ∨ (SpN tx i s w_while ∧ K = 6) ∨ (SpN tx i s w_return ∧ K = 7) ∨ (SpN tx i s w_read ∧ K = 8) ∨ (SpN tx i s w_print ∧ K = 9) ∨ (¬ SpN tx i s w_int ∧ ¬ SpN tx i s w_if ∧ ¬ SpN tx i s w_else ∧ ¬ SpN tx i s w_while ∧ ¬ SpN tx i s w_return ∧ ¬ SpN tx i s w_read ∧ ¬ SpN tx i s w_print ∧ K = 1)
theorem kindOfName_c (T : TxC σ tx L) {i s : Nat} (hi : i + s ≤ L) : ∃ K, tTokens_kindOfName σ (nI i) (nI (i + s)) = some K ∧ KN tx i s K := by
  have c0 := spells_c (z := 0) (w := w_int) (s := s) (i := i) T (by decide) rfl (fun k hk => by rcases k with _ | _ | _ | k; exact ⟨rfl, by decide⟩; exact ⟨rfl, by decide⟩; exact ⟨rfl, by decide⟩; exact absurd hk (by simp [w_int])) (by decide) hi
  have c1 := spells_c (z := 1) (w := w_if) (s := s) (i := i) T (by decide) rfl (fun k hk => by rcases k with _ | _ | k; exact ⟨rfl, by decide⟩; exact ⟨rfl, by decide⟩; exact absurd hk (by simp [w_if])) (by decide) hi
  have c2 := spells_c (z := 2) (w := w_else) (s := s) (i := i) T (by decide) rfl (fun k hk => by rcases k with _ | _ | _ | _ | k; exact ⟨rfl, by decide⟩; exact ⟨rfl, by decide⟩; exact ⟨rfl, by decide⟩; exact ⟨rfl, by decide⟩; exact absurd hk (by simp [w_else])) (by decide) hi
  have c3 := spells_c (z := 3) (w := w_while) (s := s) (i := i) T (by decide) rfl (fun k hk => by rcases k with _ | _ | _ | _ | _ | k; exact ⟨rfl, by decide⟩; exact ⟨rfl, by decide⟩; exact ⟨rfl, by decide⟩; exact ⟨rfl, by decide⟩; exact ⟨rfl, by decide⟩; exact absurd hk (by simp [w_while])) (by decide) hi
  have c4 := spells_c (z := 4) (w := w_return) (s := s) (i := i) T (by decide) rfl (fun k hk => by rcases k with _ | _ | _ | _ | _ | _ | k; exact ⟨rfl, by decide⟩; exact ⟨rfl, by decide⟩; exact ⟨rfl, by decide⟩; exact ⟨rfl, by decide⟩; exact ⟨rfl, by decide⟩; exact ⟨rfl, by decide⟩; exact absurd hk (by simp [w_return])) (by decide) hi
  have c5 := spells_c (z := 5) (w := w_read) (s := s) (i := i) T (by decide) rfl (fun k hk => by rcases k with _ | _ | _ | _ | k; exact ⟨rfl, by decide⟩; exact ⟨rfl, by decide⟩; exact ⟨rfl, by decide⟩; exact ⟨rfl, by decide⟩; exact absurd hk (by simp [w_read])) (by decide) hi
  have c6 := spells_c (z := 6) (w := w_print) (s := s) (i := i) T (by decide) rfl (fun k hk => by rcases k with _ | _ | _ | _ | _ | k; exact ⟨rfl, by decide⟩; exact ⟨rfl, by decide⟩; exact ⟨rfl, by decide⟩; exact ⟨rfl, by decide⟩; exact ⟨rfl, by decide⟩; exact absurd hk (by simp [w_print])) (by decide) hi
  unfold tTokens_kindOfName KN
  rcases c0 with ⟨p0, e0⟩ | ⟨p0, e0⟩
  · exact ⟨3, by rw [b1S e0, if_neg (by decide)], Or.inl ⟨p0, rfl⟩⟩
  rcases c1 with ⟨p1, e1⟩ | ⟨p1, e1⟩
  · exact ⟨4, by rw [b1S e0, if_pos rfl, b1S e1, if_neg (by decide)], Or.inr (Or.inl ⟨p1, rfl⟩)⟩
  rcases c2 with ⟨p2, e2⟩ | ⟨p2, e2⟩
  · exact ⟨5, by rw [b1S e0, if_pos rfl, b1S e1, if_pos rfl, b1S e2, if_neg (by decide)], Or.inr (Or.inr (Or.inl ⟨p2, rfl⟩))⟩
  rcases c3 with ⟨p3, e3⟩ | ⟨p3, e3⟩
  · exact ⟨6, by rw [b1S e0, if_pos rfl, b1S e1, if_pos rfl, b1S e2, if_pos rfl, b1S e3, if_neg (by decide)], Or.inr (Or.inr (Or.inr (Or.inl ⟨p3, rfl⟩)))⟩
  rcases c4 with ⟨p4, e4⟩ | ⟨p4, e4⟩
  · exact ⟨7, by rw [b1S e0, if_pos rfl, b1S e1, if_pos rfl, b1S e2, if_pos rfl, b1S e3, if_pos rfl, b1S e4, if_neg (by decide)], Or.inr (Or.inr (Or.inr (Or.inr (Or.inl ⟨p4, rfl⟩))))⟩
  rcases c5 with ⟨p5, e5⟩ | ⟨p5, e5⟩
  · exact ⟨8, by rw [b1S e0, if_pos rfl, b1S e1, if_pos rfl, b1S e2, if_pos rfl, b1S e3, if_pos rfl, b1S e4, if_pos rfl, b1S e5, if_neg (by decide)], Or.inr (Or.inr (Or.inr (Or.inr (Or.inr (Or.inl ⟨p5, rfl⟩)))))⟩
  rcases c6 with ⟨p6, e6⟩ | ⟨p6, e6⟩
  · exact ⟨9, by rw [b1S e0, if_pos rfl, b1S e1, if_pos rfl, b1S e2, if_pos rfl, b1S e3, if_pos rfl, b1S e4, if_pos rfl, b1S e5, if_pos rfl, b1S e6, if_neg (by decide)], Or.inr (Or.inr (Or.inr (Or.inr (Or.inr (Or.inr (Or.inl ⟨p6, rfl⟩))))))⟩
  · exact ⟨1, by rw [b1S e0, if_pos rfl, b1S e1, if_pos rfl, b1S e2, if_pos rfl, b1S e3, if_pos rfl, b1S e4, if_pos rfl, b1S e5, if_pos rfl, b1S e6, if_pos rfl], Or.inr (Or.inr (Or.inr (Or.inr (Or.inr (Or.inr (Or.inr ⟨p0, p1, p2, p3, p4, p5, p6, rfl⟩))))))⟩
end TX
