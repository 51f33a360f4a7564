/-! Tokens: words as the model knows them; signs. -/
theorem getD_out : ∀ (l : List Nat) (k : Nat), l.length ≤ k → l.getD k 0 = 0 := by
  intro l
  induction l with
  | nil => intro k _; rfl
  | cons a l ih =>
    intro k hk
    cases k with
    | zero => exact absurd hk (by simp)
    | succ k => exact ih k (by simpa using hk)
section TZ
variable {σ m : St} {tx : Nat → Nat} {L : Nat}
theorem is_L1 (N : Nat) (x1 x2 x3 : Int32) (y1 : Int64) : tModel_is_L (N + 1) 1 σ x1 x2 x3 y1 = tModel_is_b1 (tModel_is_L N) σ x1 x2 x3 y1 := rfl
theorem is_L2 (N : Nat) (x1 x2 x3 : Int32) (y1 : Int64) : tModel_is_L (N + 1) 2 σ x1 x2 x3 y1 = tModel_is_b2 (tModel_is_L N) σ x1 x2 x3 y1 := rfl
theorem is_L3 (N : Nat) (x1 x2 x3 : Int32) (y1 : Int64) : tModel_is_L (N + 1) 3 σ x1 x2 x3 y1 = tModel_is_b3 (tModel_is_L N) σ x1 x2 x3 y1 := rfl
theorem is_L4 (N : Nat) (x1 x2 x3 : Int32) (y1 : Int64) : tModel_is_L (N + 1) 4 σ x1 x2 x3 y1 = tModel_is_b4 (tModel_is_L N) σ x1 x2 x3 y1 := rfl
def EqAt (tx : Nat → Nat) (i s : Nat) (bl : List Nat) (k : Nat) : Prop := (k < s → tx (i + k) = bl.getD k 0) ∧ (s ≤ k → bl.getD k 0 = 0)
theorem is_go2 {N k : Nat} {x : Int32} {w : Int64} {t : Int32} : tModel_is_L (N + 2) 2 σ t (nI k) x w = tModel_is_L N 1 σ t 1 (nI (k + 1)) w := by
  rw [is_L2]
  unfold tModel_is_b2
  rw [is_L4]
  unfold tModel_is_b4
  rw [nI_suc]
theorem is_go3 {N k : Nat} {x : Int32} {w : Int64} {t : Int32} : tModel_is_L (N + 2) 3 σ t (nI k) x w = tModel_is_L N 1 σ t 0 (nI (k + 1)) w := by
  rw [is_L3]
  unfold tModel_is_b3
  rw [is_L4]
  unfold tModel_is_b4
  rw [nI_suc]
theorem is_loop {t i s : Nat} {w : Int64} {bl : List Nat} (TM : TxM σ tx L) (ht : t < 500) (h17 : σ.2.2.1 17 t = nI i) (h18 : σ.2.2.1 18 t = nI s) (his : i + s ≤ L) (hw : ∀ k, k < 8 → byt w k = nI (bl.getD k 0) ∧ bl.getD k 0 < 1000) :
    ∀ (r k N : Nat) (ok : Int32), k + r = 8 → 3 * r < N → ((ok = 1 ∧ ∀ j, j < k → EqAt tx i s bl j) ∨ (ok = 0 ∧ ¬ ∀ j, j < k → EqAt tx i s bl j)) → (((∀ j, j < 8 → EqAt tx i s bl j) ∧ ¬ 8 < s ∧ tModel_is_L N 1 σ (nI t) ok (nI k) w = some 1) ∨ (¬ ((∀ j, j < 8 → EqAt tx i s bl j) ∧ ¬ 8 < s) ∧ tModel_is_L N 1 σ (nI t) ok (nI k) w = some 0)) := by
  have hL := TM.2.1
  intro r
  induction r with
  | zero =>
    intro k N ok hk hN hok
    obtain ⟨N, rfl⟩ : ∃ j, N = j + 1 := ⟨N - 1, by omega⟩
    obtain rfl : k = 8 := by omega
    rw [is_L1]
    unfold tModel_is_b1
    rw [if_pos (show (8 : Int32) ≤ nI 8 by decide)]
    rcases hok with ⟨a1, a2⟩ | ⟨a1, a2⟩
    · rw [a1, if_neg (by decide), gdT (inI ht (by omega)), tc_nI (by omega), h18]
      by_cases h8 : 8 < s
      · rw [if_pos (show (8 : Int32) < nI s from (nI_ltI (a := 8) (by omega) (by omega)).mpr h8)]
        exact Or.inr ⟨fun e => e.2 h8, rfl⟩
      · rw [if_neg (show ¬ (8 : Int32) < nI s from fun e => h8 ((nI_ltI (a := 8) (by omega) (by omega)).mp e))]
        exact Or.inl ⟨a2, h8, rfl⟩
    · rw [a1, if_pos rfl]
      exact Or.inr ⟨fun e => a2 e.1, rfl⟩
  | succ r ih =>
    intro k N ok hk hN hok
    obtain ⟨N, rfl⟩ : ∃ j, N = j + 3 := ⟨N - 3, by omega⟩
    have hk8 : k < 8 := by omega
    obtain ⟨w1, w2⟩ := hw k hk8
    rw [is_L1]
    unfold tModel_is_b1
    rw [if_neg (show ¬ (8 : Int32) ≤ nI k from fun e => absurd ((nI_leI (a := 8) (by omega) (by omega)).mp e) (by omega)), is_go2, is_go3]
    have up : ∀ (e1 : ∀ j, j < k → EqAt tx i s bl j) (e2 : EqAt tx i s bl k), ∀ j, j < k + 1 → EqAt tx i s bl j := fun e1 e2 j hj => by
      by_cases e : j = k
      · rw [e]; exact e2
      · exact e1 j (by omega)
    rcases hok with ⟨a1, a2⟩ | ⟨a1, a2⟩
    · rw [a1, if_neg (by decide), gdT (inI ht (by omega)), gdT (inI ht (by omega)), tc_nI (by omega), h18, h17, byt_m32 w hk8, w1]
      by_cases hs : s ≤ k
      · rw [if_pos ((nI_leI (by omega) (by omega)).mpr hs)]
        by_cases hz : bl.getD k 0 = 0
        · rw [if_pos (by rw [hz]; rfl)]
          exact ih (k + 1) N 1 (by omega) (by omega) (Or.inl ⟨rfl, up a2 ⟨fun e => by omega, fun _ => hz⟩⟩)
        · rw [if_neg (show ¬ nI (bl.getD k 0) = 0 from fun e => hz (nI_inj (b := 0) (by omega) (by omega) e))]
          exact ih (k + 1) N 0 (by omega) (by omega) (Or.inr ⟨rfl, fun e => hz ((e k (by omega)).2 hs)⟩)
      · have hik : i + k < L := by omega
        have hlt : tx (i + k) < 128 := by have := (TM.2.2 (i + k) hik).2; unfold okc at this; omega
        rw [if_neg (fun e => hs ((nI_leI (by omega) (by omega)).mp e)), nI_add, gdT (inI (show i + k < 480 by omega) (by omega)), tc_nI (by omega), (TM.2.2 (i + k) hik).1]
        by_cases hz : tx (i + k) = bl.getD k 0
        · rw [if_pos (by rw [hz])]
          exact ih (k + 1) N 1 (by omega) (by omega) (Or.inl ⟨rfl, up a2 ⟨fun _ => hz, fun e => by omega⟩⟩)
        · rw [if_neg (fun e => hz (nI_inj (by omega) (by omega) e))]
          exact ih (k + 1) N 0 (by omega) (by omega) (Or.inr ⟨rfl, fun e => hz ((e k (by omega)).1 (by omega))⟩)
    · rw [a1, if_pos rfl]
      exact ih (k + 1) N 0 (by omega) (by omega) (Or.inr ⟨rfl, fun e => a2 fun j hj => e j (by omega)⟩)
theorem is_c {t i s : Nat} {w : Int64} {bl : List Nat} (TM : TxM σ tx L) (ht : t < 500) (h17 : σ.2.2.1 17 t = nI i) (h18 : σ.2.2.1 18 t = nI s) (his : i + s ≤ L) (hw : ∀ k, k < 8 → byt w k = nI (bl.getD k 0) ∧ bl.getD k 0 < 1000) (hbl : bl.length ≤ 8) (hnz : ∀ k, k < bl.length → bl.getD k 0 ≠ 0) : (SpN tx i s bl ∧ tModel_is σ (nI t) w = some 1) ∨ (¬ SpN tx i s bl ∧ tModel_is σ (nI t) w = some 0) := by
  have hiff : SpN tx i s bl ↔ ((∀ j, j < 8 → EqAt tx i s bl j) ∧ ¬ 8 < s) := by
    constructor
    · rintro ⟨a1, a2⟩
      exact ⟨fun j _ => ⟨fun hj => a2 j hj, fun hj => getD_out bl j (by omega)⟩, by omega⟩
    · rintro ⟨a1, a2⟩
      rcases Nat.lt_trichotomy s bl.length with e | e | e
      · exact absurd ((a1 s (by omega)).2 (Nat.le_refl _)) (hnz s e)
      · exact ⟨e, fun j hj => (a1 j (by omega)).1 hj⟩
      · have h1 := (a1 bl.length (by omega)).1 e
        rw [getD_out bl bl.length (Nat.le_refl _)] at h1
        have h2 := (TM.2.2 (i + bl.length) (by omega)).2
        unfold okc at h2
        omega
  unfold tModel_is
  rcases is_loop (bl := bl) TM ht h17 h18 his hw 8 0 2000 1 (by omega) (by omega) (Or.inl ⟨rfl, fun j hj => absurd hj (by omega)⟩) with ⟨a1, a2, a3⟩ | ⟨a1, a2⟩
  · exact Or.inl ⟨hiff.mpr ⟨a1, a2⟩, a3⟩
  · exact Or.inr ⟨fun e => a1 (hiff.mp e), a2⟩
/-- a word token, as the model knows it -/
theorem isWord_c {t i s : Nat} (TM : TxM σ tx L) (ht : t < 500) (h17 : σ.2.2.1 17 t = nI i) (h18 : σ.2.2.1 18 t = nI s) (his : i + s ≤ L) : ∃ r, tModel_isWordToken σ (nI t) = some r ∧ (r = 0 ∨ r = 1) ∧ ∀ K, KN tx i s K → (r = 0 ↔ K = 1) := by
  have c0 := is_c (w := 7630441) (bl := w_int) TM ht h17 h18 his (by decide +kernel) (by decide) (by decide)
  have c1 := is_c (w := 26217) (bl := w_if) TM ht h17 h18 his (by decide +kernel) (by decide) (by decide)
  have c2 := is_c (w := 1702063205) (bl := w_else) TM ht h17 h18 his (by decide +kernel) (by decide) (by decide)
  have c3 := is_c (w := 435610544247) (bl := w_while) TM ht h17 h18 his (by decide +kernel) (by decide) (by decide)
  have c4 := is_c (w := 121437875889522) (bl := w_return) TM ht h17 h18 his (by decide +kernel) (by decide) (by decide)
  have c5 := is_c (w := 1684104562) (bl := w_read) TM ht h17 h18 his (by decide +kernel) (by decide) (by decide)
  have c6 := is_c (w := 500068610672) (bl := w_print) TM ht h17 h18 his (by decide +kernel) (by decide) (by decide)
  have yes : ∀ K, (SpN tx i s w_int ∨ SpN tx i s w_if ∨ SpN tx i s w_else ∨ SpN tx i s w_while ∨ SpN tx i s w_return ∨ SpN tx i s w_read ∨ SpN tx i s w_print) → KN tx i s K → ((1 : Int32) = 0 ↔ K = 1) := by
    intro K hs hK
    refine ⟨fun e => absurd e (by decide), fun e => ?_⟩
    rw [e] at hK
    rcases hK with ⟨-, k⟩ | ⟨-, k⟩ | ⟨-, k⟩ | ⟨-, k⟩ | ⟨-, k⟩ | ⟨-, k⟩ | ⟨-, k⟩ | ⟨n0, n1, n2, n3, n4, n5, n6, -⟩
    · exact absurd k (by decide)
    · exact absurd k (by decide)
    · exact absurd k (by decide)
    · exact absurd k (by decide)
    · exact absurd k (by decide)
    · exact absurd k (by decide)
    · exact absurd k (by decide)
    · rcases hs with h | h | h | h | h | h | h
      · exact absurd h n0
      · exact absurd h n1
      · exact absurd h n2
      · exact absurd h n3
      · exact absurd h n4
      · exact absurd h n5
      · exact absurd h n6
  unfold tModel_isWordToken
  rcases c0 with ⟨p0, e0⟩ | ⟨p0, e0⟩
  · exact ⟨1, by rw [b1S e0, if_neg (by decide)], Or.inr rfl, fun K => yes K (Or.inl p0)⟩
  rcases c1 with ⟨p1, e1⟩ | ⟨p1, e1⟩
  · exact ⟨1, by rw [b1S e0, if_pos rfl, b1S e1, if_neg (by decide)], Or.inr rfl, fun K => yes K (Or.inr (Or.inl p1))⟩
  rcases c2 with ⟨p2, e2⟩ | ⟨p2, e2⟩
  · exact ⟨1, by rw [b1S e0, if_pos rfl, b1S e1, if_pos rfl, b1S e2, if_neg (by decide)], Or.inr rfl, fun K => yes K (Or.inr (Or.inr (Or.inl p2)))⟩
  rcases c3 with ⟨p3, e3⟩ | ⟨p3, e3⟩
  · exact ⟨1, by rw [b1S e0, if_pos rfl, b1S e1, if_pos rfl, b1S e2, if_pos rfl, b1S e3, if_neg (by decide)], Or.inr rfl, fun K => yes K (Or.inr (Or.inr (Or.inr (Or.inl p3))))⟩
  rcases c4 with ⟨p4, e4⟩ | ⟨p4, e4⟩
  · exact ⟨1, by rw [b1S e0, if_pos rfl, b1S e1, if_pos rfl, b1S e2, if_pos rfl, b1S e3, if_pos rfl, b1S e4, if_neg (by decide)], Or.inr rfl, fun K => yes K (Or.inr (Or.inr (Or.inr (Or.inr (Or.inl p4)))))⟩
  rcases c5 with ⟨p5, e5⟩ | ⟨p5, e5⟩
  · exact ⟨1, by rw [b1S e0, if_pos rfl, b1S e1, if_pos rfl, b1S e2, if_pos rfl, b1S e3, if_pos rfl, b1S e4, if_pos rfl, b1S e5, if_neg (by decide)], Or.inr rfl, fun K => yes K (Or.inr (Or.inr (Or.inr (Or.inr (Or.inr (Or.inl p5))))))⟩
  rcases c6 with ⟨p6, e6⟩ | ⟨p6, e6⟩
  · exact ⟨1, by rw [b1S e0, if_pos rfl, b1S e1, if_pos rfl, b1S e2, if_pos rfl, b1S e3, if_pos rfl, b1S e4, if_pos rfl, b1S e5, if_pos rfl, b1S e6, if_neg (by decide)], Or.inr rfl, fun K => yes K (Or.inr (Or.inr (Or.inr (Or.inr (Or.inr (Or.inr p6))))))⟩
  · refine ⟨0, by rw [b1S e0, if_pos rfl, b1S e1, if_pos rfl, b1S e2, if_pos rfl, b1S e3, if_pos rfl, b1S e4, if_pos rfl, b1S e5, if_pos rfl, b1S e6, if_pos rfl], Or.inl rfl, fun K hK => ⟨fun _ => ?_, fun _ => rfl⟩⟩
    rcases hK with ⟨k, -⟩ | ⟨k, -⟩ | ⟨k, -⟩ | ⟨k, -⟩ | ⟨k, -⟩ | ⟨k, -⟩ | ⟨k, -⟩ | ⟨-, -, -, -, -, -, -, k⟩
    · exact absurd k p0
    · exact absurd k p1
    · exact absurd k p2
    · exact absurd k p3
    · exact absurd k p4
    · exact absurd k p5
    · exact absurd k p6
    · exact k
theorem mm_L1 (N : Nat) (x1 x2 : Int32) : tModel_nameAt_L (N + 1) 1 m x1 x2 = tModel_nameAt_b1 (tModel_nameAt_L N) m x1 x2 := rfl
theorem mm_L2 (N : Nat) (x1 x2 : Int32) : tModel_nameAt_L (N + 1) 2 m x1 x2 = tModel_nameAt_b2 (tModel_nameAt_L N) m x1 x2 := rfl
theorem mm_L3 (N : Nat) (x1 x2 : Int32) : tModel_nameAt_L (N + 1) 3 m x1 x2 = tModel_nameAt_b3 (tModel_nameAt_L N) m x1 x2 := rfl
theorem mm_step {i j N : Nat} (TM : TxM m tx L) (hj : j < 1000) : tModel_nameAt_L (N + 1) 1 m (nI i) (nI j) = if isN (cM tx L j) = true then tModel_nameAt_L N 2 m (nI i) (nI j) else (if (nI j - nI i) ≤ 8 then tModel_nameAt_L N 3 m (nI i) (nI j) else b1 (tModel_blame m 1 (nI i)) (fun u8 => tModel_nameAt_L N 3 u8 (nI i) (nI j))) := by
  have hMl := cM_lt (tx := tx) (L := L) (i := j) (fun i hi => (TM.2.2 i hi).2)
  rw [mm_L1]
  unfold tModel_nameAt_b1 isN
  rw [b1S (signM TM hj), b1S letM, b1S (signM TM hj), b1S digM, ltr_c _ hMl, dgt_c _ hMl]
  cases isA (cM tx L j) <;> cases isD (cM tx L j) <;> rfl
theorem mm_loop (TM : TxM m tx L) {i : Nat} : ∀ (r j N : Nat), j + r = L → 2 * r < N → ∃ j' N', N ≤ N' + 1 + 2 * r ∧ WE tx L isN j j' ∧ tModel_nameAt_L N 1 m (nI i) (nI j) = (if (nI j' - nI i) ≤ 8 then tModel_nameAt_L N' 3 m (nI i) (nI j') else b1 (tModel_blame m 1 (nI i)) (fun u8 => tModel_nameAt_L N' 3 u8 (nI i) (nI j'))) := by
  have hL := TM.2.1
  intro r
  induction r with
  | zero =>
    intro j N hj hN
    obtain ⟨N, rfl⟩ : ∃ k, N = k + 1 := ⟨N - 1, by omega⟩
    refine ⟨j, N, by omega, ⟨Nat.le_refl _, by omega, fun k h1 h2 => by omega, Or.inl (by omega)⟩, ?_⟩
    rw [mm_step TM (by omega), show cM tx L j = 0 from if_neg (by omega), if_neg (by decide)]
  | succ r ih =>
    intro j N hj hN
    obtain ⟨N, rfl⟩ : ∃ k, N = k + 2 := ⟨N - 2, by omega⟩
    have hjL : j < L := by omega
    rw [mm_step TM (by omega), show cM tx L j = tx j from if_pos hjL]
    by_cases hp : isN (tx j) = true
    · rw [if_pos hp, mm_L2]
      unfold tModel_nameAt_b2
      rw [nI_suc]
      obtain ⟨j', N', a1, a2, a3⟩ := ih (j + 1) N (by omega) (by omega)
      exact ⟨j', N', by omega, we_next hjL hp a2, a3⟩
    · rw [if_neg hp]
      exact ⟨j, N + 1, by omega, ⟨Nat.le_refl _, by omega, fun k h1 h2 => by omega, Or.inr (by cases h : isN (tx j); rfl; exact absurd h hp)⟩, rfl⟩
end TZ
/-! Signs. -/
def isS (c : Nat) : Bool := [43, 45, 42, 47, 37, 33, 126, 60, 62, 61, 40, 41, 123, 125, 91, 93, 44, 59].any (fun d => decide (d = c))
def dbl (c d : Nat) : Bool := (decide (d = 61) && (decide (c = 61) || decide (c = 33) || decide (c = 60) || decide (c = 62))) || (decide (c = d) && (decide (c = 38) || decide (c = 124)))
def dsg (a1 a2 : Int32) : Int32 := if a1 = 38 then if a2 = a1 then 1 else 0 else if a1 = 124 then if a2 = a1 then 1 else 0 else if a2 = 61 then if a1 = 61 then 1 else if a1 = 33 then 1 else if a1 = 60 then 1 else if a1 = 62 then 1 else 0 else 0
def sgM2 (x1 : Int32) : Int32 := if x1 = 91 then 1 else if x1 = 93 then 1 else if x1 = 123 then 1 else if x1 = 125 then 1 else if x1 = 126 then 1 else 0
def sgM1 (x1 : Int32) : Int32 := if x1 = 47 then 1 else if x1 < 59 then sgM2 x1 else if x1 ≤ 62 then 1 else sgM2 x1
def sgM (r1 : Int32) : Int32 := if r1 = 33 then 1 else if r1 = 37 then 1 else if r1 < 40 then sgM1 r1 else if r1 ≤ 45 then 1 else sgM1 r1
def slM1 (x2 x3 : Int32) : Int32 := if x2 = x3 then if x2 = 38 then 2 else if x2 = 124 then 2 else (if sgM x2 = 0 then 0 else 1) else (if sgM x2 = 0 then 0 else 1)
def slM (r1 r2 : Int32) : Int32 := if r2 = 61 then if r1 = 61 then 2 else if r1 = 33 then 2 else if r1 = 60 then 2 else if r1 = 62 then 2 else slM1 r1 r2 else slM1 r1 r2
theorem sgM_c : ∀ c : Nat, c < 128 → sgM (nI c) = if isS c = true then 1 else 0 := by decide +kernel
theorem dsg_c : ∀ c : Nat, c < 128 → ∀ d : Nat, d < 128 → dsg (nI c) (nI d) = if dbl c d = true then 1 else 0 := by decide +kernel
theorem slM_c : ∀ c : Nat, c < 128 → ∀ d : Nat, d < 128 → slM (nI c) (nI d) = if dbl c d = true then 2 else if isS c = true then 1 else 0 := by decide +kernel
theorem pull {P : Prop} [Decidable P] {α : Type} {a b : α} : (if P then some a else some b) = some (if P then a else b) := by
  by_cases h : P
  · rw [if_pos h, if_pos h]
  · rw [if_neg h, if_neg h]
theorem dsg_o (σ : St) (a b : Int32) : tTokens_isDoubleSign σ a b = some (dsg a b) := by
  unfold tTokens_isDoubleSign dsg
  simp only [pull]
section TS
variable {σ m : St} {tx : Nat → Nat} {L : Nat}
theorem sg_L1 (N : Nat) (x1 : Int32) : tModel_isSign_L (N + 1) 1 m x1 = tModel_isSign_b1 (tModel_isSign_L N) m x1 := rfl
theorem sg_L2 (N : Nat) (x1 : Int32) : tModel_isSign_L (N + 1) 2 m x1 = tModel_isSign_b2 (tModel_isSign_L N) m x1 := rfl
theorem sgM_o {x c : Int32} (h : tModel_sign m x = some c) : tModel_isSign m x = some (sgM c) := by
  have e2 : ∀ N, tModel_isSign_L (N + 1) 2 m c = some (sgM2 c) := fun N => by
    rw [sg_L2]
    unfold tModel_isSign_b2 sgM2
    simp only [pull]
  have e1 : ∀ N, tModel_isSign_L (N + 2) 1 m c = some (sgM1 c) := fun N => by
    rw [sg_L1]
    unfold tModel_isSign_b1 sgM1
    rw [e2 N]
    simp only [pull]
  unfold tModel_isSign sgM
  rw [b1S h, e1 1998]
  simp only [pull]
theorem sl_L1 (N : Nat) (x1 x2 x3 : Int32) : tModel_signLength_L (N + 1) 1 m x1 x2 x3 = tModel_signLength_b1 (tModel_signLength_L N) m x1 x2 x3 := rfl
theorem sl_L2 (N : Nat) (x1 x2 x3 : Int32) : tModel_signLength_L (N + 1) 2 m x1 x2 x3 = tModel_signLength_b2 (tModel_signLength_L N) m x1 x2 x3 := rfl
theorem slM_o {x c d : Int32} (h : tModel_sign m x = some c) (h2 : tModel_sign m (x + 1) = some d) : tModel_signLength m x = some (slM c d) := by
  have e2 : ∀ (N : Nat) (y z : Int32), tModel_signLength_L (N + 1) 2 m x y z = some (if sgM c = 0 then 0 else 1) := fun N y z => by
    rw [sl_L2]
    unfold tModel_signLength_b2
    rw [b1S (sgM_o h)]
    simp only [pull]
  have e1 : ∀ N, tModel_signLength_L (N + 2) 1 m x c d = some (slM1 c d) := fun N => by
    rw [sl_L1]
    unfold tModel_signLength_b1 slM1
    rw [e2 N]
    simp only [pull]
  unfold tModel_signLength slM
  rw [b1S h, b1S h2, e1 1998]
  simp only [pull]
theorem io_L1 (N : Nat) (x1 x2 x3 : Int32) (z : Nat) : tStringLatin1_indexOfChar_L (N + 1) 1 σ x1 x2 x3 z = tStringLatin1_indexOfChar_b1 (tStringLatin1_indexOfChar_L N) σ x1 x2 x3 z := rfl
theorem io_loop {c : Int32} : ∀ (r k N : Nat), k + r = 18 → r < N → ∃ x, tStringLatin1_indexOfChar_L N 1 σ (nI 18) c (nI k) 7 = some x ∧ ((0 : Int32) ≤ x ↔ ∃ j, k ≤ j ∧ j < 18 ∧ sByte 7 j = c) := by
  intro r
  induction r with
  | zero =>
    intro k N hk hN
    obtain ⟨N, rfl⟩ : ∃ j, N = j + 1 := ⟨N - 1, by omega⟩
    rw [io_L1]
    unfold tStringLatin1_indexOfChar_b1
    rw [gdT (by decide), if_pos ((nI_leI (by omega) (by omega)).mpr (by omega))]
    exact ⟨-1, rfl, fun e => absurd e (by decide), fun ⟨j, h1, h2, _⟩ => by omega⟩
  | succ r ih =>
    intro k N hk hN
    obtain ⟨N, rfl⟩ : ∃ j, N = j + 1 := ⟨N - 1, by omega⟩
    have hs7 : k < sLen 7 := by rw [show sLen 7 = 18 by decide]; omega
    rw [io_L1]
    unfold tStringLatin1_indexOfChar_b1
    rw [gdT (by decide), if_neg (fun e => absurd ((nI_leI (by omega) (by omega)).mp e) (by omega)), gdT (inI (show k < sLen 7 from hs7) (by decide)), tc_nI (by omega)]
    by_cases h : sByte 7 k = c
    · rw [if_pos h]
      exact ⟨nI k, rfl, fun _ => ⟨k, Nat.le_refl _, by omega, h⟩, fun _ => nI_le0 (by omega)⟩
    · rw [if_neg h, nI_suc]
      obtain ⟨x, e1, e2⟩ := ih (k + 1) N (by omega) (by omega)
      refine ⟨x, e1, e2.trans ⟨fun ⟨j, h1, h2, h3⟩ => ⟨j, by omega, h2, h3⟩, fun ⟨j, h1, h2, h3⟩ => ⟨j, ?_, h2, h3⟩⟩⟩
      by_cases e : j = k
      · rw [e] at h3; exact absurd h3 h
      · omega
theorem idx_c : ∀ c : Nat, c < 128 → ((∃ j : Nat, j < 18 ∧ sByte 7 j = ((nI c).toInt8.toInt32)) ↔ isS c = true) := by decide +kernel
theorem idx_o {c : Nat} (hc : c < 128) : ∃ x, tString_indexOf_0 σ 7 (nI c) = some x ∧ ((0 : Int32) ≤ x ↔ isS c = true) := by
  obtain ⟨x, e1, e2⟩ := io_loop (σ := σ) (c := (nI c).toInt8.toInt32) 18 0 2000 (by omega) (by omega)
  refine ⟨x, ?_, e2.trans ⟨fun ⟨j, _, h2, h3⟩ => (idx_c c hc).mp ⟨j, h2, h3⟩, fun h => ?_⟩⟩
  · have hlen : tString_length σ 7 = some (nI 18) := rfl
    have hlat : tString_isLatin1 σ 7 = some 1 := rfl
    have henc : tStringLatin1_canEncode σ (nI c) = some 1 := by
      unfold tStringLatin1_canEncode
      rw [if_neg (nI_nneg (by omega)), if_neg (show ¬ (255 : Int32) < nI c from fun e => absurd ((nI_ltI (a := 255) (by omega) (by omega)).mp e) (by omega))]
    have hch : tStringLatin1_indexOfChar σ 7 (nI c) 0 (nI 18) = some x := by
      unfold tStringLatin1_indexOfChar
      rw [gdT (by decide)]
      exact e1
    have hio : tStringLatin1_indexOf σ 7 (nI c) 0 (nI 18) = some x := by
      unfold tStringLatin1_indexOf
      rw [gdT (by decide), b1S henc, if_neg (by decide), if_pos (by decide), show (if (0 : Int32) < 0 then (0 : Int32) else 0) = 0 from rfl, show (if (Int32.ofNat (sLen 7)) < nI 18 then (Int32.ofNat (sLen 7)) else nI 18) = nI 18 from rfl, b1S hch]
    unfold tString_indexOf_0 tString_indexOf_1
    rw [gdT (by decide), gdT (by decide), b1S hlat, if_neg (by decide), b1S hlen, b1S hio, b1S rfl]
  · obtain ⟨j, h2, h3⟩ := (idx_c c hc).mpr h
    exact ⟨j, by omega, h2, h3⟩
end TS
