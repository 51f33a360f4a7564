/-! Making arrays and functions. -/
section BC
variable {g h : St} {r q w a o l x y ft nd oc wt : Int32} {co op sz so wh oe tw th nx tk os wa wf F : Nat → Int32} {L : Nat → Int64}
theorem mkW_b10 : sI (mkW g r q w a o l co op sz) 10 x = mkW (sI g 10 x) r q w a o l co op sz := by
  refine Prod.ext (funext fun j => ?_) rfl
  simp only [sI, mkW]
  by_cases h : j = 10
  · subst h; rfl
  · simp only [if_neg h]
theorem mkW_b11 : sI (mkW g r q w a o l co op sz) 11 x = mkW (sI g 11 x) r q w a o l co op sz := by
  refine Prod.ext (funext fun j => ?_) rfl
  simp only [sI, mkW]
  by_cases h : j = 11
  · subst h; rfl
  · simp only [if_neg h]
theorem mkW_b12 : sI (mkW g r q w a o l co op sz) 12 x = mkW (sI g 12 x) r q w a o l co op sz := by
  refine Prod.ext (funext fun j => ?_) rfl
  simp only [sI, mkW]
  by_cases h : j = 12
  · subst h; rfl
  · simp only [if_neg h]
theorem mkW_c3 : sA (mkW g r q w a o l co op sz) 3 F = mkW (sA g 3 F) r q w a o l co op sz := by
  refine Prod.ext rfl (Prod.ext rfl (Prod.ext (funext fun j => ?_) rfl))
  simp only [sA, mkW]
  by_cases h : j = 3
  · subst h; rfl
  · simp only [if_neg h]
theorem mkW_c4 : sA (mkW g r q w a o l co op sz) 4 F = mkW (sA g 4 F) r q w a o l co op sz := by
  refine Prod.ext rfl (Prod.ext rfl (Prod.ext (funext fun j => ?_) rfl))
  simp only [sA, mkW]
  by_cases h : j = 4
  · subst h; rfl
  · simp only [if_neg h]
theorem mkW_c5 : sA (mkW g r q w a o l co op sz) 5 F = mkW (sA g 5 F) r q w a o l co op sz := by
  refine Prod.ext rfl (Prod.ext rfl (Prod.ext (funext fun j => ?_) rfl))
  simp only [sA, mkW]
  by_cases h : j = 5
  · subst h; rfl
  · simp only [if_neg h]
theorem mkW_l2 : sL (mkW g r q w a o l co op sz) 2 L = mkW (sL g 2 L) r q w a o l co op sz := rfl
theorem mkV_b35 : sI (mkV h y q ft a o nd oc wt so wh oe tw th nx tk os wa wf) 35 x = mkV (sI h 35 x) y q ft a o nd oc wt so wh oe tw th nx tk os wa wf := by
  refine Prod.ext (funext fun j => ?_) rfl
  simp only [sI, mkV]
  by_cases h : j = 35
  · subst h; rfl
  · simp only [if_neg h]
theorem mkV_b36 : sI (mkV h y q ft a o nd oc wt so wh oe tw th nx tk os wa wf) 36 x = mkV (sI h 36 x) y q ft a o nd oc wt so wh oe tw th nx tk os wa wf := by
  refine Prod.ext (funext fun j => ?_) rfl
  simp only [sI, mkV]
  by_cases h : j = 36
  · subst h; rfl
  · simp only [if_neg h]
theorem mkV_b37 : sI (mkV h y q ft a o nd oc wt so wh oe tw th nx tk os wa wf) 37 x = mkV (sI h 37 x) y q ft a o nd oc wt so wh oe tw th nx tk os wa wf := by
  refine Prod.ext (funext fun j => ?_) rfl
  simp only [sI, mkV]
  by_cases h : j = 37
  · subst h; rfl
  · simp only [if_neg h]
theorem mkV_c27 : sA (mkV h y q ft a o nd oc wt so wh oe tw th nx tk os wa wf) 27 F = mkV (sA h 27 F) y q ft a o nd oc wt so wh oe tw th nx tk os wa wf := by
  refine Prod.ext rfl (Prod.ext rfl (Prod.ext (funext fun j => ?_) rfl))
  simp only [sA, mkV]
  by_cases h : j = 27
  · subst h; rfl
  · simp only [if_neg h]
theorem mkV_c28 : sA (mkV h y q ft a o nd oc wt so wh oe tw th nx tk os wa wf) 28 F = mkV (sA h 28 F) y q ft a o nd oc wt so wh oe tw th nx tk os wa wf := by
  refine Prod.ext rfl (Prod.ext rfl (Prod.ext (funext fun j => ?_) rfl))
  simp only [sA, mkV]
  by_cases h : j = 28
  · subst h; rfl
  · simp only [if_neg h]
theorem mkV_c29 : sA (mkV h y q ft a o nd oc wt so wh oe tw th nx tk os wa wf) 29 F = mkV (sA h 29 F) y q ft a o nd oc wt so wh oe tw th nx tk os wa wf := by
  refine Prod.ext rfl (Prod.ext rfl (Prod.ext (funext fun j => ?_) rfl))
  simp only [sA, mkV]
  by_cases h : j = 29
  · subst h; rfl
  · simp only [if_neg h]
theorem mkV_c30 : sA (mkV h y q ft a o nd oc wt so wh oe tw th nx tk os wa wf) 30 F = mkV (sA h 30 F) y q ft a o nd oc wt so wh oe tw th nx tk os wa wf := by
  refine Prod.ext rfl (Prod.ext rfl (Prod.ext (funext fun j => ?_) rfl))
  simp only [sA, mkV]
  by_cases h : j = 30
  · subst h; rfl
  · simp only [if_neg h]
end BC
/-- the class's globals with one more -/
def gAdd (g : St) (q : Nat) (x : Int64) (fn s z : Int32) : St := sI (sA (sA (sA (sL g 2 (vp_updL (g.2.2.2 2) q x)) 3 (upd (g.2.2.1 3) q fn)) 4 (upd (g.2.2.1 4) q s)) 5 (upd (g.2.2.1 5) q z)) 10 (nI (q + 1))
/-- the model's rows of globals, written at x -/
def hRow (h : St) (x t : Nat) (fn v w : Int32) : St := sA (sA (sA (sA h 27 (upd (h.2.2.1 27) x (nI t))) 28 (upd (h.2.2.1 28) x fn)) 29 (upd (h.2.2.1 29) x v)) 30 (upd (h.2.2.1 30) x w)
def GR (n : Nat) (K : Nat → Int32) (V : Nat → Int64) (g h : St) (tg : Nat → Nat) (q na nf : Nat) : Prop :=
  (g.1 10 = nI q ∧ g.1 11 = nI na ∧ g.1 12 = nI nf) ∧ (q = na + nf ∧ na ≤ 4 ∧ nf ≤ 8) ∧ GlM h n K tg q ∧ (h.1 36 = nI nf ∧ h.1 37 = nI na) ∧ (∀ k, k < q → g.2.2.2 2 k = V (tg k) ∧ g.2.2.1 3 k = h.2.2.1 28 k ∧ (g.2.2.1 3 k = 0 ∨ g.2.2.1 3 k = 1)) ∧ (∀ i k, i < k → k < q → ¬ V (tg i) = V (tg k))
section MG
variable {n : Nat} {K : Nat → Int32} {p : Nat → Nat} {V : Nat → Int64} {g h : St} {tg : Nat → Nat} {q na nf : Nat}
theorem w_isNew {r y w : Int32} {a o l t : Nat} {co op sz : Nat → Int32} (T : TkC g n K p V) (R : GR n K V g h tg q na nf) (ht : t < n) : ((∃ k, k < q ∧ V (tg k) = V t) ∧ tGlobals_isNew (mkW g r y w (nI a) (nI o) (nI l) co op sz) (nI t) = some 0) ∨ ((∀ k, k < q → ¬ V (tg k) = V t) ∧ tGlobals_isNew (mkW g r y w (nI a) (nI o) (nI l) co op sz) (nI t) = some 1) := by
  obtain ⟨⟨r1, r2, r3⟩, ⟨r4, r5, r6⟩, r7, r8, r9, r10⟩ := R
  obtain ⟨x, e1, e2⟩ := gfind_c (σ := mkW g r y w (nI a) (nI o) (nI l) co op sz) (x := V t) (q := q) r1 r7.2.1
  unfold tGlobals_isNew
  rw [b1S (w_value T ht), b1S e1]
  rcases e2 with ⟨a1, a2⟩ | ⟨i, a1, a2, a3, a4⟩
  · right
    refine ⟨fun k hk e => a2 k hk ((r9 k hk).1.trans e), ?_⟩
    rw [a1, if_neg (by decide)]
  · left
    refine ⟨⟨i, a1, ((r9 i a1).1).symm.trans a3⟩, ?_⟩
    rw [a2, if_pos (nI_le0 (by have := r7.2.1; omega))]
theorem w_gadd {r y w : Int32} {a o l t : Nat} {co op sz : Nat → Int32} {fn s z : Int32} (T : TkC g n K p V) (h10 : g.1 10 = nI q) (hq : q < 12) (ht : t < n) (hf : fn = 0 ∨ fn = 1) : tGlobals_add (mkW g r y w (nI a) (nI o) (nI l) co op sz) (nI t) fn s z = some (mkW (gAdd g q (V t) fn s z) r y w (nI a) (nI o) (nI l) co op sz) := by
  have e : vp_nar .boolean fn = fn := by rcases hf with e | e <;> rw [e] <;> rfl
  unfold tGlobals_add gAdd
  rw [mkW_i10, h10, if_neg (show ¬ (12 : Int32) ≤ nI q from fun e => absurd ((nI_leI (a := 12) (by omega) (by omega)).mp e) (by omega)), b1S (w_value T ht), gdT (inI hq (by omega)), gdT (inI hq (by omega)), gdT (inI hq (by omega)), gdT (inI hq (by omega)), e, tc_nI (by omega), nI_suc]
  rw [show (mkW g r y w (nI a) (nI o) (nI l) co op sz).2.2.2 2 = g.2.2.2 2 from rfl, mkW_l2, mkW_r3, mkW_c3, mkW_r4, mkW_c4, mkW_r5, mkW_c5, mkW_b10]
theorem mkF_L1 (N : Nat) (σ : St) (x1 : Int32) : tGlobals_makeFunction_L (N + 1) 1 σ x1 = b1 (tTokens_placeOf σ x1) (fun r5 => b1 (tRefusal_blameName σ r5) (fun u6 => some u6)) := rfl
/-- is there room, and is the name new? -/
def Free (V : Nat → Int64) (tg : Nat → Nat) (q t : Nat) (full : Prop) : Prop := ¬ full ∧ ∀ k, k < q → ¬ V (tg k) = V t
theorem w_makeFun {r y : Int32} {f a o l t : Nat} {co op sz : Nat → Int32} {s z : Int32} (T : TkC g n K p V) (R : GR n K V g h tg q na nf) (ht : t < n) :
    (Free V tg q t (nf = 8) → tGlobals_makeFunction (mkW g r y (wn n p f) (nI a) (nI o) (nI l) co op sz) (nI t) s z = some (mkW (sI (gAdd g q (V t) 1 s z) 12 (nI (nf + 1))) r y (wn n p f) (nI a) (nI o) (nI l) co op sz)) ∧
    (¬ Free V tg q t (nf = 8) → tGlobals_makeFunction (mkW g r y (wn n p f) (nI a) (nI o) (nI l) co op sz) (nI t) s z = some (mkW g r y (wn n p (min f t)) (nI a) (nI o) (nI l) co op sz)) := by
  obtain ⟨⟨r1, r2, r3⟩, ⟨r4, r5, r6⟩, r7, r8, r9, r10⟩ := id R
  have e1 : ∀ N, tGlobals_makeFunction_L (N + 1) 1 (mkW g r y (wn n p f) (nI a) (nI o) (nI l) co op sz) (nI t) = some (mkW g r y (wn n p (min f t)) (nI a) (nI o) (nI l) co op sz) := by
    intro N
    rw [mkF_L1, b1S (w_place T (by omega)), b1_id, w_blame T (by omega)]
  unfold tGlobals_makeFunction
  rw [mkW_i12, r3, e1 1999]
  refine ⟨fun hfr => ?_, fun hfr => ?_⟩
  · rw [if_neg (show ¬ (8 : Int32) ≤ nI nf from fun e => hfr.1 (by have := (nI_leI (a := 8) (by omega) (by omega)).mp e; omega))]
    rcases w_isNew (r := r) (y := y) (w := wn n p f) (a := a) (o := o) (l := l) (co := co) (op := op) (sz := sz) T R ht with ⟨⟨k, k1, k2⟩, -⟩ | ⟨-, e2⟩
    · exact absurd k2 (hfr.2 k k1)
    · have : nf < 8 := by have := hfr.1; omega
      rw [b1S e2, if_neg (by decide), b1S (w_gadd T r1 (by omega) ht (Or.inr rfl)), mkW_i12, show (gAdd g q (V t) 1 s z).1 12 = g.1 12 from rfl, r3, nI_suc, mkW_b12]
  · by_cases h8 : nf = 8
    · rw [if_pos (show (8 : Int32) ≤ nI nf from (nI_leI (a := 8) (by omega) (by omega)).mpr (by omega))]
    · rw [if_neg (show ¬ (8 : Int32) ≤ nI nf from fun e => h8 (by have := (nI_leI (a := 8) (by omega) (by omega)).mp e; omega))]
      rcases w_isNew (r := r) (y := y) (w := wn n p f) (a := a) (o := o) (l := l) (co := co) (op := op) (sz := sz) T R ht with ⟨-, e2⟩ | ⟨k1, -⟩
      · rw [b1S e2, if_pos rfl]
      · exact absurd ⟨h8, k1⟩ hfr
theorem mkA_L1 (N : Nat) (σ : St) (x1 x2 : Int32) (y1 : Int64) : tGlobals_makeArray_L (N + 1) 1 σ x1 x2 y1 = tGlobals_makeArray_b1 (tGlobals_makeArray_L N) σ x1 x2 y1 := rfl
theorem mkA_L2 (N : Nat) (σ : St) (x1 x2 : Int32) (y1 : Int64) : tGlobals_makeArray_L (N + 1) 2 σ x1 x2 y1 = tGlobals_makeArray_b2 (tGlobals_makeArray_L N) σ x1 x2 y1 := rfl
theorem mkA_L3 (N : Nat) (σ : St) (x1 x2 : Int32) (y1 : Int64) : tGlobals_makeArray_L (N + 1) 3 σ x1 x2 y1 = tGlobals_makeArray_b3 (tGlobals_makeArray_L N) σ x1 x2 y1 := rfl
theorem w_makeArr2 {r y : Int32} {f a o l t : Nat} {co op sz : Nat → Int32} {z : Int64} {x2 : Int32} (T : TkC g n K p V) (R : GR n K V g h tg q na nf) (ht : t < n) (N : Nat) :
    (Free V tg q t (na = 4) → tGlobals_makeArray_L (N + 2) 2 (mkW g r y (wn n p f) (nI a) (nI o) (nI l) co op sz) (nI t) x2 z = some (mkW (sI (gAdd g q (V t) 0 (nI (na * 16)) z.toInt32) 11 (nI (na + 1))) r y (wn n p f) (nI a) (nI o) (nI l) co op sz)) ∧
    (¬ Free V tg q t (na = 4) → tGlobals_makeArray_L (N + 2) 2 (mkW g r y (wn n p f) (nI a) (nI o) (nI l) co op sz) (nI t) x2 z = some (mkW g r y (wn n p (min f t)) (nI a) (nI o) (nI l) co op sz)) := by
  obtain ⟨⟨r1, r2, r3⟩, ⟨r4, r5, r6⟩, r7, r8, r9, r10⟩ := id R
  have e1 : ∀ N (x : Int32) (z : Int64), tGlobals_makeArray_L (N + 1) 3 (mkW g r y (wn n p f) (nI a) (nI o) (nI l) co op sz) (nI t) x z = some (mkW g r y (wn n p (min f t)) (nI a) (nI o) (nI l) co op sz) := by
    intro N x z
    rw [mkA_L3]
    unfold tGlobals_makeArray_b3
    rw [b1S (w_place T (by omega)), b1_id, w_blame T (by omega)]
  rw [mkA_L2]
  unfold tGlobals_makeArray_b2
  rw [mkW_i11, r2, e1 N]
  refine ⟨fun hfr => ?_, fun hfr => ?_⟩
  · rw [if_neg (show ¬ (4 : Int32) ≤ nI na from fun e => hfr.1 (by have := (nI_leI (a := 4) (by omega) (by omega)).mp e; omega))]
    rcases w_isNew (r := r) (y := y) (w := wn n p f) (a := a) (o := o) (l := l) (co := co) (op := op) (sz := sz) T R ht with ⟨⟨k, k1, k2⟩, -⟩ | ⟨-, e2⟩
    · exact absurd k2 (hfr.2 k k1)
    · have : na < 4 := by have := hfr.1; omega
      rw [b1S e2, if_neg (by decide), show nI na * 16 = nI (na * 16) from (Int32.ofNat_mul na 16).symm, b1S (w_gadd T r1 (by omega) ht (Or.inl rfl)), mkW_i11, show (gAdd g q (V t) 0 (nI (na * 16)) z.toInt32).1 11 = g.1 11 from rfl, r2, nI_suc, mkW_b11]
  · by_cases h4 : na = 4
    · rw [if_pos (show (4 : Int32) ≤ nI na from (nI_leI (a := 4) (by omega) (by omega)).mpr (by omega))]
    · rw [if_neg (show ¬ (4 : Int32) ≤ nI na from fun e => h4 (by have := (nI_leI (a := 4) (by omega) (by omega)).mp e; omega))]
      rcases w_isNew (r := r) (y := y) (w := wn n p f) (a := a) (o := o) (l := l) (co := co) (op := op) (sz := sz) T R ht with ⟨-, e2⟩ | ⟨k1, -⟩
      · rw [b1S e2, if_pos rfl]
      · exact absurd ⟨h4, k1⟩ hfr
end MG
