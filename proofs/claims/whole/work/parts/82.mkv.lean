/-! Variables and blocks: both sides. -/
section BB
variable {g h : St} {r q w a o l x y ft nd oc wt : Int32} {co op sz so wh oe tw th nx tk os wa wf F : Nat → Int32} {L : Nat → Int64}
theorem mkW_b8 : sI (mkW g r q w a o l co op sz) 8 x = mkW (sI g 8 x) r q w a o l co op sz := by
  refine Prod.ext (funext fun j => ?_) rfl
  simp only [sI, mkW]
  by_cases h : j = 8
  · subst h; rfl
  · simp only [if_neg h]
theorem mkW_b9 : sI (mkW g r q w a o l co op sz) 9 x = mkW (sI g 9 x) r q w a o l co op sz := by
  refine Prod.ext (funext fun j => ?_) rfl
  simp only [sI, mkW]
  by_cases h : j = 9
  · subst h; rfl
  · simp only [if_neg h]
theorem mkW_l1 : sL (mkW g r q w a o l co op sz) 1 L = mkW (sL g 1 L) r q w a o l co op sz := rfl
theorem mkV_b38 : sI (mkV h y q ft a o nd oc wt so wh oe tw th nx tk os wa wf) 38 x = mkV (sI h 38 x) y q ft a o nd oc wt so wh oe tw th nx tk os wa wf := by
  refine Prod.ext (funext fun j => ?_) rfl
  simp only [sI, mkV]
  by_cases h : j = 38
  · subst h; rfl
  · simp only [if_neg h]
theorem mkV_b39 : sI (mkV h y q ft a o nd oc wt so wh oe tw th nx tk os wa wf) 39 x = mkV (sI h 39 x) y q ft a o nd oc wt so wh oe tw th nx tk os wa wf := by
  refine Prod.ext (funext fun j => ?_) rfl
  simp only [sI, mkV]
  by_cases h : j = 39
  · subst h; rfl
  · simp only [if_neg h]
theorem mkV_b42 : sI (mkV h y q ft a o nd oc wt so wh oe tw th nx tk os wa wf) 42 x = mkV (sI h 42 x) y q ft a o nd oc wt so wh oe tw th nx tk os wa wf := by
  refine Prod.ext (funext fun j => ?_) rfl
  simp only [sI, mkV]
  by_cases h : j = 42
  · subst h; rfl
  · simp only [if_neg h]
theorem mkV_c31 : sA (mkV h y q ft a o nd oc wt so wh oe tw th nx tk os wa wf) 31 F = mkV (sA h 31 F) y q ft a o nd oc wt so wh oe tw th nx tk os wa wf := by
  refine Prod.ext rfl (Prod.ext rfl (Prod.ext (funext fun j => ?_) rfl))
  simp only [sA, mkV]
  by_cases h : j = 31
  · subst h; rfl
  · simp only [if_neg h]
theorem mkV_c32 : sA (mkV h y q ft a o nd oc wt so wh oe tw th nx tk os wa wf) 32 F = mkV (sA h 32 F) y q ft a o nd oc wt so wh oe tw th nx tk os wa wf := by
  refine Prod.ext rfl (Prod.ext rfl (Prod.ext (funext fun j => ?_) rfl))
  simp only [sA, mkV]
  by_cases h : j = 32
  · subst h; rfl
  · simp only [if_neg h]
theorem mkV_c36 : sA (mkV h y q ft a o nd oc wt so wh oe tw th nx tk os wa wf) 36 F = mkV (sA h 36 F) y q ft a o nd oc wt so wh oe tw th nx tk os wa wf := by
  refine Prod.ext rfl (Prod.ext rfl (Prod.ext (funext fun j => ?_) rfl))
  simp only [sA, mkV]
  by_cases h : j = 36
  · subst h; rfl
  · simp only [if_neg h]
end BB
theorem fnd_ge {N : Nat → Int64} {x : Int64} {sb : Nat} (hs : sb ≤ 1000) : ∀ (k : Nat), k ≤ 1000 → (¬ fnd N k x < nI sb ↔ ∃ j, sb ≤ j ∧ j < k ∧ N j = x)
  | 0, _ => by
    unfold fnd
    refine ⟨fun h => absurd ?_ h, fun ⟨j, _, h, _⟩ => absurd h (by omega)⟩
    rw [ti_lt, ti_nI (by omega)]; show (-1 : Int) < _; omega
  | k + 1, hk => by
    unfold fnd
    by_cases h : N k = x
    · rw [if_pos h, nI_ltI (by omega) (by omega)]
      refine ⟨fun e => ⟨k, by omega, by omega, h⟩, fun ⟨j, h1, h2, h3⟩ => by omega⟩
    · rw [if_neg h, fnd_ge hs k (by omega)]
      refine ⟨fun ⟨j, h1, h2, h3⟩ => ⟨j, h1, by omega, h3⟩, fun ⟨j, h1, h2, h3⟩ => ⟨j, h1, ?_, h3⟩⟩
      rcases Nat.lt_or_ge j k with e | e
      · exact e
      · obtain rfl : j = k := by omega
        exact absurd h3 h
/-- the blocks as both sides have them -/
def Lv (g h : St) (vc sb dp : Nat) (ag : Prop) : Prop := g.1 9 = nI sb ∧ sb ≤ 12 ∧ h.1 39 = nI dp ∧ dp ≤ 20 ∧ (ag → sb ≤ vc ∧ ∀ k, k < vc → (h.2.2.1 32 k = nI dp ↔ sb ≤ k) ∧ ∃ e, e ≤ dp ∧ h.2.2.1 32 k = nI e)
section MK2
variable {n : Nat} {K : Nat → Int32} {p : Nat → Nat} {V : Nat → Int64} {g h : St} {tv : Nat → Nat} {vc vm ar sb dp : Nat} {ag : Prop}
theorem w_make {r q : Int32} {a o l f t : Nat} {co op sz : Nat → Int32} (T : TkC g n K p V) (h8 : g.1 8 = nI vc) (hv : vc ≤ 12) (h9 : g.1 9 = nI sb) (ht : t < n) :
    tVariables_make (mkW g r q (wn n p f) (nI a) (nI o) (nI l) co op sz) (nI t) = if 12 ≤ vc ∨ ¬ fnd (g.2.2.2 1) vc (V t) < nI sb then some (0, mkW g r q (wn n p (min f t)) (nI a) (nI o) (nI l) co op sz) else some (nI vc, mkW (sI (sL g 1 (vp_updL (g.2.2.2 1) vc (V t))) 8 (nI (vc + 1))) r q (wn n p f) (nI a) (nI o) (nI l) co op sz) := by
  have e : ∀ N, tVariables_make_L (N + 1) 1 (mkW g r q (wn n p f) (nI a) (nI o) (nI l) co op sz) (nI t) = some (0, mkW g r q (wn n p (min f t)) (nI a) (nI o) (nI l) co op sz) := by
    intro N
    show tVariables_make_b1 (tVariables_make_L N) _ _ = _
    unfold tVariables_make_b1
    rw [b1S (w_place T (by omega)), b1S (w_blame T (by omega))]
  unfold tVariables_make
  rw [b1S (w_value T ht), mkW_i8, h8, e 1999]
  by_cases h12 : 12 ≤ vc
  · rw [if_pos (show (12 : Int32) ≤ nI vc from (nI_leI (a := 12) (by omega) (by omega)).mpr h12), if_pos (Or.inl h12)]
  rw [if_neg (show ¬ (12 : Int32) ≤ nI vc from fun e => h12 ((nI_leI (a := 12) (by omega) (by omega)).mp e)), b1S (w_find h8 hv), mkW_i9, h9]
  by_cases hx : fnd (g.2.2.2 1) vc (V t) < nI sb
  · rw [if_pos hx, if_neg (by rintro (e | e); exact h12 e; exact e hx), gdT (inI (by omega) (by omega)), nI_suc, nI_pred, tc_nI (by omega)]
    show some (nI vc, sI (sL (mkW g r q (wn n p f) (nI a) (nI o) (nI l) co op sz) 1 (vp_updL (g.2.2.2 1) vc (V t))) 8 (nI (vc + 1))) = _
    rw [mkW_l1, mkW_b8]
  · rw [if_neg hx, if_pos (Or.inr hx)]
/-- twice in this block? -/
def Dup (h : St) (V : Nat → Int64) (tv : Nat → Nat) (i vm t : Nat) : Prop := ∃ k, i ≤ k ∧ k < vm ∧ h.2.2.1 32 k = h.1 39 ∧ V (tv k) = V t
theorem makeV_L {σ : St} {t : Nat} (T : TkM σ n K p V) (hv : VrM σ n K tv vm) (ht : t < n) (hk : K t = 1) : ∀ (j k N : Nat) (x2 : Int32), k + j = vm → 3 * j + 3 < N → (x2 = 0 ∨ x2 = 1) →
    ((x2 = 1 ∨ Dup σ V tv k vm t ∨ 12 ≤ vm) → ∃ N', tModel_makeVariable_L N 1 σ (nI t) x2 (nI k) = tModel_makeVariable_L (N' + 2) 5 σ (nI t) 0 0) ∧ (¬ (x2 = 1 ∨ Dup σ V tv k vm t ∨ 12 ≤ vm) → ∃ N', tModel_makeVariable_L N 1 σ (nI t) x2 (nI k) = tModel_makeVariable_L (N' + 2) 6 σ (nI t) 0 0) := by
  have hn := T.1.1
  have hvb := hv.2.1
  intro j
  induction j with
  | zero =>
    intro k N x2 hkj hN hx2
    obtain ⟨N, rfl⟩ : ∃ i, N = i + 3 := ⟨N - 3, by omega⟩
    obtain rfl : k = vm := by omega
    have nd : ¬ Dup σ V tv k k t := fun ⟨i, h1, h2, _⟩ => by omega
    have e0 : tModel_makeVariable_L (N + 3) 1 σ (nI t) x2 (nI k) = (if x2 = 0 then if nI k < 12 then tModel_makeVariable_L (N + 2) 6 σ (nI t) 0 0 else tModel_makeVariable_L (N + 2) 5 σ (nI t) 0 0 else tModel_makeVariable_L (N + 2) 5 σ (nI t) 0 0) := by
      show tModel_makeVariable_b1 _ σ _ _ _ = _
      unfold tModel_makeVariable_b1
      rw [hv.1, if_pos ((nI_leI (by omega) (by omega)).mpr (Nat.le_refl _))]
    rw [e0]
    rcases hx2 with rfl | rfl
    · rw [if_pos rfl]
      by_cases h12 : k < 12
      · rw [if_pos (show nI k < 12 from (nI_ltI (b := 12) (by omega) (by omega)).mpr h12)]
        refine ⟨?_, fun _ => ⟨N, rfl⟩⟩
        rintro (e | e | e)
        · exact absurd e (by decide)
        · exact absurd e nd
        · omega
      · rw [if_neg (show ¬ nI k < 12 from fun e => h12 ((nI_ltI (b := 12) (by omega) (by omega)).mp e))]
        exact ⟨fun _ => ⟨N, rfl⟩, fun e => absurd (Or.inr (Or.inr (by omega))) e⟩
    · rw [if_neg (by decide)]
      exact ⟨fun _ => ⟨N, rfl⟩, fun e => absurd (Or.inl rfl) e⟩
  | succ j ih =>
    intro k N x2 hkj hN hx2
    obtain ⟨N, rfl⟩ : ∃ i, N = i + 3 := ⟨N - 3, by omega⟩
    obtain ⟨v1, v2, v3⟩ := hv.2.2 k (by omega)
    have sp : Dup σ V tv k vm t ↔ (σ.2.2.1 32 k = σ.1 39 ∧ V (tv k) = V t) ∨ Dup σ V tv (k + 1) vm t := by
      constructor
      · rintro ⟨i, h1, h2, h3⟩
        rcases Nat.lt_or_ge k i with e | e
        · exact Or.inr ⟨i, by omega, h2, h3⟩
        · obtain rfl : i = k := by omega
          exact Or.inl h3
      · rintro (h3 | ⟨i, h1, h2, h3⟩)
        · exact ⟨k, by omega, by omega, h3⟩
        · exact ⟨i, by omega, h2, h3⟩
    have go : ∀ (lab : Nat) (y : Int32), (lab = 2 ∧ y = 1) ∨ (lab = 3 ∧ y = 0) → tModel_makeVariable_L (N + 2) lab σ (nI t) (nI k) 0 = tModel_makeVariable_L N 1 σ (nI t) y (nI (k + 1)) := by
      rintro lab y (⟨rfl, rfl⟩ | ⟨rfl, rfl⟩)
      · show tModel_makeVariable_L N 1 σ (nI t) 1 (nI k + 1) = _
        rw [nI_suc]
      · show tModel_makeVariable_L N 1 σ (nI t) 0 (nI k + 1) = _
        rw [nI_suc]
    have e0 : tModel_makeVariable_L (N + 3) 1 σ (nI t) x2 (nI k) = (if x2 = 0 then (if σ.2.2.1 32 k = σ.1 39 then (if (if V (tv k) = V t then (1 : Int32) else 0) = 0 then tModel_makeVariable_L (N + 2) 3 σ (nI t) (nI k) 0 else tModel_makeVariable_L (N + 2) 2 σ (nI t) (nI k) 0) else tModel_makeVariable_L (N + 2) 3 σ (nI t) (nI k) 0) else tModel_makeVariable_L (N + 2) 2 σ (nI t) (nI k) 0) := by
      show tModel_makeVariable_b1 (tModel_makeVariable_L (N + 2)) σ _ _ _ = _
      unfold tModel_makeVariable_b1
      rw [hv.1, if_neg (fun e => absurd ((nI_leI (by omega) (by omega)).mp e) (by omega)), gdT (inI (by omega) (by omega)), gdT (inI (by omega) (by omega)), tc_nI (by omega), v1, b1S (T.2.2.2.2.2.1 (tv k) t v2 ht v3 hk)]
    rw [e0]
    rcases hx2 with rfl | rfl
    · rw [if_pos rfl]
      by_cases hl : σ.2.2.1 32 k = σ.1 39 ∧ V (tv k) = V t
      · rw [if_pos hl.1, if_pos hl.2, if_neg (by decide), go 2 1 (Or.inl ⟨rfl, rfl⟩)]
        obtain ⟨i1, -⟩ := ih (k + 1) N 1 (by omega) (by omega) (Or.inr rfl)
        exact ⟨fun _ => i1 (Or.inl rfl), fun e => absurd (Or.inr (Or.inl (sp.mpr (Or.inl hl)))) e⟩
      · have e1 : (if σ.2.2.1 32 k = σ.1 39 then (if (if V (tv k) = V t then (1 : Int32) else 0) = 0 then tModel_makeVariable_L (N + 2) 3 σ (nI t) (nI k) 0 else tModel_makeVariable_L (N + 2) 2 σ (nI t) (nI k) 0) else tModel_makeVariable_L (N + 2) 3 σ (nI t) (nI k) 0) = tModel_makeVariable_L (N + 2) 3 σ (nI t) (nI k) 0 := by
          by_cases h1 : σ.2.2.1 32 k = σ.1 39
          · rw [if_pos h1, if_neg (fun h2 => hl ⟨h1, h2⟩), if_pos rfl]
          · rw [if_neg h1]
        rw [e1, go 3 0 (Or.inr ⟨rfl, rfl⟩)]
        obtain ⟨i1, i2⟩ := ih (k + 1) N 0 (by omega) (by omega) (Or.inl rfl)
        have hs2 : Dup σ V tv k vm t ↔ Dup σ V tv (k + 1) vm t := by
          rw [sp]; exact ⟨fun e => e.elim (fun e => absurd e hl) id, Or.inr⟩
        rw [hs2]
        exact ⟨i1, i2⟩
    · rw [if_neg (by decide), go 2 1 (Or.inl ⟨rfl, rfl⟩)]
      obtain ⟨i1, -⟩ := ih (k + 1) N 1 (by omega) (by omega) (Or.inr rfl)
      exact ⟨fun _ => i1 (Or.inl rfl), fun e => absurd (Or.inl rfl) e⟩
/-- the model's variables with one more -/
def hMk (h : St) (vm t : Nat) : St := sI (sA (sA h 31 (upd (h.2.2.1 31) vm (nI t))) 32 (upd (h.2.2.1 32) vm (h.1 39))) 38 (nI (if vm < 119 then vm + 1 else vm))
theorem v_make {t f : Nat} {y q A O ND OC WT : Int32} {so wh oe tw th nx tk os wa wf : Nat → Int32} (T : TkM h n K p V) (hv : VrM h n K tv vm) (ht : t < n) (hk : K t = 1) :
    ∃ f', ((Dup h V tv 0 vm t ∨ 12 ≤ vm) → f' = min f t) ∧ (¬ (Dup h V tv 0 vm t ∨ 12 ≤ vm) → f' = f) ∧ tModel_makeVariable (mkV h y q (ftk n f) A O ND OC WT so wh oe tw th nx tk os wa wf) (nI t) = some (mkV (hMk h vm t) y q (ftk n f') A O ND OC WT so wh oe tw th nx tk os wa wf) := by
  have hvb := hv.2.1
  have e6 : ∀ (N f : Nat), tModel_makeVariable_L (N + 1) 6 (mkV h y q (ftk n f) A O ND OC WT so wh oe tw th nx tk os wa wf) (nI t) 0 0 = some (mkV (hMk h vm t) y q (ftk n f) A O ND OC WT so wh oe tw th nx tk os wa wf) := by
    intro N f
    show tModel_makeVariable_b6 (tModel_makeVariable_L N) _ _ 0 0 = _
    unfold tModel_makeVariable_b6 hMk
    rw [mkV_i38, hv.1, gdT (inI (by omega) (by omega)), gdT (inI (by omega) (by omega)), tc_nI (by omega), mkV_i39, mkV_r31, mkV_r32, mkV_c31, mkV_c32, mkV_b38, mkV_b38]
    by_cases h119 : vm < 119
    · rw [if_neg (show ¬ (119 : Int32) ≤ nI vm from fun e => absurd ((nI_leI (a := 119) (by omega) (by omega)).mp e) (by omega)), if_pos h119, nI_suc]
    · rw [if_pos (show (119 : Int32) ≤ nI vm from (nI_leI (a := 119) (by omega) (by omega)).mpr (by omega)), if_neg h119, Int32.add_zero]
  obtain ⟨e1, e2⟩ := makeV_L (σ := mkV h y q (ftk n f) A O ND OC WT so wh oe tw th nx tk os wa wf) (tkm_keep samev T) hv ht hk vm 0 2000 0 (by omega) (by omega) (Or.inl rfl)
  unfold tModel_makeVariable
  by_cases hd : Dup h V tv 0 vm t ∨ 12 ≤ vm
  · obtain ⟨N', e⟩ := e1 (Or.inr hd)
    refine ⟨min f t, fun _ => rfl, fun e => absurd hd e, e.trans ?_⟩
    show tModel_makeVariable_b5 (tModel_makeVariable_L (N' + 1)) _ _ 0 0 = _
    unfold tModel_makeVariable_b5
    rw [b1S (v_notName (by omega) T.1.1)]
    exact e6 _ _
  · obtain ⟨N', e⟩ := e2 (by rintro (e | e); exact absurd e (by decide); exact hd e)
    exact ⟨f, fun e => absurd e hd, fun _ => rfl, e.trans (e6 _ _)⟩
end MK2
