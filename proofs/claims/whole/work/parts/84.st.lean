/-! Statements: what is compared. -/
def StSteps : Nat → St → St → Prop
  | 0, m, m' => m = m'
  | k + 1, m, m' => m.1 29 = 0 ∧ ¬ m.1 42 ≤ 0 ∧ ∃ m1, tModel_statement m = some m1 ∧ StSteps k m1 m'
theorem st_one {m m' : St} (h1 : m.1 29 = 0) (h2 : ¬ m.1 42 ≤ 0) (h3 : tModel_statement m = some m') : StSteps 1 m m' := ⟨h1, h2, m', h3, rfl⟩
theorem st_trans {i : Nat} : ∀ {j : Nat} {a b c : St}, StSteps i a b → StSteps j b c → StSteps (i + j) a c := by
  induction i with
  | zero => intro j a b c h1 h2; cases h1; rw [Nat.zero_add]; exact h2
  | succ i ih =>
    intro j a b c h1 h2
    obtain ⟨g1, g0, c1, g2, g3⟩ := h1
    rw [Nat.succ_add]
    exact ⟨g1, g0, c1, g2, ih g3 h2⟩
def PS (n : Nat) (h m : St) (f a o nd : Nat) : Prop := ∃ oc wt, oc ≤ 40 ∧ PV n h m f a o nd oc wt
/-- what the reading of a statement has made -/
def SQ (n : Nat) (K : Nat → Int32) (C M : Nat → Nat → Int32) (f a a' o l l' nd nd' N vc vc' : Nat) : Prop :=
  ∀ G H : Nat → Nat → Int32, AgC C G l l' → AgN M H nd nd' N →
    (∀ x t k, CE G l l' x t k ↔ NE K H nd nd' x t k) ∧
    (n < f → ∀ (G' H' : Nat → Nat → Int32) (F : Nat → Nat → Nat → Prop) (len nn : Nat), Fin G H G' H' F len nn → l' ≤ len → nd' ≤ nn → ∃ z, z + 1 ≤ 4 * (a' - a) ∧ CS G' H' F len nn ((a' - a + 1) / 2 + (14 - o)) N l l' vc vc' z)
theorem sq_keep {n : Nat} {K : Nat → Int32} {C M C1 M1 : Nat → Nat → Int32} {f f1 a a' o l l' nd nd' N vc vc' : Nat} (h : SQ n K C M f a a' o l l' nd nd' N vc vc') (hC : AgC C C1 l l') (hM : AgN M M1 nd nd' N) (hf : f1 ≤ f) : SQ n K C1 M1 f1 a a' o l l' nd nd' N vc vc' := fun G H hG hH => by
  obtain ⟨c1, c2⟩ := h G H (agc_tr hC hG) (agn_sub hM hH (Nat.le_refl _) (Nat.le_refl _) (Or.inr rfl))
  exact ⟨c1, fun hn => c2 (by omega)⟩
def SOk (n : Nat) (K : Nat → Int32) (p : Nat → Nat) (V : Nat → Int64) (g h c m c' : St) (fC a o l nd vc sb dp ar : Nat) (ag nb : Prop) : Prop :=
  ∃ (a' l' nd' fC' fM' N vc' vm' j Fu : Nat) (ag' : Prop) (g' h' m1 m2 : St) (tv' : Nat → Nat), PW n p g' c' fC' a' o l' ∧ PS n h' m2 fM' a' o nd' ∧ StSteps j m m1 ∧ (m1.1 29 = 0 ∧ ¬ m1.1 42 ≤ 0) ∧ (tModel_statement m1 = tModel_whole_L Fu 1 m2 (nI N) 1 0 ∧ 1800 + 9 * o ≤ Fu) ∧ Bs n K p V g' h' tv' vc' vm' ar ag' ∧ Lv g' h' vc' sb dp ag' ∧ FrV g h g' h' vc ar ag' ∧ ((ag' → ag ∧ vc ≤ vc') ∧ (nb → n < fC' → vc' = vc)) ∧ (ag' ∨ fC' < a') ∧ fC' ≤ fC ∧
    (a < a' ∧ a' ≤ n ∧ l ≤ l' ∧ l' ≤ l + 2 * (a' - a) ∧ nd ≤ N ∧ N < nd' ∧ nd' ≤ nd + (a' - a) ∧ j < a' - a) ∧ m2.2.2.1 25 N = -1 ∧ FW c c' l ∧ (∀ i, i < nd → NodeEq m.2.2.1 m2.2.2.1 i) ∧ SQ n K c'.2.2.1 m2.2.2.1 fC' a a' o l l' nd nd' N vc vc' ∧ FRel fC' fM' (NH m2.2.2.1 0 nd')
def SBad (n : Nat) (g h m c' : St) (a : Nat) : Prop := ∃ (r q : Int32) (j : Nat) (m' : St), CBad g n r q c' ∧ StSteps j m m' ∧ MBad h n 10 r q m' ∧ j + a ≤ n + 5
def SRes (n : Nat) (K : Nat → Int32) (p : Nat → Nat) (V : Nat → Int64) (g h c m : St) (fC a o l nd vc sb dp ar : Nat) (ag nb : Prop) (res : Option (Int32 × St)) : Prop :=
  ∃ x c', res = some (x, c') ∧ (SOk n K p V g h c m c' fC a o l nd vc sb dp ar ag nb ∨ SBad n g h m c' a)
/-- where a statement begins: the top of what is around it is node A -/
def Beg (n : Nat) (K : Nat → Int32) (p : Nat → Nat) (V : Nat → Int64) (g h m : St) (tv : Nat → Nat) (fC fM a o l nd vc vm sb dp ar A : Nat) (ag : Prop) : Prop :=
  Bs n K p V g h tv vc vm ar ag ∧ Lv g h vc sb dp ag ∧ (ag ∨ fC < a) ∧ FRel fC fM (NH m.2.2.1 0 nd) ∧ (a ≤ n ∧ l ≤ 2 * a ∧ nd ≤ a ∧ 1 ≤ o ∧ o ≤ 12) ∧ (1 ≤ ar ∧ ar ≤ o ∧ h.2.2.1 36 (ar - 1) = nI A ∧ A < nd ∧ dp ≤ o)
section ST
variable {n : Nat} {K : Nat → Int32} {p : Nat → Nat} {V : Nat → Int64} {g h : St} {tv : Nat → Nat} {vc vm ar sb dp : Nat} {ag : Prop} {co op sz so wh oe tw th nx tk os wa wf : Nat → Int32} {fC fM a o l nd A : Nat} {OC WT : Int32}
theorem st_L (N : Nat) (σ : St) : tModel_statement_L (N + 1) 1 σ = tModel_statement_b1 (tModel_statement_L N) σ := rfl
/-- which statement it is -/
theorem st_disp (B : Bs n K p V g h tv vc vm ar ag) (ha : a ≤ n) (har : 1 ≤ ar) (hA : h.2.2.1 36 (ar - 1) = nI A) (hA2 : A < 500) (hb : so A = 10 → ¬ K a = 125) :
    tModel_statement (mkV h 0 (-1) (ftk n fM) (nI a) (nI o) (nI nd) OC WT so wh oe tw th nx tk os wa wf) =
      (if K a = 7 then tModel_ends (mkV h 0 (-1) (ftk n fM) (nI (a + 1)) (nI o) (nI nd) OC WT so wh oe tw th nx tk os wa wf) 15 (-1) else if K a = 123 then tModel_beginBlock (mkV h 0 (-1) (ftk n fM) (nI a) (nI o) (nI nd) OC WT so wh oe tw th nx tk os wa wf) else if K a = 3 then tModel_makes (mkV h 0 (-1) (ftk n fM) (nI a) (nI o) (nI nd) OC WT so wh oe tw th nx tk os wa wf) else if K a = 4 then tModel_conditional (mkV h 0 (-1) (ftk n fM) (nI a) (nI o) (nI nd) OC WT so wh oe tw th nx tk os wa wf) 13 else if K a = 6 then tModel_conditional (mkV h 0 (-1) (ftk n fM) (nI a) (nI o) (nI nd) OC WT so wh oe tw th nx tk os wa wf) 14 else if K a = 9 then tModel_prints (mkV h 0 (-1) (ftk n fM) (nI a) (nI o) (nI nd) OC WT so wh oe tw th nx tk os wa wf) else if K a = 1 then tModel_named (mkV h 0 (-1) (ftk n fM) (nI a) (nI o) (nI nd) OC WT so wh oe tw th nx tk os wa wf) else tModel_ends (mkV h 0 (-1) (ftk n fM) (nI a) (nI o) (nI nd) OC WT so wh oe tw th nx tk os wa wf) 17 (-1)) := by
  obtain ⟨B1, B2, B3, B4, B5, B6, B7, B8⟩ := B
  have hn := B2.1.1
  have eb : ∀ N, tModel_statement_L (N + 1) 1 (mkV h 0 (-1) (ftk n fM) (nI a) (nI o) (nI nd) OC WT so wh oe tw th nx tk os wa wf) = _ := fun N => st_L N _
  have e1 : tModel_statement (mkV h 0 (-1) (ftk n fM) (nI a) (nI o) (nI nd) OC WT so wh oe tw th nx tk os wa wf) = tModel_statement_L 2000 1 (mkV h 0 (-1) (ftk n fM) (nI a) (nI o) (nI nd) OC WT so wh oe tw th nx tk os wa wf) := by
    unfold tModel_statement
    rw [mkV_i42, B6.1, nI_pred' (by omega), gdT (inI (by omega) (by omega)), tc_nI (by omega), mkV_r36, hA, gdT (inI hA2 (by omega)), tc_nI (by omega), mkV_r20]
    by_cases h10 : so A = 10
    · rw [if_pos h10, b1S (v_sees B2 ha wd125), if_neg (hb h10), if_pos rfl]
    · rw [if_neg h10]
  rw [e1, eb 1999]
  unfold tModel_statement_b1
  rw [b1S (v_sees B2 ha wd7)]
  by_cases h7 : K a = 7
  · rw [if_pos h7, if_neg (by decide), if_pos h7, b1_id, mkV_i31, nI_suc, mkV_s31]
  rw [if_neg h7, if_pos rfl, if_neg h7, b1S (v_sees B2 ha wd123)]
  by_cases h123 : K a = 123
  · rw [if_pos h123, if_neg (by decide), if_pos h123, b1_id]
  rw [if_neg h123, if_pos rfl, if_neg h123, b1S (v_sees B2 ha wd3)]
  by_cases h3 : K a = 3
  · rw [if_pos h3, if_neg (by decide), if_pos h3, b1_id]
  rw [if_neg h3, if_pos rfl, if_neg h3, b1S (v_sees B2 ha wd4)]
  by_cases h4 : K a = 4
  · rw [if_pos h4, if_neg (by decide), if_pos h4, b1_id]
  rw [if_neg h4, if_pos rfl, if_neg h4, b1S (v_sees B2 ha wd6)]
  by_cases h6 : K a = 6
  · rw [if_pos h6, if_neg (by decide), if_pos h6, b1_id]
  rw [if_neg h6, if_pos rfl, if_neg h6, b1S (v_sees B2 ha wd9)]
  by_cases h9 : K a = 9
  · rw [if_pos h9, if_neg (by decide), if_pos h9, b1_id]
  rw [if_neg h9, if_pos rfl, if_neg h9, mkV_i31, gdT (inI (by omega) (by omega)), tc_nI (by omega), mkV_r16]
  by_cases h1 : K a = 1
  · rw [if_pos ((B2.2.2.1 a ha).1.mpr h1), if_pos h1, b1_id]
  · rw [if_neg (fun e => h1 ((B2.2.2.1 a ha).1.mp e)), if_neg h1, b1_id]
/-- a statement that ends with a value and a semicolon -/
theorem sq_leaf {C1 M1 C3 M3 : Nat → Nat → Int32} {f f3 a0 a1 a' a3 o1 l' nd' N vc' : Nat} {kk vv X Y : Int32} (h1 : VQ n K C1 M1 f a1 a' o1 l l' nd nd' N vc) (hf : f3 ≤ f) (ho : 1 ≤ o) (ho12 : o ≤ 12) (ho1 : o ≤ o1) (ha : a0 ≤ a1) (ha1 : a1 < a') (ha3 : a' + 1 ≤ a3) (hl : l < l') (hN : nd ≤ N ∧ N < nd') (hv : vc ≤ 12) (hv' : vc' ≤ 12)
    (k1 : AgC C1 C3 l l') (k3 : AgN M1 M3 nd nd' N) (k5 : M3 20 nd' = kk ∧ M3 21 nd' = vv ∧ M3 22 nd' = nI N) (k6 : C3 6 l' = X ∧ C3 7 l' = Y) (hk : kk = 11 ∨ kk = 15 ∨ kk = 16 ∨ kk = 17) (hX : X = 12 ∨ X = 7 ∨ X = 9 ∨ X = 21)
    (hq : n < f3 → (kk = 15 ∧ X = 7 ∧ vc' = vc) ∨ (kk = 16 ∧ X = 9 ∧ vc' = vc) ∨ (kk = 17 ∧ X = 21 ∧ vc' = vc) ∨ (kk = 11 ∧ X = 12 ∧ ∃ k : Nat, vv = nI k ∧ Y = nI k ∧ ((k < vc ∧ vc' = vc) ∨ (k = vc ∧ vc' = vc + 1)))) :
    SQ n K C3 M3 f3 a0 a3 o l (l' + 1) nd (nd' + 1) nd' vc vc' := by
  intro G H hG hH
  obtain ⟨c1, c1'⟩ := h1 G H (agc_tr k1 (agc_sub hG (by omega) (by omega))) (agn_sub k3 hH (by omega) (by omega) (Or.inl (by omega)))
  obtain ⟨d20, d21, d22, -⟩ := hH nd' (by omega) (by omega)
  obtain ⟨k51, k52, k53⟩ := k5
  rw [k51] at d20; rw [k52] at d21; rw [k53] at d22
  obtain ⟨e6, e7, -⟩ := hG l' (by omega) (by omega)
  rw [k6.1] at e6; rw [k6.2] at e7
  have hX' : ¬ (G 6 l' = 13 ∨ G 6 l' = 14 ∨ G 6 l' = 15) := by
    rw [e6]; rcases hX with e | e | e | e <;> rw [e] <;> decide
  refine ⟨cene_app c1 (cene_none hX' (by rw [d20]; rcases hk with e | e | e | e <;> rw [e] <;> decide)) (by omega) (by omega) (by omega) (by omega), fun hf3 G' H' F len nn hF hl1 hn1 => ?_⟩
  obtain ⟨z, hz, hcv⟩ := c1' (by omega) G' H' F len nn hF (by omega) (by omega) 0 0 (by omega) (by omega)
  obtain ⟨f1, f2, f3', -⟩ := hF
  obtain ⟨i20, i21, i22, -⟩ := f3' nd' (by omega)
  rw [d20] at i20; rw [d21] at i21; rw [d22] at i22
  obtain ⟨g6, g7⟩ := f2 l' (by omega)
  replace g7 := g7 hX'
  rw [e6] at g6; rw [e7] at g7
  obtain ⟨D, hD⟩ : ∃ D, (a3 - a0 + 1) / 2 + (14 - o) = D + 1 := ⟨(a3 - a0 + 1) / 2 + (14 - o) - 1, by omega⟩
  rw [hD]
  refine ⟨z + 2, by omega, ⟨by omega, f1⟩, by omega, by omega, hv, hv', ?_⟩
  rcases hq hf3 with ⟨q1, q2, q3⟩ | ⟨q1, q2, q3⟩ | ⟨q1, q2, q3⟩ | ⟨q1, q2, k, q3, q4, q5⟩
  · exact Or.inr (Or.inr (Or.inr (Or.inr (Or.inr (Or.inl ⟨i20.trans q1, q3, N, l', z, rfl, rfl, i22, cv_up (by omega) hcv, g6.trans q2⟩)))))
  · exact Or.inr (Or.inr (Or.inr (Or.inr (Or.inr (Or.inr (Or.inl ⟨i20.trans q1, q3, N, l', z, rfl, rfl, i22, cv_up (by omega) hcv, g6.trans q2⟩))))))
  · exact Or.inr (Or.inr (Or.inr (Or.inr (Or.inr (Or.inr (Or.inr ⟨i20.trans q1, q3, N, l', z, rfl, rfl, i22, cv_up (by omega) hcv, g6.trans q2⟩))))))
  · exact Or.inr (Or.inl ⟨i20.trans q1, N, l', k, z, rfl, rfl, i22, cv_up (by omega) hcv, g6.trans q2, g7.trans q4, i21.trans q3, q5⟩)
end ST
