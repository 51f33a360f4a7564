/-! The parts of a text. -/
def ArI (n : Nat) (g h : St) (f k : Nat) : Prop := ∃ i z, i < 4 ∧ g.2.2.1 4 k = nI (16 * i) ∧ h.2.2.1 30 k = nI (16 * i) ∧ (n < f → g.2.2.1 5 k = nI z ∧ h.2.2.1 29 k = nI z ∧ 1 ≤ z ∧ z ≤ 16)
def FnI (n : Nat) (g h : St) (C M : Nat → Nat → Int32) (f l nd k : Nat) : Prop := ∃ cnt s, g.2.2.1 5 k = nI cnt ∧ h.2.2.1 29 k = nI cnt ∧ cnt < 1000 ∧ g.2.2.1 4 k = nI s ∧ s < 1000 ∧ (n < f → cnt ≤ 4 ∧ ∃ B e a a' n1 n2, h.2.2.1 30 k = nI B ∧ SQ n C M f a a' 0 s e n1 n2 B cnt cnt ∧ a < a' ∧ a' ≤ n ∧ s ≤ e ∧ e + 2 ≤ l ∧ n1 ≤ B ∧ B < n2 ∧ n2 ≤ nd ∧ C 6 e = 10 ∧ C 7 e = 0 ∧ C 6 (e + 1) = 7)
/-- between two parts -/
def TP (n : Nat) (K : Nat → Int32) (p : Nat → Nat) (V : Nat → Int64) (g0 h0 c m : St) (a : Nat) : Prop :=
  ∃ (g h : St) (tg : Nat → Nat) (q na nf fC fM l nd oc wt ar : Nat) (co op sz so wh oe tw th nx tk os wa wf : Nat → Int32),
    c = mkW g 0 (-1) (wn n p fC) (nI a) (nI 0) (nI l) co op sz ∧ m = mkV h 0 (-1) (ftk n fM) (nI a) (nI 0) (nI nd) (nI oc) (nI wt) so wh oe tw th nx tk os wa wf ∧
    TkC g n K p V ∧ TkM h n K p V ∧ GR n K V g h tg q na nf ∧ ((∃ v, v ≤ 12 ∧ g.1 8 = nI v) ∧ (∃ v, v ≤ 12 ∧ g.1 9 = nI v)) ∧ (h.1 42 = nI ar ∧ ar ≤ 40 ∧ oc ≤ 40) ∧ FrC g0 g ∧ FrM h0 h ∧ (a ≤ n ∧ l ≤ 2 * a ∧ nd ≤ a) ∧ FRel fC fM (NH m.2.2.1 0 nd) ∧ (∀ x t k, CE c.2.2.1 0 l x t k ↔ NE m.2.2.1 0 nd x t k) ∧
    (∀ k, k < q → g.2.2.1 3 k = 0 → ArI n g h fC k) ∧ (∀ k, k < q → g.2.2.1 3 k = 1 → FnI n g h c.2.2.1 m.2.2.1 fC l nd k)
theorem frel_min {fC fM t : Nat} {S : Nat → Prop} (h : FRel fC fM S) : FRel (min fC t) (min fM t) S := by
  obtain ⟨a1, a2, a3⟩ := h
  refine ⟨by omega, fun x hx => by have := a2 x hx; omega, ?_⟩
  rcases Nat.lt_or_ge t fC with e | e
  · left; omega
  · rw [show min fC t = fC by omega]
    rcases a3 with a3 | a3
    · left; omega
    · exact Or.inr a3
section TPS
variable {n : Nat} {K : Nat → Int32} {p : Nat → Nat} {V : Nat → Int64}
theorem fp_L1 (N : Nat) (σ : St) (x1 x2 : Int32) : tModel_functionPart_L (N + 1) 1 σ x1 x2 = tModel_functionPart_b1 (tModel_functionPart_L N) σ x1 x2 := rfl
theorem fp_L2 (N : Nat) (σ : St) (x1 x2 : Int32) : tModel_functionPart_L (N + 1) 2 σ x1 x2 = tModel_functionPart_b2 (tModel_functionPart_L N) σ x1 x2 := rfl
theorem fp_steps {x1 x2 : Int32} : ∀ {j : Nat} {m m' : St} (N : Nat), StSteps j m m' → tModel_functionPart_L (N + j) 2 m x1 x2 = tModel_functionPart_L N 2 m' x1 x2 := by
  intro j
  induction j with
  | zero => intro m m' N h; cases h; rfl
  | succ j ih =>
    intro m m' N h
    obtain ⟨g1, g0, c1, g2, g3⟩ := h
    rw [show N + (j + 1) = (N + j) + 1 by omega, fp_L2]
    unfold tModel_functionPart_b2
    rw [if_neg g0, g1, if_pos rfl, b1S g2]
    exact ih N g3
theorem km_fp2 {h : St} {σ : St} {k N x : Nat} {r q x2 : Int32} (b : MBad h n k r q σ) (hx : x < 60) (hN : 0 < N) : KM h n k r q (tModel_functionPart_L N 2 σ (nI x) x2) := by
  obtain ⟨N, rfl⟩ : ∃ j, N = j + 1 := ⟨N - 1, by omega⟩
  rw [fp_L2]
  unfold tModel_functionPart_b2
  rw [b.2.1, if_neg b.2.2.2.1, gdT (inI hx (by omega))]
  split <;> exact kms (mb_sA b (by omega))
/-- the body of a function: from "{" -/
theorem fun_body {g h : St} {tv : Nat → Nat} {vc vm fC fM a l nd oc x : Nat} {ag : Prop} {co op sz so wh oe tw th nx tk os wa wf : Nat → Int32} {WT : Nat} (B : Bq n K p V g h tv vc vm ag) (L : Lv g h vc 0 1 ag) (h9 : g.1 9 = nI 0) (hx : x < 60) (hoc : oc ≤ 20) (hag : ag ∨ fC < a) (hF : FRel fC fM (NH (mkV h 0 (-1) (ftk n fM) (nI a) (nI 0) (nI nd) (nI oc) (nI WT) so wh oe tw th nx tk os wa wf).2.2.1 0 nd)) (ha : a ≤ n) (ha1 : 1 ≤ a) (hl : l + 4 ≤ 2 * a) (hnd : nd + 1 ≤ a) :
    (∃ (g' h' c' m' : St) (a' l' nd' fC' fM' oc' wt' : Nat) (co' op' sz' so' wh' oe' tw' th' nx' tk' os' wa' wf' : Nat → Int32), b1 (tCursor_passOpening (mkW g 0 (-1) (wn n p fC) (nI a) (nI 0) (nI l) co op sz) 123) (fun u8 => b2 (tG 80 15 u8 0 0) (fun r9 u9 => b1 (tCursor_passClosing u9 125) (fun u10 => b1 (tProgram_add u10 10 0 0) (fun u11 => b1 (tProgram_add u11 7 0 0) (fun u12 => some u12))))) = some c' ∧
        (if K a = 123 then tModel_functionPart_L 2000 1 (mkV h 0 (-1) (ftk n fM) (nI a) (nI 0) (nI nd) (nI oc) (nI WT) so wh oe tw th nx tk os wa wf) (nI x) 0 else b1 (tModel_spoil (mkV h 0 (-1) (ftk n fM) (nI a) (nI 0) (nI nd) (nI oc) (nI WT) so wh oe tw th nx tk os wa wf)) (fun u7 => tModel_functionPart_L 2000 1 u7 (nI x) 0)) = some m' ∧
        c' = mkW g' 0 (-1) (wn n p fC') (nI a') (nI 0) (nI l') co' op' sz' ∧ m' = mkV (sA h' 30 (upd (h'.2.2.1 30) x (nI nd))) 0 (-1) (ftk n fM') (nI a') (nI 0) (nI nd') (nI oc') (nI wt') so' wh' oe' tw' th' nx' tk' os' wa' wf' ∧ True) ∨
    (∃ r q, KB g n r q (b1 (tCursor_passOpening (mkW g 0 (-1) (wn n p fC) (nI a) (nI 0) (nI l) co op sz) 123) (fun u8 => b2 (tG 80 15 u8 0 0) (fun r9 u9 => b1 (tCursor_passClosing u9 125) (fun u10 => b1 (tProgram_add u10 10 0 0) (fun u11 => b1 (tProgram_add u11 7 0 0) (fun u12 => some u12)))))) ∧ KM h n 10 r q (if K a = 123 then tModel_functionPart_L 2000 1 (mkV h 0 (-1) (ftk n fM) (nI a) (nI 0) (nI nd) (nI oc) (nI WT) so wh oe tw th nx tk os wa wf) (nI x) 0 else b1 (tModel_spoil (mkV h 0 (-1) (ftk n fM) (nI a) (nI 0) (nI nd) (nI oc) (nI WT) so wh oe tw th nx tk os wa wf)) (fun u7 => tModel_functionPart_L 2000 1 u7 (nI x) 0))) := by
  sorry
end TPS
