/-! Forging, on both sides. -/
def FrCF (a c : St) : Prop := (∀ k, (k = 0 ∨ (14 < k ∧ ¬ (22 ≤ k ∧ k ≤ 25))) → c.1 k = a.1 k) ∧ c.2.1 = a.2.1 ∧ (∀ k, (k = 0 ∨ 8 < k) → c.2.2.1 k = a.2.2.1 k) ∧ (∀ k, 2 < k → c.2.2.2 k = a.2.2.2 k)
def FrMF (b m : St) : Prop := (∀ k, (k < 26 ∨ k = 27 ∨ (44 < k ∧ ¬ (k = 47 ∨ k = 51 ∨ k = 53))) → m.1 k = b.1 k) ∧ m.2.1 = b.2.1 ∧ (∀ k, (k < 16 ∨ 36 < k) → m.2.2.1 k = b.2.2.1 k) ∧ m.2.2.2 = b.2.2.2
theorem fcf_refl (a : St) : FrCF a a := ⟨fun _ _ => rfl, rfl, fun _ _ => rfl, fun _ _ => rfl⟩
theorem fmf_refl (a : St) : FrMF a a := ⟨fun _ _ => rfl, rfl, fun _ _ => rfl, rfl⟩
theorem fcf_sI {a σ : St} {k : Nat} {x : Int32} (h : FrCF a σ) (hk : ¬ (k = 0 ∨ (14 < k ∧ ¬ (22 ≤ k ∧ k ≤ 25)))) : FrCF a (sI σ k x) := ⟨fun j hj => by rw [sI1, if_neg (fun e => hk (by rw [← e]; exact hj))]; exact h.1 j hj, h.2.1, h.2.2.1, h.2.2.2⟩
theorem fmf_sI {a σ : St} {k : Nat} {x : Int32} (h : FrMF a σ) (hk : ¬ (k < 26 ∨ k = 27 ∨ (44 < k ∧ ¬ (k = 47 ∨ k = 51 ∨ k = 53)))) : FrMF a (sI σ k x) := ⟨fun j hj => by rw [sI1, if_neg (fun e => hk (by rw [← e]; exact hj))]; exact h.1 j hj, h.2.1, h.2.2.1, h.2.2.2⟩
theorem fcf_frc {a g c : St} (h : FrCF a g) (f : FrC g c) : FrCF a c := ⟨fun k hk => (f.1 k (by omega)).trans (h.1 k hk), f.2.1.trans h.2.1, fun k hk => (f.2.2.1 k (by omega)).trans (h.2.2.1 k hk), fun k hk => (f.2.2.2 k (by omega)).trans (h.2.2.2 k hk)⟩
theorem fmf_frm {a g c : St} (h : FrMF a g) (f : FrM g c) : FrMF a c := ⟨fun k hk => (f.1 k (by omega)).trans (h.1 k hk), f.2.1.trans h.2.1, fun k hk => (f.2.2.1 k (by omega)).trans (h.2.2.1 k hk), f.2.2.2.trans h.2.2.2⟩
theorem fcf_mkT {a g : St} {r q cn fv : Int32} {k1 k2 : Nat → Int32} {v0 : Nat → Int64} (h : FrCF a g) : FrCF a (mkT g r q cn fv k1 k2 v0) := by
  refine ⟨fun k hk => ?_, h.2.1, fun k hk => ?_, fun k hk => ?_⟩
  · show (if k = 1 then r else if k = 2 then q else if k = 4 then cn else if k = 5 then fv else g.1 k) = a.1 k
    rw [if_neg (by omega), if_neg (by omega), if_neg (by omega), if_neg (by omega)]; exact h.1 k hk
  · show (if k = 1 then k1 else if k = 2 then k2 else g.2.2.1 k) = a.2.2.1 k
    rw [if_neg (by omega), if_neg (by omega)]; exact h.2.2.1 k hk
  · show (if k = 0 then v0 else g.2.2.2 k) = a.2.2.2 k
    rw [if_neg (by omega)]; exact h.2.2.2 k hk
theorem fmf_mkU {a g : St} {cn y q : Int32} {ra rb rc rd : Nat → Int32} (h : FrMF a g) : FrMF a (mkU g cn y q ra rb rc rd) := by
  refine ⟨fun k hk => ?_, h.2.1, fun k hk => ?_, h.2.2.2⟩
  · show (if k = 28 then cn else if k = 29 then y else if k = 30 then q else g.1 k) = a.1 k
    rw [if_neg (by omega), if_neg (by omega), if_neg (by omega)]; exact h.1 k hk
  · show (if k = 16 then ra else if k = 17 then rb else if k = 18 then rc else if k = 19 then rd else g.2.2.1 k) = a.2.2.1 k
    rw [if_neg (by omega), if_neg (by omega), if_neg (by omega), if_neg (by omega)]; exact h.2.2.1 k hk
theorem mkT_eta (σ : St) : mkT σ (σ.1 1) (σ.1 2) (σ.1 4) (σ.1 5) (σ.2.2.1 1) (σ.2.2.1 2) (σ.2.2.2 0) = σ := by
  refine Prod.ext (funext fun j => ?_) (Prod.ext rfl (Prod.ext (funext fun j => ?_) (funext fun j => ?_)))
  · show (if j = 1 then σ.1 1 else if j = 2 then σ.1 2 else if j = 4 then σ.1 4 else if j = 5 then σ.1 5 else σ.1 j) = σ.1 j
    repeat' split
    all_goals first | rfl | (rename_i h; rw [h])
  · show (if j = 1 then σ.2.2.1 1 else if j = 2 then σ.2.2.1 2 else σ.2.2.1 j) = σ.2.2.1 j
    repeat' split
    all_goals first | rfl | (rename_i h; rw [h])
  · show (if j = 0 then σ.2.2.2 0 else σ.2.2.2 j) = σ.2.2.2 j
    repeat' split
    all_goals first | rfl | (rename_i h; rw [h])
theorem mkU_eta (σ : St) : mkU σ (σ.1 28) (σ.1 29) (σ.1 30) (σ.2.2.1 16) (σ.2.2.1 17) (σ.2.2.1 18) (σ.2.2.1 19) = σ := by
  refine Prod.ext (funext fun j => ?_) (Prod.ext rfl (Prod.ext (funext fun j => ?_) rfl))
  · show (if j = 28 then σ.1 28 else if j = 29 then σ.1 29 else if j = 30 then σ.1 30 else σ.1 j) = σ.1 j
    repeat' split
    all_goals first | rfl | (rename_i h; rw [h])
  · show (if j = 16 then σ.2.2.1 16 else if j = 17 then σ.2.2.1 17 else if j = 18 then σ.2.2.1 18 else if j = 19 then σ.2.2.1 19 else σ.2.2.1 j) = σ.2.2.1 j
    repeat' split
    all_goals first | rfl | (rename_i h; rw [h])
theorem mkW_eta (σ : St) : mkW σ (σ.1 1) (σ.1 2) (σ.1 3) (σ.1 6) (σ.1 7) (σ.1 13) (σ.2.2.1 6) (σ.2.2.1 7) (σ.2.2.1 8) = σ := by
  refine Prod.ext (funext fun j => ?_) (Prod.ext rfl (Prod.ext (funext fun j => ?_) rfl))
  · show (if j = 1 then σ.1 1 else if j = 2 then σ.1 2 else if j = 3 then σ.1 3 else if j = 6 then σ.1 6 else if j = 7 then σ.1 7 else if j = 13 then σ.1 13 else σ.1 j) = σ.1 j
    repeat' split
    all_goals first | rfl | (rename_i h; rw [h])
  · show (if j = 6 then σ.2.2.1 6 else if j = 7 then σ.2.2.1 7 else if j = 8 then σ.2.2.1 8 else σ.2.2.1 j) = σ.2.2.1 j
    repeat' split
    all_goals first | rfl | (rename_i h; rw [h])
theorem mkV_eta (σ : St) : mkV σ (σ.1 29) (σ.1 30) (σ.1 33) (σ.1 31) (σ.1 32) (σ.1 34) (σ.1 40) (σ.1 41) (σ.2.2.1 20) (σ.2.2.1 21) (σ.2.2.1 22) (σ.2.2.1 23) (σ.2.2.1 24) (σ.2.2.1 25) (σ.2.2.1 26) (σ.2.2.1 33) (σ.2.2.1 34) (σ.2.2.1 35) = σ := by
  refine Prod.ext (funext fun j => ?_) (Prod.ext rfl (Prod.ext (funext fun j => ?_) rfl))
  · show (if j = 29 then σ.1 29 else if j = 30 then σ.1 30 else if j = 33 then σ.1 33 else if j = 31 then σ.1 31 else if j = 32 then σ.1 32 else if j = 34 then σ.1 34 else if j = 40 then σ.1 40 else if j = 41 then σ.1 41 else σ.1 j) = σ.1 j
    repeat' split
    all_goals first | rfl | (rename_i h; rw [h])
  · show (if j = 20 then σ.2.2.1 20 else if j = 21 then σ.2.2.1 21 else if j = 22 then σ.2.2.1 22 else if j = 23 then σ.2.2.1 23 else if j = 24 then σ.2.2.1 24 else if j = 25 then σ.2.2.1 25 else if j = 26 then σ.2.2.1 26 else if j = 33 then σ.2.2.1 33 else if j = 34 then σ.2.2.1 34 else if j = 35 then σ.2.2.1 35 else σ.2.2.1 j) = σ.2.2.1 j
    repeat' split
    all_goals first | rfl | (rename_i h; rw [h])
/-- all tokens: refused on both sides, or known to both -/
theorem tok_both {a b : St} {tx : Nat → Nat} {L : Nat} (T : TxC a tx L) (TM : TxM b tx L) (h1 : a.1 1 = 0) (h2 : a.1 2 = -1) (h29 : b.1 29 = 0) (h30 : b.1 30 = -1) :
    (∃ (v y : Int32) (n n2 : Nat) (fv : Int32) (k1 k2 : Nat → Int32) (v0 : Nat → Int64) (ra rb rc rd : Nat → Int32), ¬ v = 0 ∧ n ≤ 220 ∧ tTokens_takeAll a = some (mkT (sI (sI a 4 0) 5 (-1)) v y (nI n) fv k1 k2 v0) ∧ tModel_takeTokens b = some (mkU (sI b 28 0) (nI n2) v y ra rb rc rd)) ∨
    (∃ (n : Nat) (K : Nat → Int32) (p : Nat → Nat) (V : Nat → Int64) (k1 k2 : Nat → Int32) (v0 : Nat → Int64) (ra rb rc rd : Nat → Int32), tTokens_takeAll a = some (mkT (sI (sI a 4 0) 5 (-1)) 0 (-1) (nI n) (-1) k1 k2 v0) ∧ tModel_takeTokens b = some (mkU (sI b 28 0) (nI (n + 1)) 0 (-1) ra rb rc rd) ∧ p n = L ∧ TkC (mkT (sI (sI a 4 0) 5 (-1)) 0 (-1) (nI n) (-1) k1 k2 v0) n K p V ∧ TkM (mkU (sI b 28 0) (nI (n + 1)) 0 (-1) ra rb rc rd) n K p V ∧ (∀ x, x < n → K x = 1 → tModel_is (mkU (sI b 28 0) (nI (n + 1)) 0 (-1) ra rb rc rd) (nI x) 1852399981 = some (if V x = 1835100526 then 1 else 0))) := by
  have hL := T.2.1
  have T' : TxC (sI (sI a 4 0) 5 (-1)) tx L := T
  have TM' : TxM (sI b 28 0) tx L := TM
  have ec := mkT_eta (sI (sI a 4 0) 5 (-1))
  rw [show (sI (sI a 4 0) 5 (-1)).1 1 = 0 from h1, show (sI (sI a 4 0) 5 (-1)).1 2 = -1 from h2] at ec
  have em := mkU_eta (sI b 28 0)
  rw [show (sI b 28 0).1 29 = 0 from h29, show (sI b 28 0).1 30 = -1 from h30] at em
  have I0 : TI tx L (sI (sI a 4 0) 5 (-1)) (sI b 28 0) 0 0 (fun _ => 0) (fun _ => 0) (fun _ => 0) (fun _ => 0) (sI (sI a 4 0) 5 (-1)) (sI b 28 0) := ⟨-1, _, _, _, _, _, _, _, ec.symm, em.symm, Nat.le_refl _, fun k hk => absurd hk (by omega), fun k hk => absurd hk (by omega), fun j k _ hk => absurd hk (by omega), rfl⟩
  have ea : tTokens_takeAll a = tTokens_takeAll_L 2000 1 (sI (sI a 4 0) 5 (-1)) (nI 0) (nI 0) := rfl
  have eb : tModel_takeTokens b = tModel_takeTokens_L 2000 1 (sI b 28 0) (nI 0) 0 := rfl
  rw [ea, eb]
  rcases tok_all T' TM' L 0 0 2000 2000 0 _ _ _ _ _ _ (by omega) (by omega) (by omega) (by omega) (by omega) I0 with ⟨x, n', n2, fv', k1', k2', v0', ra', rb', rc', rd', x1, x2, x3⟩ | ⟨N', M', t, P, S, K, V, c, m, x1, x2, I⟩
  · exact Or.inl ⟨1, nI x, n', n2, fv', k1', k2', v0', ra', rb', rc', rd', by decide, x1, x2, x3⟩
  · rw [x1, x2, ta_L3, mt_L5]
    unfold tTokens_takeAll_b3 tModel_takeTokens_b5
    have k6 : ∀ (M : Nat) (u : St), tModel_takeTokens_L (M + 1) 6 u 0 0 = tModel_addToken u 0 (u.1 27) 0 0 := fun M u => by
      have e : tModel_takeTokens_L (M + 1) 6 u 0 0 = tModel_takeTokens_b6 (tModel_takeTokens_L M) u 0 0 := rfl
      rw [e]
      unfold tModel_takeTokens_b6
      rw [b1_id]
    by_cases ht : t ≤ 220
    · right
      obtain ⟨k1, k2, ra, rb, rc, rd, v0, K2, p2, y1, y2, y3, y4, y5, y6⟩ := tok_tk T' TM' I ht
      obtain ⟨fv, k1', k2', ra', rb', rc', rd', v0', -, z2, -⟩ := I
      have e28 : m.1 28 = nI t := by rw [z2]; rfl
      have e29 : m.1 29 = 0 := by rw [z2]; rfl
      refine ⟨t, K2, p2, V, k1, k2, v0, ra, rb, rc, rd, ?_, ?_, y3, by rw [← y1]; exact y4, y5, y6⟩
      · rw [y1, mkT_i5, if_pos (by decide)]
      · rw [e29, if_pos rfl, e28, if_pos (show nI t ≤ 220 from (nI_leI (b := 220) (by omega) (by omega)).mpr ht), k6, y2]
    · left
      obtain ⟨fv, k1, k2, ra, rb, rc, rd, v0, rfl, rfl, I1, I2, I3, I4, I5⟩ := I
      rw [if_neg ht] at I5
      have hP : P 220 < 1000 := by have := (I2 220 (by omega)).2.2.2; omega
      refine ⟨2, nI (P 220), 220, t + 1, fv, k1, k2, v0, upd ra t 0, upd rb t (b.1 27), upd rc t 0, upd rd t 0, by decide, by omega, ?_, ?_⟩
      · rw [mkT_i5, I5, if_neg (nI_nneg (by omega)), b1_id, t_refuse0, show min t 220 = 220 by omega]
      · rw [mkU_i29, if_pos rfl, mkU_i28, if_neg (show ¬ nI t ≤ 220 from fun e => ht ((nI_leI (b := 220) (by omega) (by omega)).mp e)), gdT (by decide), mkU_r17, show (220 : Int32).toNatClampNeg = 220 from rfl, (I2 220 (by omega)).1, b1S u_blame, k6, mkU_i27]
        exact u_add (by omega)
