/-! Forging, on both sides: the whole. -/
def BdC (c : St) : Prop := (∃ v, v ≤ 12 ∧ c.1 8 = nI v) ∧ (∃ v, v ≤ 12 ∧ c.1 9 = nI v) ∧ (∃ v, v ≤ 12 ∧ c.1 10 = nI v)
def BdM (m : St) : Prop := (∃ v, v ≤ 40 ∧ m.1 40 = nI v) ∧ (∃ v, v ≤ 40 ∧ m.1 42 = nI v)
theorem ff_L1 (N : Nat) (σ : St) : tForge_forge_L (N + 1) 1 σ = tForge_forge_b1 (tForge_forge_L N) σ := rfl
theorem ff_L2 (N : Nat) (σ : St) : tForge_forge_L (N + 1) 2 σ = tForge_forge_b2 (tForge_forge_L N) σ := rfl
theorem none_0 {c : St} (h : ¬ c.1 1 = 0) : tRefusal_isNone c = some 0 := by unfold tRefusal_isNone; rw [if_neg h]
theorem none_1 {c : St} (h : c.1 1 = 0) : tRefusal_isNone c = some 1 := by unfold tRefusal_isNone; rw [if_pos h]
theorem ff_two {N : Nat} {c : St} (h : ¬ c.1 1 = 0) : tForge_forge_L (N + 1) 2 c = some (3, 0, sI c 25 0) := by
  rw [ff_L2]
  unfold tForge_forge_b2
  rw [b1S (none_0 h), gdT (by decide), if_pos rfl]
theorem ff_two1 {N : Nat} {c : St} (h : c.1 1 = 0) : tForge_forge_L (N + 1) 2 c = some (0, c.1 12, sI c 25 1) := by
  rw [ff_L2]
  unfold tForge_forge_b2
  rw [b1S (none_1 h), gdT (by decide), if_neg (by decide)]
theorem ff_bad {c : St} (h : ¬ c.1 1 = 0) : tForge_forge_L 2000 1 c = some (3, 0, sI c 25 0) := by
  rw [ff_L1 1999]
  unfold tForge_forge_b1
  rw [b1S (none_0 h), if_pos rfl, ff_two (N := 1998) h]
theorem ff_join {c c' : St} (h : c.1 1 = 0) (hj : tGlobals_join c = some c') : tForge_forge_L 2000 1 c = tForge_forge_L 1999 2 c' := by
  rw [ff_L1 1999]
  unfold tForge_forge_b1
  rw [b1S (none_1 h), if_neg (by decide), b1S hj]
theorem mfg_L1 (N : Nat) (σ : St) (x : Int32) : tModel_forge_L (N + 1) 1 σ x = tModel_forge_b1 (tModel_forge_L N) σ x := rfl
theorem mfg_0 {m : St} : tModel_forge_L 2000 1 m 0 = some (0, sI (sI (sI (sI (sI m 43 0) 47 0) 51 0) 53 0) 26 1) := by
  rw [mfg_L1 1999]
  unfold tModel_forge_b1 tModel_refuse
  rw [gdT (by decide), if_pos rfl, b2S rfl]
theorem mfg_1 {m : St} : tModel_forge_L 2000 1 m 1 = some (m.1 36, sI (sI (sI (sI m 43 1) 47 0) 51 0) 53 0) := by
  rw [mfg_L1 1999]
  unfold tModel_forge_b1
  rw [gdT (by decide), if_neg (by decide)]
theorem mrd_L1 (N : Nat) (σ : St) (x1 : Int32) : tModel_read_L (N + 1) 1 σ x1 = tModel_read_L N 2 σ x1 := rfl
theorem forge_both {a b : St} {tx : Nat → Nat} {L : Nat} (T : TxC a tx L) (TM : TxM b tx L) (Ba : BdC a) (Bb : BdM b) :
    ∃ (c m : St), FrCF a c ∧ FrMF b m ∧ c.1 1 = m.1 29 ∧ c.1 2 = m.1 30 ∧ (c.1 22 = 0 ∧ c.1 23 = 0 ∧ c.1 24 = 0) ∧ (m.1 47 = 0 ∧ m.1 51 = 0 ∧ m.1 53 = 0) ∧ BdC c ∧ BdM m ∧ ((∃ k, tForge_forge a = some (0, k, c) ∧ tModel_forge b = some (k, m) ∧ c.1 25 = 1 ∧ m.1 43 = 1 ∧ m.1 26 = 0 ∧ PR2 c m) ∨ (tForge_forge a = some (3, 0, c) ∧ tModel_forge b = some (0, m) ∧ c.1 25 = 0 ∧ m.1 43 = 0 ∧ m.1 26 = 1)) := by
  obtain ⟨A, hA⟩ : ∃ A, A = sI (sI (sI (sI (sI (sI a 22 0) 23 0) 24 0) 1 0) 2 (-1)) 3 (-1) := ⟨_, rfl⟩
  obtain ⟨B, hB⟩ : ∃ B, B = sI (sI (sI (sI (sI (sI (sI (sI (sI (sI b 26 0) 29 0) 30 (-1)) 34 0) 35 0) 36 0) 37 0) 33 (-1)) 31 0) 32 0 := ⟨_, rfl⟩
  have FA : FrCF a A := by rw [hA]; exact fcf_sI (fcf_sI (fcf_sI (fcf_sI (fcf_sI (fcf_sI (fcf_refl a) (by omega)) (by omega)) (by omega)) (by omega)) (by omega)) (by omega)
  have FB : FrMF b B := by rw [hB]; exact fmf_sI (fmf_sI (fmf_sI (fmf_sI (fmf_sI (fmf_sI (fmf_sI (fmf_sI (fmf_sI (fmf_sI (fmf_refl b) (by omega)) (by omega)) (by omega)) (by omega)) (by omega)) (by omega)) (by omega)) (by omega)) (by omega)) (by omega)
  have A22 : A.1 22 = 0 ∧ A.1 23 = 0 ∧ A.1 24 = 0 := by rw [hA]; exact ⟨rfl, rfl, rfl⟩
  have A1 : A.1 1 = 0 ∧ A.1 2 = -1 ∧ A.1 3 = -1 ∧ A.1 8 = a.1 8 ∧ A.1 9 = a.1 9 ∧ A.1 10 = a.1 10 := by rw [hA]; exact ⟨rfl, rfl, rfl, rfl, rfl, rfl⟩
  have B1 : B.1 29 = 0 ∧ B.1 30 = -1 ∧ B.1 33 = -1 ∧ B.1 31 = nI 0 ∧ B.1 32 = nI 0 ∧ B.1 34 = nI 0 ∧ B.1 35 = nI 0 ∧ B.1 36 = nI 0 ∧ B.1 37 = nI 0 ∧ B.1 40 = b.1 40 ∧ B.1 42 = b.1 42 ∧ B.1 26 = 0 := by rw [hB]; exact ⟨rfl, rfl, rfl, rfl, rfl, rfl, rfl, rfl, rfl, rfl, rfl, rfl⟩
  have TA : TxC A tx L := by rw [hA]; exact T
  have TB : TxM B tx L := by rw [hB]; exact TM
  have eC : tForge_forge a = b1 (tTokens_takeAll A) (fun u3 => b1 (tRefusal_isNone u3) (fun r4 => if r4 = 0 then tForge_forge_L 2000 1 u3 else b1 (tGrammar_readWhole u3) (fun u6 => tForge_forge_L 2000 1 u6))) := by
    unfold tForge_forge tMachine_forget tRefusal_forget
    rw [b1S rfl, b1S rfl, hA]
  have eM : tModel_forge b = b1 (b1 (tModel_takeTokens B) (fun u1 => if (u1.1 29) = 0 then tModel_read_L 2000 1 u1 1 else tModel_read_L 2000 1 u1 0)) (fun u1 => if (u1.1 29) = 0 then tModel_forge_L 2000 1 u1 1 else tModel_forge_L 2000 1 u1 0) := by
    unfold tModel_forge tModel_read
    rw [hB]
  -- both are refused
  have bad : ∀ (c m : St) (v y : Int32), ¬ v = 0 → tForge_forge a = some (3, 0, sI c 25 0) → tModel_forge b = some (0, sI (sI (sI (sI (sI m 43 0) 47 0) 51 0) 53 0) 26 1) → FrCF a c → FrMF b m → (c.1 1 = v ∧ c.1 2 = y) → (m.1 29 = v ∧ m.1 30 = y) → (c.1 22 = 0 ∧ c.1 23 = 0 ∧ c.1 24 = 0) → BdC c → BdM m → ∃ (c m : St), FrCF a c ∧ FrMF b m ∧ c.1 1 = m.1 29 ∧ c.1 2 = m.1 30 ∧ (c.1 22 = 0 ∧ c.1 23 = 0 ∧ c.1 24 = 0) ∧ (m.1 47 = 0 ∧ m.1 51 = 0 ∧ m.1 53 = 0) ∧ BdC c ∧ BdM m ∧ ((∃ k, tForge_forge a = some (0, k, c) ∧ tModel_forge b = some (k, m) ∧ c.1 25 = 1 ∧ m.1 43 = 1 ∧ m.1 26 = 0 ∧ PR2 c m) ∨ (tForge_forge a = some (3, 0, c) ∧ tModel_forge b = some (0, m) ∧ c.1 25 = 0 ∧ m.1 43 = 0 ∧ m.1 26 = 1)) := by
    intro c m v y hv e1 e2 f1 f2 x1 x2 x3 x4 x5
    refine ⟨sI c 25 0, sI (sI (sI (sI (sI m 43 0) 47 0) 51 0) 53 0) 26 1, fcf_sI f1 (by omega), fmf_sI (fmf_sI (fmf_sI (fmf_sI (fmf_sI f2 (by omega)) (by omega)) (by omega)) (by omega)) (by omega), x1.1.trans x2.1.symm, x1.2.trans x2.2.symm, x3, ⟨rfl, rfl, rfl⟩, x4, x5, Or.inr ⟨e1, e2, rfl, rfl, rfl⟩⟩
  rcases tok_both TA TB A1.1 A1.2.1 B1.1 B1.2.1 with ⟨v, y, n, n2, fv, k1, k2, v0, ra, rb, rc, rd, hv, hn, t1, t2⟩ | ⟨n, K, p, V, k1, k2, v0, ra, rb, rc, rd, t1, t2, t3, t4, t5, t6⟩
  · refine bad (mkT (sI (sI A 4 0) 5 (-1)) v y (nI n) fv k1 k2 v0) (mkU (sI B 28 0) (nI n2) v y ra rb rc rd) v y hv ?_ ?_ (fcf_mkT (fcf_sI (fcf_sI FA (by omega)) (by omega))) (fmf_mkU (fmf_sI FB (by omega))) ⟨rfl, rfl⟩ ⟨rfl, rfl⟩ A22 ?_ ?_
    · rw [eC, b1S t1, b1S (none_0 hv), if_pos rfl, ff_bad hv]
    · have e29 : (mkU (sI B 28 0) (nI n2) v y ra rb rc rd).1 29 = v := rfl
      rw [eM, b1S t2, e29, if_neg hv, mrd_L1 1999, mrd_L2 1998]
      unfold tModel_read_b2
      rw [if_pos rfl, e29, if_neg hv, b1S rfl, e29, if_neg hv, mfg_0]
    · refine ⟨?_, ?_, ?_⟩
      · show ∃ v, v ≤ 12 ∧ A.1 8 = nI v
        rw [A1.2.2.2.1]; exact Ba.1
      · show ∃ v, v ≤ 12 ∧ A.1 9 = nI v
        rw [A1.2.2.2.2.1]; exact Ba.2.1
      · show ∃ v, v ≤ 12 ∧ A.1 10 = nI v
        rw [A1.2.2.2.2.2]; exact Ba.2.2
    · refine ⟨?_, ?_⟩
      · show ∃ v, v ≤ 40 ∧ B.1 40 = nI v
        rw [B1.2.2.2.2.2.2.2.2.2.1]; exact Bb.1
      · show ∃ v, v ≤ 40 ∧ B.1 42 = nI v
        rw [B1.2.2.2.2.2.2.2.2.2.2.1]; exact Bb.2
  · obtain ⟨X, hX⟩ : ∃ X, X = mkT (sI (sI A 4 0) 5 (-1)) 0 (-1) (nI n) (-1) k1 k2 v0 := ⟨_, rfl⟩
    obtain ⟨Y, hY⟩ : ∃ Y, Y = mkU (sI B 28 0) (nI (n + 1)) 0 (-1) ra rb rc rd := ⟨_, rfl⟩
    rw [← hX] at t1 t4
    rw [← hY] at t2 t5 t6
    obtain ⟨S, hS⟩ : ∃ S, S = sI (sI (sI (sI (sI (sI X 6 0) 7 0) 10 0) 11 0) 12 0) 13 0 := ⟨_, rfl⟩
    have X1 : X.1 1 = 0 ∧ X.1 2 = -1 ∧ X.1 3 = -1 ∧ X.1 8 = a.1 8 ∧ X.1 9 = a.1 9 ∧ X.1 22 = 0 ∧ X.1 23 = 0 ∧ X.1 24 = 0 := by rw [hX]; exact ⟨rfl, rfl, A1.2.2.1, A1.2.2.2.1, A1.2.2.2.2.1, A22.1, A22.2.1, A22.2.2⟩
    have FX : FrCF a X := by rw [hX]; exact fcf_mkT (fcf_sI (fcf_sI FA (by omega)) (by omega))
    have FS : FrC X S := by rw [hS]; exact frc_sI (frc_sI (frc_sI (frc_sI (frc_sI (frc_sI (frc_refl X) (by omega)) (by omega)) (by omega)) (by omega)) (by omega)) (by omega)
    have FaS : FrCF a S := fcf_frc FX FS
    have S1 : S.1 1 = 0 ∧ S.1 2 = -1 ∧ S.1 3 = -1 ∧ S.1 6 = nI 0 ∧ S.1 7 = nI 0 ∧ S.1 13 = nI 0 ∧ S.1 10 = nI 0 ∧ S.1 11 = nI 0 ∧ S.1 12 = nI 0 ∧ S.1 8 = a.1 8 ∧ S.1 9 = a.1 9 ∧ S.1 22 = 0 ∧ S.1 23 = 0 ∧ S.1 24 = 0 := by rw [hS]; exact ⟨X1.1, X1.2.1, X1.2.2.1, rfl, rfl, rfl, rfl, rfl, rfl, X1.2.2.2.1, X1.2.2.2.2.1, X1.2.2.2.2.2.1, X1.2.2.2.2.2.2.1, X1.2.2.2.2.2.2.2⟩
    have Y1 : Y.1 29 = 0 ∧ Y.1 30 = -1 ∧ Y.1 33 = -1 ∧ Y.1 31 = nI 0 ∧ Y.1 32 = nI 0 ∧ Y.1 34 = nI 0 ∧ Y.1 35 = nI 0 ∧ Y.1 36 = nI 0 ∧ Y.1 37 = nI 0 ∧ Y.1 40 = b.1 40 ∧ Y.1 42 = b.1 42 ∧ Y.1 26 = 0 ∧ Y.1 27 = nI L := by rw [hY]; exact ⟨rfl, rfl, B1.2.2.1, B1.2.2.2.1, B1.2.2.2.2.1, B1.2.2.2.2.2.1, B1.2.2.2.2.2.2.1, B1.2.2.2.2.2.2.2.1, B1.2.2.2.2.2.2.2.2.1, B1.2.2.2.2.2.2.2.2.2.1, B1.2.2.2.2.2.2.2.2.2.2.1, B1.2.2.2.2.2.2.2.2.2.2.2, TB.1⟩
    have FbY : FrMF b Y := by rw [hY]; exact fmf_mkU (fmf_sI FB (by omega))
    obtain ⟨s1, s2, s3, s6, s7, s13, s10, s11, s12, s8, s9, s22, s23, s24⟩ := S1
    obtain ⟨y29, y30, y33, y31, y32, y34, y35, y36, y37, y40, y42, y26, y27⟩ := Y1
    obtain ⟨oc, hoc, eoc⟩ := Bb.1
    obtain ⟨ar, har, ear⟩ := Bb.2
    obtain ⟨wt, ewt⟩ := nI_surj (Y.1 41)
    have hn := t5.1.1
    have P0 : TP n K p V S Y S Y 0 := by
      have ec := mkW_eta S
      rw [s1, s2, s3, s6, s7, s13, show (-1 : Int32) = wn n p (n + 1) from (if_neg (by omega)).symm] at ec
      have em := mkV_eta Y
      rw [y29, y30, y33, y31, y32, y34, y40, eoc, ewt] at em
      have ec' : S = mkW S 0 (-1) (wn n p (n + 1)) (nI 0) (nI 0) (nI 0) (S.2.2.1 6) (S.2.2.1 7) (S.2.2.1 8) := by
        have e2 := ec.symm
        rw [show wn n p (n + 1) = (-1 : Int32) from if_neg (by omega)] at e2 ⊢
        exact e2
      have em' : Y = mkV Y 0 (-1) (ftk n (n + 1)) (nI 0) (nI 0) (nI 0) (nI oc) (nI wt) (Y.2.2.1 20) (Y.2.2.1 21) (Y.2.2.1 22) (Y.2.2.1 23) (Y.2.2.1 24) (Y.2.2.1 25) (Y.2.2.1 26) (Y.2.2.1 33) (Y.2.2.1 34) (Y.2.2.1 35) := by
        rw [show ftk n (n + 1) = (-1 : Int32) from if_neg (by omega)]
        exact em.symm
      exact ⟨S, Y, fun _ => 0, 0, 0, 0, n + 1, n + 1, 0, 0, oc, wt, ar, _, _, _, _, _, _, _, _, _, _, _, _, _, ec', em', tkc_keep t4 FS, t5, ⟨⟨s10, s11, s12⟩, ⟨rfl, by omega, by omega⟩, ⟨y35, by omega, fun k hk => absurd hk (by omega)⟩, ⟨y36, y37⟩, fun k hk => absurd hk (by omega), fun i k _ hk => absurd hk (by omega)⟩, ⟨by rw [s8]; exact Ba.1, by rw [s9]; exact Ba.2.1⟩, ⟨y42.trans ear, har, hoc⟩, frc_refl S, frm_refl Y, ⟨by omega, by omega, by omega⟩, ⟨Nat.le_refl _, fun t ht => absurd ht nh_empty, Or.inl rfl⟩, fun x t k => ⟨fun e => absurd e ce_empty, fun e => absurd e ne_empty⟩, fun k hk => absurd hk (by omega), fun k hk => absurd hk (by omega)⟩
    have eR : tGrammar_readWhole X = b1 (tGrammar_part S) (fun u3 => tGrammar_readWhole_L 2000 1 u3 (nI 1)) := by
      unfold tGrammar_readWhole tCursor_start tGlobals_start
      rw [b1S rfl, b1S rfl, hS, show nI 1 = (1 : Int32) from rfl]
    have eC' : tForge_forge a = b1 (b1 (tGrammar_part S) (fun u3 => tGrammar_readWhole_L 2000 1 u3 (nI 1))) (fun u6 => tForge_forge_L 2000 1 u6) := by
      rw [eC, b1S t1, b1S (none_1 X1.1), if_neg (by decide), eR]
    have eM' : tModel_forge b = b1 (tModel_read_L 1999 2 Y 1) (fun u1 => if (u1.1 29) = 0 then tModel_forge_L 2000 1 u1 1 else tModel_forge_L 2000 1 u1 0) := by
      rw [eM, b1S t2, y29, if_pos rfl, mrd_L1 1999]
    -- refused while reading or looking up
    have bad2 : ∀ (c m : St) (v y : Int32), tForge_forge a = tForge_forge_L 2000 1 c ∨ tForge_forge a = tForge_forge_L 1999 2 c → tModel_forge b = b1 (some m) (fun u1 => if (u1.1 29) = 0 then tModel_forge_L 2000 1 u1 1 else tModel_forge_L 2000 1 u1 0) → CBad S n v y c → MBad Y n 10 v y m → ∃ (c m : St), FrCF a c ∧ FrMF b m ∧ c.1 1 = m.1 29 ∧ c.1 2 = m.1 30 ∧ (c.1 22 = 0 ∧ c.1 23 = 0 ∧ c.1 24 = 0) ∧ (m.1 47 = 0 ∧ m.1 51 = 0 ∧ m.1 53 = 0) ∧ BdC c ∧ BdM m ∧ ((∃ k, tForge_forge a = some (0, k, c) ∧ tModel_forge b = some (k, m) ∧ c.1 25 = 1 ∧ m.1 43 = 1 ∧ m.1 26 = 0 ∧ PR2 c m) ∨ (tForge_forge a = some (3, 0, c) ∧ tModel_forge b = some (0, m) ∧ c.1 25 = 0 ∧ m.1 43 = 0 ∧ m.1 26 = 1)) := by
      intro c m v y e1 e2 hc hm
      obtain ⟨c1, c2, c3, c4, c5, c6, c7, c8, c9⟩ := hc
      obtain ⟨m1, m2, m3, m4, m5, m6, m7, m8⟩ := hm
      have hv : ¬ c.1 1 = 0 := by rw [c2]; exact c4
      refine bad c m v y c4 ?_ ?_ (fcf_frc FaS c1) (fmf_frm FbY m1) ⟨c2, c3⟩ ⟨m2, m3⟩ ⟨(c1.1 22 (by omega)).trans s22, (c1.1 23 (by omega)).trans s23, (c1.1 24 (by omega)).trans s24⟩ ⟨c6, c7, c9⟩ ⟨m7, m8⟩
      · rcases e1 with e1 | e1
        · rw [e1, ff_bad hv]
        · rw [e1, ff_two (N := 1998) hv]
      · rw [e2, b1S rfl, m2, if_neg m4, mfg_0]
    rcases read_all (n + 1) 2000 1999 1 0 S Y P0 (by omega) (by omega) (by omega) (by omega) with ⟨c', m', a', M', e1, e2, P', hk⟩ | ⟨r, y, ⟨c', e1, hc⟩, ⟨m', e2, hm⟩⟩
    · have hc0 : c'.1 1 = 0 := by
        obtain ⟨g, h, tg, q, na, nf, fC, fM, l, nd, oc, wt, ar, co, op, sz, so, wh, oe, tw, th, nx, tk, os, wa, wf, rfl, -⟩ := P'
        rfl
      rcases join_both (M0 := M') P' (by rw [y27, t3]) t6 with ⟨c2, m2, j1, j2, j3⟩ | ⟨y, ⟨c2, j1, j3⟩, ⟨m2, j2, j4⟩⟩
      · obtain ⟨⟨z1, z2⟩, ⟨z3, z4⟩, z5, z6, z7, ⟨k, z8, z9⟩, z10, z11⟩ := j3
        refine ⟨sI c2 25 1, sI (sI (sI (sI m2 43 1) 47 0) 51 0) 53 0, fcf_sI (fcf_frc FaS z5) (by omega), fmf_sI (fmf_sI (fmf_sI (fmf_sI (fmf_frm FbY z6) (by omega)) (by omega)) (by omega)) (by omega), z1.trans z3.symm, z2.trans z4.symm, ⟨(z5.1 22 (by omega)).trans s22, (z5.1 23 (by omega)).trans s23, (z5.1 24 (by omega)).trans s24⟩, ⟨rfl, rfl, rfl⟩, z10, z11, Or.inl ⟨nI k, ?_, ?_, rfl, rfl, ?_, ?_⟩⟩
        · rw [eC', e1, b1S rfl, ff_join hc0 j1, ff_two1 (N := 1998) z1, z8]
        · rw [eM', e2, j2, b1S rfl, z3, if_pos rfl, mfg_1, z9]
        · exact (z6.1 26 (by omega)).trans y26
        · obtain ⟨F, len, nn, i, s, q1, q2, q3, q4, q5, q6, q7, q8⟩ := z7
          exact ⟨F, len, nn, i, s, q1, q2, q3, q4, q5, q6, q7, q8⟩
      · exact bad2 c2 m2 4 y (Or.inr (by rw [eC', e1, b1S rfl, ff_join hc0 j1])) (by rw [eM', e2, j2]) j3 j4
    · exact bad2 c' m' r y (Or.inl (by rw [eC', e1, b1S rfl])) (by rw [eM', e2]) hc hm
