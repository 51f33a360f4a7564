/-! A run, on both sides: the whole. -/
def FrT (b m : St) : Prop := (∀ k, ((k < 46 ∧ k ≠ 26) ∨ 53 < k) → m.1 k = b.1 k) ∧ m.2.1 = b.2.1 ∧ (∀ k, (k ≠ 20 ∧ k ≠ 21 ∧ k ≠ 22 ∧ k ≠ 24 ∧ (k < 38 ∨ 43 < k)) → m.2.2.1 k = b.2.2.1 k) ∧ m.2.2.2 = b.2.2.2 ∧ (∀ nn N, b.1 34 = nI nn → nn < 500 → N < nn → m.2.2.1 20 N = b.2.2.1 20 N ∧ m.2.2.1 21 N = b.2.2.1 21 N ∧ m.2.2.1 22 N = b.2.2.1 22 N ∧ m.2.2.1 24 N = b.2.2.1 24 N)
/-- the model's state when a run begins: node nn calls the main function -/
def rS (σ : St) (nn : Nat) : St := sA (sA (sA (sA (sI (sI (sI (sI (sI (sI (sI (sI σ 46 0) 47 0) 51 0) 50 0) 52 0) 48 0) 49 0) 53 0) 20 (upd (σ.2.2.1 20) nn 5)) 21 (upd (σ.2.2.1 21) nn 0)) 22 (upd (σ.2.2.1 22) nn (-1))) 24 (upd (σ.2.2.1 24) nn (σ.1 44))
theorem rn_go {σ : St} {nn N : Nat} (h34 : σ.1 34 = nI nn) (hn : nn < 500) : tModel_run_L (N + 1) 1 σ (nI 960) = b1 (tModel_start (rS σ nn) (nI nn)) (fun u8 => tModel_run_L N 2 u8 0) := by
  rw [rn_L1]
  unfold tModel_run_b1 rS
  rw [if_pos (show (960 : Int32) ≤ nI 960 by decide), h34, gdT (inI hn (by omega)), gdT (inI hn (by omega)), gdT (inI hn (by omega)), gdT (inI hn (by omega)), tc_nI (by omega)]
theorem kc_mkC {g : St} {nx T B f p s o t res : Int32} {stk el re ba ou : Nat → Int32} : FrR g (mkC g nx T B f p s o t res stk el re ba ou) := by
  refine ⟨fun k hk => ?_, rfl, fun k hk => ?_, rfl⟩
  · show (if k = 16 then nx else if k = 17 then T else if k = 18 then B else if k = 19 then f else if k = 20 then p else if k = 21 then s else if k = 22 then o else if k = 23 then t else if k = 24 then res else g.1 k) = g.1 k
    rw [if_neg (by omega), if_neg (by omega), if_neg (by omega), if_neg (by omega), if_neg (by omega), if_neg (by omega), if_neg (by omega), if_neg (by omega), if_neg (by omega)]
  · show (if k = 10 then stk else if k = 11 then el else if k = 12 then re else if k = 13 then ba else if k = 14 then ou else g.2.2.1 k) = g.2.2.1 k
    rw [if_neg (by omega), if_neg (by omega), if_neg (by omega), if_neg (by omega), if_neg (by omega)]
theorem km_mkM {g : St} {tk o D V f t s : Int32} {ou ce bk bg sg vl : Nat → Int32} : FrS g (mkM g tk o D V f t s ou ce bk bg sg vl) := by
  refine ⟨fun k hk => ?_, rfl, fun k hk => ?_, rfl⟩
  · show (if k = 46 then tk else if k = 47 then o else if k = 48 then D else if k = 49 then V else if k = 50 then f else if k = 51 then t else if k = 52 then s else g.1 k) = g.1 k
    rw [if_neg (by omega), if_neg (by omega), if_neg (by omega), if_neg (by omega), if_neg (by omega), if_neg (by omega), if_neg (by omega)]
  · show (if k = 38 then ou else if k = 39 then ce else if k = 40 then bk else if k = 41 then bg else if k = 42 then sg else if k = 43 then vl else g.2.2.1 k) = g.2.2.1 k
    rw [if_neg (by omega), if_neg (by omega), if_neg (by omega), if_neg (by omega), if_neg (by omega), if_neg (by omega)]
theorem rS_int {σ : St} {nn k : Nat} (hk : k < 46 ∨ 53 < k) : (rS σ nn).1 k = σ.1 k := by
  show (if k = 53 then (0 : Int32) else if k = 49 then 0 else if k = 48 then 0 else if k = 52 then 0 else if k = 50 then 0 else if k = 51 then 0 else if k = 47 then 0 else if k = 46 then 0 else σ.1 k) = σ.1 k
  rw [if_neg (by omega), if_neg (by omega), if_neg (by omega), if_neg (by omega), if_neg (by omega), if_neg (by omega), if_neg (by omega), if_neg (by omega)]
theorem rS_row {σ : St} {nn k : Nat} (hk : k ≠ 20 ∧ k ≠ 21 ∧ k ≠ 22 ∧ k ≠ 24) : (rS σ nn).2.2.1 k = σ.2.2.1 k := by
  show (if k = 24 then (upd (σ.2.2.1 24) nn (σ.1 44)) else if k = 22 then (upd (σ.2.2.1 22) nn (-1)) else if k = 21 then (upd (σ.2.2.1 21) nn 0) else if k = 20 then (upd (σ.2.2.1 20) nn 5) else σ.2.2.1 k) = σ.2.2.1 k
  rw [if_neg (by omega), if_neg (by omega), if_neg (by omega), if_neg (by omega)]
/-- both run from the call of the main function on -/
theorem go_both {g h : St} {F : Nat → Nat → Nat → Prop} {len nn q i s : Nat} {stk el re ba ou om ce bk bg sg vl : Nat → Int32} (hS : Sta g h F len nn q) (hn : nn < 500) (e0 : h.2.2.1 20 nn = 5) (e1 : h.2.2.1 21 nn = nI 0) (e4 : h.2.2.1 24 nn = nI i) (e6 : F i s 0) (hel : ∀ j, j < 64 → el j = ce j) (hNb : bg 0 = nI nn) (hsb : sg 0 = nI 0) :
    ∃ (j k : Nat) (c' m' : St), MSteps j (mkM h (nI 0) (nI 0) (nI 1) (nI 0) (nI 0) (nI 0) 0 om ce bk bg sg vl) m' ∧ CSteps k (mkC g (nI 0) (nI 12) (nI 0) (nI 1) (nI s) 3 (nI 0) (nI 1) 0 stk el re ba ou) c' ∧ j ≤ 2100000 ∧ k ≤ 300000 ∧ ¬ c'.1 21 = 3 ∧ (∃ o, o ≤ 30 ∧ c'.1 22 = nI o ∧ m'.1 47 = nI o ∧ ∀ j, j < o → c'.2.2.1 14 j = m'.2.2.1 38 j) ∧ c'.1 23 = m'.1 51 ∧ ((m'.1 48 ≤ 0 ∧ m'.1 52 = 0 ∧ c'.1 21 = 0 ∧ c'.1 24 = m'.2.2.1 43 0) ∨ (m'.1 52 = c'.1 21 ∧ ¬ m'.1 52 = 0 ∧ c'.1 24 = 0)) := by
  obtain ⟨s1, s2, s3, s4, s5, s6, s7⟩ := id hS
  obtain ⟨f1, f2, f3, Bn, db, eb, zb, f4, f5, f6, f7, f8, f9, f10, f11⟩ := s7 i s 0 e6
  obtain ⟨y1, y2, y3, y4, y5⟩ := cs_le f5
  have em := g_enter (g := h) (n := 0) (tk := nI 0) (o := nI 0) (V := nI 0) (f := nI 0) (t := nI 0) (s := 0) (ou := om) (ce := ce) (bk := bk) (vl := vl) (by omega : 0 < 1600) hNb hn e0 hsb e1 (by omega)
  rw [e4] at em
  have em1 := m_enter (g := h) (tk := nI 0) (o := nI 0) (d := 0 + 1) (v := 0) (ou := om) (ce := ce) (bk := bk) (bg := bg) (sg := upd sg 0 (nI (0 + 1))) (vl := vl) (c := 0) (q := i) (z := 0) (t0 := 0) (by omega) f1 f3 f2 f4 (by omega) (by omega) (by omega)
  have em2 : tModel_goOn (mkM h (nI 0) (nI 0) (nI (0 + 1)) (nI 0) (nI 0) (nI 0) 0 om ce bk bg sg vl) = some (mkM h (nI 0) (nI 0) (nI (0 + 1 + 1)) (nI 0) (nI (0 + 1)) (nI (0 + 1)) 0 om ce (fun i => if 12 * 0 ≤ i ∧ i < 12 * 0 + 0 then vl (0 + (i - 12 * 0)) else bk i) (upd bg (0 + 1) (nI Bn)) (upd (upd sg 0 (nI (0 + 1))) (0 + 1) 0) vl) := em.trans em1
  obtain ⟨j, k, c', m', hm', hc', hout⟩ := es_every hS 399 db Bn s eb 0 0 zb f5 (mkC g (nI 0) (nI 12) (nI 0) (nI 1) (nI s) 3 (nI 0) (nI 1) 0 stk el re ba ou) (mkM h (nI 0) (nI 0) (nI (0 + 1 + 1)) (nI 0) (nI (0 + 1)) (nI (0 + 1)) 0 om ce (fun i => if 12 * 0 ≤ i ∧ i < 12 * 0 + 0 then vl (0 + (i - 12 * 0)) else bk i) (upd bg (0 + 1) (nI Bn)) (upd (upd sg 0 (nI (0 + 1))) (0 + 1) 0) vl) 0 1 1 1 0 0 0
    ⟨by omega, by omega, by omega, by omega, by omega, by omega, by omega, by omega⟩
    ⟨by omega, ⟨nn, hn, by show upd bg (0 + 1) (nI Bn) 0 = nI nn; rw [upd_n (by omega), hNb], e0⟩, fun i hi hi2 => absurd hi2 (by omega)⟩
    ⟨0, stk, el, re, ba, ou, om, ce, _, _, _, vl, by rw [show min 0 q = 0 by omega], rfl, by omega, fun j hj => absurd hj (by omega), hel, fun k hk => absurd hk (by omega)⟩
    (by show upd bg (0 + 1) (nI Bn) 1 = nI Bn; exact upd_e)
    (by show upd (upd sg 0 (nI (0 + 1))) (0 + 1) 0 1 = 0; exact upd_e)
  have first := MSteps.one em2 (by omega)
  rcases hout with ⟨t', tk', hR, hF, ht1, ht2, htk, hz, hy⟩ | ⟨t', tk', hRet, ht1, ht2, htk, hz, hy⟩ | ⟨hE, hz, hy⟩
  · obtain ⟨F1, F2, F3, F4, F5⟩ := hF
    obtain ⟨o', stk', el', re', ba', ou', om', ce', bk', bg', sg', vl', rfl, rfl, ho', hou', hel', hva'⟩ := hR
    have gN : bg' 0 = nI nn := by
      refine Eq.trans (F3 0 (by omega)).1 ?_
      show upd bg (0 + 1) (nI Bn) 0 = nI nn
      rw [upd_n (by omega), hNb]
    have gS : sg' 0 = nI (0 + 1) := by
      refine Eq.trans (F3 0 (by omega)).2 ?_
      show upd (upd sg 0 (nI (0 + 1))) (0 + 1) 0 0 = nI (0 + 1)
      rw [upd_n (by omega), upd_e]
    have en2 := g_leave (g := h) (n := 0) (tk := nI tk') (o := nI o') (V := nI 0) (f := nI 1) (t := nI t') (s := 0) (ou := om') (ce := ce') (bk := bk') (vl := vl') (by omega : 0 < 1600) gN hn e0 gS e1 (by omega)
    have en3 := m_leave (g := h) (tk := nI tk') (o := nI o') (d := 0) (v := 0) (t := nI t') (s := 0) (ou := om') (ce := ce') (bk := bk') (bg := bg') (sg := upd sg' 0 (nI (0 + 2))) (vl := vl') (c := 0) 0 (by omega)
    have en4 := en2.trans en3
    have ec2 := i_num (nx := nI (min tk' q)) (B := nI 0) (f := nI 1) (s := 3) (o := nI o') (t := nI t') (res := 0) (stk := stk') (el := el') (re := re') (ba := ba') (ou := ou') s1 s2 (show eb < len by omega) f9 (show 12 < 576 by omega)
    have ec3 := i_ret1 (nx := nI (min tk' q)) (B := nI 0) (k := 12) (s := 3) (o := nI o') (t := nI t') (res := 0) (stk := upd stk' 12 (g.2.2.1 7 eb)) (el := el') (re := re') (ba := ba') (ou := ou') s1 s2 (show eb + 1 < len by omega) f11 (by omega)
    rw [upd_e, f10] at ec3
    rw [f10] at ec2
    refine ⟨1 + j + 1, k + (1 + 1), _, _, (first.trans hm').trans (MSteps.one en4 (by omega)), hc'.trans ((CSteps.mk ec2).trans (CSteps.mk ec3)), by omega, by omega, (show ¬ (0 : Int32) = 3 by decide), ⟨o', ho', rfl, rfl, hou'⟩, rfl, Or.inl ⟨(show nI 0 ≤ 0 by decide), rfl, rfl, ?_⟩⟩
    show (0 : Int32) = upd vl' 0 0 0
    rw [upd_e]
  · obtain ⟨o', r, ho', hFr, hr, hou', ⟨om', ce', bk', bg', sg', vl', rfl⟩, hcl⟩ := hRet
    rcases hcl with ⟨hf2, -⟩ | ⟨-, q1, q2, q3, q4⟩
    · omega
    · exact ⟨1 + j, k, _, _, first.trans hm', hc', by omega, by omega, by rw [q1]; decide, ⟨o', ho', q3, rfl, hou'⟩, q4, Or.inl ⟨(show nI 0 ≤ 0 by decide), rfl, q1, q2.trans hr.symm⟩⟩
  · obtain ⟨n1, n2, ⟨o', n3, n4, n5, n6⟩, ⟨t', n7, n8, n9⟩, n10⟩ := hE
    refine ⟨1 + j, k, _, _, first.trans hm', hc', by omega, by omega, ?_, ⟨o', n3, n4, n5, n6⟩, n8.trans n9.symm, Or.inr ⟨n2, ?_, n10⟩⟩
    · rcases n1 with e | e <;> rw [e] <;> decide
    · rw [n2]; rcases n1 with e | e <;> rw [e] <;> decide
theorem run_both {a b : St} {q : Nat} (hP : PR2 a b) (hq : a.1 15 = nI q ∧ b.1 45 = nI q ∧ q ≤ 20 ∧ ∀ j, j < q → a.2.2.1 9 j = b.2.2.1 37 j) :
    ∃ (r : Int32) (c m : St), tMachine_work a = some (r, c) ∧ tModel_run_L 3000000 1 (sI b 26 0) 0 = some (r, m) ∧ FrR a c ∧ FrT b m ∧ (∃ o, o ≤ 30 ∧ c.1 22 = nI o ∧ m.1 47 = nI o ∧ ∀ j, j < o → c.2.2.1 14 j = m.2.2.1 38 j) ∧ c.1 23 = m.1 51 ∧ c.1 24 = m.1 53 ∧ m.1 26 = 0 := by
  obtain ⟨F, len, nn, i, s, p1, p2, p3, p4, p5, p6, p7, p8⟩ := hP
  obtain ⟨A, hA⟩ : ∃ A, A = sI (sI (sI (sI (sI (sI (sI a 22 0) 23 0) 24 0) 17 0) 18 0) 19 0) 16 0 := ⟨_, rfl⟩
  have FA : FrR a A := by rw [hA]; exact kci (kci (kci (kci (kci (kci (kci (kcr a) (by omega)) (by omega)) (by omega)) (by omega)) (by omega)) (by omega)) (by omega)
  have A1 : A.1 16 = nI 0 ∧ A.1 17 = nI 0 ∧ A.1 18 = nI 0 ∧ A.1 19 = nI 0 ∧ A.1 22 = nI 0 ∧ A.1 23 = nI 0 ∧ A.1 24 = 0 ∧ A.1 13 = nI len ∧ A.1 14 = nI s ∧ A.1 15 = nI q ∧ A.2.2.1 = a.2.2.1 := by rw [hA]; exact ⟨rfl, rfl, rfl, rfl, rfl, rfl, rfl, p1, p6, hq.1, rfl⟩
  obtain ⟨a16, a17, a18, a19, a22, a23, a24, a13, a14, a15, arow⟩ := A1
  -- the class begins
  have eC0 : tMachine_work a = tMachine_work_L (2999936 + 64) 1 A (nI 0) := by
    unfold tMachine_work tMachine_forget
    rw [b1S rfl, hA]
    rfl
  have ec := mkC_eta A
  rw [a16, a17, a18, a19, a22, a23, a24] at ec
  obtain ⟨el, x1, x2⟩ := clr_c (g := A) (nx := nI 0) (T := nI 0) (B := nI 0) (f := nI 0) (p := A.1 20) (s := A.1 21) (o := nI 0) (t := nI 0) (res := 0) (stk := A.2.2.1 10) (re := A.2.2.1 12) (ba := A.2.2.1 13) (ou := A.2.2.1 14) 64 0 2999936 (A.2.2.1 11) (by omega) (fun j hj => absurd hj (by omega))
  rw [ec] at x1
  have hcall : tMachine_call (mkC A (nI 0) (nI 0) (nI 0) (nI 0) (A.1 20) 3 (nI 0) (nI 0) 0 (A.2.2.1 10) el (A.2.2.1 12) (A.2.2.1 13) (A.2.2.1 14)) (nI s) 0 = some (mkC A (nI 0) (nI 12) (nI 0) (nI 1) (nI s) 3 (nI 0) (nI 1) 0 (A.2.2.1 10) el (upd (A.2.2.1 12) 0 (A.1 20)) (upd (A.2.2.1 13) 0 (nI 0)) (A.2.2.1 14)) := c_call (g := A) (nx := nI 0) (k := 0) (B := nI 0) (p := A.1 20) (s := 3) (o := nI 0) (res := 0) (stk := A.2.2.1 10) (el := el) (re := A.2.2.1 12) (ba := A.2.2.1 13) (ou := A.2.2.1 14) (m := 0) (z := 0) (t0 := 0) (a := nI s) (by omega) (by omega) (by omega)
  have eC : tMachine_work a = tMachine_work_L 2999935 2 (mkC A (nI 0) (nI 12) (nI 0) (nI 1) (nI s) 3 (nI 0) (nI 1) 0 (A.2.2.1 10) el (upd (A.2.2.1 12) 0 (A.1 20)) (upd (A.2.2.1 13) 0 (nI 0)) (A.2.2.1 14)) (nI 0) := by
    rw [eC0, x1, wk_L1 2999935]
    unfold tMachine_work_b1
    rw [if_pos (show (64 : Int32) ≤ nI 64 by decide), mkC_s21, mkC_i14, a14, b1S hcall]
    rfl
  -- the model begins
  have em0 := mkM_eta (sI b 26 0)
  obtain ⟨ce, z1, z2⟩ := clr_m (g := sI b 26 0) (tk := (sI b 26 0).1 46) (o := (sI b 26 0).1 47) (D := (sI b 26 0).1 48) (V := (sI b 26 0).1 49) (f := (sI b 26 0).1 50) (t := (sI b 26 0).1 51) (s := (sI b 26 0).1 52) (ou := (sI b 26 0).2.2.1 38) (bk := (sI b 26 0).2.2.1 40) (bg := (sI b 26 0).2.2.1 41) (sg := (sI b 26 0).2.2.1 42) (vl := (sI b 26 0).2.2.1 43) 960 0 2999040 ((sI b 26 0).2.2.1 39) (by omega) (fun j hj => absurd hj (by omega))
  rw [em0] at z1
  obtain ⟨M, hM⟩ : ∃ M, M = mkM (sI b 26 0) ((sI b 26 0).1 46) ((sI b 26 0).1 47) ((sI b 26 0).1 48) ((sI b 26 0).1 49) ((sI b 26 0).1 50) ((sI b 26 0).1 51) ((sI b 26 0).1 52) ((sI b 26 0).2.2.1 38) ce ((sI b 26 0).2.2.1 40) ((sI b 26 0).2.2.1 41) ((sI b 26 0).2.2.1 42) ((sI b 26 0).2.2.1 43) := ⟨_, rfl⟩
  rw [← hM] at z1
  have FM : FrS (sI b 26 0) M := by rw [hM]; exact km_mkM
  have M1 : M.1 34 = nI nn ∧ M.1 44 = nI i ∧ M.2.2.1 39 = ce := by rw [hM]; exact ⟨p3, p5, rfl⟩
  obtain ⟨h, hh⟩ : ∃ h, h = rS M nn := ⟨_, rfl⟩
  have H1 : h.1 46 = nI 0 ∧ h.1 47 = nI 0 ∧ h.1 48 = nI 0 ∧ h.1 49 = nI 0 ∧ h.1 50 = nI 0 ∧ h.1 51 = nI 0 ∧ h.1 52 = 0 ∧ h.2.2.1 20 = upd (M.2.2.1 20) nn 5 ∧ h.2.2.1 21 = upd (M.2.2.1 21) nn 0 ∧ h.2.2.1 22 = upd (M.2.2.1 22) nn (-1) ∧ h.2.2.1 24 = upd (M.2.2.1 24) nn (M.1 44) ∧ h.2.1 = b.2.1 ∧ h.2.2.2 = b.2.2.2 := by rw [hh, hM]; exact ⟨rfl, rfl, rfl, rfl, rfl, rfl, rfl, rfl, rfl, rfl, rfl, rfl, rfl⟩
  obtain ⟨h46, h47, h48, h49, h50, h51, h52, h20, h21, h22, h24, hl, hll⟩ := H1
  have hint : ∀ k, ((k < 46 ∧ k ≠ 26) ∨ 53 < k) → h.1 k = b.1 k := fun k hk => by
    rw [hh, rS_int (by omega), FM.1 k (by omega)]
    show (if k = 26 then (0 : Int32) else b.1 k) = b.1 k
    rw [if_neg (by omega)]
  have hrow : ∀ k, (k ≠ 20 ∧ k ≠ 21 ∧ k ≠ 22 ∧ k ≠ 24 ∧ (k < 38 ∨ 43 < k)) → h.2.2.1 k = b.2.2.1 k := fun k hk => by
    rw [hh, rS_row (by omega)]
    exact FM.2.2.1 k hk.2.2.2.2
  have mrow : ∀ k, (k < 38 ∨ 43 < k) → M.2.2.1 k = b.2.2.1 k := fun k hk => FM.2.2.1 k hk
  have emh := mkM_eta h
  rw [h46, h47, h48, h49, h50, h51, h52] at emh
  have hst : tModel_start h (nI nn) = some (mkM h (nI 0) (nI 0) (nI (0 + 1)) (nI 0) (nI 0) (nI 0) 0 (h.2.2.1 38) (h.2.2.1 39) (h.2.2.1 40) (upd (h.2.2.1 41) 0 (nI nn)) (upd (h.2.2.1 42) 0 0) (h.2.2.1 43)) := by
    have e := m_start (g := h) (tk := nI 0) (o := nI 0) (d := 0) (V := nI 0) (f := nI 0) (t := nI 0) (s := 0) (ou := h.2.2.1 38) (ce := h.2.2.1 39) (bk := h.2.2.1 40) (bg := h.2.2.1 41) (sg := h.2.2.1 42) (vl := h.2.2.1 43) (nI nn) (by omega)
    rw [emh] at e
    exact e
  have eM : tModel_run_L 3000000 1 (sI b 26 0) 0 = tModel_run_L 2999039 2 (mkM h (nI 0) (nI 0) (nI 1) (nI 0) (nI 0) (nI 0) 0 (h.2.2.1 38) (h.2.2.1 39) (h.2.2.1 40) (upd (h.2.2.1 41) 0 (nI nn)) (upd (h.2.2.1 42) 0 0) (h.2.2.1 43)) 0 := by
    have e1 : tModel_run_L 3000000 1 (sI b 26 0) 0 = tModel_run_L (2999040 + 960) 1 (sI b 26 0) (nI 0) := rfl
    rw [e1, z1, rn_go (N := 2999039) M1.1 (by omega), ← hh, b1S hst]
  have hsame : SameH b.2.2.1 h.2.2.1 nn := by
    refine ⟨fun N hN => ⟨?_, ?_, ?_, ?_, ?_, ?_⟩, hrow 29 (by omega), hrow 30 (by omega)⟩
    · rw [h20, upd_n (by omega), mrow 20 (by omega)]
    · rw [h21, upd_n (by omega), mrow 21 (by omega)]
    · rw [h22, upd_n (by omega), mrow 22 (by omega)]
    · rw [hrow 23 (by omega)]
    · rw [h24, upd_n (by omega), mrow 24 (by omega)]
    · rw [hrow 25 (by omega)]
  have hS : Sta A h F len nn q := by
    refine ⟨a13, p2, a15, (hint 45 (by omega)).trans hq.2.1, hq.2.2.1, fun j hj => ?_, fun i s n hF => ?_⟩
    · rw [arow, hrow 37 (by omega)]; exact hq.2.2.2 j hj
    · obtain ⟨w1, w2, w3, B, d, e, z, w4, w5, w6, w7, w8, w9, w10, w11⟩ := p8 i s n hF
      refine ⟨w1, w2, by rw [hrow 29 (by omega)]; exact w3, B, d, e, z, by rw [hrow 30 (by omega)]; exact w4, ?_, w6, w7, w8, by rw [arow]; exact w9, by rw [arow]; exact w10, by rw [arow]; exact w11⟩
      rw [arow]
      exact cs_congr (fun _ _ => ⟨rfl, rfl, rfl⟩) hsame _ _ _ _ _ _ _ w5
  have h39 : h.2.2.1 39 = ce := by rw [hh, rS_row (by omega)]; exact M1.2.2
  obtain ⟨j, k, c', m', g1, g2, g3, g4, g5, g6, g7, g8⟩ := go_both (g := A) (h := h) (stk := A.2.2.1 10) (el := el) (re := upd (A.2.2.1 12) 0 (A.1 20)) (ba := upd (A.2.2.1 13) 0 (nI 0)) (ou := A.2.2.1 14) (om := h.2.2.1 38) (ce := h.2.2.1 39) (bk := h.2.2.1 40) (bg := upd (h.2.2.1 41) 0 (nI nn)) (sg := upd (h.2.2.1 42) 0 0) (vl := h.2.2.1 43) hS (by omega) (by rw [h20, upd_e]) (by rw [h21, upd_e]; rfl) (by rw [h24, upd_e]; exact M1.2.1) p7 (fun j hj => by rw [h39, x2 j hj, z2 j (by omega)]) upd_e upd_e
  have fC : FrR a c' := kct (kct FA kc_mkC) (csteps_fr g2)
  have fM := km_t (km_mkM (g := h)) (msteps_fr g1)
  have eC2 : tMachine_work a = some (c'.1 21, c') := by
    obtain ⟨N2, hN2⟩ : ∃ N2, 2999935 = (N2 + 2) + k := ⟨2999935 - k - 2, by omega⟩
    rw [eC, hN2, wk_steps (N2 + 2) 0 g2 (by omega), wk_end g5]
  obtain ⟨N3, hN3⟩ : ∃ N3, 2999039 = (N3 + 2) + j := ⟨2999039 - j - 2, by omega⟩
  have eM2 : tModel_run_L 3000000 1 (sI b 26 0) 0 = tModel_run_L (N3 + 2) 2 m' 0 := by
    rw [eM, hN3, rn_steps (N3 + 2) g1]
  have frt : ∀ x, FrT b (sI m' 53 x) := fun x => by
    refine ⟨fun k hk => ?_, fM.2.1.trans hl, fun k hk => ?_, fM.2.2.2.trans hll, fun n2 N e34 hn2 hN => ?_⟩
    · show (if k = 53 then x else m'.1 k) = b.1 k
      rw [if_neg (by omega), fM.1 k (by omega)]; exact hint k hk
    · show m'.2.2.1 k = b.2.2.1 k
      rw [fM.2.2.1 k (by omega)]; exact hrow k hk
    · obtain rfl : n2 = nn := nI_inj (by omega) (by omega) (e34.symm.trans p3)
      obtain ⟨w1, w2, w3, w4, w5, w6⟩ := hsame.1 N hN
      show m'.2.2.1 20 N = b.2.2.1 20 N ∧ m'.2.2.1 21 N = b.2.2.1 21 N ∧ m'.2.2.1 22 N = b.2.2.1 22 N ∧ m'.2.2.1 24 N = b.2.2.1 24 N
      rw [fM.2.2.1 20 (by omega), fM.2.2.1 21 (by omega), fM.2.2.1 22 (by omega), fM.2.2.1 24 (by omega)]
      exact ⟨w1, w2, w3, w5⟩
  have m26 : m'.1 26 = 0 := by
    rw [fM.1 26 (by omega), hh, rS_int (by omega), FM.1 26 (by omega)]; rfl
  rcases g8 with ⟨y1, y2, y3, y4⟩ | ⟨y1, y2, y3⟩
  · exact ⟨0, c', sI m' 53 (m'.2.2.1 43 0), by rw [eC2, y3], by rw [eM2, rn_end0 y1 y2], fC, frt _, g6, g7, y4, m26⟩
  · exact ⟨c'.1 21, c', sI m' 53 0, eC2, by rw [eM2, rn_end1 y2, y1], fC, frt _, g6, g7, y3, m26⟩
