/-! The model makes arrays and functions. -/
section MH
variable {n : Nat} {K : Nat → Int32} {p : Nat → Nat} {V : Nat → Int64} {g h : St} {tg : Nat → Nat} {q na nf : Nat}
theorem mkG_L1 (N : Nat) (σ : St) (x1 x2 x3 x4 x5 : Int32) : tModel_makeGlobal_L (N + 1) 1 σ x1 x2 x3 x4 x5 = tModel_makeGlobal_b1 (tModel_makeGlobal_L N) σ x1 x2 x3 x4 x5 := rfl
theorem mkG_L2 (N : Nat) (σ : St) (x1 x2 x3 x4 x5 : Int32) : tModel_makeGlobal_L (N + 1) 2 σ x1 x2 x3 x4 x5 = tModel_makeGlobal_b2 (tModel_makeGlobal_L N) σ x1 x2 x3 x4 x5 := rfl
theorem mkG_L3 (N : Nat) (σ : St) (x1 x2 x3 x4 x5 : Int32) : tModel_makeGlobal_L (N + 1) 3 σ x1 x2 x3 x4 x5 = tModel_makeGlobal_b3 (tModel_makeGlobal_L N) σ x1 x2 x3 x4 x5 := rfl
theorem mkG_L4 (N : Nat) (σ : St) (x1 x2 x3 x4 x5 : Int32) : tModel_makeGlobal_L (N + 1) 4 σ x1 x2 x3 x4 x5 = tModel_makeGlobal_b4 (tModel_makeGlobal_L N) σ x1 x2 x3 x4 x5 := rfl
theorem mkG_L5 (N : Nat) (σ : St) (x1 x2 x3 x4 x5 : Int32) : tModel_makeGlobal_L (N + 1) 5 σ x1 x2 x3 x4 x5 = tModel_makeGlobal_b5 (tModel_makeGlobal_L N) σ x1 x2 x3 x4 x5 := rfl
theorem mkG_L6 (N : Nat) (σ : St) (x1 x2 x3 x4 x5 : Int32) : tModel_makeGlobal_L (N + 1) 6 σ x1 x2 x3 x4 x5 = tModel_makeGlobal_b6 (tModel_makeGlobal_L N) σ x1 x2 x3 x4 x5 := rfl
theorem mkG_L7 (N : Nat) (σ : St) (x1 x2 x3 x4 x5 : Int32) : tModel_makeGlobal_L (N + 1) 7 σ x1 x2 x3 x4 x5 = tModel_makeGlobal_b7 (tModel_makeGlobal_L N) σ x1 x2 x3 x4 x5 := rfl
theorem mkG_L8 (N : Nat) (σ : St) (x1 x2 x3 x4 x5 : Int32) : tModel_makeGlobal_L (N + 1) 8 σ x1 x2 x3 x4 x5 = tModel_makeGlobal_b8 (tModel_makeGlobal_L N) σ x1 x2 x3 x4 x5 := rfl
/-- the model's globals behind a making: good at q, bad at 59 -/
def hGl (h : St) (x t : Nat) (fn v : Int32) (q' nf' na' na : Nat) : St := sI (sI (sI (hRow h x t fn v (nI (16 * na))) 35 (nI q')) 36 (nI nf')) 37 (nI na')
theorem mkG_rows {N : Nat} {y u ft A O ND OC WT : Int32} {so wh oe tw th nx tk os wa wf : Nat → Int32} {t x : Nat} {fn v bad : Int32} (h35 : h.1 35 = nI q) (h37 : h.1 37 = nI na) (hx : x < 60) (hf : fn = 0 ∨ fn = 1) :
    tModel_makeGlobal_L (N + 1) 5 (mkV h y u ft A O ND OC WT so wh oe tw th nx tk os wa wf) (nI t) fn v bad (nI x) = (if bad = 0 then tModel_makeGlobal_L N 6 (mkV (hRow h x t fn v (nI (16 * na))) y u ft A O ND OC WT so wh oe tw th nx tk os wa wf) fn bad (nI x) 1 (nI q) else tModel_makeGlobal_L N 6 (mkV (hRow h x t fn v (nI (16 * na))) y u ft A O ND OC WT so wh oe tw th nx tk os wa wf) fn bad (nI x) 0 (nI q)) := by
  have e : vp_nar .boolean fn = fn := by rcases hf with e | e <;> rw [e] <;> rfl
  rw [mkG_L5]
  unfold tModel_makeGlobal_b5 hRow
  rw [gdT (inI hx (by omega)), gdT (inI hx (by omega)), gdT (inI hx (by omega)), gdT (inI hx (by omega)), e, tc_nI (by omega), mkV_i37, h37, mkV_i35, h35, mkV_r27, mkV_c27, mkV_r28, mkV_c28, mkV_r29, mkV_c29, mkV_r30, mkV_c30, show (16 : Int32) * nI na = nI (16 * na) from (Int32.ofNat_mul 16 na).symm]
theorem mkG_good {N : Nat} {y u ft A O ND OC WT : Int32} {so wh oe tw th nx tk os wa wf : Nat → Int32} {t : Nat} {fn v : Int32} (h35 : h.1 35 = nI q) (h36 : h.1 36 = nI nf) (h37 : h.1 37 = nI na) (hx : q < 60) (hf : fn = 0 ∨ fn = 1) :
    tModel_makeGlobal_L (N + 10) 2 (mkV h y u ft A O ND OC WT so wh oe tw th nx tk os wa wf) (nI t) fn v 0 0 = some (nI q, mkV (hGl h q t fn v (q + 1) (if fn = 0 then nf else nf + 1) (if fn = 0 then na + 1 else na) na) y u ft A O ND OC WT so wh oe tw th nx tk os wa wf) := by
  rw [mkG_L2]; unfold tModel_makeGlobal_b2
  rw [mkG_L3]; unfold tModel_makeGlobal_b3
  rw [if_pos rfl, mkG_L4]; unfold tModel_makeGlobal_b4
  rw [if_pos rfl, mkV_i35, h35, mkG_rows h35 h37 hx hf, if_pos rfl, mkG_L6]
  unfold tModel_makeGlobal_b6
  rw [mkV_b35, mkV_i36, show (hRow h q t fn v (nI (16 * na))).1 36 = h.1 36 from rfl, h36, show nI q + 1 = nI (q + 1) from nI_suc q]
  rcases hf with rfl | rfl
  · rw [if_pos rfl, mkG_L7]; unfold tModel_makeGlobal_b7
    rw [mkG_L8]; unfold tModel_makeGlobal_b8 hGl
    rw [if_pos rfl, if_pos rfl, if_pos rfl, if_pos rfl, Int32.add_zero, mkV_i37, show (sI (hRow h q t 0 v (nI (16 * na))) 35 (nI (q + 1))).1 37 = h.1 37 from rfl, h37, nI_suc, mkV_b36, mkV_b37]
  · rw [if_neg (by decide), if_pos rfl, mkG_L8]; unfold tModel_makeGlobal_b8 hGl
    rw [if_neg (by decide), if_neg (by decide), if_neg (by decide), mkV_i37, show (sI (hRow h q t 1 v (nI (16 * na))) 35 (nI (q + 1))).1 37 = h.1 37 from rfl, h37, nI_suc, Int32.add_zero, mkV_b36, mkV_b37]
theorem mkG_bad {N f : Nat} {y u A O ND OC WT : Int32} {so wh oe tw th nx tk os wa wf : Nat → Int32} {t : Nat} {fn v : Int32} (hn : n ≤ 220) (ht : t ≤ n) (h35 : h.1 35 = nI q) (h36 : h.1 36 = nI nf) (h37 : h.1 37 = nI na) (hf : fn = 0 ∨ fn = 1) :
    tModel_makeGlobal_L (N + 10) 1 (mkV h y u (ftk n f) A O ND OC WT so wh oe tw th nx tk os wa wf) (nI t) fn v 0 0 = some (nI 59, mkV (hGl h 59 t fn v q nf na na) y u (ftk n (min f t)) A O ND OC WT so wh oe tw th nx tk os wa wf) := by
  rw [mkG_L1]; unfold tModel_makeGlobal_b1
  rw [mkG_L3]; unfold tModel_makeGlobal_b3
  rw [if_neg (by decide), b1S (v_notName ht hn), mkG_L4]; unfold tModel_makeGlobal_b4
  rw [if_neg (by decide), show (59 : Int32) = nI 59 from rfl, mkG_rows h35 h37 (by omega) hf, if_neg (by decide), mkG_L6]
  unfold tModel_makeGlobal_b6
  rw [mkV_b35, mkV_i36, show (hRow h 59 t fn v (nI (16 * na))).1 36 = h.1 36 from rfl, h36, Int32.add_zero]
  have e7 : tModel_makeGlobal_L (N + 4) 7 (mkV (sI (hRow h 59 t fn v (nI (16 * na))) 35 (nI q)) y u (ftk n (min f t)) A O ND OC WT so wh oe tw th nx tk os wa wf) fn 1 (nI 59) (nI nf) 0 = some (nI 59, mkV (hGl h 59 t fn v q nf na na) y u (ftk n (min f t)) A O ND OC WT so wh oe tw th nx tk os wa wf) := by
    rw [mkG_L7]; unfold tModel_makeGlobal_b7
    rw [mkG_L8]; unfold tModel_makeGlobal_b8 hGl
    rw [mkV_i37, show (sI (hRow h 59 t fn v (nI (16 * na))) 35 (nI q)).1 37 = h.1 37 from rfl, h37, Int32.add_zero, Int32.add_zero, mkV_b36, mkV_b37]
    rcases hf with rfl | rfl
    · rw [if_pos rfl, if_neg (by decide), mkV_b37]
    · rw [if_neg (by decide), mkV_b37]
  rcases hf with rfl | rfl
  · rw [if_pos rfl]; exact e7
  · rw [if_neg (by decide), if_neg (by decide)]; exact e7
theorem v_makeGlobal {f : Nat} {y u A O ND OC WT : Int32} {so wh oe tw th nx tk os wa wf : Nat → Int32} {t : Nat} {fn v : Int32} (T : TkM h n K p V) (R : GR n K V g h tg q na nf) (ht : t < n) (hk : K t = 1) (hf : fn = 0 ∨ fn = 1) :
    (Free V tg q t (if fn = 0 then na = 4 else nf = 8) → tModel_makeGlobal (mkV h y u (ftk n f) A O ND OC WT so wh oe tw th nx tk os wa wf) (nI t) fn v = some (nI q, mkV (hGl h q t fn v (q + 1) (if fn = 0 then nf else nf + 1) (if fn = 0 then na + 1 else na) na) y u (ftk n f) A O ND OC WT so wh oe tw th nx tk os wa wf)) ∧
    (¬ Free V tg q t (if fn = 0 then na = 4 else nf = 8) → tModel_makeGlobal (mkV h y u (ftk n f) A O ND OC WT so wh oe tw th nx tk os wa wf) (nI t) fn v = some (nI 59, mkV (hGl h 59 t fn v q nf na na) y u (ftk n (min f t)) A O ND OC WT so wh oe tw th nx tk os wa wf)) := by
  obtain ⟨⟨r1, r2, r3⟩, ⟨r4, r5, r6⟩, r7, ⟨r8, r8'⟩, r9, r10⟩ := id R
  have hq := r7.2.1
  obtain ⟨r', e1, e2⟩ := glob_c (σ := mkV h y u (ftk n f) A O ND OC WT so wh oe tw th nx tk os wa wf) (tkm_keep samev T) r7 ht hk
  have eg := mkG_good (N := 1990) (y := y) (u := u) (ft := ftk n f) (A := A) (O := O) (ND := ND) (OC := OC) (WT := WT) (so := so) (wh := wh) (oe := oe) (tw := tw) (th := th) (nx := nx) (tk := tk) (os := os) (wa := wa) (wf := wf) (t := t) (v := v) r7.1 r8 r8' (by omega) hf
  have eb := mkG_bad (N := 1990) (f := f) (y := y) (u := u) (A := A) (O := O) (ND := ND) (OC := OC) (WT := WT) (so := so) (wh := wh) (oe := oe) (tw := tw) (th := th) (nx := nx) (tk := tk) (os := os) (wa := wa) (wf := wf) (t := t) (v := v) T.1.1 (Nat.le_of_lt ht) r7.1 r8 r8' hf
  unfold tModel_makeGlobal
  rw [b1S e1, mkV_i37, r8', mkV_i36, r8, show 2000 = 1990 + 10 from rfl, eg, eb]
  have hfull : (if fn = 0 then (if nI na = 4 then some (nI 59, mkV (hGl h 59 t fn v q nf na na) y u (ftk n (min f t)) A O ND OC WT so wh oe tw th nx tk os wa wf) else some (nI q, mkV (hGl h q t fn v (q + 1) (if fn = 0 then nf else nf + 1) (if fn = 0 then na + 1 else na) na) y u (ftk n f) A O ND OC WT so wh oe tw th nx tk os wa wf)) else (if nI nf = 8 then some (nI 59, mkV (hGl h 59 t fn v q nf na na) y u (ftk n (min f t)) A O ND OC WT so wh oe tw th nx tk os wa wf) else some (nI q, mkV (hGl h q t fn v (q + 1) (if fn = 0 then nf else nf + 1) (if fn = 0 then na + 1 else na) na) y u (ftk n f) A O ND OC WT so wh oe tw th nx tk os wa wf))) = (if (if fn = 0 then na = 4 else nf = 8) then some (nI 59, mkV (hGl h 59 t fn v q nf na na) y u (ftk n (min f t)) A O ND OC WT so wh oe tw th nx tk os wa wf) else some (nI q, mkV (hGl h q t fn v (q + 1) (if fn = 0 then nf else nf + 1) (if fn = 0 then na + 1 else na) na) y u (ftk n f) A O ND OC WT so wh oe tw th nx tk os wa wf)) := by
    have i4 : nI na = 4 ↔ na = 4 := ⟨fun e => nI_inj (b := 4) (by omega) (by omega) e, fun e => by rw [e]; rfl⟩
    have i8 : nI nf = 8 ↔ nf = 8 := ⟨fun e => nI_inj (b := 8) (by omega) (by omega) e, fun e => by rw [e]; rfl⟩
    rcases hf with rfl | rfl
    · simp only [if_true, i4]
    · simp only [show ¬ (1 : Int32) = 0 by decide, if_false, i8]
  rw [hfull]
  rcases e2 with ⟨a1, a2⟩ | ⟨i, a1, a2, a3, a4⟩
  · rw [a1, if_neg neg1_nle]
    by_cases hc : (if fn = 0 then na = 4 else nf = 8)
    · rw [if_pos hc]
      exact ⟨fun hfr => absurd hc hfr.1, fun _ => rfl⟩
    · rw [if_neg hc]
      exact ⟨fun _ => rfl, fun hfr => absurd ⟨hc, a2⟩ hfr⟩
  · rw [a2, if_pos (nI_le0 (by omega))]
    exact ⟨fun hfr => absurd a3 (hfr.2 i a1), fun _ => rfl⟩
end MH
