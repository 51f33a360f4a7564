/-! The law's own calls, and what holds at its start. -/
section TL
variable {p : Program} {l : Launch} {e : Env} {R : Room} {s : State} {m : MethodId} {args : Array Value} {below : List Frame} {meth : Method} {c : Code} {H : Heap} {locs : List Loc} {cells slots : Nat} {Q : State → Prop}
variable {cc ccy : ByteArray} {maxL maxLy idx n pc : Nat} {ret rety : Option FieldType} {own C : String} {D : va_G} {tys : List (ClassId × FieldType)} {ad : Nat → Nat} {A : Nat → Prop} {cw : St → va_W} {σ σ' : St} {y : MethodName} {rm : Room} {As rest st : List Value} {ls : Array Slot} {b : Nat}
theorem callVI2 {r : Int32} {T9 : u_T} {N9 : Nat} {fs : List Value} {ci : Nat} (X : Cx p s m args meth c cc maxL ret own D tys ad A) (hM : MI l y ccy maxLy rety rm D tys ad cw (.ref b :: As) σ H.size r σ') (lk : LkV own idx C y ccy maxLy rety n) (hR : RmOk rm R maxLy) (hcs : cells ≤ R.cells ∧ slots ≤ R.slots)
    (q0 : Nat) (he : (cw σ)[q0]? = some (b, .inr (ci, fs))) (hc : vwCl[ci]? = some (C, T9, N9)) (hP : va_P D vwCl (cw σ) H) (hD : va_D A (cw σ)) (hS : va_S A s.heap H locs) (hsz : ls.size = maxL) (hst : st = As.reverse ++ .ref b :: rest) (hn : As.length = n) (hW : (rest.map fun v => v.category).sum ≤ 8) (d : decode cc pc = .ok (.invokevirtual idx, 3))
    (kk : ∀ (H1 : Heap) (locs1 : List Loc), va_P D vwCl (cw σ') H1 → va_D A (cw σ') → va_S A s.heap H1 locs1 → W p l e R s m args below meth c H1 locs1 cells slots Q (F0 m (pc + 3) ls (.int r :: rest))) : W p l e R s m args below meth c H locs cells slots Q (F0 m pc ls st) := by
  have hFc := wfree X hD hS
  obtain ⟨hx, hb, hr, hml, hown, hlocks, hts, hA, hK, hZ⟩ := id X
  refine va_calli (va_runV (As := As) (rest := rest) (C := C) ⟨hx, hb, hml, hown, hts⟩ hM ⟨lkB_of hts lk.1 hR, hts _ lk.2.1, hts _ lk.2.2⟩ ⟨wPc_blind, va_recv hK hP hc he, fun U hU hW => wPc_now X hP hD hS U hU hW⟩ rfl hn hsz hst (lv_room hW) d ⟨hcs.1, hcs.2⟩) hS (fun q _ h => hFc q h) hFc (fun r u t H1 locs1 ht hvm hw hB hz1 hk1 hS1 => ?_)
  obtain ⟨rfl, rfl⟩ := hw
  obtain ⟨hP1, hK1, hD1⟩ := hB
  rw [ht] at hP1
  exact kk H1 locs1 hP1 (hD1.weaken (fun k q _ h => hFc q.1 h)) hS1
def LkH (own : String) (idx : Nat) (y : MethodName) (cc : ByteArray) (maxL : Nat) (ret : Option FieldType) (hh : List (Nat × Nat × Nat × Nat)) (n : Nat) : Prop :=
  Cond.methodLink own idx y ∈ BIG ∧ Cond.initialized y.cls ∈ BIG ∧ Cond.codeWith y cc maxL ret hh ∈ BIG ∧ Cond.static y ∈ BIG ∧ y.cls ≠ "java/lang/invoke/MethodHandle" ∧ y.cls ≠ "java/lang/invoke/VarHandle" ∧ (parseMethodDescriptor y.desc).map (fun d => d.parameters.length) = some n
theorem th_S.same {u U : State} (hv : u.vm = U.vm) (h : th_S A u H) : th_S A U H := by
  have hal : u.vm.Alike U.vm := by rw [hv]; exact Vm.Alike.refl _
  exact ⟨h.1.moved hal, h.2.1.moved hal, fun w hw => va_Nw.same (u := u) (U := U) (th_nw_on w hw) hv (h.2.2 w hw)⟩
theorem hPc_blind {av : List Value} {sz : Nat} : FrameBlind (hPc D tys ad cw av σ sz) := by
  intro a U g mk q
  obtain ⟨⟨q1, q2⟩, q3⟩ := q
  exact ⟨⟨wPc_blind a U g mk q1, th_S.same (u := U) (U := U.calling g mk a) rfl q2⟩, va_Nc.moved (u := U) (U := U.calling g mk a) (Vm.Alike.refl U.vm) q3⟩
/-- a call of a helper with handlers -/
theorem callSH {hh : List (Nat × Nat × Nat × Nat)} {r : Int32} (X : Cx p s m args meth c cc maxL ret own D tys ad A) (hTh : th_S A s s.heap) (hNc : va_Nc (exn 2) (exn 1) s) (hM : MH l y ccy maxLy rety hh rm D tys ad cw As σ H.size r σ') (lk : LkH own idx y ccy maxLy rety hh n)
    (hR : rm.cells = 1 ∧ rm.slots = 6 ∧ rm.frames + 1 ≤ R.frames ∧ 8 + (maxLy + 11) + rm.locals ≤ R.locals) (hcs : cells + 1 ≤ R.cells ∧ slots + 6 ≤ R.slots)
    (hP : va_P D vwCl (cw σ) H) (hD : va_D A (cw σ)) (hS : va_S A s.heap H locs) (hsz : ls.size = maxL) (hst : st = As.reverse ++ rest) (hn : As.length = n) (hW : (rest.map fun v => v.category).sum ≤ 8) (d : decode cc pc = .ok (.invokestatic idx, 3))
    (kk : ∀ (H1 : Heap) (locs1 : List Loc), va_P D vwCl (cw σ') H1 → va_D A (cw σ') → va_S A s.heap H1 locs1 → W p l e R s m args below meth c H1 locs1 (cells + 1) (slots + 6) Q (F0 m (pc + 3) ls (.int r :: rest))) : W p l e R s m args below meth c H locs cells slots Q (F0 m pc ls st) := by
  have hFc := wfree X hD hS
  obtain ⟨hx, hb, hr, hml, hown, hlocks, hts, hA, hK, hZ⟩ := id X
  obtain ⟨lk1, lk2, lk3, lk4, lk5, lk6, lk7⟩ := lk
  obtain ⟨hR1, hR2, hR3, hR4⟩ := hR
  have hws : ∀ w ∈ Cond.codeWith y ccy maxLy rety hh :: BIG, ∀ (a' : Array Value) (U : State), s.WarmedH U.vm → w.before a' U = true := by
    intro w hw a' U hWm
    have hm : w ∈ BIG := by
      rcases List.mem_cons.mp hw with e | e
      · rw [e]; exact lk3
      · exact e
    exact word_at hWm (good_of_word (big_good w hm)) (hts w hm)
  have hB : Back l R p e below s args y 3 8 (PreOf R 1 6 (hPc D tys ad cw As σ H.size)) (PostOf (QI D tys cw (va_A (cw σ) H.size) r σ') 1 6 (va_A (cw σ) H.size)) :=
    va_backW (hh := hh) (bytes := ccy) (maxL := maxLy) (ret := rety) hM hPc_blind hR1 hR2 hR3 hR4 hws List.mem_cons_self (fun a' U hWm => word_at hWm (good_of_word (big_good _ lk2)) (hts _ lk2))
  have hrun : va_Run p l e R s m args below meth c H locs cells slots 1 6 (F0 m pc ls st) rest (QI D tys cw (va_A (cw σ) H.size) r σ' As.toArray) (va_A (cw σ) H.size) := by
    intro T hT Y
    obtain ⟨mk, methM, cM, hnamed, hmethM, -, -, -, -, -, -, hsigM⟩ := Cond.codeWith_spec (hts _ lk3)
    have hstatic : methM.isStatic = true := Cond.static_spec hnamed hmethM (hts _ lk4)
    obtain ⟨kP, hkP, -⟩ := className_of_methodNamed hnamed
    have hinitP : kP.init = .initialized := Cond.initialized_spec (findClass_of_methodNamed hnamed) hkP (hts _ lk2)
    have hlen : As.length = methM.sig.parameters.length := by
      rw [hsigM] at lk7
      exact hn.trans (Option.some.inj lk7).symm
    obtain ⟨vm₁, X₁, hstep₁⟩ := Y.invokestatic hx hown (hts _ lk1) hnamed hmethM hstatic hkP hinitP ⟨lk5, lk6⟩ (g := F0 m pc ls st) rfl (argsL := As) (rest := rest) hlen hst (by rw [hb]; exact d)
    have hpre : hPc D tys ad cw As σ H.size As.toArray (T.setVm vm₁) := by
      refine ⟨⟨wPc_now X hP hD hS (T.setVm vm₁) hT X₁.warmed, ?_⟩, hNc.moved X₁.warmed.alike⟩
      rw [show (T.setVm vm₁).heap = H from hT]
      exact ⟨(hTh.1.now hS.2.1 hFc).moved X₁.warmed.alike, (hTh.2.1.now hS.2.1 hFc).moved X₁.warmed.alike, fun w hw => th_nw_warm X₁.warmed hTh.2.2 w hw⟩
    obtain ⟨v, ⟨U', l2, c2, s2⟩, X', ⟨g', mk2, t, L, e1, e2, hq, h1, hL, h2, h3⟩, hsteps⟩ := hB m meth c ⟨T.setVm vm₁, locs, cells, slots⟩ { F0 m pc ls st with stack := rest } (.invokestatic idx) mk As.toArray X₁ rfl (hsz.trans hml.symm) (by rw [hb]; exact d) (lv_room hW) (X₁.named hnamed) ⟨hcs.1, hcs.2, hpre⟩
    dsimp only [Pt.U, Pt.locs, Pt.cells, Pt.slots] at X' e1 e2 h1 h2 h3 hsteps
    subst h1; subst h2; subst h3
    exact ⟨v, (T.setVm vm₁).calling g' mk2 As.toArray, t, U', L, hT, X', hL, e1, e2, hq, fun target h => hstep₁ _ fun acts => by rw [doInvoke_state]; exact hsteps.trans h⟩
  refine va_calli hrun hS (fun q _ h => hFc q h) hFc (fun r1 u t H1 locs1 ht hvm hw hBB hz1 hk1 hS1 => ?_)
  obtain ⟨rfl, rfl⟩ := hw
  obtain ⟨hP1, hK1, hD1⟩ := hBB
  rw [ht] at hP1
  exact kk H1 locs1 hP1 (hD1.weaken (fun k q _ h => hFc q.1 h)) hS1
end TL
