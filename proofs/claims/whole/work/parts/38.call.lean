/-! A call of a method that may throw: it goes on behind the call, or with the object thrown over its frame. -/
section TC
variable {p : Program} {l : Launch} {e : Env} {R : Room} {s : State} {m : MethodId} {args : Array Value} {below : List Frame} {meth : Method} {c : Code} {H : Heap} {locs : List Loc} {cells slots : Nat} {Q : State → Prop} {T : State}
variable {cc ccy : ByteArray} {maxL maxLy idx n pc : Nat} {ret rety : Option FieldType} {own C : String} {D : va_G} {tys : List (ClassId × FieldType)} {ad : Nat → Nat} {A : Nat → Prop} {cw : St → va_W} {σ σ' : St} {y : MethodName} {rm : Room} {As rest st : List Value} {ls : Array Slot} {b : Nat}
/-- the caller's stand behind a callee's end -/
theorem th_behind {U s₂ : State} {L : List Loc} {k n : Nat} {F : List Frame} {g₀ : JFrame} {r : List Frame} (X : Stand p l e R s m args below meth c U locs cells slots) (hr : U.frames = .java g₀ :: r) (hW : U.WarmedH s₂.vm) (h : (U.setFrames F).sameButNew ({ s₂ with vm := (U.setFrames F).vm } : State) L k n) :
    Stand p l e R s m args below meth c (({ U with heap := s₂.heap, slotsUsed := s₂.slotsUsed } : State).setVm s₂.vm) (locs ++ L) (cells + k) (slots + n) ∧ s₂ = (({ U with heap := s₂.heap, slotsUsed := s₂.slotsUsed } : State).setVm s₂.vm).setFrames s₂.frames := by
  obtain ⟨e2, q2, q3, q4, q5, q6⟩ := h
  have e3 : s₂ = ({ (U.setFrames F).setFrames s₂.frames with heap := s₂.heap, slotsUsed := s₂.slotsUsed } : State).setVm s₂.vm := by
    have h1 : s₂ = ({ s₂ with vm := (U.setFrames F).vm } : State).setVm s₂.vm := rfl
    rw [e2] at h1
    exact h1
  have hsame : U.sameButNew ({ U with heap := s₂.heap, slotsUsed := s₂.slotsUsed } : State) L k n := by
    refine ⟨?_, q2, q3, q4, q5, q6⟩
    obtain ⟨t, ht, -⟩ := State.frames_cons hr
    show ({ U with heap := s₂.heap, slotsUsed := s₂.slotsUsed } : State) = { U.setFrames U.frames with heap := s₂.heap, slotsUsed := s₂.slotsUsed }
    rw [State.setFrames_self ht]
  refine ⟨⟨X.admits, X.cas, X.clock, X.frames, X.room, X.hears, X.method, X.code, (X.here.setHeapUsed s₂.heap s₂.slotsUsed).setVm hW.alike, X.tail, State.WarmedH.trans X.warmed hW, X.limits, X.bytes, X.same.trans (hsame.setVm s.vm)⟩, ?_⟩
  refine e3.trans ?_
  rw [State.setFrames_setFrames]
  rfl
set_option maxHeartbeats 1000000 in
theorem callVX {k ci : Nat} {r : Int32} {T9 : u_T} {N9 : Nat} {fs : List Value} (X : Cx p s m args meth c cc maxL ret own D tys ad A) (hTh : th_S A s s.heap) (hM : MX l y ccy maxLy rety rm D tys ad cw (.ref b :: As) σ H.size k r σ') (lk : LkV own idx C y ccy maxLy rety n)
    (hR : rm.cells = 1 ∧ rm.slots = 6 ∧ rm.frames + 1 ≤ R.frames ∧ 8 + (maxLy + 11) + rm.locals ≤ R.locals) (hcs : cells + 1 ≤ R.cells ∧ slots + 6 ≤ R.slots)
    (q0 : Nat) (he : (cw σ)[q0]? = some (b, .inr (ci, fs))) (hc : vwCl[ci]? = some (C, T9, N9)) (hP : va_P D vwCl (cw σ) H) (hD : va_D A (cw σ)) (hS : va_S A s.heap H locs) (hsz : ls.size = maxL) (hst : st = As.reverse ++ .ref b :: rest) (hn : As.length = n) (hW : (rest.map fun v => v.category).sum ≤ 8) (d : decode cc pc = .ok (.invokevirtual idx, 3))
    (k0 : k = 0 → ∀ (H1 : Heap) (locs1 : List Loc), va_P D vwCl (cw σ') H1 → va_D A (cw σ') → va_S A s.heap H1 locs1 → W p l e R s m args below meth c H1 locs1 (cells + 1) (slots + 6) Q (F0 m (pc + 3) ls (.int r :: rest)))
    (k1 : ¬ k = 0 → ∀ (H1 : Heap) (locs1 : List Loc) (q : Addr) (ce : Cell) (T1 : State), va_P D vwCl (cw σ') H1 → va_D A (cw σ') → va_S A s.heap H1 locs1 → H1[q]? = some ce → ce.vm = .none → s.vm.findClass (exn k) = some ce.cls → T1.heap = H1 → Stand p l e R s m args below meth c T1 locs1 (cells + 1) (slots + 6) → ∃ t, Steps p.tables e below ((T1.setTop (F0 m pc ls rest)).pushFrame (.throwing q)) t ∧ Q t) :
    W p l e R s m args below meth c H locs cells slots Q (F0 m pc ls st) := by
  have hFc := wfree X hD hS
  obtain ⟨hx, hb, hr, hml, hown, hlocks, hts, hA, hK, hZ⟩ := id X
  obtain ⟨⟨lk1, lk2, lk3, lk4, lk5, lk6⟩, lk7, lk8⟩ := lk
  obtain ⟨hR1, hR2, hR3, hR4⟩ := hR
  intro T hT Y
  obtain ⟨mk, methM, hnamed, hmethM, hstM, habM⟩ := Cond.instanceMethod_spec (hts _ lk7)
  obtain ⟨methM', cM, hmethM', -, -, -, -, -, -, hsigM⟩ := Cond.code_spec hnamed (hts _ lk3)
  cases hmethM.symm.trans hmethM'
  obtain ⟨cellB, hcB, hoB, hclB⟩ := va_recv hK hP hc he
  obtain ⟨c2, r2, m2, q1, q2, q3, q4, kP, hkP, hkPi⟩ := Cond.selects_spec (hts _ lk8)
  cases hclB.symm.trans q1
  cases (State.methodFound?_of_named hnamed ⟨lk4, lk5⟩).symm.trans q2
  cases hnamed.symm.trans q3
  have hselP : selectMethod e.platform s.vm cellB.cls mk = .method mk := by rw [Launch.admits_selectMethod Y.admits]; exact q4
  have hlen : As.length = methM.sig.parameters.length := by
    rw [hsigM] at lk6
    exact hn.trans (Option.some.inj lk6).symm
  obtain ⟨vm₁, X₁, hstep₁⟩ := Y.invokevirtual hx hown (hts _ lk1) hnamed hmethM hstM hkP hkPi ⟨lk4, lk5⟩ (a := b) (cell := cellB) (by rw [hT]; exact hcB) (fun z h => by rw [h] at hoB; cases hoB) hselP hmethM habM hkP hkPi (g := F0 m pc ls st) rfl (argsL := As) (rest := rest) hlen hst (by rw [hb]; exact d)
  obtain ⟨U, hU⟩ : ∃ z, z = T.setVm vm₁ := ⟨_, rfl⟩
  obtain ⟨g, hg⟩ : ∃ z : JFrame, z = F0 m pc ls rest := ⟨_, rfl⟩
  obtain ⟨a, ha⟩ : ∃ z : Array Value, z = (Value.ref b :: As).toArray := ⟨_, rfl⟩
  have hUh : U.heap = H := by rw [hU]; exact hT
  rw [← hU] at X₁
  have h : At U g.method c below := by rw [hg]; exact X₁.here
  have hnU : U.methodNamed? y = some mk := X₁.named hnamed
  have big : ∀ w ∈ BIG, w.before a U = true := fun w h => word_at X₁.warmed (good_of_word (big_good w h)) (hts w h)
  obtain ⟨methY, cY, hmY, hcY, -, hlY, -, -, -, -⟩ := Cond.code_spec hnU (big _ lk3)
  obtain ⟨kY, hkY, -⟩ := className_of_methodNamed hnU
  have hinitY : kY.init = .initialized := Cond.initialized_spec (findClass_of_methodNamed hnU) hkY (big _ lk2)
  have hdg : decode c.code g.pc = .ok (.invokevirtual idx, 3) := by rw [hg, hb]; exact d
  have hsize : g.locals.size = c.maxLocals := by rw [hg]; exact hsz.trans hml.symm
  have hmon : 2 * g.monitorRoom + (g.stack.map fun v => v.category).sum ≤ 8 := by rw [hg]; exact lv_room hW
  have happ : (headSpec (Cond.code y ccy maxLy rety :: BIG) rm).appliesLoose y e.platform (U.calling g mk a) = true :=
    Spec.appliesLoose_calling (g := g) h hdg hnU hkY hinitY
      (X₁.room_calling (g := g) (R' := rm) hsize hmY hcY hR3 (by rw [hlY]; omega) (by rw [hR1]; exact hcs.1) (by rw [hR2]; exact hcs.2))
      (atoms_intro fun w hw => by
        rcases List.mem_cons.mp hw with e1 | e1
        · rw [e1]; exact big _ lk3
        · exact big w e1)
  obtain ⟨mid, hmid⟩ := h.above
  have hfr : (U.setTop g).frames = (.java g :: mid) ++ below := by rw [State.frames_setTop' g h.top, hmid]; rfl
  have hpre : tPc D tys ad cw (.ref b :: As) σ H.size a (U.calling g mk a) := by
    have w1 := wPc_blind (D := D) (tys := tys) (ad := ad) (cw := cw) (σ := σ) (av := .ref b :: As) (sz := H.size) a U g mk (by rw [ha]; exact wPc_now X hP hD hS U hUh X₁.warmed)
    refine ⟨w1, ?_⟩
    have e1 : (U.calling g mk a).heap = H := hUh
    rw [e1]
    have hal : s.vm.Alike (U.calling g mk a).vm := X₁.warmed.alike
    exact ⟨(hTh.1.now hS.2.1 hFc).moved hal, (hTh.2.1.now hS.2.1 hFc).moved hal, fun w hw => va_Nw.same (u := U) (U := U.calling g mk a) (th_nw_on w hw) rfl (th_nw_warm X₁.warmed hTh.2.2 w hw)⟩
  obtain ⟨o, s₂, hsteps, -, hend, hq⟩ := Steps.callFree hM p X₁.admits X₁.cas X₁.clock (acts := []) hfr happ hpre trivial
  have hq' : QX D tys cw (va_A (cw σ) H.size) k r σ' a (U.calling g mk a) o s₂ := hq
  rw [State.frames_setTop' g h.top] at hend
  obtain ⟨g₀, hg0⟩ := Option.isSome_iff_exists.mp h.top
  obtain ⟨r9, hr9⟩ := State.topJava?_eq_some.mp hg0
  have hcal : U.calling g mk a = U.setFrames (.invoking mk a :: .java g :: r9) := by
    rw [State.calling_eq h.top, hr9]; rfl
  have hS2 : ∀ {L : List Loc}, va_F (va_A (cw σ) H.size) (U.calling g mk a) s₂ → (∀ z ∈ L, va_A (cw σ) H.size z.base) → va_S A s.heap s₂.heap (locs ++ L) := by
    intro L hF hL
    obtain ⟨f1, f2⟩ := hF
    have e1 : (U.calling g mk a).heap = H := hUh
    rw [e1] at f1 f2
    refine ⟨Nat.le_trans hS.1 f1, fun q h1 h2 => ?_, fun z hz => ?_⟩
    · rw [f2 q (Nat.lt_of_lt_of_le h1 hS.1) (fun z => h2 (hFc q z))]
      exact hS.2.1 q h1 h2
    · rcases List.mem_append.mp hz with h9 | h9
      · exact hS.2.2 z h9
      · exact hFc _ (hL z h9)
  rcases hq' with ⟨hk0, ⟨⟨r1, u, ho, ⟨rfl, rfl⟩, hB⟩, hF⟩, L, hfe, hL⟩ | ⟨hk, q, ho, ce, L, hB, hF, hce, hcv, hcl, hW₂, hsm, hL⟩
  · obtain ⟨⟨v, hv⟩, hW₂, hsm⟩ := hfe
    subst hv
    cases ho
    rw [hcal] at hsm
    obtain ⟨X', hs₂⟩ := th_behind X₁ hr9 hW₂ hsm
    obtain ⟨c₂, i₂, len₂, hc₂, hd₂, hf₂⟩ := hend
    have hW' : U.WarmedH s₂.vm := hW₂
    have hcc : c₂ = c := by
      have h1 : s₂.code? g.method = U.code? g.method := by rw [State.code?_eq, State.code?_eq, hW'.alike.method?]
      exact Option.some.inj (hc₂.symm.trans (h1.trans h.code))
    subst hcc
    have hlen3 : len₂ = 3 := by rw [hdg] at hd₂; cases hd₂; rfl
    subst hlen3
    obtain ⟨T', hT'⟩ : ∃ z, z = (({ U with heap := s₂.heap, slotsUsed := s₂.slotsUsed } : State).setVm s₂.vm) := ⟨_, rfl⟩
    rw [← hT'] at X' hs₂
    have hr' : T'.frames = .java g₀ :: r9 := by rw [hT']; exact hr9
    obtain ⟨t, t1, t2⟩ := k0 hk0 s₂.heap (locs ++ L) hB.1 (hB.2.2.weaken (fun k q _ h => hFc q.1 h)) (hS2 hF hL) T' (by rw [hT']; rfl) X'
    refine ⟨t, ?_, t2⟩
    refine hstep₁ _ fun acts => ?_
    rw [doInvoke_state]
    have hs3 : s₂ = T'.setTop (F0 m (pc + 3) ls (.int r1 :: rest)) := by
      rw [State.setTop_of_frames _ hr']
      refine hs₂.trans ?_
      rw [hf₂, hr9, hg]
      rfl
    rw [← hU, ← ha, show ({ F0 m pc ls st with stack := rest } : JFrame) = g from hg.symm]
    refine hsteps.trans ?_
    rw [hs3]
    exact t1
  · subst ho
    rw [hcal] at hsm
    have hW' : U.WarmedH s₂.vm := hW₂
    obtain ⟨X', hs₂⟩ := th_behind X₁ hr9 hW' hsm
    obtain ⟨T', hT'⟩ : ∃ z, z = (({ U with heap := s₂.heap, slotsUsed := s₂.slotsUsed } : State).setVm s₂.vm) := ⟨_, rfl⟩
    rw [← hT'] at X' hs₂
    have hr' : T'.frames = .java g₀ :: r9 := by rw [hT']; exact hr9
    have hf₂ : s₂.frames = .throwing q :: .java g :: U.frames.tail := hend
    have hcl' : s.vm.findClass (exn k) = some ce.cls := by
      have h9 : U.vm.findClass (exn k) = some ce.cls := hcl
      rw [X₁.warmed.alike.findClass] at h9
      exact h9
    obtain ⟨t, t1, t2⟩ := k1 hk s₂.heap (locs ++ L) q ce T' hB.1 (hB.2.2.weaken (fun k q _ h => hFc q.1 h)) (hS2 hF hL) hce hcv hcl' (by rw [hT']; rfl) X'
    refine ⟨t, ?_, t2⟩
    refine hstep₁ _ fun acts => ?_
    rw [doInvoke_state]
    have hs3 : s₂ = (T'.setTop (F0 m pc ls rest)).pushFrame (.throwing q) := by
      rw [State.pushFrame, State.frames_setTop _ hr', State.setTop_of_frames _ hr', State.setFrames_setFrames]
      refine hs₂.trans ?_
      rw [hf₂, hr9, hg]
      rfl
    rw [← hU, ← ha, show ({ F0 m pc ls st with stack := rest } : JFrame) = g from hg.symm]
    refine hsteps.trans ?_
    rw [hs3]
    exact t1
end TC
