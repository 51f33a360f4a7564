/-! A call of a method that may throw: it goes on behind the call, or with the object thrown over its frame. -/
section TC
variable {p : Program} {l : Launch} {e : Env} {R : Room} {s : State} {m : MethodId} {args : Array Value} {below : List Frame} {meth : Method} {c : Code} {H : Heap} {locs : List Loc} {cells slots : Nat} {Q : State → Prop} {T : State}
variable {cc ccy : ByteArray} {maxL maxLy idx n pc : Nat} {ret rety : Option FieldType} {own C : String} {D : va_G} {tys : List (ClassId × FieldType)} {ad : Nat → Nat} {A : Nat → Prop} {cw : St → va_W} {σ σ' : St} {y : MethodName} {rm : Room} {As rest st : List Value} {ls : Array Slot} {b : Nat}
/-- what a callee leaves alone, and what it writes, beside what was written before -/
theorem th_join {B : Nat → Prop} {st t : State} {L : List Loc} (hS : va_S A s.heap H locs) (hst : st.heap = H) (hBA : ∀ q, B q → A q) (hF : va_F B st t) (hL : ∀ z ∈ L, B z.base) : va_S A s.heap t.heap (locs ++ L) := by
  subst hst
  refine ⟨Nat.le_trans hS.1 hF.1, fun q hq hA => ?_, fun z hz => (List.mem_append.mp hz).elim (hS.2.2 z) (fun h => hBA _ (hL z h))⟩
  exact (hF.2 q (Nat.lt_of_lt_of_le hq hS.1) (fun h => hA (hBA q h))).trans (hS.2.1 q hq hA)
set_option maxHeartbeats 1000000 in
theorem callVX {k ci : Nat} {r : Int32} {T9 : u_T} {N9 : Nat} {fs : List Value} (X : Cx p s m args meth c cc maxL ret own D tys ad A) (hTh : th_S A s s.heap) (hM : MX l y ccy maxLy rety rm D tys ad cw (.ref b :: As) σ H.size k r σ') (lk : LkV own idx C y ccy maxLy rety n)
    (hR : rm.cells = 1 ∧ rm.slots = 6 ∧ rm.frames + 1 ≤ R.frames ∧ 8 + (maxLy + 11) + rm.locals ≤ R.locals) (hcs : cells + 1 ≤ R.cells ∧ slots + 6 ≤ R.slots)
    (q0 : Nat) (he : (cw σ)[q0]? = some (b, .inr (ci, fs))) (hc : vwCl[ci]? = some (C, T9, N9)) (hP : va_P D vwCl (cw σ) H) (hD : va_D A (cw σ)) (hS : va_S A s.heap H locs) (hsz : ls.size = maxL) (hst : st = As.reverse ++ .ref b :: rest) (hn : As.length = n) (hW : (rest.map fun v => v.category).sum ≤ 8) (d : decode cc pc = .ok (.invokevirtual idx, 3))
    (k0 : k = 0 → ∀ (H1 : Heap) (locs1 : List Loc), va_P D vwCl (cw σ') H1 → va_D A (cw σ') → va_S A s.heap H1 locs1 → W p l e R s m args below meth c H1 locs1 (cells + 1) (slots + 6) Q (F0 m (pc + 3) ls (.int r :: rest)))
    (k1 : ¬ k = 0 → ∀ (H1 : Heap) (locs1 : List Loc) (q : Addr) (ce : Cell) (T1 : State), va_P D vwCl (cw σ') H1 → va_D A (cw σ') → va_S A s.heap H1 locs1 → H1[q]? = some ce → ce.vm = .none → s.vm.findClass (exn k) = some ce.cls → T1.heap = H1 → Stand p l e R s m args below meth c T1 locs1 (cells + 1) (slots + 6) → ∃ t, Steps p.tables e below ((T1.setTop (F0 m pc ls rest)).pushFrame (.throwing q)) t ∧ Q t) :
    W p l e R s m args below meth c H locs cells slots Q (F0 m pc ls st) := by
  obtain ⟨hx, hb, -, hml, hown, -, hts, -, hK, -⟩ := id X
  obtain ⟨⟨lk1, lk2, lk3, lk4, lk5, lk6⟩, lk7, lk8⟩ := lk
  have inA := wfree X hD hS
  intro T hT Y
  subst hT
  obtain ⟨mk, mt, named, lieM, notSt, notAb⟩ := Cond.instanceMethod_spec (hts _ lk7)
  have hlen : As.length = mt.sig.parameters.length := by
    obtain ⟨mt', cd, lieM', -, -, -, -, -, -, sig⟩ := Cond.code_spec named (hts _ lk3)
    obtain rfl : mt = mt' := Option.some.inj (lieM.symm.trans lieM')
    rw [sig] at lk6
    exact hn.trans (Option.some.inj lk6).symm
  obtain ⟨ob, lieO, plainO, clsO⟩ := va_recv hK hP hc he
  obtain ⟨c2, r2, m2, s1, s2, s3, s4, kP, hkP, hkPi⟩ := Cond.selects_spec (hts _ lk8)
  obtain rfl : ob.cls = c2 := Option.some.inj (clsO.symm.trans s1)
  obtain rfl : mk = m2 := Option.some.inj (named.symm.trans s3)
  cases (State.methodFound?_of_named named ⟨lk4, lk5⟩).symm.trans s2
  obtain ⟨v1, X1, enter⟩ := Y.invokevirtual hx hown (hts _ lk1) named lieM notSt hkP hkPi ⟨lk4, lk5⟩ (a := b) (cell := ob) lieO (fun z h => by rw [h] at plainO; cases plainO) (by rw [Launch.admits_selectMethod Y.admits]; exact s4) lieM notAb hkP hkPi (g := F0 m pc ls st) rfl (argsL := As) (rest := rest) hlen hst (by rw [hb]; exact d)
  have hdg : decode c.code (F0 m pc ls rest).pc = .ok (.invokevirtual idx, 3) := by rw [hb]; exact d
  have top : ((T.setVm v1).setTop (F0 m pc ls rest)).frames = .java (F0 m pc ls rest) :: below := by rw [State.frames_setTop' _ X1.here.top, X1.tail]
  have there := X1.named named
  have big : ∀ w ∈ BIG, w.before (Value.ref b :: As).toArray (T.setVm v1) = true := fun w h => word_at X1.warmed (good_of_word (big_good w h)) (hts w h)
  have may : (headSpec (Cond.code y ccy maxLy rety :: BIG) rm).appliesLoose y e.platform ((T.setVm v1).calling (F0 m pc ls rest) mk (Value.ref b :: As).toArray) = true := by
    obtain ⟨mY, cY, lieY, codeY, -, locY, -⟩ := Cond.code_spec there (big _ lk3)
    obtain ⟨kY, lieK, -⟩ := className_of_methodNamed there
    have made := Cond.initialized_spec (findClass_of_methodNamed there) lieK (big _ lk2)
    have light : 2 * (F0 m pc ls rest).monitorRoom + ((F0 m pc ls rest).stack.map fun v => v.category).sum ≤ 8 := lv_room hW
    refine Spec.appliesLoose_calling X1.here hdg there lieK made (X1.room_calling (hsz.trans hml.symm) lieY codeY hR.2.2.1 ?_ ?_ ?_) (atoms_intro (List.forall_mem_cons.mpr ⟨big _ lk3, big⟩))
    · have := hR.2.2.2
      rw [locY]
      show _ + _ + rm.locals ≤ _
      omega
    · show _ + rm.cells ≤ _
      rw [hR.1]; exact hcs.1
    · show _ + rm.slots ≤ _
      rw [hR.2.1]; exact hcs.2
  have pre : tPc D tys ad cw (.ref b :: As) σ T.heap.size (Value.ref b :: As).toArray ((T.setVm v1).calling (F0 m pc ls rest) mk (Value.ref b :: As).toArray) := by
    refine ⟨wPc_blind _ _ _ _ (wPc_now X hP hD hS (T.setVm v1) rfl X1.warmed), (hTh.1.now hS.2.1 inA).moved X1.warmed.alike, (hTh.2.1.now hS.2.1 inA).moved X1.warmed.alike, fun w hw => ?_⟩
    exact va_Nw.same (u := T.setVm v1) (th_nw_on w hw) rfl (th_nw_warm X1.warmed hTh.2.2 w hw)
  obtain ⟨oc, z, walk, -, hend, post⟩ := Steps.callFree hM p X1.admits X1.cas X1.clock (acts := []) (mid := [.java (F0 m pc ls rest)]) top may pre trivial
  rw [top] at hend
  rcases post with ⟨calm, ⟨⟨r1, u, rfl, ⟨rfl, rfl⟩, world⟩, kept⟩, L, ⟨-, warm, same⟩, hL⟩ | ⟨loud, q, rfl, ce, L, world, kept, lieE, plainE, clsE, warm, same, hL⟩
  · obtain ⟨T', X', -, -, rfl⟩ := X1.outOf rfl hdg hend warm same
    obtain ⟨t, t1, t2⟩ := k0 calm T'.heap (locs ++ L) world.1 (world.2.2.weaken fun _ q _ h => inA q.1 h) (th_join hS rfl inA kept hL) T' rfl X'
    exact ⟨t, enter _ fun acts => by rw [doInvoke_state]; exact walk.trans t1, t2⟩
  · obtain ⟨T', X', -, -, rfl⟩ := X1.outOfThrown rfl hend warm same
    have clsS : s.vm.findClass (exn k) = some ce.cls := (X1.warmed.alike.findClass _ _).symm.trans clsE
    obtain ⟨t, t1, t2⟩ := k1 loud T'.heap (locs ++ L) q ce T' world.1 (world.2.2.weaken fun _ q _ h => inA q.1 h) (th_join hS rfl inA kept hL) lieE plainE clsS rfl X'
    exact ⟨t, enter _ fun acts => by rw [doInvoke_state]; exact walk.trans t1, t2⟩
end TC
