/-! A thrown object meets a handler whose class may not be linked yet. From such tables the search goes as from the tables in which the row's class is noted (ca_note); there the library's row for a linked class serves. -/
section CA
/-- the search of these rows ends at a handler's pc, the tables being v then -/
def ca_to (e : Env) (S : State) (f : JFrame) (a : Addr) (rows : List ExceptionTableEntry) (pc : Nat) (v : Vm) : Prop :=
  ∀ (Q : Handler → Pre) (E : CtlPost) (d : Bool) (acts : List Action), wp (findHandler.go f a rows) Q E e d acts S ↔ Q (.found pc) d acts (S.setVm v)
variable {e : Env} {S : State} {f : JFrame} {a : Addr} {x : ExceptionTableEntry} {rows : List ExceptionTableEntry} {cT : ClassId} {cell : Cell} {pc : Nat} {v : Vm}
theorem ca_note {Q : Handler → Pre} {E : CtlPost} {d : Bool} {acts : List Action} (hin : covers x f.pc = true) (hnz : x.catchType ≠ 0) (lk : S.vm.ClassLinks e.platform f.method.cls x.catchType cT) :
    wp (findHandler.go f a (x :: rows)) Q E e d acts S ↔ wp (findHandler.go f a (x :: rows)) Q E e d acts (S.setVm (S.vm.noted f.method.cls x.catchType (.cls cT))) := by
  have cold := VmM.Gives.op (e := e) (op := VmOp.resolveClass f.method.cls x.catchType) (resolveClass_links e.toSetting lk) rfl
  obtain ⟨kn, hkn, hdone⟩ := lk.ready
  have warm := resolveClass_memo e hkn hdone
  have twice : ∀ v : Vm, (S.setVm v).setVm v = S.setVm v := fun _ => rfl
  unfold covers at hin
  simp [findHandler.go, hin, hnz, cold.1, cold.2, warm.1, warm.2, twice, VmOp.dirties, VmOp.acts]
/-- the first row takes the object -/
theorem ca_hit (hin : covers x f.pc = true) (hnz : x.catchType ≠ 0) (lk : S.vm.ClassLinks e.platform f.method.cls x.catchType cT) (hv : v = S.vm.noted f.method.cls x.catchType (.cls cT))
    (hcell : S.heap[a]? = some cell) (hobj : cell.vm = .none) (hc : ∃ k, v.classes[cT]? = some k) (hfit : v.assignable cell.cls cT = true) : ca_to e S f a (x :: rows) x.handlerPc v := by
  subst hv
  intro Q E d acts
  have there := W.findHandler_go_class (Q := Q) (E := E) (e := e) (d := d) (acts := acts) (a := a) (t := rows) (s := S.setVm (S.vm.noted f.method.cls x.catchType (.cls cT))) hin hnz lk.ready hcell (fun k => by rw [hobj]; exact nofun) (Vm.classAt_of_assignable hfit hc) hc
  exact (ca_note hin hnz lk).trans (there.trans (iff_of_eq (if_pos hfit)))
/-- the first row does not take it, a later one does -/
theorem ca_miss {w : Vm} (hin : covers x f.pc = true) (hnz : x.catchType ≠ 0) (lk : S.vm.ClassLinks e.platform f.method.cls x.catchType cT) (hv : v = S.vm.noted f.method.cls x.catchType (.cls cT))
    (hcell : S.heap[a]? = some cell) (hobj : cell.vm = .none) (ho : ∃ k, v.classes[cell.cls]? = some k) (hc : ∃ k, v.classes[cT]? = some k) (hno : v.assignable cell.cls cT = false)
    (later : ca_to e (S.setVm v) f a rows pc w) : ca_to e S f a (x :: rows) pc w := by
  subst hv
  intro Q E d acts
  have there := W.findHandler_go_class (Q := Q) (E := E) (e := e) (d := d) (acts := acts) (a := a) (t := rows) (s := S.setVm (S.vm.noted f.method.cls x.catchType (.cls cT))) hin hnz lk.ready hcell (fun k => by rw [hobj]; exact nofun) ho hc
  exact (ca_note hin hnz lk).trans (there.trans ((iff_of_eq (if_neg fun hyes => Bool.noConfusion (hno.symm.trans hyes))).trans (later Q E d acts)))
/-- one step of the machine: the frame stands at its handler -/
theorem ca_step {r : List Frame} {meth : Method} {code : Code} (hm : S.vm.method? f.method = some meth) (hcode : meth.code = some code) (h : ca_to e S f a code.exceptionTable.toList pc v) :
    (stepThrowing e S a (.java f :: r)).1 = (S.setVm v).setFrames (.java { f with pc := pc, stack := [.ref a] } :: r) := by
  have hall : ∀ (Q : Handler → Pre) (E : CtlPost) (d : Bool) (acts : List Action), wp (findHandler f a) Q E e d acts S ↔ Q (.found pc) d acts (S.setVm v) :=
    fun Q E d acts => (W.findHandler_eq hm hcode).trans (h Q E d acts)
  show (searchFrame e S [] a f f r).1 = _
  unfold searchFrame vmDo
  generalize hout : Sem.go _ e false [] S = out
  obtain ⟨-, rfl, -⟩ := Sem.eq_ok_of hout (a := Handler.found pc) (s' := S.setVm v) (acts' := []) (by simp [hall])
  rfl
variable {p : Program} {l : Launch} {R : Room} {s : State} {m : MethodId} {args : Array Value} {below : List Frame} {meth : Method} {c : Code} {locs : List Loc} {cells slots : Nat} {T : State}
/-- a walk goes on at the handler that the search has found -/
theorem ca_on (X : Stand p l e R s m args below meth c T locs cells slots) {g : JFrame} (hg : g.method = m) (h : ca_to e ((T.setTop g).pushFrame (.throwing a)) g a c.exceptionTable.toList pc v) {t : State}
    (hon : Steps p.tables e below ((T.setVm v).setTop { g with pc := pc, stack := [.ref a] }) t) : Steps p.tables e below ((T.setTop g).pushFrame (.throwing a)) t := by
  subst hg
  obtain ⟨g₀, hT⟩ := X.frames_eq
  have hgo := X.here.throwing a
  have hstep := ca_step (r := below) (f := g) (S := (T.setTop g).pushFrame (.throwing a)) X.method' X.code h
  have hlie : ((T.setTop g).pushFrame (.throwing a)).frames = .throwing a :: .java g :: below := by rw [frames_entered X.here.top, X.tail]
  have hsame : (((T.setTop g).pushFrame (.throwing a)).setVm v).setFrames (.java { g with pc := pc, stack := [.ref a] } :: below) = (T.setVm v).setTop { g with pc := pc, stack := [.ref a] } := by
    rw [State.setTop_of_frames (s := T.setVm v) _ hT]
    unfold State.pushFrame
    rw [State.setTop_of_frames _ hT]
    show (((T.setVm v).setFrames _).setFrames _).setFrames _ = _
    rw [State.setFrames_setFrames, State.setFrames_setFrames]
  rw [← hsame, ← hstep, ← stepThread_throwing (tb := p.tables) hlie] at hon
  exact Steps.head hgo.1 hgo.2 hon
end CA
