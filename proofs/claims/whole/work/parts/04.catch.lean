/-! A thrown object meets a table of handlers whose classes may not be linked yet; a frame that catches; a method that throws. -/
section TH
/-- what a search of a list of rows comes to, and the tables behind it -/
def th_go (e : Env) (S : State) (f : JFrame) (a : Addr) (rows : List ExceptionTableEntry) (h : Handler) (vm' : Vm) : Prop :=
  ∀ (Q : Handler → Pre) (E : CtlPost) (d : Bool) (acts : List Action), wp (findHandler.go f a rows) Q E e d acts S ↔ Q h d acts (S.setVm vm')
/-- the first row names a class: taken if the object is of it, else the search goes on, the row's class noted -/
theorem th_row {e : Env} {S : State} {f : JFrame} {a : Addr} {x : ExceptionTableEntry} {t : List ExceptionTableEntry} {cT : ClassId} {cell : Cell} {h : Handler} {vm' : Vm} (b : Bool) (hx : covers x f.pc = true) (h0 : x.catchType ≠ 0)
    (hl : S.vm.ClassLinks e.platform f.method.cls x.catchType cT) (hcell : S.heap[a]? = some cell) (hobj : ∀ k, cell.vm ≠ .statics k)
    (hk : ∃ k, S.vm.classes[cell.cls]? = some k) (hc : ∃ k, S.vm.classes[cT]? = some k) (hfit : S.vm.assignable cell.cls cT = b)
    (hend : if b = true then h = .found x.handlerPc ∧ vm' = S.vm.noted f.method.cls x.catchType (.cls cT) else th_go e (S.setVm (S.vm.noted f.method.cls x.catchType (.cls cT))) f a t h vm') :
    th_go e S f a (x :: t) h vm' := by
  intro Q E d acts
  simp only [covers] at hx
  obtain ⟨ha, ht⟩ := (resolveClass_links e.toSetting hl).op (op := VmOp.resolveClass f.method.cls x.catchType) rfl
  have hal : S.vm.Alike (S.vm.noted f.method.cls x.catchType (.cls cT)) := (Vm.Alike.refl S.vm).noted _ _ _
  obtain ⟨k1, hk1⟩ := hk
  obtain ⟨k2, hk2⟩ := hc
  obtain ⟨k1', hk1', -⟩ := hal.2.2 _ _ hk1
  obtain ⟨k2', hk2', -⟩ := hal.2.2 _ _ hk2
  have hfit' : (S.vm.noted f.method.cls x.catchType (.cls cT)).assignable cell.cls cT = b := by rw [hal.assignable]; exact hfit
  cases b with
  | true =>
    rw [if_pos rfl] at hend
    obtain ⟨rfl, rfl⟩ := hend
    simp [findHandler.go, hx, h0, ha, ht, hcell, hobj, hk1', hk2', hfit', VmOp.dirties, VmOp.acts]
  | false =>
    rw [if_neg (by decide)] at hend
    have h2 : wp (findHandler.go f a t) Q E e d acts (S.setVm (S.vm.noted f.method.cls x.catchType (.cls cT))) ↔ Q h d acts (S.setVm vm') := hend Q E d acts
    rw [← h2]
    simp [findHandler.go, hx, h0, ha, ht, hcell, hobj, hk1', hk2', hfit', VmOp.dirties, VmOp.acts]
theorem th_step {e : Env} {S : State} {a : Addr} {f : JFrame} {r : List Frame} {pc : Nat} {vm' : Vm} {meth : Method} {code : Code} (hm : S.vm.method? f.method = some meth) (hc : meth.code = some code) (hfind : th_go e S f a code.exceptionTable.toList (.found pc) vm') :
    (stepThrowing e S a (.java f :: r)).1 = (S.setVm vm').setFrames (.java { f with pc := pc, stack := [.ref a] } :: r) := by
  have hf2 : ∀ (Q : Handler → Pre) (E : CtlPost) (d : Bool) (acts : List Action), wp (findHandler f a) Q E e d acts S ↔ Q (.found pc) d acts (S.setVm vm') := fun Q E d acts => by
    rw [_root_.Jvm.W.findHandler_eq hm hc]; exact hfind Q E d acts
  simp only [stepThrowing, searchFrame, vmDo]
  generalize hr : Sem.go _ e false [] S = res
  obtain ⟨as, rfl, ha⟩ := Sem.eq_ok_of hr (a := Handler.found pc) (s' := S.setVm vm') (acts' := []) (by simp [hf2 _ _ _ _])
  rfl
variable {p : Program} {l : Launch} {e : Env} {R : Room} {s : State} {m : MethodId} {args : Array Value} {below : List Frame} {meth : Method} {c : Code} {H : Heap} {locs : List Loc} {cells slots : Nat} {Q : State → Prop} {T : State}
/-- the frame g goes on at its handler -/
theorem th_caught (X : Stand p l e R s m args below meth c T locs cells slots) {g : JFrame} (hg : g.method = m) {a : Addr} {pc : Nat} {vm' : Vm} (hW : s.WarmedH vm') (hfind : th_go e ((T.setTop g).pushFrame (.throwing a)) g a c.exceptionTable.toList (.found pc) vm') {t : State}
    (hrest : Steps p.tables e below ((T.setVm vm').setTop { g with pc := pc, stack := [.ref a] }) t) : Steps p.tables e below ((T.setTop g).pushFrame (.throwing a)) t := by
  have h : At T g.method c below := by rw [hg]; exact X.here
  obtain ⟨hgo, hw⟩ := h.throwing a
  refine Steps.head hgo hw ?_
  rw [stepThread_throwing (frames_entered h.top _), th_step (S := (T.setTop g).pushFrame (.throwing a)) (meth := meth) (code := c) (by rw [hg]; exact X.method') X.code hfind]
  obtain ⟨g₀, hg0⟩ := Option.isSome_iff_exists.mp h.top
  obtain ⟨r, hr⟩ := State.topJava?_eq_some.mp hg0
  have hr' : (T.setVm vm').frames = .java g₀ :: r := hr
  rw [State.setTop_of_frames _ hr'] at hrest
  have e1 : ∀ (u : State) (F G : List Frame), ((u.setFrames F).setVm vm').setFrames G = (u.setVm vm').setFrames G := fun u F G => by
    rw [show (u.setFrames F).setVm vm' = (u.setVm vm').setFrames F from rfl, State.setFrames_setFrames]
  rw [hr, List.tail_cons, State.pushFrame, e1, State.setTop_of_frames _ hr, e1]
  exact hrest
end TH
