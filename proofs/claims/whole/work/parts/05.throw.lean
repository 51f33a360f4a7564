/-! Methods that may throw: what they promise, how a throw leaves one. -/
section TX
/-- a static field of references of a class: where it lies, that it holds a reference or null -/
def th_Z (C n d : String) (A : Nat → Prop) (U : State) (H : Heap) : Prop := ∃ (cf : ClassId) (k : Class) (i : Nat) (f : Field) (a : Nat) (cell : Cell) (v : Value), U.vm.findClass C = some cf ∧ U.fieldFound? C n d = some (cf, k, i, f) ∧ f.isStatic = true ∧ k.statics = some a ∧ H[a]? = some cell ∧ (cell.vm.isStatics = true ∧ cell.cls = cf ∧ f.slot < cell.slots.size ∧ cell.slots[f.slot]? = some v ∧ v.isRef = true) ∧ (k.staticTypes[f.slot]? = some f.type ∧ k.init = .initialized) ∧ ¬ A a
theorem th_Z.moved {C n d : String} {A : Nat → Prop} {u U : State} {H : Heap} (hvm : u.vm.Alike U.vm) (h : th_Z C n d A u H) : th_Z C n d A U H := by
  obtain ⟨cf, k, i, f, a, cell, v, h1, h2, h3, h4, h5, h6, h7, h8⟩ := h
  obtain ⟨k', hi', he⟩ := State.fieldFound?_setVm hvm h2
  exact ⟨cf, k', i, f, a, cell, v, by rw [hvm.findClass]; exact h1, hi', h3, by rw [he]; exact h4, h5, h6, by rw [he]; exact h7, h8⟩
theorem th_Z.now {C n d : String} {A B : Nat → Prop} {U : State} {H H1 : Heap} (h : th_Z C n d A U H) (hq : ∀ a : Nat, a < H.size → ¬ A a → H1[a]? = H[a]?) (hAB : ∀ q, B q → A q) : th_Z C n d B U H1 := by
  obtain ⟨cf, k, i, f, a, cell, v, h1, h2, h3, h4, h5, h6, h7, h8⟩ := h
  exact ⟨cf, k, i, f, a, cell, v, h1, h2, h3, h4, by rw [hq a (Array.getElem?_eq_some_iff.mp h5).1 h8]; exact h5, h6, h7, fun z => h8 (hAB a z)⟩
theorem th_Z.lay {C n d : String} {A : Nat → Prop} {s : State} {args : Array Value} (h : th_Z C n d A s s.heap) : (Cond.laysStatic C n d).before args s = true := by
  obtain ⟨cf, k, i, f, a, cell, v, h1, h2, h3, h4, h5, ⟨h6, h7, h8, -, -⟩, ⟨h9, -⟩, -⟩ := h
  exact Cond.laysStatic_of (args := args) (first := s) (o := none) (s := s) (idx := []) h1 h2 h3 h4 h5 h6 h7 h8 h9
theorem th_Z.ref {C n d : String} {A : Nat → Prop} {s : State} {args : Array Value} (h : th_Z C n d A s s.heap) : (Cond.isRef (.static C n d)).before args s = true := by
  obtain ⟨cf, k, i, f, a, cl, v, -, found, stat, lie, cell, ⟨isst, -, -, slot, isref⟩, -, -⟩ := h
  have val := Term.static_eval (args := args) (first := s) (o := none) (idx := []) found stat lie cell isst slot
  unfold Cond.before Cond.holds Cond.value
  rw [val]
  revert isref
  cases v <;> exact fun z => z
theorem th_Z.of {C n d : String} {A : Nat → Prop} {s : State} {args : Array Value} (hl : (Cond.laysStatic C n d).before args s = true) (hini : (Cond.initialized C).before args s = true) (hr : (Cond.isRef (.static C n d)).before args s = true) (hA : ∀ a : Nat, a < s.heap.size → ¬ A a) : th_Z C n d A s s.heap := by
  obtain ⟨cf, k, i, f, a, cell, h1, h2, h3, h4, h5, h6, h7, h8, h9⟩ := Cond.laysStatic_spec hl
  obtain ⟨w, hw, isref⟩ := Cond.isRef_spec hr
  obtain ⟨-, b, cell', hb, hcell', -, slot⟩ := Term.static_spec h2 hw
  obtain rfl : a = b := Option.some.inj (h4.symm.trans hb)
  obtain rfl : cell = cell' := Option.some.inj (h5.symm.trans hcell')
  have hin := Cond.initialized_spec h1 (State.fieldFound?_spec h2).1 hini
  exact ⟨cf, k, i, f, a, cell, w, h1, h2, h3, h4, h5, ⟨h6, h7, h8, slot, isref⟩, ⟨h9, hin⟩, hA a (Array.getElem?_eq_some_iff.mp h5).1⟩
/-- the two statics that a new exception reads -/
def th_nd : List MethodName := [⟨"java/lang/RuntimeException", "<init>", "()V"⟩, ⟨"java/lang/Exception", "<init>", "()V"⟩, ⟨"java/lang/Throwable", "<init>", "()V"⟩]
def th_nc : List (String × String) := [("java/lang/IllegalArgumentException", "java/lang/IllegalArgumentException"), ("java/lang/IllegalStateException", "java/lang/IllegalStateException"), ("java/lang/UnsupportedOperationException", "java/lang/UnsupportedOperationException"), ("java/util/NoSuchElementException", "java/util/NoSuchElementException")]
def th_nw : List Cond := th_nd.map Cond.declares ++ th_nc.map fun q => Cond.castable q.1 q.2
theorem th_nw_on : ∀ w ∈ th_nw, w.onTables = true := by decide +kernel
theorem th_nw_warm {s U : State} (hW : s.WarmedH U.vm) (h : ∀ w ∈ th_nw, va_Nw w s) : ∀ w ∈ th_nw, va_Nw w U := by
  intro w hw
  have hq := h w hw
  rcases List.mem_append.mp hw with h1 | h1
  · obtain ⟨x, -, rfl⟩ := List.mem_map.mp h1
    exact hq.warmD hW
  · obtain ⟨x, -, rfl⟩ := List.mem_map.mp h1
    exact hq.warmC hW
def th_S (A : Nat → Prop) (U : State) (H : Heap) : Prop := th_Z Bundle.tN "UNASSIGNED_STACK" Bundle.steD A U H ∧ th_Z Bundle.tN "SUPPRESSED_SENTINEL" Bundle.listD A U H ∧ ∀ w ∈ th_nw, va_Nw w U
def th_four : List Cond := [.isRef (.static Bundle.tN "UNASSIGNED_STACK" Bundle.steD), .isRef (.static Bundle.tN "SUPPRESSED_SENTINEL" Bundle.listD), .laysStatic Bundle.tN "UNASSIGNED_STACK" Bundle.steD, .laysStatic Bundle.tN "SUPPRESSED_SENTINEL" Bundle.listD]
theorem th_S.four {A : Nat → Prop} {s : State} {args : Array Value} (h : th_S A s s.heap) : ∀ w ∈ th_four, w.before args s = true := by
  intro w hw
  simp only [th_four, List.mem_cons, List.not_mem_nil, or_false] at hw
  rcases hw with rfl | rfl | rfl | rfl
  · exact h.1.ref
  · exact h.2.1.ref
  · exact h.1.lay
  · exact h.2.1.lay
def exn : Nat → String
  | 1 => "java/lang/IllegalArgumentException"
  | 2 => "java/lang/IllegalStateException"
  | 3 => "java/lang/UnsupportedOperationException"
  | _ => "java/util/NoSuchElementException"
def th_T (D : va_G) (tys : List (ClassId × FieldType)) (cw : St → va_W) (A : Nat → Prop) (k : Nat) (σ' : St) (st : State) (q : Addr) (t : State) : Prop := ∃ (ce : Cell) (L : List Loc), wB D tys cw A σ' t ∧ va_F A st t ∧ t.heap[q]? = some ce ∧ ce.vm = .none ∧ st.vm.findClass (exn k) = some ce.cls ∧ st.WarmedH t.vm ∧ st.sameButNew ({ t with vm := st.vm } : State) L 1 6 ∧ ∀ z ∈ L, A z.base
def QX (D : va_G) (tys : List (ClassId × FieldType)) (cw : St → va_W) (A : Nat → Prop) (k : Nat) (r : Int32) (σ' : St) : Array Value → State → Outcome → State → Prop := fun a st o t =>
  (k = 0 ∧ QI D tys cw A r σ' a st o t ∧ ∃ L, FrameEnd st o t L 1 6 ∧ ∀ q ∈ L, A q.base) ∨ (¬ k = 0 ∧ ∃ q : Addr, o = .threw q ∧ th_T D tys cw A k σ' st q t)
def XMQ (below : List Frame) (Qx : Array Value → State → Outcome → State → Prop) (a : Array Value) (s : State) : State → Prop := fun t => ∃ o, t.status = .running ∧ Ended t below o ∧ Qx a s o t
def tPc (D : va_G) (tys : List (ClassId × FieldType)) (ad : Nat → Nat) (cw : St → va_W) (av : List Value) (σ : St) (sz : Nat) : Array Value → State → Prop := fun a U => wPc D tys ad cw av σ sz a U ∧ th_S (va_A (cw σ) sz) U U.heap
def MX (l : Launch) (y : MethodName) (cc : ByteArray) (maxL : Nat) (ret : Option FieldType) (rm : Room) (D : va_G) (tys : List (ClassId × FieldType)) (ad : Nat → Nat) (cw : St → va_W) (av : List Value) (σ : St) (sz : Nat) (k : Nat) (r : Int32) (σ' : St) : Prop :=
  MetFree l y (headSpec (Cond.code y cc maxL ret :: BIG) rm) (tPc D tys ad cw av σ sz) (fun _ _ _ _ _ => True) (QX D tys cw (va_A (cw σ) sz) k r σ')
variable {p : Program} {l : Launch} {e : Env} {R : Room} {s : State} {m : MethodId} {args : Array Value} {below : List Frame} {meth : Method} {c : Code} {H : Heap} {locs : List Loc} {cells slots : Nat} {Q : State → Prop} {T : State}
variable {cc ccy : ByteArray} {maxL maxLy idx n pc : Nat} {ret rety : Option FieldType} {own C : String} {D : va_G} {tys : List (ClassId × FieldType)} {ad : Nat → Nat} {A : Nat → Prop} {cw : St → va_W} {σ σ' : St} {y : MethodName} {rm : Room} {As rest st : List Value} {ls : Array Slot} {b : Nat}
theorem leafX {r : Int32} (X : Cx p s m args meth c cc maxL (some .int) own D tys ad A) (hP : va_P D vwCl (cw σ) H) (hD : va_D A (cw σ)) (hS : va_S A s.heap H locs) (d : decode cc pc = .ok (.ireturn, 1)) : W p l e R s m args below meth c H locs 0 0 (XMQ below (QX D tys cw A 0 r σ) args s) (F0 m pc ls [.int r]) := by
  obtain ⟨hx, hb, hr, hml, hown, hlocks, hts, hA, hK, hZ⟩ := id X
  refine W.widen (k := 1) (n := 6) (Nat.zero_le _) (Nat.zero_le _) ?_
  intro T hT Y
  obtain ⟨t, a1, o, b1, b2, b3, b4⟩ := W.iret (p := p) (l := l) (e := e) (R := R) (s := s) (m := m) (args := args) (below := below) (meth := meth) (c := c) (H := H) (locs := locs) (cells := 1) (slots := 6) (ls := ls) (Qc := QI D tys cw A r σ) (free := A) hx hb hr (fun t ht hW => ⟨⟨r, σ, rfl, ⟨rfl, rfl⟩, by rw [ht]; exact hP, va_K.moved hW.alike hK, hD⟩, hS.F ht⟩) hS.2.2 d hlocks T hT Y
  exact ⟨t, a1, o, b1, b2, Or.inl ⟨rfl, b3, b4⟩⟩
theorem startX {av : List Value} {sz k : Nat} {r : Int32} (hy : plainName y.cls = true) (ho : y.cls = own) (hlen : (lg_sl av).length ≤ maxL)
    (K : ∀ (p : Program) (e : Env) (s : State) (m : MethodId) (below : List Frame) (meth : Method) (c : Code) (A : Nat → Prop) (H : Heap) (locs : List Loc) (ls : Array Slot), Cx p s m av.toArray meth c cc maxL ret own D tys ad A → c.exceptionTable.toList = [] → th_S A s s.heap → va_P D vwCl (cw σ) H → va_D A (cw σ) → va_S A s.heap H locs → lv_has ls maxL (lv_args 0 av) → W p l e rm s m av.toArray below meth c H locs 0 0 (XMQ below (QX D tys cw A k r σ') av.toArray s) (F0 m 0 ls [])) :
    MX l y cc maxL ret rm D tys ad cw av σ sz k r σ' := by
  have hcd : Cond.code y cc maxL ret ∈ Cond.code y cc maxL ret :: BIG := List.mem_cons_self
  refine MetFree.of_bodyS (code := cc) (maxLocals := maxL) (ret := ret) hy (fun a z i hz hi => ?_) (fun p e s m a below meth c z B hml hpre _ => ?_)
  · obtain ⟨mt, cd, r1, r2, r3, r4, r5, r6, -⟩ := Cond.code_spec hi (atoms_spec (ws := Cond.code y cc maxL ret :: BIG) hz _ hcd)
    exact ⟨mt, cd, r1, r2, r3, r4, r5, r6⟩
  · obtain ⟨⟨rfl, rfl, hP, hK, hD, hN⟩, hT⟩ := hpre
    have words := atoms_spec (ws := Cond.code y cc maxL ret :: BIG) B.pre
    have X := Stand.of_body B
    have hex : c.exceptionTable.toList = [] := by
      obtain ⟨mt, cd, q1, q2, -, -, -, -, q7, -⟩ := Cond.code_spec B.named (words _ hcd)
      obtain rfl : meth = mt := Option.some.inj (X.method.symm.trans q1)
      obtain rfl : c = cd := Option.some.inj (X.code.symm.trans q2)
      simpa using q7
    have hcx : Cx p s m av.toArray meth c cc maxL ret own D tys ad (va_A (cw σ) s.heap.size) :=
      ⟨B.exec, B.bytes, B.returns, hml, by rw [← ho]; exact findClass_of_methodNamed B.named, B.notSynchronized, fun w h => words w (List.mem_cons_of_mem _ h), fun q h => Or.inr h, hK, hN⟩
    have go := K p e s m below meth c _ s.heap [] _ hcx hex hT hP (hD.self (sz := s.heap.size)) va_S.rf (lv_entry av (n := maxL) hlen) z (by rw [B.state]; rfl) X
    rw [← lg_entry_eq] at go
    obtain ⟨t, walk, o, rest⟩ := go
    exact ⟨t, o, walk, rest⟩
/-- the state in which the method was called, but with the heap as it stands now -/
def sx_s (s T : State) : State := { s with heap := T.heap, slotsUsed := T.slotsUsed }
theorem sx_eq (X : Stand p l e R s m args below meth c T locs cells slots) : T.setVm s.vm = (sx_s s T).setFrames T.frames := X.same.1
/-- a walk may be reckoned from there, with the room that is left: nothing is written yet, and nothing new -/
theorem sx_now (X : Stand p l e R s m args below meth c T locs cells slots) {n k : Nat} (h1 : cells + n ≤ R.cells) (h2 : slots + k ≤ R.slots) :
    Stand p l e { R with cells := n, slots := k } (sx_s s T) m args below meth c T [] 0 0 where
  admits := X.admits
  cas := X.cas
  clock := X.clock
  frames := X.frames
  room := by
    have old := X.room
    have book := X.book
    have more := X.cellsAbove h1
    have wide := X.slotsAbove h2
    unfold State.hasRoom at old ⊢
    rw [Bool.and_eq_true, Bool.and_eq_true, Bool.and_eq_true] at old ⊢
    exact ⟨⟨⟨old.1.1.1, decide_eq_true more⟩, decide_eq_true wide⟩, book⟩
  hears := X.hears
  method := X.method
  code := X.code
  here := X.here
  tail := X.tail
  warmed := X.warmed
  limits := X.limits
  bytes := X.bytes
  same := by
    obtain ⟨th, hth, -⟩ := State.frames_cons X.frames
    have none := (State.sameButNew.refl (sx_s s T) (x := th) hth).setFrames T.frames X.cur
    rw [← sx_eq X] at none
    exact none
/-- what has come about since then has come about since the call -/
theorem sx_back (X : Stand p l e R s m args below meth c T locs cells slots) {V : State} {L : List Loc} {k n : Nat} (h : (sx_s s T).sameButNew V L k n) : s.sameButNew V (locs ++ L) (cells + k) (slots + n) := by
  refine X.same.trans ⟨?_, h.2⟩
  rw [sx_eq X, State.setFrames_setFrames]
  exact h.1
end TX
section TY
variable {p : Program} {l : Launch} {e : Env} {R : Room} {s : State} {m : MethodId} {args : Array Value} {below : List Frame} {meth : Method} {c : Code} {H : Heap} {locs : List Loc} {cells slots : Nat} {Q : State → Prop} {T : State}
variable {cc : ByteArray} {maxL pc : Nat} {ret : Option FieldType} {own : String} {D : va_G} {tys : List (ClassId × FieldType)} {ad : Nat → Nat} {A : Nat → Prop} {cw : St → va_W} {σ : St} {rest : List Value} {ls : Array Slot}
/-- a cell that was there is there as it was, where nothing was written -/
theorem th_old {S U : State} {k n : Nat} (h : S.sameButNew U [] k n) (q : Nat) (hq : q < S.heap.size) : U.heap[q]? = S.heap[q]? := by
  have hS := Array.getElem?_eq_getElem hq
  obtain ⟨c9, e1, e2, -, e4⟩ := h.2.2.2.2.2 q _ hS
  have hs : c9.slots = (S.heap[q]).slots := Array.ext_getElem? fun i => e4 i nofun
  rw [e1, hS, e2, hs]
theorem th_S.here {locs : List Loc} {T : State} (h : th_S A s s.heap) (hS : va_S A s.heap T.heap locs) : th_S A (sx_s s T) (sx_s s T).heap :=
  ⟨(h.1.now hS.2.1 fun _ z => z).moved (Vm.Alike.refl s.vm), (h.2.1.now hS.2.1 fun _ z => z).moved (Vm.Alike.refl s.vm), fun w hw => va_Nw.same (u := s) (U := sx_s s T) (th_nw_on w hw) rfl (h.2.2 w hw)⟩
/-- 'throw new E()' leaves the method: the world as it stood, one cell more -/
theorem throwX {k ik ic : Nat} {names : List String} {r : Int32} (X : Cx p s m args meth c cc maxL ret own D tys ad A) (hl : l.stackTraces = false) (hk0 : ¬ k = 0) (hS0 : th_S A s s.heap) (hex : c.exceptionTable.toList = [])
    (w1 : Cond.classLink own ik (exn k) ∈ BIG) (w2 : Cond.initialized (exn k) ∈ BIG) (w3 : ∀ w ∈ Bundle.ownAtoms0 own ic (exn k) names, w ∈ th_four ∨ w ∈ th_nw ∨ w ∈ BIG) (hfit : Bundle.fit (exn k) = true) (hnames : ∀ n ∈ names, Bundle.fit n = true)
    (hP : va_P D vwCl (cw σ) H) (hD : va_D A (cw σ)) (hS : va_S A s.heap H locs) (hsz : ls.size = maxL)
    (dN : decode cc pc = .ok (.new ik, 3)) (dD : decode cc (pc + 3) = .ok (.dup, 1)) (dI : decode cc (pc + 4) = .ok (.invokespecial ic, 3)) (dA : decode cc (pc + 7) = .ok (.athrow, 1))
    (hR : names.length + 3 < R.frames ∧ (rest.map fun v => v.category).sum + (13 * (names.length + 1) + 42) ≤ R.locals ∧ 1 ≤ R.cells ∧ 6 ≤ R.slots) :
    W p l e R s m args below meth c H locs 0 0 (XMQ below (QX D tys cw A k r σ) args s) (F0 m pc ls rest) := by
  obtain ⟨hx, hb, -, hml, hown, hlocks, hts, -, hK, -⟩ := id X
  intro T hT Y
  subst hT
  have htr : e.platform.stackTraces = false := by rw [Y.admits.platform]; exact hl
  have atBig : ∀ w ∈ BIG, w.before args (sx_s s T) = true := fun w h => word_at (U := sx_s s T) (State.WarmedH.refl s) (good_of_word (big_good w h)) (hts w h)
  have atS := hS0.here hS
  have atOwn : ∀ w ∈ Bundle.ownAtoms0 own ic (exn k) names, w.before args (sx_s s T) = true := fun w hw => by
    rcases w3 w hw with h | h | h
    · exact atS.four w h
    · exact (atS.2.2 w h).use (th_nw_on w h)
    · exact atBig w h
  have Z := sx_now Y (n := 1) (k := 6) (by omega) (by omega)
  obtain ⟨v1, cX, kX, fX, lieX, -, -, Z1, go1⟩ := Z.newCold hx (own := own) (C := exn k) (index := ik) (n := 6) hown (atBig _ w1) (atOwn _ (by simp [Bundle.ownAtoms0])) (atBig _ w2) (g := F0 m pc ls rest) rfl (by rw [hb]; exact dN) (Nat.le_refl _) (Nat.le_refl _)
  have fin : W p l e { R with cells := 1, slots := 6 } (sx_s s T) m args below meth c ((T.setVm v1).pushCell { cls := cX, slots := kX.instanceTypes.map defaultValue, vm := .none }).heap [] (0 + 1) (0 + 6)
      (XMQ below (QX D tys cw A k r σ) args s) (F0 m (pc + 4) ls (.ref T.heap.size :: .ref T.heap.size :: rest)) := by
    intro T2 hT2 Z2
    have hnew : T2.heap[T.heap.size]? = some (freshCell cX kX) := by rw [hT2]; exact State.heap_pushCell_size _ _
    obtain ⟨U, walk, hrun, hend, hwarm, hsame, ce, hce, hO⟩ := Z2.ctorThrow0 hx htr (own := own) (cls := exn k) (names := names) (ic := ic) hown hfit hnames atOwn nofun fX lieX hnew (Nat.le_refl _)
      (g := F0 m (pc + 4) ls (.ref T.heap.size :: .ref T.heap.size :: rest)) rfl (hsz.trans hml.symm) rfl rfl (rest := rest) rfl (by rw [hb]; exact dI) (by rw [hb]; exact dA) (by rw [hex]; exact nofun) hR.1
      (by have h1 : (Value.ref T.heap.size).category = 1 := rfl
          have h2 := hR.2.1
          simp only [F0, JFrame.monitorRoom, List.map_cons, List.sum_cons, h1]
          simp
          omega) hlocks
    have old := th_old hsame
    have all := sx_back Y hsame
    rw [List.append_nil] at all
    have grown : T.heap.size ≤ U.heap.size := hsame.2.1
    have world : wB D tys cw A σ U := ⟨hP.kept (fun k q hq => old q.1 (hP k q hq).lt), va_K.moved hwarm.alike hK, hD⟩
    have outside : va_F A s U := ⟨Nat.le_trans hS.1 grown, fun q h1 h2 => (old q (Nat.lt_of_lt_of_le h1 hS.1)).trans (hS.2.1 q h1 h2)⟩
    exact ⟨U, walk, .threw T.heap.size, hrun, hend, Or.inr ⟨hk0, _, rfl, ce, locs, world, outside, hce, hO.vm, hO.cls, hwarm, all.mono (by omega) (by omega), hS.2.2⟩⟩
  obtain ⟨U, walk, hU⟩ := lv_dup hx hb dD rfl fin _ rfl Z1
  exact ⟨U, go1 U walk, hU⟩
end TY
theorem th_in {ws : List Cond} (h : ws.all (fun w => th_four.contains w || (th_nw.contains w || (lw_tbl.contains w && goodWord w))) = true) : ∀ w ∈ ws, w ∈ th_four ∨ w ∈ th_nw ∨ w ∈ BIG := by
  intro w hw
  have h1 := List.all_eq_true.mp h w hw
  simp only [Bool.or_eq_true, Bool.and_eq_true, List.contains_iff_mem] at h1
  rcases h1 with h1 | h1 | h1
  · exact Or.inl h1
  · exact Or.inr (Or.inl h1)
  · exact Or.inr (Or.inr (List.mem_filter.mpr h1))
