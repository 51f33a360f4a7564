/-! Methods that may throw: what they promise, how a throw leaves one, how a caller goes on behind one. -/
section TX
/-- a static field of references of a class: where it lies, that it holds a reference or null -/
def th_Z (C n d : String) (A : Nat → Prop) (U : State) (H : Heap) : Prop := ∃ (cf : ClassId) (k : Class) (i : Nat) (f : Field) (a : Nat) (cell : Cell) (v : Value), U.vm.findClass C = some cf ∧ U.fieldFound? C n d = some (cf, k, i, f) ∧ f.isStatic = true ∧ k.statics = some a ∧ H[a]? = some cell ∧ (cell.vm.isStatics = true ∧ cell.cls = cf ∧ f.slot < cell.slots.size ∧ cell.slots[f.slot]? = some v ∧ v.isRef = true) ∧ (k.staticTypes[f.slot]? = some f.type ∧ k.init = .initialized) ∧ ¬ A a
theorem th_Z.moved {C n d : String} {A : Nat → Prop} {u U : State} {H : Heap} (hvm : u.vm.Alike U.vm) (h : th_Z C n d A u H) : th_Z C n d A U H := by
  obtain ⟨cf, k, i, f, a, cell, v, h1, h2, h3, h4, h5, h6, h7, h8⟩ := h
  obtain ⟨k', hi', he⟩ := State.fieldFound?_setVm hvm h2
  exact ⟨cf, k', i, f, a, cell, v, by rw [hvm.findClass]; exact h1, hi', h3, by rw [he]; exact h4, h5, h6, by rw [he]; exact h7, h8⟩
theorem th_Z.now {C n d : String} {A B : Nat → Prop} {U : State} {H H1 : Heap} (h : th_Z C n d A U H) (hq : ∀ a : Nat, a < H.size → ¬ A a → H1[a]? = H[a]?) (hAB : ∀ q, B q → A q) : th_Z C n d B U H1 := by
  obtain ⟨cf, k, i, f, a, cell, v, h1, h2, h3, h4, h5, h6, h7, h8⟩ := h
  exact ⟨cf, k, i, f, a, cell, v, h1, h2, h3, h4, by rw [hq a (Array.getElem?_eq_some_iff.mp h5).1 h8]; exact h5, h6, h7, fun z => h8 (hAB a z)⟩
theorem th_Z.lay {C n d : String} {A : Nat → Prop} {s : State} {args : Array Value} (h : th_Z C n d A s s.heap) : (Cond.laysStatic C n d).before args s = true := by
  obtain ⟨cf, k, i, f, a, cell, v, h1, h2, h3, h4, h5, ⟨h6, h7, h8, -, -⟩, ⟨h9, -⟩, -⟩ := h
  exact Cond.laysStatic_of (args := args) (first := s) (o := none) (s := s) (idx := []) h1 h2 h3 h4 h5 h6 h7 h8 h9
theorem th_Z.ref {C n d : String} {A : Nat → Prop} {s : State} {args : Array Value} (h : th_Z C n d A s s.heap) : (Cond.isRef (.static C n d)).before args s = true := by
  obtain ⟨cf, k, i, f, a, cell, v, h1, h2, h3, h4, h5, ⟨h6, h7, h8, h9, h10⟩, -, -⟩ := h
  have he : (Term.static C n d).eval args s none [] s = some v := by
    simp [Term.eval, State.fieldNamed?, h2, h3, h4, h5, h6, h9]
  simp only [Cond.before, Cond.holds, Cond.value, he]
  cases v <;> simp_all [Value.isRef]
theorem th_Z.of {C n d : String} {A : Nat → Prop} {s : State} {args : Array Value} (hl : (Cond.laysStatic C n d).before args s = true) (hini : (Cond.initialized C).before args s = true) (hr : (Cond.isRef (.static C n d)).before args s = true) (hA : ∀ a : Nat, a < s.heap.size → ¬ A a) : th_Z C n d A s s.heap := by
  obtain ⟨cf, k, i, f, a, cell, h1, h2, h3, h4, h5, h6, h7, h8, h9⟩ := Cond.laysStatic_spec hl
  cases hv : (Term.static C n d).eval args s none [] s with
  | none => simp [Cond.before, Cond.holds, Cond.value, hv] at hr
  | some w =>
    obtain ⟨-, a', cell', ha', hcell', -, hslot⟩ := Term.static_spec h2 hv
    cases h4.symm.trans ha'
    cases h5.symm.trans hcell'
    refine ⟨cf, k, i, f, a, cell, w, h1, h2, h3, h4, h5, ⟨h6, h7, h8, hslot, ?_⟩, ⟨h9, Cond.initialized_spec h1 (State.fieldFound?_spec h2).1 hini⟩, hA a (Array.getElem?_eq_some_iff.mp h5).1⟩
    simp only [Cond.before, Cond.holds, Cond.value, hv] at hr
    cases w <;> simp_all [Value.isRef]
/-- the two statics that a new exception reads -/
def th_nd : List MethodName := [⟨"java/lang/RuntimeException", "<init>", "()V"⟩, ⟨"java/lang/Exception", "<init>", "()V"⟩, ⟨"java/lang/Throwable", "<init>", "()V"⟩]
def th_nc : List (String × String) := [("java/lang/IllegalArgumentException", "java/lang/IllegalArgumentException"), ("java/lang/IllegalStateException", "java/lang/IllegalStateException"), ("java/lang/UnsupportedOperationException", "java/lang/UnsupportedOperationException"), ("java/util/NoSuchElementException", "java/util/NoSuchElementException")]
def th_nw : List Cond := th_nd.map Cond.declares ++ th_nc.map fun q => Cond.castable q.1 q.2
theorem th_nw_on : ∀ w ∈ th_nw, w.onTables = true := by decide +kernel
theorem th_nw_warm {s U : State} (hW : s.WarmedH U.vm) (h : ∀ w ∈ th_nw, va_Nw w s) : ∀ w ∈ th_nw, va_Nw w U := by
  intro w hw
  have hq := h w hw
  rcases List.mem_append.mp hw with h1 | h1
  · obtain ⟨x, -, rfl⟩ := List.mem_map.mp h1
    exact hq.warmD hW
  · obtain ⟨x, -, rfl⟩ := List.mem_map.mp h1
    exact hq.warmC hW
def th_S (A : Nat → Prop) (U : State) (H : Heap) : Prop := th_Z Bundle.tN "UNASSIGNED_STACK" Bundle.steD A U H ∧ th_Z Bundle.tN "SUPPRESSED_SENTINEL" Bundle.listD A U H ∧ ∀ w ∈ th_nw, va_Nw w U
def th_four : List Cond := [.isRef (.static Bundle.tN "UNASSIGNED_STACK" Bundle.steD), .isRef (.static Bundle.tN "SUPPRESSED_SENTINEL" Bundle.listD), .laysStatic Bundle.tN "UNASSIGNED_STACK" Bundle.steD, .laysStatic Bundle.tN "SUPPRESSED_SENTINEL" Bundle.listD]
theorem th_S.four {A : Nat → Prop} {s : State} {args : Array Value} (h : th_S A s s.heap) : ∀ w ∈ th_four, w.before args s = true := by
  intro w hw
  simp only [th_four, List.mem_cons, List.not_mem_nil, or_false] at hw
  rcases hw with rfl | rfl | rfl | rfl
  · exact h.1.ref
  · exact h.2.1.ref
  · exact h.1.lay
  · exact h.2.1.lay
def exn : Nat → String
  | 1 => "java/lang/IllegalArgumentException"
  | 2 => "java/lang/IllegalStateException"
  | 3 => "java/lang/UnsupportedOperationException"
  | _ => "java/util/NoSuchElementException"
def th_T (D : va_G) (tys : List (ClassId × FieldType)) (cw : St → va_W) (A : Nat → Prop) (k : Nat) (σ' : St) (st : State) (q : Addr) (t : State) : Prop := ∃ (ce : Cell) (L : List Loc), wB D tys cw A σ' t ∧ va_F A st t ∧ t.heap[q]? = some ce ∧ ce.vm = .none ∧ st.vm.findClass (exn k) = some ce.cls ∧ st.WarmedH t.vm ∧ st.sameButNew ({ t with vm := st.vm } : State) L 1 6 ∧ ∀ z ∈ L, A z.base
def QX (D : va_G) (tys : List (ClassId × FieldType)) (cw : St → va_W) (A : Nat → Prop) (k : Nat) (r : Int32) (σ' : St) : Array Value → State → Outcome → State → Prop := fun a st o t =>
  (k = 0 ∧ QI D tys cw A r σ' a st o t ∧ ∃ L, FrameEnd st o t L 1 6 ∧ ∀ q ∈ L, A q.base) ∨ (¬ k = 0 ∧ ∃ q : Addr, o = .threw q ∧ th_T D tys cw A k σ' st q t)
def XMQ (below : List Frame) (Qx : Array Value → State → Outcome → State → Prop) (a : Array Value) (s : State) : State → Prop := fun t => ∃ o, t.status = .running ∧ Ended t below o ∧ Qx a s o t
def tPc (D : va_G) (tys : List (ClassId × FieldType)) (ad : Nat → Nat) (cw : St → va_W) (av : List Value) (σ : St) (sz : Nat) : Array Value → State → Prop := fun a U => wPc D tys ad cw av σ sz a U ∧ th_S (va_A (cw σ) sz) U U.heap
def MX (l : Launch) (y : MethodName) (cc : ByteArray) (maxL : Nat) (ret : Option FieldType) (rm : Room) (D : va_G) (tys : List (ClassId × FieldType)) (ad : Nat → Nat) (cw : St → va_W) (av : List Value) (σ : St) (sz : Nat) (k : Nat) (r : Int32) (σ' : St) : Prop :=
  MetFree l y (headSpec (Cond.code y cc maxL ret :: BIG) rm) (tPc D tys ad cw av σ sz) (fun _ _ _ _ _ => True) (QX D tys cw (va_A (cw σ) sz) k r σ')
variable {p : Program} {l : Launch} {e : Env} {R : Room} {s : State} {m : MethodId} {args : Array Value} {below : List Frame} {meth : Method} {c : Code} {H : Heap} {locs : List Loc} {cells slots : Nat} {Q : State → Prop} {T : State}
variable {cc ccy : ByteArray} {maxL maxLy idx n pc : Nat} {ret rety : Option FieldType} {own C : String} {D : va_G} {tys : List (ClassId × FieldType)} {ad : Nat → Nat} {A : Nat → Prop} {cw : St → va_W} {σ σ' : St} {y : MethodName} {rm : Room} {As rest st : List Value} {ls : Array Slot} {b : Nat}
theorem leafX {r : Int32} (X : Cx p s m args meth c cc maxL (some .int) own D tys ad A) (hP : va_P D vwCl (cw σ) H) (hD : va_D A (cw σ)) (hS : va_S A s.heap H locs) (d : decode cc pc = .ok (.ireturn, 1)) : W p l e R s m args below meth c H locs 0 0 (XMQ below (QX D tys cw A 0 r σ) args s) (F0 m pc ls [.int r]) := by
  obtain ⟨hx, hb, hr, hml, hown, hlocks, hts, hA, hK, hZ⟩ := id X
  refine W.widen (k := 1) (n := 6) (Nat.zero_le _) (Nat.zero_le _) ?_
  intro T hT Y
  obtain ⟨t, a1, o, b1, b2, b3, b4⟩ := W.iret (p := p) (l := l) (e := e) (R := R) (s := s) (m := m) (args := args) (below := below) (meth := meth) (c := c) (H := H) (locs := locs) (cells := 1) (slots := 6) (ls := ls) (Qc := QI D tys cw A r σ) (free := A) hx hb hr (fun t ht hW => ⟨⟨r, σ, rfl, ⟨rfl, rfl⟩, by rw [ht]; exact hP, va_K.moved hW.alike hK, hD⟩, hS.F ht⟩) hS.2.2 d hlocks T hT Y
  exact ⟨t, a1, o, b1, b2, Or.inl ⟨rfl, b3, b4⟩⟩
theorem startX {av : List Value} {sz k : Nat} {r : Int32} (hy : plainName y.cls = true) (ho : y.cls = own) (hlen : (lg_sl av).length ≤ maxL)
    (K : ∀ (p : Program) (e : Env) (s : State) (m : MethodId) (below : List Frame) (meth : Method) (c : Code) (A : Nat → Prop) (H : Heap) (locs : List Loc) (ls : Array Slot), Cx p s m av.toArray meth c cc maxL ret own D tys ad A → c.exceptionTable.toList = [] → th_S A s s.heap → va_P D vwCl (cw σ) H → va_D A (cw σ) → va_S A s.heap H locs → lv_has ls maxL (lv_args 0 av) → W p l e rm s m av.toArray below meth c H locs 0 0 (XMQ below (QX D tys cw A k r σ') av.toArray s) (F0 m 0 ls [])) :
    MX l y cc maxL ret rm D tys ad cw av σ sz k r σ' := by
  refine MetFree.of_bodyS (code := cc) (maxLocals := maxL) (ret := ret) hy ?_ ?_
  · intro args s m h hn
    obtain ⟨meth, c, h1, h2, h3, h4, h5, h6, -, -⟩ := Cond.code_spec hn (atoms_spec (ws := Cond.code y cc maxL ret :: BIG) h _ List.mem_cons_self)
    exact ⟨meth, c, h1, h2, h3, h4, h5, h6⟩
  · intro p e s m args below meth c s₁ B hml hP _
    obtain ⟨⟨rfl, hsz, hP, hK, hD0, hN⟩, hT⟩ := hP
    have hts0 := atoms_spec (ws := Cond.code y cc maxL ret :: BIG) B.pre
    have hown : s.vm.findClass own = some m.cls := by rw [← ho]; exact findClass_of_methodNamed B.named
    subst hsz
    have hD := hD0.self (sz := s.heap.size)
    have hl := lv_entry av (n := maxL) hlen
    have X₀ := Stand.of_body B
    have hh0 : s₁.heap = s.heap := by rw [B.state]; rfl
    obtain ⟨meth', c', q1, q2, -, -, -, -, q7, -⟩ := Cond.code_spec B.named (hts0 _ List.mem_cons_self)
    cases X₀.method.symm.trans q1
    cases X₀.code.symm.trans q2
    have hex : c.exceptionTable.toList = [] := by
      have := q7
      simpa using this
    obtain ⟨t, a1, o, b1, b2, b3⟩ := K p e s m below meth c _ s.heap [] _ ⟨B.exec, B.bytes, B.returns, hml, hown, B.notSynchronized, fun w h => hts0 w (List.mem_cons_of_mem _ h), fun q h => Or.inr h, hK, hN⟩ hex hT hP hD va_S.rf hl s₁ hh0 X₀
    rw [← lg_entry_eq] at a1
    exact ⟨t, o, a1, b1, b2, b3⟩
/-- where the frame stands now, as if its method had just been called in this heap -/
theorem th_anew (X : Stand p l e R s m args below meth c T locs cells slots) {R' : Room} (hf : R'.frames ≤ R.frames) (hl : R'.locals ≤ R.locals) (hc : cells + R'.cells ≤ R.cells) (hs : slots + R'.slots ≤ R.slots) :
    Stand p l e R' ((T.setVm s.vm).setFrames (.invoking m args :: below)) m args below meth c T [] 0 0 := by
  have htop : (T.setVm s.vm).topJava?.isSome := X.here.top
  have hF : ((T.setVm s.vm).setFrames (.invoking m args :: below)).frames = .invoking m args :: below := State.frames_setFrames _ (State.cur_lt_of_top htop)
  obtain ⟨g₀, hg0⟩ := Option.isSome_iff_exists.mp htop
  obtain ⟨r, hr⟩ := State.topJava?_eq_some.mp hg0
  have hnil : T.heap.toList.drop T.heap.size = [] := List.drop_eq_nil_of_le (Nat.le_of_eq Array.length_toList)
  refine ⟨X.admits, X.cas, X.clock, hF, ?_, X.hears, X.method, X.code, X.here, X.tail, X.warmed, ?_, ?_, ?_, Nat.le_refl _, Nat.le_refl _, ?_, ?_, fun a c9 h9 => ⟨c9, h9, rfl, rfl, fun _ _ => rfl⟩⟩
  · have h := X.room
    have hU : ((T.setVm s.vm).setFrames (.invoking m args :: below)).localsInUse = s.localsInUse := by
      rw [State.localsInUse_invoking hF (meth := meth) (c := c) X.method X.code, State.localsInUse_invoking X.frames X.method X.code]
    have hl9 : e.platform.stackLimits (T.setVm s.vm).me = e.platform.stackLimits s.me := X.limits
    have hb9 : (T.setVm s.vm).me.stackBytes = s.me.stackBytes := X.bytes
    have q1 := X.heapSize
    have q2 := X.used
    simp only [State.hasRoom, Bool.and_eq_true, decide_eq_true_eq] at h ⊢
    obtain ⟨⟨⟨⟨h1, h2, h3, h4, h5, h6⟩, h7⟩, h8⟩, h9⟩ := h
    rw [X.frames, List.length_cons] at h2 h3
    simp only [hF, hU, List.length_cons, State.stackLimits_setFrames, State.stackBytes_setFrames, hl9, hb9]
    refine ⟨⟨⟨⟨by omega, by omega, by omega, by omega, by omega, h6⟩, ?_⟩, ?_⟩, X.book⟩
    · show T.heap.size + R'.cells ≤ e.platform.maxCells
      omega
    · show T.slotsUsed + R'.slots ≤ e.platform.maxSlots
      omega
  · rw [State.stackLimits_setFrames]; rfl
  · rw [State.stackBytes_setFrames]; rfl
  · obtain ⟨t, ht, -⟩ := State.frames_cons hr
    show T.setVm s.vm = { ((T.setVm s.vm).setFrames (.invoking m args :: below)).setFrames (T.setVm s.vm).frames with heap := T.heap, slotsUsed := T.slotsUsed }
    rw [State.setFrames_setFrames, State.setFrames_self ht]
    rfl
  · show T.slotsUsed = T.slotsUsed + ((T.heap.toList.drop T.heap.size).map (·.slots.size)).sum
    rw [hnil]; rfl
  · show ((T.heap.toList.drop T.heap.size).map (·.slots.size)).sum ≤ 0
    rw [hnil]; exact Nat.le_refl _
end TX
section TY
variable {p : Program} {l : Launch} {e : Env} {R : Room} {s : State} {m : MethodId} {args : Array Value} {below : List Frame} {meth : Method} {c : Code} {H : Heap} {locs : List Loc} {cells slots : Nat} {Q : State → Prop} {T : State}
variable {cc : ByteArray} {maxL pc : Nat} {ret : Option FieldType} {own : String} {D : va_G} {tys : List (ClassId × FieldType)} {ad : Nat → Nat} {A : Nat → Prop} {cw : St → va_W} {σ : St} {rest : List Value} {ls : Array Slot}
theorem th_old {S U : State} {k n : Nat} (h : S.sameButNew U [] k n) : S.heap.size ≤ U.heap.size ∧ ∀ q : Nat, q < S.heap.size → U.heap[q]? = S.heap[q]? := by
  obtain ⟨-, h2, -, -, -, h6⟩ := h
  refine ⟨h2, fun q hq => ?_⟩
  obtain ⟨c9, e1, e2, -, e4⟩ := h6 q _ (Array.getElem?_eq_getElem hq)
  have hs : c9.slots = (S.heap[q]).slots := Array.ext_getElem? fun i => e4 i (fun hm => nomatch hm)
  rw [hs] at e2
  rw [e1, e2, Array.getElem?_eq_getElem hq]
/-- 'throw new E()' leaves the method: the world as it stood, one cell more -/
theorem throwX {k ik ic : Nat} {names : List String} {r : Int32} (X : Cx p s m args meth c cc maxL ret own D tys ad A) (hl : l.stackTraces = false) (hk0 : ¬ k = 0) (hS0 : th_S A s s.heap) (hex : c.exceptionTable.toList = [])
    (w1 : Cond.classLink own ik (exn k) ∈ BIG) (w2 : Cond.initialized (exn k) ∈ BIG) (w3 : ∀ w ∈ Bundle.ownAtoms0 own ic (exn k) names, w ∈ th_four ∨ w ∈ th_nw ∨ w ∈ BIG) (hfit : Bundle.fit (exn k) = true) (hnames : ∀ n ∈ names, Bundle.fit n = true)
    (hP : va_P D vwCl (cw σ) H) (hD : va_D A (cw σ)) (hS : va_S A s.heap H locs) (hsz : ls.size = maxL)
    (d0 : decode cc pc = .ok (.new ik, 3)) (d3 : decode cc (pc + 3) = .ok (.dup, 1)) (d4 : decode cc (pc + 4) = .ok (.invokespecial ic, 3)) (d7 : decode cc (pc + 7) = .ok (.athrow, 1))
    (hR : names.length + 3 < R.frames ∧ (rest.map fun v => v.category).sum + (13 * (names.length + 1) + 42) ≤ R.locals ∧ 1 ≤ R.cells ∧ 6 ≤ R.slots) :
    W p l e R s m args below meth c H locs 0 0 (XMQ below (QX D tys cw A k r σ) args s) (F0 m pc ls rest) := by
  obtain ⟨hx, hb, hr, hml, hown, hlocks, hts, hA, hK, hZ⟩ := id X
  obtain ⟨hR1, hR2, hR3, hR4⟩ := hR
  intro T hT Y
  have htr : e.platform.stackTraces = false := (show e.platform.stackTraces = l.stackTraces by rw [Y.admits.platform]).trans hl
  have Z := th_anew Y (R' := { frames := R.frames, locals := R.locals, cells := 1, slots := 6 }) (Nat.le_refl _) (Nat.le_refl _) (by show 0 + 1 ≤ R.cells; omega) (by show 0 + 6 ≤ R.slots; omega)
  obtain ⟨s', hs'⟩ : ∃ z, z = (T.setVm s.vm).setFrames (.invoking m args :: below) := ⟨_, rfl⟩
  rw [← hs'] at Z
  have hvm : s'.vm = s.vm := by rw [hs']; rfl
  have hhp : s'.heap = H := by rw [hs']; exact hT
  have hW0 : s.WarmedH s'.vm := by rw [hvm]; exact State.WarmedH.refl s
  have hS' : th_S A s' s'.heap := by
    rw [hhp]
    exact ⟨(hS0.1.now hS.2.1 (fun _ h => h)).moved hW0.alike, (hS0.2.1.now hS.2.1 (fun _ h => h)).moved hW0.alike, fun w hw => (hS0.2.2 w hw).same (th_nw_on w hw) hvm.symm⟩
  have big : ∀ w ∈ BIG, w.before args s' = true := fun w h => word_at hW0 (good_of_word (big_good w h)) (hts w h)
  have hat : ∀ w ∈ Bundle.ownAtoms0 own ic (exn k) names, w.before args s' = true := fun w hw => (w3 w hw).elim (fun h => hS'.four w h) (fun h => h.elim (fun h => (hS'.2.2 w h).use (th_nw_on w h)) (big w))
  have hown' : s'.vm.findClass own = some m.cls := by rw [hvm]; exact hown
  have hins : (Cond.instantiable (exn k) 6).before args s' = true := hat _ (by simp [Bundle.ownAtoms0])
  obtain ⟨vm₁, cX, kX, hfX, hkX, -, -, X₁, st1⟩ := Z.newCold hx (own := own) (C := exn k) (index := ik) (n := 6) hown' (big _ w1) hins (big _ w2) (g := F0 m pc ls rest) rfl (by rw [hb]; exact d0) (Nat.le_refl _) (Nat.le_refl _)
  obtain ⟨T1, hT1⟩ : ∃ z, z = (T.setVm vm₁).pushCell { cls := cX, slots := kX.instanceTypes.map defaultValue, vm := .none } := ⟨_, rfl⟩
  rw [← hT1] at X₁ st1
  have hcat : (Value.ref T.heap.size).category = 1 := rfl
  have hcellA : T1.heap[T.heap.size]? = some (freshCell cX kX) := by rw [hT1]; exact State.heap_pushCell_size _ _
  have d3' : decode c.code (pc + 3) = .ok (.dup, 1) := by rw [hb]; exact d3
  have hnew : s'.heap.size ≤ T.heap.size := by rw [hhp, hT]; exact Nat.le_refl _
  obtain ⟨U, hsteps, hrun, hend, hW, hsame, ce, hce, hO⟩ := X₁.ctorThrow0 hx htr (own := own) (cls := exn k) (names := names) (ic := ic) hown' hfit hnames hat (fun x hx => nomatch hx) hfX hkX hcellA hnew
    (g := { method := m, pc := pc + 4, locals := ls, stack := .ref T.heap.size :: .ref T.heap.size :: rest, locked := none }) rfl (hsz.trans hml.symm) rfl rfl (rest := rest) rfl
    (by rw [hb]; exact d4) (by rw [hb]; exact d7) (by rw [hex]; exact fun x h => nomatch h) hR1 (by simp only [List.map_cons, List.sum_cons, hcat, JFrame.monitorRoom]; simp; omega) hlocks
  obtain ⟨f1, f2⟩ := th_old hsame
  rw [hhp] at f1 f2
  have hWs : s.WarmedH U.vm := State.WarmedH.trans hW0 hW
  have hcl : s.vm.findClass (exn k) = some ce.cls := by
    have h9 := hO.cls
    rw [hvm] at h9
    exact h9
  have hall : s.sameButNew ({ U with vm := s.vm } : State) locs 1 6 := by
    subst hs'
    obtain ⟨e1, e2⟩ := hsame
    rw [State.setFrames_setFrames] at e1
    have h2 : (T.setVm s.vm).sameButNew ({ U with vm := s.vm } : State) [] (0 + 1) (0 + 6) := ⟨e1, e2⟩
    have h3 := Y.same.trans h2
    rw [List.append_nil] at h3
    exact h3.mono (by omega) (by omega)
  have hPU : va_P D vwCl (cw σ) U.heap := hP.kept (fun k q hq => f2 q.1 ((hP k q hq).lt))
  have hFU : va_F A s U := ⟨Nat.le_trans hS.1 f1, fun q h1 h2 => (f2 q (Nat.lt_of_lt_of_le h1 hS.1)).trans (hS.2.1 q h1 h2)⟩
  refine ⟨U, ?_, .threw T.heap.size, hrun, hend, Or.inr ⟨hk0, T.heap.size, rfl, ce, locs, ⟨hPU, va_K.moved hWs.alike hK, hD⟩, hFU, hce, hO.vm, hcl, hWs, hall, hS.2.2⟩⟩
  refine st1 _ ?_
  show Steps p.tables e below (T1.setTop { method := m, pc := pc + 3, locals := ls, stack := .ref T.heap.size :: rest, locked := none }) _
  jvm_step X₁.here [X₁.here.top, hx, d3', Value.category]
  exact hsteps
end TY
theorem th_in {ws : List Cond} (h : ws.all (fun w => th_four.contains w || (th_nw.contains w || (lw_tbl.contains w && goodWord w))) = true) : ∀ w ∈ ws, w ∈ th_four ∨ w ∈ th_nw ∨ w ∈ BIG := by
  intro w hw
  have h1 := List.all_eq_true.mp h w hw
  simp only [Bool.or_eq_true, Bool.and_eq_true, List.contains_iff_mem] at h1
  rcases h1 with h1 | h1 | h1
  · exact Or.inl h1
  · exact Or.inr (Or.inl h1)
  · exact Or.inr (Or.inr (List.mem_filter.mpr h1))
