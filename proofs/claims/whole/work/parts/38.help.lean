/-! Methods with handlers: caught by the first row, or by the second behind the first; their start, their calls. -/
def b3 {β : Type} (o : Option (Nat × Int32 × St)) (k : Nat → Int32 → St → Option β) : Option β := match o with
  | some a => k a.1 a.2.1 a.2.2
  | none => none
theorem b3E {β : Type} {o : Option (Nat × Int32 × St)} {k : Nat → Int32 → St → Option β} {F : β} (h : b3 o k = some F) : ∃ (a : Nat) (r : Int32) (u : St), o = some (a, r, u) ∧ k a r u = some F := by
  cases o with
  | some a => exact ⟨a.1, a.2.1, a.2.2, rfl, h⟩
  | none => cases h
section TD
variable {p : Program} {l : Launch} {e : Env} {R : Room} {s : State} {m : MethodId} {args : Array Value} {below : List Frame} {meth : Method} {c : Code} {H H1 : Heap} {locs : List Loc} {cells slots : Nat} {Q : State → Prop} {T1 : State}
variable {cc ccy : ByteArray} {maxL maxLy idx n pc : Nat} {ret rety : Option FieldType} {own C : String} {D : va_G} {tys : List (ClassId × FieldType)} {ad : Nat → Nat} {A : Nat → Prop} {cw : St → va_W} {σ σ' : St} {y : MethodName} {rm : Room} {As rest st : List Value} {ls : Array Slot} {b : Nat}
/-- a row that names a class: its number, its link from the tables as they are now, the tables behind it -/
theorem ca_row {x : ExceptionTableEntry} {k : Nat} {v : Vm} (X : Cx p s m args meth c cc maxL ret own D tys ad A) (ha : l.admits e) (hl : Cond.classLink own x.catchType (exn k) ∈ BIG) (hv : s.WarmedH v) :
    ∃ cT, s.vm.findClass (exn k) = some cT ∧ v.ClassLinks e.platform m.cls x.catchType cT ∧ s.WarmedH (v.noted m.cls x.catchType (.cls cT)) := by
  obtain ⟨-, -, -, -, hown, -, hts, -⟩ := X
  obtain ⟨cT, found, lk⟩ := Cond.classLink_spec hown (hts _ hl) e.platform (by rw [ha.platform])
  exact ⟨cT, found, hv.classLinks lk, (State.classEntry (e := e) hv lk).2.1⟩
theorem ca_lies {E : String} {i : ClassId} {v : Vm} (hv : s.WarmedH v) (h : s.vm.findClass E = some i) : ∃ k, v.classes[i]? = some k := by
  obtain ⟨k, hk⟩ := Vm.classAt_of_findClass h
  obtain ⟨k', hk', -⟩ := hv.alike.2.2 _ _ hk
  exact ⟨k', hk'⟩
theorem catch1 {k : Nat} {q : Addr} {ce : Cell} {x : ExceptionTableEntry} {tl : List ExceptionTableEntry} (X : Cx p s m args meth c cc maxL ret own D tys ad A) (hTh : th_S A s s.heap) (hex : c.exceptionTable.toList = x :: tl) (hx : covers x pc = true) (h0 : x.catchType ≠ 0) (hl : Cond.classLink own x.catchType (exn k) ∈ BIG) (hcast : Cond.castable (exn k) (exn k) ∈ th_nw)
    (hce : H1[q]? = some ce) (hcv : ce.vm = .none) (hcl : s.vm.findClass (exn k) = some ce.cls) (hT1 : T1.heap = H1) (Y : Stand p l e R s m args below meth c T1 locs cells slots) (kk : W p l e R s m args below meth c H1 locs cells slots Q (F0 m x.handlerPc ls [.ref q])) :
    ∃ t, Steps p.tables e below ((T1.setTop (F0 m pc ls rest)).pushFrame (.throwing q)) t ∧ Q t := by
  obtain ⟨cT, found, lk, warm⟩ := ca_row X Y.admits hl Y.warmed
  obtain rfl : ce.cls = cT := Option.some.inj (hcl.symm.trans found)
  subst hT1
  obtain ⟨t, t1, t2⟩ := kk (T1.setVm (T1.vm.noted m.cls x.catchType (.cls ce.cls))) rfl (Y.noted warm)
  refine ⟨t, ca_on Y rfl ?_ t1, t2⟩
  rw [hex]
  exact ca_hit (S := (T1.setTop (F0 m pc ls rest)).pushFrame (.throwing q)) hx h0 lk rfl hce hcv (ca_lies warm hcl) (Vm.assignable_self _ _)
theorem catch2 {k k2 : Nat} {q : Addr} {ce : Cell} {z x : ExceptionTableEntry} {tl : List ExceptionTableEntry} (X : Cx p s m args meth c cc maxL ret own D tys ad A) (hTh : th_S A s s.heap) (hex : c.exceptionTable.toList = z :: x :: tl) (hz : covers z pc = true) (hz0 : z.catchType ≠ 0) (hzl : Cond.classLink own z.catchType (exn k2) ∈ BIG) (hno : va_Nc (exn k) (exn k2) s)
    (hx : covers x pc = true) (h0 : x.catchType ≠ 0) (hl : Cond.classLink own x.catchType (exn k) ∈ BIG) (hcast : Cond.castable (exn k) (exn k) ∈ th_nw)
    (hce : H1[q]? = some ce) (hcv : ce.vm = .none) (hcl : s.vm.findClass (exn k) = some ce.cls) (hT1 : T1.heap = H1) (Y : Stand p l e R s m args below meth c T1 locs cells slots) (kk : W p l e R s m args below meth c H1 locs cells slots Q (F0 m x.handlerPc ls [.ref q])) :
    ∃ t, Steps p.tables e below ((T1.setTop (F0 m pc ls rest)).pushFrame (.throwing q)) t ∧ Q t := by
  obtain ⟨cZ, foundZ, lkZ, warmZ⟩ := ca_row X Y.admits hzl Y.warmed
  obtain ⟨cT, found, lk, warm⟩ := ca_row X Y.admits hl warmZ
  obtain rfl : ce.cls = cT := Option.some.inj (hcl.symm.trans found)
  obtain ⟨i, j, hi, hj, apart⟩ := hno
  obtain rfl : ce.cls = i := Option.some.inj (hcl.symm.trans hi)
  obtain rfl : cZ = j := Option.some.inj (foundZ.symm.trans hj)
  subst hT1
  obtain ⟨t, t1, t2⟩ := kk (T1.setVm ((T1.vm.noted m.cls z.catchType (.cls cZ)).noted m.cls x.catchType (.cls ce.cls))) rfl (Y.noted warm)
  refine ⟨t, ca_on Y rfl ?_ t1, t2⟩
  rw [hex]
  refine ca_miss (S := (T1.setTop (F0 m pc ls rest)).pushFrame (.throwing q)) hz hz0 lkZ rfl hce hcv (ca_lies warmZ hcl) (ca_lies warmZ foundZ) ((warmZ.alike.assignable _ _).trans apart) ?_
  exact ca_hit (S := ((T1.setTop (F0 m pc ls rest)).pushFrame (.throwing q)).setVm _) hx h0 lk rfl hce hcv (ca_lies warm hcl) (Vm.assignable_self _ _)
def hPc (D : va_G) (tys : List (ClassId × FieldType)) (ad : Nat → Nat) (cw : St → va_W) (av : List Value) (σ : St) (sz : Nat) : Array Value → State → Prop := fun a U => tPc D tys ad cw av σ sz a U ∧ va_Nc (exn 2) (exn 1) U
def MH (l : Launch) (y : MethodName) (cc : ByteArray) (maxL : Nat) (ret : Option FieldType) (hh : List (Nat × Nat × Nat × Nat)) (rm : Room) (D : va_G) (tys : List (ClassId × FieldType)) (ad : Nat → Nat) (cw : St → va_W) (av : List Value) (σ : St) (sz : Nat) (r : Int32) (σ' : St) : Prop :=
  Met l y (Cond.codeWith y cc maxL ret hh :: BIG) rm (hPc D tys ad cw av σ sz) (QI D tys cw (va_A (cw σ) sz) r σ') 1 6 (va_A (cw σ) sz)
def th_ent (q : Nat × Nat × Nat × Nat) : ExceptionTableEntry := ⟨q.1, q.2.1, q.2.2.1, q.2.2.2⟩
theorem th_ents {L : List ExceptionTableEntry} {hh : List (Nat × Nat × Nat × Nat)} (h : L.map (fun h => (h.startPc, h.endPc, h.handlerPc, h.catchType)) = hh) : L = hh.map th_ent := by
  rw [← h, List.map_map]
  have e1 : (th_ent ∘ fun h : ExceptionTableEntry => (h.startPc, h.endPc, h.handlerPc, h.catchType)) = id := by funext x; cases x; rfl
  rw [e1, List.map_id]
theorem startH {hh : List (Nat × Nat × Nat × Nat)} {av : List Value} {sz : Nat} {r : Int32} (hy : plainName y.cls = true) (ho : y.cls = own) (hlen : (lg_sl av).length ≤ maxL)
    (K : ∀ (p : Program) (e : Env) (s : State) (m : MethodId) (below : List Frame) (meth : Method) (c : Code) (A : Nat → Prop) (H : Heap) (locs : List Loc) (ls : Array Slot), Cx p s m av.toArray meth c cc maxL ret own D tys ad A → c.exceptionTable.toList = hh.map th_ent → th_S A s s.heap → va_Nc (exn 2) (exn 1) s → va_P D vwCl (cw σ) H → va_D A (cw σ) → va_S A s.heap H locs → lv_has ls maxL (lv_args 0 av) → W p l e rm s m av.toArray below meth c H locs 0 0 (MQ below (QI D tys cw A r σ') av.toArray s 1 6 A) (F0 m 0 ls [])) :
    MH l y cc maxL ret hh rm D tys ad cw av σ sz r σ' := by
  refine va_MetW (cc := cc) (maxL := maxL) (ret := ret) (hh := hh) hy rfl ?_
  intro p e s m args below meth c s₁ B hml hv
  obtain ⟨⟨⟨rfl, hsz, hP, hK, hD0, hN⟩, hT⟩, hNc⟩ := hv
  have hts0 := atoms_spec (ws := Cond.codeWith y cc maxL ret hh :: BIG) B.pre
  have hown : s.vm.findClass own = some m.cls := by rw [← ho]; exact findClass_of_methodNamed B.named
  subst hsz
  have hD := hD0.self (sz := s.heap.size)
  have hl := lv_entry av (n := maxL) hlen
  have X₀ := Stand.of_body B
  obtain ⟨m9, meth', c', hn9, q1, q2, -, -, q7, -⟩ := Cond.codeWith_spec (hts0 _ List.mem_cons_self)
  cases B.named.symm.trans hn9
  cases X₀.method.symm.trans q1
  cases X₀.code.symm.trans q2
  rw [lg_entry_eq]
  exact K p e s m below meth c _ s.heap [] _ ⟨B.exec, B.bytes, B.returns, hml, hown, B.notSynchronized, fun w h => hts0 w (List.mem_cons_of_mem _ h), fun q h => Or.inr h, hK, hN⟩ (th_ents q7) hT hNc hP hD va_S.rf hl
theorem leafH {r : Int32} (X : Cx p s m args meth c cc maxL (some .int) own D tys ad A) (hP : va_P D vwCl (cw σ) H) (hD : va_D A (cw σ)) (hS : va_S A s.heap H locs) (d : decode cc pc = .ok (.ireturn, 1)) : W p l e R s m args below meth c H locs 1 6 (MQ below (QI D tys cw A r σ) args s 1 6 A) (F0 m pc ls [.int r]) := by
  obtain ⟨hx, hb, hr, hml, hown, hlocks, hts, hA, hK, hZ⟩ := id X
  exact W.iret hx hb hr (fun t ht hW => ⟨⟨r, σ, rfl, ⟨rfl, rfl⟩, by rw [ht]; exact hP, va_K.moved hW.alike hK, hD⟩, hS.F ht⟩) hS.2.2 d hlocks
end TD
