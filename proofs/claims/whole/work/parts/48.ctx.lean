def lw_tm (i : Nat) : Term := (strs.map fun q => Term.string q.1 q.2.1).getD i (.arg 0)
theorem lw_sex : ∀ i : Nat, i < strs.length → Cond.exactly (lw_tm i) "java/lang/String" ∈ (flatC (Jvm.Cond.and given_1 narrow_1)) := by decide +kernel
theorem lw_sco : ∀ i : Nat, i < strs.length → Cond.eq (.field (lw_tm i) "java/lang/String" "coder" "B") (.int 0) ∈ (flatC (Jvm.Cond.and given_1 narrow_1)) := by decide +kernel
theorem lw_sar : ∀ i : Nat, i < strs.length → Cond.arrayOf (.field (lw_tm i) "java/lang/String" "value" "[B") .byte ∈ (flatC (Jvm.Cond.and given_1 narrow_1)) := by decide +kernel
theorem lw_sle : ∀ i : Nat, i < strs.length → Cond.eq (.length (.field (lw_tm i) "java/lang/String" "value" "[B")) (.int (Int32.ofNat ((strs.map fun q => q.2.2.2.length).getD i 0))) ∈ (flatC (Jvm.Cond.and given_1 narrow_1)) := by decide +kernel
theorem lw_sel : ∀ i : Nat, i < strs.length → ∀ j : Nat, j < (strs.map fun q => q.2.2.2.length).getD i 0 → Cond.eq (.elem (.field (lw_tm i) "java/lang/String" "value" "[B") (.int (Int32.ofNat j))) (.int (((strs.map fun q => q.2.2.2).getD i []).getD j 0)) ∈ (flatC (Jvm.Cond.and given_1 narrow_1)) := by decide +kernel
theorem lw_sne : ∀ i : Nat, i < strs.length → ∀ j : Nat, j < strs.length → i ≠ j → Cond.not (Cond.eq (lw_tm i) (lw_tm j)) ∈ (flatC (Jvm.Cond.and given_1 narrow_1)) ∨ Cond.not (Cond.eq (lw_tm j) (lw_tm i)) ∈ (flatC (Jvm.Cond.and given_1 narrow_1)) := by decide +kernel
theorem lw_slen : ∀ i : Nat, i < strs.length → (strs.map fun q => q.2.2.2.length).getD i 0 < 2 ^ 31 := by decide +kernel
theorem lw_sref : ∀ q ∈ strs, Cond.stringRef q.1 q.2.1 q.2.2.1 ∈ lw_tbl := by
  intro q hq
  simp only [strs, List.mem_cons, List.not_mem_nil, or_false] at hq
  rcases hq with rfl | rfl | rfl | rfl | rfl | rfl | rfl | rfl | rfl
  · exact List.mem_of_getElem? (i := 637) (by decide +kernel)
  · exact List.mem_of_getElem? (i := 690) (by decide +kernel)
  · exact List.mem_of_getElem? (i := 691) (by decide +kernel)
  · exact List.mem_of_getElem? (i := 692) (by decide +kernel)
  · exact List.mem_of_getElem? (i := 693) (by decide +kernel)
  · exact List.mem_of_getElem? (i := 694) (by decide +kernel)
  · exact List.mem_of_getElem? (i := 695) (by decide +kernel)
  · exact List.mem_of_getElem? (i := 713) (by decide +kernel)
  · exact List.mem_of_getElem? (i := 1007) (by decide +kernel)
theorem lw_nw : ∀ w ∈ th_nw, w ∈ lw_tbl := by
  intro w hw
  simp only [th_nw, th_nd, th_nc, List.map_cons, List.map_nil, List.cons_append, List.nil_append, List.mem_cons, List.not_mem_nil, or_false] at hw
  rcases hw with rfl | rfl | rfl | rfl | rfl | rfl | rfl
  · exact List.mem_of_getElem? (i := 500) (by decide +kernel)
  · exact List.mem_of_getElem? (i := 502) (by decide +kernel)
  · exact List.mem_of_getElem? (i := 504) (by decide +kernel)
  · exact List.mem_of_getElem? (i := 499) (by decide +kernel)
  · exact List.mem_of_getElem? (i := 567) (by decide +kernel)
  · exact List.mem_of_getElem? (i := 1018) (by decide +kernel)
  · exact List.mem_of_getElem? (i := 1053) (by decide +kernel)
theorem lw_fw : ∀ w ∈ nws_Forge_init, w ∈ lw_tbl ∧ w.onTables = true := by
  intro w hw
  simp only [nws_Forge_init, List.mem_cons, List.not_mem_nil, or_false] at hw
  rcases hw with rfl | rfl | rfl | rfl
  · exact ⟨List.mem_of_getElem? (i := 155) (by decide +kernel), rfl⟩
  · exact ⟨List.mem_of_getElem? (i := 172) (by decide +kernel), rfl⟩
  · exact ⟨List.mem_of_getElem? (i := 257) (by decide +kernel), rfl⟩
  · exact ⟨List.mem_of_getElem? (i := 351) (by decide +kernel), rfl⟩
theorem vk_S_congr {N : Nat} {len : List Nat} {byt : List (List Int32)} {aK aV bK bV : Nat → Nat} {A : Nat → Prop} {U : State} {H : Heap} (h : vk_S N len byt aK aV A U H) (e1 : ∀ i : Nat, i < N → bK i = aK i) (e2 : ∀ i : Nat, i < N → bV i = aV i) : vk_S N len byt bK bV A U H := by
  obtain ⟨h1, h2⟩ := h
  refine ⟨fun i hi => ?_, fun i j hi hj e => h2 i j hi hj ?_⟩
  · rw [e1 i hi, e2 i hi]
    exact h1 i hi
  · rw [← e1 i hi, ← e1 j hj]
    exact e
set_option maxHeartbeats 4000000 in
set_option maxRecDepth 100000 in
theorem law_ctx {p : Program} {s : State} {m : MethodId} {meth : Method} {c : Code} {b L : Nat} {xs : Nat → Int32} (C0 : lw_At p s m meth c b L xs) :
    (∀ w ∈ BIG, w.before #[Value.ref b] s = true) ∧ th_S (fun q => s.heap.size ≤ q) s s.heap ∧ va_Nc (exn 2) (exn 1) s ∧ (∀ w ∈ nws_Forge_init, va_Nw w s) ∧ (∃ (dC : Nat → ClassId) (dI : Nat → Nat → Nat), va_K (dC, dI) vwCl [] s) ∧
    ∃ adK adV : Nat → Nat, ∀ ad : Nat → Nat, (∀ i : Nat, i < strs.length → ad (100 + i) = adK i ∧ ad (200 + i) = adV i) → SX ad (fun q => s.heap.size ≤ q) s s.heap := by
  obtain ⟨hx, hb, hr, hml, hown, hts, hX, hbl, hlocks, hgv⟩ := C0
  have hs := flat_of_before _ hgv
  have hA' : ∀ a : Nat, a < s.heap.size → ¬ s.heap.size ≤ a := fun a h => Nat.not_le.mpr h
  have htsB : ∀ w ∈ BIG, w.before #[Value.ref b] s = true := fun w h => hts w (big_tbl w h)
  refine ⟨htsB, ⟨?_, ?_, fun w hw => va_Nw.of (th_nw_on w hw) (hts w (lw_nw w hw))⟩, va_Nc.of (hs (.not (.castable "java/lang/IllegalStateException" "java/lang/IllegalArgumentException")) (by decide +kernel)), fun w hw => va_Nw.of (lw_fw w hw).2 (hts w (lw_fw w hw).1), ?_, ?_⟩
  · exact th_Z.of (hts (Cond.laysStatic "java/lang/Throwable" "UNASSIGNED_STACK" "[Ljava/lang/StackTraceElement;") (List.mem_of_getElem? (i := 524) (by decide +kernel))) (hts (Cond.initialized "java/lang/Throwable") (List.mem_of_getElem? (i := 132) (by decide +kernel))) (hs (.isRef (.static "java/lang/Throwable" "UNASSIGNED_STACK" "[Ljava/lang/StackTraceElement;")) (by decide +kernel)) hA'
  · exact th_Z.of (hts (Cond.laysStatic "java/lang/Throwable" "SUPPRESSED_SENTINEL" "Ljava/util/List;") (List.mem_of_getElem? (i := 526) (by decide +kernel))) (hts (Cond.initialized "java/lang/Throwable") (List.mem_of_getElem? (i := 132) (by decide +kernel))) (hs (.isRef (.static "java/lang/Throwable" "SUPPRESSED_SENTINEL" "Ljava/util/List;")) (by decide +kernel)) hA'
  · obtain ⟨c0, iS0, hKn0⟩ := u_known (C := "TinyForge$Text") (T := F_Text) (N := 2) (n := 2) htsB i_Text (htsB _ w_814a06e5c4)
    obtain ⟨c1, iS1, hKn1⟩ := u_known (C := "TinyForge$Refusal") (T := F_Refusal) (N := 3) (n := 3) htsB i_Refusal (htsB _ w_44a2e63bc3)
    obtain ⟨c2, iS2, hKn2⟩ := u_known (C := "TinyForge$Tokens") (T := F_Tokens) (N := 7) (n := 7) htsB i_Tokens (htsB _ w_7f090713cf)
    obtain ⟨c3, iS3, hKn3⟩ := u_known (C := "TinyForge$Cursor") (T := F_Cursor) (N := 4) (n := 4) htsB i_Cursor (htsB _ w_82d42c8f7e)
    obtain ⟨c4, iS4, hKn4⟩ := u_known (C := "TinyForge$Variables") (T := F_Variables) (N := 5) (n := 5) htsB i_Variables (htsB _ w_2667e7d4e3)
    obtain ⟨c5, iS5, hKn5⟩ := u_known (C := "TinyForge$Globals") (T := F_Globals) (N := 9) (n := 9) htsB i_Globals (htsB _ w_1b65395723)
    obtain ⟨c6, iS6, hKn6⟩ := u_known (C := "TinyForge$Program") (T := F_Program) (N := 5) (n := 5) htsB i_Program (htsB _ w_fa0a1704dc)
    obtain ⟨c7, iS7, hKn7⟩ := u_known (C := "TinyForge$Grammar") (T := F_Grammar) (N := 4) (n := 4) htsB i_Grammar (htsB _ w_5b6a593778)
    obtain ⟨c8, iS8, hKn8⟩ := u_known (C := "TinyForge$Input") (T := F_Input) (N := 3) (n := 3) htsB i_Input (htsB _ w_fdd339d210)
    obtain ⟨c9, iS9, hKn9⟩ := u_known (C := "TinyForge$Machine") (T := F_Machine) (N := 15) (n := 15) htsB i_Machine (htsB _ w_5d32285d60)
    obtain ⟨c10, iS10, hKn10⟩ := u_known (C := "TinyForge") (T := F_Forge) (N := 9) (n := 9) htsB i_Forge (htsB _ w_83b9d0e132)
    obtain ⟨c11, iS11, hKn11⟩ := u_known (C := "TinyForgeModel") (T := F_Model) (N := 57) (n := 57) htsB i_Model (htsB _ w_704a312e68)
    refine ⟨(fun k : Nat => match k with | 0 => c0 | 1 => c1 | 2 => c2 | 3 => c3 | 4 => c4 | 5 => c5 | 6 => c6 | 7 => c7 | 8 => c8 | 9 => c9 | 10 => c10 | _ => c11), (fun k : Nat => match k with | 0 => iS0 | 1 => iS1 | 2 => iS2 | 3 => iS3 | 4 => iS4 | 5 => iS5 | 6 => iS6 | 7 => iS7 | 8 => iS8 | 9 => iS9 | 10 => iS10 | _ => iS11), ?_, fun k q h => by simp at h⟩
    intro k q hq
    match k, hq with
    | 0, hq => cases hq; exact hKn0
    | 1, hq => cases hq; exact hKn1
    | 2, hq => cases hq; exact hKn2
    | 3, hq => cases hq; exact hKn3
    | 4, hq => cases hq; exact hKn4
    | 5, hq => cases hq; exact hKn5
    | 6, hq => cases hq; exact hKn6
    | 7, hq => cases hq; exact hKn7
    | 8, hq => cases hq; exact hKn8
    | 9, hq => cases hq; exact hKn9
    | 10, hq => cases hq; exact hKn10
    | 11, hq => cases hq; exact hKn11
    | k + 12, hq => simp at hq
  · obtain ⟨adK, adV, hvk, hev⟩ := vk_Sof (args := #[Value.ref b]) (s := s) (N := strs.length) (tm := lw_tm) (len := strs.map fun q => q.2.2.2.length) (byt := strs.map fun q => q.2.2.2) (A := fun q => s.heap.size ≤ q) lw_slen (fun i hi => hs _ (lw_sex i hi)) (fun i hi => hs _ (lw_sco i hi)) (fun i hi => hs _ (lw_sar i hi)) (fun i hi => hs _ (lw_sle i hi)) (fun i hi j hj => hs _ (lw_sel i hi j hj)) (fun i j hi hj hij => (lw_sne i hi j hj hij).imp (fun h => hs _ h) (fun h => hs _ h)) hA'
    refine ⟨adK, adV, fun ad had => ⟨vk_S_congr hvk (fun i hi => (had i hi).1) (fun i hi => (had i hi).2), ?_, ?_, ?_⟩⟩
    · intro i q hq
      have hi : i < strs.length := (List.getElem?_eq_some_iff.mp hq).1
      have h2 := hev i hi
      have h3 : lw_tm i = .string q.1 q.2.1 := by
        unfold lw_tm
        rw [List.getD_eq_getElem?_getD, List.getElem?_map, hq]
        rfl
      rw [h3] at h2
      rw [(had i hi).1]
      exact vk_R.of (hts _ (lw_sref q (List.mem_of_getElem? hq))) h2
    · exact va_Zof (hts (Cond.laysStatic "java/lang/String" "COMPACT_STRINGS" "Z") (List.mem_of_getElem? (i := 651) (by decide +kernel))) (hts (Cond.initialized "java/lang/String") (List.mem_of_getElem? (i := 137) (by decide +kernel))) (va_eqt (hs (.eq (.static "java/lang/String" "COMPACT_STRINGS" "Z") (.int 1)) (by decide +kernel))) hA'
    · have hr := hs (.isRef (.static "jdk/internal/util/Preconditions" "SIOOBE_FORMATTER" "Ljava/util/function/BiFunction;")) (by decide +kernel)
      cases hv : (Term.static "jdk/internal/util/Preconditions" "SIOOBE_FORMATTER" "Ljava/util/function/BiFunction;").eval #[Value.ref b] s none [] s with
      | none => simp [Cond.before, Cond.holds, Cond.value, hv] at hr
      | some w =>
        refine ⟨w, ?_, va_Zof (hts (Cond.laysStatic "jdk/internal/util/Preconditions" "SIOOBE_FORMATTER" "Ljava/util/function/BiFunction;") (List.mem_of_getElem? (i := 667) (by decide +kernel))) (hts (Cond.initialized "jdk/internal/util/Preconditions") (List.mem_of_getElem? (i := 139) (by decide +kernel))) hv hA'⟩
        simp only [Cond.before, Cond.holds, Cond.value, hv] at hr
        cases w <;> simp_all
