/-! The tokens as both readers have them. -/
theorem wl_inj : ∀ d : Nat, d < 10 → ∀ x : Nat, x < 10 → 3 ≤ d → 3 ≤ x → wl d = wl x → d = x := by decide +kernel
theorem wl_first : ∀ d : Nat, d < 10 → 3 ≤ d → isD ((wl d).getD 0 0) = false ∧ isS ((wl d).getD 0 0) = false ∧ (wl d).getD 0 0 < 128 ∧ isS d = false := by decide +kernel
theorem dbl_c : ∀ c : Nat, c < 128 → ∀ d : Nat, d < 128 → dbl c d = true → isA c = false ∧ isD c = false ∧ 33 ≤ c ∧ mth (nI c) (nI d) = nI (sth (nI (256 + c))) := by decide +kernel
theorem isS_c : ∀ c : Nat, c < 128 → isS c = true → isA c = false ∧ isD c = false ∧ 33 ≤ c ∧ mth (nI c) 0 = nI (sth (nI c)) := by decide +kernel
section TN
variable {σ : St} {tx : Nat → Nat} {L : Nat}
theorem kn_val {i s : Nat} {K : Int32} (h : KN tx i s K) : ∃ x : Nat, K = nI x ∧ ((x = 1 ∧ ∀ d, 3 ≤ d → d ≤ 9 → ¬ SpN tx i s (wl d)) ∨ (3 ≤ x ∧ x ≤ 9 ∧ SpN tx i s (wl x))) := by
  rcases h with ⟨k, e⟩ | ⟨k, e⟩ | ⟨k, e⟩ | ⟨k, e⟩ | ⟨k, e⟩ | ⟨k, e⟩ | ⟨k, e⟩ | ⟨n0, n1, n2, n3, n4, n5, n6, e⟩
  · exact ⟨3, e, Or.inr ⟨by decide, by decide, k⟩⟩
  · exact ⟨4, e, Or.inr ⟨by decide, by decide, k⟩⟩
  · exact ⟨5, e, Or.inr ⟨by decide, by decide, k⟩⟩
  · exact ⟨6, e, Or.inr ⟨by decide, by decide, k⟩⟩
  · exact ⟨7, e, Or.inr ⟨by decide, by decide, k⟩⟩
  · exact ⟨8, e, Or.inr ⟨by decide, by decide, k⟩⟩
  · exact ⟨9, e, Or.inr ⟨by decide, by decide, k⟩⟩
  · refine ⟨1, e, Or.inl ⟨rfl, fun d h1 h2 => ?_⟩⟩
    have : d = 3 ∨ d = 4 ∨ d = 5 ∨ d = 6 ∨ d = 7 ∨ d = 8 ∨ d = 9 := by omega
    rcases this with rfl | rfl | rfl | rfl | rfl | rfl | rfl
    · exact n0
    · exact n1
    · exact n2
    · exact n3
    · exact n4
    · exact n5
    · exact n6
theorem tokd_sp {i s d : Nat} {K : Int32} {V : Int64} {a16 a19 : Int32} (D : TokD tx L i s K V a16 a19) (hok : ∀ i, i < L → okc (tx i)) (hd : (3 ≤ d ∧ d ≤ 9) ∨ (33 ≤ d ∧ isA d = false ∧ isD d = false)) (hd2 : d < 128) : SpN tx i s (wl d) ↔ K = nI d := by
  obtain ⟨s1, s2, D⟩ := D
  have h1 : tx i < 128 := by have := hok i (by omega); unfold okc at this; omega
  rcases hd with hd | hd
  · obtain ⟨f1, f2, f3, f4⟩ := wl_first d (by omega) hd.1
    rcases D with ⟨q1, q2, q3, q4, -⟩ | ⟨q1, q2, -⟩ | ⟨q1, q2, q3, -⟩ | ⟨q1, q2, q3, -⟩
    · obtain ⟨x, e1, e2⟩ := kn_val q4
      rcases e2 with ⟨e2, e3⟩ | ⟨e2, e3, e4⟩
      · refine ⟨fun z => absurd z (e3 d hd.1 hd.2), fun z => ?_⟩
        rw [e1, e2] at z
        have := nI_inj (by omega) (by omega) z
        omega
      · constructor
        · intro z
          have := wl_inj d (by omega) x (by omega) hd.1 e2 (spn_len z e4)
          rw [e1, this]
        · intro z
          rw [e1] at z
          have := nI_inj (by omega) (by omega) z
          rw [← this]; exact e4
    · constructor
      · intro z
        rw [spn_first z s1, f1] at q1; exact absurd q1 (by decide)
      · intro z
        have := nI_inj (a := 2) (by omega) (by omega) (q2.symm.trans z)
        omega
    · constructor
      · intro z
        rw [spn_first z s1, f2] at q3; exact absurd q3 (by decide)
      · intro z
        have := nI_inj (by omega) (by omega) (q2.symm.trans z)
        rw [this, f4] at q3; exact absurd q3 (by decide)
    · have h2 : tx (i + 1) < 128 := by have := hok (i + 1) (by omega); unfold okc at this; omega
      obtain ⟨g1, g2, g3, -⟩ := dbl_c _ h1 _ h2 q3
      constructor
      · intro z
        have e := spn_first z s1
        have h3 : ∀ d : Nat, d < 10 → 3 ≤ d → isA ((wl d).getD 0 0) = true := by decide +kernel
        rw [e, h3 d (by omega) hd.1] at g1
        exact absurd g1 (by decide)
      · intro z
        have := nI_inj (by omega) (by omega) (q2.symm.trans z)
        omega
  · obtain ⟨d1, d2, d3⟩ := hd
    have hw : wl d = [d] := by
      unfold wl
      rw [if_neg (by omega), if_neg (by omega), if_neg (by omega), if_neg (by omega), if_neg (by omega), if_neg (by omega), if_neg (by omega)]
    rw [hw]
    rcases D with ⟨q1, q2, q3, q4, -⟩ | ⟨q1, q2, -⟩ | ⟨q1, q2, q3, -⟩ | ⟨q1, q2, q3, -⟩
    · obtain ⟨x, e1, e2⟩ := kn_val q4
      constructor
      · intro z
        have e : tx i = d := spn_first z s1
        rw [e, d2] at q1; exact absurd q1 (by decide)
      · intro z
        rw [e1] at z
        have hx : x < 1000 := by rcases e2 with e2 | e2 <;> omega
        have := nI_inj (by omega) (by omega) z
        rcases e2 with e2 | e2 <;> omega
    · constructor
      · intro z
        have e : tx i = d := spn_first z s1
        rw [e, d3] at q1; exact absurd q1 (by decide)
      · intro z
        have := nI_inj (a := 2) (by omega) (by omega) (q2.symm.trans z)
        omega
    · constructor
      · intro z
        have e : tx i = d := spn_first z s1
        rw [q2, e]
      · intro z
        have e := nI_inj (by omega) (by omega) (q2.symm.trans z)
        refine ⟨q1, fun m hm => ?_⟩
        obtain rfl : m = 0 := by omega
        exact e
    · constructor
      · intro z
        have : s = 1 := z.1
        omega
      · intro z
        have := nI_inj (by omega) (by omega) (q2.symm.trans z)
        omega
theorem tokd_main {i s : Nat} {K : Int32} {V : Int64} {a16 a19 : Int32} (D : TokD tx L i s K V a16 a19) (hok : ∀ i, i < L → okc (tx i)) (hK : K = 1) : V = pv tx i s ∧ s ≤ 8 ∧ ∀ m, m < s → 1 ≤ tx (i + m) ∧ tx (i + m) < 128 := by
  obtain ⟨s1, s2, D⟩ := D
  have h1 : tx i < 128 := by have := hok i (by omega); unfold okc at this; omega
  rcases D with ⟨q1, q2, q3, q4, q5, -⟩ | ⟨q1, q2, -⟩ | ⟨q1, q2, q3, -⟩ | ⟨q1, q2, q3, -⟩
  · exact ⟨q5, q2, fun m hm => by have := hok (i + m) (by omega); unfold okc at this; omega⟩
  · rw [hK] at q2; exact absurd q2 (by decide)
  · obtain ⟨-, -, g3, -⟩ := isS_c _ h1 q3
    have := nI_inj (b := 1) (by omega) (by omega) (q2.symm.trans hK)
    omega
  · have := nI_inj (b := 1) (by omega) (by omega) (q2.symm.trans hK)
    omega
/-- kinds: the class's and the model's -/
theorem tokd_kind {i s : Nat} {K : Int32} {V : Int64} {a16 a19 : Int32} (D : TokD tx L i s K V a16 a19) (hok : ∀ i, i < L → okc (tx i)) : ((a16 = 1 ↔ K = 1) ∧ (a16 = 2 ↔ K = 2) ∧ (a16 = 0 ↔ K = 0)) ∧ (K = 2 → a19 = V.toInt32 ∧ 0 ≤ V.toInt ∧ V.toInt ≤ 2147483647) ∧ ((¬ a16 = 3 ∧ sth K = 0 ∧ ¬ K = 33 ∧ ¬ K = 126) ∨ (a16 = 3 ∧ s = 1 ∧ K = nI (tx i) ∧ isS (tx i) = true) ∨ (a16 = 3 ∧ s = 2 ∧ K = nI (256 + tx i) ∧ dbl (tx i) (tx (i + 1)) = true)) := by
  obtain ⟨s1, s2, D⟩ := D
  have h1 : tx i < 128 := by have := hok i (by omega); unfold okc at this; omega
  have hlow : ∀ x : Nat, x < 10 → sth (nI x) = 0 ∧ ¬ nI x = 33 ∧ ¬ nI x = 126 := by decide +kernel
  rcases D with ⟨q1, q2, q3, q4, q5, q6⟩ | ⟨q1, q2, q3, q4, q5, q6⟩ | ⟨q1, q2, q3, q4⟩ | ⟨q1, q2, q3, q4⟩
  · obtain ⟨x, e1, e2⟩ := kn_val q4
    have hx : x < 10 := by rcases e2 with e2 | e2 <;> omega
    have hx2 : ¬ nI x = 2 := fun e => by have := nI_inj (b := 2) (by omega) (by omega) e; rcases e2 with e2 | e2 <;> omega
    have hx0 : ¬ nI x = 0 := fun e => by have := nI_inj (b := 0) (by omega) (by omega) e; rcases e2 with e2 | e2 <;> omega
    obtain ⟨l1, l2, l3⟩ := hlow x hx
    rw [← e1] at hx2 hx0 l1 l2 l3
    rcases q6 with ⟨p1, p2⟩ | ⟨p1, p2⟩
    · rw [p2]
      exact ⟨⟨⟨fun _ => p1, fun _ => rfl⟩, ⟨fun e => absurd e (by decide), fun e => absurd e hx2⟩, ⟨fun e => absurd e (by decide), fun e => absurd e hx0⟩⟩, fun e => absurd e hx2, Or.inl ⟨by decide, l1, l2, l3⟩⟩
    · rw [p2]
      exact ⟨⟨⟨fun e => absurd e (by decide), fun e => absurd e p1⟩, ⟨fun e => absurd e (by decide), fun e => absurd e hx2⟩, ⟨fun e => absurd e (by decide), fun e => absurd e hx0⟩⟩, fun e => absurd e hx2, Or.inl ⟨by decide, l1, l2, l3⟩⟩
  · rw [q2, q3]
    exact ⟨⟨⟨fun e => absurd e (by decide), fun e => absurd e (by decide)⟩, ⟨fun _ => rfl, fun _ => rfl⟩, ⟨fun e => absurd e (by decide), fun e => absurd e (by decide)⟩⟩, fun _ => ⟨q6, q4, q5⟩, Or.inl ⟨by decide, by decide, by decide, by decide⟩⟩
  · obtain ⟨-, -, g3, -⟩ := isS_c _ h1 q3
    rw [q4]
    have n1 : ¬ K = 1 := fun e => by have := nI_inj (b := 1) (by omega) (by omega) (q2.symm.trans e); omega
    have n2 : ¬ K = 2 := fun e => by have := nI_inj (b := 2) (by omega) (by omega) (q2.symm.trans e); omega
    have n0 : ¬ K = 0 := fun e => by have := nI_inj (b := 0) (by omega) (by omega) (q2.symm.trans e); omega
    exact ⟨⟨⟨fun e => absurd e (by decide), fun e => absurd e n1⟩, ⟨fun e => absurd e (by decide), fun e => absurd e n2⟩, ⟨fun e => absurd e (by decide), fun e => absurd e n0⟩⟩, fun e => absurd e n2, Or.inr (Or.inl ⟨rfl, q1, q2, q3⟩)⟩
  · rw [q4]
    have n1 : ¬ K = 1 := fun e => by have := nI_inj (b := 1) (by omega) (by omega) (q2.symm.trans e); omega
    have n2 : ¬ K = 2 := fun e => by have := nI_inj (b := 2) (by omega) (by omega) (q2.symm.trans e); omega
    have n0 : ¬ K = 0 := fun e => by have := nI_inj (b := 0) (by omega) (by omega) (q2.symm.trans e); omega
    exact ⟨⟨⟨fun e => absurd e (by decide), fun e => absurd e n1⟩, ⟨fun e => absurd e (by decide), fun e => absurd e n2⟩, ⟨fun e => absurd e (by decide), fun e => absurd e n0⟩⟩, fun e => absurd e n2, Or.inr (Or.inr ⟨rfl, q1, q2, q3⟩)⟩
end TN
section TP2
variable {g h : St} {tx : Nat → Nat} {L : Nat}
/-- tokens taken: what both readers know -/
theorem tok_tk {t : Nat} {P S : Nat → Nat} {K : Nat → Int32} {V : Nat → Int64} {c m : St} (T : TxC g tx L) (TM : TxM h tx L) (I : TI tx L g h L t P S K V c m) (ht : t ≤ 220) :
    ∃ (k1 k2 ra rb rc rd : Nat → Int32) (v0 : Nat → Int64) (K2 : Nat → Int32) (p2 : Nat → Nat), c = mkT g 0 (-1) (nI t) (-1) k1 k2 v0 ∧ tModel_addToken m 0 (m.1 27) 0 0 = some (mkU h (nI (t + 1)) 0 (-1) ra rb rc rd) ∧ p2 t = L ∧ TkC c t K2 p2 V ∧ TkM (mkU h (nI (t + 1)) 0 (-1) ra rb rc rd) t K2 p2 V ∧
      (∀ x, x < t → K2 x = 1 → tModel_is (mkU h (nI (t + 1)) 0 (-1) ra rb rc rd) (nI x) 1852399981 = some (if V x = 1835100526 then 1 else 0)) := by
  have hL := T.2.1
  have hok : ∀ i, i < L → okc (tx i) := fun i hi => (T.2.2 i hi).2
  obtain ⟨fv, k1, k2, ra, rb, rc, rd, v0, rfl, rfl, I1, I2, I3, I4, I5⟩ := I
  rw [if_pos ht] at I5
  have TM' : TxM (mkU h (nI (t + 1)) 0 (-1) (upd ra t 0) (upd rb t (h.1 27)) (upd rc t 0) (upd rd t 0)) tx L := TM
  have e27 : h.1 27 = nI L := TM.1
  have row : ∀ i, i < t → upd rb t (h.1 27) i = nI (P i) ∧ upd rc t 0 i = nI (S i) ∧ upd ra t 0 i = ra i ∧ upd rd t 0 i = rd i := fun i hi => ⟨(upd_n (by omega)).trans (I2 i hi).1, (upd_n (by omega)).trans (I2 i hi).2.1, upd_n (by omega), upd_n (by omega)⟩
  have D : ∀ i, i < t → TokD tx L (P i) (S i) (K i) (V i) (upd ra t 0 i) (upd rd t 0 i) := fun i hi => by
    rw [(row i hi).2.2.1, (row i hi).2.2.2]; exact (I2 i hi).2.2.1
  refine ⟨k1, k2, upd ra t 0, upd rb t (h.1 27), upd rc t 0, upd rd t 0, v0, fun k => if k < t then K k else 0, fun k => if k < t then P k else L, by rw [I5, show min t 220 = t by omega], by rw [mkU_i27]; exact u_add (by omega), if_neg (by omega), ?_, ?_, ?_⟩
  · refine ⟨by show nI (min t 220) = nI t; rw [show min t 220 = t by omega], ht, ?_, fun i hi => ?_, fun i hi => if_neg (by omega), fun i j hij hj => ?_, ?_⟩
    · show g.1 0 = nI (if t < t then P t else L)
      rw [if_neg (by omega)]; exact T.1
    · show k1 i = (if i < t then K i else 0) ∧ k2 i = nI (if i < t then P i else L) ∧ v0 i = V i
      rw [if_pos hi, if_pos hi]
      exact I3 i hi (by omega)
    · show (if i < t then P i else L) < (if j < t then P j else L)
      rw [if_pos (show i < t by omega)]
      have h1 := (D i (by omega)).1
      by_cases e : j < t
      · rw [if_pos e]
        have := I4 i j hij e
        omega
      · rw [if_neg e]
        have := (I2 i (by omega)).2.2.2
        omega
    · show (if t < t then P t else L) ≤ 480
      rw [if_neg (by omega)]; exact hL
  · have hsp : ∀ i, i ≤ t → ∃ pi si, upd rb t (h.1 27) i = nI pi ∧ upd rc t 0 i = nI si ∧ pi + si ≤ L ∧ (i < t → pi = P i ∧ si = S i) ∧ (i = t → pi = L ∧ si = 0) := fun i hi => by
      by_cases e : i < t
      · exact ⟨P i, S i, (row i e).1, (row i e).2.1, (D i e).2.1, fun _ => ⟨rfl, rfl⟩, fun z => by omega⟩
      · obtain rfl : i = t := by omega
        exact ⟨L, 0, by rw [upd_e]; exact e27, upd_e, by omega, fun z => by omega, fun _ => ⟨rfl, rfl⟩⟩
    refine ⟨⟨ht, fun i hi => if_neg (by omega)⟩, fun i hi => ?_, fun i hi => ?_, fun i hi hK => ?_, fun i w cc hi hw => ?_, fun i j hi hj hKi hKj => ?_, fun i hi => ?_, fun i hi hx => ?_⟩
    · show upd rb t (h.1 27) i = nI (if i < t then P i else L)
      by_cases e : i < t
      · rw [if_pos e]; exact (row i e).1
      · obtain rfl : i = t := by omega
        rw [if_neg e, upd_e]; exact e27
    · show (upd ra t 0 i = 1 ↔ (if i < t then K i else 0) = 1) ∧ (upd ra t 0 i = 2 ↔ (if i < t then K i else 0) = 2) ∧ (upd ra t 0 i = 0 ↔ (if i < t then K i else 0) = 0)
      by_cases e : i < t
      · rw [if_pos e]
        exact (tokd_kind (D i e) hok).1
      · obtain rfl : i = t := by omega
        rw [if_neg e, upd_e]
        exact ⟨⟨fun z => absurd z (by decide), fun z => absurd z (by decide)⟩, ⟨fun z => absurd z (by decide), fun z => absurd z (by decide)⟩, ⟨fun _ => rfl, fun _ => rfl⟩⟩
    · show upd rd t 0 i = (V i).toInt32 ∧ _
      replace hK : K i = 2 := (if_pos hi : (if i < t then K i else 0) = K i).symm.trans hK
      exact (tokd_kind (D i hi) hok).2.1 hK
    · show _ = some (if (if i < t then K i else 0) = cc then 1 else 0)
      obtain ⟨d, w1, w2, w3, w4, w5, w6, w7⟩ := wd_all hw
      obtain ⟨pi, si, x1, x2, x3, x4, x5⟩ := hsp i hi
      have hiff : SpN tx pi si (wl d) ↔ (if i < t then K i else 0) = cc := by
        by_cases e : i < t
        · rw [if_pos e, w1, (x4 e).1, (x4 e).2]
          exact tokd_sp (D i e) hok w3 w2
        · rw [if_neg e, w1, (x5 (by omega)).2]
          refine ⟨fun z => absurd z.1.symm w7, fun z => ?_⟩
          have := nI_inj (a := 0) (by omega) (by omega) z
          omega
      rcases is_c (t := i) (w := w) (bl := wl d) TM' (by omega) x1 x2 x3 w4 w5 w6 with ⟨y1, y2⟩ | ⟨y1, y2⟩
      · rw [y2, if_pos (hiff.mp y1)]
      · rw [y2, if_neg (fun z => y1 (hiff.mpr z))]
    · replace hKi : K i = 1 := (if_pos hi : (if i < t then K i else 0) = K i).symm.trans hKi
      replace hKj : K j = 1 := (if_pos hj : (if j < t then K j else 0) = K j).symm.trans hKj
      obtain ⟨a1, a2, a3⟩ := tokd_main (D i hi) hok hKi
      obtain ⟨b1, b2, b3⟩ := tokd_main (D j hj) hok hKj
      have hiff := pv_iff a2 b2 a3 b3
      rw [← a1, ← b1] at hiff
      rcases alike_c (t := i) (u := j) TM' (by omega) (by omega) (row i hi).1 (row j hj).1 (row i hi).2.1 (row j hj).2.1 (D i hi).2.1 (D j hj).2.1 with ⟨y1, y2⟩ | ⟨y1, y2⟩
      · rw [y2, if_pos (hiff.mpr y1)]
      · rw [y2, if_neg (fun z => y1 (hiff.mp z))]
    · show _ = some (nI (sth (if i < t then K i else 0)))
      obtain ⟨pi, si, x1, x2, x3, x4, x5⟩ := hsp i hi
      unfold tModel_strength
      rw [gdT (inI (show i < 500 by omega) (by omega)), tc_nI (by omega), mkU_r16]
      by_cases e : i < t
      · obtain ⟨xp, xs⟩ := x4 e
        subst xp
        subst xs
        rw [if_pos e]
        have hs1 := (D i e).1
        have h1 : tx (P i) < 128 := by have := hok (P i) (by omega); unfold okc at this; omega
        have hsg := signM TM' (show P i < 1000 by omega)
        rw [show cM tx L (P i) = tx (P i) from if_pos (by omega)] at hsg
        rcases (tokd_kind (D i e) hok).2.2 with ⟨y1, y2, -⟩ | ⟨y1, y2, y3, y4⟩ | ⟨y1, y2, y3, y4⟩
        · rw [if_neg y1, y2]; rfl
        · rw [if_pos y1, gdT (inI (show i < 500 by omega) (by omega)), mkU_r17, x1, b1S hsg, gdT (inI (show i < 500 by omega) (by omega)), mkU_r18, x2, y2, if_neg (show ¬ nI 1 = 2 by decide), b1S (mth_c _ _ _), y3, (isS_c _ h1 y4).2.2.2]
        · have h2 : tx (P i + 1) < 128 := by have := hok (P i + 1) (by omega); unfold okc at this; omega
          rw [if_pos y1, gdT (inI (show i < 500 by omega) (by omega)), mkU_r17, x1, b1S hsg, gdT (inI (show i < 500 by omega) (by omega)), mkU_r18, x2, y2, if_pos (show nI 2 = 2 from rfl), gdT (inI (show i < 500 by omega) (by omega)), nI_suc, b1S (signM TM' (show P i + 1 < 1000 by omega)), show cM tx L (P i + 1) = tx (P i + 1) from if_pos (by omega), b1S (mth_c _ _ _), y3, (dbl_c _ h1 _ h2 y4).2.2.2]
      · obtain rfl : i = t := by omega
        rw [if_neg e, upd_e, if_neg (by decide)]; rfl
    · show ∃ s, tModel_sign _ (nI (if i < t then P i else L)) = some s ∧ s + (if upd rc t 0 i = 2 then 256 else 0) = (if i < t then K i else 0)
      rw [if_pos hi, if_pos hi, (row i hi).2.1]
      have hs1 := (D i hi).1
      have hs2 := (D i hi).2.1
      refine ⟨nI (cM tx L (P i)), signM TM' (show P i < 1000 by omega), ?_⟩
      rw [show cM tx L (P i) = tx (P i) from if_pos (by omega)]
      rcases (tokd_kind (D i hi) hok).2.2 with ⟨y1, y2, y3, y4⟩ | ⟨y1, y2, y3, y4⟩ | ⟨y1, y2, y3, y4⟩
      · replace hx : 0 < sth (K i) ∨ K i = 33 ∨ K i = 126 := by
          have e : (if i < t then K i else 0) = K i := if_pos hi
          rw [← e]; exact hx
        rcases hx with z | z | z
        · rw [y2] at z; exact absurd z (by decide)
        · exact absurd z y3
        · exact absurd z y4
      · rw [y2, if_neg (show ¬ nI 1 = 2 by decide), y3, Int32.add_zero]
      · rw [y2, if_pos (show nI 2 = 2 from rfl), y3, show nI (tx (P i)) + 256 = nI (tx (P i) + 256) from nI_add _ 256, Nat.add_comm]
  · intro x hx hK
    replace hK : K x = 1 := (if_pos hx : (if x < t then K x else 0) = K x).symm.trans hK
    obtain ⟨a1, a2, a3⟩ := tokd_main (D x hx) hok hK
    have hm := pv_iff (ty := fun k => [109, 97, 105, 110].getD k 0) (j := 0) (b := 4) a2 (by omega) a3 (by decide)
    have ep : pv (fun k => [109, 97, 105, 110].getD k 0) 0 4 = 1835100526 := by decide +kernel
    rw [← a1, ep] at hm
    have hiff : SpN tx (P x) (S x) [109, 97, 105, 110] ↔ V x = 1835100526 := by
      rw [hm]
      constructor
      · rintro ⟨y1, y2⟩
        exact ⟨y1, fun m hm => by rw [Nat.zero_add]; exact y2 m hm⟩
      · rintro ⟨y1, y2⟩
        exact ⟨y1, fun m hm => by have := y2 m hm; rw [Nat.zero_add] at this; exact this⟩
    rcases is_c (t := x) (w := 1852399981) (bl := [109, 97, 105, 110]) TM' (by omega) (row x hx).1 (row x hx).2.1 (D x hx).2.1 (by decide +kernel) (by decide) (by decide) with ⟨y1, y2⟩ | ⟨y1, y2⟩
    · rw [y2, if_pos (hiff.mp y1)]
    · rw [y2, if_neg (fun z => y1 (hiff.mpr z))]
end TP2
