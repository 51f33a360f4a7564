/-! What a statement comes to; calls. -/
/-- the call whose frame this is has been left with a value -/
def Ret (g h : St) (q : Nat) (c m c' m' : St) (B f Dc V t' tk' : Nat) : Prop :=
  ∃ (o : Nat) (r : Int32), o ≤ 30 ∧ Fr c m c' m' B (f - 1) Dc V (12 * (f - 1)) ∧ m'.2.2.1 43 V = r ∧ (∀ j, j < o → c'.2.2.1 14 j = m'.2.2.1 38 j) ∧ (∃ om ce bk bg sg vl : Nat → Int32, m' = mkM h (nI tk') (nI o) (nI Dc) (nI (V + 1)) (nI (f - 1)) (nI t') 0 om ce bk bg sg vl) ∧
    ((2 ≤ f ∧ c'.2.2.1 10 B = r ∧ (∀ j, j < 64 → c'.2.2.1 11 j = m'.2.2.1 39 j) ∧ ∃ stk el re ba ou : Nat → Int32, c' = mkC g (nI (min tk' q)) (nI (B + 1)) (c.2.2.1 13 (f - 1)) (nI (f - 1)) (c.2.2.1 12 (f - 1)) 3 (nI o) (nI t') 0 stk el re ba ou) ∨
     (f = 1 ∧ c'.1 21 = 0 ∧ c'.1 24 = r ∧ c'.1 22 = nI o ∧ c'.1 23 = nI t'))
def SO (g h : St) (q : Nat) (c m : St) (b B f t D V tk v' z y Dc : Nat) : Prop :=
  ∃ (j k : Nat) (c' m' : St), MSteps j m m' ∧ CSteps k c c' ∧
    ((∃ t' tk' : Nat, Rl g h q c' m' b (B + 12) B f t' D V tk' v' ∧ Fr c m c' m' B f D V (12 * (f - 1)) ∧ t ≤ t' ∧ t' ≤ 400 ∧ tk' ≤ tk + j ∧ j + 5000 * (400 - t') ≤ z + 5000 * (400 - t) ∧ k + 500 * (400 - t') ≤ y + 500 * (400 - t)) ∨
     (∃ t' tk' : Nat, Ret g h q c m c' m' B f Dc V t' tk' ∧ t ≤ t' ∧ t' ≤ 400 ∧ tk' ≤ tk + j ∧ j + 5000 * (400 - t') ≤ z + 5000 * (400 - t) ∧ k + 500 * (400 - t') ≤ y + 500 * (400 - t)) ∨
     (En c' m' ∧ j ≤ z + 5000 * (400 - t) ∧ k ≤ y + 500 * (400 - t)))
/-- where a return leads: the entry of the call, and none of another call between -/
def RC (h m : St) (D Dc : Nat) : Prop := Dc < D ∧ (∃ i, i < 500 ∧ m.2.2.1 41 Dc = nI i ∧ h.2.2.1 20 i = 5) ∧ ∀ i, Dc < i → i < D → ∃ e, e < 500 ∧ m.2.2.1 41 i = nI e ∧ ¬ h.2.2.1 20 e = 5
def BdS (d z B f t D V tk n : Nat) : Prop := 1 ≤ f ∧ f ≤ 12 ∧ B ≤ 48 * (f - 1) ∧ V ≤ 33 * (f - 1) ∧ D + d ≤ 130 * f ∧ t ≤ 400 ∧ 400 ≤ t + n ∧ tk + z + 5000 * (400 - t) ≤ 1000000000
def ESd (g h : St) (F : Nat → Nat → Nat → Prop) (len nn q n d : Nat) : Prop := ∀ N a b v v' z : Nat, CS g.2.2.1 h.2.2.1 F len nn d N a b v v' z → ∀ (c m : St) (B f t D V tk Dc : Nat), BdS d z B f t D V tk n → RC h m D Dc → Rl g h q c m a (B + 12) B f t (D + 1) V tk v → m.2.2.1 41 D = nI N → m.2.2.1 42 D = 0 → SO g h q c m b B f t D V tk v' z (b - a) Dc
theorem cs_le {G H : Nat → Nat → Int32} {F : Nat → Nat → Nat → Prop} {len nn d N a b v v' z : Nat} (h : CS G H F len nn d N a b v v' z) : a ≤ b ∧ b ≤ len ∧ N < 499 ∧ v ≤ 12 ∧ v' ≤ 12 := by
  cases d with
  | zero => exact absurd h (by simp [CS])
  | succ d => exact ⟨h.2.1, h.2.2.1, Nat.lt_of_lt_of_le h.1.1 h.1.2, h.2.2.2.1, h.2.2.2.2.1⟩
section EY
variable {g h : St} {F : Nat → Nat → Nat → Prop} {len nn q n d N a b v w x z T B f t D V tk : Nat} {c m : St}
/-- all values of a call are there: it is made -/
theorem ev_made {na e i s : Nat} {o : Nat} {stk el re ba ou om ce bk bg sg vl : Nat → Int32} (hS : Sta g h F len nn q) (hES : ∀ n', n' < n → ∀ d, ESd g h F len nn q n' d) (h1 : 1 ≤ f) (h2 : f ≤ 12) (h3 : v ≤ 12) (h4 : T = B + 12 + w) (h5 : B ≤ 48 * (f - 1)) (h6 : V ≤ 33 * (f - 1) + x) (h7 : D + (d + 1) ≤ 130 * f) (h8 : t ≤ 400) (h9 : 400 ≤ t + n) (h10 : tk + 2 + 5000 * (400 - t) ≤ 1000000000) (kw : w ≤ 31) (kx : x ≤ 31) (kN : N < 499) (ke : e < len) (kn : na ≤ 4)
    (e0 : h.2.2.1 20 N = 5) (e1 : h.2.2.1 21 N = nI na) (e2 : g.2.2.1 6 e = 15) (e3 : g.2.2.1 8 e = nI na) (e4 : h.2.2.1 24 N = nI i) (e5 : g.2.2.1 7 e = nI s) (e6 : F i s na)
    (ho : o ≤ 30) (hou : ∀ j, j < o → ou j = om j) (hel : ∀ j, j < 64 → el j = ce j) (hva : ∀ k, k < v → stk (B + k) = bk (12 * (f - 1) + k)) (hNb : bg D = nI N) (hsb : sg D = nI na) (hvs : ∀ j, j < na → stk (T + j) = vl (V + j)) :
    VO g h q (mkC g (nI (min tk q)) (nI (T + na)) (nI B) (nI f) (nI e) 3 (nI o) (nI t) 0 stk el re ba ou) (mkM h (nI tk) (nI o) (nI (D + 1)) (nI (V + na)) (nI f) (nI t) 0 om ce bk bg sg vl) (e + 1) T B f t D V tk v 2 1 := by
  obtain ⟨s1, s2, s3, s4, s5, s6, s7⟩ := hS
  have em := g_enter (tk := nI tk) (o := nI o) (V := nI (V + na)) (f := nI f) (t := nI t) (s := 0) (ou := om) (ce := ce) (bk := bk) (vl := vl) (by omega : D < 1600) hNb (by omega) e0 hsb e1 (by omega)
  have ec := i_call (nx := nI (min tk q)) (T := nI (T + na)) (B := nI B) (f := nI f) (s := 3) (o := nI o) (t := nI t) (res := 0) (stk := stk) (el := el) (re := re) (ba := ba) (ou := ou) s1 s2 ke e2
  rw [e4] at em
  rw [e5, e3] at ec
  by_cases hf : f = 12
  · subst hf
    rw [m_enter12] at em
    rw [c_call12] at ec
    exact ⟨1, 1, _, _, MSteps.one em (by omega), CSteps.mk ec, Or.inr ⟨⟨Or.inr rfl, rfl, ⟨o, ho, rfl, rfl, hou⟩, ⟨t, h8, rfl, rfl⟩, rfl⟩, by omega, by omega⟩⟩
  by_cases ht : t = 400
  · subst ht
    rw [m_enter400 (by omega)] at em
    obtain ⟨T', B', f', re', ba', ec'⟩ := c_call400 (g := g) (nx := nI (min tk q)) (T := nI (T + na)) (B := nI B) (p := nI (e + 1)) (s := 3) (o := nI o) (res := 0) (stk := stk) (el := el) (re := re) (ba := ba) (ou := ou) (z := na) (a := nI s) (show f < 12 by omega)
    rw [ec'] at ec
    exact ⟨1, 1, _, _, MSteps.one em (by omega), CSteps.mk ec, Or.inr ⟨⟨Or.inr rfl, rfl, ⟨o, ho, rfl, rfl, hou⟩, ⟨400, h8, rfl, rfl⟩, rfl⟩, by omega, by omega⟩⟩
  obtain ⟨f1, f2, f3, Bn, db, eb, zb, f4, f5, f6, f7, f8, f9, f10, f11⟩ := s7 i s na e6
  obtain ⟨y1, y2, y3, y4, y5⟩ := cs_le f5
  rw [m_enter (c := f) (by omega) f1 f3 f2 f4 (by omega) (by omega) (by omega)] at em
  rw [c_call (by omega) (by omega) (by omega), show T + na - na = T by omega] at ec
  obtain ⟨j, k, c', m', hm', hc', hout⟩ := hES (n - 1) (by omega) db Bn s eb na na zb f5 (mkC g (nI (min tk q)) (nI (T + 12)) (nI T) (nI (f + 1)) (nI s) 3 (nI o) (nI (t + 1)) 0 stk el (upd re f (nI (e + 1))) (upd ba f (nI B)) ou) (mkM h (nI tk) (nI o) (nI (D + 1 + 1)) (nI V) (nI (f + 1)) (nI (t + 1)) 0 om ce (fun i => if 12 * f ≤ i ∧ i < 12 * f + na then vl (V + (i - 12 * f)) else bk i) (upd bg (D + 1) (nI Bn)) (upd (upd sg D (nI (na + 1))) (D + 1) 0) vl) T (f + 1) (t + 1) (D + 1) V tk D
    ⟨by omega, by omega, by omega, by omega, by omega, by omega, by omega, by omega⟩
    ⟨by omega, ⟨N, by omega, by show upd bg (D + 1) (nI Bn) D = nI N; rw [upd_n (by omega), hNb], e0⟩, fun i hi hi2 => absurd hi2 (by omega)⟩
    ⟨o, stk, el, _, _, ou, om, ce, _, _, _, vl, rfl, rfl, ho, hou, hel, fun k hk => by
      show stk (T + k) = if 12 * f ≤ 12 * (f + 1 - 1) + k ∧ 12 * (f + 1 - 1) + k < 12 * f + na then vl (V + (12 * (f + 1 - 1) + k - 12 * f)) else bk (12 * (f + 1 - 1) + k)
      rw [if_pos (by omega), hvs k hk]
      congr 1; omega⟩
    (by show upd bg (D + 1) (nI Bn) (D + 1) = nI Bn; rw [upd_e])
    (by show upd (upd sg D (nI (na + 1))) (D + 1) 0 (D + 1) = 0; rw [upd_e])
  rcases hout with ⟨t', tk', hR, hF, ht1, ht2, htk, hz, hy⟩ | ⟨t', tk', hRet, ht1, ht2, htk, hz, hy⟩ | ⟨hE, hz, hy⟩
  · -- it fell out of its block
    obtain ⟨F1, F2, F3, F4, F5⟩ := hF
    obtain ⟨o', stk', el', re', ba', ou', om', ce', bk', bg', sg', vl', rfl, rfl, ho', hou', hel', hva'⟩ := hR
    have gN : bg' D = nI N := by
      refine Eq.trans (F3 D (by omega)).1 ?_
      show upd bg (D + 1) (nI Bn) D = nI N
      rw [upd_n (by omega), hNb]
    have gS : sg' D = nI (na + 1) := by
      refine Eq.trans (F3 D (by omega)).2 ?_
      show upd (upd sg D (nI (na + 1))) (D + 1) 0 D = nI (na + 1)
      rw [upd_n (by omega), upd_e]
    have gR : re' f = nI (e + 1) := by
      refine Eq.trans (F2 f (by omega)).1 ?_
      show upd re f (nI (e + 1)) f = _
      rw [upd_e]
    have gB : ba' f = nI B := by
      refine Eq.trans (F2 f (by omega)).2 ?_
      show upd ba f (nI B) f = _
      rw [upd_e]
    have em2 := g_leave (tk := nI tk') (o := nI o') (V := nI V) (f := nI (f + 1)) (t := nI t') (s := 0) (ou := om') (ce := ce') (bk := bk') (vl := vl') (by omega : D < 1600) gN (by omega) e0 gS e1 (by omega)
    rw [m_leave _ (by omega)] at em2
    have ec2 := i_num (nx := nI (min tk' q)) (B := nI T) (f := nI (f + 1)) (s := 3) (o := nI o') (t := nI t') (res := 0) (stk := stk') (el := el') (re := re') (ba := ba') (ou := ou') s1 s2 (show eb < len by omega) f9 (show T + 12 < 576 by omega)
    have ec3 := i_ret (nx := nI (min tk' q)) (b0 := T) (m := f) (k := T + 12) (s := 3) (o := nI o') (t := nI t') (res := 0) (stk := upd stk' (T + 12) (g.2.2.1 7 eb)) (el := el') (re := re') (ba := ba') (ou := ou') s1 s2 (show eb + 1 < len by omega) f11 h1 (by omega) (by omega) (by omega)
    rw [gR, gB, upd_e, f10] at ec3
    rw [f10] at ec2
    refine ⟨1 + j + 1, 1 + k + (1 + 1), _, _, ((MSteps.one em (by omega)).trans hm').trans (MSteps.one em2 (by omega)), ((CSteps.mk ec).trans hc').trans ((CSteps.mk ec2).trans (CSteps.mk ec3)), Or.inl ⟨t', tk', ⟨o', _, _, _, _, _, _, _, _, _, _, _, rfl, rfl, ho', hou', hel', fun k hk => ?_⟩, ?_, ⟨fun j hj => ?_, fun j hj => ⟨?_, ?_⟩, fun j hj => ⟨?_, ?_⟩, fun j hj => ?_, fun j hj => ?_⟩, by omega, by omega, by omega, by omega, by omega⟩⟩
    · rw [upd_n (by omega), upd_n (by omega)]
      have q1 : stk' (B + k) = stk (B + k) := F1 (B + k) (by omega)
      have q2 : bk' (12 * (f - 1) + k) = (if 12 * f ≤ 12 * (f - 1) + k ∧ 12 * (f - 1) + k < 12 * f + na then vl (V + (12 * (f - 1) + k - 12 * f)) else bk (12 * (f - 1) + k)) := F5 (12 * (f - 1) + k) (by omega)
      rw [if_neg (by omega)] at q2
      rw [q1, q2, hva k hk]
    · show upd (upd stk' (T + 12) 0) T 0 T = upd vl' V 0 V
      rw [upd_e, upd_e]
    · show upd (upd stk' (T + 12) 0) T 0 j = stk j
      rw [upd_n (by omega), upd_n (by omega)]; exact F1 j hj
    · refine Eq.trans (F2 j (by omega)).1 ?_
      show upd re f (nI (e + 1)) j = re j
      rw [upd_n (by omega)]
    · refine Eq.trans (F2 j (by omega)).2 ?_
      show upd ba f (nI B) j = ba j
      rw [upd_n (by omega)]
    · refine Eq.trans (F3 j (by omega)).1 ?_
      show upd bg (D + 1) (nI Bn) j = bg j
      rw [upd_n (by omega)]
    · show upd sg' D (nI (na + 2)) j = sg j
      rw [upd_n (by omega)]
      refine Eq.trans (F3 j (by omega)).2 ?_
      show upd (upd sg D (nI (na + 1))) (D + 1) 0 j = sg j
      rw [upd_n (by omega), upd_n (by omega)]
    · show upd vl' V 0 j = vl j
      rw [upd_n (by omega)]; exact F4 j (by omega)
    · have q2 : bk' j = (if 12 * f ≤ j ∧ j < 12 * f + na then vl (V + (j - 12 * f)) else bk j) := F5 j (by omega)
      rw [if_neg (by omega)] at q2
      exact q2
  · -- it was left by a return
    obtain ⟨o', r, ho', ⟨F1, F2, F3, F4, F5⟩, hr, hou', ⟨om', ce', bk', bg', sg', vl', rfl⟩, hcl⟩ := hRet
    rcases hcl with ⟨-, hr2, hel', stk', el', re', ba', ou', rfl⟩ | ⟨hf1, -⟩
    · refine ⟨1 + j, 1 + k, _, _, (MSteps.one em (by omega)).trans hm', (CSteps.mk ec).trans hc', Or.inl ⟨t', tk', ⟨o', stk', el', re', ba', ou', om', ce', bk', bg', sg', vl', ?_, rfl, ho', hou', hel', fun k hk => ?_⟩, ?_, ⟨fun j hj => F1 j hj, fun j hj => ⟨?_, ?_⟩, fun j hj => ⟨?_, ?_⟩, fun j hj => F4 j (by omega), fun j hj => ?_⟩, by omega, by omega, by omega, by omega, by omega⟩⟩
      · show mkC g _ _ (upd ba f (nI B) (f + 1 - 1)) (nI (f + 1 - 1)) (upd re f (nI (e + 1)) (f + 1 - 1)) 3 _ _ _ _ _ _ _ _ = _
        rw [show f + 1 - 1 = f by omega, upd_e, upd_e]
      · have q1 : stk' (B + k) = stk (B + k) := F1 (B + k) (by omega)
        have q2 : bk' (12 * (f - 1) + k) = (if 12 * f ≤ 12 * (f - 1) + k ∧ 12 * (f - 1) + k < 12 * f + na then vl (V + (12 * (f - 1) + k - 12 * f)) else bk (12 * (f - 1) + k)) := F5 (12 * (f - 1) + k) (by omega)
        rw [if_neg (by omega)] at q2
        rw [q1, q2, hva k hk]
      · exact hr2.trans hr.symm
      · refine Eq.trans (F2 j (by omega)).1 ?_
        show upd re f (nI (e + 1)) j = re j
        rw [upd_n (by omega)]
      · refine Eq.trans (F2 j (by omega)).2 ?_
        show upd ba f (nI B) j = ba j
        rw [upd_n (by omega)]
      · refine Eq.trans (F3 j (by omega)).1 ?_
        show upd bg (D + 1) (nI Bn) j = bg j
        rw [upd_n (by omega)]
      · refine Eq.trans (F3 j (by omega)).2 ?_
        show upd (upd sg D (nI (na + 1))) (D + 1) 0 j = sg j
        rw [upd_n (by omega), upd_n (by omega)]
      · have q2 : bk' j = (if 12 * f ≤ j ∧ j < 12 * f + na then vl (V + (j - 12 * f)) else bk j) := F5 j (by omega)
        rw [if_neg (by omega)] at q2
        exact q2
    · omega
  · exact ⟨1 + j, 1 + k, _, _, (MSteps.one em (by omega)).trans hm', (CSteps.mk ec).trans hc', Or.inr ⟨hE, by omega, by omega⟩⟩
end EY
