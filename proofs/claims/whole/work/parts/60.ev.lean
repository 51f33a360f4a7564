/-! Values: the walker works out a node while the class's machine runs through its code. -/
def Bd (d w x z T B f t D V tk v n : Nat) : Prop := 1 ≤ f ∧ f ≤ 12 ∧ v ≤ 12 ∧ T = B + 12 + w ∧ B ≤ 48 * (f - 1) ∧ V ≤ 33 * (f - 1) + x ∧ D + d ≤ 130 * f ∧ t ≤ 400 ∧ 400 ≤ t + n ∧ tk + z + 5000 * (400 - t) ≤ 1000000000
def EVd (g h : St) (F : Nat → Nat → Nat → Prop) (len nn q n d : Nat) : Prop := ∀ N a b v w x z : Nat, CV g.2.2.1 h.2.2.1 F len nn d N a b v w x z → ∀ (c m : St) (T B f t D V tk : Nat), Bd d w x z T B f t D V tk v n → Rl g h q c m a T B f t (D + 1) V tk v → m.2.2.1 41 D = nI N → m.2.2.1 42 D = 0 → VO g h q c m b T B f t D V tk v z (b - a)
section EV
variable {g h : St} {F : Nat → Nat → Nat → Prop} {len nn q n d N a b v w x z T B f t D V tk : Nat} {c m : St}
/-- one step of each, and a value is there -/
theorem vo_leaf {r : Int32} {o tk' : Nat} {stk el re ba ou om ce bk bg sg vl sg' : Nat → Int32} (hB : Bd d w x z T B f t D V tk v n) (hw : w ≤ 34) (ho : o ≤ 30) (hou : ∀ j, j < o → ou j = om j) (hel : ∀ j, j < 64 → el j = ce j) (hva : ∀ k, k < v → stk (B + k) = bk (12 * (f - 1) + k)) (hz : 1 ≤ z) (hb : b = a + 1) (htk : tk' ≤ tk + 1)
    (hm : tModel_goOn (mkM h (nI tk) (nI o) (nI (D + 1)) (nI V) (nI f) (nI t) 0 om ce bk bg sg vl) = some (mkM h (nI tk') (nI o) (nI D) (nI (V + 1)) (nI f) (nI t) 0 om ce bk bg sg' (upd vl V r)))
    (hc : tMachine_step (mkC g (nI (min tk q)) (nI T) (nI B) (nI f) (nI a) 3 (nI o) (nI t) 0 stk el re ba ou) = some (mkC g (nI (min tk' q)) (nI (T + 1)) (nI B) (nI f) (nI (a + 1)) 3 (nI o) (nI t) 0 (upd stk T r) el re ba ou)) (hsg : ∀ j, j < D → sg' j = sg j) :
    VO g h q (mkC g (nI (min tk q)) (nI T) (nI B) (nI f) (nI a) 3 (nI o) (nI t) 0 stk el re ba ou) (mkM h (nI tk) (nI o) (nI (D + 1)) (nI V) (nI f) (nI t) 0 om ce bk bg sg vl) b T B f t D V tk v z (b - a) := by
  obtain ⟨h1, h2, h3, h4, h5, h6, h7, h8, h9, h10⟩ := hB
  subst hb
  refine ⟨1, 1, _, _, MSteps.one hm (by omega), CSteps.mk hc, Or.inl ⟨t, tk', ⟨o, _, _, _, _, _, _, _, _, _, _, _, rfl, rfl, ho, hou, hel, fun k hk => ?_⟩, ?_, ⟨fun j hj => ?_, fun j hj => ⟨rfl, rfl⟩, fun j hj => ⟨rfl, hsg j hj⟩, fun j hj => ?_, fun j hj => rfl⟩, by omega, by omega, by omega, by omega, by omega⟩⟩
  · rw [upd_n (by omega)]; exact hva k hk
  · show upd stk T r T = upd vl V r V
    rw [upd_e, upd_e]
  · exact upd_n (by omega)
  · exact upd_n (by omega)
theorem ev_leaf (hS : Sta g h F len nn q) (hcv : CV g.2.2.1 h.2.2.1 F len nn (d + 1) N a b v w x z) (hB : Bd (d + 1) w x z T B f t D V tk v n) (hR : Rl g h q c m a T B f t (D + 1) V tk v) (hN : m.2.2.1 41 D = nI N) (hk : h.2.2.1 20 N = 1 ∨ h.2.2.1 20 N = 2 ∨ h.2.2.1 20 N = 3) : VO g h q c m b T B f t D V tk v z (b - a) := by
  obtain ⟨s1, s2, s3, s4, s5, s6, s7⟩ := hS
  obtain ⟨o, stk, el, re, ba, ou, om, ce, bk, bg, sg, vl, rfl, rfl, ho, hou, hel, hva⟩ := hR
  obtain ⟨h1, h2, h3, h4, h5, h6, h7, h8, h9, h10⟩ := id hB
  obtain ⟨k0, k2, k3, k4, k5, hcases⟩ := hcv
  have k1 : N < 499 := by omega
  have hNb : bg D = nI N := hN
  have hsg : ∀ j, j < D → upd sg D (sg D + 1) j = sg j := fun j hj => upd_n (by omega)
  rcases hcases with hc | hc | hc | hc | hc | hc | hc | hc
  · obtain ⟨c1, c2, c3, c4, c5⟩ := hc
    exact vo_leaf (tk' := tk) hB k4 ho hou hel hva (by omega) c2 (by omega) (g_num (by omega) hNb (by omega) c1 (by omega)) (by rw [← c5]; exact i_num s1 s2 (by omega) c4 (by omega)) hsg
  · obtain ⟨c1, c2, c3, c4⟩ := hc
    by_cases hq : tk < q
    · refine vo_leaf (tk' := tk + 1) hB k4 ho hou hel hva (by omega) c2 (by omega) (by rw [g_read (by omega) hNb (by omega) c1 s4 s5 (by omega) (by omega), if_pos hq]) ?_ hsg
      rw [show min tk q = tk by omega, show min (tk + 1) q = tk + 1 by omega, ← s6 tk hq]
      exact i_read s1 s2 (by omega) s3 s5 hq c4 (by omega)
    · refine vo_leaf (tk' := tk + 1) hB k4 ho hou hel hva (by omega) c2 (by omega) (by rw [g_read (by omega) hNb (by omega) c1 s4 s5 (by omega) (by omega), if_neg hq]) ?_ hsg
      rw [show min tk q = q by omega, show min (tk + 1) q = q by omega]
      exact i_read0 s1 s2 (by omega) s3 s5 (by omega) (by omega) c4 (by omega)
  · obtain ⟨c1, c2, c3, c4, k, hk, c5, c6⟩ := hc
    obtain ⟨f, rfl⟩ : ∃ f', f = f' + 1 := ⟨f - 1, by omega⟩
    have hva' := hva k hk
    rw [show f + 1 - 1 = f by omega] at hva'
    exact vo_leaf (tk' := tk) (r := bk (12 * f + k)) hB k4 ho hou hel hva (by omega) c2 (by omega) (g_var (by omega) hNb (by omega) c1 c5 (by omega) (by omega)) (by rw [← hva']; exact i_var s1 s2 (by omega) c4 c6 (by omega) (by omega)) hsg
  all_goals (obtain ⟨c1, -⟩ := hc; rw [c1] at hk; exact absurd hk (by decide))
end EV
