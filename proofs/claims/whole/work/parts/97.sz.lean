/-! Every statement. -/
section SZ
variable {n : Nat} {K : Nat → Int32} {p : Nat → Nat} {V : Nat → Int64}
theorem sres_wrap {g h c m : St} {fC a o l nd vc sb dp ar : Nat} {ag nb : Prop} {res : Option (Int32 × St)} (h1 : SRes n K p V g h c m fC a o l nd vc sb dp ar ag nb res) : SRes n K p V g h c m fC a o l nd vc sb dp ar ag nb (b2 res (fun _ u => some (0, u))) := by
  obtain ⟨x, c', e, h2⟩ := h1
  exact ⟨0, c', by rw [b2S e], h2⟩
theorem stm_step {d o : Nat} (hS : ∀ d', d' ≤ d + 10 → d + 6 ≤ d' → o < 12 → StP n K p V d' (o + 1)) (hd : 70 ≤ d + 5 * o) (hd2 : 10 ≤ d) (ho : o ≤ 12) : StP n K p V (d + 11) o := by
  intro g h c m tv fC fM a l nd vc vm sb dp ar A ag nb ib ⟨co, op, sz, hc⟩ ⟨oc, wt, hoc, so, wh, oe, tw, th, nx, tk, os, wa, wf, hm⟩ hB hib hnb hk125
  subst hc; subst hm
  have hB' := hB
  obtain ⟨B, L, hag, hF, ⟨ha, hl, hnd, ho1, ho12⟩, ⟨har, har2, hA, hA2, hdp⟩⟩ := hB
  have hn := B.2.1.1.1
  have hdisp := st_disp (fM := fM) (o := o) (nd := nd) (OC := nI oc) (WT := nI wt) (so := so) (wh := wh) (oe := oe) (tw := tw) (th := th) (nx := nx) (tk := tk) (os := os) (wa := wa) (wf := wf) B ha har hA (by omega) hk125
  rw [tG_14]
  unfold tGrammar_statement
  rw [b1S (w_kind B.1 ha)]
  by_cases h1 : K a = 1
  · rw [if_neg (ki h1 (by decide)), if_neg (ki h1 (by decide)), if_neg (ki h1 (by decide)), if_neg (ki h1 (by decide)), if_neg (ki h1 (by decide)), if_neg (ki h1 (by decide)), if_pos h1] at hdisp
    rw [if_pos h1, mkW_i6]
    exact sres_wrap (stm_named (d := d + 7) hB' hoc (by omega) (by omega) h1 hdisp)
  rw [if_neg h1]
  by_cases h3 : K a = 3
  · rw [if_neg (ki h3 (by decide)), if_neg (ki h3 (by decide)), if_pos h3] at hdisp
    rw [if_pos h3]
    exact sres_wrap (stm_new (d := d + 7) hB' hoc (by omega) (by omega) h3 hib hnb hdisp)
  rw [if_neg h3]
  by_cases h4 : K a = 4
  · rw [if_neg (ki h4 (by decide)), if_neg (ki h4 (by decide)), if_neg h3, if_pos h4] at hdisp
    rw [if_pos h4, b1S (w_kind B.1 ha), h4]
    exact sres_wrap (stm_if (d := d + 4) hB' (fun h => hS (d + 9) (by omega) (by omega) h) (fun h => hS (d + 8) (by omega) (by omega) h) hoc (by omega) (by omega) h4 hdisp)
  rw [if_neg h4]
  by_cases h6 : K a = 6
  · rw [if_neg (ki h6 (by decide)), if_neg (ki h6 (by decide)), if_neg h3, if_neg h4, if_pos h6] at hdisp
    rw [if_pos h6, b1S (w_kind B.1 ha), h6]
    exact sres_wrap (stm_while (d := d + 5) hB' (fun h => hS (d + 9) (by omega) (by omega) h) hoc (by omega) (by omega) h6 hdisp)
  rw [if_neg h6]
  by_cases h7 : K a = 7
  · have han := kz_lt B.1 h7 (by decide)
    rw [if_pos h7] at hdisp
    rw [if_pos h7, b1S (w_pass B.1 ha h7)]
    exact stm_val (d := d + 9) hB' (by omega) (by omega) (by omega) (by omega) (Or.inl ⟨rfl, rfl⟩) hdisp
  rw [if_neg h7]
  rw [if_neg h7] at hdisp
  by_cases h9 : K a = 9
  · rw [if_neg (ki h9 (by decide)), if_neg h3, if_neg h4, if_neg h6, if_pos h9] at hdisp
    rw [if_pos h9]
    exact stm_print (d := d + 10) hB' hoc (by omega) (by omega) h9 hdisp
  rw [if_neg h9]
  by_cases h123 : K a = 123
  · rw [if_pos h123] at hdisp
    rw [if_pos h123]
    exact sres_wrap (stm_block (d := d + 8) hB' (fun h => hS (d + 8) (by omega) (by omega) h) hoc (by omega) h123 hdisp)
  rw [if_neg h123]
  rw [if_neg h123, if_neg h3, if_neg h4, if_neg h6, if_neg h9, if_neg h1] at hdisp
  exact stm_val (d := d + 9) hB' (by omega) (by omega) (Nat.le_refl _) ha (Or.inr ⟨rfl, rfl⟩) hdisp
/-- statements are read alike -/
theorem stm_all : ∀ (k o d : Nat), o + k = 12 → 1 ≤ o → 5 * k + 21 ≤ d → StP n K p V d o := by
  intro k
  induction k with
  | zero =>
    intro o d ho ho1 hd
    obtain ⟨d, rfl⟩ : ∃ j, d = j + 11 := ⟨d - 11, by omega⟩
    exact stm_step (fun d' _ _ h => absurd h (by omega)) (by omega) (by omega) (by omega)
  | succ k ih =>
    intro o d ho ho1 hd
    obtain ⟨d, rfl⟩ : ∃ j, d = j + 11 := ⟨d - 11, by omega⟩
    exact stm_step (fun d' h1 h2 h => ih (o + 1) d' (by omega) (by omega) (by omega)) (by omega) (by omega) (by omega)
end SZ
