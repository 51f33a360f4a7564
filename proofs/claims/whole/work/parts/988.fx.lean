/-! A function, both sides: its head. -/
section FX
variable {n : Nat} {K : Nat → Int32} {p : Nat → Nat} {V : Nat → Int64} {g h : St} {tg : Nat → Nat} {q na nf fC fM a l nd oc wt ar : Nat} {co op sz so wh oe tw th nx tk os wa wf : Nat → Int32}
/-- the class's way from behind the name to behind ")" -/
theorem fun_open (T : TkC g n K p V) (ha : a + 2 ≤ n) (hk : K (a + 2) = 40) (t : Int32) : tGrammar_function (mkW g 0 (-1) (wn n p fC) (nI (a + 2)) (nI 0) (nI l) co op sz) t = b2 (b1 (tCursor_kind (mkW (sI (sI g 8 0) 9 0) 0 (-1) (wn n p fC) (nI (a + 3)) (nI 0) (nI l) co op sz)) (fun r3 => if r3 = 41 then some ((0 : Int32), mkW (sI (sI g 8 0) 9 0) 0 (-1) (wn n p fC) (nI (a + 3)) (nI 0) (nI l) co op sz) else tGrammar_parameters (mkW (sI (sI g 8 0) 9 0) 0 (-1) (wn n p fC) (nI (a + 3)) (nI 0) (nI l) co op sz))) (fun r5 u5 => tGrammar_function_L 2000 1 u5 t r5) := by
  have Fg : FrC g (sI (sI g 8 0) 9 0) := frc_sI (frc_sI (frc_refl g) (by omega)) (by omega)
  unfold tGrammar_function tVariables_startFunction
  rw [b1S rfl, mkW_b8, mkW_b9, b1S (w_pass (tkc_keep T Fg) ha hk)]
  cases tCursor_kind (mkW (sI (sI g 8 0) 9 0) 0 (-1) (wn n p fC) (nI (a + 2 + 1)) (nI 0) (nI l) co op sz) with
  | none => rfl
  | some r =>
    show (if r = 41 then _ else _) = b2 (if r = 41 then _ else _) _
    by_cases h41 : r = 41
    · rw [if_pos h41, if_pos h41]; rfl
    · rw [if_neg h41, if_neg h41]
/-- what the model does behind its parameters -/
theorem mfun_open {x i : Nat} {h2 u1 : St} {P : Option (Int32 × St)} (e1 : tModel_makeGlobal (sI (sI (sI (mkV h 0 (-1) (ftk n fM) (nI (a + 2)) (nI 0) (nI nd) (nI oc) (nI wt) so wh oe tw th nx tk os wa wf) 31 (nI (a + 2) + 1)) 38 0) 39 1) (nI (a + 1)) 1 0 = some (nI x, u1)) (hx : x < 60) (e2 : tModel_parameters u1 = P) :
    tModel_functionPart (mkV h 0 (-1) (ftk n fM) (nI (a + 2)) (nI 0) (nI nd) (nI oc) (nI wt) so wh oe tw th nx tk os wa wf) (nI (a + 1)) = b2 P (fun r2 u2 => if (u2.1 29) = 0 then b1 (tModel_sees (sA u2 29 (upd (u2.2.2.1 29) x r2)) 123) (fun r5 => if r5 = 0 then b1 (tModel_spoil (sA u2 29 (upd (u2.2.2.1 29) x r2))) (fun u7 => tModel_functionPart_L 2000 1 u7 (nI x) 0) else tModel_functionPart_L 2000 1 (sA u2 29 (upd (u2.2.2.1 29) x r2)) (nI x) 0) else tModel_functionPart_L 2000 1 (sA u2 29 (upd (u2.2.2.1 29) x r2)) (nI x) 0) := by
  unfold tModel_functionPart
  rw [mkV_i31, b2S e1, e2]
  cases P with
  | none => rfl
  | some z =>
    obtain ⟨z1, z2⟩ := z
    rw [b2S (a := z1) (u := z2) rfl, b2S (a := z1) (u := z2) rfl, gdT (inI hx (by omega)), tc_nI (by omega)]
/-- parameters: where they begin -/
theorem pl_start {x q' nf' T0 fM' : Nat} (T : TkC g n K p V) (TM : TkM h n K p V) (h10 : ∃ b, b ≤ 12 ∧ g.1 10 = nI b) (ha : a + 3 ≤ n) (hF : FRel (min fC T0) fM' (NH (mkV h 0 (-1) (ftk n fM) (nI (a + 2)) (nI 0) (nI nd) (nI oc) (nI wt) so wh oe tw th nx tk os wa wf).2.2.1 0 nd)) :
    PL n K p V (sI (sI g 8 0) 9 0) (hGl (sI (sI h 38 0) 39 1) x (a + 1) 1 0 q' nf' na na) co op sz so wh oe tw th nx tk os wa wf l nd oc (nI wt) (NH (mkV h 0 (-1) (ftk n fM) (nI (a + 2)) (nI 0) (nI nd) (nI oc) (nI wt) so wh oe tw th nx tk os wa wf).2.2.1 0 nd) T0 fC 0 (a + 3) (mkW (sI (sI g 8 0) 9 0) 0 (-1) (wn n p fC) (nI (a + 3)) (nI 0) (nI l) co op sz) (mkV (hGl (sI (sI h 38 0) 39 1) x (a + 1) 1 0 q' nf' na na) 0 (-1) (ftk n fM') (nI (a + 3)) (nI 0) (nI nd) (nI oc) (nI wt) so wh oe tw th nx tk os wa wf) := by
  have Fg : FrC g (sI (sI g 8 0) 9 0) := frc_sI (frc_sI (frc_refl g) (by omega)) (by omega)
  have Fh : FrM h (hGl (sI (sI h 38 0) 39 1) x (a + 1) 1 0 q' nf' na na) := frm_sI (frm_sI (frm_sI (frm_sA (frm_sA (frm_sA (frm_sA (frm_sI (frm_sI (frm_refl h) (by omega)) (by omega)) (by omega)) (by omega)) (by omega)) (by omega)) (by omega)) (by omega)) (by omega)
  exact ⟨_, _, fun _ => 0, 0, 0, fC, fM', True, rfl, rfl, ⟨tkc_keep T Fg, tkm_keep (frm_same Fh) TM, ⟨rfl, by omega⟩, ⟨rfl, by omega, fun k hk => absurd hk (by omega)⟩, fun _ => ⟨rfl, fun k hk => absurd hk (by omega)⟩, ⟨0, by omega, rfl⟩, h10⟩, ⟨rfl, by omega, rfl, by omega, fun _ => ⟨by omega, fun k hk => absurd hk (by omega)⟩⟩, kg_refl, kh_refl, Or.inl trivial, Nat.le_refl _, hF, fun _ => ⟨rfl, by omega⟩, ha⟩
end FX
