theorem d_Model_isSign_0 : decode b_Model_isSign 0 = .ok (.aload_n 0, 1) := by decide +kernel
theorem d_Model_isSign_1 : decode b_Model_isSign 1 = .ok (.iload_n 1, 1) := by decide +kernel
theorem d_Model_isSign_2 : decode b_Model_isSign 2 = .ok (.invokevirtual 124, 3) := by decide +kernel
theorem d_Model_isSign_5 : decode b_Model_isSign 5 = .ok (.istore_n 2, 1) := by decide +kernel
theorem d_Model_isSign_6 : decode b_Model_isSign 6 = .ok (.iload_n 2, 1) := by decide +kernel
theorem d_Model_isSign_7 : decode b_Model_isSign 7 = .ok (.bipush 33, 2) := by decide +kernel
theorem d_Model_isSign_9 : decode b_Model_isSign 9 = .ok (.if_icmp .eq 69, 3) := by decide +kernel
theorem d_Model_isSign_12 : decode b_Model_isSign 12 = .ok (.iload_n 2, 1) := by decide +kernel
theorem d_Model_isSign_13 : decode b_Model_isSign 13 = .ok (.bipush 37, 2) := by decide +kernel
theorem d_Model_isSign_15 : decode b_Model_isSign 15 = .ok (.if_icmp .eq 63, 3) := by decide +kernel
theorem d_Model_isSign_18 : decode b_Model_isSign 18 = .ok (.iload_n 2, 1) := by decide +kernel
theorem d_Model_isSign_19 : decode b_Model_isSign 19 = .ok (.bipush 40, 2) := by decide +kernel
theorem d_Model_isSign_21 : decode b_Model_isSign 21 = .ok (.if_icmp .lt 9, 3) := by decide +kernel
theorem d_Model_isSign_24 : decode b_Model_isSign 24 = .ok (.iload_n 2, 1) := by decide +kernel
theorem d_Model_isSign_25 : decode b_Model_isSign 25 = .ok (.bipush 45, 2) := by decide +kernel
theorem d_Model_isSign_27 : decode b_Model_isSign 27 = .ok (.if_icmp .le 51, 3) := by decide +kernel
theorem d_Model_isSign_30 : decode b_Model_isSign 30 = .ok (.iload_n 2, 1) := by decide +kernel
theorem d_Model_isSign_31 : decode b_Model_isSign 31 = .ok (.bipush 47, 2) := by decide +kernel
theorem d_Model_isSign_33 : decode b_Model_isSign 33 = .ok (.if_icmp .eq 45, 3) := by decide +kernel
theorem d_Model_isSign_36 : decode b_Model_isSign 36 = .ok (.iload_n 2, 1) := by decide +kernel
theorem d_Model_isSign_37 : decode b_Model_isSign 37 = .ok (.bipush 59, 2) := by decide +kernel
theorem d_Model_isSign_39 : decode b_Model_isSign 39 = .ok (.if_icmp .lt 9, 3) := by decide +kernel
theorem d_Model_isSign_42 : decode b_Model_isSign 42 = .ok (.iload_n 2, 1) := by decide +kernel
theorem d_Model_isSign_43 : decode b_Model_isSign 43 = .ok (.bipush 62, 2) := by decide +kernel
theorem d_Model_isSign_45 : decode b_Model_isSign 45 = .ok (.if_icmp .le 33, 3) := by decide +kernel
theorem d_Model_isSign_48 : decode b_Model_isSign 48 = .ok (.iload_n 2, 1) := by decide +kernel
theorem d_Model_isSign_49 : decode b_Model_isSign 49 = .ok (.bipush 91, 2) := by decide +kernel
theorem d_Model_isSign_51 : decode b_Model_isSign 51 = .ok (.if_icmp .eq 27, 3) := by decide +kernel
theorem d_Model_isSign_54 : decode b_Model_isSign 54 = .ok (.iload_n 2, 1) := by decide +kernel
theorem d_Model_isSign_55 : decode b_Model_isSign 55 = .ok (.bipush 93, 2) := by decide +kernel
theorem d_Model_isSign_57 : decode b_Model_isSign 57 = .ok (.if_icmp .eq 21, 3) := by decide +kernel
theorem d_Model_isSign_60 : decode b_Model_isSign 60 = .ok (.iload_n 2, 1) := by decide +kernel
theorem d_Model_isSign_61 : decode b_Model_isSign 61 = .ok (.bipush 123, 2) := by decide +kernel
theorem d_Model_isSign_63 : decode b_Model_isSign 63 = .ok (.if_icmp .eq 15, 3) := by decide +kernel
theorem d_Model_isSign_66 : decode b_Model_isSign 66 = .ok (.iload_n 2, 1) := by decide +kernel
theorem d_Model_isSign_67 : decode b_Model_isSign 67 = .ok (.bipush 125, 2) := by decide +kernel
theorem d_Model_isSign_69 : decode b_Model_isSign 69 = .ok (.if_icmp .eq 9, 3) := by decide +kernel
theorem d_Model_isSign_72 : decode b_Model_isSign 72 = .ok (.iload_n 2, 1) := by decide +kernel
theorem d_Model_isSign_73 : decode b_Model_isSign 73 = .ok (.bipush 126, 2) := by decide +kernel
theorem d_Model_isSign_75 : decode b_Model_isSign 75 = .ok (.if_icmp .ne 7, 3) := by decide +kernel
theorem d_Model_isSign_78 : decode b_Model_isSign 78 = .ok (.iconst 1, 1) := by decide +kernel
theorem d_Model_isSign_79 : decode b_Model_isSign 79 = .ok (.goto 4, 3) := by decide +kernel
theorem d_Model_isSign_82 : decode b_Model_isSign 82 = .ok (.iconst 0, 1) := by decide +kernel
theorem d_Model_isSign_83 : decode b_Model_isSign 83 = .ok (.ireturn, 1) := by decide +kernel
def tModel_isSign_b1 (k : Nat → St → Int32 → Option (Int32)) (σ : St) (x1 : Int32) : Option (Int32) := if x1 = 47 then some 1 else if x1 < 59 then k 2 σ x1 else if x1 ≤ 62 then some 1 else k 2 σ x1
def tModel_isSign_b2 (k : Nat → St → Int32 → Option (Int32)) (σ : St) (x1 : Int32) : Option (Int32) := if x1 = 91 then some 1 else if x1 = 93 then some 1 else if x1 = 123 then some 1 else if x1 = 125 then some 1 else if x1 = 126 then some 1 else some 0
def tModel_isSign_L : Nat → Nat → St → Int32 → Option (Int32)
  | 0, _, _, _ => none
  | n + 1, lab, σ, x1 => match lab with
    | 1 => tModel_isSign_b1 (tModel_isSign_L n) σ x1
    | 2 => tModel_isSign_b2 (tModel_isSign_L n) σ x1
    | _ => none
def tModel_isSign (σ : St) (a1 : Int32) : Option (Int32) := b1 (tModel_sign σ a1) (fun r1 => if r1 = 33 then some 1 else if r1 = 37 then some 1 else if r1 < 40 then tModel_isSign_L 2000 1 σ r1 else if r1 ≤ 45 then some 1 else tModel_isSign_L 2000 1 σ r1)
set_option maxHeartbeats 4000000 in
set_option maxRecDepth 100000 in
theorem tModel_isSign_blk {p : Program} {e : Env} {s : State} {m : MethodId} {args : Array Value} {below : List Frame} {meth : Method} {c : Code} {A : Nat → Prop} (l : Launch) (dC : Nat → ClassId) (dI : Nat → Nat → Nat) (ad : Nat → Nat) (cA : Nat → ClassId) {r : Int32} (X : Cx p s m args meth c b_Model_isSign 3 (some .boolean) "TinyForgeModel" (dC, dI) (ttys cA) ad A) : ∀ n : Nat, (∀ (σ : St) (x1 : Int32) (H : Heap) (locs : List Loc) (ls : Array Slot), tModel_isSign_L n 1 σ x1 = some r → va_P (dC, dI) vwCl (tcw ad cA σ) H → va_D A (tcw ad cA σ) → va_S A s.heap H locs → lv_has ls 3 [(2, .int x1)] → W p l e { frames := 1, cells := 0, slots := 0, locals := 21 } s m args below meth c H locs 0 0 (MQ below (QI (dC, dI) (ttys cA) (tcw ad cA) A r σ) args s 0 0 A) (F0 m 30 ls [])) ∧ (∀ (σ : St) (x1 : Int32) (H : Heap) (locs : List Loc) (ls : Array Slot), tModel_isSign_L n 2 σ x1 = some r → va_P (dC, dI) vwCl (tcw ad cA σ) H → va_D A (tcw ad cA σ) → va_S A s.heap H locs → lv_has ls 3 [(2, .int x1)] → W p l e { frames := 1, cells := 0, slots := 0, locals := 21 } s m args below meth c H locs 0 0 (MQ below (QI (dC, dI) (ttys cA) (tcw ad cA) A r σ) args s 0 0 A) (F0 m 48 ls [])) := by
  obtain ⟨hx, hb, hr, hml, hown, hlocks, hts, hA, hK, hZ⟩ := id X
  intro n
  induction n with
  | zero => exact ⟨(fun σ x1 H locs ls hF => by cases hF), (fun σ x1 H locs ls hF => by cases hF)⟩
  | succ n ihn =>
    refine ⟨fun σ x1 H locs ls hF hP hD hS hl => ?_, fun σ x1 H locs ls hF hP hD hS hl => ?_⟩
    · have hF : tModel_isSign_b1 (tModel_isSign_L n) σ x1 = some r := hF
      unfold tModel_isSign_b1 at hF
      refine lv_iload_n hx hb d_Model_isSign_30 rfl (lv_at hl 0 rfl) ?_
      refine lv_bipush (v := 47) hx hb d_Model_isSign_31 (by decide) ?_
      refine lv_icmp_eq (tgt := 78) hx hb d_Model_isSign_33 (by decide) (fun c_6 => ?_) (fun c_6 => ?_)
      · have hF := ifp hF c_6
        refine lv_iconst (v := 1) hx hb d_Model_isSign_78 (by decide) ?_
        refine lv_goto (tgt := 83) hx hb d_Model_isSign_79 (by decide) ?_
        cases hF
        exact leafZ X hP hD hS (by decide) d_Model_isSign_83
      · have hF := ifn hF c_6
        refine lv_iload_n hx hb d_Model_isSign_36 rfl (lv_at hl 0 rfl) ?_
        refine lv_bipush (v := 59) hx hb d_Model_isSign_37 (by decide) ?_
        refine lv_icmp_lt (tgt := 48) hx hb d_Model_isSign_39 (by decide) (fun c_7 => ?_) (fun c_7 => ?_)
        · have hF := ifp hF c_7
          exact ihn.2 σ x1 H locs ls hF hP hD hS (lv_sub hl [0] rfl)
        · have hF := ifn hF c_7
          refine lv_iload_n hx hb d_Model_isSign_42 rfl (lv_at hl 0 rfl) ?_
          refine lv_bipush (v := 62) hx hb d_Model_isSign_43 (by decide) ?_
          refine lv_icmp_le (tgt := 78) hx hb d_Model_isSign_45 (by decide) (fun c_8 => ?_) (fun c_8 => ?_)
          · have hF := ifp hF c_8
            refine lv_iconst (v := 1) hx hb d_Model_isSign_78 (by decide) ?_
            refine lv_goto (tgt := 83) hx hb d_Model_isSign_79 (by decide) ?_
            cases hF
            exact leafZ X hP hD hS (by decide) d_Model_isSign_83
          · have hF := ifn hF c_8
            exact ihn.2 σ x1 H locs ls hF hP hD hS (lv_sub hl [0] rfl)
    · have hF : tModel_isSign_b2 (tModel_isSign_L n) σ x1 = some r := hF
      unfold tModel_isSign_b2 at hF
      refine lv_iload_n hx hb d_Model_isSign_48 rfl (lv_at hl 0 rfl) ?_
      refine lv_bipush (v := 91) hx hb d_Model_isSign_49 (by decide) ?_
      refine lv_icmp_eq (tgt := 78) hx hb d_Model_isSign_51 (by decide) (fun c_9 => ?_) (fun c_9 => ?_)
      · have hF := ifp hF c_9
        refine lv_iconst (v := 1) hx hb d_Model_isSign_78 (by decide) ?_
        refine lv_goto (tgt := 83) hx hb d_Model_isSign_79 (by decide) ?_
        cases hF
        exact leafZ X hP hD hS (by decide) d_Model_isSign_83
      · have hF := ifn hF c_9
        refine lv_iload_n hx hb d_Model_isSign_54 rfl (lv_at hl 0 rfl) ?_
        refine lv_bipush (v := 93) hx hb d_Model_isSign_55 (by decide) ?_
        refine lv_icmp_eq (tgt := 78) hx hb d_Model_isSign_57 (by decide) (fun c_10 => ?_) (fun c_10 => ?_)
        · have hF := ifp hF c_10
          refine lv_iconst (v := 1) hx hb d_Model_isSign_78 (by decide) ?_
          refine lv_goto (tgt := 83) hx hb d_Model_isSign_79 (by decide) ?_
          cases hF
          exact leafZ X hP hD hS (by decide) d_Model_isSign_83
        · have hF := ifn hF c_10
          refine lv_iload_n hx hb d_Model_isSign_60 rfl (lv_at hl 0 rfl) ?_
          refine lv_bipush (v := 123) hx hb d_Model_isSign_61 (by decide) ?_
          refine lv_icmp_eq (tgt := 78) hx hb d_Model_isSign_63 (by decide) (fun c_11 => ?_) (fun c_11 => ?_)
          · have hF := ifp hF c_11
            refine lv_iconst (v := 1) hx hb d_Model_isSign_78 (by decide) ?_
            refine lv_goto (tgt := 83) hx hb d_Model_isSign_79 (by decide) ?_
            cases hF
            exact leafZ X hP hD hS (by decide) d_Model_isSign_83
          · have hF := ifn hF c_11
            refine lv_iload_n hx hb d_Model_isSign_66 rfl (lv_at hl 0 rfl) ?_
            refine lv_bipush (v := 125) hx hb d_Model_isSign_67 (by decide) ?_
            refine lv_icmp_eq (tgt := 78) hx hb d_Model_isSign_69 (by decide) (fun c_12 => ?_) (fun c_12 => ?_)
            · have hF := ifp hF c_12
              refine lv_iconst (v := 1) hx hb d_Model_isSign_78 (by decide) ?_
              refine lv_goto (tgt := 83) hx hb d_Model_isSign_79 (by decide) ?_
              cases hF
              exact leafZ X hP hD hS (by decide) d_Model_isSign_83
            · have hF := ifn hF c_12
              refine lv_iload_n hx hb d_Model_isSign_72 rfl (lv_at hl 0 rfl) ?_
              refine lv_bipush (v := 126) hx hb d_Model_isSign_73 (by decide) ?_
              refine lv_icmp_ne (tgt := 82) hx hb d_Model_isSign_75 (by decide) (fun c_13 => ?_) (fun c_13 => ?_)
              · have hF := ifn hF c_13
                refine lv_iconst (v := 0) hx hb d_Model_isSign_82 (by decide) ?_
                cases hF
                exact leafZ X hP hD hS (by decide) d_Model_isSign_83
              · have hF := ifp hF c_13
                refine lv_iconst (v := 1) hx hb d_Model_isSign_78 (by decide) ?_
                refine lv_goto (tgt := 83) hx hb d_Model_isSign_79 (by decide) ?_
                cases hF
                exact leafZ X hP hD hS (by decide) d_Model_isSign_83
set_option maxHeartbeats 4000000 in
set_option maxRecDepth 100000 in
theorem ct_Model_isSign (l : Launch) (dC : Nat → ClassId) (dI : Nat → Nat → Nat) (ad : Nat → Nat) (cA : Nat → ClassId) (sz : Nat) {σ : St} {a1 : Int32} {r : Int32} (hF : tModel_isSign σ a1 = some r) : MI l y_Model_isSign b_Model_isSign 3 (some .boolean) { frames := 1, cells := 0, slots := 0, locals := 21 } (dC, dI) (ttys cA) ad (tcw ad cA) [.ref (ad 11), .int a1] σ sz r σ := by
  refine startM (own := "TinyForgeModel") (Qc := fun A => QI (dC, dI) (ttys cA) (tcw ad cA) A r σ) rfl rfl (Nat.le_of_ble_eq_true rfl) ?_
  intro p e s m below meth c A H locs ls X hP hD hS hl
  have hl : lv_has ls 3 [(0, .ref (ad 11)), (1, .int a1)] := hl
  obtain ⟨hx, hb, hr, hml, hown, hlocks, hts, hA, hK, hZ⟩ := id X
  unfold tModel_isSign at hF
  refine lv_aload_n hx hb d_Model_isSign_0 rfl (lv_at hl 0 rfl) ?_
  refine lv_iload_n hx hb d_Model_isSign_1 rfl (lv_at hl 1 rfl) ?_
  obtain ⟨r1, h1, hF⟩ := b1E hF
  refine callVI (As := [.int a1]) X (ct_Model_sign l dC dI ad cA H.size h1) lk_Model_124 ⟨rfl, rfl, by decide, by decide⟩ 11 rfl rfl hP hD hS hl.1 rfl rfl (Nat.le_of_ble_eq_true rfl) d_Model_isSign_2 (fun H locs hP hD hS => ?_)
  refine lv_istore_n (lv' := [(2, .int r1), (0, .ref (ad 11)), (1, .int a1)]) hx hb d_Model_isSign_5 rfl hl (by decide) rfl (fun ls hl => ?_)
  refine lv_iload_n hx hb d_Model_isSign_6 rfl (lv_at hl 0 rfl) ?_
  refine lv_bipush (v := 33) hx hb d_Model_isSign_7 (by decide) ?_
  refine lv_icmp_eq (tgt := 78) hx hb d_Model_isSign_9 (by decide) (fun c_2 => ?_) (fun c_2 => ?_)
  · have hF := ifp hF c_2
    refine lv_iconst (v := 1) hx hb d_Model_isSign_78 (by decide) ?_
    refine lv_goto (tgt := 83) hx hb d_Model_isSign_79 (by decide) ?_
    cases hF
    exact leafZ X hP hD hS (by decide) d_Model_isSign_83
  · have hF := ifn hF c_2
    refine lv_iload_n hx hb d_Model_isSign_12 rfl (lv_at hl 0 rfl) ?_
    refine lv_bipush (v := 37) hx hb d_Model_isSign_13 (by decide) ?_
    refine lv_icmp_eq (tgt := 78) hx hb d_Model_isSign_15 (by decide) (fun c_3 => ?_) (fun c_3 => ?_)
    · have hF := ifp hF c_3
      refine lv_iconst (v := 1) hx hb d_Model_isSign_78 (by decide) ?_
      refine lv_goto (tgt := 83) hx hb d_Model_isSign_79 (by decide) ?_
      cases hF
      exact leafZ X hP hD hS (by decide) d_Model_isSign_83
    · have hF := ifn hF c_3
      refine lv_iload_n hx hb d_Model_isSign_18 rfl (lv_at hl 0 rfl) ?_
      refine lv_bipush (v := 40) hx hb d_Model_isSign_19 (by decide) ?_
      refine lv_icmp_lt (tgt := 30) hx hb d_Model_isSign_21 (by decide) (fun c_4 => ?_) (fun c_4 => ?_)
      · have hF := ifp hF c_4
        exact (tModel_isSign_blk l dC dI ad cA X 2000).1 σ r1 H locs ls hF hP hD hS (lv_sub hl [0] rfl)
      · have hF := ifn hF c_4
        refine lv_iload_n hx hb d_Model_isSign_24 rfl (lv_at hl 0 rfl) ?_
        refine lv_bipush (v := 45) hx hb d_Model_isSign_25 (by decide) ?_
        refine lv_icmp_le (tgt := 78) hx hb d_Model_isSign_27 (by decide) (fun c_5 => ?_) (fun c_5 => ?_)
        · have hF := ifp hF c_5
          refine lv_iconst (v := 1) hx hb d_Model_isSign_78 (by decide) ?_
          refine lv_goto (tgt := 83) hx hb d_Model_isSign_79 (by decide) ?_
          cases hF
          exact leafZ X hP hD hS (by decide) d_Model_isSign_83
        · have hF := ifn hF c_5
          exact (tModel_isSign_blk l dC dI ad cA X 2000).1 σ r1 H locs ls hF hP hD hS (lv_sub hl [0] rfl)
theorem d_Model_signLength_0 : decode b_Model_signLength 0 = .ok (.aload_n 0, 1) := by decide +kernel
theorem d_Model_signLength_1 : decode b_Model_signLength 1 = .ok (.iload_n 1, 1) := by decide +kernel
theorem d_Model_signLength_2 : decode b_Model_signLength 2 = .ok (.invokevirtual 124, 3) := by decide +kernel
theorem d_Model_signLength_5 : decode b_Model_signLength 5 = .ok (.istore_n 2, 1) := by decide +kernel
theorem d_Model_signLength_6 : decode b_Model_signLength 6 = .ok (.aload_n 0, 1) := by decide +kernel
theorem d_Model_signLength_7 : decode b_Model_signLength 7 = .ok (.iload_n 1, 1) := by decide +kernel
theorem d_Model_signLength_8 : decode b_Model_signLength 8 = .ok (.iconst 1, 1) := by decide +kernel
theorem d_Model_signLength_9 : decode b_Model_signLength 9 = .ok (.iadd, 1) := by decide +kernel
theorem d_Model_signLength_10 : decode b_Model_signLength 10 = .ok (.invokevirtual 124, 3) := by decide +kernel
theorem d_Model_signLength_13 : decode b_Model_signLength 13 = .ok (.istore_n 3, 1) := by decide +kernel
theorem d_Model_signLength_14 : decode b_Model_signLength 14 = .ok (.iload_n 3, 1) := by decide +kernel
theorem d_Model_signLength_15 : decode b_Model_signLength 15 = .ok (.bipush 61, 2) := by decide +kernel
theorem d_Model_signLength_17 : decode b_Model_signLength 17 = .ok (.if_icmp .ne 29, 3) := by decide +kernel
theorem d_Model_signLength_20 : decode b_Model_signLength 20 = .ok (.iload_n 2, 1) := by decide +kernel
theorem d_Model_signLength_21 : decode b_Model_signLength 21 = .ok (.bipush 61, 2) := by decide +kernel
theorem d_Model_signLength_23 : decode b_Model_signLength 23 = .ok (.if_icmp .eq 21, 3) := by decide +kernel
theorem d_Model_signLength_26 : decode b_Model_signLength 26 = .ok (.iload_n 2, 1) := by decide +kernel
theorem d_Model_signLength_27 : decode b_Model_signLength 27 = .ok (.bipush 33, 2) := by decide +kernel
theorem d_Model_signLength_29 : decode b_Model_signLength 29 = .ok (.if_icmp .eq 15, 3) := by decide +kernel
theorem d_Model_signLength_32 : decode b_Model_signLength 32 = .ok (.iload_n 2, 1) := by decide +kernel
theorem d_Model_signLength_33 : decode b_Model_signLength 33 = .ok (.bipush 60, 2) := by decide +kernel
theorem d_Model_signLength_35 : decode b_Model_signLength 35 = .ok (.if_icmp .eq 9, 3) := by decide +kernel
theorem d_Model_signLength_38 : decode b_Model_signLength 38 = .ok (.iload_n 2, 1) := by decide +kernel
theorem d_Model_signLength_39 : decode b_Model_signLength 39 = .ok (.bipush 62, 2) := by decide +kernel
theorem d_Model_signLength_41 : decode b_Model_signLength 41 = .ok (.if_icmp .ne 5, 3) := by decide +kernel
theorem d_Model_signLength_44 : decode b_Model_signLength 44 = .ok (.iconst 2, 1) := by decide +kernel
theorem d_Model_signLength_45 : decode b_Model_signLength 45 = .ok (.ireturn, 1) := by decide +kernel
theorem d_Model_signLength_46 : decode b_Model_signLength 46 = .ok (.iload_n 2, 1) := by decide +kernel
theorem d_Model_signLength_47 : decode b_Model_signLength 47 = .ok (.iload_n 3, 1) := by decide +kernel
theorem d_Model_signLength_48 : decode b_Model_signLength 48 = .ok (.if_icmp .ne 17, 3) := by decide +kernel
theorem d_Model_signLength_51 : decode b_Model_signLength 51 = .ok (.iload_n 2, 1) := by decide +kernel
theorem d_Model_signLength_52 : decode b_Model_signLength 52 = .ok (.bipush 38, 2) := by decide +kernel
theorem d_Model_signLength_54 : decode b_Model_signLength 54 = .ok (.if_icmp .eq 9, 3) := by decide +kernel
theorem d_Model_signLength_57 : decode b_Model_signLength 57 = .ok (.iload_n 2, 1) := by decide +kernel
theorem d_Model_signLength_58 : decode b_Model_signLength 58 = .ok (.bipush 124, 2) := by decide +kernel
theorem d_Model_signLength_60 : decode b_Model_signLength 60 = .ok (.if_icmp .ne 5, 3) := by decide +kernel
theorem d_Model_signLength_63 : decode b_Model_signLength 63 = .ok (.iconst 2, 1) := by decide +kernel
theorem d_Model_signLength_64 : decode b_Model_signLength 64 = .ok (.ireturn, 1) := by decide +kernel
theorem d_Model_signLength_65 : decode b_Model_signLength 65 = .ok (.aload_n 0, 1) := by decide +kernel
theorem d_Model_signLength_66 : decode b_Model_signLength 66 = .ok (.iload_n 1, 1) := by decide +kernel
theorem d_Model_signLength_67 : decode b_Model_signLength 67 = .ok (.invokevirtual 127, 3) := by decide +kernel
theorem d_Model_signLength_70 : decode b_Model_signLength 70 = .ok (.ifCond .eq 7, 3) := by decide +kernel
theorem d_Model_signLength_73 : decode b_Model_signLength 73 = .ok (.iconst 1, 1) := by decide +kernel
theorem d_Model_signLength_74 : decode b_Model_signLength 74 = .ok (.goto 4, 3) := by decide +kernel
theorem d_Model_signLength_77 : decode b_Model_signLength 77 = .ok (.iconst 0, 1) := by decide +kernel
theorem d_Model_signLength_78 : decode b_Model_signLength 78 = .ok (.ireturn, 1) := by decide +kernel
def tModel_signLength_b1 (k : Nat → St → Int32 → Int32 → Int32 → Option (Int32)) (σ : St) (x1 : Int32) (x2 : Int32) (x3 : Int32) : Option (Int32) := if x2 = x3 then if x2 = 38 then some 2 else if x2 = 124 then some 2 else k 2 σ x1 0 0 else k 2 σ x1 0 0
def tModel_signLength_b2 (k : Nat → St → Int32 → Int32 → Int32 → Option (Int32)) (σ : St) (x1 : Int32) (x2 : Int32) (x3 : Int32) : Option (Int32) := b1 (tModel_isSign σ x1) (fun r11 => if r11 = 0 then some 0 else some 1)
def tModel_signLength_L : Nat → Nat → St → Int32 → Int32 → Int32 → Option (Int32)
  | 0, _, _, _, _, _ => none
  | n + 1, lab, σ, x1, x2, x3 => match lab with
    | 1 => tModel_signLength_b1 (tModel_signLength_L n) σ x1 x2 x3
    | 2 => tModel_signLength_b2 (tModel_signLength_L n) σ x1 x2 x3
    | _ => none
def tModel_signLength (σ : St) (a1 : Int32) : Option (Int32) := b1 (tModel_sign σ a1) (fun r1 => b1 (tModel_sign σ (a1 + 1)) (fun r2 => if r2 = 61 then if r1 = 61 then some 2 else if r1 = 33 then some 2 else if r1 = 60 then some 2 else if r1 = 62 then some 2 else tModel_signLength_L 2000 1 σ a1 r1 r2 else tModel_signLength_L 2000 1 σ a1 r1 r2))
set_option maxHeartbeats 4000000 in
set_option maxRecDepth 100000 in
theorem tModel_signLength_blk {p : Program} {e : Env} {s : State} {m : MethodId} {args : Array Value} {below : List Frame} {meth : Method} {c : Code} {A : Nat → Prop} (l : Launch) (dC : Nat → ClassId) (dI : Nat → Nat → Nat) (ad : Nat → Nat) (cA : Nat → ClassId) {r : Int32} (X : Cx p s m args meth c b_Model_signLength 4 (some .int) "TinyForgeModel" (dC, dI) (ttys cA) ad A) : ∀ n : Nat, (∀ (σ : St) (x1 : Int32) (x2 : Int32) (x3 : Int32) (H : Heap) (locs : List Loc) (ls : Array Slot), tModel_signLength_L n 1 σ x1 x2 x3 = some r → va_P (dC, dI) vwCl (tcw ad cA σ) H → va_D A (tcw ad cA σ) → va_S A s.heap H locs → lv_has ls 4 [(0, .ref (ad 11)), (1, .int x1), (2, .int x2), (3, .int x3)] → W p l e { frames := 2, cells := 0, slots := 0, locals := 43 } s m args below meth c H locs 0 0 (MQ below (QI (dC, dI) (ttys cA) (tcw ad cA) A r σ) args s 0 0 A) (F0 m 46 ls [])) ∧ (∀ (σ : St) (x1 : Int32) (x2 : Int32) (x3 : Int32) (H : Heap) (locs : List Loc) (ls : Array Slot), tModel_signLength_L n 2 σ x1 x2 x3 = some r → va_P (dC, dI) vwCl (tcw ad cA σ) H → va_D A (tcw ad cA σ) → va_S A s.heap H locs → lv_has ls 4 [(0, .ref (ad 11)), (1, .int x1)] → W p l e { frames := 2, cells := 0, slots := 0, locals := 43 } s m args below meth c H locs 0 0 (MQ below (QI (dC, dI) (ttys cA) (tcw ad cA) A r σ) args s 0 0 A) (F0 m 65 ls [])) := by
  obtain ⟨hx, hb, hr, hml, hown, hlocks, hts, hA, hK, hZ⟩ := id X
  intro n
  induction n with
  | zero => exact ⟨(fun σ x1 x2 x3 H locs ls hF => by cases hF), (fun σ x1 x2 x3 H locs ls hF => by cases hF)⟩
  | succ n ihn =>
    refine ⟨fun σ x1 x2 x3 H locs ls hF hP hD hS hl => ?_, fun σ x1 x2 x3 H locs ls hF hP hD hS hl => ?_⟩
    · have hF : tModel_signLength_b1 (tModel_signLength_L n) σ x1 x2 x3 = some r := hF
      unfold tModel_signLength_b1 at hF
      refine lv_iload_n hx hb d_Model_signLength_46 rfl (lv_at hl 2 rfl) ?_
      refine lv_iload_n hx hb d_Model_signLength_47 rfl (lv_at hl 3 rfl) ?_
      refine lv_icmp_ne (tgt := 65) hx hb d_Model_signLength_48 (by decide) (fun c_8 => ?_) (fun c_8 => ?_)
      · have hF := ifn hF c_8
        exact ihn.2 σ x1 0 0 H locs ls hF hP hD hS (lv_sub hl [0, 1] rfl)
      · have hF := ifp hF c_8
        refine lv_iload_n hx hb d_Model_signLength_51 rfl (lv_at hl 2 rfl) ?_
        refine lv_bipush (v := 38) hx hb d_Model_signLength_52 (by decide) ?_
        refine lv_icmp_eq (tgt := 63) hx hb d_Model_signLength_54 (by decide) (fun c_9 => ?_) (fun c_9 => ?_)
        · have hF := ifp hF c_9
          refine lv_iconst (v := 2) hx hb d_Model_signLength_63 (by decide) ?_
          cases hF
          exact leafI X hP hD hS d_Model_signLength_64
        · have hF := ifn hF c_9
          refine lv_iload_n hx hb d_Model_signLength_57 rfl (lv_at hl 2 rfl) ?_
          refine lv_bipush (v := 124) hx hb d_Model_signLength_58 (by decide) ?_
          refine lv_icmp_ne (tgt := 65) hx hb d_Model_signLength_60 (by decide) (fun c_10 => ?_) (fun c_10 => ?_)
          · have hF := ifn hF c_10
            exact ihn.2 σ x1 0 0 H locs ls hF hP hD hS (lv_sub hl [0, 1] rfl)
          · have hF := ifp hF c_10
            refine lv_iconst (v := 2) hx hb d_Model_signLength_63 (by decide) ?_
            cases hF
            exact leafI X hP hD hS d_Model_signLength_64
    · have hF : tModel_signLength_b2 (tModel_signLength_L n) σ x1 x2 x3 = some r := hF
      unfold tModel_signLength_b2 at hF
      refine lv_aload_n hx hb d_Model_signLength_65 rfl (lv_at hl 0 rfl) ?_
      refine lv_iload_n hx hb d_Model_signLength_66 rfl (lv_at hl 1 rfl) ?_
      obtain ⟨r11, h11, hF⟩ := b1E hF
      refine callVI (As := [.int x1]) X (ct_Model_isSign l dC dI ad cA H.size h11) lk_Model_127 ⟨rfl, rfl, by decide, by decide⟩ 11 rfl rfl hP hD hS hl.1 rfl rfl (Nat.le_of_ble_eq_true rfl) d_Model_signLength_67 (fun H locs hP hD hS => ?_)
      refine lv_if_eq (tgt := 77) hx hb d_Model_signLength_70 (by decide) (fun c_12 => ?_) (fun c_12 => ?_)
      · have hF := ifp hF c_12
        refine lv_iconst (v := 0) hx hb d_Model_signLength_77 (by decide) ?_
        cases hF
        exact leafI X hP hD hS d_Model_signLength_78
      · have hF := ifn hF c_12
        refine lv_iconst (v := 1) hx hb d_Model_signLength_73 (by decide) ?_
        refine lv_goto (tgt := 78) hx hb d_Model_signLength_74 (by decide) ?_
        cases hF
        exact leafI X hP hD hS d_Model_signLength_78
set_option maxHeartbeats 4000000 in
set_option maxRecDepth 100000 in
theorem ct_Model_signLength (l : Launch) (dC : Nat → ClassId) (dI : Nat → Nat → Nat) (ad : Nat → Nat) (cA : Nat → ClassId) (sz : Nat) {σ : St} {a1 : Int32} {r : Int32} (hF : tModel_signLength σ a1 = some r) : MI l y_Model_signLength b_Model_signLength 4 (some .int) { frames := 2, cells := 0, slots := 0, locals := 43 } (dC, dI) (ttys cA) ad (tcw ad cA) [.ref (ad 11), .int a1] σ sz r σ := by
  refine startM (own := "TinyForgeModel") (Qc := fun A => QI (dC, dI) (ttys cA) (tcw ad cA) A r σ) rfl rfl (Nat.le_of_ble_eq_true rfl) ?_
  intro p e s m below meth c A H locs ls X hP hD hS hl
  have hl : lv_has ls 4 [(0, .ref (ad 11)), (1, .int a1)] := hl
  obtain ⟨hx, hb, hr, hml, hown, hlocks, hts, hA, hK, hZ⟩ := id X
  unfold tModel_signLength at hF
  refine lv_aload_n hx hb d_Model_signLength_0 rfl (lv_at hl 0 rfl) ?_
  refine lv_iload_n hx hb d_Model_signLength_1 rfl (lv_at hl 1 rfl) ?_
  obtain ⟨r1, h1, hF⟩ := b1E hF
  refine callVI (As := [.int a1]) X (ct_Model_sign l dC dI ad cA H.size h1) lk_Model_124 ⟨rfl, rfl, by decide, by decide⟩ 11 rfl rfl hP hD hS hl.1 rfl rfl (Nat.le_of_ble_eq_true rfl) d_Model_signLength_2 (fun H locs hP hD hS => ?_)
  refine lv_istore_n (lv' := [(2, .int r1), (0, .ref (ad 11)), (1, .int a1)]) hx hb d_Model_signLength_5 rfl hl (by decide) rfl (fun ls hl => ?_)
  refine lv_aload_n hx hb d_Model_signLength_6 rfl (lv_at hl 1 rfl) ?_
  refine lv_iload_n hx hb d_Model_signLength_7 rfl (lv_at hl 2 rfl) ?_
  refine lv_iconst (v := 1) hx hb d_Model_signLength_8 (by decide) ?_
  refine lv_iadd hx hb d_Model_signLength_9 ?_
  obtain ⟨r2, h2, hF⟩ := b1E hF
  refine callVI (As := [.int (a1 + 1)]) X (ct_Model_sign l dC dI ad cA H.size h2) lk_Model_124 ⟨rfl, rfl, by decide, by decide⟩ 11 rfl rfl hP hD hS hl.1 rfl rfl (Nat.le_of_ble_eq_true rfl) d_Model_signLength_10 (fun H locs hP hD hS => ?_)
  refine lv_istore_n (lv' := [(3, .int r2), (2, .int r1), (0, .ref (ad 11)), (1, .int a1)]) hx hb d_Model_signLength_13 rfl hl (by decide) rfl (fun ls hl => ?_)
  refine lv_iload_n hx hb d_Model_signLength_14 rfl (lv_at hl 0 rfl) ?_
  refine lv_bipush (v := 61) hx hb d_Model_signLength_15 (by decide) ?_
  refine lv_icmp_ne (tgt := 46) hx hb d_Model_signLength_17 (by decide) (fun c_3 => ?_) (fun c_3 => ?_)
  · have hF := ifn hF c_3
    exact (tModel_signLength_blk l dC dI ad cA X 2000).1 σ a1 r1 r2 H locs ls hF hP hD hS (lv_sub hl [2, 3, 1, 0] rfl)
  · have hF := ifp hF c_3
    refine lv_iload_n hx hb d_Model_signLength_20 rfl (lv_at hl 1 rfl) ?_
    refine lv_bipush (v := 61) hx hb d_Model_signLength_21 (by decide) ?_
    refine lv_icmp_eq (tgt := 44) hx hb d_Model_signLength_23 (by decide) (fun c_4 => ?_) (fun c_4 => ?_)
    · have hF := ifp hF c_4
      refine lv_iconst (v := 2) hx hb d_Model_signLength_44 (by decide) ?_
      cases hF
      exact leafI X hP hD hS d_Model_signLength_45
    · have hF := ifn hF c_4
      refine lv_iload_n hx hb d_Model_signLength_26 rfl (lv_at hl 1 rfl) ?_
      refine lv_bipush (v := 33) hx hb d_Model_signLength_27 (by decide) ?_
      refine lv_icmp_eq (tgt := 44) hx hb d_Model_signLength_29 (by decide) (fun c_5 => ?_) (fun c_5 => ?_)
      · have hF := ifp hF c_5
        refine lv_iconst (v := 2) hx hb d_Model_signLength_44 (by decide) ?_
        cases hF
        exact leafI X hP hD hS d_Model_signLength_45
      · have hF := ifn hF c_5
        refine lv_iload_n hx hb d_Model_signLength_32 rfl (lv_at hl 1 rfl) ?_
        refine lv_bipush (v := 60) hx hb d_Model_signLength_33 (by decide) ?_
        refine lv_icmp_eq (tgt := 44) hx hb d_Model_signLength_35 (by decide) (fun c_6 => ?_) (fun c_6 => ?_)
        · have hF := ifp hF c_6
          refine lv_iconst (v := 2) hx hb d_Model_signLength_44 (by decide) ?_
          cases hF
          exact leafI X hP hD hS d_Model_signLength_45
        · have hF := ifn hF c_6
          refine lv_iload_n hx hb d_Model_signLength_38 rfl (lv_at hl 1 rfl) ?_
          refine lv_bipush (v := 62) hx hb d_Model_signLength_39 (by decide) ?_
          refine lv_icmp_ne (tgt := 46) hx hb d_Model_signLength_41 (by decide) (fun c_7 => ?_) (fun c_7 => ?_)
          · have hF := ifn hF c_7
            exact (tModel_signLength_blk l dC dI ad cA X 2000).1 σ a1 r1 r2 H locs ls hF hP hD hS (lv_sub hl [2, 3, 1, 0] rfl)
          · have hF := ifp hF c_7
            refine lv_iconst (v := 2) hx hb d_Model_signLength_44 (by decide) ?_
            cases hF
            exact leafI X hP hD hS d_Model_signLength_45
theorem d_Model_takeTokens_0 : decode b_Model_takeTokens 0 = .ok (.aload_n 0, 1) := by decide +kernel
theorem d_Model_takeTokens_1 : decode b_Model_takeTokens 1 = .ok (.iconst 0, 1) := by decide +kernel
theorem d_Model_takeTokens_2 : decode b_Model_takeTokens 2 = .ok (.putfield 131, 3) := by decide +kernel
theorem d_Model_takeTokens_5 : decode b_Model_takeTokens 5 = .ok (.iconst 0, 1) := by decide +kernel
theorem d_Model_takeTokens_6 : decode b_Model_takeTokens 6 = .ok (.istore_n 1, 1) := by decide +kernel
theorem d_Model_takeTokens_7 : decode b_Model_takeTokens 7 = .ok (.iload_n 1, 1) := by decide +kernel
theorem d_Model_takeTokens_8 : decode b_Model_takeTokens 8 = .ok (.aload_n 0, 1) := by decide +kernel
theorem d_Model_takeTokens_9 : decode b_Model_takeTokens 9 = .ok (.getfield 118, 3) := by decide +kernel
theorem d_Model_takeTokens_12 : decode b_Model_takeTokens 12 = .ok (.if_icmp .ge 98, 3) := by decide +kernel
theorem d_Model_takeTokens_15 : decode b_Model_takeTokens 15 = .ok (.aload_n 0, 1) := by decide +kernel
theorem d_Model_takeTokens_16 : decode b_Model_takeTokens 16 = .ok (.getfield 121, 3) := by decide +kernel
theorem d_Model_takeTokens_19 : decode b_Model_takeTokens 19 = .ok (.ifCond .ne 91, 3) := by decide +kernel
theorem d_Model_takeTokens_22 : decode b_Model_takeTokens 22 = .ok (.aload_n 0, 1) := by decide +kernel
theorem d_Model_takeTokens_23 : decode b_Model_takeTokens 23 = .ok (.getfield 7, 3) := by decide +kernel
theorem d_Model_takeTokens_26 : decode b_Model_takeTokens 26 = .ok (.iload_n 1, 1) := by decide +kernel
theorem d_Model_takeTokens_27 : decode b_Model_takeTokens 27 = .ok (.caload, 1) := by decide +kernel
theorem d_Model_takeTokens_28 : decode b_Model_takeTokens 28 = .ok (.istore_n 2, 1) := by decide +kernel
theorem d_Model_takeTokens_29 : decode b_Model_takeTokens 29 = .ok (.iload_n 2, 1) := by decide +kernel
theorem d_Model_takeTokens_30 : decode b_Model_takeTokens 30 = .ok (.bipush 10, 2) := by decide +kernel
theorem d_Model_takeTokens_32 : decode b_Model_takeTokens 32 = .ok (.if_icmp .eq 9, 3) := by decide +kernel
theorem d_Model_takeTokens_35 : decode b_Model_takeTokens 35 = .ok (.iload_n 2, 1) := by decide +kernel
theorem d_Model_takeTokens_36 : decode b_Model_takeTokens 36 = .ok (.bipush 32, 2) := by decide +kernel
theorem d_Model_takeTokens_38 : decode b_Model_takeTokens 38 = .ok (.if_icmp .ne 9, 3) := by decide +kernel
theorem d_Model_takeTokens_41 : decode b_Model_takeTokens 41 = .ok (.iinc 1 1, 3) := by decide +kernel
theorem d_Model_takeTokens_44 : decode b_Model_takeTokens 44 = .ok (.goto 63, 3) := by decide +kernel
theorem d_Model_takeTokens_47 : decode b_Model_takeTokens 47 = .ok (.iload_n 2, 1) := by decide +kernel
theorem d_Model_takeTokens_48 : decode b_Model_takeTokens 48 = .ok (.invokestatic 134, 3) := by decide +kernel
theorem d_Model_takeTokens_51 : decode b_Model_takeTokens 51 = .ok (.ifCond .eq 12, 3) := by decide +kernel
theorem d_Model_takeTokens_54 : decode b_Model_takeTokens 54 = .ok (.aload_n 0, 1) := by decide +kernel
theorem d_Model_takeTokens_55 : decode b_Model_takeTokens 55 = .ok (.iload_n 1, 1) := by decide +kernel
theorem d_Model_takeTokens_56 : decode b_Model_takeTokens 56 = .ok (.invokevirtual 157, 3) := by decide +kernel
theorem d_Model_takeTokens_59 : decode b_Model_takeTokens 59 = .ok (.istore_n 1, 1) := by decide +kernel
theorem d_Model_takeTokens_60 : decode b_Model_takeTokens 60 = .ok (.goto 47, 3) := by decide +kernel
theorem d_Model_takeTokens_63 : decode b_Model_takeTokens 63 = .ok (.iload_n 2, 1) := by decide +kernel
theorem d_Model_takeTokens_64 : decode b_Model_takeTokens 64 = .ok (.invokestatic 137, 3) := by decide +kernel
theorem d_Model_takeTokens_67 : decode b_Model_takeTokens 67 = .ok (.ifCond .eq 12, 3) := by decide +kernel
theorem d_Model_takeTokens_70 : decode b_Model_takeTokens 70 = .ok (.aload_n 0, 1) := by decide +kernel
theorem d_Model_takeTokens_71 : decode b_Model_takeTokens 71 = .ok (.iload_n 1, 1) := by decide +kernel
theorem d_Model_takeTokens_72 : decode b_Model_takeTokens 72 = .ok (.invokevirtual 160, 3) := by decide +kernel
theorem d_Model_takeTokens_75 : decode b_Model_takeTokens 75 = .ok (.istore_n 1, 1) := by decide +kernel
theorem d_Model_takeTokens_76 : decode b_Model_takeTokens 76 = .ok (.goto 31, 3) := by decide +kernel
theorem d_Model_takeTokens_79 : decode b_Model_takeTokens 79 = .ok (.aload_n 0, 1) := by decide +kernel
theorem d_Model_takeTokens_80 : decode b_Model_takeTokens 80 = .ok (.iload_n 1, 1) := by decide +kernel
theorem d_Model_takeTokens_81 : decode b_Model_takeTokens 81 = .ok (.invokevirtual 163, 3) := by decide +kernel
theorem d_Model_takeTokens_84 : decode b_Model_takeTokens 84 = .ok (.istore_n 3, 1) := by decide +kernel
theorem d_Model_takeTokens_85 : decode b_Model_takeTokens 85 = .ok (.iload_n 3, 1) := by decide +kernel
theorem d_Model_takeTokens_86 : decode b_Model_takeTokens 86 = .ok (.ifCond .ne 9, 3) := by decide +kernel
theorem d_Model_takeTokens_89 : decode b_Model_takeTokens 89 = .ok (.aload_n 0, 1) := by decide +kernel
theorem d_Model_takeTokens_90 : decode b_Model_takeTokens 90 = .ok (.iconst 1, 1) := by decide +kernel
theorem d_Model_takeTokens_91 : decode b_Model_takeTokens 91 = .ok (.iload_n 1, 1) := by decide +kernel
theorem d_Model_takeTokens_92 : decode b_Model_takeTokens 92 = .ok (.invokevirtual 140, 3) := by decide +kernel
theorem d_Model_takeTokens_95 : decode b_Model_takeTokens 95 = .ok (.aload_n 0, 1) := by decide +kernel
theorem d_Model_takeTokens_96 : decode b_Model_takeTokens 96 = .ok (.iconst 3, 1) := by decide +kernel
theorem d_Model_takeTokens_97 : decode b_Model_takeTokens 97 = .ok (.iload_n 1, 1) := by decide +kernel
theorem d_Model_takeTokens_98 : decode b_Model_takeTokens 98 = .ok (.iload_n 3, 1) := by decide +kernel
theorem d_Model_takeTokens_99 : decode b_Model_takeTokens 99 = .ok (.iconst 0, 1) := by decide +kernel
theorem d_Model_takeTokens_100 : decode b_Model_takeTokens 100 = .ok (.invokevirtual 144, 3) := by decide +kernel
theorem d_Model_takeTokens_103 : decode b_Model_takeTokens 103 = .ok (.iload_n 1, 1) := by decide +kernel
theorem d_Model_takeTokens_104 : decode b_Model_takeTokens 104 = .ok (.iload_n 3, 1) := by decide +kernel
theorem d_Model_takeTokens_105 : decode b_Model_takeTokens 105 = .ok (.iadd, 1) := by decide +kernel
theorem d_Model_takeTokens_106 : decode b_Model_takeTokens 106 = .ok (.istore_n 1, 1) := by decide +kernel
theorem d_Model_takeTokens_107 : decode b_Model_takeTokens 107 = .ok (.goto (-100), 3) := by decide +kernel
theorem d_Model_takeTokens_110 : decode b_Model_takeTokens 110 = .ok (.aload_n 0, 1) := by decide +kernel
theorem d_Model_takeTokens_111 : decode b_Model_takeTokens 111 = .ok (.getfield 121, 3) := by decide +kernel
theorem d_Model_takeTokens_114 : decode b_Model_takeTokens 114 = .ok (.ifCond .ne 26, 3) := by decide +kernel
theorem d_Model_takeTokens_117 : decode b_Model_takeTokens 117 = .ok (.aload_n 0, 1) := by decide +kernel
theorem d_Model_takeTokens_118 : decode b_Model_takeTokens 118 = .ok (.getfield 131, 3) := by decide +kernel
theorem d_Model_takeTokens_121 : decode b_Model_takeTokens 121 = .ok (.sipush 220, 3) := by decide +kernel
theorem d_Model_takeTokens_124 : decode b_Model_takeTokens 124 = .ok (.if_icmp .le 16, 3) := by decide +kernel
theorem d_Model_takeTokens_127 : decode b_Model_takeTokens 127 = .ok (.aload_n 0, 1) := by decide +kernel
theorem d_Model_takeTokens_128 : decode b_Model_takeTokens 128 = .ok (.iconst 2, 1) := by decide +kernel
theorem d_Model_takeTokens_129 : decode b_Model_takeTokens 129 = .ok (.aload_n 0, 1) := by decide +kernel
theorem d_Model_takeTokens_130 : decode b_Model_takeTokens 130 = .ok (.getfield 21, 3) := by decide +kernel
theorem d_Model_takeTokens_133 : decode b_Model_takeTokens 133 = .ok (.sipush 220, 3) := by decide +kernel
theorem d_Model_takeTokens_136 : decode b_Model_takeTokens 136 = .ok (.iaload, 1) := by decide +kernel
theorem d_Model_takeTokens_137 : decode b_Model_takeTokens 137 = .ok (.invokevirtual 140, 3) := by decide +kernel
theorem d_Model_takeTokens_140 : decode b_Model_takeTokens 140 = .ok (.aload_n 0, 1) := by decide +kernel
theorem d_Model_takeTokens_141 : decode b_Model_takeTokens 141 = .ok (.iconst 0, 1) := by decide +kernel
theorem d_Model_takeTokens_142 : decode b_Model_takeTokens 142 = .ok (.aload_n 0, 1) := by decide +kernel
theorem d_Model_takeTokens_143 : decode b_Model_takeTokens 143 = .ok (.getfield 118, 3) := by decide +kernel
theorem d_Model_takeTokens_146 : decode b_Model_takeTokens 146 = .ok (.iconst 0, 1) := by decide +kernel
theorem d_Model_takeTokens_147 : decode b_Model_takeTokens 147 = .ok (.iconst 0, 1) := by decide +kernel
theorem d_Model_takeTokens_148 : decode b_Model_takeTokens 148 = .ok (.invokevirtual 144, 3) := by decide +kernel
theorem d_Model_takeTokens_151 : decode b_Model_takeTokens 151 = .ok (.return_, 1) := by decide +kernel
def tModel_takeTokens_b1 (k : Nat → St → Int32 → Int32 → Option (St)) (σ : St) (x1 : Int32) (x2 : Int32) : Option (St) := if (σ.1 27) ≤ x1 then k 5 σ 0 0 else if (σ.1 29) = 0 then gd (inB x1 480) (if ((σ.2.2.1 15) x1.toNatClampNeg) = 10 then k 2 σ x1 0 else if ((σ.2.2.1 15) x1.toNatClampNeg) = 32 then k 2 σ x1 0 else b1 (tModel_isLetter σ ((σ.2.2.1 15) x1.toNatClampNeg)) (fun r6 => if r6 = 0 then b1 (tModel_isDigit σ ((σ.2.2.1 15) x1.toNatClampNeg)) (fun r8 => if r8 = 0 then b1 (tModel_signLength σ x1) (fun r10 => if r10 = 0 then b1 (tModel_blame σ 1 x1) (fun u12 => k 3 u12 x1 r10) else k 3 σ x1 r10) else b2 (tModel_numberAt σ x1) (fun r13 u13 => k 4 u13 r13 0)) else b2 (tModel_nameAt σ x1) (fun r14 u14 => k 4 u14 r14 0))) else k 5 σ 0 0
def tModel_takeTokens_b2 (k : Nat → St → Int32 → Int32 → Option (St)) (σ : St) (x1 : Int32) (x2 : Int32) : Option (St) := k 4 σ (x1 + 1) 0
def tModel_takeTokens_b3 (k : Nat → St → Int32 → Int32 → Option (St)) (σ : St) (x1 : Int32) (x2 : Int32) : Option (St) := b1 (tModel_addToken σ 3 x1 x2 0) (fun u19 => k 4 u19 (x1 + x2) 0)
def tModel_takeTokens_b4 (k : Nat → St → Int32 → Int32 → Option (St)) (σ : St) (x1 : Int32) (x2 : Int32) : Option (St) := k 1 σ x1 0
def tModel_takeTokens_b5 (k : Nat → St → Int32 → Int32 → Option (St)) (σ : St) (x1 : Int32) (x2 : Int32) : Option (St) := if (σ.1 29) = 0 then if (σ.1 28) ≤ 220 then k 6 σ 0 0 else gd (inB 220 500) (b1 (tModel_blame σ 2 ((σ.2.2.1 17) (220 : Int32).toNatClampNeg)) (fun u18 => k 6 u18 0 0)) else k 6 σ 0 0
def tModel_takeTokens_b6 (k : Nat → St → Int32 → Int32 → Option (St)) (σ : St) (x1 : Int32) (x2 : Int32) : Option (St) := b1 (tModel_addToken σ 0 (σ.1 27) 0 0) (fun u20 => some u20)
def tModel_takeTokens_L : Nat → Nat → St → Int32 → Int32 → Option (St)
  | 0, _, _, _, _ => none
  | n + 1, lab, σ, x1, x2 => match lab with
    | 1 => tModel_takeTokens_b1 (tModel_takeTokens_L n) σ x1 x2
    | 2 => tModel_takeTokens_b2 (tModel_takeTokens_L n) σ x1 x2
    | 3 => tModel_takeTokens_b3 (tModel_takeTokens_L n) σ x1 x2
    | 4 => tModel_takeTokens_b4 (tModel_takeTokens_L n) σ x1 x2
    | 5 => tModel_takeTokens_b5 (tModel_takeTokens_L n) σ x1 x2
    | 6 => tModel_takeTokens_b6 (tModel_takeTokens_L n) σ x1 x2
    | _ => none
def tModel_takeTokens (σ : St) : Option (St) := tModel_takeTokens_L 2000 1 (sI σ 28 0) 0 0
set_option maxHeartbeats 4000000 in
set_option maxRecDepth 100000 in
theorem tModel_takeTokens_blk {p : Program} {e : Env} {s : State} {m : MethodId} {args : Array Value} {below : List Frame} {meth : Method} {c : Code} {A : Nat → Prop} (l : Launch) (dC : Nat → ClassId) (dI : Nat → Nat → Nat) (ad : Nat → Nat) (cA : Nat → ClassId) {σ' : St} (X : Cx p s m args meth c b_Model_takeTokens 4 none "TinyForgeModel" (dC, dI) (ttys cA) ad A) : ∀ n : Nat, (∀ (σ : St) (x1 : Int32) (x2 : Int32) (H : Heap) (locs : List Loc) (ls : Array Slot), tModel_takeTokens_L n 1 σ x1 x2 = some σ' → va_P (dC, dI) vwCl (tcw ad cA σ) H → va_D A (tcw ad cA σ) → va_S A s.heap H locs → lv_has ls 4 [(0, .ref (ad 11)), (1, .int x1)] → W p l e { frames := 3, cells := 0, slots := 0, locals := 69 } s m args below meth c H locs 0 0 (MQ below (QV (dC, dI) (ttys cA) (tcw ad cA) A σ') args s 0 0 A) (F0 m 7 ls [])) ∧ (∀ (σ : St) (x1 : Int32) (x2 : Int32) (H : Heap) (locs : List Loc) (ls : Array Slot), tModel_takeTokens_L n 2 σ x1 x2 = some σ' → va_P (dC, dI) vwCl (tcw ad cA σ) H → va_D A (tcw ad cA σ) → va_S A s.heap H locs → lv_has ls 4 [(0, .ref (ad 11)), (1, .int x1)] → W p l e { frames := 3, cells := 0, slots := 0, locals := 69 } s m args below meth c H locs 0 0 (MQ below (QV (dC, dI) (ttys cA) (tcw ad cA) A σ') args s 0 0 A) (F0 m 41 ls [])) ∧ (∀ (σ : St) (x1 : Int32) (x2 : Int32) (H : Heap) (locs : List Loc) (ls : Array Slot), tModel_takeTokens_L n 3 σ x1 x2 = some σ' → va_P (dC, dI) vwCl (tcw ad cA σ) H → va_D A (tcw ad cA σ) → va_S A s.heap H locs → lv_has ls 4 [(0, .ref (ad 11)), (1, .int x1), (3, .int x2)] → W p l e { frames := 3, cells := 0, slots := 0, locals := 69 } s m args below meth c H locs 0 0 (MQ below (QV (dC, dI) (ttys cA) (tcw ad cA) A σ') args s 0 0 A) (F0 m 95 ls [])) ∧ (∀ (σ : St) (x1 : Int32) (x2 : Int32) (H : Heap) (locs : List Loc) (ls : Array Slot), tModel_takeTokens_L n 4 σ x1 x2 = some σ' → va_P (dC, dI) vwCl (tcw ad cA σ) H → va_D A (tcw ad cA σ) → va_S A s.heap H locs → lv_has ls 4 [(0, .ref (ad 11)), (1, .int x1)] → W p l e { frames := 3, cells := 0, slots := 0, locals := 69 } s m args below meth c H locs 0 0 (MQ below (QV (dC, dI) (ttys cA) (tcw ad cA) A σ') args s 0 0 A) (F0 m 107 ls [])) ∧ (∀ (σ : St) (x1 : Int32) (x2 : Int32) (H : Heap) (locs : List Loc) (ls : Array Slot), tModel_takeTokens_L n 5 σ x1 x2 = some σ' → va_P (dC, dI) vwCl (tcw ad cA σ) H → va_D A (tcw ad cA σ) → va_S A s.heap H locs → lv_has ls 4 [(0, .ref (ad 11))] → W p l e { frames := 3, cells := 0, slots := 0, locals := 69 } s m args below meth c H locs 0 0 (MQ below (QV (dC, dI) (ttys cA) (tcw ad cA) A σ') args s 0 0 A) (F0 m 110 ls [])) ∧ (∀ (σ : St) (x1 : Int32) (x2 : Int32) (H : Heap) (locs : List Loc) (ls : Array Slot), tModel_takeTokens_L n 6 σ x1 x2 = some σ' → va_P (dC, dI) vwCl (tcw ad cA σ) H → va_D A (tcw ad cA σ) → va_S A s.heap H locs → lv_has ls 4 [(0, .ref (ad 11))] → W p l e { frames := 3, cells := 0, slots := 0, locals := 69 } s m args below meth c H locs 0 0 (MQ below (QV (dC, dI) (ttys cA) (tcw ad cA) A σ') args s 0 0 A) (F0 m 140 ls [])) := by
  obtain ⟨hx, hb, hr, hml, hown, hlocks, hts, hA, hK, hZ⟩ := id X
  intro n
  induction n with
  | zero => exact ⟨(fun σ x1 x2 H locs ls hF => by cases hF), (fun σ x1 x2 H locs ls hF => by cases hF), (fun σ x1 x2 H locs ls hF => by cases hF), (fun σ x1 x2 H locs ls hF => by cases hF), (fun σ x1 x2 H locs ls hF => by cases hF), (fun σ x1 x2 H locs ls hF => by cases hF)⟩
  | succ n ihn =>
    refine ⟨fun σ x1 x2 H locs ls hF hP hD hS hl => ?_, fun σ x1 x2 H locs ls hF hP hD hS hl => ?_, fun σ x1 x2 H locs ls hF hP hD hS hl => ?_, fun σ x1 x2 H locs ls hF hP hD hS hl => ?_, fun σ x1 x2 H locs ls hF hP hD hS hl => ?_, fun σ x1 x2 H locs ls hF hP hD hS hl => ?_⟩
    · have hF : tModel_takeTokens_b1 (tModel_takeTokens_L n) σ x1 x2 = some σ' := hF
      unfold tModel_takeTokens_b1 at hF
      refine lv_iload_n hx hb d_Model_takeTokens_7 rfl (lv_at hl 1 rfl) ?_
      refine lv_aload_n hx hb d_Model_takeTokens_8 rfl (lv_at hl 0 rfl) ?_
      refine va_get (D := (dC, dI)) (ci := 11) (v := .int (σ.1 27)) hx hb hts i_Model hown hK hP 11 rfl rfl 2 (by decide) (hts _ w_b232703b7d) (fun _ h9 => h9) rfl d_Model_takeTokens_9 ?_
      refine lv_icmp_ge (tgt := 110) hx hb d_Model_takeTokens_12 (by decide) (fun c_1 => ?_) (fun c_1 => ?_)
      · have hF := ifp hF c_1
        exact ihn.2.2.2.2.1 σ 0 0 H locs ls hF hP hD hS (lv_sub hl [0] rfl)
      · have hF := ifn hF c_1
        refine lv_aload_n hx hb d_Model_takeTokens_15 rfl (lv_at hl 0 rfl) ?_
        refine va_get (D := (dC, dI)) (ci := 11) (v := .int (σ.1 29)) hx hb hts i_Model hown hK hP 11 rfl rfl 4 (by decide) (hts _ w_0464dc4398) (fun _ h9 => h9) rfl d_Model_takeTokens_16 ?_
        refine lv_if_ne (tgt := 110) hx hb d_Model_takeTokens_19 (by decide) (fun c_2 => ?_) (fun c_2 => ?_)
        · have hF := ifn hF c_2
          exact ihn.2.2.2.2.1 σ 0 0 H locs ls hF hP hD hS (lv_sub hl [0] rfl)
        · have hF := ifp hF c_2
          refine lv_aload_n hx hb d_Model_takeTokens_22 rfl (lv_at hl 0 rfl) ?_
          refine va_get (D := (dC, dI)) (ci := 11) (v := .ref (ad 30)) hx hb hts i_Model hown hK hP 11 rfl rfl 1 (by decide) (hts _ w_c45f734488) (fun _ h9 => h9) rfl d_Model_takeTokens_23 ?_
          refine lv_iload_n hx hb d_Model_takeTokens_26 rfl (lv_at hl 1 rfl) ?_
          obtain ⟨g_3, hF⟩ := gdE hF
          refine va_cald (f := (σ.2.2.1 15)) hx hb hK hP 30 2 rfl rfl (inE g_3) d_Model_takeTokens_27 ?_
          refine lv_istore_n (lv' := [(2, .int ((σ.2.2.1 15) x1.toNatClampNeg)), (0, .ref (ad 11)), (1, .int x1)]) hx hb d_Model_takeTokens_28 rfl hl (by decide) rfl (fun ls hl => ?_)
          refine lv_iload_n hx hb d_Model_takeTokens_29 rfl (lv_at hl 0 rfl) ?_
          refine lv_bipush (v := 10) hx hb d_Model_takeTokens_30 (by decide) ?_
          refine lv_icmp_eq (tgt := 41) hx hb d_Model_takeTokens_32 (by decide) (fun c_4 => ?_) (fun c_4 => ?_)
          · have hF := ifp hF c_4
            exact ihn.2.1 σ x1 0 H locs ls hF hP hD hS (lv_sub hl [1, 2] rfl)
          · have hF := ifn hF c_4
            refine lv_iload_n hx hb d_Model_takeTokens_35 rfl (lv_at hl 0 rfl) ?_
            refine lv_bipush (v := 32) hx hb d_Model_takeTokens_36 (by decide) ?_
            refine lv_icmp_ne (tgt := 47) hx hb d_Model_takeTokens_38 (by decide) (fun c_5 => ?_) (fun c_5 => ?_)
            · have hF := ifn hF c_5
              refine lv_iload_n hx hb d_Model_takeTokens_47 rfl (lv_at hl 0 rfl) ?_
              obtain ⟨r6, h6, hF⟩ := b1E hF
              refine callSI (As := [.int ((σ.2.2.1 15) x1.toNatClampNeg)]) X (ct_Model_isLetter l dC dI ad cA H.size h6) lk_Model_134 ⟨rfl, rfl, by decide, by decide⟩ hP hD hS hl.1 rfl rfl (Nat.le_of_ble_eq_true rfl) d_Model_takeTokens_48 (fun H locs hP hD hS => ?_)
              refine lv_if_eq (tgt := 63) hx hb d_Model_takeTokens_51 (by decide) (fun c_7 => ?_) (fun c_7 => ?_)
              · have hF := ifp hF c_7
                refine lv_iload_n hx hb d_Model_takeTokens_63 rfl (lv_at hl 0 rfl) ?_
                obtain ⟨r8, h8, hF⟩ := b1E hF
                refine callSI (As := [.int ((σ.2.2.1 15) x1.toNatClampNeg)]) X (ct_Model_isDigit l dC dI ad cA H.size h8) lk_Model_137 ⟨rfl, rfl, by decide, by decide⟩ hP hD hS hl.1 rfl rfl (Nat.le_of_ble_eq_true rfl) d_Model_takeTokens_64 (fun H locs hP hD hS => ?_)
                refine lv_if_eq (tgt := 79) hx hb d_Model_takeTokens_67 (by decide) (fun c_9 => ?_) (fun c_9 => ?_)
                · have hF := ifp hF c_9
                  refine lv_aload_n hx hb d_Model_takeTokens_79 rfl (lv_at hl 1 rfl) ?_
                  refine lv_iload_n hx hb d_Model_takeTokens_80 rfl (lv_at hl 2 rfl) ?_
                  obtain ⟨r10, h10, hF⟩ := b1E hF
                  refine callVI (As := [.int x1]) X (ct_Model_signLength l dC dI ad cA H.size h10) lk_Model_163 ⟨rfl, rfl, by decide, by decide⟩ 11 rfl rfl hP hD hS hl.1 rfl rfl (Nat.le_of_ble_eq_true rfl) d_Model_takeTokens_81 (fun H locs hP hD hS => ?_)
                  refine lv_istore_n (lv' := [(3, .int r10), (2, .int ((σ.2.2.1 15) x1.toNatClampNeg)), (0, .ref (ad 11)), (1, .int x1)]) hx hb d_Model_takeTokens_84 rfl hl (by decide) rfl (fun ls hl => ?_)
                  refine lv_iload_n hx hb d_Model_takeTokens_85 rfl (lv_at hl 0 rfl) ?_
                  refine lv_if_ne (tgt := 95) hx hb d_Model_takeTokens_86 (by decide) (fun c_11 => ?_) (fun c_11 => ?_)
                  · have hF := ifn hF c_11
                    exact ihn.2.2.1 σ x1 r10 H locs ls hF hP hD hS (lv_sub hl [2, 3, 0] rfl)
                  · have hF := ifp hF c_11
                    refine lv_aload_n hx hb d_Model_takeTokens_89 rfl (lv_at hl 2 rfl) ?_
                    refine lv_iconst (v := 1) hx hb d_Model_takeTokens_90 (by decide) ?_
                    refine lv_iload_n hx hb d_Model_takeTokens_91 rfl (lv_at hl 3 rfl) ?_
                    obtain ⟨u12, h12, hF⟩ := b1E hF
                    refine callVV (As := [.int 1, .int x1]) X (ct_Model_blame l dC dI ad cA H.size h12) lk_Model_140 ⟨rfl, rfl, by decide, by decide⟩ 11 rfl rfl hP hD hS hl.1 rfl rfl (Nat.le_of_ble_eq_true rfl) d_Model_takeTokens_92 (fun H locs hP hD hS => ?_)
                    exact ihn.2.2.1 u12 x1 r10 H locs ls hF hP hD hS (lv_sub hl [2, 3, 0] rfl)
                · have hF := ifn hF c_9
                  refine lv_aload_n hx hb d_Model_takeTokens_70 rfl (lv_at hl 1 rfl) ?_
                  refine lv_iload_n hx hb d_Model_takeTokens_71 rfl (lv_at hl 2 rfl) ?_
                  obtain ⟨r13, u13, h13, hF⟩ := b2E hF
                  refine callVI (As := [.int x1]) X (ct_Model_numberAt l dC dI ad cA H.size h13) lk_Model_160 ⟨rfl, rfl, by decide, by decide⟩ 11 rfl rfl hP hD hS hl.1 rfl rfl (Nat.le_of_ble_eq_true rfl) d_Model_takeTokens_72 (fun H locs hP hD hS => ?_)
                  refine lv_istore_n (lv' := [(1, .int r13), (2, .int ((σ.2.2.1 15) x1.toNatClampNeg)), (0, .ref (ad 11))]) hx hb d_Model_takeTokens_75 rfl hl (by decide) rfl (fun ls hl => ?_)
                  refine lv_goto (tgt := 107) hx hb d_Model_takeTokens_76 (by decide) ?_
                  exact ihn.2.2.2.1 u13 r13 0 H locs ls hF hP hD hS (lv_sub hl [2, 0] rfl)
              · have hF := ifn hF c_7
                refine lv_aload_n hx hb d_Model_takeTokens_54 rfl (lv_at hl 1 rfl) ?_
                refine lv_iload_n hx hb d_Model_takeTokens_55 rfl (lv_at hl 2 rfl) ?_
                obtain ⟨r14, u14, h14, hF⟩ := b2E hF
                refine callVI (As := [.int x1]) X (ct_Model_nameAt l dC dI ad cA H.size h14) lk_Model_157 ⟨rfl, rfl, by decide, by decide⟩ 11 rfl rfl hP hD hS hl.1 rfl rfl (Nat.le_of_ble_eq_true rfl) d_Model_takeTokens_56 (fun H locs hP hD hS => ?_)
                refine lv_istore_n (lv' := [(1, .int r14), (2, .int ((σ.2.2.1 15) x1.toNatClampNeg)), (0, .ref (ad 11))]) hx hb d_Model_takeTokens_59 rfl hl (by decide) rfl (fun ls hl => ?_)
                refine lv_goto (tgt := 107) hx hb d_Model_takeTokens_60 (by decide) ?_
                exact ihn.2.2.2.1 u14 r14 0 H locs ls hF hP hD hS (lv_sub hl [2, 0] rfl)
            · have hF := ifp hF c_5
              exact ihn.2.1 σ x1 0 H locs ls hF hP hD hS (lv_sub hl [1, 2] rfl)
    · have hF : tModel_takeTokens_b2 (tModel_takeTokens_L n) σ x1 x2 = some σ' := hF
      unfold tModel_takeTokens_b2 at hF
      refine lv_iinc (v := (x1 + 1)) (lv' := [(1, .int (x1 + 1)), (0, .ref (ad 11))]) hx hb d_Model_takeTokens_41 hl (k := 1) rfl rfl (by decide) rfl (fun ls hl => ?_)
      refine lv_goto (tgt := 107) hx hb d_Model_takeTokens_44 (by decide) ?_
      exact ihn.2.2.2.1 σ (x1 + 1) 0 H locs ls hF hP hD hS (lv_sub hl [1, 0] rfl)
    · have hF : tModel_takeTokens_b3 (tModel_takeTokens_L n) σ x1 x2 = some σ' := hF
      unfold tModel_takeTokens_b3 at hF
      refine lv_aload_n hx hb d_Model_takeTokens_95 rfl (lv_at hl 0 rfl) ?_
      refine lv_iconst (v := 3) hx hb d_Model_takeTokens_96 (by decide) ?_
      refine lv_iload_n hx hb d_Model_takeTokens_97 rfl (lv_at hl 1 rfl) ?_
      refine lv_iload_n hx hb d_Model_takeTokens_98 rfl (lv_at hl 2 rfl) ?_
      refine lv_iconst (v := 0) hx hb d_Model_takeTokens_99 (by decide) ?_
      obtain ⟨u19, h19, hF⟩ := b1E hF
      refine callVV (As := [.int 3, .int x1, .int x2, .int 0]) X (ct_Model_addToken l dC dI ad cA H.size h19) lk_Model_144 ⟨rfl, rfl, by decide, by decide⟩ 11 rfl rfl hP hD hS hl.1 rfl rfl (Nat.le_of_ble_eq_true rfl) d_Model_takeTokens_100 (fun H locs hP hD hS => ?_)
      refine lv_iload_n hx hb d_Model_takeTokens_103 rfl (lv_at hl 1 rfl) ?_
      refine lv_iload_n hx hb d_Model_takeTokens_104 rfl (lv_at hl 2 rfl) ?_
      refine lv_iadd hx hb d_Model_takeTokens_105 ?_
      refine lv_istore_n (lv' := [(1, .int (x1 + x2)), (0, .ref (ad 11)), (3, .int x2)]) hx hb d_Model_takeTokens_106 rfl hl (by decide) rfl (fun ls hl => ?_)
      exact ihn.2.2.2.1 u19 (x1 + x2) 0 H locs ls hF hP hD hS (lv_sub hl [1, 0] rfl)
    · have hF : tModel_takeTokens_b4 (tModel_takeTokens_L n) σ x1 x2 = some σ' := hF
      unfold tModel_takeTokens_b4 at hF
      refine lv_goto (tgt := 7) hx hb d_Model_takeTokens_107 (by decide) ?_
      exact ihn.1 σ x1 0 H locs ls hF hP hD hS (lv_sub hl [0, 1] rfl)
    · have hF : tModel_takeTokens_b5 (tModel_takeTokens_L n) σ x1 x2 = some σ' := hF
      unfold tModel_takeTokens_b5 at hF
      refine lv_aload_n hx hb d_Model_takeTokens_110 rfl (lv_at hl 0 rfl) ?_
      refine va_get (D := (dC, dI)) (ci := 11) (v := .int (σ.1 29)) hx hb hts i_Model hown hK hP 11 rfl rfl 4 (by decide) (hts _ w_0464dc4398) (fun _ h9 => h9) rfl d_Model_takeTokens_111 ?_
      refine lv_if_ne (tgt := 140) hx hb d_Model_takeTokens_114 (by decide) (fun c_15 => ?_) (fun c_15 => ?_)
      · have hF := ifn hF c_15
        exact ihn.2.2.2.2.2 σ 0 0 H locs ls hF hP hD hS (lv_sub hl [0] rfl)
      · have hF := ifp hF c_15
        refine lv_aload_n hx hb d_Model_takeTokens_117 rfl (lv_at hl 0 rfl) ?_
        refine va_get (D := (dC, dI)) (ci := 11) (v := .int (σ.1 28)) hx hb hts i_Model hown hK hP 11 rfl rfl 3 (by decide) (hts _ w_a747261a84) (fun _ h9 => h9) rfl d_Model_takeTokens_118 ?_
        refine lv_sipush (v := 220) hx hb d_Model_takeTokens_121 (by decide) ?_
        refine lv_icmp_le (tgt := 140) hx hb d_Model_takeTokens_124 (by decide) (fun c_16 => ?_) (fun c_16 => ?_)
        · have hF := ifp hF c_16
          exact ihn.2.2.2.2.2 σ 0 0 H locs ls hF hP hD hS (lv_sub hl [0] rfl)
        · have hF := ifn hF c_16
          refine lv_aload_n hx hb d_Model_takeTokens_127 rfl (lv_at hl 0 rfl) ?_
          refine lv_iconst (v := 2) hx hb d_Model_takeTokens_128 (by decide) ?_
          refine lv_aload_n hx hb d_Model_takeTokens_129 rfl (lv_at hl 0 rfl) ?_
          refine va_get (D := (dC, dI)) (ci := 11) (v := .ref (ad 32)) hx hb hts i_Model hown hK hP 11 rfl rfl 10 (by decide) (hts _ w_58d30b60eb) (fun _ h9 => h9) rfl d_Model_takeTokens_130 ?_
          refine lv_sipush (v := 220) hx hb d_Model_takeTokens_133 (by decide) ?_
          obtain ⟨g_17, hF⟩ := gdE hF
          refine va_iald (f := (σ.2.2.1 17)) hx hb hK hP 32 0 rfl rfl (inE g_17) d_Model_takeTokens_136 ?_
          obtain ⟨u18, h18, hF⟩ := b1E hF
          refine callVV (As := [.int 2, .int ((σ.2.2.1 17) (220 : Int32).toNatClampNeg)]) X (ct_Model_blame l dC dI ad cA H.size h18) lk_Model_140 ⟨rfl, rfl, by decide, by decide⟩ 11 rfl rfl hP hD hS hl.1 rfl rfl (Nat.le_of_ble_eq_true rfl) d_Model_takeTokens_137 (fun H locs hP hD hS => ?_)
          exact ihn.2.2.2.2.2 u18 0 0 H locs ls hF hP hD hS (lv_sub hl [0] rfl)
    · have hF : tModel_takeTokens_b6 (tModel_takeTokens_L n) σ x1 x2 = some σ' := hF
      unfold tModel_takeTokens_b6 at hF
      refine lv_aload_n hx hb d_Model_takeTokens_140 rfl (lv_at hl 0 rfl) ?_
      refine lv_iconst (v := 0) hx hb d_Model_takeTokens_141 (by decide) ?_
      refine lv_aload_n hx hb d_Model_takeTokens_142 rfl (lv_at hl 0 rfl) ?_
      refine va_get (D := (dC, dI)) (ci := 11) (v := .int (σ.1 27)) hx hb hts i_Model hown hK hP 11 rfl rfl 2 (by decide) (hts _ w_b232703b7d) (fun _ h9 => h9) rfl d_Model_takeTokens_143 ?_
      refine lv_iconst (v := 0) hx hb d_Model_takeTokens_146 (by decide) ?_
      refine lv_iconst (v := 0) hx hb d_Model_takeTokens_147 (by decide) ?_
      obtain ⟨u20, h20, hF⟩ := b1E hF
      refine callVV (As := [.int 0, .int (σ.1 27), .int 0, .int 0]) X (ct_Model_addToken l dC dI ad cA H.size h20) lk_Model_144 ⟨rfl, rfl, by decide, by decide⟩ 11 rfl rfl hP hD hS hl.1 rfl rfl (Nat.le_of_ble_eq_true rfl) d_Model_takeTokens_148 (fun H locs hP hD hS => ?_)
      cases hF
      exact leafV X hP hD hS d_Model_takeTokens_151
set_option maxHeartbeats 4000000 in
set_option maxRecDepth 100000 in
theorem ct_Model_takeTokens (l : Launch) (dC : Nat → ClassId) (dI : Nat → Nat → Nat) (ad : Nat → Nat) (cA : Nat → ClassId) (sz : Nat) {σ : St} {σ' : St} (hF : tModel_takeTokens σ = some σ') : MV l y_Model_takeTokens b_Model_takeTokens 4 none { frames := 3, cells := 0, slots := 0, locals := 69 } (dC, dI) (ttys cA) ad (tcw ad cA) [.ref (ad 11)] σ sz σ' := by
  refine startM (own := "TinyForgeModel") (Qc := fun A => QV (dC, dI) (ttys cA) (tcw ad cA) A σ') rfl rfl (Nat.le_of_ble_eq_true rfl) ?_
  intro p e s m below meth c A H locs ls X hP hD hS hl
  have hl : lv_has ls 4 [(0, .ref (ad 11))] := hl
  obtain ⟨hx, hb, hr, hml, hown, hlocks, hts, hA, hK, hZ⟩ := id X
  unfold tModel_takeTokens at hF
  refine lv_aload_n hx hb d_Model_takeTokens_0 rfl (lv_at hl 0 rfl) ?_
  refine lv_iconst (v := 0) hx hb d_Model_takeTokens_1 (by decide) ?_
  refine va_put (D := (dC, dI)) (ci := 11) (v := .int 0) (ty := .int) hx hb hts i_Model t_Model t_Model_ok n_Model hown hK hP hD hS 11 rfl rfl 3 (by decide) (hts _ w_a747261a84) (fun _ h9 => h9) rfl (by decide +kernel) rfl rfl (Nat.le_of_ble_eq_true rfl) d_Model_takeTokens_2 (fun H locs hP hD hS => ?_)
  have hP : va_P (dC, dI) vwCl (tcw ad cA (sI σ 28 0)) H := hP
  have hD : va_D A (tcw ad cA (sI σ 28 0)) := hD
  refine lv_iconst (v := 0) hx hb d_Model_takeTokens_5 (by decide) ?_
  refine lv_istore_n (lv' := [(1, .int 0), (0, .ref (ad 11))]) hx hb d_Model_takeTokens_6 rfl hl (by decide) rfl (fun ls hl => ?_)
  exact (tModel_takeTokens_blk l dC dI ad cA X 2000).1 (sI σ 28 0) 0 0 H locs ls hF hP hD hS (lv_sub hl [1, 0] rfl)
theorem d_Model_read_0 : decode b_Model_read 0 = .ok (.aload_n 0, 1) := by decide +kernel
theorem d_Model_read_1 : decode b_Model_read 1 = .ok (.iconst 0, 1) := by decide +kernel
theorem d_Model_read_2 : decode b_Model_read 2 = .ok (.putfield 121, 3) := by decide +kernel
theorem d_Model_read_5 : decode b_Model_read 5 = .ok (.aload_n 0, 1) := by decide +kernel
theorem d_Model_read_6 : decode b_Model_read 6 = .ok (.iconst (-1), 1) := by decide +kernel
theorem d_Model_read_7 : decode b_Model_read 7 = .ok (.putfield 13, 3) := by decide +kernel
theorem d_Model_read_10 : decode b_Model_read 10 = .ok (.aload_n 0, 1) := by decide +kernel
theorem d_Model_read_11 : decode b_Model_read 11 = .ok (.iconst 0, 1) := by decide +kernel
theorem d_Model_read_12 : decode b_Model_read 12 = .ok (.putfield 187, 3) := by decide +kernel
theorem d_Model_read_15 : decode b_Model_read 15 = .ok (.aload_n 0, 1) := by decide +kernel
theorem d_Model_read_16 : decode b_Model_read 16 = .ok (.iconst 0, 1) := by decide +kernel
theorem d_Model_read_17 : decode b_Model_read 17 = .ok (.putfield 337, 3) := by decide +kernel
theorem d_Model_read_20 : decode b_Model_read 20 = .ok (.aload_n 0, 1) := by decide +kernel
theorem d_Model_read_21 : decode b_Model_read 21 = .ok (.iconst 0, 1) := by decide +kernel
theorem d_Model_read_22 : decode b_Model_read 22 = .ok (.putfield 343, 3) := by decide +kernel
theorem d_Model_read_25 : decode b_Model_read 25 = .ok (.aload_n 0, 1) := by decide +kernel
theorem d_Model_read_26 : decode b_Model_read 26 = .ok (.iconst 0, 1) := by decide +kernel
theorem d_Model_read_27 : decode b_Model_read 27 = .ok (.putfield 346, 3) := by decide +kernel
theorem d_Model_read_30 : decode b_Model_read 30 = .ok (.aload_n 0, 1) := by decide +kernel
theorem d_Model_read_31 : decode b_Model_read 31 = .ok (.iconst (-1), 1) := by decide +kernel
theorem d_Model_read_32 : decode b_Model_read 32 = .ok (.putfield 200, 3) := by decide +kernel
theorem d_Model_read_35 : decode b_Model_read 35 = .ok (.aload_n 0, 1) := by decide +kernel
theorem d_Model_read_36 : decode b_Model_read 36 = .ok (.iconst 0, 1) := by decide +kernel
theorem d_Model_read_37 : decode b_Model_read 37 = .ok (.putfield 184, 3) := by decide +kernel
theorem d_Model_read_40 : decode b_Model_read 40 = .ok (.aload_n 0, 1) := by decide +kernel
theorem d_Model_read_41 : decode b_Model_read 41 = .ok (.iconst 0, 1) := by decide +kernel
theorem d_Model_read_42 : decode b_Model_read 42 = .ok (.putfield 197, 3) := by decide +kernel
theorem d_Model_read_45 : decode b_Model_read 45 = .ok (.aload_n 0, 1) := by decide +kernel
theorem d_Model_read_46 : decode b_Model_read 46 = .ok (.invokevirtual 367, 3) := by decide +kernel
theorem d_Model_read_49 : decode b_Model_read 49 = .ok (.aload_n 0, 1) := by decide +kernel
theorem d_Model_read_50 : decode b_Model_read 50 = .ok (.getfield 121, 3) := by decide +kernel
theorem d_Model_read_53 : decode b_Model_read 53 = .ok (.ifCond .ne 7, 3) := by decide +kernel
theorem d_Model_read_56 : decode b_Model_read 56 = .ok (.iconst 1, 1) := by decide +kernel
theorem d_Model_read_57 : decode b_Model_read 57 = .ok (.goto 4, 3) := by decide +kernel
theorem d_Model_read_60 : decode b_Model_read 60 = .ok (.iconst 0, 1) := by decide +kernel
theorem d_Model_read_61 : decode b_Model_read 61 = .ok (.istore_n 1, 1) := by decide +kernel
theorem d_Model_read_62 : decode b_Model_read 62 = .ok (.iload_n 1, 1) := by decide +kernel
theorem d_Model_read_63 : decode b_Model_read 63 = .ok (.ifCond .eq 35, 3) := by decide +kernel
theorem d_Model_read_66 : decode b_Model_read 66 = .ok (.aload_n 0, 1) := by decide +kernel
theorem d_Model_read_67 : decode b_Model_read 67 = .ok (.invokevirtual 370, 3) := by decide +kernel
theorem d_Model_read_70 : decode b_Model_read 70 = .ok (.aload_n 0, 1) := by decide +kernel
theorem d_Model_read_71 : decode b_Model_read 71 = .ok (.getfield 121, 3) := by decide +kernel
theorem d_Model_read_74 : decode b_Model_read 74 = .ok (.ifCond .ne 19, 3) := by decide +kernel
theorem d_Model_read_77 : decode b_Model_read 77 = .ok (.aload_n 0, 1) := by decide +kernel
theorem d_Model_read_78 : decode b_Model_read 78 = .ok (.getfield 17, 3) := by decide +kernel
theorem d_Model_read_81 : decode b_Model_read 81 = .ok (.aload_n 0, 1) := by decide +kernel
theorem d_Model_read_82 : decode b_Model_read 82 = .ok (.getfield 184, 3) := by decide +kernel
theorem d_Model_read_85 : decode b_Model_read 85 = .ok (.iaload, 1) := by decide +kernel
theorem d_Model_read_86 : decode b_Model_read 86 = .ok (.ifCond .eq 7, 3) := by decide +kernel
theorem d_Model_read_89 : decode b_Model_read 89 = .ok (.iconst 1, 1) := by decide +kernel
theorem d_Model_read_90 : decode b_Model_read 90 = .ok (.goto 4, 3) := by decide +kernel
theorem d_Model_read_93 : decode b_Model_read 93 = .ok (.iconst 0, 1) := by decide +kernel
theorem d_Model_read_94 : decode b_Model_read 94 = .ok (.istore_n 1, 1) := by decide +kernel
theorem d_Model_read_95 : decode b_Model_read 95 = .ok (.goto (-33), 3) := by decide +kernel
theorem d_Model_read_98 : decode b_Model_read 98 = .ok (.aload_n 0, 1) := by decide +kernel
theorem d_Model_read_99 : decode b_Model_read 99 = .ok (.getfield 121, 3) := by decide +kernel
theorem d_Model_read_102 : decode b_Model_read 102 = .ok (.ifCond .eq 4, 3) := by decide +kernel
theorem d_Model_read_105 : decode b_Model_read 105 = .ok (.return_, 1) := by decide +kernel
theorem d_Model_read_106 : decode b_Model_read 106 = .ok (.aload_n 0, 1) := by decide +kernel
theorem d_Model_read_107 : decode b_Model_read 107 = .ok (.invokevirtual 373, 3) := by decide +kernel
theorem d_Model_read_110 : decode b_Model_read 110 = .ok (.aload_n 0, 1) := by decide +kernel
theorem d_Model_read_111 : decode b_Model_read 111 = .ok (.aload_n 0, 1) := by decide +kernel
theorem d_Model_read_112 : decode b_Model_read 112 = .ok (.invokevirtual 376, 3) := by decide +kernel
theorem d_Model_read_115 : decode b_Model_read 115 = .ok (.putfield 379, 3) := by decide +kernel
theorem d_Model_read_118 : decode b_Model_read 118 = .ok (.aload_n 0, 1) := by decide +kernel
theorem d_Model_read_119 : decode b_Model_read 119 = .ok (.getfield 200, 3) := by decide +kernel
theorem d_Model_read_122 : decode b_Model_read 122 = .ok (.ifCond .lt 20, 3) := by decide +kernel
theorem d_Model_read_125 : decode b_Model_read 125 = .ok (.aload_n 0, 1) := by decide +kernel
theorem d_Model_read_126 : decode b_Model_read 126 = .ok (.iconst 4, 1) := by decide +kernel
theorem d_Model_read_127 : decode b_Model_read 127 = .ok (.aload_n 0, 1) := by decide +kernel
theorem d_Model_read_128 : decode b_Model_read 128 = .ok (.getfield 21, 3) := by decide +kernel
theorem d_Model_read_131 : decode b_Model_read 131 = .ok (.aload_n 0, 1) := by decide +kernel
theorem d_Model_read_132 : decode b_Model_read 132 = .ok (.getfield 200, 3) := by decide +kernel
theorem d_Model_read_135 : decode b_Model_read 135 = .ok (.iaload, 1) := by decide +kernel
theorem d_Model_read_136 : decode b_Model_read 136 = .ok (.invokevirtual 140, 3) := by decide +kernel
theorem d_Model_read_139 : decode b_Model_read 139 = .ok (.goto 19, 3) := by decide +kernel
theorem d_Model_read_142 : decode b_Model_read 142 = .ok (.aload_n 0, 1) := by decide +kernel
theorem d_Model_read_143 : decode b_Model_read 143 = .ok (.getfield 379, 3) := by decide +kernel
theorem d_Model_read_146 : decode b_Model_read 146 = .ok (.ifCond .ge 12, 3) := by decide +kernel
theorem d_Model_read_149 : decode b_Model_read 149 = .ok (.aload_n 0, 1) := by decide +kernel
theorem d_Model_read_150 : decode b_Model_read 150 = .ok (.iconst 4, 1) := by decide +kernel
theorem d_Model_read_151 : decode b_Model_read 151 = .ok (.aload_n 0, 1) := by decide +kernel
theorem d_Model_read_152 : decode b_Model_read 152 = .ok (.getfield 118, 3) := by decide +kernel
theorem d_Model_read_155 : decode b_Model_read 155 = .ok (.invokevirtual 140, 3) := by decide +kernel
theorem d_Model_read_158 : decode b_Model_read 158 = .ok (.return_, 1) := by decide +kernel
def tModel_read_b1 (k : Nat → St → Int32 → Option (St)) (σ : St) (x1 : Int32) : Option (St) := k 2 σ x1
def tModel_read_b2 (k : Nat → St → Int32 → Option (St)) (σ : St) (x1 : Int32) : Option (St) := if x1 = 0 then if (σ.1 29) = 0 then b1 (tModel_settleNames σ) (fun u5 => b1 (tModel_mainFunction u5) (fun r6 => if (u5.1 33) < 0 then if (0 : Int32) ≤ r6 then some (sI u5 44 r6) else b1 (tModel_blame (sI u5 44 r6) 4 (u5.1 27)) (fun u9 => some u9) else gd (inB (u5.1 33) 500) (b1 (tModel_blame (sI u5 44 r6) 4 ((u5.2.2.1 17) (u5.1 33).toNatClampNeg)) (fun u11 => some u11)))) else some σ else b1 (tModel_part σ) (fun u12 => if (u12.1 29) = 0 then gd (inB (u12.1 31) 500) (if ((u12.2.2.1 16) (u12.1 31).toNatClampNeg) = 0 then k 3 u12 0 else k 4 u12 1) else k 3 u12 0)
def tModel_read_b3 (k : Nat → St → Int32 → Option (St)) (σ : St) (x1 : Int32) : Option (St) := k 4 σ 0
def tModel_read_b4 (k : Nat → St → Int32 → Option (St)) (σ : St) (x1 : Int32) : Option (St) := k 2 σ x1
def tModel_read_L : Nat → Nat → St → Int32 → Option (St)
  | 0, _, _, _ => none
  | n + 1, lab, σ, x1 => match lab with
    | 1 => tModel_read_b1 (tModel_read_L n) σ x1
    | 2 => tModel_read_b2 (tModel_read_L n) σ x1
    | 3 => tModel_read_b3 (tModel_read_L n) σ x1
    | 4 => tModel_read_b4 (tModel_read_L n) σ x1
    | _ => none
def tModel_read (σ : St) : Option (St) := b1 (tModel_takeTokens (sI (sI (sI (sI (sI (sI (sI (sI (sI σ 29 0) 30 (-1)) 34 0) 35 0) 36 0) 37 0) 33 (-1)) 31 0) 32 0)) (fun u1 => if (u1.1 29) = 0 then tModel_read_L 2000 1 u1 1 else tModel_read_L 2000 1 u1 0)
set_option maxHeartbeats 4000000 in
set_option maxRecDepth 100000 in
theorem tModel_read_blk {p : Program} {e : Env} {s : State} {m : MethodId} {args : Array Value} {below : List Frame} {meth : Method} {c : Code} {A : Nat → Prop} (l : Launch) (dC : Nat → ClassId) (dI : Nat → Nat → Nat) (ad : Nat → Nat) (cA : Nat → ClassId) {σ' : St} (X : Cx p s m args meth c b_Model_read 2 none "TinyForgeModel" (dC, dI) (ttys cA) ad A) : ∀ n : Nat, (∀ (σ : St) (x1 : Int32) (H : Heap) (locs : List Loc) (ls : Array Slot), tModel_read_L n 1 σ x1 = some σ' → va_P (dC, dI) vwCl (tcw ad cA σ) H → va_D A (tcw ad cA σ) → va_S A s.heap H locs → lv_has ls 2 [(0, .ref (ad 11))] → W p l e { frames := 11, cells := 0, slots := 0, locals := 248 } s m args below meth c H locs 0 0 (MQ below (QV (dC, dI) (ttys cA) (tcw ad cA) A σ') args s 0 0 A) (F0 m 61 ls [.int x1])) ∧ (∀ (σ : St) (x1 : Int32) (H : Heap) (locs : List Loc) (ls : Array Slot), tModel_read_L n 2 σ x1 = some σ' → va_P (dC, dI) vwCl (tcw ad cA σ) H → va_D A (tcw ad cA σ) → va_S A s.heap H locs → lv_has ls 2 [(0, .ref (ad 11)), (1, .int x1)] → W p l e { frames := 11, cells := 0, slots := 0, locals := 248 } s m args below meth c H locs 0 0 (MQ below (QV (dC, dI) (ttys cA) (tcw ad cA) A σ') args s 0 0 A) (F0 m 62 ls [])) ∧ (∀ (σ : St) (x1 : Int32) (H : Heap) (locs : List Loc) (ls : Array Slot), tModel_read_L n 3 σ x1 = some σ' → va_P (dC, dI) vwCl (tcw ad cA σ) H → va_D A (tcw ad cA σ) → va_S A s.heap H locs → lv_has ls 2 [(0, .ref (ad 11))] → W p l e { frames := 11, cells := 0, slots := 0, locals := 248 } s m args below meth c H locs 0 0 (MQ below (QV (dC, dI) (ttys cA) (tcw ad cA) A σ') args s 0 0 A) (F0 m 93 ls [])) ∧ (∀ (σ : St) (x1 : Int32) (H : Heap) (locs : List Loc) (ls : Array Slot), tModel_read_L n 4 σ x1 = some σ' → va_P (dC, dI) vwCl (tcw ad cA σ) H → va_D A (tcw ad cA σ) → va_S A s.heap H locs → lv_has ls 2 [(0, .ref (ad 11))] → W p l e { frames := 11, cells := 0, slots := 0, locals := 248 } s m args below meth c H locs 0 0 (MQ below (QV (dC, dI) (ttys cA) (tcw ad cA) A σ') args s 0 0 A) (F0 m 94 ls [.int x1])) := by
  obtain ⟨hx, hb, hr, hml, hown, hlocks, hts, hA, hK, hZ⟩ := id X
  intro n
  induction n with
  | zero => exact ⟨(fun σ x1 H locs ls hF => by cases hF), (fun σ x1 H locs ls hF => by cases hF), (fun σ x1 H locs ls hF => by cases hF), (fun σ x1 H locs ls hF => by cases hF)⟩
  | succ n ihn =>
    refine ⟨fun σ x1 H locs ls hF hP hD hS hl => ?_, fun σ x1 H locs ls hF hP hD hS hl => ?_, fun σ x1 H locs ls hF hP hD hS hl => ?_, fun σ x1 H locs ls hF hP hD hS hl => ?_⟩
    · have hF : tModel_read_b1 (tModel_read_L n) σ x1 = some σ' := hF
      unfold tModel_read_b1 at hF
      refine lv_istore_n (lv' := [(1, .int x1), (0, .ref (ad 11))]) hx hb d_Model_read_61 rfl hl (by decide) rfl (fun ls hl => ?_)
      exact ihn.2.1 σ x1 H locs ls hF hP hD hS (lv_sub hl [1, 0] rfl)
    · have hF : tModel_read_b2 (tModel_read_L n) σ x1 = some σ' := hF
      unfold tModel_read_b2 at hF
      refine lv_iload_n hx hb d_Model_read_62 rfl (lv_at hl 1 rfl) ?_
      refine lv_if_eq (tgt := 98) hx hb d_Model_read_63 (by decide) (fun c_3 => ?_) (fun c_3 => ?_)
      · have hF := ifp hF c_3
        refine lv_aload_n hx hb d_Model_read_98 rfl (lv_at hl 0 rfl) ?_
        refine va_get (D := (dC, dI)) (ci := 11) (v := .int (σ.1 29)) hx hb hts i_Model hown hK hP 11 rfl rfl 4 (by decide) (hts _ w_0464dc4398) (fun _ h9 => h9) rfl d_Model_read_99 ?_
        refine lv_if_eq (tgt := 106) hx hb d_Model_read_102 (by decide) (fun c_4 => ?_) (fun c_4 => ?_)
        · have hF := ifp hF c_4
          refine lv_aload_n hx hb d_Model_read_106 rfl (lv_at hl 0 rfl) ?_
          obtain ⟨u5, h5, hF⟩ := b1E hF
          refine callVV (As := []) X (ct_Model_settleNames l dC dI ad cA H.size h5) lk_Model_373 ⟨rfl, rfl, by decide, by decide⟩ 11 rfl rfl hP hD hS hl.1 rfl rfl (Nat.le_of_ble_eq_true rfl) d_Model_read_107 (fun H locs hP hD hS => ?_)
          refine lv_aload_n hx hb d_Model_read_110 rfl (lv_at hl 0 rfl) ?_
          refine lv_aload_n hx hb d_Model_read_111 rfl (lv_at hl 0 rfl) ?_
          obtain ⟨r6, h6, hF⟩ := b1E hF
          refine callVI (As := []) X (ct_Model_mainFunction l dC dI ad cA H.size h6) lk_Model_376 ⟨rfl, rfl, by decide, by decide⟩ 11 rfl rfl hP hD hS hl.1 rfl rfl (Nat.le_of_ble_eq_true rfl) d_Model_read_112 (fun H locs hP hD hS => ?_)
          refine va_put (D := (dC, dI)) (ci := 11) (v := .int r6) (ty := .int) hx hb hts i_Model t_Model t_Model_ok n_Model hown hK hP hD hS 11 rfl rfl 40 (by decide) (hts _ w_a988adadb4) (fun _ h9 => h9) rfl (by decide +kernel) rfl rfl (Nat.le_of_ble_eq_true rfl) d_Model_read_115 (fun H locs hP hD hS => ?_)
          have hP : va_P (dC, dI) vwCl (tcw ad cA (sI u5 44 r6)) H := hP
          have hD : va_D A (tcw ad cA (sI u5 44 r6)) := hD
          refine lv_aload_n hx hb d_Model_read_118 rfl (lv_at hl 0 rfl) ?_
          refine va_get (D := (dC, dI)) (ci := 11) (v := .int (u5.1 33)) hx hb hts i_Model hown hK hP 11 rfl rfl 8 (by decide) (hts _ w_fdc2dc2fd6) (fun _ h9 => h9) rfl d_Model_read_119 ?_
          refine lv_if_lt (tgt := 142) hx hb d_Model_read_122 (by decide) (fun c_7 => ?_) (fun c_7 => ?_)
          · have hF := ifp hF c_7
            refine lv_aload_n hx hb d_Model_read_142 rfl (lv_at hl 0 rfl) ?_
            refine va_get (D := (dC, dI)) (ci := 11) (v := .int r6) hx hb hts i_Model hown hK hP 11 rfl rfl 40 (by decide) (hts _ w_a988adadb4) (fun _ h9 => h9) rfl d_Model_read_143 ?_
            refine lv_if_ge (tgt := 158) hx hb d_Model_read_146 (by decide) (fun c_8 => ?_) (fun c_8 => ?_)
            · have hF := ifp hF c_8
              cases hF
              exact leafV X hP hD hS d_Model_read_158
            · have hF := ifn hF c_8
              refine lv_aload_n hx hb d_Model_read_149 rfl (lv_at hl 0 rfl) ?_
              refine lv_iconst (v := 4) hx hb d_Model_read_150 (by decide) ?_
              refine lv_aload_n hx hb d_Model_read_151 rfl (lv_at hl 0 rfl) ?_
              refine va_get (D := (dC, dI)) (ci := 11) (v := .int (u5.1 27)) hx hb hts i_Model hown hK hP 11 rfl rfl 2 (by decide) (hts _ w_b232703b7d) (fun _ h9 => h9) rfl d_Model_read_152 ?_
              obtain ⟨u9, h9, hF⟩ := b1E hF
              refine callVV (As := [.int 4, .int (u5.1 27)]) X (ct_Model_blame l dC dI ad cA H.size h9) lk_Model_140 ⟨rfl, rfl, by decide, by decide⟩ 11 rfl rfl hP hD hS hl.1 rfl rfl (Nat.le_of_ble_eq_true rfl) d_Model_read_155 (fun H locs hP hD hS => ?_)
              cases hF
              exact leafV X hP hD hS d_Model_read_158
          · have hF := ifn hF c_7
            refine lv_aload_n hx hb d_Model_read_125 rfl (lv_at hl 0 rfl) ?_
            refine lv_iconst (v := 4) hx hb d_Model_read_126 (by decide) ?_
            refine lv_aload_n hx hb d_Model_read_127 rfl (lv_at hl 0 rfl) ?_
            refine va_get (D := (dC, dI)) (ci := 11) (v := .ref (ad 32)) hx hb hts i_Model hown hK hP 11 rfl rfl 10 (by decide) (hts _ w_58d30b60eb) (fun _ h9 => h9) rfl d_Model_read_128 ?_
            refine lv_aload_n hx hb d_Model_read_131 rfl (lv_at hl 0 rfl) ?_
            refine va_get (D := (dC, dI)) (ci := 11) (v := .int (u5.1 33)) hx hb hts i_Model hown hK hP 11 rfl rfl 8 (by decide) (hts _ w_fdc2dc2fd6) (fun _ h9 => h9) rfl d_Model_read_132 ?_
            obtain ⟨g_10, hF⟩ := gdE hF
            refine va_iald (f := (u5.2.2.1 17)) hx hb hK hP 32 0 rfl rfl (inE g_10) d_Model_read_135 ?_
            obtain ⟨u11, h11, hF⟩ := b1E hF
            refine callVV (As := [.int 4, .int ((u5.2.2.1 17) (u5.1 33).toNatClampNeg)]) X (ct_Model_blame l dC dI ad cA H.size h11) lk_Model_140 ⟨rfl, rfl, by decide, by decide⟩ 11 rfl rfl hP hD hS hl.1 rfl rfl (Nat.le_of_ble_eq_true rfl) d_Model_read_136 (fun H locs hP hD hS => ?_)
            refine lv_goto (tgt := 158) hx hb d_Model_read_139 (by decide) ?_
            cases hF
            exact leafV X hP hD hS d_Model_read_158
        · have hF := ifn hF c_4
          cases hF
          exact leafV X hP hD hS d_Model_read_105
      · have hF := ifn hF c_3
        refine lv_aload_n hx hb d_Model_read_66 rfl (lv_at hl 0 rfl) ?_
        obtain ⟨u12, h12, hF⟩ := b1E hF
        refine callVV (As := []) X (ct_Model_part l dC dI ad cA H.size h12) lk_Model_370 ⟨rfl, rfl, by decide, by decide⟩ 11 rfl rfl hP hD hS hl.1 rfl rfl (Nat.le_of_ble_eq_true rfl) d_Model_read_67 (fun H locs hP hD hS => ?_)
        refine lv_aload_n hx hb d_Model_read_70 rfl (lv_at hl 0 rfl) ?_
        refine va_get (D := (dC, dI)) (ci := 11) (v := .int (u12.1 29)) hx hb hts i_Model hown hK hP 11 rfl rfl 4 (by decide) (hts _ w_0464dc4398) (fun _ h9 => h9) rfl d_Model_read_71 ?_
        refine lv_if_ne (tgt := 93) hx hb d_Model_read_74 (by decide) (fun c_13 => ?_) (fun c_13 => ?_)
        · have hF := ifn hF c_13
          exact ihn.2.2.1 u12 0 H locs ls hF hP hD hS (lv_sub hl [0] rfl)
        · have hF := ifp hF c_13
          refine lv_aload_n hx hb d_Model_read_77 rfl (lv_at hl 0 rfl) ?_
          refine va_get (D := (dC, dI)) (ci := 11) (v := .ref (ad 31)) hx hb hts i_Model hown hK hP 11 rfl rfl 9 (by decide) (hts _ w_f071529ab8) (fun _ h9 => h9) rfl d_Model_read_78 ?_
          refine lv_aload_n hx hb d_Model_read_81 rfl (lv_at hl 0 rfl) ?_
          refine va_get (D := (dC, dI)) (ci := 11) (v := .int (u12.1 31)) hx hb hts i_Model hown hK hP 11 rfl rfl 6 (by decide) (hts _ w_13cd8e7698) (fun _ h9 => h9) rfl d_Model_read_82 ?_
          obtain ⟨g_14, hF⟩ := gdE hF
          refine va_iald (f := (u12.2.2.1 16)) hx hb hK hP 31 0 rfl rfl (inE g_14) d_Model_read_85 ?_
          refine lv_if_eq (tgt := 93) hx hb d_Model_read_86 (by decide) (fun c_15 => ?_) (fun c_15 => ?_)
          · have hF := ifp hF c_15
            exact ihn.2.2.1 u12 0 H locs ls hF hP hD hS (lv_sub hl [0] rfl)
          · have hF := ifn hF c_15
            refine lv_iconst (v := 1) hx hb d_Model_read_89 (by decide) ?_
            refine lv_goto (tgt := 94) hx hb d_Model_read_90 (by decide) ?_
            exact ihn.2.2.2 u12 1 H locs ls hF hP hD hS (lv_sub hl [0] rfl)
    · have hF : tModel_read_b3 (tModel_read_L n) σ x1 = some σ' := hF
      unfold tModel_read_b3 at hF
      refine lv_iconst (v := 0) hx hb d_Model_read_93 (by decide) ?_
      exact ihn.2.2.2 σ 0 H locs ls hF hP hD hS (lv_sub hl [0] rfl)
    · have hF : tModel_read_b4 (tModel_read_L n) σ x1 = some σ' := hF
      unfold tModel_read_b4 at hF
      refine lv_istore_n (lv' := [(1, .int x1), (0, .ref (ad 11))]) hx hb d_Model_read_94 rfl hl (by decide) rfl (fun ls hl => ?_)
      refine lv_goto (tgt := 62) hx hb d_Model_read_95 (by decide) ?_
      exact ihn.2.1 σ x1 H locs ls hF hP hD hS (lv_sub hl [1, 0] rfl)
set_option maxHeartbeats 4000000 in
set_option maxRecDepth 100000 in
theorem ct_Model_read (l : Launch) (dC : Nat → ClassId) (dI : Nat → Nat → Nat) (ad : Nat → Nat) (cA : Nat → ClassId) (sz : Nat) {σ : St} {σ' : St} (hF : tModel_read σ = some σ') : MV l y_Model_read b_Model_read 2 none { frames := 11, cells := 0, slots := 0, locals := 248 } (dC, dI) (ttys cA) ad (tcw ad cA) [.ref (ad 11)] σ sz σ' := by
  refine startM (own := "TinyForgeModel") (Qc := fun A => QV (dC, dI) (ttys cA) (tcw ad cA) A σ') rfl rfl (Nat.le_of_ble_eq_true rfl) ?_
  intro p e s m below meth c A H locs ls X hP hD hS hl
  have hl : lv_has ls 2 [(0, .ref (ad 11))] := hl
  obtain ⟨hx, hb, hr, hml, hown, hlocks, hts, hA, hK, hZ⟩ := id X
  unfold tModel_read at hF
  refine lv_aload_n hx hb d_Model_read_0 rfl (lv_at hl 0 rfl) ?_
  refine lv_iconst (v := 0) hx hb d_Model_read_1 (by decide) ?_
  refine va_put (D := (dC, dI)) (ci := 11) (v := .int 0) (ty := .int) hx hb hts i_Model t_Model t_Model_ok n_Model hown hK hP hD hS 11 rfl rfl 4 (by decide) (hts _ w_0464dc4398) (fun _ h9 => h9) rfl (by decide +kernel) rfl rfl (Nat.le_of_ble_eq_true rfl) d_Model_read_2 (fun H locs hP hD hS => ?_)
  have hP : va_P (dC, dI) vwCl (tcw ad cA (sI σ 29 0)) H := hP
  have hD : va_D A (tcw ad cA (sI σ 29 0)) := hD
  refine lv_aload_n hx hb d_Model_read_5 rfl (lv_at hl 0 rfl) ?_
  refine lv_iconst (v := (-1)) hx hb d_Model_read_6 (by decide) ?_
  refine va_put (D := (dC, dI)) (ci := 11) (v := .int (-1)) (ty := .int) hx hb hts i_Model t_Model t_Model_ok n_Model hown hK hP hD hS 11 rfl rfl 5 (by decide) (hts _ w_7e0548e54d) (fun _ h9 => h9) rfl (by decide +kernel) rfl rfl (Nat.le_of_ble_eq_true rfl) d_Model_read_7 (fun H locs hP hD hS => ?_)
  have hP : va_P (dC, dI) vwCl (tcw ad cA (sI (sI σ 29 0) 30 (-1))) H := hP
  have hD : va_D A (tcw ad cA (sI (sI σ 29 0) 30 (-1))) := hD
  refine lv_aload_n hx hb d_Model_read_10 rfl (lv_at hl 0 rfl) ?_
  refine lv_iconst (v := 0) hx hb d_Model_read_11 (by decide) ?_
  refine va_put (D := (dC, dI)) (ci := 11) (v := .int 0) (ty := .int) hx hb hts i_Model t_Model t_Model_ok n_Model hown hK hP hD hS 11 rfl rfl 13 (by decide) (hts _ w_1bd792ecf8) (fun _ h9 => h9) rfl (by decide +kernel) rfl rfl (Nat.le_of_ble_eq_true rfl) d_Model_read_12 (fun H locs hP hD hS => ?_)
  have hP : va_P (dC, dI) vwCl (tcw ad cA (sI (sI (sI σ 29 0) 30 (-1)) 34 0)) H := hP
  have hD : va_D A (tcw ad cA (sI (sI (sI σ 29 0) 30 (-1)) 34 0)) := hD
  refine lv_aload_n hx hb d_Model_read_15 rfl (lv_at hl 0 rfl) ?_
  refine lv_iconst (v := 0) hx hb d_Model_read_16 (by decide) ?_
  refine va_put (D := (dC, dI)) (ci := 11) (v := .int 0) (ty := .int) hx hb hts i_Model t_Model t_Model_ok n_Model hown hK hP hD hS 11 rfl rfl 21 (by decide) (hts _ w_c69217944e) (fun _ h9 => h9) rfl (by decide +kernel) rfl rfl (Nat.le_of_ble_eq_true rfl) d_Model_read_17 (fun H locs hP hD hS => ?_)
  have hP : va_P (dC, dI) vwCl (tcw ad cA (sI (sI (sI (sI σ 29 0) 30 (-1)) 34 0) 35 0)) H := hP
  have hD : va_D A (tcw ad cA (sI (sI (sI (sI σ 29 0) 30 (-1)) 34 0) 35 0)) := hD
  refine lv_aload_n hx hb d_Model_read_20 rfl (lv_at hl 0 rfl) ?_
  refine lv_iconst (v := 0) hx hb d_Model_read_21 (by decide) ?_
  refine va_put (D := (dC, dI)) (ci := 11) (v := .int 0) (ty := .int) hx hb hts i_Model t_Model t_Model_ok n_Model hown hK hP hD hS 11 rfl rfl 22 (by decide) (hts _ w_615e3d612a) (fun _ h9 => h9) rfl (by decide +kernel) rfl rfl (Nat.le_of_ble_eq_true rfl) d_Model_read_22 (fun H locs hP hD hS => ?_)
  have hP : va_P (dC, dI) vwCl (tcw ad cA (sI (sI (sI (sI (sI σ 29 0) 30 (-1)) 34 0) 35 0) 36 0)) H := hP
  have hD : va_D A (tcw ad cA (sI (sI (sI (sI (sI σ 29 0) 30 (-1)) 34 0) 35 0) 36 0)) := hD
  refine lv_aload_n hx hb d_Model_read_25 rfl (lv_at hl 0 rfl) ?_
  refine lv_iconst (v := 0) hx hb d_Model_read_26 (by decide) ?_
  refine va_put (D := (dC, dI)) (ci := 11) (v := .int 0) (ty := .int) hx hb hts i_Model t_Model t_Model_ok n_Model hown hK hP hD hS 11 rfl rfl 23 (by decide) (hts _ w_239be05fce) (fun _ h9 => h9) rfl (by decide +kernel) rfl rfl (Nat.le_of_ble_eq_true rfl) d_Model_read_27 (fun H locs hP hD hS => ?_)
  have hP : va_P (dC, dI) vwCl (tcw ad cA (sI (sI (sI (sI (sI (sI σ 29 0) 30 (-1)) 34 0) 35 0) 36 0) 37 0)) H := hP
  have hD : va_D A (tcw ad cA (sI (sI (sI (sI (sI (sI σ 29 0) 30 (-1)) 34 0) 35 0) 36 0) 37 0)) := hD
  refine lv_aload_n hx hb d_Model_read_30 rfl (lv_at hl 0 rfl) ?_
  refine lv_iconst (v := (-1)) hx hb d_Model_read_31 (by decide) ?_
  refine va_put (D := (dC, dI)) (ci := 11) (v := .int (-1)) (ty := .int) hx hb hts i_Model t_Model t_Model_ok n_Model hown hK hP hD hS 11 rfl rfl 8 (by decide) (hts _ w_fdc2dc2fd6) (fun _ h9 => h9) rfl (by decide +kernel) rfl rfl (Nat.le_of_ble_eq_true rfl) d_Model_read_32 (fun H locs hP hD hS => ?_)
  have hP : va_P (dC, dI) vwCl (tcw ad cA (sI (sI (sI (sI (sI (sI (sI σ 29 0) 30 (-1)) 34 0) 35 0) 36 0) 37 0) 33 (-1))) H := hP
  have hD : va_D A (tcw ad cA (sI (sI (sI (sI (sI (sI (sI σ 29 0) 30 (-1)) 34 0) 35 0) 36 0) 37 0) 33 (-1))) := hD
  refine lv_aload_n hx hb d_Model_read_35 rfl (lv_at hl 0 rfl) ?_
  refine lv_iconst (v := 0) hx hb d_Model_read_36 (by decide) ?_
  refine va_put (D := (dC, dI)) (ci := 11) (v := .int 0) (ty := .int) hx hb hts i_Model t_Model t_Model_ok n_Model hown hK hP hD hS 11 rfl rfl 6 (by decide) (hts _ w_13cd8e7698) (fun _ h9 => h9) rfl (by decide +kernel) rfl rfl (Nat.le_of_ble_eq_true rfl) d_Model_read_37 (fun H locs hP hD hS => ?_)
  have hP : va_P (dC, dI) vwCl (tcw ad cA (sI (sI (sI (sI (sI (sI (sI (sI σ 29 0) 30 (-1)) 34 0) 35 0) 36 0) 37 0) 33 (-1)) 31 0)) H := hP
  have hD : va_D A (tcw ad cA (sI (sI (sI (sI (sI (sI (sI (sI σ 29 0) 30 (-1)) 34 0) 35 0) 36 0) 37 0) 33 (-1)) 31 0)) := hD
  refine lv_aload_n hx hb d_Model_read_40 rfl (lv_at hl 0 rfl) ?_
  refine lv_iconst (v := 0) hx hb d_Model_read_41 (by decide) ?_
  refine va_put (D := (dC, dI)) (ci := 11) (v := .int 0) (ty := .int) hx hb hts i_Model t_Model t_Model_ok n_Model hown hK hP hD hS 11 rfl rfl 7 (by decide) (hts _ w_eb874fa0f0) (fun _ h9 => h9) rfl (by decide +kernel) rfl rfl (Nat.le_of_ble_eq_true rfl) d_Model_read_42 (fun H locs hP hD hS => ?_)
  have hP : va_P (dC, dI) vwCl (tcw ad cA (sI (sI (sI (sI (sI (sI (sI (sI (sI σ 29 0) 30 (-1)) 34 0) 35 0) 36 0) 37 0) 33 (-1)) 31 0) 32 0)) H := hP
  have hD : va_D A (tcw ad cA (sI (sI (sI (sI (sI (sI (sI (sI (sI σ 29 0) 30 (-1)) 34 0) 35 0) 36 0) 37 0) 33 (-1)) 31 0) 32 0)) := hD
  refine lv_aload_n hx hb d_Model_read_45 rfl (lv_at hl 0 rfl) ?_
  obtain ⟨u1, h1, hF⟩ := b1E hF
  refine callVV (As := []) X (ct_Model_takeTokens l dC dI ad cA H.size h1) lk_Model_367 ⟨rfl, rfl, by decide, by decide⟩ 11 rfl rfl hP hD hS hl.1 rfl rfl (Nat.le_of_ble_eq_true rfl) d_Model_read_46 (fun H locs hP hD hS => ?_)
  refine lv_aload_n hx hb d_Model_read_49 rfl (lv_at hl 0 rfl) ?_
  refine va_get (D := (dC, dI)) (ci := 11) (v := .int (u1.1 29)) hx hb hts i_Model hown hK hP 11 rfl rfl 4 (by decide) (hts _ w_0464dc4398) (fun _ h9 => h9) rfl d_Model_read_50 ?_
  refine lv_if_ne (tgt := 60) hx hb d_Model_read_53 (by decide) (fun c_2 => ?_) (fun c_2 => ?_)
  · have hF := ifn hF c_2
    refine lv_iconst (v := 0) hx hb d_Model_read_60 (by decide) ?_
    exact (tModel_read_blk l dC dI ad cA X 2000).1 u1 0 H locs ls hF hP hD hS (lv_sub hl [0] rfl)
  · have hF := ifp hF c_2
    refine lv_iconst (v := 1) hx hb d_Model_read_56 (by decide) ?_
    refine lv_goto (tgt := 61) hx hb d_Model_read_57 (by decide) ?_
    exact (tModel_read_blk l dC dI ad cA X 2000).1 u1 1 H locs ls hF hP hD hS (lv_sub hl [0] rfl)
theorem d_Model_refuse_0 : decode b_Model_refuse 0 = .ok (.aload_n 0, 1) := by decide +kernel
theorem d_Model_refuse_1 : decode b_Model_refuse 1 = .ok (.iload_n 1, 1) := by decide +kernel
theorem d_Model_refuse_2 : decode b_Model_refuse 2 = .ok (.putfield 103, 3) := by decide +kernel
theorem d_Model_refuse_5 : decode b_Model_refuse 5 = .ok (.iconst 0, 1) := by decide +kernel
theorem d_Model_refuse_6 : decode b_Model_refuse 6 = .ok (.ireturn, 1) := by decide +kernel
def tModel_refuse (σ : St) (a1 : Int32) : Option (Int32 × St) := some (0, (sI σ 26 a1))
set_option maxHeartbeats 4000000 in
set_option maxRecDepth 100000 in
theorem ct_Model_refuse (l : Launch) (dC : Nat → ClassId) (dI : Nat → Nat → Nat) (ad : Nat → Nat) (cA : Nat → ClassId) (sz : Nat) {σ : St} {a1 : Int32} {r : Int32} {σ' : St} (hF : tModel_refuse σ a1 = some (r, σ')) : MI l y_Model_refuse b_Model_refuse 2 (some .int) { frames := 0, cells := 0, slots := 0, locals := 0 } (dC, dI) (ttys cA) ad (tcw ad cA) [.ref (ad 11), .int a1] σ sz r σ' := by
  refine startM (own := "TinyForgeModel") (Qc := fun A => QI (dC, dI) (ttys cA) (tcw ad cA) A r σ') rfl rfl (Nat.le_of_ble_eq_true rfl) ?_
  intro p e s m below meth c A H locs ls X hP hD hS hl
  have hl : lv_has ls 2 [(0, .ref (ad 11)), (1, .int a1)] := hl
  obtain ⟨hx, hb, hr, hml, hown, hlocks, hts, hA, hK, hZ⟩ := id X
  unfold tModel_refuse at hF
  refine lv_aload_n hx hb d_Model_refuse_0 rfl (lv_at hl 0 rfl) ?_
  refine lv_iload_n hx hb d_Model_refuse_1 rfl (lv_at hl 1 rfl) ?_
  refine va_put (D := (dC, dI)) (ci := 11) (v := .int a1) (ty := .int) hx hb hts i_Model t_Model t_Model_ok n_Model hown hK hP hD hS 11 rfl rfl 0 (by decide) (hts _ w_06eb2805f0) (fun _ h9 => h9) rfl (by decide +kernel) rfl rfl (Nat.le_of_ble_eq_true rfl) d_Model_refuse_2 (fun H locs hP hD hS => ?_)
  have hP : va_P (dC, dI) vwCl (tcw ad cA (sI σ 26 a1)) H := hP
  have hD : va_D A (tcw ad cA (sI σ 26 a1)) := hD
  refine lv_iconst (v := 0) hx hb d_Model_refuse_5 (by decide) ?_
  cases hF
  exact leafI X hP hD hS d_Model_refuse_6
theorem d_Model_forge_0 : decode b_Model_forge 0 = .ok (.aload_n 0, 1) := by decide +kernel
theorem d_Model_forge_1 : decode b_Model_forge 1 = .ok (.iconst 0, 1) := by decide +kernel
theorem d_Model_forge_2 : decode b_Model_forge 2 = .ok (.putfield 103, 3) := by decide +kernel
theorem d_Model_forge_5 : decode b_Model_forge 5 = .ok (.aload_n 0, 1) := by decide +kernel
theorem d_Model_forge_6 : decode b_Model_forge 6 = .ok (.invokevirtual 382, 3) := by decide +kernel
theorem d_Model_forge_9 : decode b_Model_forge 9 = .ok (.aload_n 0, 1) := by decide +kernel
theorem d_Model_forge_10 : decode b_Model_forge 10 = .ok (.aload_n 0, 1) := by decide +kernel
theorem d_Model_forge_11 : decode b_Model_forge 11 = .ok (.getfield 121, 3) := by decide +kernel
theorem d_Model_forge_14 : decode b_Model_forge 14 = .ok (.ifCond .ne 7, 3) := by decide +kernel
theorem d_Model_forge_17 : decode b_Model_forge 17 = .ok (.iconst 1, 1) := by decide +kernel
theorem d_Model_forge_18 : decode b_Model_forge 18 = .ok (.goto 4, 3) := by decide +kernel
theorem d_Model_forge_21 : decode b_Model_forge 21 = .ok (.iconst 0, 1) := by decide +kernel
theorem d_Model_forge_22 : decode b_Model_forge 22 = .ok (.putfield 385, 3) := by decide +kernel
theorem d_Model_forge_25 : decode b_Model_forge 25 = .ok (.aload_n 0, 1) := by decide +kernel
theorem d_Model_forge_26 : decode b_Model_forge 26 = .ok (.iconst 0, 1) := by decide +kernel
theorem d_Model_forge_27 : decode b_Model_forge 27 = .ok (.putfield 389, 3) := by decide +kernel
theorem d_Model_forge_30 : decode b_Model_forge 30 = .ok (.aload_n 0, 1) := by decide +kernel
theorem d_Model_forge_31 : decode b_Model_forge 31 = .ok (.iconst 0, 1) := by decide +kernel
theorem d_Model_forge_32 : decode b_Model_forge 32 = .ok (.putfield 392, 3) := by decide +kernel
theorem d_Model_forge_35 : decode b_Model_forge 35 = .ok (.aload_n 0, 1) := by decide +kernel
theorem d_Model_forge_36 : decode b_Model_forge 36 = .ok (.iconst 0, 1) := by decide +kernel
theorem d_Model_forge_37 : decode b_Model_forge 37 = .ok (.putfield 395, 3) := by decide +kernel
theorem d_Model_forge_40 : decode b_Model_forge 40 = .ok (.aload_n 0, 1) := by decide +kernel
theorem d_Model_forge_41 : decode b_Model_forge 41 = .ok (.getfield 385, 3) := by decide +kernel
theorem d_Model_forge_44 : decode b_Model_forge 44 = .ok (.ifCond .eq 10, 3) := by decide +kernel
theorem d_Model_forge_47 : decode b_Model_forge 47 = .ok (.aload_n 0, 1) := by decide +kernel
theorem d_Model_forge_48 : decode b_Model_forge 48 = .ok (.getfield 343, 3) := by decide +kernel
theorem d_Model_forge_51 : decode b_Model_forge 51 = .ok (.goto 8, 3) := by decide +kernel
theorem d_Model_forge_54 : decode b_Model_forge 54 = .ok (.aload_n 0, 1) := by decide +kernel
theorem d_Model_forge_55 : decode b_Model_forge 55 = .ok (.iconst 1, 1) := by decide +kernel
theorem d_Model_forge_56 : decode b_Model_forge 56 = .ok (.invokevirtual 106, 3) := by decide +kernel
theorem d_Model_forge_59 : decode b_Model_forge 59 = .ok (.ireturn, 1) := by decide +kernel
def tModel_forge_b1 (k : Nat → St → Int32 → Option (Int32 × St)) (σ : St) (x1 : Int32) : Option (Int32 × St) := gd (nZ x1) (if x1 = 0 then b2 (tModel_refuse (sI (sI (sI (sI σ 43 x1) 47 0) 51 0) 53 0) 1) (fun r5 u5 => some (r5, u5)) else some ((σ.1 36), (sI (sI (sI (sI σ 43 x1) 47 0) 51 0) 53 0)))
def tModel_forge_L : Nat → Nat → St → Int32 → Option (Int32 × St)
  | 0, _, _, _ => none
  | n + 1, lab, σ, x1 => match lab with
    | 1 => tModel_forge_b1 (tModel_forge_L n) σ x1
    | _ => none
def tModel_forge (σ : St) : Option (Int32 × St) := b1 (tModel_read (sI σ 26 0)) (fun u1 => if (u1.1 29) = 0 then tModel_forge_L 2000 1 u1 1 else tModel_forge_L 2000 1 u1 0)
set_option maxHeartbeats 4000000 in
set_option maxRecDepth 100000 in
theorem tModel_forge_blk {p : Program} {e : Env} {s : State} {m : MethodId} {args : Array Value} {below : List Frame} {meth : Method} {c : Code} {A : Nat → Prop} (l : Launch) (dC : Nat → ClassId) (dI : Nat → Nat → Nat) (ad : Nat → Nat) (cA : Nat → ClassId) {r : Int32} {σ' : St} (X : Cx p s m args meth c b_Model_forge 1 (some .int) "TinyForgeModel" (dC, dI) (ttys cA) ad A) : ∀ n : Nat, (∀ (σ : St) (x1 : Int32) (H : Heap) (locs : List Loc) (ls : Array Slot), tModel_forge_L n 1 σ x1 = some (r, σ') → va_P (dC, dI) vwCl (tcw ad cA σ) H → va_D A (tcw ad cA σ) → va_S A s.heap H locs → lv_has ls 1 [(0, .ref (ad 11))] → W p l e { frames := 12, cells := 0, slots := 0, locals := 269 } s m args below meth c H locs 0 0 (MQ below (QI (dC, dI) (ttys cA) (tcw ad cA) A r σ') args s 0 0 A) (F0 m 22 ls [.int x1, .ref (ad 11)])) := by
  obtain ⟨hx, hb, hr, hml, hown, hlocks, hts, hA, hK, hZ⟩ := id X
  intro n
  induction n with
  | zero => exact (fun σ x1 H locs ls hF => by cases hF)
  | succ n ihn =>
    refine fun σ x1 H locs ls hF hP hD hS hl => ?_
    · have hF : tModel_forge_b1 (tModel_forge_L n) σ x1 = some (r, σ') := hF
      unfold tModel_forge_b1 at hF
      obtain ⟨g_3, hF⟩ := gdE hF
      refine va_put (D := (dC, dI)) (ci := 11) (v := .int x1) (ty := .boolean) hx hb hts i_Model t_Model t_Model_ok n_Model hown hK hP hD hS 11 rfl rfl 39 (by decide) (hts _ w_efe796b1bb) (fun _ h9 => h9) rfl (by decide +kernel) (nZN g_3) (nZF g_3) (Nat.le_of_ble_eq_true rfl) d_Model_forge_22 (fun H locs hP hD hS => ?_)
      have hP : va_P (dC, dI) vwCl (tcw ad cA (sI σ 43 x1)) H := hP
      have hD : va_D A (tcw ad cA (sI σ 43 x1)) := hD
      refine lv_aload_n hx hb d_Model_forge_25 rfl (lv_at hl 0 rfl) ?_
      refine lv_iconst (v := 0) hx hb d_Model_forge_26 (by decide) ?_
      refine va_put (D := (dC, dI)) (ci := 11) (v := .int 0) (ty := .int) hx hb hts i_Model t_Model t_Model_ok n_Model hown hK hP hD hS 11 rfl rfl 43 (by decide) (hts _ w_51088924d7) (fun _ h9 => h9) rfl (by decide +kernel) rfl rfl (Nat.le_of_ble_eq_true rfl) d_Model_forge_27 (fun H locs hP hD hS => ?_)
      have hP : va_P (dC, dI) vwCl (tcw ad cA (sI (sI σ 43 x1) 47 0)) H := hP
      have hD : va_D A (tcw ad cA (sI (sI σ 43 x1) 47 0)) := hD
      refine lv_aload_n hx hb d_Model_forge_30 rfl (lv_at hl 0 rfl) ?_
      refine lv_iconst (v := 0) hx hb d_Model_forge_31 (by decide) ?_
      refine va_put (D := (dC, dI)) (ci := 11) (v := .int 0) (ty := .int) hx hb hts i_Model t_Model t_Model_ok n_Model hown hK hP hD hS 11 rfl rfl 47 (by decide) (hts _ w_d3c148b780) (fun _ h9 => h9) rfl (by decide +kernel) rfl rfl (Nat.le_of_ble_eq_true rfl) d_Model_forge_32 (fun H locs hP hD hS => ?_)
      have hP : va_P (dC, dI) vwCl (tcw ad cA (sI (sI (sI σ 43 x1) 47 0) 51 0)) H := hP
      have hD : va_D A (tcw ad cA (sI (sI (sI σ 43 x1) 47 0) 51 0)) := hD
      refine lv_aload_n hx hb d_Model_forge_35 rfl (lv_at hl 0 rfl) ?_
      refine lv_iconst (v := 0) hx hb d_Model_forge_36 (by decide) ?_
      refine va_put (D := (dC, dI)) (ci := 11) (v := .int 0) (ty := .int) hx hb hts i_Model t_Model t_Model_ok n_Model hown hK hP hD hS 11 rfl rfl 49 (by decide) (hts _ w_718e9fab69) (fun _ h9 => h9) rfl (by decide +kernel) rfl rfl (Nat.le_of_ble_eq_true rfl) d_Model_forge_37 (fun H locs hP hD hS => ?_)
      have hP : va_P (dC, dI) vwCl (tcw ad cA (sI (sI (sI (sI σ 43 x1) 47 0) 51 0) 53 0)) H := hP
      have hD : va_D A (tcw ad cA (sI (sI (sI (sI σ 43 x1) 47 0) 51 0) 53 0)) := hD
      refine lv_aload_n hx hb d_Model_forge_40 rfl (lv_at hl 0 rfl) ?_
      refine va_get (D := (dC, dI)) (ci := 11) (v := .int x1) hx hb hts i_Model hown hK hP 11 rfl rfl 39 (by decide) (hts _ w_efe796b1bb) (fun _ h9 => h9) rfl d_Model_forge_41 ?_
      refine lv_if_eq (tgt := 54) hx hb d_Model_forge_44 (by decide) (fun c_4 => ?_) (fun c_4 => ?_)
      · have hF := ifp hF c_4
        refine lv_aload_n hx hb d_Model_forge_54 rfl (lv_at hl 0 rfl) ?_
        refine lv_iconst (v := 1) hx hb d_Model_forge_55 (by decide) ?_
        obtain ⟨r5, u5, h5, hF⟩ := b2E hF
        refine callVI (As := [.int 1]) X (ct_Model_refuse l dC dI ad cA H.size h5) lk_Model_106 ⟨rfl, rfl, by decide, by decide⟩ 11 rfl rfl hP hD hS hl.1 rfl rfl (Nat.le_of_ble_eq_true rfl) d_Model_forge_56 (fun H locs hP hD hS => ?_)
        cases hF
        exact leafI X hP hD hS d_Model_forge_59
      · have hF := ifn hF c_4
        refine lv_aload_n hx hb d_Model_forge_47 rfl (lv_at hl 0 rfl) ?_
        refine va_get (D := (dC, dI)) (ci := 11) (v := .int (σ.1 36)) hx hb hts i_Model hown hK hP 11 rfl rfl 22 (by decide) (hts _ w_615e3d612a) (fun _ h9 => h9) rfl d_Model_forge_48 ?_
        refine lv_goto (tgt := 59) hx hb d_Model_forge_51 (by decide) ?_
        cases hF
        exact leafI X hP hD hS d_Model_forge_59
set_option maxHeartbeats 4000000 in
set_option maxRecDepth 100000 in
theorem ct_Model_forge (l : Launch) (dC : Nat → ClassId) (dI : Nat → Nat → Nat) (ad : Nat → Nat) (cA : Nat → ClassId) (sz : Nat) {σ : St} {r : Int32} {σ' : St} (hF : tModel_forge σ = some (r, σ')) : MI l y_Model_forge b_Model_forge 1 (some .int) { frames := 12, cells := 0, slots := 0, locals := 269 } (dC, dI) (ttys cA) ad (tcw ad cA) [.ref (ad 11)] σ sz r σ' := by
  refine startM (own := "TinyForgeModel") (Qc := fun A => QI (dC, dI) (ttys cA) (tcw ad cA) A r σ') rfl rfl (Nat.le_of_ble_eq_true rfl) ?_
  intro p e s m below meth c A H locs ls X hP hD hS hl
  have hl : lv_has ls 1 [(0, .ref (ad 11))] := hl
  obtain ⟨hx, hb, hr, hml, hown, hlocks, hts, hA, hK, hZ⟩ := id X
  unfold tModel_forge at hF
  refine lv_aload_n hx hb d_Model_forge_0 rfl (lv_at hl 0 rfl) ?_
  refine lv_iconst (v := 0) hx hb d_Model_forge_1 (by decide) ?_
  refine va_put (D := (dC, dI)) (ci := 11) (v := .int 0) (ty := .int) hx hb hts i_Model t_Model t_Model_ok n_Model hown hK hP hD hS 11 rfl rfl 0 (by decide) (hts _ w_06eb2805f0) (fun _ h9 => h9) rfl (by decide +kernel) rfl rfl (Nat.le_of_ble_eq_true rfl) d_Model_forge_2 (fun H locs hP hD hS => ?_)
  have hP : va_P (dC, dI) vwCl (tcw ad cA (sI σ 26 0)) H := hP
  have hD : va_D A (tcw ad cA (sI σ 26 0)) := hD
  refine lv_aload_n hx hb d_Model_forge_5 rfl (lv_at hl 0 rfl) ?_
  obtain ⟨u1, h1, hF⟩ := b1E hF
  refine callVV (As := []) X (ct_Model_read l dC dI ad cA H.size h1) lk_Model_382 ⟨rfl, rfl, by decide, by decide⟩ 11 rfl rfl hP hD hS hl.1 rfl rfl (Nat.le_of_ble_eq_true rfl) d_Model_forge_6 (fun H locs hP hD hS => ?_)
  refine lv_aload_n hx hb d_Model_forge_9 rfl (lv_at hl 0 rfl) ?_
  refine lv_aload_n hx hb d_Model_forge_10 rfl (lv_at hl 0 rfl) ?_
  refine va_get (D := (dC, dI)) (ci := 11) (v := .int (u1.1 29)) hx hb hts i_Model hown hK hP 11 rfl rfl 4 (by decide) (hts _ w_0464dc4398) (fun _ h9 => h9) rfl d_Model_forge_11 ?_
  refine lv_if_ne (tgt := 21) hx hb d_Model_forge_14 (by decide) (fun c_2 => ?_) (fun c_2 => ?_)
  · have hF := ifn hF c_2
    refine lv_iconst (v := 0) hx hb d_Model_forge_21 (by decide) ?_
    exact (tModel_forge_blk l dC dI ad cA X 2000) u1 0 H locs ls hF hP hD hS (lv_sub hl [0] rfl)
  · have hF := ifp hF c_2
    refine lv_iconst (v := 1) hx hb d_Model_forge_17 (by decide) ?_
    refine lv_goto (tgt := 22) hx hb d_Model_forge_18 (by decide) ?_
    exact (tModel_forge_blk l dC dI ad cA X 2000) u1 1 H locs ls hF hP hD hS (lv_sub hl [0] rfl)
theorem d_Model_give_0 : decode b_Model_give 0 = .ok (.aload_n 0, 1) := by decide +kernel
theorem d_Model_give_1 : decode b_Model_give 1 = .ok (.iconst 0, 1) := by decide +kernel
theorem d_Model_give_2 : decode b_Model_give 2 = .ok (.putfield 103, 3) := by decide +kernel
theorem d_Model_give_5 : decode b_Model_give 5 = .ok (.aload_n 0, 1) := by decide +kernel
theorem d_Model_give_6 : decode b_Model_give 6 = .ok (.getfield 398, 3) := by decide +kernel
theorem d_Model_give_9 : decode b_Model_give 9 = .ok (.bipush 20, 2) := by decide +kernel
theorem d_Model_give_11 : decode b_Model_give 11 = .ok (.if_icmp .ne 9, 3) := by decide +kernel
theorem d_Model_give_14 : decode b_Model_give 14 = .ok (.aload_n 0, 1) := by decide +kernel
theorem d_Model_give_15 : decode b_Model_give 15 = .ok (.iconst 1, 1) := by decide +kernel
theorem d_Model_give_16 : decode b_Model_give 16 = .ok (.invokevirtual 106, 3) := by decide +kernel
theorem d_Model_give_19 : decode b_Model_give 19 = .ok (.ireturn, 1) := by decide +kernel
theorem d_Model_give_20 : decode b_Model_give 20 = .ok (.aload_n 0, 1) := by decide +kernel
theorem d_Model_give_21 : decode b_Model_give 21 = .ok (.getfield 82, 3) := by decide +kernel
theorem d_Model_give_24 : decode b_Model_give 24 = .ok (.aload_n 0, 1) := by decide +kernel
theorem d_Model_give_25 : decode b_Model_give 25 = .ok (.getfield 398, 3) := by decide +kernel
theorem d_Model_give_28 : decode b_Model_give 28 = .ok (.iload_n 1, 1) := by decide +kernel
theorem d_Model_give_29 : decode b_Model_give 29 = .ok (.iastore, 1) := by decide +kernel
theorem d_Model_give_30 : decode b_Model_give 30 = .ok (.aload_n 0, 1) := by decide +kernel
theorem d_Model_give_31 : decode b_Model_give 31 = .ok (.dup, 1) := by decide +kernel
theorem d_Model_give_32 : decode b_Model_give 32 = .ok (.getfield 398, 3) := by decide +kernel
theorem d_Model_give_35 : decode b_Model_give 35 = .ok (.iconst 1, 1) := by decide +kernel
theorem d_Model_give_36 : decode b_Model_give 36 = .ok (.iadd, 1) := by decide +kernel
theorem d_Model_give_37 : decode b_Model_give 37 = .ok (.putfield 398, 3) := by decide +kernel
theorem d_Model_give_40 : decode b_Model_give 40 = .ok (.aload_n 0, 1) := by decide +kernel
theorem d_Model_give_41 : decode b_Model_give 41 = .ok (.getfield 398, 3) := by decide +kernel
theorem d_Model_give_44 : decode b_Model_give 44 = .ok (.ireturn, 1) := by decide +kernel
def tModel_give (σ : St) (a1 : Int32) : Option (Int32 × St) := if (σ.1 45) = 20 then b2 (tModel_refuse (sI σ 26 0) 1) (fun r3 u3 => some (r3, u3)) else gd (inB (σ.1 45) 20) (some (((σ.1 45) + 1), (sI (sA (sI σ 26 0) 37 (upd (σ.2.2.1 37) (σ.1 45).toNatClampNeg a1)) 45 ((σ.1 45) + 1))))
set_option maxHeartbeats 4000000 in
set_option maxRecDepth 100000 in
theorem ct_Model_give (l : Launch) (dC : Nat → ClassId) (dI : Nat → Nat → Nat) (ad : Nat → Nat) (cA : Nat → ClassId) (sz : Nat) {σ : St} {a1 : Int32} {r : Int32} {σ' : St} (hF : tModel_give σ a1 = some (r, σ')) : MI l y_Model_give b_Model_give 2 (some .int) { frames := 1, cells := 0, slots := 0, locals := 21 } (dC, dI) (ttys cA) ad (tcw ad cA) [.ref (ad 11), .int a1] σ sz r σ' := by
  refine startM (own := "TinyForgeModel") (Qc := fun A => QI (dC, dI) (ttys cA) (tcw ad cA) A r σ') rfl rfl (Nat.le_of_ble_eq_true rfl) ?_
  intro p e s m below meth c A H locs ls X hP hD hS hl
  have hl : lv_has ls 2 [(0, .ref (ad 11)), (1, .int a1)] := hl
  obtain ⟨hx, hb, hr, hml, hown, hlocks, hts, hA, hK, hZ⟩ := id X
  unfold tModel_give at hF
  refine lv_aload_n hx hb d_Model_give_0 rfl (lv_at hl 0 rfl) ?_
  refine lv_iconst (v := 0) hx hb d_Model_give_1 (by decide) ?_
  refine va_put (D := (dC, dI)) (ci := 11) (v := .int 0) (ty := .int) hx hb hts i_Model t_Model t_Model_ok n_Model hown hK hP hD hS 11 rfl rfl 0 (by decide) (hts _ w_06eb2805f0) (fun _ h9 => h9) rfl (by decide +kernel) rfl rfl (Nat.le_of_ble_eq_true rfl) d_Model_give_2 (fun H locs hP hD hS => ?_)
  have hP : va_P (dC, dI) vwCl (tcw ad cA (sI σ 26 0)) H := hP
  have hD : va_D A (tcw ad cA (sI σ 26 0)) := hD
  refine lv_aload_n hx hb d_Model_give_5 rfl (lv_at hl 0 rfl) ?_
  refine va_get (D := (dC, dI)) (ci := 11) (v := .int (σ.1 45)) hx hb hts i_Model hown hK hP 11 rfl rfl 41 (by decide) (hts _ w_bd13b37505) (fun _ h9 => h9) rfl d_Model_give_6 ?_
  refine lv_bipush (v := 20) hx hb d_Model_give_9 (by decide) ?_
  refine lv_icmp_ne (tgt := 20) hx hb d_Model_give_11 (by decide) (fun c_1 => ?_) (fun c_1 => ?_)
  · have hF := ifn hF c_1
    refine lv_aload_n hx hb d_Model_give_20 rfl (lv_at hl 0 rfl) ?_
    refine va_get (D := (dC, dI)) (ci := 11) (v := .ref (ad 52)) hx hb hts i_Model hown hK hP 11 rfl rfl 50 (by decide) (hts _ w_87d271541c) (fun _ h9 => h9) rfl d_Model_give_21 ?_
    refine lv_aload_n hx hb d_Model_give_24 rfl (lv_at hl 0 rfl) ?_
    refine va_get (D := (dC, dI)) (ci := 11) (v := .int (σ.1 45)) hx hb hts i_Model hown hK hP 11 rfl rfl 41 (by decide) (hts _ w_bd13b37505) (fun _ h9 => h9) rfl d_Model_give_25 ?_
    refine lv_iload_n hx hb d_Model_give_28 rfl (lv_at hl 1 rfl) ?_
    obtain ⟨g_2, hF⟩ := gdE hF
    refine va_iast (f := (σ.2.2.1 37)) hx hb hK hP hD hS 52 0 rfl rfl (inE g_2) d_Model_give_29 (fun H locs hP hD hS => ?_)
    have hP : va_P (dC, dI) vwCl (tcw ad cA (sA (sI σ 26 0) 37 (upd (σ.2.2.1 37) (σ.1 45).toNatClampNeg a1))) H := hP
    have hD : va_D A (tcw ad cA (sA (sI σ 26 0) 37 (upd (σ.2.2.1 37) (σ.1 45).toNatClampNeg a1))) := hD
    refine lv_aload_n hx hb d_Model_give_30 rfl (lv_at hl 0 rfl) ?_
    refine lv_dup hx hb d_Model_give_31 rfl ?_
    refine va_get (D := (dC, dI)) (ci := 11) (v := .int (σ.1 45)) hx hb hts i_Model hown hK hP 11 rfl rfl 41 (by decide) (hts _ w_bd13b37505) (fun _ h9 => h9) rfl d_Model_give_32 ?_
    refine lv_iconst (v := 1) hx hb d_Model_give_35 (by decide) ?_
    refine lv_iadd hx hb d_Model_give_36 ?_
    refine va_put (D := (dC, dI)) (ci := 11) (v := .int ((σ.1 45) + 1)) (ty := .int) hx hb hts i_Model t_Model t_Model_ok n_Model hown hK hP hD hS 11 rfl rfl 41 (by decide) (hts _ w_bd13b37505) (fun _ h9 => h9) rfl (by decide +kernel) rfl rfl (Nat.le_of_ble_eq_true rfl) d_Model_give_37 (fun H locs hP hD hS => ?_)
    have hP : va_P (dC, dI) vwCl (tcw ad cA (sI (sA (sI σ 26 0) 37 (upd (σ.2.2.1 37) (σ.1 45).toNatClampNeg a1)) 45 ((σ.1 45) + 1))) H := hP
    have hD : va_D A (tcw ad cA (sI (sA (sI σ 26 0) 37 (upd (σ.2.2.1 37) (σ.1 45).toNatClampNeg a1)) 45 ((σ.1 45) + 1))) := hD
    refine lv_aload_n hx hb d_Model_give_40 rfl (lv_at hl 0 rfl) ?_
    refine va_get (D := (dC, dI)) (ci := 11) (v := .int ((σ.1 45) + 1)) hx hb hts i_Model hown hK hP 11 rfl rfl 41 (by decide) (hts _ w_bd13b37505) (fun _ h9 => h9) rfl d_Model_give_41 ?_
    cases hF
    exact leafI X hP hD hS d_Model_give_44
  · have hF := ifp hF c_1
    refine lv_aload_n hx hb d_Model_give_14 rfl (lv_at hl 0 rfl) ?_
    refine lv_iconst (v := 1) hx hb d_Model_give_15 (by decide) ?_
    obtain ⟨r3, u3, h3, hF⟩ := b2E hF
    refine callVI (As := [.int 1]) X (ct_Model_refuse l dC dI ad cA H.size h3) lk_Model_106 ⟨rfl, rfl, by decide, by decide⟩ 11 rfl rfl hP hD hS hl.1 rfl rfl (Nat.le_of_ble_eq_true rfl) d_Model_give_16 (fun H locs hP hD hS => ?_)
    cases hF
    exact leafI X hP hD hS d_Model_give_19
theorem d_Model_loop_0 : decode b_Model_loop 0 = .ok (.iload_n 2, 1) := by decide +kernel
theorem d_Model_loop_1 : decode b_Model_loop 1 = .ok (.ifCond .ne 7, 3) := by decide +kernel
theorem d_Model_loop_4 : decode b_Model_loop 4 = .ok (.aload_n 0, 1) := by decide +kernel
theorem d_Model_loop_5 : decode b_Model_loop 5 = .ok (.invokevirtual 445, 3) := by decide +kernel
theorem d_Model_loop_8 : decode b_Model_loop 8 = .ok (.aload_n 0, 1) := by decide +kernel
theorem d_Model_loop_9 : decode b_Model_loop 9 = .ok (.getfield 407, 3) := by decide +kernel
theorem d_Model_loop_12 : decode b_Model_loop 12 = .ok (.ifCond .eq 4, 3) := by decide +kernel
theorem d_Model_loop_15 : decode b_Model_loop 15 = .ok (.return_, 1) := by decide +kernel
theorem d_Model_loop_16 : decode b_Model_loop 16 = .ok (.iload_n 2, 1) := by decide +kernel
theorem d_Model_loop_17 : decode b_Model_loop 17 = .ok (.ifCond .ne 16, 3) := by decide +kernel
theorem d_Model_loop_20 : decode b_Model_loop 20 = .ok (.aload_n 0, 1) := by decide +kernel
theorem d_Model_loop_21 : decode b_Model_loop 21 = .ok (.aload_n 0, 1) := by decide +kernel
theorem d_Model_loop_22 : decode b_Model_loop 22 = .ok (.getfield 36, 3) := by decide +kernel
theorem d_Model_loop_25 : decode b_Model_loop 25 = .ok (.iload_n 1, 1) := by decide +kernel
theorem d_Model_loop_26 : decode b_Model_loop 26 = .ok (.iaload, 1) := by decide +kernel
theorem d_Model_loop_27 : decode b_Model_loop 27 = .ok (.invokevirtual 418, 3) := by decide +kernel
theorem d_Model_loop_30 : decode b_Model_loop 30 = .ok (.goto 44, 3) := by decide +kernel
theorem d_Model_loop_33 : decode b_Model_loop 33 = .ok (.iload_n 2, 1) := by decide +kernel
theorem d_Model_loop_34 : decode b_Model_loop 34 = .ok (.iconst 1, 1) := by decide +kernel
theorem d_Model_loop_35 : decode b_Model_loop 35 = .ok (.if_icmp .ne 27, 3) := by decide +kernel
theorem d_Model_loop_38 : decode b_Model_loop 38 = .ok (.aload_n 0, 1) := by decide +kernel
theorem d_Model_loop_39 : decode b_Model_loop 39 = .ok (.aload_n 0, 1) := by decide +kernel
theorem d_Model_loop_40 : decode b_Model_loop 40 = .ok (.invokevirtual 421, 3) := by decide +kernel
theorem d_Model_loop_43 : decode b_Model_loop 43 = .ok (.ifCond .eq 12, 3) := by decide +kernel
theorem d_Model_loop_46 : decode b_Model_loop 46 = .ok (.aload_n 0, 1) := by decide +kernel
theorem d_Model_loop_47 : decode b_Model_loop 47 = .ok (.getfield 39, 3) := by decide +kernel
theorem d_Model_loop_50 : decode b_Model_loop 50 = .ok (.iload_n 1, 1) := by decide +kernel
theorem d_Model_loop_51 : decode b_Model_loop 51 = .ok (.iaload, 1) := by decide +kernel
theorem d_Model_loop_52 : decode b_Model_loop 52 = .ok (.goto 4, 3) := by decide +kernel
theorem d_Model_loop_55 : decode b_Model_loop 55 = .ok (.iconst (-1), 1) := by decide +kernel
theorem d_Model_loop_56 : decode b_Model_loop 56 = .ok (.invokevirtual 448, 3) := by decide +kernel
theorem d_Model_loop_59 : decode b_Model_loop 59 = .ok (.goto 15, 3) := by decide +kernel
theorem d_Model_loop_62 : decode b_Model_loop 62 = .ok (.aload_n 0, 1) := by decide +kernel
theorem d_Model_loop_63 : decode b_Model_loop 63 = .ok (.getfield 97, 3) := by decide +kernel
theorem d_Model_loop_66 : decode b_Model_loop 66 = .ok (.aload_n 0, 1) := by decide +kernel
theorem d_Model_loop_67 : decode b_Model_loop 67 = .ok (.getfield 401, 3) := by decide +kernel
theorem d_Model_loop_70 : decode b_Model_loop 70 = .ok (.iconst 1, 1) := by decide +kernel
theorem d_Model_loop_71 : decode b_Model_loop 71 = .ok (.isub, 1) := by decide +kernel
theorem d_Model_loop_72 : decode b_Model_loop 72 = .ok (.iconst 0, 1) := by decide +kernel
theorem d_Model_loop_73 : decode b_Model_loop 73 = .ok (.iastore, 1) := by decide +kernel
theorem d_Model_loop_74 : decode b_Model_loop 74 = .ok (.return_, 1) := by decide +kernel
def tModel_loop_b1 (k : Nat → St → Int32 → Int32 → Option (St)) (σ : St) (x1 : Int32) (x2 : Int32) : Option (St) := if (σ.1 52) = 0 then if x2 = 0 then gd (inB x1 500) (b1 (tModel_start σ ((σ.2.2.1 22) x1.toNatClampNeg)) (fun u13 => some u13)) else if x2 = 1 then b2 (tModel_popValue σ) (fun r7 u7 => if r7 = 0 then b1 (tModel_startOr u7 (-1)) (fun u9 => some u9) else gd (inB x1 500) (b1 (tModel_startOr u7 ((u7.2.2.1 23) x1.toNatClampNeg)) (fun u11 => some u11))) else gd (inB ((σ.1 48) - 1) 1600) (some (sA σ 42 (upd (σ.2.2.1 42) ((σ.1 48) - 1).toNatClampNeg 0))) else some σ
def tModel_loop_L : Nat → Nat → St → Int32 → Int32 → Option (St)
  | 0, _, _, _, _ => none
  | n + 1, lab, σ, x1, x2 => match lab with
    | 1 => tModel_loop_b1 (tModel_loop_L n) σ x1 x2
    | _ => none
def tModel_loop (σ : St) (a1 : Int32) (a2 : Int32) : Option (St) := if a2 = 0 then b1 (tModel_tick σ) (fun u2 => tModel_loop_L 2000 1 u2 a1 a2) else tModel_loop_L 2000 1 σ a1 a2
set_option maxHeartbeats 4000000 in
set_option maxRecDepth 100000 in
theorem tModel_loop_blk {p : Program} {e : Env} {s : State} {m : MethodId} {args : Array Value} {below : List Frame} {meth : Method} {c : Code} {A : Nat → Prop} (l : Launch) (dC : Nat → ClassId) (dI : Nat → Nat → Nat) (ad : Nat → Nat) (cA : Nat → ClassId) {σ' : St} (X : Cx p s m args meth c b_Model_loop 3 none "TinyForgeModel" (dC, dI) (ttys cA) ad A) : ∀ n : Nat, (∀ (σ : St) (x1 : Int32) (x2 : Int32) (H : Heap) (locs : List Loc) (ls : Array Slot), tModel_loop_L n 1 σ x1 x2 = some σ' → va_P (dC, dI) vwCl (tcw ad cA σ) H → va_D A (tcw ad cA σ) → va_S A s.heap H locs → lv_has ls 3 [(0, .ref (ad 11)), (1, .int x1), (2, .int x2)] → W p l e { frames := 2, cells := 0, slots := 0, locals := 42 } s m args below meth c H locs 0 0 (MQ below (QV (dC, dI) (ttys cA) (tcw ad cA) A σ') args s 0 0 A) (F0 m 8 ls [])) := by
  obtain ⟨hx, hb, hr, hml, hown, hlocks, hts, hA, hK, hZ⟩ := id X
  intro n
  induction n with
  | zero => exact (fun σ x1 x2 H locs ls hF => by cases hF)
  | succ n ihn =>
    refine fun σ x1 x2 H locs ls hF hP hD hS hl => ?_
    · have hF : tModel_loop_b1 (tModel_loop_L n) σ x1 x2 = some σ' := hF
      unfold tModel_loop_b1 at hF
      refine lv_aload_n hx hb d_Model_loop_8 rfl (lv_at hl 0 rfl) ?_
      refine va_get (D := (dC, dI)) (ci := 11) (v := .int (σ.1 52)) hx hb hts i_Model hown hK hP 11 rfl rfl 48 (by decide) (hts _ w_b82ca3c944) (fun _ h9 => h9) rfl d_Model_loop_9 ?_
      refine lv_if_eq (tgt := 16) hx hb d_Model_loop_12 (by decide) (fun c_3 => ?_) (fun c_3 => ?_)
      · have hF := ifp hF c_3
        refine lv_iload_n hx hb d_Model_loop_16 rfl (lv_at hl 2 rfl) ?_
        refine lv_if_ne (tgt := 33) hx hb d_Model_loop_17 (by decide) (fun c_4 => ?_) (fun c_4 => ?_)
        · have hF := ifn hF c_4
          refine lv_iload_n hx hb d_Model_loop_33 rfl (lv_at hl 2 rfl) ?_
          refine lv_iconst (v := 1) hx hb d_Model_loop_34 (by decide) ?_
          refine lv_icmp_ne (tgt := 62) hx hb d_Model_loop_35 (by decide) (fun c_5 => ?_) (fun c_5 => ?_)
          · have hF := ifn hF c_5
            refine lv_aload_n hx hb d_Model_loop_62 rfl (lv_at hl 0 rfl) ?_
            refine va_get (D := (dC, dI)) (ci := 11) (v := .ref (ad 57)) hx hb hts i_Model hown hK hP 11 rfl rfl 55 (by decide) (hts _ w_1fb9835bec) (fun _ h9 => h9) rfl d_Model_loop_63 ?_
            refine lv_aload_n hx hb d_Model_loop_66 rfl (lv_at hl 0 rfl) ?_
            refine va_get (D := (dC, dI)) (ci := 11) (v := .int (σ.1 48)) hx hb hts i_Model hown hK hP 11 rfl rfl 44 (by decide) (hts _ w_0f4138ce03) (fun _ h9 => h9) rfl d_Model_loop_67 ?_
            refine lv_iconst (v := 1) hx hb d_Model_loop_70 (by decide) ?_
            refine lv_isub hx hb d_Model_loop_71 ?_
            refine lv_iconst (v := 0) hx hb d_Model_loop_72 (by decide) ?_
            obtain ⟨g_6, hF⟩ := gdE hF
            refine va_iast (f := (σ.2.2.1 42)) hx hb hK hP hD hS 57 0 rfl rfl (inE g_6) d_Model_loop_73 (fun H locs hP hD hS => ?_)
            have hP : va_P (dC, dI) vwCl (tcw ad cA (sA σ 42 (upd (σ.2.2.1 42) ((σ.1 48) - 1).toNatClampNeg 0))) H := hP
            have hD : va_D A (tcw ad cA (sA σ 42 (upd (σ.2.2.1 42) ((σ.1 48) - 1).toNatClampNeg 0))) := hD
            cases hF
            exact leafV X hP hD hS d_Model_loop_74
          · have hF := ifp hF c_5
            refine lv_aload_n hx hb d_Model_loop_38 rfl (lv_at hl 0 rfl) ?_
            refine lv_aload_n hx hb d_Model_loop_39 rfl (lv_at hl 0 rfl) ?_
            obtain ⟨r7, u7, h7, hF⟩ := b2E hF
            refine callVI (As := []) X (ct_Model_popValue l dC dI ad cA H.size h7) lk_Model_421 ⟨rfl, rfl, by decide, by decide⟩ 11 rfl rfl hP hD hS hl.1 rfl rfl (Nat.le_of_ble_eq_true rfl) d_Model_loop_40 (fun H locs hP hD hS => ?_)
            refine lv_if_eq (tgt := 55) hx hb d_Model_loop_43 (by decide) (fun c_8 => ?_) (fun c_8 => ?_)
            · have hF := ifp hF c_8
              refine lv_iconst (v := (-1)) hx hb d_Model_loop_55 (by decide) ?_
              obtain ⟨u9, h9, hF⟩ := b1E hF
              refine callVV (As := [.int (-1)]) X (ct_Model_startOr l dC dI ad cA H.size h9) lk_Model_448 ⟨rfl, rfl, by decide, by decide⟩ 11 rfl rfl hP hD hS hl.1 rfl rfl (Nat.le_of_ble_eq_true rfl) d_Model_loop_56 (fun H locs hP hD hS => ?_)
              refine lv_goto (tgt := 74) hx hb d_Model_loop_59 (by decide) ?_
              cases hF
              exact leafV X hP hD hS d_Model_loop_74
            · have hF := ifn hF c_8
              refine lv_aload_n hx hb d_Model_loop_46 rfl (lv_at hl 0 rfl) ?_
              refine va_get (D := (dC, dI)) (ci := 11) (v := .ref (ad 38)) hx hb hts i_Model hown hK hP 11 rfl rfl 17 (by decide) (hts _ w_d96db777d5) (fun _ h9 => h9) rfl d_Model_loop_47 ?_
              refine lv_iload_n hx hb d_Model_loop_50 rfl (lv_at hl 1 rfl) ?_
              obtain ⟨g_10, hF⟩ := gdE hF
              refine va_iald (f := (u7.2.2.1 23)) hx hb hK hP 38 0 rfl rfl (inE g_10) d_Model_loop_51 ?_
              refine lv_goto (tgt := 56) hx hb d_Model_loop_52 (by decide) ?_
              obtain ⟨u11, h11, hF⟩ := b1E hF
              refine callVV (As := [.int ((u7.2.2.1 23) x1.toNatClampNeg)]) X (ct_Model_startOr l dC dI ad cA H.size h11) lk_Model_448 ⟨rfl, rfl, by decide, by decide⟩ 11 rfl rfl hP hD hS hl.1 rfl rfl (Nat.le_of_ble_eq_true rfl) d_Model_loop_56 (fun H locs hP hD hS => ?_)
              refine lv_goto (tgt := 74) hx hb d_Model_loop_59 (by decide) ?_
              cases hF
              exact leafV X hP hD hS d_Model_loop_74
        · have hF := ifp hF c_4
          refine lv_aload_n hx hb d_Model_loop_20 rfl (lv_at hl 0 rfl) ?_
          refine lv_aload_n hx hb d_Model_loop_21 rfl (lv_at hl 0 rfl) ?_
          refine va_get (D := (dC, dI)) (ci := 11) (v := .ref (ad 37)) hx hb hts i_Model hown hK hP 11 rfl rfl 16 (by decide) (hts _ w_b1c1a5a9de) (fun _ h9 => h9) rfl d_Model_loop_22 ?_
          refine lv_iload_n hx hb d_Model_loop_25 rfl (lv_at hl 1 rfl) ?_
          obtain ⟨g_12, hF⟩ := gdE hF
          refine va_iald (f := (σ.2.2.1 22)) hx hb hK hP 37 0 rfl rfl (inE g_12) d_Model_loop_26 ?_
          obtain ⟨u13, h13, hF⟩ := b1E hF
          refine callVV (As := [.int ((σ.2.2.1 22) x1.toNatClampNeg)]) X (ct_Model_start l dC dI ad cA H.size h13) lk_Model_418 ⟨rfl, rfl, by decide, by decide⟩ 11 rfl rfl hP hD hS hl.1 rfl rfl (Nat.le_of_ble_eq_true rfl) d_Model_loop_27 (fun H locs hP hD hS => ?_)
          refine lv_goto (tgt := 74) hx hb d_Model_loop_30 (by decide) ?_
          cases hF
          exact leafV X hP hD hS d_Model_loop_74
      · have hF := ifn hF c_3
        cases hF
        exact leafV X hP hD hS d_Model_loop_15
set_option maxHeartbeats 4000000 in
set_option maxRecDepth 100000 in
theorem ct_Model_loop (l : Launch) (dC : Nat → ClassId) (dI : Nat → Nat → Nat) (ad : Nat → Nat) (cA : Nat → ClassId) (sz : Nat) {σ : St} {a1 : Int32} {a2 : Int32} {σ' : St} (hF : tModel_loop σ a1 a2 = some σ') : MV l y_Model_loop b_Model_loop 3 none { frames := 2, cells := 0, slots := 0, locals := 42 } (dC, dI) (ttys cA) ad (tcw ad cA) [.ref (ad 11), .int a1, .int a2] σ sz σ' := by
  refine startM (own := "TinyForgeModel") (Qc := fun A => QV (dC, dI) (ttys cA) (tcw ad cA) A σ') rfl rfl (Nat.le_of_ble_eq_true rfl) ?_
  intro p e s m below meth c A H locs ls X hP hD hS hl
  have hl : lv_has ls 3 [(0, .ref (ad 11)), (1, .int a1), (2, .int a2)] := hl
  obtain ⟨hx, hb, hr, hml, hown, hlocks, hts, hA, hK, hZ⟩ := id X
  unfold tModel_loop at hF
  refine lv_iload_n hx hb d_Model_loop_0 rfl (lv_at hl 2 rfl) ?_
  refine lv_if_ne (tgt := 8) hx hb d_Model_loop_1 (by decide) (fun c_1 => ?_) (fun c_1 => ?_)
  · have hF := ifn hF c_1
    exact (tModel_loop_blk l dC dI ad cA X 2000) σ a1 a2 H locs ls hF hP hD hS (lv_sub hl [0, 1, 2] rfl)
  · have hF := ifp hF c_1
    refine lv_aload_n hx hb d_Model_loop_4 rfl (lv_at hl 0 rfl) ?_
    obtain ⟨u2, h2, hF⟩ := b1E hF
    refine callVV (As := []) X (ct_Model_tick l dC dI ad cA H.size h2) lk_Model_445 ⟨rfl, rfl, by decide, by decide⟩ 11 rfl rfl hP hD hS hl.1 rfl rfl (Nat.le_of_ble_eq_true rfl) d_Model_loop_5 (fun H locs hP hD hS => ?_)
    exact (tModel_loop_blk l dC dI ad cA X 2000) u2 a1 a2 H locs ls hF hP hD hS (lv_sub hl [0, 1, 2] rfl)
theorem d_Model_readInput_0 : decode b_Model_readInput 0 = .ok (.aload_n 0, 1) := by decide +kernel
theorem d_Model_readInput_1 : decode b_Model_readInput 1 = .ok (.aload_n 0, 1) := by decide +kernel
theorem d_Model_readInput_2 : decode b_Model_readInput 2 = .ok (.getfield 451, 3) := by decide +kernel
theorem d_Model_readInput_5 : decode b_Model_readInput 5 = .ok (.aload_n 0, 1) := by decide +kernel
theorem d_Model_readInput_6 : decode b_Model_readInput 6 = .ok (.getfield 398, 3) := by decide +kernel
theorem d_Model_readInput_9 : decode b_Model_readInput 9 = .ok (.if_icmp .ge 15, 3) := by decide +kernel
theorem d_Model_readInput_12 : decode b_Model_readInput 12 = .ok (.aload_n 0, 1) := by decide +kernel
theorem d_Model_readInput_13 : decode b_Model_readInput 13 = .ok (.getfield 82, 3) := by decide +kernel
theorem d_Model_readInput_16 : decode b_Model_readInput 16 = .ok (.aload_n 0, 1) := by decide +kernel
theorem d_Model_readInput_17 : decode b_Model_readInput 17 = .ok (.getfield 451, 3) := by decide +kernel
theorem d_Model_readInput_20 : decode b_Model_readInput 20 = .ok (.iaload, 1) := by decide +kernel
theorem d_Model_readInput_21 : decode b_Model_readInput 21 = .ok (.goto 4, 3) := by decide +kernel
theorem d_Model_readInput_24 : decode b_Model_readInput 24 = .ok (.iconst 0, 1) := by decide +kernel
theorem d_Model_readInput_25 : decode b_Model_readInput 25 = .ok (.invokevirtual 427, 3) := by decide +kernel
theorem d_Model_readInput_28 : decode b_Model_readInput 28 = .ok (.aload_n 0, 1) := by decide +kernel
theorem d_Model_readInput_29 : decode b_Model_readInput 29 = .ok (.dup, 1) := by decide +kernel
theorem d_Model_readInput_30 : decode b_Model_readInput 30 = .ok (.getfield 451, 3) := by decide +kernel
theorem d_Model_readInput_33 : decode b_Model_readInput 33 = .ok (.iconst 1, 1) := by decide +kernel
theorem d_Model_readInput_34 : decode b_Model_readInput 34 = .ok (.iadd, 1) := by decide +kernel
theorem d_Model_readInput_35 : decode b_Model_readInput 35 = .ok (.putfield 451, 3) := by decide +kernel
theorem d_Model_readInput_38 : decode b_Model_readInput 38 = .ok (.return_, 1) := by decide +kernel
def tModel_readInput_b1 (k : Nat → St → Int32 → Option (St)) (σ : St) (x1 : Int32) : Option (St) := b1 (tModel_hand σ x1) (fun u3 => some (sI u3 46 ((u3.1 46) + 1)))
def tModel_readInput_L : Nat → Nat → St → Int32 → Option (St)
  | 0, _, _, _ => none
  | n + 1, lab, σ, x1 => match lab with
    | 1 => tModel_readInput_b1 (tModel_readInput_L n) σ x1
    | _ => none
def tModel_readInput (σ : St) : Option (St) := if (σ.1 45) ≤ (σ.1 46) then tModel_readInput_L 2000 1 σ 0 else gd (inB (σ.1 46) 20) (tModel_readInput_L 2000 1 σ ((σ.2.2.1 37) (σ.1 46).toNatClampNeg))
set_option maxHeartbeats 4000000 in
set_option maxRecDepth 100000 in
theorem tModel_readInput_blk {p : Program} {e : Env} {s : State} {m : MethodId} {args : Array Value} {below : List Frame} {meth : Method} {c : Code} {A : Nat → Prop} (l : Launch) (dC : Nat → ClassId) (dI : Nat → Nat → Nat) (ad : Nat → Nat) (cA : Nat → ClassId) {σ' : St} (X : Cx p s m args meth c b_Model_readInput 1 none "TinyForgeModel" (dC, dI) (ttys cA) ad A) : ∀ n : Nat, (∀ (σ : St) (x1 : Int32) (H : Heap) (locs : List Loc) (ls : Array Slot), tModel_readInput_L n 1 σ x1 = some σ' → va_P (dC, dI) vwCl (tcw ad cA σ) H → va_D A (tcw ad cA σ) → va_S A s.heap H locs → lv_has ls 1 [(0, .ref (ad 11))] → W p l e { frames := 1, cells := 0, slots := 0, locals := 21 } s m args below meth c H locs 0 0 (MQ below (QV (dC, dI) (ttys cA) (tcw ad cA) A σ') args s 0 0 A) (F0 m 25 ls [.int x1, .ref (ad 11)])) := by
  obtain ⟨hx, hb, hr, hml, hown, hlocks, hts, hA, hK, hZ⟩ := id X
  intro n
  induction n with
  | zero => exact (fun σ x1 H locs ls hF => by cases hF)
  | succ n ihn =>
    refine fun σ x1 H locs ls hF hP hD hS hl => ?_
    · have hF : tModel_readInput_b1 (tModel_readInput_L n) σ x1 = some σ' := hF
      unfold tModel_readInput_b1 at hF
      obtain ⟨u3, h3, hF⟩ := b1E hF
      refine callVV (As := [.int x1]) X (ct_Model_hand l dC dI ad cA H.size h3) lk_Model_427 ⟨rfl, rfl, by decide, by decide⟩ 11 rfl rfl hP hD hS hl.1 rfl rfl (Nat.le_of_ble_eq_true rfl) d_Model_readInput_25 (fun H locs hP hD hS => ?_)
      refine lv_aload_n hx hb d_Model_readInput_28 rfl (lv_at hl 0 rfl) ?_
      refine lv_dup hx hb d_Model_readInput_29 rfl ?_
      refine va_get (D := (dC, dI)) (ci := 11) (v := .int (u3.1 46)) hx hb hts i_Model hown hK hP 11 rfl rfl 42 (by decide) (hts _ w_cb7d6dd651) (fun _ h9 => h9) rfl d_Model_readInput_30 ?_
      refine lv_iconst (v := 1) hx hb d_Model_readInput_33 (by decide) ?_
      refine lv_iadd hx hb d_Model_readInput_34 ?_
      refine va_put (D := (dC, dI)) (ci := 11) (v := .int ((u3.1 46) + 1)) (ty := .int) hx hb hts i_Model t_Model t_Model_ok n_Model hown hK hP hD hS 11 rfl rfl 42 (by decide) (hts _ w_cb7d6dd651) (fun _ h9 => h9) rfl (by decide +kernel) rfl rfl (Nat.le_of_ble_eq_true rfl) d_Model_readInput_35 (fun H locs hP hD hS => ?_)
      have hP : va_P (dC, dI) vwCl (tcw ad cA (sI u3 46 ((u3.1 46) + 1))) H := hP
      have hD : va_D A (tcw ad cA (sI u3 46 ((u3.1 46) + 1))) := hD
      cases hF
      exact leafV X hP hD hS d_Model_readInput_38
set_option maxHeartbeats 4000000 in
set_option maxRecDepth 100000 in
theorem ct_Model_readInput (l : Launch) (dC : Nat → ClassId) (dI : Nat → Nat → Nat) (ad : Nat → Nat) (cA : Nat → ClassId) (sz : Nat) {σ : St} {σ' : St} (hF : tModel_readInput σ = some σ') : MV l y_Model_readInput b_Model_readInput 1 none { frames := 1, cells := 0, slots := 0, locals := 21 } (dC, dI) (ttys cA) ad (tcw ad cA) [.ref (ad 11)] σ sz σ' := by
  refine startM (own := "TinyForgeModel") (Qc := fun A => QV (dC, dI) (ttys cA) (tcw ad cA) A σ') rfl rfl (Nat.le_of_ble_eq_true rfl) ?_
  intro p e s m below meth c A H locs ls X hP hD hS hl
  have hl : lv_has ls 1 [(0, .ref (ad 11))] := hl
  obtain ⟨hx, hb, hr, hml, hown, hlocks, hts, hA, hK, hZ⟩ := id X
  unfold tModel_readInput at hF
  refine lv_aload_n hx hb d_Model_readInput_0 rfl (lv_at hl 0 rfl) ?_
  refine lv_aload_n hx hb d_Model_readInput_1 rfl (lv_at hl 0 rfl) ?_
  refine va_get (D := (dC, dI)) (ci := 11) (v := .int (σ.1 46)) hx hb hts i_Model hown hK hP 11 rfl rfl 42 (by decide) (hts _ w_cb7d6dd651) (fun _ h9 => h9) rfl d_Model_readInput_2 ?_
  refine lv_aload_n hx hb d_Model_readInput_5 rfl (lv_at hl 0 rfl) ?_
  refine va_get (D := (dC, dI)) (ci := 11) (v := .int (σ.1 45)) hx hb hts i_Model hown hK hP 11 rfl rfl 41 (by decide) (hts _ w_bd13b37505) (fun _ h9 => h9) rfl d_Model_readInput_6 ?_
  refine lv_icmp_ge (tgt := 24) hx hb d_Model_readInput_9 (by decide) (fun c_1 => ?_) (fun c_1 => ?_)
  · have hF := ifp hF c_1
    refine lv_iconst (v := 0) hx hb d_Model_readInput_24 (by decide) ?_
    exact (tModel_readInput_blk l dC dI ad cA X 2000) σ 0 H locs ls hF hP hD hS (lv_sub hl [0] rfl)
  · have hF := ifn hF c_1
    refine lv_aload_n hx hb d_Model_readInput_12 rfl (lv_at hl 0 rfl) ?_
    refine va_get (D := (dC, dI)) (ci := 11) (v := .ref (ad 52)) hx hb hts i_Model hown hK hP 11 rfl rfl 50 (by decide) (hts _ w_87d271541c) (fun _ h9 => h9) rfl d_Model_readInput_13 ?_
    refine lv_aload_n hx hb d_Model_readInput_16 rfl (lv_at hl 0 rfl) ?_
    refine va_get (D := (dC, dI)) (ci := 11) (v := .int (σ.1 46)) hx hb hts i_Model hown hK hP 11 rfl rfl 42 (by decide) (hts _ w_cb7d6dd651) (fun _ h9 => h9) rfl d_Model_readInput_17 ?_
    obtain ⟨g_2, hF⟩ := gdE hF
    refine va_iald (f := (σ.2.2.1 37)) hx hb hK hP 52 0 rfl rfl (inE g_2) d_Model_readInput_20 ?_
    refine lv_goto (tgt := 25) hx hb d_Model_readInput_21 (by decide) ?_
    exact (tModel_readInput_blk l dC dI ad cA X 2000) σ ((σ.2.2.1 37) (σ.1 46).toNatClampNeg) H locs ls hF hP hD hS (lv_sub hl [0] rfl)
theorem d_Model_goOn_0 : decode b_Model_goOn 0 = .ok (.aload_n 0, 1) := by decide +kernel
theorem d_Model_goOn_1 : decode b_Model_goOn 1 = .ok (.getfield 94, 3) := by decide +kernel
theorem d_Model_goOn_4 : decode b_Model_goOn 4 = .ok (.aload_n 0, 1) := by decide +kernel
theorem d_Model_goOn_5 : decode b_Model_goOn 5 = .ok (.getfield 401, 3) := by decide +kernel
theorem d_Model_goOn_8 : decode b_Model_goOn 8 = .ok (.iconst 1, 1) := by decide +kernel
theorem d_Model_goOn_9 : decode b_Model_goOn 9 = .ok (.isub, 1) := by decide +kernel
theorem d_Model_goOn_10 : decode b_Model_goOn 10 = .ok (.iaload, 1) := by decide +kernel
theorem d_Model_goOn_11 : decode b_Model_goOn 11 = .ok (.istore_n 1, 1) := by decide +kernel
theorem d_Model_goOn_12 : decode b_Model_goOn 12 = .ok (.aload_n 0, 1) := by decide +kernel
theorem d_Model_goOn_13 : decode b_Model_goOn 13 = .ok (.getfield 97, 3) := by decide +kernel
theorem d_Model_goOn_16 : decode b_Model_goOn 16 = .ok (.aload_n 0, 1) := by decide +kernel
theorem d_Model_goOn_17 : decode b_Model_goOn 17 = .ok (.getfield 401, 3) := by decide +kernel
theorem d_Model_goOn_20 : decode b_Model_goOn 20 = .ok (.iconst 1, 1) := by decide +kernel
theorem d_Model_goOn_21 : decode b_Model_goOn 21 = .ok (.isub, 1) := by decide +kernel
theorem d_Model_goOn_22 : decode b_Model_goOn 22 = .ok (.iaload, 1) := by decide +kernel
theorem d_Model_goOn_23 : decode b_Model_goOn 23 = .ok (.istore_n 2, 1) := by decide +kernel
theorem d_Model_goOn_24 : decode b_Model_goOn 24 = .ok (.aload_n 0, 1) := by decide +kernel
theorem d_Model_goOn_25 : decode b_Model_goOn 25 = .ok (.getfield 97, 3) := by decide +kernel
theorem d_Model_goOn_28 : decode b_Model_goOn 28 = .ok (.aload_n 0, 1) := by decide +kernel
theorem d_Model_goOn_29 : decode b_Model_goOn 29 = .ok (.getfield 401, 3) := by decide +kernel
theorem d_Model_goOn_32 : decode b_Model_goOn 32 = .ok (.iconst 1, 1) := by decide +kernel
theorem d_Model_goOn_33 : decode b_Model_goOn 33 = .ok (.isub, 1) := by decide +kernel
theorem d_Model_goOn_34 : decode b_Model_goOn 34 = .ok (.dup2, 1) := by decide +kernel
theorem d_Model_goOn_35 : decode b_Model_goOn 35 = .ok (.iaload, 1) := by decide +kernel
theorem d_Model_goOn_36 : decode b_Model_goOn 36 = .ok (.iconst 1, 1) := by decide +kernel
theorem d_Model_goOn_37 : decode b_Model_goOn 37 = .ok (.iadd, 1) := by decide +kernel
theorem d_Model_goOn_38 : decode b_Model_goOn 38 = .ok (.iastore, 1) := by decide +kernel
theorem d_Model_goOn_39 : decode b_Model_goOn 39 = .ok (.aload_n 0, 1) := by decide +kernel
theorem d_Model_goOn_40 : decode b_Model_goOn 40 = .ok (.getfield 30, 3) := by decide +kernel
theorem d_Model_goOn_43 : decode b_Model_goOn 43 = .ok (.iload_n 1, 1) := by decide +kernel
theorem d_Model_goOn_44 : decode b_Model_goOn 44 = .ok (.iaload, 1) := by decide +kernel
theorem d_Model_goOn_45 : decode b_Model_goOn 45 = .ok (.tableswitch 150 1 14 #[71, 84, 91, 150, 119, 150, 150, 150, 150, 128, 150, 150, 150, 141], 71) := by decide +kernel
theorem d_Model_goOn_116 : decode b_Model_goOn 116 = .ok (.aload_n 0, 1) := by decide +kernel
theorem d_Model_goOn_117 : decode b_Model_goOn 117 = .ok (.aload_n 0, 1) := by decide +kernel
theorem d_Model_goOn_118 : decode b_Model_goOn 118 = .ok (.getfield 33, 3) := by decide +kernel
theorem d_Model_goOn_121 : decode b_Model_goOn 121 = .ok (.iload_n 1, 1) := by decide +kernel
theorem d_Model_goOn_122 : decode b_Model_goOn 122 = .ok (.iaload, 1) := by decide +kernel
theorem d_Model_goOn_123 : decode b_Model_goOn 123 = .ok (.invokevirtual 427, 3) := by decide +kernel
theorem d_Model_goOn_126 : decode b_Model_goOn 126 = .ok (.goto 92, 3) := by decide +kernel
theorem d_Model_goOn_129 : decode b_Model_goOn 129 = .ok (.aload_n 0, 1) := by decide +kernel
theorem d_Model_goOn_130 : decode b_Model_goOn 130 = .ok (.invokevirtual 472, 3) := by decide +kernel
theorem d_Model_goOn_133 : decode b_Model_goOn 133 = .ok (.goto 85, 3) := by decide +kernel
theorem d_Model_goOn_136 : decode b_Model_goOn 136 = .ok (.aload_n 0, 1) := by decide +kernel
theorem d_Model_goOn_137 : decode b_Model_goOn 137 = .ok (.aload_n 0, 1) := by decide +kernel
theorem d_Model_goOn_138 : decode b_Model_goOn 138 = .ok (.getfield 91, 3) := by decide +kernel
theorem d_Model_goOn_141 : decode b_Model_goOn 141 = .ok (.bipush 12, 2) := by decide +kernel
theorem d_Model_goOn_143 : decode b_Model_goOn 143 = .ok (.aload_n 0, 1) := by decide +kernel
theorem d_Model_goOn_144 : decode b_Model_goOn 144 = .ok (.getfield 442, 3) := by decide +kernel
theorem d_Model_goOn_147 : decode b_Model_goOn 147 = .ok (.iconst 1, 1) := by decide +kernel
theorem d_Model_goOn_148 : decode b_Model_goOn 148 = .ok (.isub, 1) := by decide +kernel
theorem d_Model_goOn_149 : decode b_Model_goOn 149 = .ok (.imul, 1) := by decide +kernel
theorem d_Model_goOn_150 : decode b_Model_goOn 150 = .ok (.aload_n 0, 1) := by decide +kernel
theorem d_Model_goOn_151 : decode b_Model_goOn 151 = .ok (.getfield 33, 3) := by decide +kernel
theorem d_Model_goOn_154 : decode b_Model_goOn 154 = .ok (.iload_n 1, 1) := by decide +kernel
theorem d_Model_goOn_155 : decode b_Model_goOn 155 = .ok (.iaload, 1) := by decide +kernel
theorem d_Model_goOn_156 : decode b_Model_goOn 156 = .ok (.iadd, 1) := by decide +kernel
theorem d_Model_goOn_157 : decode b_Model_goOn 157 = .ok (.iaload, 1) := by decide +kernel
theorem d_Model_goOn_158 : decode b_Model_goOn 158 = .ok (.invokevirtual 427, 3) := by decide +kernel
theorem d_Model_goOn_161 : decode b_Model_goOn 161 = .ok (.goto 57, 3) := by decide +kernel
theorem d_Model_goOn_164 : decode b_Model_goOn 164 = .ok (.aload_n 0, 1) := by decide +kernel
theorem d_Model_goOn_165 : decode b_Model_goOn 165 = .ok (.iload_n 1, 1) := by decide +kernel
theorem d_Model_goOn_166 : decode b_Model_goOn 166 = .ok (.iload_n 2, 1) := by decide +kernel
theorem d_Model_goOn_167 : decode b_Model_goOn 167 = .ok (.invokevirtual 475, 3) := by decide +kernel
theorem d_Model_goOn_170 : decode b_Model_goOn 170 = .ok (.goto 48, 3) := by decide +kernel
theorem d_Model_goOn_173 : decode b_Model_goOn 173 = .ok (.aload_n 0, 1) := by decide +kernel
theorem d_Model_goOn_174 : decode b_Model_goOn 174 = .ok (.aload_n 0, 1) := by decide +kernel
theorem d_Model_goOn_175 : decode b_Model_goOn 175 = .ok (.iload_n 1, 1) := by decide +kernel
theorem d_Model_goOn_176 : decode b_Model_goOn 176 = .ok (.iload_n 2, 1) := by decide +kernel
theorem d_Model_goOn_177 : decode b_Model_goOn 177 = .ok (.invokevirtual 433, 3) := by decide +kernel
theorem d_Model_goOn_180 : decode b_Model_goOn 180 = .ok (.invokevirtual 448, 3) := by decide +kernel
theorem d_Model_goOn_183 : decode b_Model_goOn 183 = .ok (.goto 35, 3) := by decide +kernel
theorem d_Model_goOn_186 : decode b_Model_goOn 186 = .ok (.aload_n 0, 1) := by decide +kernel
theorem d_Model_goOn_187 : decode b_Model_goOn 187 = .ok (.iload_n 1, 1) := by decide +kernel
theorem d_Model_goOn_188 : decode b_Model_goOn 188 = .ok (.iload_n 2, 1) := by decide +kernel
theorem d_Model_goOn_189 : decode b_Model_goOn 189 = .ok (.invokevirtual 478, 3) := by decide +kernel
theorem d_Model_goOn_192 : decode b_Model_goOn 192 = .ok (.goto 26, 3) := by decide +kernel
theorem d_Model_goOn_195 : decode b_Model_goOn 195 = .ok (.iload_n 2, 1) := by decide +kernel
theorem d_Model_goOn_196 : decode b_Model_goOn 196 = .ok (.ifCond .ne 16, 3) := by decide +kernel
theorem d_Model_goOn_199 : decode b_Model_goOn 199 = .ok (.aload_n 0, 1) := by decide +kernel
theorem d_Model_goOn_200 : decode b_Model_goOn 200 = .ok (.aload_n 0, 1) := by decide +kernel
theorem d_Model_goOn_201 : decode b_Model_goOn 201 = .ok (.getfield 36, 3) := by decide +kernel
theorem d_Model_goOn_204 : decode b_Model_goOn 204 = .ok (.iload_n 1, 1) := by decide +kernel
theorem d_Model_goOn_205 : decode b_Model_goOn 205 = .ok (.iaload, 1) := by decide +kernel
theorem d_Model_goOn_206 : decode b_Model_goOn 206 = .ok (.invokevirtual 418, 3) := by decide +kernel
theorem d_Model_goOn_209 : decode b_Model_goOn 209 = .ok (.goto 9, 3) := by decide +kernel
theorem d_Model_goOn_212 : decode b_Model_goOn 212 = .ok (.aload_n 0, 1) := by decide +kernel
theorem d_Model_goOn_213 : decode b_Model_goOn 213 = .ok (.iload_n 1, 1) := by decide +kernel
theorem d_Model_goOn_214 : decode b_Model_goOn 214 = .ok (.iload_n 2, 1) := by decide +kernel
theorem d_Model_goOn_215 : decode b_Model_goOn 215 = .ok (.invokevirtual 481, 3) := by decide +kernel
theorem d_Model_goOn_218 : decode b_Model_goOn 218 = .ok (.return_, 1) := by decide +kernel
def tModel_goOn (σ : St) : Option (St) := gd (inB ((σ.1 48) - 1) 1600) (gd (inB ((σ.1 48) - 1) 1600) (gd (inB ((σ.1 48) - 1) 1600) (gd (inB ((σ.1 48) - 1) 1600) (gd (inB ((σ.2.2.1 41) ((σ.1 48) - 1).toNatClampNeg) 500) (if ((σ.2.2.1 20) ((σ.2.2.1 41) ((σ.1 48) - 1).toNatClampNeg).toNatClampNeg) = 1 then gd (inB ((σ.2.2.1 41) ((σ.1 48) - 1).toNatClampNeg) 500) (b1 (tModel_hand (sA σ 42 (upd (σ.2.2.1 42) ((σ.1 48) - 1).toNatClampNeg (((σ.2.2.1 42) ((σ.1 48) - 1).toNatClampNeg) + 1))) ((σ.2.2.1 21) ((σ.2.2.1 41) ((σ.1 48) - 1).toNatClampNeg).toNatClampNeg)) (fun u8 => some u8)) else if ((σ.2.2.1 20) ((σ.2.2.1 41) ((σ.1 48) - 1).toNatClampNeg).toNatClampNeg) = 2 then b1 (tModel_readInput (sA σ 42 (upd (σ.2.2.1 42) ((σ.1 48) - 1).toNatClampNeg (((σ.2.2.1 42) ((σ.1 48) - 1).toNatClampNeg) + 1)))) (fun u10 => some u10) else if ((σ.2.2.1 20) ((σ.2.2.1 41) ((σ.1 48) - 1).toNatClampNeg).toNatClampNeg) = 3 then gd (inB ((σ.2.2.1 41) ((σ.1 48) - 1).toNatClampNeg) 500) (gd (inB ((12 * ((σ.1 50) - 1)) + ((σ.2.2.1 21) ((σ.2.2.1 41) ((σ.1 48) - 1).toNatClampNeg).toNatClampNeg)) 156) (b1 (tModel_hand (sA σ 42 (upd (σ.2.2.1 42) ((σ.1 48) - 1).toNatClampNeg (((σ.2.2.1 42) ((σ.1 48) - 1).toNatClampNeg) + 1))) ((σ.2.2.1 40) ((12 * ((σ.1 50) - 1)) + ((σ.2.2.1 21) ((σ.2.2.1 41) ((σ.1 48) - 1).toNatClampNeg).toNatClampNeg)).toNatClampNeg)) (fun u14 => some u14))) else if ((σ.2.2.1 20) ((σ.2.2.1 41) ((σ.1 48) - 1).toNatClampNeg).toNatClampNeg) = 4 then if ((σ.2.2.1 42) ((σ.1 48) - 1).toNatClampNeg) = 0 then gd (inB ((σ.2.2.1 41) ((σ.1 48) - 1).toNatClampNeg) 500) (b1 (tModel_start (sA σ 42 (upd (σ.2.2.1 42) ((σ.1 48) - 1).toNatClampNeg (((σ.2.2.1 42) ((σ.1 48) - 1).toNatClampNeg) + 1))) ((σ.2.2.1 22) ((σ.2.2.1 41) ((σ.1 48) - 1).toNatClampNeg).toNatClampNeg)) (fun u19 => some u19)) else b1 (tModel_behindFirst (sA σ 42 (upd (σ.2.2.1 42) ((σ.1 48) - 1).toNatClampNeg (((σ.2.2.1 42) ((σ.1 48) - 1).toNatClampNeg) + 1))) ((σ.2.2.1 41) ((σ.1 48) - 1).toNatClampNeg) ((σ.2.2.1 42) ((σ.1 48) - 1).toNatClampNeg)) (fun u17 => some u17) else if ((σ.2.2.1 20) ((σ.2.2.1 41) ((σ.1 48) - 1).toNatClampNeg).toNatClampNeg) = 5 then b1 (tModel_call (sA σ 42 (upd (σ.2.2.1 42) ((σ.1 48) - 1).toNatClampNeg (((σ.2.2.1 42) ((σ.1 48) - 1).toNatClampNeg) + 1))) ((σ.2.2.1 41) ((σ.1 48) - 1).toNatClampNeg) ((σ.2.2.1 42) ((σ.1 48) - 1).toNatClampNeg)) (fun u21 => some u21) else if ((σ.2.2.1 20) ((σ.2.2.1 41) ((σ.1 48) - 1).toNatClampNeg).toNatClampNeg) = 6 then if ((σ.2.2.1 42) ((σ.1 48) - 1).toNatClampNeg) = 0 then gd (inB ((σ.2.2.1 41) ((σ.1 48) - 1).toNatClampNeg) 500) (b1 (tModel_start (sA σ 42 (upd (σ.2.2.1 42) ((σ.1 48) - 1).toNatClampNeg (((σ.2.2.1 42) ((σ.1 48) - 1).toNatClampNeg) + 1))) ((σ.2.2.1 22) ((σ.2.2.1 41) ((σ.1 48) - 1).toNatClampNeg).toNatClampNeg)) (fun u26 => some u26)) else b1 (tModel_behindFirst (sA σ 42 (upd (σ.2.2.1 42) ((σ.1 48) - 1).toNatClampNeg (((σ.2.2.1 42) ((σ.1 48) - 1).toNatClampNeg) + 1))) ((σ.2.2.1 41) ((σ.1 48) - 1).toNatClampNeg) ((σ.2.2.1 42) ((σ.1 48) - 1).toNatClampNeg)) (fun u24 => some u24) else if ((σ.2.2.1 20) ((σ.2.2.1 41) ((σ.1 48) - 1).toNatClampNeg).toNatClampNeg) = 7 then if ((σ.2.2.1 42) ((σ.1 48) - 1).toNatClampNeg) = 0 then gd (inB ((σ.2.2.1 41) ((σ.1 48) - 1).toNatClampNeg) 500) (b1 (tModel_start (sA σ 42 (upd (σ.2.2.1 42) ((σ.1 48) - 1).toNatClampNeg (((σ.2.2.1 42) ((σ.1 48) - 1).toNatClampNeg) + 1))) ((σ.2.2.1 22) ((σ.2.2.1 41) ((σ.1 48) - 1).toNatClampNeg).toNatClampNeg)) (fun u31 => some u31)) else b1 (tModel_behindFirst (sA σ 42 (upd (σ.2.2.1 42) ((σ.1 48) - 1).toNatClampNeg (((σ.2.2.1 42) ((σ.1 48) - 1).toNatClampNeg) + 1))) ((σ.2.2.1 41) ((σ.1 48) - 1).toNatClampNeg) ((σ.2.2.1 42) ((σ.1 48) - 1).toNatClampNeg)) (fun u29 => some u29) else if ((σ.2.2.1 20) ((σ.2.2.1 41) ((σ.1 48) - 1).toNatClampNeg).toNatClampNeg) = 8 then if ((σ.2.2.1 42) ((σ.1 48) - 1).toNatClampNeg) = 0 then gd (inB ((σ.2.2.1 41) ((σ.1 48) - 1).toNatClampNeg) 500) (b1 (tModel_start (sA σ 42 (upd (σ.2.2.1 42) ((σ.1 48) - 1).toNatClampNeg (((σ.2.2.1 42) ((σ.1 48) - 1).toNatClampNeg) + 1))) ((σ.2.2.1 22) ((σ.2.2.1 41) ((σ.1 48) - 1).toNatClampNeg).toNatClampNeg)) (fun u36 => some u36)) else b1 (tModel_behindFirst (sA σ 42 (upd (σ.2.2.1 42) ((σ.1 48) - 1).toNatClampNeg (((σ.2.2.1 42) ((σ.1 48) - 1).toNatClampNeg) + 1))) ((σ.2.2.1 41) ((σ.1 48) - 1).toNatClampNeg) ((σ.2.2.1 42) ((σ.1 48) - 1).toNatClampNeg)) (fun u34 => some u34) else if ((σ.2.2.1 20) ((σ.2.2.1 41) ((σ.1 48) - 1).toNatClampNeg).toNatClampNeg) = 9 then if ((σ.2.2.1 42) ((σ.1 48) - 1).toNatClampNeg) = 0 then gd (inB ((σ.2.2.1 41) ((σ.1 48) - 1).toNatClampNeg) 500) (b1 (tModel_start (sA σ 42 (upd (σ.2.2.1 42) ((σ.1 48) - 1).toNatClampNeg (((σ.2.2.1 42) ((σ.1 48) - 1).toNatClampNeg) + 1))) ((σ.2.2.1 22) ((σ.2.2.1 41) ((σ.1 48) - 1).toNatClampNeg).toNatClampNeg)) (fun u41 => some u41)) else b1 (tModel_behindFirst (sA σ 42 (upd (σ.2.2.1 42) ((σ.1 48) - 1).toNatClampNeg (((σ.2.2.1 42) ((σ.1 48) - 1).toNatClampNeg) + 1))) ((σ.2.2.1 41) ((σ.1 48) - 1).toNatClampNeg) ((σ.2.2.1 42) ((σ.1 48) - 1).toNatClampNeg)) (fun u39 => some u39) else if ((σ.2.2.1 20) ((σ.2.2.1 41) ((σ.1 48) - 1).toNatClampNeg).toNatClampNeg) = 10 then b1 (tModel_partAt (sA σ 42 (upd (σ.2.2.1 42) ((σ.1 48) - 1).toNatClampNeg (((σ.2.2.1 42) ((σ.1 48) - 1).toNatClampNeg) + 1))) ((σ.2.2.1 41) ((σ.1 48) - 1).toNatClampNeg) ((σ.2.2.1 42) ((σ.1 48) - 1).toNatClampNeg)) (fun r43 => b1 (tModel_startOr (sA σ 42 (upd (σ.2.2.1 42) ((σ.1 48) - 1).toNatClampNeg (((σ.2.2.1 42) ((σ.1 48) - 1).toNatClampNeg) + 1))) r43) (fun u44 => some u44)) else if ((σ.2.2.1 20) ((σ.2.2.1 41) ((σ.1 48) - 1).toNatClampNeg).toNatClampNeg) = 11 then if ((σ.2.2.1 42) ((σ.1 48) - 1).toNatClampNeg) = 0 then gd (inB ((σ.2.2.1 41) ((σ.1 48) - 1).toNatClampNeg) 500) (b1 (tModel_start (sA σ 42 (upd (σ.2.2.1 42) ((σ.1 48) - 1).toNatClampNeg (((σ.2.2.1 42) ((σ.1 48) - 1).toNatClampNeg) + 1))) ((σ.2.2.1 22) ((σ.2.2.1 41) ((σ.1 48) - 1).toNatClampNeg).toNatClampNeg)) (fun u49 => some u49)) else b1 (tModel_behindFirst (sA σ 42 (upd (σ.2.2.1 42) ((σ.1 48) - 1).toNatClampNeg (((σ.2.2.1 42) ((σ.1 48) - 1).toNatClampNeg) + 1))) ((σ.2.2.1 41) ((σ.1 48) - 1).toNatClampNeg) ((σ.2.2.1 42) ((σ.1 48) - 1).toNatClampNeg)) (fun u47 => some u47) else if ((σ.2.2.1 20) ((σ.2.2.1 41) ((σ.1 48) - 1).toNatClampNeg).toNatClampNeg) = 12 then if ((σ.2.2.1 42) ((σ.1 48) - 1).toNatClampNeg) = 0 then gd (inB ((σ.2.2.1 41) ((σ.1 48) - 1).toNatClampNeg) 500) (b1 (tModel_start (sA σ 42 (upd (σ.2.2.1 42) ((σ.1 48) - 1).toNatClampNeg (((σ.2.2.1 42) ((σ.1 48) - 1).toNatClampNeg) + 1))) ((σ.2.2.1 22) ((σ.2.2.1 41) ((σ.1 48) - 1).toNatClampNeg).toNatClampNeg)) (fun u54 => some u54)) else b1 (tModel_behindFirst (sA σ 42 (upd (σ.2.2.1 42) ((σ.1 48) - 1).toNatClampNeg (((σ.2.2.1 42) ((σ.1 48) - 1).toNatClampNeg) + 1))) ((σ.2.2.1 41) ((σ.1 48) - 1).toNatClampNeg) ((σ.2.2.1 42) ((σ.1 48) - 1).toNatClampNeg)) (fun u52 => some u52) else if ((σ.2.2.1 20) ((σ.2.2.1 41) ((σ.1 48) - 1).toNatClampNeg).toNatClampNeg) = 13 then if ((σ.2.2.1 42) ((σ.1 48) - 1).toNatClampNeg) = 0 then gd (inB ((σ.2.2.1 41) ((σ.1 48) - 1).toNatClampNeg) 500) (b1 (tModel_start (sA σ 42 (upd (σ.2.2.1 42) ((σ.1 48) - 1).toNatClampNeg (((σ.2.2.1 42) ((σ.1 48) - 1).toNatClampNeg) + 1))) ((σ.2.2.1 22) ((σ.2.2.1 41) ((σ.1 48) - 1).toNatClampNeg).toNatClampNeg)) (fun u59 => some u59)) else b1 (tModel_behindFirst (sA σ 42 (upd (σ.2.2.1 42) ((σ.1 48) - 1).toNatClampNeg (((σ.2.2.1 42) ((σ.1 48) - 1).toNatClampNeg) + 1))) ((σ.2.2.1 41) ((σ.1 48) - 1).toNatClampNeg) ((σ.2.2.1 42) ((σ.1 48) - 1).toNatClampNeg)) (fun u57 => some u57) else if ((σ.2.2.1 20) ((σ.2.2.1 41) ((σ.1 48) - 1).toNatClampNeg).toNatClampNeg) = 14 then b1 (tModel_loop (sA σ 42 (upd (σ.2.2.1 42) ((σ.1 48) - 1).toNatClampNeg (((σ.2.2.1 42) ((σ.1 48) - 1).toNatClampNeg) + 1))) ((σ.2.2.1 41) ((σ.1 48) - 1).toNatClampNeg) ((σ.2.2.1 42) ((σ.1 48) - 1).toNatClampNeg)) (fun u61 => some u61) else if ((σ.2.2.1 42) ((σ.1 48) - 1).toNatClampNeg) = 0 then gd (inB ((σ.2.2.1 41) ((σ.1 48) - 1).toNatClampNeg) 500) (b1 (tModel_start (sA σ 42 (upd (σ.2.2.1 42) ((σ.1 48) - 1).toNatClampNeg (((σ.2.2.1 42) ((σ.1 48) - 1).toNatClampNeg) + 1))) ((σ.2.2.1 22) ((σ.2.2.1 41) ((σ.1 48) - 1).toNatClampNeg).toNatClampNeg)) (fun u65 => some u65)) else b1 (tModel_behindFirst (sA σ 42 (upd (σ.2.2.1 42) ((σ.1 48) - 1).toNatClampNeg (((σ.2.2.1 42) ((σ.1 48) - 1).toNatClampNeg) + 1))) ((σ.2.2.1 41) ((σ.1 48) - 1).toNatClampNeg) ((σ.2.2.1 42) ((σ.1 48) - 1).toNatClampNeg)) (fun u63 => some u63))))))
set_option maxHeartbeats 4000000 in
set_option maxRecDepth 100000 in
theorem ct_Model_goOn (l : Launch) (dC : Nat → ClassId) (dI : Nat → Nat → Nat) (ad : Nat → Nat) (cA : Nat → ClassId) (sz : Nat) {σ : St} {σ' : St} (hF : tModel_goOn σ = some σ') : MV l y_Model_goOn b_Model_goOn 3 none { frames := 5, cells := 0, slots := 0, locals := 111 } (dC, dI) (ttys cA) ad (tcw ad cA) [.ref (ad 11)] σ sz σ' := by
  refine startM (own := "TinyForgeModel") (Qc := fun A => QV (dC, dI) (ttys cA) (tcw ad cA) A σ') rfl rfl (Nat.le_of_ble_eq_true rfl) ?_
  intro p e s m below meth c A H locs ls X hP hD hS hl
  have hl : lv_has ls 3 [(0, .ref (ad 11))] := hl
  obtain ⟨hx, hb, hr, hml, hown, hlocks, hts, hA, hK, hZ⟩ := id X
  unfold tModel_goOn at hF
  refine lv_aload_n hx hb d_Model_goOn_0 rfl (lv_at hl 0 rfl) ?_
  refine va_get (D := (dC, dI)) (ci := 11) (v := .ref (ad 56)) hx hb hts i_Model hown hK hP 11 rfl rfl 54 (by decide) (hts _ w_9e90833517) (fun _ h9 => h9) rfl d_Model_goOn_1 ?_
  refine lv_aload_n hx hb d_Model_goOn_4 rfl (lv_at hl 0 rfl) ?_
  refine va_get (D := (dC, dI)) (ci := 11) (v := .int (σ.1 48)) hx hb hts i_Model hown hK hP 11 rfl rfl 44 (by decide) (hts _ w_0f4138ce03) (fun _ h9 => h9) rfl d_Model_goOn_5 ?_
  refine lv_iconst (v := 1) hx hb d_Model_goOn_8 (by decide) ?_
  refine lv_isub hx hb d_Model_goOn_9 ?_
  obtain ⟨g_1, hF⟩ := gdE hF
  refine va_iald (f := (σ.2.2.1 41)) hx hb hK hP 56 0 rfl rfl (inE g_1) d_Model_goOn_10 ?_
  refine lv_istore_n (lv' := [(1, .int ((σ.2.2.1 41) ((σ.1 48) - 1).toNatClampNeg)), (0, .ref (ad 11))]) hx hb d_Model_goOn_11 rfl hl (by decide) rfl (fun ls hl => ?_)
  refine lv_aload_n hx hb d_Model_goOn_12 rfl (lv_at hl 1 rfl) ?_
  refine va_get (D := (dC, dI)) (ci := 11) (v := .ref (ad 57)) hx hb hts i_Model hown hK hP 11 rfl rfl 55 (by decide) (hts _ w_1fb9835bec) (fun _ h9 => h9) rfl d_Model_goOn_13 ?_
  refine lv_aload_n hx hb d_Model_goOn_16 rfl (lv_at hl 1 rfl) ?_
  refine va_get (D := (dC, dI)) (ci := 11) (v := .int (σ.1 48)) hx hb hts i_Model hown hK hP 11 rfl rfl 44 (by decide) (hts _ w_0f4138ce03) (fun _ h9 => h9) rfl d_Model_goOn_17 ?_
  refine lv_iconst (v := 1) hx hb d_Model_goOn_20 (by decide) ?_
  refine lv_isub hx hb d_Model_goOn_21 ?_
  obtain ⟨g_2, hF⟩ := gdE hF
  refine va_iald (f := (σ.2.2.1 42)) hx hb hK hP 57 0 rfl rfl (inE g_2) d_Model_goOn_22 ?_
  refine lv_istore_n (lv' := [(2, .int ((σ.2.2.1 42) ((σ.1 48) - 1).toNatClampNeg)), (1, .int ((σ.2.2.1 41) ((σ.1 48) - 1).toNatClampNeg)), (0, .ref (ad 11))]) hx hb d_Model_goOn_23 rfl hl (by decide) rfl (fun ls hl => ?_)
  refine lv_aload_n hx hb d_Model_goOn_24 rfl (lv_at hl 2 rfl) ?_
  refine va_get (D := (dC, dI)) (ci := 11) (v := .ref (ad 57)) hx hb hts i_Model hown hK hP 11 rfl rfl 55 (by decide) (hts _ w_1fb9835bec) (fun _ h9 => h9) rfl d_Model_goOn_25 ?_
  refine lv_aload_n hx hb d_Model_goOn_28 rfl (lv_at hl 2 rfl) ?_
  refine va_get (D := (dC, dI)) (ci := 11) (v := .int (σ.1 48)) hx hb hts i_Model hown hK hP 11 rfl rfl 44 (by decide) (hts _ w_0f4138ce03) (fun _ h9 => h9) rfl d_Model_goOn_29 ?_
  refine lv_iconst (v := 1) hx hb d_Model_goOn_32 (by decide) ?_
  refine lv_isub hx hb d_Model_goOn_33 ?_
  refine lv_dup2_11 hx hb d_Model_goOn_34 rfl rfl ?_
  obtain ⟨g_3, hF⟩ := gdE hF
  refine va_iald (f := (σ.2.2.1 42)) hx hb hK hP 57 0 rfl rfl (inE g_3) d_Model_goOn_35 ?_
  refine lv_iconst (v := 1) hx hb d_Model_goOn_36 (by decide) ?_
  refine lv_iadd hx hb d_Model_goOn_37 ?_
  obtain ⟨g_4, hF⟩ := gdE hF
  refine va_iast (f := (σ.2.2.1 42)) hx hb hK hP hD hS 57 0 rfl rfl (inE g_4) d_Model_goOn_38 (fun H locs hP hD hS => ?_)
  have hP : va_P (dC, dI) vwCl (tcw ad cA (sA σ 42 (upd (σ.2.2.1 42) ((σ.1 48) - 1).toNatClampNeg (((σ.2.2.1 42) ((σ.1 48) - 1).toNatClampNeg) + 1)))) H := hP
  have hD : va_D A (tcw ad cA (sA σ 42 (upd (σ.2.2.1 42) ((σ.1 48) - 1).toNatClampNeg (((σ.2.2.1 42) ((σ.1 48) - 1).toNatClampNeg) + 1)))) := hD
  refine lv_aload_n hx hb d_Model_goOn_39 rfl (lv_at hl 2 rfl) ?_
  refine va_get (D := (dC, dI)) (ci := 11) (v := .ref (ad 35)) hx hb hts i_Model hown hK hP 11 rfl rfl 14 (by decide) (hts _ w_0e6df3fb4c) (fun _ h9 => h9) rfl d_Model_goOn_40 ?_
  refine lv_iload_n hx hb d_Model_goOn_43 rfl (lv_at hl 1 rfl) ?_
  obtain ⟨g_5, hF⟩ := gdE hF
  refine va_iald (f := (σ.2.2.1 20)) hx hb hK hP 35 0 rfl rfl (inE g_5) d_Model_goOn_44 ?_
  by_cases c_6 : ((σ.2.2.1 20) ((σ.2.2.1 41) ((σ.1 48) - 1).toNatClampNeg).toNatClampNeg) = 1
  · have hF := ifp hF c_6
    refine lv_tableIn (tgt := 116) (off := 71) hx hb d_Model_goOn_45 (by rw [c_6]; decide) (by rw [c_6]; decide) (by rw [c_6]; rfl) (by decide) ?_
    refine lv_aload_n hx hb d_Model_goOn_116 rfl (lv_at hl 2 rfl) ?_
    refine lv_aload_n hx hb d_Model_goOn_117 rfl (lv_at hl 2 rfl) ?_
    refine va_get (D := (dC, dI)) (ci := 11) (v := .ref (ad 36)) hx hb hts i_Model hown hK hP 11 rfl rfl 15 (by decide) (hts _ w_70f5434828) (fun _ h9 => h9) rfl d_Model_goOn_118 ?_
    refine lv_iload_n hx hb d_Model_goOn_121 rfl (lv_at hl 1 rfl) ?_
    obtain ⟨g_7, hF⟩ := gdE hF
    refine va_iald (f := (σ.2.2.1 21)) hx hb hK hP 36 0 rfl rfl (inE g_7) d_Model_goOn_122 ?_
    obtain ⟨u8, h8, hF⟩ := b1E hF
    refine callVV (As := [.int ((σ.2.2.1 21) ((σ.2.2.1 41) ((σ.1 48) - 1).toNatClampNeg).toNatClampNeg)]) X (ct_Model_hand l dC dI ad cA H.size h8) lk_Model_427 ⟨rfl, rfl, by decide, by decide⟩ 11 rfl rfl hP hD hS hl.1 rfl rfl (Nat.le_of_ble_eq_true rfl) d_Model_goOn_123 (fun H locs hP hD hS => ?_)
    refine lv_goto (tgt := 218) hx hb d_Model_goOn_126 (by decide) ?_
    cases hF
    exact leafV X hP hD hS d_Model_goOn_218
  · have hF := ifn hF c_6
    by_cases c_9 : ((σ.2.2.1 20) ((σ.2.2.1 41) ((σ.1 48) - 1).toNatClampNeg).toNatClampNeg) = 2
    · have hF := ifp hF c_9
      refine lv_tableIn (tgt := 129) (off := 84) hx hb d_Model_goOn_45 (by rw [c_9]; decide) (by rw [c_9]; decide) (by rw [c_9]; rfl) (by decide) ?_
      refine lv_aload_n hx hb d_Model_goOn_129 rfl (lv_at hl 2 rfl) ?_
      obtain ⟨u10, h10, hF⟩ := b1E hF
      refine callVV (As := []) X (ct_Model_readInput l dC dI ad cA H.size h10) lk_Model_472 ⟨rfl, rfl, by decide, by decide⟩ 11 rfl rfl hP hD hS hl.1 rfl rfl (Nat.le_of_ble_eq_true rfl) d_Model_goOn_130 (fun H locs hP hD hS => ?_)
      refine lv_goto (tgt := 218) hx hb d_Model_goOn_133 (by decide) ?_
      cases hF
      exact leafV X hP hD hS d_Model_goOn_218
    · have hF := ifn hF c_9
      by_cases c_11 : ((σ.2.2.1 20) ((σ.2.2.1 41) ((σ.1 48) - 1).toNatClampNeg).toNatClampNeg) = 3
      · have hF := ifp hF c_11
        refine lv_tableIn (tgt := 136) (off := 91) hx hb d_Model_goOn_45 (by rw [c_11]; decide) (by rw [c_11]; decide) (by rw [c_11]; rfl) (by decide) ?_
        refine lv_aload_n hx hb d_Model_goOn_136 rfl (lv_at hl 2 rfl) ?_
        refine lv_aload_n hx hb d_Model_goOn_137 rfl (lv_at hl 2 rfl) ?_
        refine va_get (D := (dC, dI)) (ci := 11) (v := .ref (ad 55)) hx hb hts i_Model hown hK hP 11 rfl rfl 53 (by decide) (hts _ w_5a5d41179b) (fun _ h9 => h9) rfl d_Model_goOn_138 ?_
        refine lv_bipush (v := 12) hx hb d_Model_goOn_141 (by decide) ?_
        refine lv_aload_n hx hb d_Model_goOn_143 rfl (lv_at hl 2 rfl) ?_
        refine va_get (D := (dC, dI)) (ci := 11) (v := .int (σ.1 50)) hx hb hts i_Model hown hK hP 11 rfl rfl 46 (by decide) (hts _ w_bff6745645) (fun _ h9 => h9) rfl d_Model_goOn_144 ?_
        refine lv_iconst (v := 1) hx hb d_Model_goOn_147 (by decide) ?_
        refine lv_isub hx hb d_Model_goOn_148 ?_
        refine lv_imul hx hb d_Model_goOn_149 ?_
        refine lv_aload_n hx hb d_Model_goOn_150 rfl (lv_at hl 2 rfl) ?_
        refine va_get (D := (dC, dI)) (ci := 11) (v := .ref (ad 36)) hx hb hts i_Model hown hK hP 11 rfl rfl 15 (by decide) (hts _ w_70f5434828) (fun _ h9 => h9) rfl d_Model_goOn_151 ?_
        refine lv_iload_n hx hb d_Model_goOn_154 rfl (lv_at hl 1 rfl) ?_
        obtain ⟨g_12, hF⟩ := gdE hF
        refine va_iald (f := (σ.2.2.1 21)) hx hb hK hP 36 0 rfl rfl (inE g_12) d_Model_goOn_155 ?_
        refine lv_iadd hx hb d_Model_goOn_156 ?_
        obtain ⟨g_13, hF⟩ := gdE hF
        refine va_iald (f := (σ.2.2.1 40)) hx hb hK hP 55 0 rfl rfl (inE g_13) d_Model_goOn_157 ?_
        obtain ⟨u14, h14, hF⟩ := b1E hF
        refine callVV (As := [.int ((σ.2.2.1 40) ((12 * ((σ.1 50) - 1)) + ((σ.2.2.1 21) ((σ.2.2.1 41) ((σ.1 48) - 1).toNatClampNeg).toNatClampNeg)).toNatClampNeg)]) X (ct_Model_hand l dC dI ad cA H.size h14) lk_Model_427 ⟨rfl, rfl, by decide, by decide⟩ 11 rfl rfl hP hD hS hl.1 rfl rfl (Nat.le_of_ble_eq_true rfl) d_Model_goOn_158 (fun H locs hP hD hS => ?_)
        refine lv_goto (tgt := 218) hx hb d_Model_goOn_161 (by decide) ?_
        cases hF
        exact leafV X hP hD hS d_Model_goOn_218
      · have hF := ifn hF c_11
        by_cases c_15 : ((σ.2.2.1 20) ((σ.2.2.1 41) ((σ.1 48) - 1).toNatClampNeg).toNatClampNeg) = 4
        · have hF := ifp hF c_15
          refine lv_tableIn (tgt := 195) (off := 150) hx hb d_Model_goOn_45 (by rw [c_15]; decide) (by rw [c_15]; decide) (by rw [c_15]; rfl) (by decide) ?_
          refine lv_iload_n hx hb d_Model_goOn_195 rfl (lv_at hl 0 rfl) ?_
          refine lv_if_ne (tgt := 212) hx hb d_Model_goOn_196 (by decide) (fun c_16 => ?_) (fun c_16 => ?_)
          · have hF := ifn hF c_16
            refine lv_aload_n hx hb d_Model_goOn_212 rfl (lv_at hl 2 rfl) ?_
            refine lv_iload_n hx hb d_Model_goOn_213 rfl (lv_at hl 1 rfl) ?_
            refine lv_iload_n hx hb d_Model_goOn_214 rfl (lv_at hl 0 rfl) ?_
            obtain ⟨u17, h17, hF⟩ := b1E hF
            refine callVV (As := [.int ((σ.2.2.1 41) ((σ.1 48) - 1).toNatClampNeg), .int ((σ.2.2.1 42) ((σ.1 48) - 1).toNatClampNeg)]) X (ct_Model_behindFirst l dC dI ad cA H.size h17) lk_Model_481 ⟨rfl, rfl, by decide, by decide⟩ 11 rfl rfl hP hD hS hl.1 rfl rfl (Nat.le_of_ble_eq_true rfl) d_Model_goOn_215 (fun H locs hP hD hS => ?_)
            cases hF
            exact leafV X hP hD hS d_Model_goOn_218
          · have hF := ifp hF c_16
            refine lv_aload_n hx hb d_Model_goOn_199 rfl (lv_at hl 2 rfl) ?_
            refine lv_aload_n hx hb d_Model_goOn_200 rfl (lv_at hl 2 rfl) ?_
            refine va_get (D := (dC, dI)) (ci := 11) (v := .ref (ad 37)) hx hb hts i_Model hown hK hP 11 rfl rfl 16 (by decide) (hts _ w_b1c1a5a9de) (fun _ h9 => h9) rfl d_Model_goOn_201 ?_
            refine lv_iload_n hx hb d_Model_goOn_204 rfl (lv_at hl 1 rfl) ?_
            obtain ⟨g_18, hF⟩ := gdE hF
            refine va_iald (f := (σ.2.2.1 22)) hx hb hK hP 37 0 rfl rfl (inE g_18) d_Model_goOn_205 ?_
            obtain ⟨u19, h19, hF⟩ := b1E hF
            refine callVV (As := [.int ((σ.2.2.1 22) ((σ.2.2.1 41) ((σ.1 48) - 1).toNatClampNeg).toNatClampNeg)]) X (ct_Model_start l dC dI ad cA H.size h19) lk_Model_418 ⟨rfl, rfl, by decide, by decide⟩ 11 rfl rfl hP hD hS hl.1 rfl rfl (Nat.le_of_ble_eq_true rfl) d_Model_goOn_206 (fun H locs hP hD hS => ?_)
            refine lv_goto (tgt := 218) hx hb d_Model_goOn_209 (by decide) ?_
            cases hF
            exact leafV X hP hD hS d_Model_goOn_218
        · have hF := ifn hF c_15
          by_cases c_20 : ((σ.2.2.1 20) ((σ.2.2.1 41) ((σ.1 48) - 1).toNatClampNeg).toNatClampNeg) = 5
          · have hF := ifp hF c_20
            refine lv_tableIn (tgt := 164) (off := 119) hx hb d_Model_goOn_45 (by rw [c_20]; decide) (by rw [c_20]; decide) (by rw [c_20]; rfl) (by decide) ?_
            refine lv_aload_n hx hb d_Model_goOn_164 rfl (lv_at hl 2 rfl) ?_
            refine lv_iload_n hx hb d_Model_goOn_165 rfl (lv_at hl 1 rfl) ?_
            refine lv_iload_n hx hb d_Model_goOn_166 rfl (lv_at hl 0 rfl) ?_
            obtain ⟨u21, h21, hF⟩ := b1E hF
            refine callVV (As := [.int ((σ.2.2.1 41) ((σ.1 48) - 1).toNatClampNeg), .int ((σ.2.2.1 42) ((σ.1 48) - 1).toNatClampNeg)]) X (ct_Model_call l dC dI ad cA H.size h21) lk_Model_475 ⟨rfl, rfl, by decide, by decide⟩ 11 rfl rfl hP hD hS hl.1 rfl rfl (Nat.le_of_ble_eq_true rfl) d_Model_goOn_167 (fun H locs hP hD hS => ?_)
            refine lv_goto (tgt := 218) hx hb d_Model_goOn_170 (by decide) ?_
            cases hF
            exact leafV X hP hD hS d_Model_goOn_218
          · have hF := ifn hF c_20
            by_cases c_22 : ((σ.2.2.1 20) ((σ.2.2.1 41) ((σ.1 48) - 1).toNatClampNeg).toNatClampNeg) = 6
            · have hF := ifp hF c_22
              refine lv_tableIn (tgt := 195) (off := 150) hx hb d_Model_goOn_45 (by rw [c_22]; decide) (by rw [c_22]; decide) (by rw [c_22]; rfl) (by decide) ?_
              refine lv_iload_n hx hb d_Model_goOn_195 rfl (lv_at hl 0 rfl) ?_
              refine lv_if_ne (tgt := 212) hx hb d_Model_goOn_196 (by decide) (fun c_23 => ?_) (fun c_23 => ?_)
              · have hF := ifn hF c_23
                refine lv_aload_n hx hb d_Model_goOn_212 rfl (lv_at hl 2 rfl) ?_
                refine lv_iload_n hx hb d_Model_goOn_213 rfl (lv_at hl 1 rfl) ?_
                refine lv_iload_n hx hb d_Model_goOn_214 rfl (lv_at hl 0 rfl) ?_
                obtain ⟨u24, h24, hF⟩ := b1E hF
                refine callVV (As := [.int ((σ.2.2.1 41) ((σ.1 48) - 1).toNatClampNeg), .int ((σ.2.2.1 42) ((σ.1 48) - 1).toNatClampNeg)]) X (ct_Model_behindFirst l dC dI ad cA H.size h24) lk_Model_481 ⟨rfl, rfl, by decide, by decide⟩ 11 rfl rfl hP hD hS hl.1 rfl rfl (Nat.le_of_ble_eq_true rfl) d_Model_goOn_215 (fun H locs hP hD hS => ?_)
                cases hF
                exact leafV X hP hD hS d_Model_goOn_218
              · have hF := ifp hF c_23
                refine lv_aload_n hx hb d_Model_goOn_199 rfl (lv_at hl 2 rfl) ?_
                refine lv_aload_n hx hb d_Model_goOn_200 rfl (lv_at hl 2 rfl) ?_
                refine va_get (D := (dC, dI)) (ci := 11) (v := .ref (ad 37)) hx hb hts i_Model hown hK hP 11 rfl rfl 16 (by decide) (hts _ w_b1c1a5a9de) (fun _ h9 => h9) rfl d_Model_goOn_201 ?_
                refine lv_iload_n hx hb d_Model_goOn_204 rfl (lv_at hl 1 rfl) ?_
                obtain ⟨g_25, hF⟩ := gdE hF
                refine va_iald (f := (σ.2.2.1 22)) hx hb hK hP 37 0 rfl rfl (inE g_25) d_Model_goOn_205 ?_
                obtain ⟨u26, h26, hF⟩ := b1E hF
                refine callVV (As := [.int ((σ.2.2.1 22) ((σ.2.2.1 41) ((σ.1 48) - 1).toNatClampNeg).toNatClampNeg)]) X (ct_Model_start l dC dI ad cA H.size h26) lk_Model_418 ⟨rfl, rfl, by decide, by decide⟩ 11 rfl rfl hP hD hS hl.1 rfl rfl (Nat.le_of_ble_eq_true rfl) d_Model_goOn_206 (fun H locs hP hD hS => ?_)
                refine lv_goto (tgt := 218) hx hb d_Model_goOn_209 (by decide) ?_
                cases hF
                exact leafV X hP hD hS d_Model_goOn_218
            · have hF := ifn hF c_22
              by_cases c_27 : ((σ.2.2.1 20) ((σ.2.2.1 41) ((σ.1 48) - 1).toNatClampNeg).toNatClampNeg) = 7
              · have hF := ifp hF c_27
                refine lv_tableIn (tgt := 195) (off := 150) hx hb d_Model_goOn_45 (by rw [c_27]; decide) (by rw [c_27]; decide) (by rw [c_27]; rfl) (by decide) ?_
                refine lv_iload_n hx hb d_Model_goOn_195 rfl (lv_at hl 0 rfl) ?_
                refine lv_if_ne (tgt := 212) hx hb d_Model_goOn_196 (by decide) (fun c_28 => ?_) (fun c_28 => ?_)
                · have hF := ifn hF c_28
                  refine lv_aload_n hx hb d_Model_goOn_212 rfl (lv_at hl 2 rfl) ?_
                  refine lv_iload_n hx hb d_Model_goOn_213 rfl (lv_at hl 1 rfl) ?_
                  refine lv_iload_n hx hb d_Model_goOn_214 rfl (lv_at hl 0 rfl) ?_
                  obtain ⟨u29, h29, hF⟩ := b1E hF
                  refine callVV (As := [.int ((σ.2.2.1 41) ((σ.1 48) - 1).toNatClampNeg), .int ((σ.2.2.1 42) ((σ.1 48) - 1).toNatClampNeg)]) X (ct_Model_behindFirst l dC dI ad cA H.size h29) lk_Model_481 ⟨rfl, rfl, by decide, by decide⟩ 11 rfl rfl hP hD hS hl.1 rfl rfl (Nat.le_of_ble_eq_true rfl) d_Model_goOn_215 (fun H locs hP hD hS => ?_)
                  cases hF
                  exact leafV X hP hD hS d_Model_goOn_218
                · have hF := ifp hF c_28
                  refine lv_aload_n hx hb d_Model_goOn_199 rfl (lv_at hl 2 rfl) ?_
                  refine lv_aload_n hx hb d_Model_goOn_200 rfl (lv_at hl 2 rfl) ?_
                  refine va_get (D := (dC, dI)) (ci := 11) (v := .ref (ad 37)) hx hb hts i_Model hown hK hP 11 rfl rfl 16 (by decide) (hts _ w_b1c1a5a9de) (fun _ h9 => h9) rfl d_Model_goOn_201 ?_
                  refine lv_iload_n hx hb d_Model_goOn_204 rfl (lv_at hl 1 rfl) ?_
                  obtain ⟨g_30, hF⟩ := gdE hF
                  refine va_iald (f := (σ.2.2.1 22)) hx hb hK hP 37 0 rfl rfl (inE g_30) d_Model_goOn_205 ?_
                  obtain ⟨u31, h31, hF⟩ := b1E hF
                  refine callVV (As := [.int ((σ.2.2.1 22) ((σ.2.2.1 41) ((σ.1 48) - 1).toNatClampNeg).toNatClampNeg)]) X (ct_Model_start l dC dI ad cA H.size h31) lk_Model_418 ⟨rfl, rfl, by decide, by decide⟩ 11 rfl rfl hP hD hS hl.1 rfl rfl (Nat.le_of_ble_eq_true rfl) d_Model_goOn_206 (fun H locs hP hD hS => ?_)
                  refine lv_goto (tgt := 218) hx hb d_Model_goOn_209 (by decide) ?_
                  cases hF
                  exact leafV X hP hD hS d_Model_goOn_218
              · have hF := ifn hF c_27
                by_cases c_32 : ((σ.2.2.1 20) ((σ.2.2.1 41) ((σ.1 48) - 1).toNatClampNeg).toNatClampNeg) = 8
                · have hF := ifp hF c_32
                  refine lv_tableIn (tgt := 195) (off := 150) hx hb d_Model_goOn_45 (by rw [c_32]; decide) (by rw [c_32]; decide) (by rw [c_32]; rfl) (by decide) ?_
                  refine lv_iload_n hx hb d_Model_goOn_195 rfl (lv_at hl 0 rfl) ?_
                  refine lv_if_ne (tgt := 212) hx hb d_Model_goOn_196 (by decide) (fun c_33 => ?_) (fun c_33 => ?_)
                  · have hF := ifn hF c_33
                    refine lv_aload_n hx hb d_Model_goOn_212 rfl (lv_at hl 2 rfl) ?_
                    refine lv_iload_n hx hb d_Model_goOn_213 rfl (lv_at hl 1 rfl) ?_
                    refine lv_iload_n hx hb d_Model_goOn_214 rfl (lv_at hl 0 rfl) ?_
                    obtain ⟨u34, h34, hF⟩ := b1E hF
                    refine callVV (As := [.int ((σ.2.2.1 41) ((σ.1 48) - 1).toNatClampNeg), .int ((σ.2.2.1 42) ((σ.1 48) - 1).toNatClampNeg)]) X (ct_Model_behindFirst l dC dI ad cA H.size h34) lk_Model_481 ⟨rfl, rfl, by decide, by decide⟩ 11 rfl rfl hP hD hS hl.1 rfl rfl (Nat.le_of_ble_eq_true rfl) d_Model_goOn_215 (fun H locs hP hD hS => ?_)
                    cases hF
                    exact leafV X hP hD hS d_Model_goOn_218
                  · have hF := ifp hF c_33
                    refine lv_aload_n hx hb d_Model_goOn_199 rfl (lv_at hl 2 rfl) ?_
                    refine lv_aload_n hx hb d_Model_goOn_200 rfl (lv_at hl 2 rfl) ?_
                    refine va_get (D := (dC, dI)) (ci := 11) (v := .ref (ad 37)) hx hb hts i_Model hown hK hP 11 rfl rfl 16 (by decide) (hts _ w_b1c1a5a9de) (fun _ h9 => h9) rfl d_Model_goOn_201 ?_
                    refine lv_iload_n hx hb d_Model_goOn_204 rfl (lv_at hl 1 rfl) ?_
                    obtain ⟨g_35, hF⟩ := gdE hF
                    refine va_iald (f := (σ.2.2.1 22)) hx hb hK hP 37 0 rfl rfl (inE g_35) d_Model_goOn_205 ?_
                    obtain ⟨u36, h36, hF⟩ := b1E hF
                    refine callVV (As := [.int ((σ.2.2.1 22) ((σ.2.2.1 41) ((σ.1 48) - 1).toNatClampNeg).toNatClampNeg)]) X (ct_Model_start l dC dI ad cA H.size h36) lk_Model_418 ⟨rfl, rfl, by decide, by decide⟩ 11 rfl rfl hP hD hS hl.1 rfl rfl (Nat.le_of_ble_eq_true rfl) d_Model_goOn_206 (fun H locs hP hD hS => ?_)
                    refine lv_goto (tgt := 218) hx hb d_Model_goOn_209 (by decide) ?_
                    cases hF
                    exact leafV X hP hD hS d_Model_goOn_218
                · have hF := ifn hF c_32
                  by_cases c_37 : ((σ.2.2.1 20) ((σ.2.2.1 41) ((σ.1 48) - 1).toNatClampNeg).toNatClampNeg) = 9
                  · have hF := ifp hF c_37
                    refine lv_tableIn (tgt := 195) (off := 150) hx hb d_Model_goOn_45 (by rw [c_37]; decide) (by rw [c_37]; decide) (by rw [c_37]; rfl) (by decide) ?_
                    refine lv_iload_n hx hb d_Model_goOn_195 rfl (lv_at hl 0 rfl) ?_
                    refine lv_if_ne (tgt := 212) hx hb d_Model_goOn_196 (by decide) (fun c_38 => ?_) (fun c_38 => ?_)
                    · have hF := ifn hF c_38
                      refine lv_aload_n hx hb d_Model_goOn_212 rfl (lv_at hl 2 rfl) ?_
                      refine lv_iload_n hx hb d_Model_goOn_213 rfl (lv_at hl 1 rfl) ?_
                      refine lv_iload_n hx hb d_Model_goOn_214 rfl (lv_at hl 0 rfl) ?_
                      obtain ⟨u39, h39, hF⟩ := b1E hF
                      refine callVV (As := [.int ((σ.2.2.1 41) ((σ.1 48) - 1).toNatClampNeg), .int ((σ.2.2.1 42) ((σ.1 48) - 1).toNatClampNeg)]) X (ct_Model_behindFirst l dC dI ad cA H.size h39) lk_Model_481 ⟨rfl, rfl, by decide, by decide⟩ 11 rfl rfl hP hD hS hl.1 rfl rfl (Nat.le_of_ble_eq_true rfl) d_Model_goOn_215 (fun H locs hP hD hS => ?_)
                      cases hF
                      exact leafV X hP hD hS d_Model_goOn_218
                    · have hF := ifp hF c_38
                      refine lv_aload_n hx hb d_Model_goOn_199 rfl (lv_at hl 2 rfl) ?_
                      refine lv_aload_n hx hb d_Model_goOn_200 rfl (lv_at hl 2 rfl) ?_
                      refine va_get (D := (dC, dI)) (ci := 11) (v := .ref (ad 37)) hx hb hts i_Model hown hK hP 11 rfl rfl 16 (by decide) (hts _ w_b1c1a5a9de) (fun _ h9 => h9) rfl d_Model_goOn_201 ?_
                      refine lv_iload_n hx hb d_Model_goOn_204 rfl (lv_at hl 1 rfl) ?_
                      obtain ⟨g_40, hF⟩ := gdE hF
                      refine va_iald (f := (σ.2.2.1 22)) hx hb hK hP 37 0 rfl rfl (inE g_40) d_Model_goOn_205 ?_
                      obtain ⟨u41, h41, hF⟩ := b1E hF
                      refine callVV (As := [.int ((σ.2.2.1 22) ((σ.2.2.1 41) ((σ.1 48) - 1).toNatClampNeg).toNatClampNeg)]) X (ct_Model_start l dC dI ad cA H.size h41) lk_Model_418 ⟨rfl, rfl, by decide, by decide⟩ 11 rfl rfl hP hD hS hl.1 rfl rfl (Nat.le_of_ble_eq_true rfl) d_Model_goOn_206 (fun H locs hP hD hS => ?_)
                      refine lv_goto (tgt := 218) hx hb d_Model_goOn_209 (by decide) ?_
                      cases hF
                      exact leafV X hP hD hS d_Model_goOn_218
                  · have hF := ifn hF c_37
                    by_cases c_42 : ((σ.2.2.1 20) ((σ.2.2.1 41) ((σ.1 48) - 1).toNatClampNeg).toNatClampNeg) = 10
                    · have hF := ifp hF c_42
                      refine lv_tableIn (tgt := 173) (off := 128) hx hb d_Model_goOn_45 (by rw [c_42]; decide) (by rw [c_42]; decide) (by rw [c_42]; rfl) (by decide) ?_
                      refine lv_aload_n hx hb d_Model_goOn_173 rfl (lv_at hl 2 rfl) ?_
                      refine lv_aload_n hx hb d_Model_goOn_174 rfl (lv_at hl 2 rfl) ?_
                      refine lv_iload_n hx hb d_Model_goOn_175 rfl (lv_at hl 1 rfl) ?_
                      refine lv_iload_n hx hb d_Model_goOn_176 rfl (lv_at hl 0 rfl) ?_
                      obtain ⟨r43, h43, hF⟩ := b1E hF
                      refine callVI (As := [.int ((σ.2.2.1 41) ((σ.1 48) - 1).toNatClampNeg), .int ((σ.2.2.1 42) ((σ.1 48) - 1).toNatClampNeg)]) X (ct_Model_partAt l dC dI ad cA H.size h43) lk_Model_433 ⟨rfl, rfl, by decide, by decide⟩ 11 rfl rfl hP hD hS hl.1 rfl rfl (Nat.le_of_ble_eq_true rfl) d_Model_goOn_177 (fun H locs hP hD hS => ?_)
                      obtain ⟨u44, h44, hF⟩ := b1E hF
                      refine callVV (As := [.int r43]) X (ct_Model_startOr l dC dI ad cA H.size h44) lk_Model_448 ⟨rfl, rfl, by decide, by decide⟩ 11 rfl rfl hP hD hS hl.1 rfl rfl (Nat.le_of_ble_eq_true rfl) d_Model_goOn_180 (fun H locs hP hD hS => ?_)
                      refine lv_goto (tgt := 218) hx hb d_Model_goOn_183 (by decide) ?_
                      cases hF
                      exact leafV X hP hD hS d_Model_goOn_218
                    · have hF := ifn hF c_42
                      by_cases c_45 : ((σ.2.2.1 20) ((σ.2.2.1 41) ((σ.1 48) - 1).toNatClampNeg).toNatClampNeg) = 11
                      · have hF := ifp hF c_45
                        refine lv_tableIn (tgt := 195) (off := 150) hx hb d_Model_goOn_45 (by rw [c_45]; decide) (by rw [c_45]; decide) (by rw [c_45]; rfl) (by decide) ?_
                        refine lv_iload_n hx hb d_Model_goOn_195 rfl (lv_at hl 0 rfl) ?_
                        refine lv_if_ne (tgt := 212) hx hb d_Model_goOn_196 (by decide) (fun c_46 => ?_) (fun c_46 => ?_)
                        · have hF := ifn hF c_46
                          refine lv_aload_n hx hb d_Model_goOn_212 rfl (lv_at hl 2 rfl) ?_
                          refine lv_iload_n hx hb d_Model_goOn_213 rfl (lv_at hl 1 rfl) ?_
                          refine lv_iload_n hx hb d_Model_goOn_214 rfl (lv_at hl 0 rfl) ?_
                          obtain ⟨u47, h47, hF⟩ := b1E hF
                          refine callVV (As := [.int ((σ.2.2.1 41) ((σ.1 48) - 1).toNatClampNeg), .int ((σ.2.2.1 42) ((σ.1 48) - 1).toNatClampNeg)]) X (ct_Model_behindFirst l dC dI ad cA H.size h47) lk_Model_481 ⟨rfl, rfl, by decide, by decide⟩ 11 rfl rfl hP hD hS hl.1 rfl rfl (Nat.le_of_ble_eq_true rfl) d_Model_goOn_215 (fun H locs hP hD hS => ?_)
                          cases hF
                          exact leafV X hP hD hS d_Model_goOn_218
                        · have hF := ifp hF c_46
                          refine lv_aload_n hx hb d_Model_goOn_199 rfl (lv_at hl 2 rfl) ?_
                          refine lv_aload_n hx hb d_Model_goOn_200 rfl (lv_at hl 2 rfl) ?_
                          refine va_get (D := (dC, dI)) (ci := 11) (v := .ref (ad 37)) hx hb hts i_Model hown hK hP 11 rfl rfl 16 (by decide) (hts _ w_b1c1a5a9de) (fun _ h9 => h9) rfl d_Model_goOn_201 ?_
                          refine lv_iload_n hx hb d_Model_goOn_204 rfl (lv_at hl 1 rfl) ?_
                          obtain ⟨g_48, hF⟩ := gdE hF
                          refine va_iald (f := (σ.2.2.1 22)) hx hb hK hP 37 0 rfl rfl (inE g_48) d_Model_goOn_205 ?_
                          obtain ⟨u49, h49, hF⟩ := b1E hF
                          refine callVV (As := [.int ((σ.2.2.1 22) ((σ.2.2.1 41) ((σ.1 48) - 1).toNatClampNeg).toNatClampNeg)]) X (ct_Model_start l dC dI ad cA H.size h49) lk_Model_418 ⟨rfl, rfl, by decide, by decide⟩ 11 rfl rfl hP hD hS hl.1 rfl rfl (Nat.le_of_ble_eq_true rfl) d_Model_goOn_206 (fun H locs hP hD hS => ?_)
                          refine lv_goto (tgt := 218) hx hb d_Model_goOn_209 (by decide) ?_
                          cases hF
                          exact leafV X hP hD hS d_Model_goOn_218
                      · have hF := ifn hF c_45
                        by_cases c_50 : ((σ.2.2.1 20) ((σ.2.2.1 41) ((σ.1 48) - 1).toNatClampNeg).toNatClampNeg) = 12
                        · have hF := ifp hF c_50
                          refine lv_tableIn (tgt := 195) (off := 150) hx hb d_Model_goOn_45 (by rw [c_50]; decide) (by rw [c_50]; decide) (by rw [c_50]; rfl) (by decide) ?_
                          refine lv_iload_n hx hb d_Model_goOn_195 rfl (lv_at hl 0 rfl) ?_
                          refine lv_if_ne (tgt := 212) hx hb d_Model_goOn_196 (by decide) (fun c_51 => ?_) (fun c_51 => ?_)
                          · have hF := ifn hF c_51
                            refine lv_aload_n hx hb d_Model_goOn_212 rfl (lv_at hl 2 rfl) ?_
                            refine lv_iload_n hx hb d_Model_goOn_213 rfl (lv_at hl 1 rfl) ?_
                            refine lv_iload_n hx hb d_Model_goOn_214 rfl (lv_at hl 0 rfl) ?_
                            obtain ⟨u52, h52, hF⟩ := b1E hF
                            refine callVV (As := [.int ((σ.2.2.1 41) ((σ.1 48) - 1).toNatClampNeg), .int ((σ.2.2.1 42) ((σ.1 48) - 1).toNatClampNeg)]) X (ct_Model_behindFirst l dC dI ad cA H.size h52) lk_Model_481 ⟨rfl, rfl, by decide, by decide⟩ 11 rfl rfl hP hD hS hl.1 rfl rfl (Nat.le_of_ble_eq_true rfl) d_Model_goOn_215 (fun H locs hP hD hS => ?_)
                            cases hF
                            exact leafV X hP hD hS d_Model_goOn_218
                          · have hF := ifp hF c_51
                            refine lv_aload_n hx hb d_Model_goOn_199 rfl (lv_at hl 2 rfl) ?_
                            refine lv_aload_n hx hb d_Model_goOn_200 rfl (lv_at hl 2 rfl) ?_
                            refine va_get (D := (dC, dI)) (ci := 11) (v := .ref (ad 37)) hx hb hts i_Model hown hK hP 11 rfl rfl 16 (by decide) (hts _ w_b1c1a5a9de) (fun _ h9 => h9) rfl d_Model_goOn_201 ?_
                            refine lv_iload_n hx hb d_Model_goOn_204 rfl (lv_at hl 1 rfl) ?_
                            obtain ⟨g_53, hF⟩ := gdE hF
                            refine va_iald (f := (σ.2.2.1 22)) hx hb hK hP 37 0 rfl rfl (inE g_53) d_Model_goOn_205 ?_
                            obtain ⟨u54, h54, hF⟩ := b1E hF
                            refine callVV (As := [.int ((σ.2.2.1 22) ((σ.2.2.1 41) ((σ.1 48) - 1).toNatClampNeg).toNatClampNeg)]) X (ct_Model_start l dC dI ad cA H.size h54) lk_Model_418 ⟨rfl, rfl, by decide, by decide⟩ 11 rfl rfl hP hD hS hl.1 rfl rfl (Nat.le_of_ble_eq_true rfl) d_Model_goOn_206 (fun H locs hP hD hS => ?_)
                            refine lv_goto (tgt := 218) hx hb d_Model_goOn_209 (by decide) ?_
                            cases hF
                            exact leafV X hP hD hS d_Model_goOn_218
                        · have hF := ifn hF c_50
                          by_cases c_55 : ((σ.2.2.1 20) ((σ.2.2.1 41) ((σ.1 48) - 1).toNatClampNeg).toNatClampNeg) = 13
                          · have hF := ifp hF c_55
                            refine lv_tableIn (tgt := 195) (off := 150) hx hb d_Model_goOn_45 (by rw [c_55]; decide) (by rw [c_55]; decide) (by rw [c_55]; rfl) (by decide) ?_
                            refine lv_iload_n hx hb d_Model_goOn_195 rfl (lv_at hl 0 rfl) ?_
                            refine lv_if_ne (tgt := 212) hx hb d_Model_goOn_196 (by decide) (fun c_56 => ?_) (fun c_56 => ?_)
                            · have hF := ifn hF c_56
                              refine lv_aload_n hx hb d_Model_goOn_212 rfl (lv_at hl 2 rfl) ?_
                              refine lv_iload_n hx hb d_Model_goOn_213 rfl (lv_at hl 1 rfl) ?_
                              refine lv_iload_n hx hb d_Model_goOn_214 rfl (lv_at hl 0 rfl) ?_
                              obtain ⟨u57, h57, hF⟩ := b1E hF
                              refine callVV (As := [.int ((σ.2.2.1 41) ((σ.1 48) - 1).toNatClampNeg), .int ((σ.2.2.1 42) ((σ.1 48) - 1).toNatClampNeg)]) X (ct_Model_behindFirst l dC dI ad cA H.size h57) lk_Model_481 ⟨rfl, rfl, by decide, by decide⟩ 11 rfl rfl hP hD hS hl.1 rfl rfl (Nat.le_of_ble_eq_true rfl) d_Model_goOn_215 (fun H locs hP hD hS => ?_)
                              cases hF
                              exact leafV X hP hD hS d_Model_goOn_218
                            · have hF := ifp hF c_56
                              refine lv_aload_n hx hb d_Model_goOn_199 rfl (lv_at hl 2 rfl) ?_
                              refine lv_aload_n hx hb d_Model_goOn_200 rfl (lv_at hl 2 rfl) ?_
                              refine va_get (D := (dC, dI)) (ci := 11) (v := .ref (ad 37)) hx hb hts i_Model hown hK hP 11 rfl rfl 16 (by decide) (hts _ w_b1c1a5a9de) (fun _ h9 => h9) rfl d_Model_goOn_201 ?_
                              refine lv_iload_n hx hb d_Model_goOn_204 rfl (lv_at hl 1 rfl) ?_
                              obtain ⟨g_58, hF⟩ := gdE hF
                              refine va_iald (f := (σ.2.2.1 22)) hx hb hK hP 37 0 rfl rfl (inE g_58) d_Model_goOn_205 ?_
                              obtain ⟨u59, h59, hF⟩ := b1E hF
                              refine callVV (As := [.int ((σ.2.2.1 22) ((σ.2.2.1 41) ((σ.1 48) - 1).toNatClampNeg).toNatClampNeg)]) X (ct_Model_start l dC dI ad cA H.size h59) lk_Model_418 ⟨rfl, rfl, by decide, by decide⟩ 11 rfl rfl hP hD hS hl.1 rfl rfl (Nat.le_of_ble_eq_true rfl) d_Model_goOn_206 (fun H locs hP hD hS => ?_)
                              refine lv_goto (tgt := 218) hx hb d_Model_goOn_209 (by decide) ?_
                              cases hF
                              exact leafV X hP hD hS d_Model_goOn_218
                          · have hF := ifn hF c_55
                            by_cases c_60 : ((σ.2.2.1 20) ((σ.2.2.1 41) ((σ.1 48) - 1).toNatClampNeg).toNatClampNeg) = 14
                            · have hF := ifp hF c_60
                              refine lv_tableIn (tgt := 186) (off := 141) hx hb d_Model_goOn_45 (by rw [c_60]; decide) (by rw [c_60]; decide) (by rw [c_60]; rfl) (by decide) ?_
                              refine lv_aload_n hx hb d_Model_goOn_186 rfl (lv_at hl 2 rfl) ?_
                              refine lv_iload_n hx hb d_Model_goOn_187 rfl (lv_at hl 1 rfl) ?_
                              refine lv_iload_n hx hb d_Model_goOn_188 rfl (lv_at hl 0 rfl) ?_
                              obtain ⟨u61, h61, hF⟩ := b1E hF
                              refine callVV (As := [.int ((σ.2.2.1 41) ((σ.1 48) - 1).toNatClampNeg), .int ((σ.2.2.1 42) ((σ.1 48) - 1).toNatClampNeg)]) X (ct_Model_loop l dC dI ad cA H.size h61) lk_Model_478 ⟨rfl, rfl, by decide, by decide⟩ 11 rfl rfl hP hD hS hl.1 rfl rfl (Nat.le_of_ble_eq_true rfl) d_Model_goOn_189 (fun H locs hP hD hS => ?_)
                              refine lv_goto (tgt := 218) hx hb d_Model_goOn_192 (by decide) ?_
                              cases hF
                              exact leafV X hP hD hS d_Model_goOn_218
                            · have hF := ifn hF c_60
                              refine lv_tableOut (tgt := 195) hx hb d_Model_goOn_45 (by have hc_6 := lv_neT (a := 1) c_6 (by decide); have hc_9 := lv_neT (a := 2) c_9 (by decide); have hc_11 := lv_neT (a := 3) c_11 (by decide); have hc_15 := lv_neT (a := 4) c_15 (by decide); have hc_20 := lv_neT (a := 5) c_20 (by decide); have hc_22 := lv_neT (a := 6) c_22 (by decide); have hc_27 := lv_neT (a := 7) c_27 (by decide); have hc_32 := lv_neT (a := 8) c_32 (by decide); have hc_37 := lv_neT (a := 9) c_37 (by decide); have hc_42 := lv_neT (a := 10) c_42 (by decide); have hc_45 := lv_neT (a := 11) c_45 (by decide); have hc_50 := lv_neT (a := 12) c_50 (by decide); have hc_55 := lv_neT (a := 13) c_55 (by decide); have hc_60 := lv_neT (a := 14) c_60 (by decide); omega) (by decide) ?_
                              refine lv_iload_n hx hb d_Model_goOn_195 rfl (lv_at hl 0 rfl) ?_
                              refine lv_if_ne (tgt := 212) hx hb d_Model_goOn_196 (by decide) (fun c_62 => ?_) (fun c_62 => ?_)
                              · have hF := ifn hF c_62
                                refine lv_aload_n hx hb d_Model_goOn_212 rfl (lv_at hl 2 rfl) ?_
                                refine lv_iload_n hx hb d_Model_goOn_213 rfl (lv_at hl 1 rfl) ?_
                                refine lv_iload_n hx hb d_Model_goOn_214 rfl (lv_at hl 0 rfl) ?_
                                obtain ⟨u63, h63, hF⟩ := b1E hF
                                refine callVV (As := [.int ((σ.2.2.1 41) ((σ.1 48) - 1).toNatClampNeg), .int ((σ.2.2.1 42) ((σ.1 48) - 1).toNatClampNeg)]) X (ct_Model_behindFirst l dC dI ad cA H.size h63) lk_Model_481 ⟨rfl, rfl, by decide, by decide⟩ 11 rfl rfl hP hD hS hl.1 rfl rfl (Nat.le_of_ble_eq_true rfl) d_Model_goOn_215 (fun H locs hP hD hS => ?_)
                                cases hF
                                exact leafV X hP hD hS d_Model_goOn_218
                              · have hF := ifp hF c_62
                                refine lv_aload_n hx hb d_Model_goOn_199 rfl (lv_at hl 2 rfl) ?_
                                refine lv_aload_n hx hb d_Model_goOn_200 rfl (lv_at hl 2 rfl) ?_
                                refine va_get (D := (dC, dI)) (ci := 11) (v := .ref (ad 37)) hx hb hts i_Model hown hK hP 11 rfl rfl 16 (by decide) (hts _ w_b1c1a5a9de) (fun _ h9 => h9) rfl d_Model_goOn_201 ?_
                                refine lv_iload_n hx hb d_Model_goOn_204 rfl (lv_at hl 1 rfl) ?_
                                obtain ⟨g_64, hF⟩ := gdE hF
                                refine va_iald (f := (σ.2.2.1 22)) hx hb hK hP 37 0 rfl rfl (inE g_64) d_Model_goOn_205 ?_
                                obtain ⟨u65, h65, hF⟩ := b1E hF
                                refine callVV (As := [.int ((σ.2.2.1 22) ((σ.2.2.1 41) ((σ.1 48) - 1).toNatClampNeg).toNatClampNeg)]) X (ct_Model_start l dC dI ad cA H.size h65) lk_Model_418 ⟨rfl, rfl, by decide, by decide⟩ 11 rfl rfl hP hD hS hl.1 rfl rfl (Nat.le_of_ble_eq_true rfl) d_Model_goOn_206 (fun H locs hP hD hS => ?_)
                                refine lv_goto (tgt := 218) hx hb d_Model_goOn_209 (by decide) ?_
                                cases hF
                                exact leafV X hP hD hS d_Model_goOn_218
theorem d_Model_output_0 : decode b_Model_output 0 = .ok (.aload_n 0, 1) := by decide +kernel
theorem d_Model_output_1 : decode b_Model_output 1 = .ok (.iconst 0, 1) := by decide +kernel
theorem d_Model_output_2 : decode b_Model_output 2 = .ok (.putfield 103, 3) := by decide +kernel
theorem d_Model_output_5 : decode b_Model_output 5 = .ok (.iload_n 1, 1) := by decide +kernel
theorem d_Model_output_6 : decode b_Model_output 6 = .ok (.iconst (-1), 1) := by decide +kernel
theorem d_Model_output_7 : decode b_Model_output 7 = .ok (.if_icmp .ne 10, 3) := by decide +kernel
theorem d_Model_output_10 : decode b_Model_output 10 = .ok (.aload_n 0, 1) := by decide +kernel
theorem d_Model_output_11 : decode b_Model_output 11 = .ok (.getfield 389, 3) := by decide +kernel
theorem d_Model_output_14 : decode b_Model_output 14 = .ok (.goto 25, 3) := by decide +kernel
theorem d_Model_output_17 : decode b_Model_output 17 = .ok (.iload_n 1, 1) := by decide +kernel
theorem d_Model_output_18 : decode b_Model_output 18 = .ok (.ifCond .lt 20, 3) := by decide +kernel
theorem d_Model_output_21 : decode b_Model_output 21 = .ok (.iload_n 1, 1) := by decide +kernel
theorem d_Model_output_22 : decode b_Model_output 22 = .ok (.aload_n 0, 1) := by decide +kernel
theorem d_Model_output_23 : decode b_Model_output 23 = .ok (.getfield 389, 3) := by decide +kernel
theorem d_Model_output_26 : decode b_Model_output 26 = .ok (.if_icmp .ge 12, 3) := by decide +kernel
theorem d_Model_output_29 : decode b_Model_output 29 = .ok (.aload_n 0, 1) := by decide +kernel
theorem d_Model_output_30 : decode b_Model_output 30 = .ok (.getfield 85, 3) := by decide +kernel
theorem d_Model_output_33 : decode b_Model_output 33 = .ok (.iload_n 1, 1) := by decide +kernel
theorem d_Model_output_34 : decode b_Model_output 34 = .ok (.iaload, 1) := by decide +kernel
theorem d_Model_output_35 : decode b_Model_output 35 = .ok (.goto 4, 3) := by decide +kernel
theorem d_Model_output_38 : decode b_Model_output 38 = .ok (.iconst 0, 1) := by decide +kernel
theorem d_Model_output_39 : decode b_Model_output 39 = .ok (.ireturn, 1) := by decide +kernel
def tModel_output (σ : St) (a1 : Int32) : Option (Int32 × St) := if a1 = (-1) then some ((σ.1 47), (sI σ 26 0)) else if a1 < 0 then some (0, (sI σ 26 0)) else if (σ.1 47) ≤ a1 then some (0, (sI σ 26 0)) else gd (inB a1 30) (some (((σ.2.2.1 38) a1.toNatClampNeg), (sI σ 26 0)))
set_option maxHeartbeats 4000000 in
set_option maxRecDepth 100000 in
theorem ct_Model_output (l : Launch) (dC : Nat → ClassId) (dI : Nat → Nat → Nat) (ad : Nat → Nat) (cA : Nat → ClassId) (sz : Nat) {σ : St} {a1 : Int32} {r : Int32} {σ' : St} (hF : tModel_output σ a1 = some (r, σ')) : MI l y_Model_output b_Model_output 2 (some .int) { frames := 0, cells := 0, slots := 0, locals := 0 } (dC, dI) (ttys cA) ad (tcw ad cA) [.ref (ad 11), .int a1] σ sz r σ' := by
  refine startM (own := "TinyForgeModel") (Qc := fun A => QI (dC, dI) (ttys cA) (tcw ad cA) A r σ') rfl rfl (Nat.le_of_ble_eq_true rfl) ?_
  intro p e s m below meth c A H locs ls X hP hD hS hl
  have hl : lv_has ls 2 [(0, .ref (ad 11)), (1, .int a1)] := hl
  obtain ⟨hx, hb, hr, hml, hown, hlocks, hts, hA, hK, hZ⟩ := id X
  unfold tModel_output at hF
  refine lv_aload_n hx hb d_Model_output_0 rfl (lv_at hl 0 rfl) ?_
  refine lv_iconst (v := 0) hx hb d_Model_output_1 (by decide) ?_
  refine va_put (D := (dC, dI)) (ci := 11) (v := .int 0) (ty := .int) hx hb hts i_Model t_Model t_Model_ok n_Model hown hK hP hD hS 11 rfl rfl 0 (by decide) (hts _ w_06eb2805f0) (fun _ h9 => h9) rfl (by decide +kernel) rfl rfl (Nat.le_of_ble_eq_true rfl) d_Model_output_2 (fun H locs hP hD hS => ?_)
  have hP : va_P (dC, dI) vwCl (tcw ad cA (sI σ 26 0)) H := hP
  have hD : va_D A (tcw ad cA (sI σ 26 0)) := hD
  refine lv_iload_n hx hb d_Model_output_5 rfl (lv_at hl 1 rfl) ?_
  refine lv_iconst (v := (-1)) hx hb d_Model_output_6 (by decide) ?_
  refine lv_icmp_ne (tgt := 17) hx hb d_Model_output_7 (by decide) (fun c_1 => ?_) (fun c_1 => ?_)
  · have hF := ifn hF c_1
    refine lv_iload_n hx hb d_Model_output_17 rfl (lv_at hl 1 rfl) ?_
    refine lv_if_lt (tgt := 38) hx hb d_Model_output_18 (by decide) (fun c_2 => ?_) (fun c_2 => ?_)
    · have hF := ifp hF c_2
      refine lv_iconst (v := 0) hx hb d_Model_output_38 (by decide) ?_
      cases hF
      exact leafI X hP hD hS d_Model_output_39
    · have hF := ifn hF c_2
      refine lv_iload_n hx hb d_Model_output_21 rfl (lv_at hl 1 rfl) ?_
      refine lv_aload_n hx hb d_Model_output_22 rfl (lv_at hl 0 rfl) ?_
      refine va_get (D := (dC, dI)) (ci := 11) (v := .int (σ.1 47)) hx hb hts i_Model hown hK hP 11 rfl rfl 43 (by decide) (hts _ w_51088924d7) (fun _ h9 => h9) rfl d_Model_output_23 ?_
      refine lv_icmp_ge (tgt := 38) hx hb d_Model_output_26 (by decide) (fun c_3 => ?_) (fun c_3 => ?_)
      · have hF := ifp hF c_3
        refine lv_iconst (v := 0) hx hb d_Model_output_38 (by decide) ?_
        cases hF
        exact leafI X hP hD hS d_Model_output_39
      · have hF := ifn hF c_3
        refine lv_aload_n hx hb d_Model_output_29 rfl (lv_at hl 0 rfl) ?_
        refine va_get (D := (dC, dI)) (ci := 11) (v := .ref (ad 53)) hx hb hts i_Model hown hK hP 11 rfl rfl 51 (by decide) (hts _ w_be8d00e1aa) (fun _ h9 => h9) rfl d_Model_output_30 ?_
        refine lv_iload_n hx hb d_Model_output_33 rfl (lv_at hl 1 rfl) ?_
        obtain ⟨g_4, hF⟩ := gdE hF
        refine va_iald (f := (σ.2.2.1 38)) hx hb hK hP 53 0 rfl rfl (inE g_4) d_Model_output_34 ?_
        refine lv_goto (tgt := 39) hx hb d_Model_output_35 (by decide) ?_
        cases hF
        exact leafI X hP hD hS d_Model_output_39
  · have hF := ifp hF c_1
    refine lv_aload_n hx hb d_Model_output_10 rfl (lv_at hl 0 rfl) ?_
    refine va_get (D := (dC, dI)) (ci := 11) (v := .int (σ.1 47)) hx hb hts i_Model hown hK hP 11 rfl rfl 43 (by decide) (hts _ w_51088924d7) (fun _ h9 => h9) rfl d_Model_output_11 ?_
    refine lv_goto (tgt := 39) hx hb d_Model_output_14 (by decide) ?_
    cases hF
    exact leafI X hP hD hS d_Model_output_39
theorem d_Model_result_0 : decode b_Model_result 0 = .ok (.aload_n 0, 1) := by decide +kernel
theorem d_Model_result_1 : decode b_Model_result 1 = .ok (.iconst 0, 1) := by decide +kernel
theorem d_Model_result_2 : decode b_Model_result 2 = .ok (.putfield 103, 3) := by decide +kernel
theorem d_Model_result_5 : decode b_Model_result 5 = .ok (.aload_n 0, 1) := by decide +kernel
theorem d_Model_result_6 : decode b_Model_result 6 = .ok (.getfield 395, 3) := by decide +kernel
theorem d_Model_result_9 : decode b_Model_result 9 = .ok (.ireturn, 1) := by decide +kernel
def tModel_result (σ : St) : Option (Int32 × St) := some ((σ.1 53), (sI σ 26 0))
set_option maxHeartbeats 4000000 in
set_option maxRecDepth 100000 in
theorem ct_Model_result (l : Launch) (dC : Nat → ClassId) (dI : Nat → Nat → Nat) (ad : Nat → Nat) (cA : Nat → ClassId) (sz : Nat) {σ : St} {r : Int32} {σ' : St} (hF : tModel_result σ = some (r, σ')) : MI l y_Model_result b_Model_result 1 (some .int) { frames := 0, cells := 0, slots := 0, locals := 0 } (dC, dI) (ttys cA) ad (tcw ad cA) [.ref (ad 11)] σ sz r σ' := by
  refine startM (own := "TinyForgeModel") (Qc := fun A => QI (dC, dI) (ttys cA) (tcw ad cA) A r σ') rfl rfl (Nat.le_of_ble_eq_true rfl) ?_
  intro p e s m below meth c A H locs ls X hP hD hS hl
  have hl : lv_has ls 1 [(0, .ref (ad 11))] := hl
  obtain ⟨hx, hb, hr, hml, hown, hlocks, hts, hA, hK, hZ⟩ := id X
  unfold tModel_result at hF
  refine lv_aload_n hx hb d_Model_result_0 rfl (lv_at hl 0 rfl) ?_
  refine lv_iconst (v := 0) hx hb d_Model_result_1 (by decide) ?_
  refine va_put (D := (dC, dI)) (ci := 11) (v := .int 0) (ty := .int) hx hb hts i_Model t_Model t_Model_ok n_Model hown hK hP hD hS 11 rfl rfl 0 (by decide) (hts _ w_06eb2805f0) (fun _ h9 => h9) rfl (by decide +kernel) rfl rfl (Nat.le_of_ble_eq_true rfl) d_Model_result_2 (fun H locs hP hD hS => ?_)
  have hP : va_P (dC, dI) vwCl (tcw ad cA (sI σ 26 0)) H := hP
  have hD : va_D A (tcw ad cA (sI σ 26 0)) := hD
  refine lv_aload_n hx hb d_Model_result_5 rfl (lv_at hl 0 rfl) ?_
  refine va_get (D := (dC, dI)) (ci := 11) (v := .int (σ.1 53)) hx hb hts i_Model hown hK hP 11 rfl rfl 49 (by decide) (hts _ w_718e9fab69) (fun _ h9 => h9) rfl d_Model_result_6 ?_
  cases hF
  exact leafI X hP hD hS d_Model_result_9
