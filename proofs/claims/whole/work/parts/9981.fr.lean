/-! What one step leaves alone, on both sides. -/
def FrR (g σ : St) : Prop := (∀ k, (k < 16 ∨ 24 < k) → σ.1 k = g.1 k) ∧ σ.2.1 = g.2.1 ∧ (∀ k, (k < 10 ∨ 14 < k) → σ.2.2.1 k = g.2.2.1 k) ∧ σ.2.2.2 = g.2.2.2
def kcF {β : Type} (st : β → St) (g : St) (o : Option β) : Prop := ∀ u, o = some u → FrR g (st u)
theorem kcr (g : St) : FrR g g := ⟨fun _ _ => rfl, rfl, fun _ _ => rfl, rfl⟩
theorem kct {a b c : St} (h1 : FrR a b) (h2 : FrR b c) : FrR a c := ⟨fun k hk => (h2.1 k hk).trans (h1.1 k hk), h2.2.1.trans h1.2.1, fun k hk => (h2.2.2.1 k hk).trans (h1.2.2.1 k hk), h2.2.2.2.trans h1.2.2.2⟩
theorem kci {g σ : St} {k : Nat} {x : Int32} (h : FrR g σ) (hk : ¬ (k < 16 ∨ 24 < k)) : FrR g (sI σ k x) := ⟨fun j hj => by rw [sI1, if_neg (fun e => hk (by rw [← e]; exact hj))]; exact h.1 j hj, h.2.1, h.2.2.1, h.2.2.2⟩
theorem kca {g σ : St} {k : Nat} {f : Nat → Int32} (h : FrR g σ) (hk : ¬ (k < 10 ∨ 14 < k)) : FrR g (sA σ k f) := ⟨h.1, h.2.1, fun j hj => by rw [sA3, if_neg (fun e => hk (by rw [← e]; exact hj))]; exact h.2.2.1 j hj, h.2.2.2⟩
section CBkc
variable {β α : Type} {st : β → St} {g : St}
theorem kcn : kcF st g none := fun _ e => by cases e
theorem kcs {u : β} (h : FrR g (st u)) : kcF st g (some u) := fun _ e => by cases e; exact h
theorem kce {P : Prop} [Decidable P] {a b : Option β} (h1 : kcF st g a) (h2 : kcF st g b) : kcF st g (if P then a else b) := by
  by_cases h : P
  · rw [if_pos h]; exact h1
  · rw [if_neg h]; exact h2
theorem kcg {b : Bool} {k : Option β} (h : kcF st g k) : kcF st g (gd b k) := by
  cases b with
  | false => exact kcn
  | true => exact h
theorem kcv {o : Option α} {f : α → Option β} (h : ∀ r, kcF st g (f r)) : kcF st g (b1 o f) := by
  cases o with
  | none => exact kcn
  | some r => exact h r
theorem kc1 {o : Option St} {f : St → Option β} (h1 : kcF (fun u : St => u) g o) (h2 : ∀ u, FrR g u → kcF st g (f u)) : kcF st g (b1 o f) := by
  cases o with
  | none => exact kcn
  | some r => exact h2 r (h1 r rfl)
theorem kc2 {o : Option (Int32 × St)} {f : Int32 → St → Option β} (h1 : kcF (Prod.snd : Int32 × St → St) g o) (h2 : ∀ x u, FrR g u → kcF st g (f x u)) : kcF st g (b2 o f) := by
  cases o with
  | none => exact kcn
  | some r => exact h2 r.1 r.2 (h1 r rfl)
end CBkc
theorem kc_tMachine_pop {g : St} {σ : St} (h : FrR g σ) : kcF (Prod.snd : Int32 × St → St) g (tMachine_pop σ) := by
  unfold tMachine_pop
  exact (kcv (fun r1 => (kcs (kci h (by omega)))))
theorem kc_tMachine_setCell {g : St} {σ : St} {a1 : Int32} {a2 : Int32} (h : FrR g σ) : kcF (fun u : St => u) g (tMachine_setCell σ a1 a2) := by
  unfold tMachine_setCell
  exact (kce (kcs h) (kce (kcs h) (kcg (kcs (kca h (by omega))))))
theorem kc_tMachine_push {g : St} {σ : St} {a1 : Int32} (h : FrR g σ) : kcF (fun u : St => u) g (tMachine_push σ a1) := by
  unfold tMachine_push
  exact (kc1 (kc_tMachine_setCell h) (fun u1 hu1 => (kcs (kci hu1 (by omega)))))
theorem kc_tMachine_leave {g : St} {σ : St} {a1 : Int32} (h : FrR g σ) : kcF (fun u : St => u) g (tMachine_leave σ a1) := by
  unfold tMachine_leave
  exact (kce (kcg (kcg (kc1 (kc_tMachine_push (kci (kci (kci (kci h (by omega)) (by omega)) (by omega)) (by omega))) (fun u4 hu4 => (kcs hu4))))) (kcs (kci (kci h (by omega)) (by omega))))
theorem kc_tMachine_put {g : St} {σ : St} {a1 : Int32} (h : FrR g σ) : kcF (fun u : St => u) g (tMachine_put σ a1) := by
  unfold tMachine_put
  exact (kce (kcg (kcs (kci (kca h (by omega)) (by omega)))) (kcs (kci h (by omega))))
theorem kc_tMachine_fetchElement {g : St} {σ : St} {a1 : Int32} {a2 : Int32} (h : FrR g σ) : kcF (fun u : St => u) g (tMachine_fetchElement σ a1 a2) := by
  unfold tMachine_fetchElement
  exact (kc2 (kc_tMachine_pop h) (fun r1 u1 hu1 => (kce (kcs (kci hu1 (by omega))) (kce (kcg (kc1 (kc_tMachine_push hu1) (fun u5 hu5 => (kcs hu5)))) (kcs (kci hu1 (by omega)))))))
theorem kc_tMachine_setElement {g : St} {σ : St} {a1 : Int32} {a2 : Int32} (h : FrR g σ) : kcF (fun u : St => u) g (tMachine_setElement σ a1 a2) := by
  unfold tMachine_setElement
  exact (kc2 (kc_tMachine_pop h) (fun r1 u1 hu1 => (kc2 (kc_tMachine_pop hu1) (fun r2 u2 hu2 => (kce (kcs (kci hu2 (by omega))) (kce (kcg (kcs (kca hu2 (by omega)))) (kcs (kci hu2 (by omega)))))))))
theorem kc_tMachine_tick {g : St} {σ : St} (h : FrR g σ) : kcF (fun u : St => u) g (tMachine_tick σ) := by
  unfold tMachine_tick
  exact (kce (kcs (kci h (by omega))) (kcs (kci h (by omega))))
theorem kc_tMachine_call {g : St} {σ : St} {a1 : Int32} {a2 : Int32} (h : FrR g σ) : kcF (fun u : St => u) g (tMachine_call σ a1 a2) := by
  unfold tMachine_call
  exact (kce (kc1 (kc_tMachine_tick h) (fun u2 hu2 => (kcg (kcg (kcs (kci (kci (kci (kci (kca (kca hu2 (by omega)) (by omega)) (by omega)) (by omega)) (by omega)) (by omega))))))) (kcs (kci h (by omega))))
theorem kc_tMachine_decide_b1 {g : St} {k : Nat → St → Int32 → Int32 → Int32 → Option (St)} {σ : St} {x1 : Int32} {x2 : Int32} {x3 : Int32} (hk : ∀ (lab : Nat) (σ : St) (x1 : Int32) (x2 : Int32) (x3 : Int32), FrR g σ → kcF (fun u : St => u) g (k lab σ x1 x2 x3)) (h : FrR g σ) : kcF (fun u : St => u) g (tMachine_decide_b1 k σ x1 x2 x3) := by
  unfold tMachine_decide_b1
  exact (kce (kcv (fun r4 => (kc1 (kc_tMachine_push h) (fun u5 hu5 => (kcs (kci hu5 (by omega))))))) (kcs h))
theorem kc_tMachine_decide_L {g : St} : ∀ (N lab : Nat) (σ : St) (x1 : Int32) (x2 : Int32) (x3 : Int32), FrR g σ → kcF (fun u : St => u) g (tMachine_decide_L N lab σ x1 x2 x3) := by
  intro N
  induction N with
  | zero => intro lab σ x1 x2 x3 _; exact kcn
  | succ N ih =>
    intro lab σ x1 x2 x3 h
    unfold tMachine_decide_L
    split
    · exact kc_tMachine_decide_b1 ih h
    · exact kcn
theorem kc_tMachine_decide {g : St} {σ : St} {a1 : Int32} {a2 : Int32} (h : FrR g σ) : kcF (fun u : St => u) g (tMachine_decide σ a1 a2) := by
  unfold tMachine_decide
  exact (kc2 (kc_tMachine_pop h) (fun r1 u1 hu1 => (kce (kc_tMachine_decide_L 2000 1 _ _ _ _ hu1) (kc_tMachine_decide_L 2000 1 _ _ _ _ hu1))))
theorem kc_tInput_take {g : St} {σ : St} (h : FrR g σ) : kcF (Prod.snd : Int32 × St → St) g (tInput_take σ) := by
  unfold tInput_take
  exact (kce (kcg (kcs (kci h (by omega)))) (kcs h))
theorem kc_tMachine_move {g : St} {σ : St} {a1 : Int32} {a2 : Int32} (h : FrR g σ) : kcF (fun u : St => u) g (tMachine_move σ a1 a2) := by
  unfold tMachine_move
  exact (kce (kc2 (kc_tInput_take h) (fun r2 u2 hu2 => (kc1 (kc_tMachine_push hu2) (fun u3 hu3 => (kcs hu3))))) (kce (kc1 (kc_tMachine_push h) (fun u5 hu5 => (kcs hu5))) (kce (kcv (fun r7 => (kc1 (kc_tMachine_push h) (fun u8 hu8 => (kcs hu8))))) (kce (kc2 (kc_tMachine_pop h) (fun r10 u10 hu10 => (kc1 (kc_tMachine_setCell hu10) (fun u11 hu11 => (kcs hu11))))) (kce (kc2 (kc_tMachine_pop h) (fun r13 u13 hu13 => (kce (kcv (fun r15 => (kc1 (kc_tMachine_push hu13) (fun u16 hu16 => (kcs hu16))))) (kcv (fun r17 => (kc1 (kc_tMachine_push hu13) (fun u18 hu18 => (kcs hu18)))))))) (kce (kc2 (kc_tMachine_pop h) (fun r20 u20 hu20 => (kc1 (kc_tMachine_push hu20) (fun u21 hu21 => (kcs hu21))))) (kce (kc2 (kc_tMachine_pop h) (fun r23 u23 hu23 => (kcs hu23))) (kce (kc2 (kc_tMachine_pop h) (fun r25 u25 hu25 => (kce (kcv (fun r29 => (kc1 (kc_tMachine_push hu25) (fun u30 hu30 => (kcs hu30))))) (kcv (fun r27 => (kc1 (kc_tMachine_push hu25) (fun u28 hu28 => (kcs hu28)))))))) (kce (kc2 (kc_tMachine_pop h) (fun r32 u32 hu32 => (kc1 (kc_tMachine_push hu32) (fun u33 hu33 => (kcs hu33))))) (kc2 (kc_tMachine_pop h) (fun r34 u34 hu34 => (kc2 (kc_tMachine_pop hu34) (fun r35 u35 hu35 => (kcv (fun r36 => (kc1 (kc_tMachine_push hu35) (fun u37 hu37 => (kcs hu37))))))))))))))))))
theorem kc_tMachine_step {g : St} {σ : St} (h : FrR g σ) : kcF (fun u : St => u) g (tMachine_step σ) := by
  unfold tMachine_step
  exact (kce (kcs (kci h (by omega))) (kce (kcg (kcg (kcg (kce (kc2 (kc_tMachine_pop (kci h (by omega))) (fun r7 u7 hu7 => (kc1 (kc_tMachine_leave hu7) (fun u8 hu8 => (kcs hu8))))) (kce (kc2 (kc_tMachine_pop (kci h (by omega))) (fun r10 u10 hu10 => (kc1 (kc_tMachine_put hu10) (fun u11 hu11 => (kcs hu11))))) (kce (kc1 (kc_tMachine_fetchElement (kci h (by omega))) (fun u13 hu13 => (kcs hu13))) (kce (kc1 (kc_tMachine_setElement (kci h (by omega))) (fun u15 hu15 => (kcs hu15))) (kce (kc1 (kc_tMachine_call (kci h (by omega))) (fun u17 hu17 => (kcs hu17))) (kce (kcs (kci (kci h (by omega)) (by omega))) (kce (kc2 (kc_tMachine_pop (kci h (by omega))) (fun r20 u20 hu20 => (kce (kcs (kci hu20 (by omega))) (kcs hu20)))) (kce (kc1 (kc_tMachine_tick (kci h (by omega))) (fun u23 hu23 => (kcs hu23))) (kce (kce (kc1 (kc_tMachine_decide (kci h (by omega))) (fun u27 hu27 => (kcs hu27))) (kc1 (kc_tMachine_decide (kci h (by omega))) (fun u26 hu26 => (kcs hu26)))) (kce (kce (kc1 (kc_tMachine_decide (kci h (by omega))) (fun u31 hu31 => (kcs hu31))) (kc1 (kc_tMachine_decide (kci h (by omega))) (fun u30 hu30 => (kcs hu30)))) (kc1 (kc_tMachine_move (kci h (by omega))) (fun u32 hu32 => (kcs hu32)))))))))))))))) (kcs (kci h (by omega)))))
def FrS (g σ : St) : Prop := (∀ k, (k < 46 ∨ 52 < k) → σ.1 k = g.1 k) ∧ σ.2.1 = g.2.1 ∧ (∀ k, (k < 38 ∨ 43 < k) → σ.2.2.1 k = g.2.2.1 k) ∧ σ.2.2.2 = g.2.2.2
def km_F {β : Type} (st : β → St) (g : St) (o : Option β) : Prop := ∀ u, o = some u → FrS g (st u)
theorem km_r (g : St) : FrS g g := ⟨fun _ _ => rfl, rfl, fun _ _ => rfl, rfl⟩
theorem km_t {a b c : St} (h1 : FrS a b) (h2 : FrS b c) : FrS a c := ⟨fun k hk => (h2.1 k hk).trans (h1.1 k hk), h2.2.1.trans h1.2.1, fun k hk => (h2.2.2.1 k hk).trans (h1.2.2.1 k hk), h2.2.2.2.trans h1.2.2.2⟩
theorem km_i {g σ : St} {k : Nat} {x : Int32} (h : FrS g σ) (hk : ¬ (k < 46 ∨ 52 < k)) : FrS g (sI σ k x) := ⟨fun j hj => by rw [sI1, if_neg (fun e => hk (by rw [← e]; exact hj))]; exact h.1 j hj, h.2.1, h.2.2.1, h.2.2.2⟩
theorem km_a {g σ : St} {k : Nat} {f : Nat → Int32} (h : FrS g σ) (hk : ¬ (k < 38 ∨ 43 < k)) : FrS g (sA σ k f) := ⟨h.1, h.2.1, fun j hj => by rw [sA3, if_neg (fun e => hk (by rw [← e]; exact hj))]; exact h.2.2.1 j hj, h.2.2.2⟩
section CBkm_
variable {β α : Type} {st : β → St} {g : St}
theorem km_n : km_F st g none := fun _ e => by cases e
theorem km_s {u : β} (h : FrS g (st u)) : km_F st g (some u) := fun _ e => by cases e; exact h
theorem km_e {P : Prop} [Decidable P] {a b : Option β} (h1 : km_F st g a) (h2 : km_F st g b) : km_F st g (if P then a else b) := by
  by_cases h : P
  · rw [if_pos h]; exact h1
  · rw [if_neg h]; exact h2
theorem km_g {b : Bool} {k : Option β} (h : km_F st g k) : km_F st g (gd b k) := by
  cases b with
  | false => exact km_n
  | true => exact h
theorem km_v {o : Option α} {f : α → Option β} (h : ∀ r, km_F st g (f r)) : km_F st g (b1 o f) := by
  cases o with
  | none => exact km_n
  | some r => exact h r
theorem km_1 {o : Option St} {f : St → Option β} (h1 : km_F (fun u : St => u) g o) (h2 : ∀ u, FrS g u → km_F st g (f u)) : km_F st g (b1 o f) := by
  cases o with
  | none => exact km_n
  | some r => exact h2 r (h1 r rfl)
theorem km_2 {o : Option (Int32 × St)} {f : Int32 → St → Option β} (h1 : km_F (Prod.snd : Int32 × St → St) g o) (h2 : ∀ x u, FrS g u → km_F st g (f x u)) : km_F st g (b2 o f) := by
  cases o with
  | none => exact km_n
  | some r => exact h2 r.1 r.2 (h1 r rfl)
end CBkm_
theorem km__tModel_hand {g : St} {σ : St} {a1 : Int32} (h : FrS g σ) : km_F (fun u : St => u) g (tModel_hand σ a1) := by
  unfold tModel_hand
  exact (km_g (km_s (km_i (km_a (km_i h (by omega)) (by omega)) (by omega))))
theorem km__tModel_readInput_b1 {g : St} {k : Nat → St → Int32 → Option (St)} {σ : St} {x1 : Int32} (hk : ∀ (lab : Nat) (σ : St) (x1 : Int32), FrS g σ → km_F (fun u : St => u) g (k lab σ x1)) (h : FrS g σ) : km_F (fun u : St => u) g (tModel_readInput_b1 k σ x1) := by
  unfold tModel_readInput_b1
  exact (km_1 (km__tModel_hand h) (fun u3 hu3 => (km_s (km_i hu3 (by omega)))))
theorem km__tModel_readInput_L {g : St} : ∀ (N lab : Nat) (σ : St) (x1 : Int32), FrS g σ → km_F (fun u : St => u) g (tModel_readInput_L N lab σ x1) := by
  intro N
  induction N with
  | zero => intro lab σ x1 _; exact km_n
  | succ N ih =>
    intro lab σ x1 h
    unfold tModel_readInput_L
    split
    · exact km__tModel_readInput_b1 ih h
    · exact km_n
theorem km__tModel_readInput {g : St} {σ : St} (h : FrS g σ) : km_F (fun u : St => u) g (tModel_readInput σ) := by
  unfold tModel_readInput
  exact (km_e (km__tModel_readInput_L 2000 1 _ _ h) (km_g (km__tModel_readInput_L 2000 1 _ _ h)))
theorem km__tModel_start {g : St} {σ : St} {a1 : Int32} (h : FrS g σ) : km_F (fun u : St => u) g (tModel_start σ a1) := by
  unfold tModel_start
  exact (km_g (km_g (km_s (km_i (km_a (km_a h (by omega)) (by omega)) (by omega)))))
theorem km__tModel_popValue {g : St} {σ : St} (h : FrS g σ) : km_F (Prod.snd : Int32 × St → St) g (tModel_popValue σ) := by
  unfold tModel_popValue
  exact (km_g (km_s (km_i h (by omega))))
theorem km__tModel_elementValue {g : St} {σ : St} {a1 : Int32} (h : FrS g σ) : km_F (fun u : St => u) g (tModel_elementValue σ a1) := by
  unfold tModel_elementValue
  exact (km_2 (km__tModel_popValue h) (fun r1 u1 hu1 => (km_v (fun r2 => (km_e (km_s (km_i hu1 (by omega))) (km_g (km_g (km_g (km_1 (km__tModel_hand hu1) (fun u7 hu7 => (km_s hu7)))))))))))
theorem km__tModel_signed {g : St} {σ : St} {a1 : Int32} (h : FrS g σ) : km_F (fun u : St => u) g (tModel_signed σ a1) := by
  unfold tModel_signed
  exact (km_2 (km__tModel_popValue h) (fun r1 u1 hu1 => (km_g (km_e (km_1 (km__tModel_hand hu1) (fun u12 hu12 => (km_s hu12))) (km_g (km_e (km_1 (km__tModel_hand hu1) (fun u11 hu11 => (km_s hu11))) (km_e (km_v (fun r9 => (km_1 (km__tModel_hand hu1) (fun u10 hu10 => (km_s hu10))))) (km_v (fun r7 => (km_1 (km__tModel_hand hu1) (fun u8 hu8 => (km_s hu8))))))))))))
theorem km__tModel_pair_b1 {g : St} {k : Nat → St → Int32 → Int32 → Int32 → Int32 → Option (St)} {σ : St} {x1 : Int32} {x2 : Int32} {x3 : Int32} {x4 : Int32} (hk : ∀ (lab : Nat) (σ : St) (x1 : Int32) (x2 : Int32) (x3 : Int32) (x4 : Int32), FrS g σ → km_F (fun u : St => u) g (k lab σ x1 x2 x3 x4)) (h : FrS g σ) : km_F (fun u : St => u) g (tModel_pair_b1 k σ x1 x2 x3 x4) := by
  unfold tModel_pair_b1
  exact (km_e (km_e (km_g (km_1 (km__tModel_start h) (fun u22 hu22 => (km_s hu22)))) (hk 2 _ _ _ _ _ h)) (km_g (km_1 (km__tModel_start h) (fun u19 hu19 => (km_s hu19)))))
theorem km__tModel_pair_b2 {g : St} {k : Nat → St → Int32 → Int32 → Int32 → Int32 → Option (St)} {σ : St} {x1 : Int32} {x2 : Int32} {x3 : Int32} {x4 : Int32} (hk : ∀ (lab : Nat) (σ : St) (x1 : Int32) (x2 : Int32) (x3 : Int32) (x4 : Int32), FrS g σ → km_F (fun u : St => u) g (k lab σ x1 x2 x3 x4)) (h : FrS g σ) : km_F (fun u : St => u) g (tModel_pair_b2 k σ x1 x2 x3 x4) := by
  unfold tModel_pair_b2
  exact (km_2 (km__tModel_popValue h) (fun r6 u6 hu6 => (km_e (km_e (km_v (fun r13 => (km_1 (km__tModel_hand hu6) (fun u14 hu14 => (km_s hu14))))) (km_v (fun r15 => (km_1 (km__tModel_hand hu6) (fun u16 hu16 => (km_s hu16)))))) (km_g (km_2 (km__tModel_popValue hu6) (fun r9 u9 hu9 => (km_v (fun r10 => (km_1 (km__tModel_hand hu9) (fun u11 hu11 => (km_s hu11)))))))))))
theorem km__tModel_pair_L {g : St} : ∀ (N lab : Nat) (σ : St) (x1 : Int32) (x2 : Int32) (x3 : Int32) (x4 : Int32), FrS g σ → km_F (fun u : St => u) g (tModel_pair_L N lab σ x1 x2 x3 x4) := by
  intro N
  induction N with
  | zero => intro lab σ x1 x2 x3 x4 _; exact km_n
  | succ N ih =>
    intro lab σ x1 x2 x3 x4 h
    unfold tModel_pair_L
    split
    · exact km__tModel_pair_b1 ih h
    · exact km__tModel_pair_b2 ih h
    · exact km_n
theorem km__tModel_pair {g : St} {σ : St} {a1 : Int32} {a2 : Int32} (h : FrS g σ) : km_F (fun u : St => u) g (tModel_pair σ a1 a2) := by
  unfold tModel_pair
  exact (km_g (km_g (km_e (km_e (km_e (km__tModel_pair_L 2000 2 _ _ _ _ _ h) (km__tModel_pair_L 2000 1 _ _ _ _ _ h)) (km__tModel_pair_L 2000 1 _ _ _ _ _ h)) (km__tModel_pair_L 2000 2 _ _ _ _ _ h))))
theorem km__tModel_put {g : St} {σ : St} {a1 : Int32} {a2 : Int32} (h : FrS g σ) : km_F (fun u : St => u) g (tModel_put σ a1 a2) := by
  unfold tModel_put
  exact (km_e (km_g (km_1 (km__tModel_start h) (fun u10 hu10 => (km_s hu10)))) (km_2 (km__tModel_popValue h) (fun r2 u2 hu2 => (km_2 (km__tModel_popValue hu2) (fun r3 u3 hu3 => (km_v (fun r4 => (km_e (km_s (km_i (km_i hu3 (by omega)) (by omega))) (km_g (km_g (km_g (km_s (km_i (km_a hu3 (by omega)) (by omega))))))))))))))
theorem km__tModel_startOr {g : St} {σ : St} {a1 : Int32} (h : FrS g σ) : km_F (fun u : St => u) g (tModel_startOr σ a1) := by
  unfold tModel_startOr
  exact (km_e (km_s (km_i h (by omega))) (km_1 (km__tModel_start h) (fun u2 hu2 => (km_s hu2))))
theorem km__tModel_leave {g : St} {σ : St} {a1 : Int32} (h : FrS g σ) : km_F (fun u : St => u) g (tModel_leave σ a1) := by
  unfold tModel_leave
  exact (km_1 (km__tModel_hand (km_i h (by omega))) (fun u1 hu1 => (km_s hu1)))
theorem km__tModel_returnValue_b1 {g : St} {k : Nat → St → Int32 → Option (St)} {σ : St} {x1 : Int32} (hk : ∀ (lab : Nat) (σ : St) (x1 : Int32), FrS g σ → km_F (fun u : St => u) g (k lab σ x1)) (h : FrS g σ) : km_F (fun u : St => u) g (tModel_returnValue_b1 k σ x1) := by
  unfold tModel_returnValue_b1
  exact (km_g (km_g (km_e (km_1 (km__tModel_leave h) (fun u5 hu5 => (km_s hu5))) (hk 1 _ _ (km_i h (by omega))))))
theorem km__tModel_returnValue_L {g : St} : ∀ (N lab : Nat) (σ : St) (x1 : Int32), FrS g σ → km_F (fun u : St => u) g (tModel_returnValue_L N lab σ x1) := by
  intro N
  induction N with
  | zero => intro lab σ x1 _; exact km_n
  | succ N ih =>
    intro lab σ x1 h
    unfold tModel_returnValue_L
    split
    · exact km__tModel_returnValue_b1 ih h
    · exact km_n
theorem km__tModel_returnValue {g : St} {σ : St} (h : FrS g σ) : km_F (fun u : St => u) g (tModel_returnValue σ) := by
  unfold tModel_returnValue
  exact (km_2 (km__tModel_popValue h) (fun r1 u1 hu1 => (km__tModel_returnValue_L 2000 1 _ _ hu1)))
theorem km__tModel_print {g : St} {σ : St} (h : FrS g σ) : km_F (fun u : St => u) g (tModel_print σ) := by
  unfold tModel_print
  exact (km_2 (km__tModel_popValue h) (fun r1 u1 hu1 => (km_e (km_s (km_i hu1 (by omega))) (km_g (km_s (km_i (km_i (km_a hu1 (by omega)) (by omega)) (by omega)))))))
theorem km__tModel_behindFirst {g : St} {σ : St} {a1 : Int32} {a2 : Int32} (h : FrS g σ) : km_F (fun u : St => u) g (tModel_behindFirst σ a1 a2) := by
  unfold tModel_behindFirst
  exact (km_g (km_e (km_1 (km__tModel_elementValue h) (fun u3 hu3 => (km_s hu3))) (km_e (km_2 (km__tModel_popValue h) (fun r5 u5 hu5 => (km_s (km_i hu5 (by omega))))) (km_e (km_1 (km__tModel_signed h) (fun u7 hu7 => (km_s hu7))) (km_e (km_1 (km__tModel_pair h) (fun u9 hu9 => (km_s hu9))) (km_e (km_2 (km__tModel_popValue h) (fun r11 u11 hu11 => (km_s (km_i hu11 (by omega))))) (km_e (km_2 (km__tModel_popValue h) (fun r13 u13 hu13 => (km_s (km_i hu13 (by omega))))) (km_e (km_2 (km__tModel_popValue h) (fun r15 u15 hu15 => (km_s (km_i hu15 (by omega))))) (km_e (km_g (km_2 (km__tModel_popValue h) (fun r18 u18 hu18 => (km_g (km_s (km_i (km_a hu18 (by omega)) (by omega))))))) (km_e (km_1 (km__tModel_put h) (fun u21 hu21 => (km_s hu21))) (km_e (km_e (km_2 (km__tModel_popValue h) (fun r24 u24 hu24 => (km_e (km_g (km_1 (km__tModel_startOr hu24) (fun u27 hu27 => (km_s hu27)))) (km_g (km_1 (km__tModel_startOr hu24) (fun u29 hu29 => (km_s hu29))))))) (km_1 (km__tModel_startOr h) (fun u30 hu30 => (km_s hu30)))) (km_e (km_2 (km__tModel_popValue h) (fun r32 u32 hu32 => (km_s (km_i hu32 (by omega))))) (km_e (km_1 (km__tModel_returnValue h) (fun u34 hu34 => (km_s hu34))) (km_e (km_1 (km__tModel_print h) (fun u36 hu36 => (km_s hu36))) (km_2 (km__tModel_popValue h) (fun r37 u37 hu37 => (km_s (km_i hu37 (by omega)))))))))))))))))))
theorem km__tModel_enter_b1 {g : St} {k : Nat → St → Int32 → Int32 → Option (St)} {σ : St} {x1 : Int32} {x2 : Int32} (hk : ∀ (lab : Nat) (σ : St) (x1 : Int32) (x2 : Int32), FrS g σ → km_F (fun u : St => u) g (k lab σ x1 x2)) (h : FrS g σ) : km_F (fun u : St => u) g (tModel_enter_b1 k σ x1 x2) := by
  unfold tModel_enter_b1
  exact (km_e (km_g (hk 2 _ _ _ h)) (km_s h))
theorem km__tModel_enter_b2 {g : St} {k : Nat → St → Int32 → Int32 → Option (St)} {σ : St} {x1 : Int32} {x2 : Int32} (hk : ∀ (lab : Nat) (σ : St) (x1 : Int32) (x2 : Int32), FrS g σ → km_F (fun u : St => u) g (k lab σ x1 x2)) (h : FrS g σ) : km_F (fun u : St => u) g (tModel_enter_b2 k σ x1 x2) := by
  unfold tModel_enter_b2
  exact (km_e (km_g (km_1 (km__tModel_start (km_i h (by omega))) (fun u7 hu7 => (km_s hu7)))) (km_2 (km__tModel_popValue h) (fun r8 u8 hu8 => (km_g (hk 2 _ _ _ (km_a hu8 (by omega)))))))
theorem km__tModel_enter_L {g : St} : ∀ (N lab : Nat) (σ : St) (x1 : Int32) (x2 : Int32), FrS g σ → km_F (fun u : St => u) g (tModel_enter_L N lab σ x1 x2) := by
  intro N
  induction N with
  | zero => intro lab σ x1 x2 _; exact km_n
  | succ N ih =>
    intro lab σ x1 x2 h
    unfold tModel_enter_L
    split
    · exact km__tModel_enter_b1 ih h
    · exact km__tModel_enter_b2 ih h
    · exact km_n
theorem km__tModel_tick {g : St} {σ : St} (h : FrS g σ) : km_F (fun u : St => u) g (tModel_tick σ) := by
  unfold tModel_tick
  exact (km_e (km_s (km_i h (by omega))) (km_s (km_i h (by omega))))
theorem km__tModel_enter {g : St} {σ : St} {a1 : Int32} (h : FrS g σ) : km_F (fun u : St => u) g (tModel_enter σ a1) := by
  unfold tModel_enter
  exact (km_e (km__tModel_enter_L 2000 1 _ _ _ (km_i h (by omega))) (km_1 (km__tModel_tick h) (fun u2 hu2 => (km__tModel_enter_L 2000 1 _ _ _ hu2))))
theorem km__tModel_call {g : St} {σ : St} {a1 : Int32} {a2 : Int32} (h : FrS g σ) : km_F (fun u : St => u) g (tModel_call σ a1 a2) := by
  unfold tModel_call
  exact (km_g (km_e (km_g (km_e (km_g (km_1 (km__tModel_enter h) (fun u7 hu7 => (km_s hu7)))) (km_1 (km__tModel_leave h) (fun u5 hu5 => (km_s hu5))))) (km_v (fun r8 => (km_1 (km__tModel_start h) (fun u9 hu9 => (km_s hu9)))))))
theorem km__tModel_loop_b1 {g : St} {k : Nat → St → Int32 → Int32 → Option (St)} {σ : St} {x1 : Int32} {x2 : Int32} (hk : ∀ (lab : Nat) (σ : St) (x1 : Int32) (x2 : Int32), FrS g σ → km_F (fun u : St => u) g (k lab σ x1 x2)) (h : FrS g σ) : km_F (fun u : St => u) g (tModel_loop_b1 k σ x1 x2) := by
  unfold tModel_loop_b1
  exact (km_e (km_e (km_g (km_1 (km__tModel_start h) (fun u13 hu13 => (km_s hu13)))) (km_e (km_2 (km__tModel_popValue h) (fun r7 u7 hu7 => (km_e (km_1 (km__tModel_startOr hu7) (fun u9 hu9 => (km_s hu9))) (km_g (km_1 (km__tModel_startOr hu7) (fun u11 hu11 => (km_s hu11))))))) (km_g (km_s (km_a h (by omega)))))) (km_s h))
theorem km__tModel_loop_L {g : St} : ∀ (N lab : Nat) (σ : St) (x1 : Int32) (x2 : Int32), FrS g σ → km_F (fun u : St => u) g (tModel_loop_L N lab σ x1 x2) := by
  intro N
  induction N with
  | zero => intro lab σ x1 x2 _; exact km_n
  | succ N ih =>
    intro lab σ x1 x2 h
    unfold tModel_loop_L
    split
    · exact km__tModel_loop_b1 ih h
    · exact km_n
theorem km__tModel_loop {g : St} {σ : St} {a1 : Int32} {a2 : Int32} (h : FrS g σ) : km_F (fun u : St => u) g (tModel_loop σ a1 a2) := by
  unfold tModel_loop
  exact (km_e (km_1 (km__tModel_tick h) (fun u2 hu2 => (km__tModel_loop_L 2000 1 _ _ _ hu2))) (km__tModel_loop_L 2000 1 _ _ _ h))
theorem km__tModel_goOn {g : St} {σ : St} (h : FrS g σ) : km_F (fun u : St => u) g (tModel_goOn σ) := by
  unfold tModel_goOn
  exact (km_g (km_g (km_g (km_g (km_g (km_e (km_g (km_1 (km__tModel_hand (km_a h (by omega))) (fun u8 hu8 => (km_s hu8)))) (km_e (km_1 (km__tModel_readInput (km_a h (by omega))) (fun u10 hu10 => (km_s hu10))) (km_e (km_g (km_g (km_1 (km__tModel_hand (km_a h (by omega))) (fun u14 hu14 => (km_s hu14))))) (km_e (km_e (km_g (km_1 (km__tModel_start (km_a h (by omega))) (fun u19 hu19 => (km_s hu19)))) (km_1 (km__tModel_behindFirst (km_a h (by omega))) (fun u17 hu17 => (km_s hu17)))) (km_e (km_1 (km__tModel_call (km_a h (by omega))) (fun u21 hu21 => (km_s hu21))) (km_e (km_e (km_g (km_1 (km__tModel_start (km_a h (by omega))) (fun u26 hu26 => (km_s hu26)))) (km_1 (km__tModel_behindFirst (km_a h (by omega))) (fun u24 hu24 => (km_s hu24)))) (km_e (km_e (km_g (km_1 (km__tModel_start (km_a h (by omega))) (fun u31 hu31 => (km_s hu31)))) (km_1 (km__tModel_behindFirst (km_a h (by omega))) (fun u29 hu29 => (km_s hu29)))) (km_e (km_e (km_g (km_1 (km__tModel_start (km_a h (by omega))) (fun u36 hu36 => (km_s hu36)))) (km_1 (km__tModel_behindFirst (km_a h (by omega))) (fun u34 hu34 => (km_s hu34)))) (km_e (km_e (km_g (km_1 (km__tModel_start (km_a h (by omega))) (fun u41 hu41 => (km_s hu41)))) (km_1 (km__tModel_behindFirst (km_a h (by omega))) (fun u39 hu39 => (km_s hu39)))) (km_e (km_v (fun r43 => (km_1 (km__tModel_startOr (km_a h (by omega))) (fun u44 hu44 => (km_s hu44))))) (km_e (km_e (km_g (km_1 (km__tModel_start (km_a h (by omega))) (fun u49 hu49 => (km_s hu49)))) (km_1 (km__tModel_behindFirst (km_a h (by omega))) (fun u47 hu47 => (km_s hu47)))) (km_e (km_e (km_g (km_1 (km__tModel_start (km_a h (by omega))) (fun u54 hu54 => (km_s hu54)))) (km_1 (km__tModel_behindFirst (km_a h (by omega))) (fun u52 hu52 => (km_s hu52)))) (km_e (km_e (km_g (km_1 (km__tModel_start (km_a h (by omega))) (fun u59 hu59 => (km_s hu59)))) (km_1 (km__tModel_behindFirst (km_a h (by omega))) (fun u57 hu57 => (km_s hu57)))) (km_e (km_1 (km__tModel_loop (km_a h (by omega))) (fun u61 hu61 => (km_s hu61))) (km_e (km_g (km_1 (km__tModel_start (km_a h (by omega))) (fun u65 hu65 => (km_s hu65)))) (km_1 (km__tModel_behindFirst (km_a h (by omega))) (fun u63 hu63 => (km_s hu63)))))))))))))))))))))))
theorem csteps_fr : ∀ {k : Nat} {c c' : St}, CSteps k c c' → FrR c c' := by
  intro k
  induction k with
  | zero => intro c c' h; cases h; exact kcr c
  | succ k ih =>
    intro c c' h
    obtain ⟨-, c1, h1, h2⟩ := h
    exact kct (kc_tMachine_step (kcr c) c1 h1) (ih h2)
theorem msteps_fr : ∀ {k : Nat} {m m' : St}, MSteps k m m' → FrS m m' := by
  intro k
  induction k with
  | zero => intro m m' h; cases h; exact km_r m
  | succ k ih =>
    intro m m' h
    obtain ⟨-, -, m1, h1, h2⟩ := h
    exact km_t (km__tModel_goOn (km_r m) m1 h1) (ih h2)
