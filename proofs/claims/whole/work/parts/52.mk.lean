/-! The two machines while they run: their states in one form. -/
def mkC (g : St) (nx T B f p s o t res : Int32) (stk el re ba ou : Nat → Int32) : St := (fun j => if j = 16 then nx else if j = 17 then T else if j = 18 then B else if j = 19 then f else if j = 20 then p else if j = 21 then s else if j = 22 then o else if j = 23 then t else if j = 24 then res else g.1 j, g.2.1, fun j => if j = 10 then stk else if j = 11 then el else if j = 12 then re else if j = 13 then ba else if j = 14 then ou else g.2.2.1 j, g.2.2.2)
section MKC
variable {g : St} {nx T B f p s o t res x : Int32} {stk el re ba ou F : Nat → Int32}
theorem mkC_i16 : (mkC g nx T B f p s o t res stk el re ba ou).1 16 = nx := rfl
theorem mkC_i17 : (mkC g nx T B f p s o t res stk el re ba ou).1 17 = T := rfl
theorem mkC_i18 : (mkC g nx T B f p s o t res stk el re ba ou).1 18 = B := rfl
theorem mkC_i19 : (mkC g nx T B f p s o t res stk el re ba ou).1 19 = f := rfl
theorem mkC_i20 : (mkC g nx T B f p s o t res stk el re ba ou).1 20 = p := rfl
theorem mkC_i21 : (mkC g nx T B f p s o t res stk el re ba ou).1 21 = s := rfl
theorem mkC_i22 : (mkC g nx T B f p s o t res stk el re ba ou).1 22 = o := rfl
theorem mkC_i23 : (mkC g nx T B f p s o t res stk el re ba ou).1 23 = t := rfl
theorem mkC_i24 : (mkC g nx T B f p s o t res stk el re ba ou).1 24 = res := rfl
theorem mkC_r10 : (mkC g nx T B f p s o t res stk el re ba ou).2.2.1 10 = stk := rfl
theorem mkC_r11 : (mkC g nx T B f p s o t res stk el re ba ou).2.2.1 11 = el := rfl
theorem mkC_r12 : (mkC g nx T B f p s o t res stk el re ba ou).2.2.1 12 = re := rfl
theorem mkC_r13 : (mkC g nx T B f p s o t res stk el re ba ou).2.2.1 13 = ba := rfl
theorem mkC_r14 : (mkC g nx T B f p s o t res stk el re ba ou).2.2.1 14 = ou := rfl
theorem mkC_i13 : (mkC g nx T B f p s o t res stk el re ba ou).1 13 = g.1 13 := rfl
theorem mkC_i14 : (mkC g nx T B f p s o t res stk el re ba ou).1 14 = g.1 14 := rfl
theorem mkC_i15 : (mkC g nx T B f p s o t res stk el re ba ou).1 15 = g.1 15 := rfl
theorem mkC_r6 : (mkC g nx T B f p s o t res stk el re ba ou).2.2.1 6 = g.2.2.1 6 := rfl
theorem mkC_r7 : (mkC g nx T B f p s o t res stk el re ba ou).2.2.1 7 = g.2.2.1 7 := rfl
theorem mkC_r8 : (mkC g nx T B f p s o t res stk el re ba ou).2.2.1 8 = g.2.2.1 8 := rfl
theorem mkC_r9 : (mkC g nx T B f p s o t res stk el re ba ou).2.2.1 9 = g.2.2.1 9 := rfl
theorem mkC_s16 : sI (mkC g nx T B f p s o t res stk el re ba ou) 16 x = mkC g x T B f p s o t res stk el re ba ou := by
  refine Prod.ext (funext fun j => ?_) rfl
  simp only [sI, mkC]
  by_cases h : j = 16
  · subst h; rfl
  · simp only [if_neg h]
theorem mkC_s17 : sI (mkC g nx T B f p s o t res stk el re ba ou) 17 x = mkC g nx x B f p s o t res stk el re ba ou := by
  refine Prod.ext (funext fun j => ?_) rfl
  simp only [sI, mkC]
  by_cases h : j = 17
  · subst h; rfl
  · simp only [if_neg h]
theorem mkC_s18 : sI (mkC g nx T B f p s o t res stk el re ba ou) 18 x = mkC g nx T x f p s o t res stk el re ba ou := by
  refine Prod.ext (funext fun j => ?_) rfl
  simp only [sI, mkC]
  by_cases h : j = 18
  · subst h; rfl
  · simp only [if_neg h]
theorem mkC_s19 : sI (mkC g nx T B f p s o t res stk el re ba ou) 19 x = mkC g nx T B x p s o t res stk el re ba ou := by
  refine Prod.ext (funext fun j => ?_) rfl
  simp only [sI, mkC]
  by_cases h : j = 19
  · subst h; rfl
  · simp only [if_neg h]
theorem mkC_s20 : sI (mkC g nx T B f p s o t res stk el re ba ou) 20 x = mkC g nx T B f x s o t res stk el re ba ou := by
  refine Prod.ext (funext fun j => ?_) rfl
  simp only [sI, mkC]
  by_cases h : j = 20
  · subst h; rfl
  · simp only [if_neg h]
theorem mkC_s21 : sI (mkC g nx T B f p s o t res stk el re ba ou) 21 x = mkC g nx T B f p x o t res stk el re ba ou := by
  refine Prod.ext (funext fun j => ?_) rfl
  simp only [sI, mkC]
  by_cases h : j = 21
  · subst h; rfl
  · simp only [if_neg h]
theorem mkC_s22 : sI (mkC g nx T B f p s o t res stk el re ba ou) 22 x = mkC g nx T B f p s x t res stk el re ba ou := by
  refine Prod.ext (funext fun j => ?_) rfl
  simp only [sI, mkC]
  by_cases h : j = 22
  · subst h; rfl
  · simp only [if_neg h]
theorem mkC_s23 : sI (mkC g nx T B f p s o t res stk el re ba ou) 23 x = mkC g nx T B f p s o x res stk el re ba ou := by
  refine Prod.ext (funext fun j => ?_) rfl
  simp only [sI, mkC]
  by_cases h : j = 23
  · subst h; rfl
  · simp only [if_neg h]
theorem mkC_s24 : sI (mkC g nx T B f p s o t res stk el re ba ou) 24 x = mkC g nx T B f p s o t x stk el re ba ou := by
  refine Prod.ext (funext fun j => ?_) rfl
  simp only [sI, mkC]
  by_cases h : j = 24
  · subst h; rfl
  · simp only [if_neg h]
theorem mkC_t10 : sA (mkC g nx T B f p s o t res stk el re ba ou) 10 F = mkC g nx T B f p s o t res F el re ba ou := by
  refine Prod.ext rfl (Prod.ext rfl (Prod.ext (funext fun j => ?_) rfl))
  simp only [sA, mkC]
  by_cases h : j = 10
  · subst h; rfl
  · simp only [if_neg h]
theorem mkC_t11 : sA (mkC g nx T B f p s o t res stk el re ba ou) 11 F = mkC g nx T B f p s o t res stk F re ba ou := by
  refine Prod.ext rfl (Prod.ext rfl (Prod.ext (funext fun j => ?_) rfl))
  simp only [sA, mkC]
  by_cases h : j = 11
  · subst h; rfl
  · simp only [if_neg h]
theorem mkC_t12 : sA (mkC g nx T B f p s o t res stk el re ba ou) 12 F = mkC g nx T B f p s o t res stk el F ba ou := by
  refine Prod.ext rfl (Prod.ext rfl (Prod.ext (funext fun j => ?_) rfl))
  simp only [sA, mkC]
  by_cases h : j = 12
  · subst h; rfl
  · simp only [if_neg h]
theorem mkC_t13 : sA (mkC g nx T B f p s o t res stk el re ba ou) 13 F = mkC g nx T B f p s o t res stk el re F ou := by
  refine Prod.ext rfl (Prod.ext rfl (Prod.ext (funext fun j => ?_) rfl))
  simp only [sA, mkC]
  by_cases h : j = 13
  · subst h; rfl
  · simp only [if_neg h]
theorem mkC_t14 : sA (mkC g nx T B f p s o t res stk el re ba ou) 14 F = mkC g nx T B f p s o t res stk el re ba F := by
  refine Prod.ext rfl (Prod.ext rfl (Prod.ext (funext fun j => ?_) rfl))
  simp only [sA, mkC]
  by_cases h : j = 14
  · subst h; rfl
  · simp only [if_neg h]
end MKC
def mkM (g : St) (tk o D V f t s : Int32) (ou ce bk bg sg vl : Nat → Int32) : St := (fun j => if j = 46 then tk else if j = 47 then o else if j = 48 then D else if j = 49 then V else if j = 50 then f else if j = 51 then t else if j = 52 then s else g.1 j, g.2.1, fun j => if j = 38 then ou else if j = 39 then ce else if j = 40 then bk else if j = 41 then bg else if j = 42 then sg else if j = 43 then vl else g.2.2.1 j, g.2.2.2)
section MKM
variable {g : St} {tk o D V f t s x : Int32} {ou ce bk bg sg vl F : Nat → Int32}
theorem mkM_i46 : (mkM g tk o D V f t s ou ce bk bg sg vl).1 46 = tk := rfl
theorem mkM_i47 : (mkM g tk o D V f t s ou ce bk bg sg vl).1 47 = o := rfl
theorem mkM_i48 : (mkM g tk o D V f t s ou ce bk bg sg vl).1 48 = D := rfl
theorem mkM_i49 : (mkM g tk o D V f t s ou ce bk bg sg vl).1 49 = V := rfl
theorem mkM_i50 : (mkM g tk o D V f t s ou ce bk bg sg vl).1 50 = f := rfl
theorem mkM_i51 : (mkM g tk o D V f t s ou ce bk bg sg vl).1 51 = t := rfl
theorem mkM_i52 : (mkM g tk o D V f t s ou ce bk bg sg vl).1 52 = s := rfl
theorem mkM_r38 : (mkM g tk o D V f t s ou ce bk bg sg vl).2.2.1 38 = ou := rfl
theorem mkM_r39 : (mkM g tk o D V f t s ou ce bk bg sg vl).2.2.1 39 = ce := rfl
theorem mkM_r40 : (mkM g tk o D V f t s ou ce bk bg sg vl).2.2.1 40 = bk := rfl
theorem mkM_r41 : (mkM g tk o D V f t s ou ce bk bg sg vl).2.2.1 41 = bg := rfl
theorem mkM_r42 : (mkM g tk o D V f t s ou ce bk bg sg vl).2.2.1 42 = sg := rfl
theorem mkM_r43 : (mkM g tk o D V f t s ou ce bk bg sg vl).2.2.1 43 = vl := rfl
theorem mkM_i34 : (mkM g tk o D V f t s ou ce bk bg sg vl).1 34 = g.1 34 := rfl
theorem mkM_i44 : (mkM g tk o D V f t s ou ce bk bg sg vl).1 44 = g.1 44 := rfl
theorem mkM_i45 : (mkM g tk o D V f t s ou ce bk bg sg vl).1 45 = g.1 45 := rfl
theorem mkM_r20 : (mkM g tk o D V f t s ou ce bk bg sg vl).2.2.1 20 = g.2.2.1 20 := rfl
theorem mkM_r21 : (mkM g tk o D V f t s ou ce bk bg sg vl).2.2.1 21 = g.2.2.1 21 := rfl
theorem mkM_r22 : (mkM g tk o D V f t s ou ce bk bg sg vl).2.2.1 22 = g.2.2.1 22 := rfl
theorem mkM_r23 : (mkM g tk o D V f t s ou ce bk bg sg vl).2.2.1 23 = g.2.2.1 23 := rfl
theorem mkM_r24 : (mkM g tk o D V f t s ou ce bk bg sg vl).2.2.1 24 = g.2.2.1 24 := rfl
theorem mkM_r25 : (mkM g tk o D V f t s ou ce bk bg sg vl).2.2.1 25 = g.2.2.1 25 := rfl
theorem mkM_r29 : (mkM g tk o D V f t s ou ce bk bg sg vl).2.2.1 29 = g.2.2.1 29 := rfl
theorem mkM_r30 : (mkM g tk o D V f t s ou ce bk bg sg vl).2.2.1 30 = g.2.2.1 30 := rfl
theorem mkM_r37 : (mkM g tk o D V f t s ou ce bk bg sg vl).2.2.1 37 = g.2.2.1 37 := rfl
theorem mkM_s46 : sI (mkM g tk o D V f t s ou ce bk bg sg vl) 46 x = mkM g x o D V f t s ou ce bk bg sg vl := by
  refine Prod.ext (funext fun j => ?_) rfl
  simp only [sI, mkM]
  by_cases h : j = 46
  · subst h; rfl
  · simp only [if_neg h]
theorem mkM_s47 : sI (mkM g tk o D V f t s ou ce bk bg sg vl) 47 x = mkM g tk x D V f t s ou ce bk bg sg vl := by
  refine Prod.ext (funext fun j => ?_) rfl
  simp only [sI, mkM]
  by_cases h : j = 47
  · subst h; rfl
  · simp only [if_neg h]
theorem mkM_s48 : sI (mkM g tk o D V f t s ou ce bk bg sg vl) 48 x = mkM g tk o x V f t s ou ce bk bg sg vl := by
  refine Prod.ext (funext fun j => ?_) rfl
  simp only [sI, mkM]
  by_cases h : j = 48
  · subst h; rfl
  · simp only [if_neg h]
theorem mkM_s49 : sI (mkM g tk o D V f t s ou ce bk bg sg vl) 49 x = mkM g tk o D x f t s ou ce bk bg sg vl := by
  refine Prod.ext (funext fun j => ?_) rfl
  simp only [sI, mkM]
  by_cases h : j = 49
  · subst h; rfl
  · simp only [if_neg h]
theorem mkM_s50 : sI (mkM g tk o D V f t s ou ce bk bg sg vl) 50 x = mkM g tk o D V x t s ou ce bk bg sg vl := by
  refine Prod.ext (funext fun j => ?_) rfl
  simp only [sI, mkM]
  by_cases h : j = 50
  · subst h; rfl
  · simp only [if_neg h]
theorem mkM_s51 : sI (mkM g tk o D V f t s ou ce bk bg sg vl) 51 x = mkM g tk o D V f x s ou ce bk bg sg vl := by
  refine Prod.ext (funext fun j => ?_) rfl
  simp only [sI, mkM]
  by_cases h : j = 51
  · subst h; rfl
  · simp only [if_neg h]
theorem mkM_s52 : sI (mkM g tk o D V f t s ou ce bk bg sg vl) 52 x = mkM g tk o D V f t x ou ce bk bg sg vl := by
  refine Prod.ext (funext fun j => ?_) rfl
  simp only [sI, mkM]
  by_cases h : j = 52
  · subst h; rfl
  · simp only [if_neg h]
theorem mkM_t38 : sA (mkM g tk o D V f t s ou ce bk bg sg vl) 38 F = mkM g tk o D V f t s F ce bk bg sg vl := by
  refine Prod.ext rfl (Prod.ext rfl (Prod.ext (funext fun j => ?_) rfl))
  simp only [sA, mkM]
  by_cases h : j = 38
  · subst h; rfl
  · simp only [if_neg h]
theorem mkM_t39 : sA (mkM g tk o D V f t s ou ce bk bg sg vl) 39 F = mkM g tk o D V f t s ou F bk bg sg vl := by
  refine Prod.ext rfl (Prod.ext rfl (Prod.ext (funext fun j => ?_) rfl))
  simp only [sA, mkM]
  by_cases h : j = 39
  · subst h; rfl
  · simp only [if_neg h]
theorem mkM_t40 : sA (mkM g tk o D V f t s ou ce bk bg sg vl) 40 F = mkM g tk o D V f t s ou ce F bg sg vl := by
  refine Prod.ext rfl (Prod.ext rfl (Prod.ext (funext fun j => ?_) rfl))
  simp only [sA, mkM]
  by_cases h : j = 40
  · subst h; rfl
  · simp only [if_neg h]
theorem mkM_t41 : sA (mkM g tk o D V f t s ou ce bk bg sg vl) 41 F = mkM g tk o D V f t s ou ce bk F sg vl := by
  refine Prod.ext rfl (Prod.ext rfl (Prod.ext (funext fun j => ?_) rfl))
  simp only [sA, mkM]
  by_cases h : j = 41
  · subst h; rfl
  · simp only [if_neg h]
theorem mkM_t42 : sA (mkM g tk o D V f t s ou ce bk bg sg vl) 42 F = mkM g tk o D V f t s ou ce bk bg F vl := by
  refine Prod.ext rfl (Prod.ext rfl (Prod.ext (funext fun j => ?_) rfl))
  simp only [sA, mkM]
  by_cases h : j = 42
  · subst h; rfl
  · simp only [if_neg h]
theorem mkM_t43 : sA (mkM g tk o D V f t s ou ce bk bg sg vl) 43 F = mkM g tk o D V f t s ou ce bk bg sg F := by
  refine Prod.ext rfl (Prod.ext rfl (Prod.ext (funext fun j => ?_) rfl))
  simp only [sA, mkM]
  by_cases h : j = 43
  · subst h; rfl
  · simp only [if_neg h]
end MKM
