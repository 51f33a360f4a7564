/-! The two readers of a text: their states in one form. -/
def mkW (g : St) (r q w a o l : Int32) (co op sz : Nat → Int32) : St := (fun j => if j = 1 then r else if j = 2 then q else if j = 3 then w else if j = 6 then a else if j = 7 then o else if j = 13 then l else g.1 j, g.2.1, fun j => if j = 6 then co else if j = 7 then op else if j = 8 then sz else g.2.2.1 j, g.2.2.2)
section MKW
variable {g : St} {r q w a o l x : Int32} {co op sz F : Nat → Int32}
theorem mkW_i1 : (mkW g r q w a o l co op sz).1 1 = r := rfl
theorem mkW_i2 : (mkW g r q w a o l co op sz).1 2 = q := rfl
theorem mkW_i3 : (mkW g r q w a o l co op sz).1 3 = w := rfl
theorem mkW_i6 : (mkW g r q w a o l co op sz).1 6 = a := rfl
theorem mkW_i7 : (mkW g r q w a o l co op sz).1 7 = o := rfl
theorem mkW_i13 : (mkW g r q w a o l co op sz).1 13 = l := rfl
theorem mkW_r6 : (mkW g r q w a o l co op sz).2.2.1 6 = co := rfl
theorem mkW_r7 : (mkW g r q w a o l co op sz).2.2.1 7 = op := rfl
theorem mkW_r8 : (mkW g r q w a o l co op sz).2.2.1 8 = sz := rfl
theorem mkW_i0 : (mkW g r q w a o l co op sz).1 0 = g.1 0 := rfl
theorem mkW_i4 : (mkW g r q w a o l co op sz).1 4 = g.1 4 := rfl
theorem mkW_i5 : (mkW g r q w a o l co op sz).1 5 = g.1 5 := rfl
theorem mkW_i8 : (mkW g r q w a o l co op sz).1 8 = g.1 8 := rfl
theorem mkW_i9 : (mkW g r q w a o l co op sz).1 9 = g.1 9 := rfl
theorem mkW_i10 : (mkW g r q w a o l co op sz).1 10 = g.1 10 := rfl
theorem mkW_i11 : (mkW g r q w a o l co op sz).1 11 = g.1 11 := rfl
theorem mkW_i12 : (mkW g r q w a o l co op sz).1 12 = g.1 12 := rfl
theorem mkW_i14 : (mkW g r q w a o l co op sz).1 14 = g.1 14 := rfl
theorem mkW_r0 : (mkW g r q w a o l co op sz).2.2.1 0 = g.2.2.1 0 := rfl
theorem mkW_r1 : (mkW g r q w a o l co op sz).2.2.1 1 = g.2.2.1 1 := rfl
theorem mkW_r2 : (mkW g r q w a o l co op sz).2.2.1 2 = g.2.2.1 2 := rfl
theorem mkW_r3 : (mkW g r q w a o l co op sz).2.2.1 3 = g.2.2.1 3 := rfl
theorem mkW_r4 : (mkW g r q w a o l co op sz).2.2.1 4 = g.2.2.1 4 := rfl
theorem mkW_r5 : (mkW g r q w a o l co op sz).2.2.1 5 = g.2.2.1 5 := rfl
theorem mkW_s1 : sI (mkW g r q w a o l co op sz) 1 x = mkW g x q w a o l co op sz := by
  refine Prod.ext (funext fun j => ?_) rfl
  simp only [sI, mkW]
  by_cases h : j = 1
  · subst h; rfl
  · simp only [if_neg h]
theorem mkW_s2 : sI (mkW g r q w a o l co op sz) 2 x = mkW g r x w a o l co op sz := by
  refine Prod.ext (funext fun j => ?_) rfl
  simp only [sI, mkW]
  by_cases h : j = 2
  · subst h; rfl
  · simp only [if_neg h]
theorem mkW_s3 : sI (mkW g r q w a o l co op sz) 3 x = mkW g r q x a o l co op sz := by
  refine Prod.ext (funext fun j => ?_) rfl
  simp only [sI, mkW]
  by_cases h : j = 3
  · subst h; rfl
  · simp only [if_neg h]
theorem mkW_s6 : sI (mkW g r q w a o l co op sz) 6 x = mkW g r q w x o l co op sz := by
  refine Prod.ext (funext fun j => ?_) rfl
  simp only [sI, mkW]
  by_cases h : j = 6
  · subst h; rfl
  · simp only [if_neg h]
theorem mkW_s7 : sI (mkW g r q w a o l co op sz) 7 x = mkW g r q w a x l co op sz := by
  refine Prod.ext (funext fun j => ?_) rfl
  simp only [sI, mkW]
  by_cases h : j = 7
  · subst h; rfl
  · simp only [if_neg h]
theorem mkW_s13 : sI (mkW g r q w a o l co op sz) 13 x = mkW g r q w a o x co op sz := by
  refine Prod.ext (funext fun j => ?_) rfl
  simp only [sI, mkW]
  by_cases h : j = 13
  · subst h; rfl
  · simp only [if_neg h]
theorem mkW_t6 : sA (mkW g r q w a o l co op sz) 6 F = mkW g r q w a o l F op sz := by
  refine Prod.ext rfl (Prod.ext rfl (Prod.ext (funext fun j => ?_) rfl))
  simp only [sA, mkW]
  by_cases h : j = 6
  · subst h; rfl
  · simp only [if_neg h]
theorem mkW_t7 : sA (mkW g r q w a o l co op sz) 7 F = mkW g r q w a o l co F sz := by
  refine Prod.ext rfl (Prod.ext rfl (Prod.ext (funext fun j => ?_) rfl))
  simp only [sA, mkW]
  by_cases h : j = 7
  · subst h; rfl
  · simp only [if_neg h]
theorem mkW_t8 : sA (mkW g r q w a o l co op sz) 8 F = mkW g r q w a o l co op F := by
  refine Prod.ext rfl (Prod.ext rfl (Prod.ext (funext fun j => ?_) rfl))
  simp only [sA, mkW]
  by_cases h : j = 8
  · subst h; rfl
  · simp only [if_neg h]
end MKW
def mkV (g : St) (y q ft a o nd oc wt : Int32) (so wh oe tw th nx tk os wa wf : Nat → Int32) : St := (fun j => if j = 29 then y else if j = 30 then q else if j = 33 then ft else if j = 31 then a else if j = 32 then o else if j = 34 then nd else if j = 40 then oc else if j = 41 then wt else g.1 j, g.2.1, fun j => if j = 20 then so else if j = 21 then wh else if j = 22 then oe else if j = 23 then tw else if j = 24 then th else if j = 25 then nx else if j = 26 then tk else if j = 33 then os else if j = 34 then wa else if j = 35 then wf else g.2.2.1 j, g.2.2.2)
section MKV
variable {g : St} {y q ft a o nd oc wt x : Int32} {so wh oe tw th nx tk os wa wf F : Nat → Int32}
theorem mkV_i29 : (mkV g y q ft a o nd oc wt so wh oe tw th nx tk os wa wf).1 29 = y := rfl
theorem mkV_i30 : (mkV g y q ft a o nd oc wt so wh oe tw th nx tk os wa wf).1 30 = q := rfl
theorem mkV_i33 : (mkV g y q ft a o nd oc wt so wh oe tw th nx tk os wa wf).1 33 = ft := rfl
theorem mkV_i31 : (mkV g y q ft a o nd oc wt so wh oe tw th nx tk os wa wf).1 31 = a := rfl
theorem mkV_i32 : (mkV g y q ft a o nd oc wt so wh oe tw th nx tk os wa wf).1 32 = o := rfl
theorem mkV_i34 : (mkV g y q ft a o nd oc wt so wh oe tw th nx tk os wa wf).1 34 = nd := rfl
theorem mkV_i40 : (mkV g y q ft a o nd oc wt so wh oe tw th nx tk os wa wf).1 40 = oc := rfl
theorem mkV_i41 : (mkV g y q ft a o nd oc wt so wh oe tw th nx tk os wa wf).1 41 = wt := rfl
theorem mkV_r20 : (mkV g y q ft a o nd oc wt so wh oe tw th nx tk os wa wf).2.2.1 20 = so := rfl
theorem mkV_r21 : (mkV g y q ft a o nd oc wt so wh oe tw th nx tk os wa wf).2.2.1 21 = wh := rfl
theorem mkV_r22 : (mkV g y q ft a o nd oc wt so wh oe tw th nx tk os wa wf).2.2.1 22 = oe := rfl
theorem mkV_r23 : (mkV g y q ft a o nd oc wt so wh oe tw th nx tk os wa wf).2.2.1 23 = tw := rfl
theorem mkV_r24 : (mkV g y q ft a o nd oc wt so wh oe tw th nx tk os wa wf).2.2.1 24 = th := rfl
theorem mkV_r25 : (mkV g y q ft a o nd oc wt so wh oe tw th nx tk os wa wf).2.2.1 25 = nx := rfl
theorem mkV_r26 : (mkV g y q ft a o nd oc wt so wh oe tw th nx tk os wa wf).2.2.1 26 = tk := rfl
theorem mkV_r33 : (mkV g y q ft a o nd oc wt so wh oe tw th nx tk os wa wf).2.2.1 33 = os := rfl
theorem mkV_r34 : (mkV g y q ft a o nd oc wt so wh oe tw th nx tk os wa wf).2.2.1 34 = wa := rfl
theorem mkV_r35 : (mkV g y q ft a o nd oc wt so wh oe tw th nx tk os wa wf).2.2.1 35 = wf := rfl
theorem mkV_i27 : (mkV g y q ft a o nd oc wt so wh oe tw th nx tk os wa wf).1 27 = g.1 27 := rfl
theorem mkV_i28 : (mkV g y q ft a o nd oc wt so wh oe tw th nx tk os wa wf).1 28 = g.1 28 := rfl
theorem mkV_i35 : (mkV g y q ft a o nd oc wt so wh oe tw th nx tk os wa wf).1 35 = g.1 35 := rfl
theorem mkV_i36 : (mkV g y q ft a o nd oc wt so wh oe tw th nx tk os wa wf).1 36 = g.1 36 := rfl
theorem mkV_i37 : (mkV g y q ft a o nd oc wt so wh oe tw th nx tk os wa wf).1 37 = g.1 37 := rfl
theorem mkV_i38 : (mkV g y q ft a o nd oc wt so wh oe tw th nx tk os wa wf).1 38 = g.1 38 := rfl
theorem mkV_i39 : (mkV g y q ft a o nd oc wt so wh oe tw th nx tk os wa wf).1 39 = g.1 39 := rfl
theorem mkV_i42 : (mkV g y q ft a o nd oc wt so wh oe tw th nx tk os wa wf).1 42 = g.1 42 := rfl
theorem mkV_i43 : (mkV g y q ft a o nd oc wt so wh oe tw th nx tk os wa wf).1 43 = g.1 43 := rfl
theorem mkV_i44 : (mkV g y q ft a o nd oc wt so wh oe tw th nx tk os wa wf).1 44 = g.1 44 := rfl
theorem mkV_r15 : (mkV g y q ft a o nd oc wt so wh oe tw th nx tk os wa wf).2.2.1 15 = g.2.2.1 15 := rfl
theorem mkV_r16 : (mkV g y q ft a o nd oc wt so wh oe tw th nx tk os wa wf).2.2.1 16 = g.2.2.1 16 := rfl
theorem mkV_r17 : (mkV g y q ft a o nd oc wt so wh oe tw th nx tk os wa wf).2.2.1 17 = g.2.2.1 17 := rfl
theorem mkV_r18 : (mkV g y q ft a o nd oc wt so wh oe tw th nx tk os wa wf).2.2.1 18 = g.2.2.1 18 := rfl
theorem mkV_r19 : (mkV g y q ft a o nd oc wt so wh oe tw th nx tk os wa wf).2.2.1 19 = g.2.2.1 19 := rfl
theorem mkV_r27 : (mkV g y q ft a o nd oc wt so wh oe tw th nx tk os wa wf).2.2.1 27 = g.2.2.1 27 := rfl
theorem mkV_r28 : (mkV g y q ft a o nd oc wt so wh oe tw th nx tk os wa wf).2.2.1 28 = g.2.2.1 28 := rfl
theorem mkV_r29 : (mkV g y q ft a o nd oc wt so wh oe tw th nx tk os wa wf).2.2.1 29 = g.2.2.1 29 := rfl
theorem mkV_r30 : (mkV g y q ft a o nd oc wt so wh oe tw th nx tk os wa wf).2.2.1 30 = g.2.2.1 30 := rfl
theorem mkV_r31 : (mkV g y q ft a o nd oc wt so wh oe tw th nx tk os wa wf).2.2.1 31 = g.2.2.1 31 := rfl
theorem mkV_r32 : (mkV g y q ft a o nd oc wt so wh oe tw th nx tk os wa wf).2.2.1 32 = g.2.2.1 32 := rfl
theorem mkV_r36 : (mkV g y q ft a o nd oc wt so wh oe tw th nx tk os wa wf).2.2.1 36 = g.2.2.1 36 := rfl
theorem mkV_s29 : sI (mkV g y q ft a o nd oc wt so wh oe tw th nx tk os wa wf) 29 x = mkV g x q ft a o nd oc wt so wh oe tw th nx tk os wa wf := by
  refine Prod.ext (funext fun j => ?_) rfl
  simp only [sI, mkV]
  by_cases h : j = 29
  · subst h; rfl
  · simp only [if_neg h]
theorem mkV_s30 : sI (mkV g y q ft a o nd oc wt so wh oe tw th nx tk os wa wf) 30 x = mkV g y x ft a o nd oc wt so wh oe tw th nx tk os wa wf := by
  refine Prod.ext (funext fun j => ?_) rfl
  simp only [sI, mkV]
  by_cases h : j = 30
  · subst h; rfl
  · simp only [if_neg h]
theorem mkV_s33 : sI (mkV g y q ft a o nd oc wt so wh oe tw th nx tk os wa wf) 33 x = mkV g y q x a o nd oc wt so wh oe tw th nx tk os wa wf := by
  refine Prod.ext (funext fun j => ?_) rfl
  simp only [sI, mkV]
  by_cases h : j = 33
  · subst h; rfl
  · simp only [if_neg h]
theorem mkV_s31 : sI (mkV g y q ft a o nd oc wt so wh oe tw th nx tk os wa wf) 31 x = mkV g y q ft x o nd oc wt so wh oe tw th nx tk os wa wf := by
  refine Prod.ext (funext fun j => ?_) rfl
  simp only [sI, mkV]
  by_cases h : j = 31
  · subst h; rfl
  · simp only [if_neg h]
theorem mkV_s32 : sI (mkV g y q ft a o nd oc wt so wh oe tw th nx tk os wa wf) 32 x = mkV g y q ft a x nd oc wt so wh oe tw th nx tk os wa wf := by
  refine Prod.ext (funext fun j => ?_) rfl
  simp only [sI, mkV]
  by_cases h : j = 32
  · subst h; rfl
  · simp only [if_neg h]
theorem mkV_s34 : sI (mkV g y q ft a o nd oc wt so wh oe tw th nx tk os wa wf) 34 x = mkV g y q ft a o x oc wt so wh oe tw th nx tk os wa wf := by
  refine Prod.ext (funext fun j => ?_) rfl
  simp only [sI, mkV]
  by_cases h : j = 34
  · subst h; rfl
  · simp only [if_neg h]
theorem mkV_s40 : sI (mkV g y q ft a o nd oc wt so wh oe tw th nx tk os wa wf) 40 x = mkV g y q ft a o nd x wt so wh oe tw th nx tk os wa wf := by
  refine Prod.ext (funext fun j => ?_) rfl
  simp only [sI, mkV]
  by_cases h : j = 40
  · subst h; rfl
  · simp only [if_neg h]
theorem mkV_s41 : sI (mkV g y q ft a o nd oc wt so wh oe tw th nx tk os wa wf) 41 x = mkV g y q ft a o nd oc x so wh oe tw th nx tk os wa wf := by
  refine Prod.ext (funext fun j => ?_) rfl
  simp only [sI, mkV]
  by_cases h : j = 41
  · subst h; rfl
  · simp only [if_neg h]
theorem mkV_t20 : sA (mkV g y q ft a o nd oc wt so wh oe tw th nx tk os wa wf) 20 F = mkV g y q ft a o nd oc wt F wh oe tw th nx tk os wa wf := by
  refine Prod.ext rfl (Prod.ext rfl (Prod.ext (funext fun j => ?_) rfl))
  simp only [sA, mkV]
  by_cases h : j = 20
  · subst h; rfl
  · simp only [if_neg h]
theorem mkV_t21 : sA (mkV g y q ft a o nd oc wt so wh oe tw th nx tk os wa wf) 21 F = mkV g y q ft a o nd oc wt so F oe tw th nx tk os wa wf := by
  refine Prod.ext rfl (Prod.ext rfl (Prod.ext (funext fun j => ?_) rfl))
  simp only [sA, mkV]
  by_cases h : j = 21
  · subst h; rfl
  · simp only [if_neg h]
theorem mkV_t22 : sA (mkV g y q ft a o nd oc wt so wh oe tw th nx tk os wa wf) 22 F = mkV g y q ft a o nd oc wt so wh F tw th nx tk os wa wf := by
  refine Prod.ext rfl (Prod.ext rfl (Prod.ext (funext fun j => ?_) rfl))
  simp only [sA, mkV]
  by_cases h : j = 22
  · subst h; rfl
  · simp only [if_neg h]
theorem mkV_t23 : sA (mkV g y q ft a o nd oc wt so wh oe tw th nx tk os wa wf) 23 F = mkV g y q ft a o nd oc wt so wh oe F th nx tk os wa wf := by
  refine Prod.ext rfl (Prod.ext rfl (Prod.ext (funext fun j => ?_) rfl))
  simp only [sA, mkV]
  by_cases h : j = 23
  · subst h; rfl
  · simp only [if_neg h]
theorem mkV_t24 : sA (mkV g y q ft a o nd oc wt so wh oe tw th nx tk os wa wf) 24 F = mkV g y q ft a o nd oc wt so wh oe tw F nx tk os wa wf := by
  refine Prod.ext rfl (Prod.ext rfl (Prod.ext (funext fun j => ?_) rfl))
  simp only [sA, mkV]
  by_cases h : j = 24
  · subst h; rfl
  · simp only [if_neg h]
theorem mkV_t25 : sA (mkV g y q ft a o nd oc wt so wh oe tw th nx tk os wa wf) 25 F = mkV g y q ft a o nd oc wt so wh oe tw th F tk os wa wf := by
  refine Prod.ext rfl (Prod.ext rfl (Prod.ext (funext fun j => ?_) rfl))
  simp only [sA, mkV]
  by_cases h : j = 25
  · subst h; rfl
  · simp only [if_neg h]
theorem mkV_t26 : sA (mkV g y q ft a o nd oc wt so wh oe tw th nx tk os wa wf) 26 F = mkV g y q ft a o nd oc wt so wh oe tw th nx F os wa wf := by
  refine Prod.ext rfl (Prod.ext rfl (Prod.ext (funext fun j => ?_) rfl))
  simp only [sA, mkV]
  by_cases h : j = 26
  · subst h; rfl
  · simp only [if_neg h]
theorem mkV_t33 : sA (mkV g y q ft a o nd oc wt so wh oe tw th nx tk os wa wf) 33 F = mkV g y q ft a o nd oc wt so wh oe tw th nx tk F wa wf := by
  refine Prod.ext rfl (Prod.ext rfl (Prod.ext (funext fun j => ?_) rfl))
  simp only [sA, mkV]
  by_cases h : j = 33
  · subst h; rfl
  · simp only [if_neg h]
theorem mkV_t34 : sA (mkV g y q ft a o nd oc wt so wh oe tw th nx tk os wa wf) 34 F = mkV g y q ft a o nd oc wt so wh oe tw th nx tk os F wf := by
  refine Prod.ext rfl (Prod.ext rfl (Prod.ext (funext fun j => ?_) rfl))
  simp only [sA, mkV]
  by_cases h : j = 34
  · subst h; rfl
  · simp only [if_neg h]
theorem mkV_t35 : sA (mkV g y q ft a o nd oc wt so wh oe tw th nx tk os wa wf) 35 F = mkV g y q ft a o nd oc wt so wh oe tw th nx tk os wa F := by
  refine Prod.ext rfl (Prod.ext rfl (Prod.ext (funext fun j => ?_) rfl))
  simp only [sA, mkV]
  by_cases h : j = 35
  · subst h; rfl
  · simp only [if_neg h]
end MKV
