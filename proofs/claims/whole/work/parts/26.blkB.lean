section
variable (X : Nat × (Nat → Int32))
def c_X6_set : List Nat := [18, 36, 90, 119]
set_option maxRecDepth 100000 in
theorem bX6_set_0 (d : Nat) (a1 : Int32) (a2 : Int32) (a3 : Int32) (M : MM) (w : Int64) (fm : Bool) (l : List (Nat × Nat × Nat)) (t u : Nat) : nR X (callN X d) hX6_set 0 [vR 2 0, vI a1, vI a2, vI a3, vX] [] (M, w, true, fm, l, t, u) = if a1 < 0 then some (some (vI (-2 : Int32)), (M, w, true, fm, l, t, u)) else if a1 ≤ (3 : Int32) then nBnd (callN X d 53 [vR 2 0, vI a2, vI a1] (M, w, true, fm, l, t, u)) (fun v s2 => nR X (callN X d) hX6_set 18 [vR 2 0, vI a1, vI a2, vI a3, vX] (v.toList ++ []) s2) else some (some (vI (-2 : Int32)), (M, w, true, fm, l, t, u)) :=
  (nR_itc X _ _ c_X6_set 9 _ _ _ _).trans rfl
set_option maxRecDepth 100000 in
theorem bX6_set_18 (d : Nat) (x1 : Int32) (x2 : Int32) (x3 : Int32) (y0 : Int32) (M : MM) (w : Int64) (fm : Bool) (l : List (Nat × Nat × Nat)) (t u : Nat) : nR X (callN X d) hX6_set 18 [vR 2 0, vI x1, vI x2, vI x3, vX] [vI y0] (M, w, true, fm, l, t, u) = if y0 = (-2 : Int32) then some (some (vI (-2 : Int32)), (M, w, true, fm, l, t, u)) else if x3 < 0 then some (some (vI (-2 : Int32)), (M, w, true, fm, l, t, u)) else nBnd (callN X d 87 [vI x1] (M, w, true, fm, l, t, u)) (fun v s2 => nR X (callN X d) hX6_set 36 [vR 2 0, vI x1, vI x2, vI x3, vI y0] (v.toList ++ [vI x3]) s2) :=
  (nR_itc X _ _ c_X6_set 9 _ _ _ _).trans rfl
set_option maxRecDepth 100000 in
theorem bX6_set_36 (d : Nat) (x1 : Int32) (x2 : Int32) (x3 : Int32) (x4 : Int32) (y0 : Int32) (y1 : Int32) (M : MM) (w : Int64) (fm : Bool) (l : List (Nat × Nat × Nat)) (t u : Nat) : nR X (callN X d) hX6_set 36 [vR 2 0, vI x1, vI x2, vI x3, vI x4] [vI y0, vI y1] (M, w, true, fm, l, t, u) = if y1 ≤ y0 then if x1 = (0 : Int32) then some (some (vI x4), ((nSt M 3 0 0 x3), w, true, fm, l, t, u)) else if x1 = (1 : Int32) then nBnd (callN X d 86 [vI x2] (M, w, true, fm, l, t, u)) (fun v s2 => nR X (callN X d) hX6_set 90 [vR 2 0, vI x1, vI x2, vI x3, vI x4] (v.toList ++ [vR 4 0]) s2) else if x1 = (2 : Int32) then cond (nIn x2 5) (some (some (vI x4), ((nSt M 7 0 (x2).toNatClampNeg x3), w, true, fm, l, t, u))) none else nBnd (callN X d 86 [vI x2] (M, w, true, fm, l, t, u)) (fun v s2 => nR X (callN X d) hX6_set 119 [vR 2 0, vI x1, vI x2, vI x3, vI x4] (v.toList ++ [vR 5 0]) s2) else some (some (vI (-2 : Int32)), (M, w, true, fm, l, t, u)) :=
  (nR_itc X _ _ c_X6_set 12 _ _ _ _).trans rfl
set_option maxRecDepth 100000 in
theorem bX6_set_90 (d : Nat) (x1 : Int32) (x2 : Int32) (x3 : Int32) (x4 : Int32) (y0 : Int32) (q1 : Nat) (M : MM) (w : Int64) (fm : Bool) (l : List (Nat × Nat × Nat)) (t u : Nat) : nR X (callN X d) hX6_set 90 [vR 2 0, vI x1, vI x2, vI x3, vI x4] [vI y0, vR 4 q1] (M, w, true, fm, l, t, u) = cond (nIn y0 36) (some (some (vI x4), ((nSt M 4 q1 (y0).toNatClampNeg x3), w, true, fm, l, t, u))) none :=
  (nR_itc X _ _ c_X6_set 5 _ _ _ _).trans rfl
set_option maxRecDepth 100000 in
theorem bX6_set_119 (d : Nat) (x1 : Int32) (x2 : Int32) (x3 : Int32) (x4 : Int32) (y0 : Int32) (q1 : Nat) (M : MM) (w : Int64) (fm : Bool) (l : List (Nat × Nat × Nat)) (t u : Nat) : nR X (callN X d) hX6_set 119 [vR 2 0, vI x1, vI x2, vI x3, vI x4] [vI y0, vR 5 q1] (M, w, true, fm, l, t, u) = cond (nIn y0 30) (some (some (vI x4), ((nSt M 5 q1 (y0).toNatClampNeg x3), w, true, fm, l, t, u))) none :=
  (nR_itc X _ _ c_X6_set 4 _ _ _ _).trans rfl
def c_X6_person : List Nat := [32]
set_option maxRecDepth 100000 in
theorem bX6_person_0 (d : Nat) (a1 : Int32) (a2 : Int32) (M : MM) (w : Int64) (fm : Bool) (l : List (Nat × Nat × Nat)) (t u : Nat) : nR X (callN X d) hX6_person 0 [vR 2 0, vI a1, vI a2] [] (M, w, true, fm, l, t, u) = if a1 < 0 then some (some (vI (-2 : Int32)), (M, w, true, fm, l, t, u)) else if (6 : Int32) ≤ a1 then some (some (vI (-2 : Int32)), (M, w, true, fm, l, t, u)) else if a2 < 0 then some (some (vI (-2 : Int32)), (M, w, true, fm, l, t, u)) else if a2 < (10 : Int32) then nBnd (callN X d 42 [vR 3 0, vI a1, vI a2] (M, w, true, fm, l, t, u)) (fun v s2 => nR X (callN X d) hX6_person 32 [vR 2 0, vI a1, vI a2] (v.toList ++ []) s2) else some (some (vI (-2 : Int32)), (M, w, true, fm, l, t, u)) :=
  (nR_itc X _ _ c_X6_person 15 _ _ _ _).trans rfl
set_option maxRecDepth 100000 in
theorem bX6_person_32 (d : Nat) (x1 : Int32) (x2 : Int32) (y0 : Int32) (M : MM) (w : Int64) (fm : Bool) (l : List (Nat × Nat × Nat)) (t u : Nat) : nR X (callN X d) hX6_person 32 [vR 2 0, vI x1, vI x2] [vI y0] (M, w, true, fm, l, t, u) = some (some (vI y0), (M, w, true, fm, l, t, u)) :=
  (nR_itc X _ _ c_X6_person 1 _ _ _ _).trans rfl
def c_X6_told : List Nat := [62, 76, 91, 120, 134, 149, 175, 201, 212, 222, 233]
set_option maxRecDepth 100000 in
theorem bX6_told_0 (d : Nat) (a1 : Int32) (a2 : Int32) (M : MM) (w : Int64) (fm : Bool) (l : List (Nat × Nat × Nat)) (t u : Nat) : nR X (callN X d) hX6_told 0 [vR 2 0, vI a1, vI a2] [] (M, w, true, fm, l, t, u) = if a2 = (0 : Int32) then some (some (vI (M 3 0 0)), (M, w, true, fm, l, t, u)) else if a2 = (1 : Int32) then nBnd (callN X d 85 [vI a1, vI (6 : Int32)] (M, w, true, fm, l, t, u)) (fun v s2 => nR X (callN X d) hX6_told 62 [vR 2 0, vI a1, vI a2] (v.toList ++ []) s2) else if a2 = (2 : Int32) then nBnd (callN X d 41 [vR 3 0, vI a1] (M, w, true, fm, l, t, u)) (fun v s2 => nR X (callN X d) hX6_told 91 [vR 2 0, vI a1, vI a2] (v.toList ++ []) s2) else if a2 = (3 : Int32) then nBnd (callN X d 85 [vI a1, vI (M 3 0 2)] (M, w, true, fm, l, t, u)) (fun v s2 => nR X (callN X d) hX6_told 120 [vR 2 0, vI a1, vI a2] (v.toList ++ []) s2) else if a2 = (4 : Int32) then nBnd (callN X d 41 [vR 3 0, vI a1] (M, w, true, fm, l, t, u)) (fun v s2 => nR X (callN X d) hX6_told 149 [vR 2 0, vI a1, vI a2] (v.toList ++ []) s2) else if a2 = (5 : Int32) then nBnd (callN X d 41 [vR 3 0, vI a1] (M, w, true, fm, l, t, u)) (fun v s2 => nR X (callN X d) hX6_told 175 [vR 2 0, vI a1, vI a2] (v.toList ++ []) s2) else if a2 = (6 : Int32) then nBnd (callN X d 41 [vR 3 0, vI a1] (M, w, true, fm, l, t, u)) (fun v s2 => nR X (callN X d) hX6_told 201 [vR 2 0, vI a1, vI a2] (v.toList ++ []) s2) else if a2 = (7 : Int32) then nBnd (callN X d 80 [vI a1] (M, w, true, fm, l, t, u)) (fun v s2 => nR X (callN X d) hX6_told 222 [vR 2 0, vI a1, vI a2] (v.toList ++ []) s2) else some (some (vI (-2 : Int32)), (M, w, true, fm, l, t, u)) :=
  (nR_itc X _ _ c_X6_told 7 _ _ _ _).trans rfl
set_option maxRecDepth 100000 in
theorem bX6_told_62 (d : Nat) (x1 : Int32) (x2 : Int32) (y0 : Int32) (M : MM) (w : Int64) (fm : Bool) (l : List (Nat × Nat × Nat)) (t u : Nat) : nR X (callN X d) hX6_told 62 [vR 2 0, vI x1, vI x2] [vI y0] (M, w, true, fm, l, t, u) = if y0 = 0 then some (some (vI (-2 : Int32)), (M, w, true, fm, l, t, u)) else nBnd (callN X d 86 [vI x1] (M, w, true, fm, l, t, u)) (fun v s2 => nR X (callN X d) hX6_told 76 [vR 2 0, vI x1, vI x2] (v.toList ++ [vR 4 0]) s2) :=
  (nR_itc X _ _ c_X6_told 6 _ _ _ _).trans rfl
set_option maxRecDepth 100000 in
theorem bX6_told_76 (d : Nat) (x1 : Int32) (x2 : Int32) (y0 : Int32) (q1 : Nat) (M : MM) (w : Int64) (fm : Bool) (l : List (Nat × Nat × Nat)) (t u : Nat) : nR X (callN X d) hX6_told 76 [vR 2 0, vI x1, vI x2] [vI y0, vR 4 q1] (M, w, true, fm, l, t, u) = cond (nIn y0 36) (some (some (vI (M 4 q1 (y0).toNatClampNeg)), (M, w, true, fm, l, t, u))) none :=
  (nR_itc X _ _ c_X6_told 3 _ _ _ _).trans rfl
set_option maxRecDepth 100000 in
theorem bX6_told_91 (d : Nat) (x1 : Int32) (x2 : Int32) (y0 : Int32) (M : MM) (w : Int64) (fm : Bool) (l : List (Nat × Nat × Nat)) (t u : Nat) : nR X (callN X d) hX6_told 91 [vR 2 0, vI x1, vI x2] [vI y0] (M, w, true, fm, l, t, u) = if y0 = 0 then some (some (vI (-2 : Int32)), (M, w, true, fm, l, t, u)) else cond (nIn x1 5) (some (some (vI (M 7 0 (x1).toNatClampNeg)), (M, w, true, fm, l, t, u))) none :=
  (nR_itc X _ _ c_X6_told 8 _ _ _ _).trans rfl
set_option maxRecDepth 100000 in
theorem bX6_told_120 (d : Nat) (x1 : Int32) (x2 : Int32) (y0 : Int32) (M : MM) (w : Int64) (fm : Bool) (l : List (Nat × Nat × Nat)) (t u : Nat) : nR X (callN X d) hX6_told 120 [vR 2 0, vI x1, vI x2] [vI y0] (M, w, true, fm, l, t, u) = if y0 = 0 then some (some (vI (-2 : Int32)), (M, w, true, fm, l, t, u)) else nBnd (callN X d 86 [vI x1] (M, w, true, fm, l, t, u)) (fun v s2 => nR X (callN X d) hX6_told 134 [vR 2 0, vI x1, vI x2] (v.toList ++ [vR 5 0]) s2) :=
  (nR_itc X _ _ c_X6_told 6 _ _ _ _).trans rfl
set_option maxRecDepth 100000 in
theorem bX6_told_134 (d : Nat) (x1 : Int32) (x2 : Int32) (y0 : Int32) (q1 : Nat) (M : MM) (w : Int64) (fm : Bool) (l : List (Nat × Nat × Nat)) (t u : Nat) : nR X (callN X d) hX6_told 134 [vR 2 0, vI x1, vI x2] [vI y0, vR 5 q1] (M, w, true, fm, l, t, u) = cond (nIn y0 30) (some (some (vI (M 5 q1 (y0).toNatClampNeg)), (M, w, true, fm, l, t, u))) none :=
  (nR_itc X _ _ c_X6_told 3 _ _ _ _).trans rfl
set_option maxRecDepth 100000 in
theorem bX6_told_149 (d : Nat) (x1 : Int32) (x2 : Int32) (y0 : Int32) (M : MM) (w : Int64) (fm : Bool) (l : List (Nat × Nat × Nat)) (t u : Nat) : nR X (callN X d) hX6_told 149 [vR 2 0, vI x1, vI x2] [vI y0] (M, w, true, fm, l, t, u) = if y0 = 0 then some (some (vI (-2 : Int32)), (M, w, true, fm, l, t, u)) else cond (nIn x1 5) (some (some (vI (M 6 0 (x1).toNatClampNeg)), (M, w, true, fm, l, t, u))) none :=
  (nR_itc X _ _ c_X6_told 8 _ _ _ _).trans rfl
set_option maxRecDepth 100000 in
theorem bX6_told_175 (d : Nat) (x1 : Int32) (x2 : Int32) (y0 : Int32) (M : MM) (w : Int64) (fm : Bool) (l : List (Nat × Nat × Nat)) (t u : Nat) : nR X (callN X d) hX6_told 175 [vR 2 0, vI x1, vI x2] [vI y0] (M, w, true, fm, l, t, u) = if y0 = 0 then some (some (vI (-2 : Int32)), (M, w, true, fm, l, t, u)) else cond (nIn x1 5) (some (some (vI (M 8 0 (x1).toNatClampNeg)), (M, w, true, fm, l, t, u))) none :=
  (nR_itc X _ _ c_X6_told 8 _ _ _ _).trans rfl
set_option maxRecDepth 100000 in
theorem bX6_told_201 (d : Nat) (x1 : Int32) (x2 : Int32) (y0 : Int32) (M : MM) (w : Int64) (fm : Bool) (l : List (Nat × Nat × Nat)) (t u : Nat) : nR X (callN X d) hX6_told 201 [vR 2 0, vI x1, vI x2] [vI y0] (M, w, true, fm, l, t, u) = if y0 = 0 then some (some (vI (-2 : Int32)), (M, w, true, fm, l, t, u)) else nBnd (callN X d 45 [vR 3 0, vI x1] (M, w, true, fm, l, t, u)) (fun v s2 => nR X (callN X d) hX6_told 212 [vR 2 0, vI x1, vI x2] (v.toList ++ []) s2) :=
  (nR_itc X _ _ c_X6_told 5 _ _ _ _).trans rfl
set_option maxRecDepth 100000 in
theorem bX6_told_212 (d : Nat) (x1 : Int32) (x2 : Int32) (y0 : Int32) (M : MM) (w : Int64) (fm : Bool) (l : List (Nat × Nat × Nat)) (t u : Nat) : nR X (callN X d) hX6_told 212 [vR 2 0, vI x1, vI x2] [vI y0] (M, w, true, fm, l, t, u) = some (some (vI y0), (M, w, true, fm, l, t, u)) :=
  (nR_itc X _ _ c_X6_told 2 _ _ _ _).trans rfl
set_option maxRecDepth 100000 in
theorem bX6_told_222 (d : Nat) (x1 : Int32) (x2 : Int32) (y0 : Int32) (M : MM) (w : Int64) (fm : Bool) (l : List (Nat × Nat × Nat)) (t u : Nat) : nR X (callN X d) hX6_told 222 [vR 2 0, vI x1, vI x2] [vI y0] (M, w, true, fm, l, t, u) = if y0 = 0 then some (some (vI (-2 : Int32)), (M, w, true, fm, l, t, u)) else nBnd (callN X d 44 [vR 3 0, vI x1] (M, w, true, fm, l, t, u)) (fun v s2 => nR X (callN X d) hX6_told 233 [vR 2 0, vI x1, vI x2] (v.toList ++ []) s2) :=
  (nR_itc X _ _ c_X6_told 5 _ _ _ _).trans rfl
set_option maxRecDepth 100000 in
theorem bX6_told_233 (d : Nat) (x1 : Int32) (x2 : Int32) (y0 : Int32) (M : MM) (w : Int64) (fm : Bool) (l : List (Nat × Nat × Nat)) (t u : Nat) : nR X (callN X d) hX6_told 233 [vR 2 0, vI x1, vI x2] [vI y0] (M, w, true, fm, l, t, u) = some (some (vI y0), (M, w, true, fm, l, t, u)) :=
  (nR_itc X _ _ c_X6_told 2 _ _ _ _).trans rfl
def c_X6_asks : List Nat := [8, 15, 43, 57, 67]
set_option maxRecDepth 100000 in
theorem bX6_asks_0 (d : Nat) (a1 : Int32) (a2 : Int32) (a3 : Int32) (M : MM) (w : Int64) (fm : Bool) (l : List (Nat × Nat × Nat)) (t u : Nat) : nR X (callN X d) hX6_asks 0 [vR 2 0, vI a1, vI a2, vI a3] [] (M, w, true, fm, l, t, u) = nBnd (callN X d 41 [vR 3 0, vI a1] (M, w, true, fm, l, t, u)) (fun v s2 => nR X (callN X d) hX6_asks 8 [vR 2 0, vI a1, vI a2, vI a3] (v.toList ++ []) s2) :=
  (nR_itc X _ _ c_X6_asks 4 _ _ _ _).trans rfl
set_option maxRecDepth 100000 in
theorem bX6_asks_8 (d : Nat) (x1 : Int32) (x2 : Int32) (x3 : Int32) (y0 : Int32) (M : MM) (w : Int64) (fm : Bool) (l : List (Nat × Nat × Nat)) (t u : Nat) : nR X (callN X d) hX6_asks 8 [vR 2 0, vI x1, vI x2, vI x3] [vI y0] (M, w, true, fm, l, t, u) = if y0 = 0 then some (some (vI (-2 : Int32)), (M, w, true, fm, l, t, u)) else nBnd (callN X d 81 [vI x2] (M, w, true, fm, l, t, u)) (fun v s2 => nR X (callN X d) hX6_asks 15 [vR 2 0, vI x1, vI x2, vI x3] (v.toList ++ []) s2) :=
  (nR_itc X _ _ c_X6_asks 3 _ _ _ _).trans rfl
set_option maxRecDepth 100000 in
theorem bX6_asks_15 (d : Nat) (x1 : Int32) (x2 : Int32) (x3 : Int32) (y0 : Int32) (M : MM) (w : Int64) (fm : Bool) (l : List (Nat × Nat × Nat)) (t u : Nat) : nR X (callN X d) hX6_asks 15 [vR 2 0, vI x1, vI x2, vI x3] [vI y0] (M, w, true, fm, l, t, u) = if y0 = 0 then some (some (vI (-2 : Int32)), (M, w, true, fm, l, t, u)) else if x3 < 0 then some (some (vI (-2 : Int32)), (M, w, true, fm, l, t, u)) else if x3 ≤ (7 : Int32) then if x3 = (6 : Int32) then nBnd (callN X d 93 [vR 2 0, vI x1, vI x2] (M, w, true, fm, l, t, u)) (fun v s2 => nR X (callN X d) hX6_asks 43 [vR 2 0, vI x1, vI x2, vI x3] (v.toList ++ []) s2) else if x3 = (7 : Int32) then nBnd (callN X d 94 [vR 2 0, vI x1, vI x1, vI x2] (M, w, true, fm, l, t, u)) (fun v s2 => nR X (callN X d) hX6_asks 57 [vR 2 0, vI x1, vI x2, vI x3] (v.toList ++ []) s2) else nBnd (callN X d 92 [vR 2 0, vI x1, vI x3, vI x2] (M, w, true, fm, l, t, u)) (fun v s2 => nR X (callN X d) hX6_asks 67 [vR 2 0, vI x1, vI x2, vI x3] (v.toList ++ []) s2) else some (some (vI (-2 : Int32)), (M, w, true, fm, l, t, u)) :=
  (nR_itc X _ _ c_X6_asks 17 _ _ _ _).trans rfl
set_option maxRecDepth 100000 in
theorem bX6_asks_43 (d : Nat) (x1 : Int32) (x2 : Int32) (x3 : Int32) (y0 : Int32) (M : MM) (w : Int64) (fm : Bool) (l : List (Nat × Nat × Nat)) (t u : Nat) : nR X (callN X d) hX6_asks 43 [vR 2 0, vI x1, vI x2, vI x3] [vI y0] (M, w, true, fm, l, t, u) = some (some (vI y0), (M, w, true, fm, l, t, u)) :=
  (nR_itc X _ _ c_X6_asks 1 _ _ _ _).trans rfl
set_option maxRecDepth 100000 in
theorem bX6_asks_57 (d : Nat) (x1 : Int32) (x2 : Int32) (x3 : Int32) (y0 : Int32) (M : MM) (w : Int64) (fm : Bool) (l : List (Nat × Nat × Nat)) (t u : Nat) : nR X (callN X d) hX6_asks 57 [vR 2 0, vI x1, vI x2, vI x3] [vI y0] (M, w, true, fm, l, t, u) = nR X (callN X d) hX6_asks 67 [vR 2 0, vI x1, vI x2, vI x3] [vI y0] (M, w, true, fm, l, t, u) :=
  (nR_itc X _ _ c_X6_asks 1 _ _ _ _).trans rfl
set_option maxRecDepth 100000 in
theorem bX6_asks_67 (d : Nat) (x1 : Int32) (x2 : Int32) (x3 : Int32) (y0 : Int32) (M : MM) (w : Int64) (fm : Bool) (l : List (Nat × Nat × Nat)) (t u : Nat) : nR X (callN X d) hX6_asks 67 [vR 2 0, vI x1, vI x2, vI x3] [vI y0] (M, w, true, fm, l, t, u) = some (some (vI y0), (M, w, true, fm, l, t, u)) :=
  (nR_itc X _ _ c_X6_asks 1 _ _ _ _).trans rfl
def c_X6_feed : List Nat := [22]
set_option maxRecDepth 100000 in
theorem bX6_feed_0 (d : Nat) (a1 : Int32) (M : MM) (w : Int64) (fm : Bool) (l : List (Nat × Nat × Nat)) (t u : Nat) : nR X (callN X d) hX6_feed 0 [vR 2 0, vI a1] [] (M, w, true, fm, l, t, u) = if a1 < 0 then some (some (vI (-2 : Int32)), (M, w, true, fm, l, t, u)) else if a1 ≤ (255 : Int32) then nBnd (callN X d 13 [vR 9 0, vI a1] (M, w, true, fm, l, t, u)) (fun v s2 => nR X (callN X d) hX6_feed 22 [vR 2 0, vI a1] (v.toList ++ []) s2) else some (some (vI (-2 : Int32)), (M, w, true, fm, l, t, u)) :=
  (nR_itc X _ _ c_X6_feed 9 _ _ _ _).trans rfl
set_option maxRecDepth 100000 in
theorem bX6_feed_22 (d : Nat) (x1 : Int32) (y0 : Int32) (M : MM) (w : Int64) (fm : Bool) (l : List (Nat × Nat × Nat)) (t u : Nat) : nR X (callN X d) hX6_feed 22 [vR 2 0, vI x1] [vI y0] (M, w, true, fm, l, t, u) = some (some (vI y0), (M, w, true, fm, l, t, u)) :=
  (nR_itc X _ _ c_X6_feed 1 _ _ _ _).trans rfl
def c_X6_text : List Nat := [19, 64]
set_option maxRecDepth 100000 in
theorem bX6_text_0 (d : Nat) (M : MM) (w : Int64) (fm : Bool) (l : List (Nat × Nat × Nat)) (t u : Nat) : nR X (callN X d) hX6_text 0 [vR 2 0, vX] [] (M, w, true, fm, l, t, u) = if (M 2 0 5) < (6 : Int32) then nBnd (callN X d 14 [vR 9 0] (M, w, true, fm, l, t, u)) (fun v s2 => nR X (callN X d) hX6_text 19 [vR 2 0, vX] (v.toList ++ []) s2) else some (some (vI (-4 : Int32)), (M, w, true, fm, l, t, u)) :=
  (nR_itc X _ _ c_X6_text 7 _ _ _ _).trans rfl
set_option maxRecDepth 100000 in
theorem bX6_text_19 (d : Nat) (y0 : Int32) (M : MM) (w : Int64) (fm : Bool) (l : List (Nat × Nat × Nat)) (t u : Nat) : nR X (callN X d) hX6_text 19 [vR 2 0, vX] [vI y0] (M, w, true, fm, l, t, u) = if y0 = (-1 : Int32) then cond (nIn ((nSt M 9 0 1 (0 : Int32)) 2 0 5) 6) (nBnd (callN X d 37 [vR 14 (((nSt M 9 0 1 (0 : Int32)) 2 0 5)).toNatClampNeg, vR 11 0, vR 12 0] ((nSt M 9 0 1 (0 : Int32)), w, true, fm, l, t, u)) (fun v s2 => nR X (callN X d) hX6_text 64 [vR 2 0, vI y0] (v.toList ++ []) s2)) none else some (some (vI ((-100 : Int32) - y0)), ((nSt M 9 0 1 (0 : Int32)), w, true, fm, l, t, u)) :=
  (nR_itc X _ _ c_X6_text 20 _ _ _ _).trans rfl
set_option maxRecDepth 100000 in
theorem bX6_text_64 (d : Nat) (x1 : Int32) (M : MM) (w : Int64) (fm : Bool) (l : List (Nat × Nat × Nat)) (t u : Nat) : nR X (callN X d) hX6_text 64 [vR 2 0, vI x1] [] (M, w, true, fm, l, t, u) = some (some (vI (((nSt M 2 0 5 ((M 2 0 5) + (1 : Int32))) 2 0 5) - (1 : Int32))), ((nSt M 2 0 5 ((M 2 0 5) + (1 : Int32))), w, true, fm, l, t, u)) :=
  (nR_itc X _ _ c_X6_text 11 _ _ _ _).trans rfl
def c_X6_force : List Nat := []
set_option maxRecDepth 100000 in
theorem bX6_force_0 (d : Nat) (a1 : Int32) (M : MM) (w : Int64) (fm : Bool) (l : List (Nat × Nat × Nat)) (t u : Nat) : nR X (callN X d) hX6_force 0 [vR 2 0, vI a1, vX] [] (M, w, true, fm, l, t, u) = if a1 < 0 then some (some (vI (-2 : Int32)), (M, w, true, fm, l, t, u)) else if a1 < (M 2 0 5) then some (some (vI (M 3 0 1)), ((nSt M 3 0 1 a1), w, true, fm, l, t, u)) else some (some (vI (-2 : Int32)), (M, w, true, fm, l, t, u)) :=
  (nR_itc X _ _ c_X6_force 16 _ _ _ _).trans rfl
def c_X6_stay : List Nat := [8, 15, 39, 79, 140]
set_option maxRecDepth 100000 in
theorem bX6_stay_0 (d : Nat) (a1 : Int32) (a2 : Int32) (M : MM) (w : Int64) (fm : Bool) (l : List (Nat × Nat × Nat)) (t u : Nat) : nR X (callN X d) hX6_stay 0 [vR 2 0, vI a1, vI a2, vX, vX] [] (M, w, true, fm, l, t, u) = nBnd (callN X d 41 [vR 3 0, vI a1] (M, w, true, fm, l, t, u)) (fun v s2 => nR X (callN X d) hX6_stay 8 [vR 2 0, vI a1, vI a2, vX, vX] (v.toList ++ []) s2) :=
  (nR_itc X _ _ c_X6_stay 4 _ _ _ _).trans rfl
set_option maxRecDepth 100000 in
theorem bX6_stay_8 (d : Nat) (x1 : Int32) (x2 : Int32) (y0 : Int32) (M : MM) (w : Int64) (fm : Bool) (l : List (Nat × Nat × Nat)) (t u : Nat) : nR X (callN X d) hX6_stay 8 [vR 2 0, vI x1, vI x2, vX, vX] [vI y0] (M, w, true, fm, l, t, u) = if y0 = 0 then some (some (vI (-2 : Int32)), (M, w, true, fm, l, t, u)) else nBnd (callN X d 80 [vI x2] (M, w, true, fm, l, t, u)) (fun v s2 => nR X (callN X d) hX6_stay 15 [vR 2 0, vI x1, vI x2, vX, vX] (v.toList ++ []) s2) :=
  (nR_itc X _ _ c_X6_stay 3 _ _ _ _).trans rfl
set_option maxRecDepth 100000 in
theorem bX6_stay_15 (d : Nat) (x1 : Int32) (x2 : Int32) (y0 : Int32) (M : MM) (w : Int64) (fm : Bool) (l : List (Nat × Nat × Nat)) (t u : Nat) : nR X (callN X d) hX6_stay 15 [vR 2 0, vI x1, vI x2, vX, vX] [vI y0] (M, w, true, fm, l, t, u) = if y0 = 0 then some (some (vI (-2 : Int32)), (M, w, true, fm, l, t, u)) else if (M 3 0 0) < (999 : Int32) then nR X (callN X d) hX6_stay 39 [vR 2 0, vI x1, vI x2, vI (0 : Int32), vX] [] (M, w, true, fm, l, t, u) else some (some (vI (-3 : Int32)), (M, w, true, fm, l, t, u)) :=
  (nR_itc X _ _ c_X6_stay 8 _ _ _ _).trans rfl
set_option maxRecDepth 100000 in
theorem bX6_stay_39 (d : Nat) (x1 : Int32) (x2 : Int32) (x3 : Int32) (x4 : AV) (M : MM) (w : Int64) (fm : Bool) (l : List (Nat × Nat × Nat)) (t u : Nat) : nR X (callN X d) hX6_stay 39 [vR 2 0, vI x1, vI x2, vI x3, x4] [] (M, w, true, fm, l, t, u) = if (6 : Int32) ≤ x3 then cond (nIn x1 5) (cond (nIn x1 5) (nBnd (callN X d 45 [vR 3 0, vI x1] ((nSt (nSt M 8 0 (x1).toNatClampNeg (if (9999 : Int32) < ((M 8 0 (x1).toNatClampNeg) + (1 : Int32)) then (9999 : Int32) else ((M 8 0 (x1).toNatClampNeg) + (1 : Int32)))) 3 0 0 (((nSt M 8 0 (x1).toNatClampNeg (if (9999 : Int32) < ((M 8 0 (x1).toNatClampNeg) + (1 : Int32)) then (9999 : Int32) else ((M 8 0 (x1).toNatClampNeg) + (1 : Int32)))) 3 0 0) + (1 : Int32))), w, true, fm, l, t, u)) (fun v s2 => nR X (callN X d) hX6_stay 140 [vR 2 0, vI x1, vI x2, vI x3, x4] (v.toList ++ []) s2)) none) none else cond (nIn ((x1 * (6 : Int32)) + x3) 30) (nBnd (callN X d 92 [vR 2 0, vI x1, vI x2, vI x3] (M, w, true, fm, l, t, u)) (fun v s2 => nR X (callN X d) hX6_stay 79 [vR 2 0, vI x1, vI x2, vI x3, vI ((x1 * (6 : Int32)) + x3)] (v.toList ++ [vI (M 5 0 (((x1 * (6 : Int32)) + x3)).toNatClampNeg), vI ((x1 * (6 : Int32)) + x3), vR 5 0]) s2)) none :=
  (nR_itc X _ _ c_X6_stay 28 _ _ _ _).trans rfl
set_option maxRecDepth 100000 in
theorem bX6_stay_79 (d : Nat) (x1 : Int32) (x2 : Int32) (x3 : Int32) (x4 : Int32) (y0 : Int32) (y1 : Int32) (y2 : Int32) (q3 : Nat) (M : MM) (w : Int64) (fm : Bool) (l : List (Nat × Nat × Nat)) (t u : Nat) : nR X (callN X d) hX6_stay 79 [vR 2 0, vI x1, vI x2, vI x3, vI x4] [vI y0, vI y1, vI y2, vR 5 q3] (M, w, true, fm, l, t, u) = cond (nIn y2 30) (nR X (callN X d) hX6_stay 39 [vR 2 0, vI x1, vI x2, vI (x3 + (1 : Int32)), vI x4] [] ((nSt M 5 q3 (y2).toNatClampNeg (if (9999 : Int32) < (y1 + y0) then (9999 : Int32) else (y1 + y0))), w, true, fm, l, t, u)) none :=
  (nR_itc X _ _ c_X6_stay 6 _ _ _ _).trans rfl
set_option maxRecDepth 100000 in
theorem bX6_stay_140 (d : Nat) (x1 : Int32) (x2 : Int32) (x3 : Int32) (x4 : AV) (y0 : Int32) (M : MM) (w : Int64) (fm : Bool) (l : List (Nat × Nat × Nat)) (t u : Nat) : nR X (callN X d) hX6_stay 140 [vR 2 0, vI x1, vI x2, vI x3, x4] [vI y0] (M, w, true, fm, l, t, u) = some (some (vI y0), (M, w, true, fm, l, t, u)) :=
  (nR_itc X _ _ c_X6_stay 1 _ _ _ _).trans rfl
def c_X6_shake : List Nat := [8, 22, 25, 42, 79]
set_option maxRecDepth 100000 in
theorem bX6_shake_0 (d : Nat) (a1 : Int32) (M : MM) (w : Int64) (fm : Bool) (l : List (Nat × Nat × Nat)) (t u : Nat) : nR X (callN X d) hX6_shake 0 [vR 2 0, vI a1, vX, vX] [] (M, w, true, fm, l, t, u) = nBnd (callN X d 41 [vR 3 0, vI a1] (M, w, true, fm, l, t, u)) (fun v s2 => nR X (callN X d) hX6_shake 8 [vR 2 0, vI a1, vX, vX] (v.toList ++ []) s2) :=
  (nR_itc X _ _ c_X6_shake 4 _ _ _ _).trans rfl
set_option maxRecDepth 100000 in
theorem bX6_shake_8 (d : Nat) (x1 : Int32) (y0 : Int32) (M : MM) (w : Int64) (fm : Bool) (l : List (Nat × Nat × Nat)) (t u : Nat) : nR X (callN X d) hX6_shake 8 [vR 2 0, vI x1, vX, vX] [vI y0] (M, w, true, fm, l, t, u) = if y0 = 0 then some (some (vI (-2 : Int32)), (M, w, true, fm, l, t, u)) else nBnd (callN X d 45 [vR 3 0, vI x1] (M, w, true, fm, l, t, u)) (fun v s2 => nR X (callN X d) hX6_shake 22 [vR 2 0, vI x1, vX, vX] (v.toList ++ []) s2) :=
  (nR_itc X _ _ c_X6_shake 5 _ _ _ _).trans rfl
set_option maxRecDepth 100000 in
theorem bX6_shake_22 (d : Nat) (x1 : Int32) (y0 : Int32) (M : MM) (w : Int64) (fm : Bool) (l : List (Nat × Nat × Nat)) (t u : Nat) : nR X (callN X d) hX6_shake 22 [vR 2 0, vI x1, vX, vX] [vI y0] (M, w, true, fm, l, t, u) = nR X (callN X d) hX6_shake 25 [vR 2 0, vI x1, vI y0, vI (0 : Int32)] [] (M, w, true, fm, l, t, u) :=
  (nR_itc X _ _ c_X6_shake 3 _ _ _ _).trans rfl
set_option maxRecDepth 100000 in
theorem bX6_shake_25 (d : Nat) (x1 : Int32) (x2 : Int32) (x3 : Int32) (M : MM) (w : Int64) (fm : Bool) (l : List (Nat × Nat × Nat)) (t u : Nat) : nR X (callN X d) hX6_shake 25 [vR 2 0, vI x1, vI x2, vI x3] [] (M, w, true, fm, l, t, u) = if (6 : Int32) ≤ x3 then cond (decide (¬ (0 : Int32) < 0 ∧ ¬ (x1 * (6 : Int32)) < 0 ∧ ¬ (6 : Int32) < 0 ∧ ((0 : Int32)).toNatClampNeg + ((6 : Int32)).toNatClampNeg ≤ 6 ∧ ((x1 * (6 : Int32))).toNatClampNeg + ((6 : Int32)).toNatClampNeg ≤ 30)) (nBnd (callN X d 45 [vR 3 0, vI x1] ((nCpy M 27 0 ((0 : Int32)).toNatClampNeg 5 0 ((x1 * (6 : Int32))).toNatClampNeg ((6 : Int32)).toNatClampNeg), w, true, fm, l, t, u)) (fun v s2 => nR X (callN X d) hX6_shake 79 [vR 2 0, vI x1, vI x2, vI x3] (v.toList ++ [vI x2]) s2)) none else nBnd (callN X d 93 [vR 2 0, vI x1, vI x3] (M, w, true, fm, l, t, u)) (fun v s2 => nR X (callN X d) hX6_shake 42 [vR 2 0, vI x1, vI x2, vI x3] (v.toList ++ [vI x3, vR 27 0]) s2) :=
  (nR_itc X _ _ c_X6_shake 19 _ _ _ _).trans rfl
set_option maxRecDepth 100000 in
theorem bX6_shake_42 (d : Nat) (x1 : Int32) (x2 : Int32) (x3 : Int32) (y0 : Int32) (y1 : Int32) (M : MM) (w : Int64) (fm : Bool) (l : List (Nat × Nat × Nat)) (t u : Nat) : nR X (callN X d) hX6_shake 42 [vR 2 0, vI x1, vI x2, vI x3] [vI y0, vI y1, vR 27 0] (M, w, true, fm, l, t, u) = cond (nIn y1 6) (nR X (callN X d) hX6_shake 25 [vR 2 0, vI x1, vI x2, vI (x3 + (1 : Int32))] [] ((nSt M 27 0 (y1).toNatClampNeg y0), w, true, fm, l, t, u)) none :=
  (nR_itc X _ _ c_X6_shake 3 _ _ _ _).trans rfl
set_option maxRecDepth 100000 in
theorem bX6_shake_79 (d : Nat) (x1 : Int32) (x2 : Int32) (x3 : Int32) (y0 : Int32) (y1 : Int32) (M : MM) (w : Int64) (fm : Bool) (l : List (Nat × Nat × Nat)) (t u : Nat) : nR X (callN X d) hX6_shake 79 [vR 2 0, vI x1, vI x2, vI x3] [vI y0, vI y1] (M, w, true, fm, l, t, u) = some (some (vI (y1 - y0)), (M, w, true, fm, l, t, u)) :=
  (nR_itc X _ _ c_X6_shake 2 _ _ _ _).trans rfl
def c_X6_like : List Nat := [6, 34, 43]
set_option maxRecDepth 100000 in
theorem bX6_like_0 (d : Nat) (a1 : Int32) (a2 : Int32) (a3 : Int32) (M : MM) (w : Int64) (fm : Bool) (l : List (Nat × Nat × Nat)) (t u : Nat) : nR X (callN X d) hX6_like 0 [vR 2 0, vI a1, vI a2, vI a3] [] (M, w, true, fm, l, t, u) = nBnd (callN X d 84 [vR 2 0, vI a1, vI a2] (M, w, true, fm, l, t, u)) (fun v s2 => nR X (callN X d) hX6_like 6 [vR 2 0, vI a1, vI a2, vI a3] (v.toList ++ []) s2) :=
  (nR_itc X _ _ c_X6_like 4 _ _ _ _).trans rfl
set_option maxRecDepth 100000 in
theorem bX6_like_6 (d : Nat) (x1 : Int32) (x2 : Int32) (x3 : Int32) (y0 : Int32) (M : MM) (w : Int64) (fm : Bool) (l : List (Nat × Nat × Nat)) (t u : Nat) : nR X (callN X d) hX6_like 6 [vR 2 0, vI x1, vI x2, vI x3] [vI y0] (M, w, true, fm, l, t, u) = if y0 = 0 then some (some (vI (-2 : Int32)), (M, w, true, fm, l, t, u)) else if x3 < 0 then some (some (vI (-2 : Int32)), (M, w, true, fm, l, t, u)) else if x3 ≤ (1 : Int32) then if x3 = 0 then nBnd (callN X d 47 [vR 3 0, vI x1, vI x2] (M, w, true, fm, l, t, u)) (fun v s2 => nR X (callN X d) hX6_like 34 [vR 2 0, vI x1, vI x2, vI x3] (v.toList ++ []) s2) else nBnd (callN X d 95 [vR 2 0, vI x1, vI x2] (M, w, true, fm, l, t, u)) (fun v s2 => nR X (callN X d) hX6_like 43 [vR 2 0, vI x1, vI x2, vI x3] (v.toList ++ []) s2) else some (some (vI (-2 : Int32)), (M, w, true, fm, l, t, u)) :=
  (nR_itc X _ _ c_X6_like 13 _ _ _ _).trans rfl
set_option maxRecDepth 100000 in
theorem bX6_like_34 (d : Nat) (x1 : Int32) (x2 : Int32) (x3 : Int32) (y0 : Int32) (M : MM) (w : Int64) (fm : Bool) (l : List (Nat × Nat × Nat)) (t u : Nat) : nR X (callN X d) hX6_like 34 [vR 2 0, vI x1, vI x2, vI x3] [vI y0] (M, w, true, fm, l, t, u) = nR X (callN X d) hX6_like 43 [vR 2 0, vI x1, vI x2, vI x3] [vI y0] (M, w, true, fm, l, t, u) :=
  (nR_itc X _ _ c_X6_like 1 _ _ _ _).trans rfl
set_option maxRecDepth 100000 in
theorem bX6_like_43 (d : Nat) (x1 : Int32) (x2 : Int32) (x3 : Int32) (y0 : Int32) (M : MM) (w : Int64) (fm : Bool) (l : List (Nat × Nat × Nat)) (t u : Nat) : nR X (callN X d) hX6_like 43 [vR 2 0, vI x1, vI x2, vI x3] [vI y0] (M, w, true, fm, l, t, u) = some (some (vI y0), (M, w, true, fm, l, t, u)) :=
  (nR_itc X _ _ c_X6_like 1 _ _ _ _).trans rfl
def c_X6_odd : List Nat := [8, 35, 44, 67]
set_option maxRecDepth 100000 in
theorem bX6_odd_0 (d : Nat) (a1 : Int32) (a2 : Int32) (M : MM) (w : Int64) (fm : Bool) (l : List (Nat × Nat × Nat)) (t u : Nat) : nR X (callN X d) hX6_odd 0 [vR 2 0, vI a1, vI a2, vX] [] (M, w, true, fm, l, t, u) = nBnd (callN X d 41 [vR 3 0, vI a1] (M, w, true, fm, l, t, u)) (fun v s2 => nR X (callN X d) hX6_odd 8 [vR 2 0, vI a1, vI a2, vX] (v.toList ++ []) s2) :=
  (nR_itc X _ _ c_X6_odd 4 _ _ _ _).trans rfl
set_option maxRecDepth 100000 in
theorem bX6_odd_8 (d : Nat) (x1 : Int32) (x2 : Int32) (y0 : Int32) (M : MM) (w : Int64) (fm : Bool) (l : List (Nat × Nat × Nat)) (t u : Nat) : nR X (callN X d) hX6_odd 8 [vR 2 0, vI x1, vI x2, vX] [vI y0] (M, w, true, fm, l, t, u) = if y0 = 0 then some (some (vI (-2 : Int32)), (M, w, true, fm, l, t, u)) else if x2 < 0 then some (some (vI (-2 : Int32)), (M, w, true, fm, l, t, u)) else if x2 ≤ (2 : Int32) then if x2 = (2 : Int32) then nBnd (callN X d 49 [vR 3 0] (M, w, true, fm, l, t, u)) (fun v s2 => nR X (callN X d) hX6_odd 35 [vR 2 0, vI x1, vI x2, vX] (v.toList ++ []) s2) else nBnd (callN X d 48 [vR 3 0, vI x1] (M, w, true, fm, l, t, u)) (fun v s2 => nR X (callN X d) hX6_odd 44 [vR 2 0, vI x1, vI x2, vX] (v.toList ++ []) s2) else some (some (vI (-2 : Int32)), (M, w, true, fm, l, t, u)) :=
  (nR_itc X _ _ c_X6_odd 13 _ _ _ _).trans rfl
set_option maxRecDepth 100000 in
theorem bX6_odd_35 (d : Nat) (x1 : Int32) (x2 : Int32) (y0 : Int32) (M : MM) (w : Int64) (fm : Bool) (l : List (Nat × Nat × Nat)) (t u : Nat) : nR X (callN X d) hX6_odd 35 [vR 2 0, vI x1, vI x2, vX] [vI y0] (M, w, true, fm, l, t, u) = some (some (vI y0), (M, w, true, fm, l, t, u)) :=
  (nR_itc X _ _ c_X6_odd 1 _ _ _ _).trans rfl
set_option maxRecDepth 100000 in
theorem bX6_odd_44 (d : Nat) (x1 : Int32) (x2 : Int32) (y0 : Int32) (M : MM) (w : Int64) (fm : Bool) (l : List (Nat × Nat × Nat)) (t u : Nat) : nR X (callN X d) hX6_odd 44 [vR 2 0, vI x1, vI x2, vX] [vI y0] (M, w, true, fm, l, t, u) = if x2 = 0 then nR X (callN X d) hX6_odd 67 [vR 2 0, vI x1, vI x2, vI y0] [vI y0] (M, w, true, fm, l, t, u) else if y0 = (-1 : Int32) then nR X (callN X d) hX6_odd 67 [vR 2 0, vI x1, vI x2, vI y0] [vI y0] (M, w, true, fm, l, t, u) else nBnd (callN X d 47 [vR 3 0, vI x1, vI y0] (M, w, true, fm, l, t, u)) (fun v s2 => nR X (callN X d) hX6_odd 67 [vR 2 0, vI x1, vI x2, vI y0] (v.toList ++ []) s2) :=
  (nR_itc X _ _ c_X6_odd 11 _ _ _ _).trans rfl
set_option maxRecDepth 100000 in
theorem bX6_odd_67 (d : Nat) (x1 : Int32) (x2 : Int32) (x3 : Int32) (y0 : Int32) (M : MM) (w : Int64) (fm : Bool) (l : List (Nat × Nat × Nat)) (t u : Nat) : nR X (callN X d) hX6_odd 67 [vR 2 0, vI x1, vI x2, vI x3] [vI y0] (M, w, true, fm, l, t, u) = some (some (vI y0), (M, w, true, fm, l, t, u)) :=
  (nR_itc X _ _ c_X6_odd 1 _ _ _ _).trans rfl
def c_X6_mean : List Nat := [8, 15, 22, 51, 55]
set_option maxRecDepth 100000 in
theorem bX6_mean_0 (d : Nat) (a1 : Int32) (a2 : Int32) (a3 : Int32) (M : MM) (w : Int64) (fm : Bool) (l : List (Nat × Nat × Nat)) (t u : Nat) : nR X (callN X d) hX6_mean 0 [vR 2 0, vI a1, vI a2, vI a3] [] (M, w, true, fm, l, t, u) = nBnd (callN X d 41 [vR 3 0, vI a1] (M, w, true, fm, l, t, u)) (fun v s2 => nR X (callN X d) hX6_mean 8 [vR 2 0, vI a1, vI a2, vI a3] (v.toList ++ []) s2) :=
  (nR_itc X _ _ c_X6_mean 4 _ _ _ _).trans rfl
set_option maxRecDepth 100000 in
theorem bX6_mean_8 (d : Nat) (x1 : Int32) (x2 : Int32) (x3 : Int32) (y0 : Int32) (M : MM) (w : Int64) (fm : Bool) (l : List (Nat × Nat × Nat)) (t u : Nat) : nR X (callN X d) hX6_mean 8 [vR 2 0, vI x1, vI x2, vI x3] [vI y0] (M, w, true, fm, l, t, u) = if y0 = 0 then some (some (vL (-4611686018427387904 : Int64)), (M, w, true, fm, l, t, u)) else nBnd (callN X d 81 [vI x2] (M, w, true, fm, l, t, u)) (fun v s2 => nR X (callN X d) hX6_mean 15 [vR 2 0, vI x1, vI x2, vI x3] (v.toList ++ []) s2) :=
  (nR_itc X _ _ c_X6_mean 3 _ _ _ _).trans rfl
set_option maxRecDepth 100000 in
theorem bX6_mean_15 (d : Nat) (x1 : Int32) (x2 : Int32) (x3 : Int32) (y0 : Int32) (M : MM) (w : Int64) (fm : Bool) (l : List (Nat × Nat × Nat)) (t u : Nat) : nR X (callN X d) hX6_mean 15 [vR 2 0, vI x1, vI x2, vI x3] [vI y0] (M, w, true, fm, l, t, u) = if y0 = 0 then some (some (vL (-4611686018427387904 : Int64)), (M, w, true, fm, l, t, u)) else nBnd (callN X d 82 [vI x3] (M, w, true, fm, l, t, u)) (fun v s2 => nR X (callN X d) hX6_mean 22 [vR 2 0, vI x1, vI x2, vI x3] (v.toList ++ []) s2) :=
  (nR_itc X _ _ c_X6_mean 3 _ _ _ _).trans rfl
set_option maxRecDepth 100000 in
theorem bX6_mean_22 (d : Nat) (x1 : Int32) (x2 : Int32) (x3 : Int32) (y0 : Int32) (M : MM) (w : Int64) (fm : Bool) (l : List (Nat × Nat × Nat)) (t u : Nat) : nR X (callN X d) hX6_mean 22 [vR 2 0, vI x1, vI x2, vI x3] [vI y0] (M, w, true, fm, l, t, u) = if y0 = 0 then some (some (vL (-4611686018427387904 : Int64)), (M, w, true, fm, l, t, u)) else cond (nIn ((x1 * (6 : Int32)) + x2) 30) (nBnd (callN X d 45 [vR 3 0, vI x1] (M, w, true, fm, l, t, u)) (fun v s2 => nR X (callN X d) hX6_mean 51 [vR 2 0, vI x1, vI x2, vI x3] (v.toList ++ [vI (M 5 0 (((x1 * (6 : Int32)) + x2)).toNatClampNeg)]) s2)) none :=
  (nR_itc X _ _ c_X6_mean 14 _ _ _ _).trans rfl
set_option maxRecDepth 100000 in
theorem bX6_mean_51 (d : Nat) (x1 : Int32) (x2 : Int32) (x3 : Int32) (y0 : Int32) (y1 : Int32) (M : MM) (w : Int64) (fm : Bool) (l : List (Nat × Nat × Nat)) (t u : Nat) : nR X (callN X d) hX6_mean 51 [vR 2 0, vI x1, vI x2, vI x3] [vI y0, vI y1] (M, w, true, fm, l, t, u) = nBnd (callN X d 110 [vI y1, vI y0, vI x3] (M, w, true, fm, l, t, u)) (fun v s2 => nR X (callN X d) hX6_mean 55 [vR 2 0, vI x1, vI x2, vI x3] (v.toList ++ []) s2) :=
  (nR_itc X _ _ c_X6_mean 2 _ _ _ _).trans rfl
set_option maxRecDepth 100000 in
theorem bX6_mean_55 (d : Nat) (x1 : Int32) (x2 : Int32) (x3 : Int32) (y0 : Int64) (M : MM) (w : Int64) (fm : Bool) (l : List (Nat × Nat × Nat)) (t u : Nat) : nR X (callN X d) hX6_mean 55 [vR 2 0, vI x1, vI x2, vI x3] [vL y0] (M, w, true, fm, l, t, u) = some (some (vL y0), (M, w, true, fm, l, t, u)) :=
  (nR_itc X _ _ c_X6_mean 1 _ _ _ _).trans rfl
def c_X6_stays : List Nat := [8, 15, 22, 35]
set_option maxRecDepth 100000 in
theorem bX6_stays_0 (d : Nat) (a1 : Int32) (a2 : Int32) (a3 : Int32) (M : MM) (w : Int64) (fm : Bool) (l : List (Nat × Nat × Nat)) (t u : Nat) : nR X (callN X d) hX6_stays 0 [vR 2 0, vI a1, vI a2, vI a3] [] (M, w, true, fm, l, t, u) = nBnd (callN X d 41 [vR 3 0, vI a1] (M, w, true, fm, l, t, u)) (fun v s2 => nR X (callN X d) hX6_stays 8 [vR 2 0, vI a1, vI a2, vI a3] (v.toList ++ []) s2) :=
  (nR_itc X _ _ c_X6_stays 4 _ _ _ _).trans rfl
set_option maxRecDepth 100000 in
theorem bX6_stays_8 (d : Nat) (x1 : Int32) (x2 : Int32) (x3 : Int32) (y0 : Int32) (M : MM) (w : Int64) (fm : Bool) (l : List (Nat × Nat × Nat)) (t u : Nat) : nR X (callN X d) hX6_stays 8 [vR 2 0, vI x1, vI x2, vI x3] [vI y0] (M, w, true, fm, l, t, u) = if y0 = 0 then some (some (vI (-2 : Int32)), (M, w, true, fm, l, t, u)) else nBnd (callN X d 88 [vI x2] (M, w, true, fm, l, t, u)) (fun v s2 => nR X (callN X d) hX6_stays 15 [vR 2 0, vI x1, vI x2, vI x3] (v.toList ++ []) s2) :=
  (nR_itc X _ _ c_X6_stays 3 _ _ _ _).trans rfl
set_option maxRecDepth 100000 in
theorem bX6_stays_15 (d : Nat) (x1 : Int32) (x2 : Int32) (x3 : Int32) (y0 : Int32) (M : MM) (w : Int64) (fm : Bool) (l : List (Nat × Nat × Nat)) (t u : Nat) : nR X (callN X d) hX6_stays 15 [vR 2 0, vI x1, vI x2, vI x3] [vI y0] (M, w, true, fm, l, t, u) = if y0 = 0 then some (some (vI (-2 : Int32)), (M, w, true, fm, l, t, u)) else nBnd (callN X d 81 [vI x3] (M, w, true, fm, l, t, u)) (fun v s2 => nR X (callN X d) hX6_stays 22 [vR 2 0, vI x1, vI x2, vI x3] (v.toList ++ []) s2) :=
  (nR_itc X _ _ c_X6_stays 3 _ _ _ _).trans rfl
set_option maxRecDepth 100000 in
theorem bX6_stays_22 (d : Nat) (x1 : Int32) (x2 : Int32) (x3 : Int32) (y0 : Int32) (M : MM) (w : Int64) (fm : Bool) (l : List (Nat × Nat × Nat)) (t u : Nat) : nR X (callN X d) hX6_stays 22 [vR 2 0, vI x1, vI x2, vI x3] [vI y0] (M, w, true, fm, l, t, u) = if y0 = 0 then some (some (vI (-2 : Int32)), (M, w, true, fm, l, t, u)) else nBnd (callN X d 97 [vR 2 0, vI x1, vI x2, vI x3] (M, w, true, fm, l, t, u)) (fun v s2 => nR X (callN X d) hX6_stays 35 [vR 2 0, vI x1, vI x2, vI x3] (v.toList ++ []) s2) :=
  (nR_itc X _ _ c_X6_stays 6 _ _ _ _).trans rfl
set_option maxRecDepth 100000 in
theorem bX6_stays_35 (d : Nat) (x1 : Int32) (x2 : Int32) (x3 : Int32) (y0 : Int32) (M : MM) (w : Int64) (fm : Bool) (l : List (Nat × Nat × Nat)) (t u : Nat) : nR X (callN X d) hX6_stays 35 [vR 2 0, vI x1, vI x2, vI x3] [vI y0] (M, w, true, fm, l, t, u) = some (some (vI y0), (M, w, true, fm, l, t, u)) :=
  (nR_itc X _ _ c_X6_stays 1 _ _ _ _).trans rfl
def c_X6_pack : List Nat := [4, 15, 22, 44, 47, 66, 69, 80]
set_option maxRecDepth 100000 in
theorem bX6_pack_0 (d : Nat) (a1 : Int32) (a2 : Int32) (a3 : Int32) (M : MM) (w : Int64) (fm : Bool) (l : List (Nat × Nat × Nat)) (t u : Nat) : nR X (callN X d) hX6_pack 0 [vR 2 0, vI a1, vI a2, vI a3, vX, vX] [] (M, w, true, fm, l, t, u) = nBnd (callN X d 83 [vI a1] (M, w, true, fm, l, t, u)) (fun v s2 => nR X (callN X d) hX6_pack 4 [vR 2 0, vI a1, vI a2, vI a3, vX, vX] (v.toList ++ []) s2) :=
  (nR_itc X _ _ c_X6_pack 2 _ _ _ _).trans rfl
set_option maxRecDepth 100000 in
theorem bX6_pack_4 (d : Nat) (x1 : Int32) (x2 : Int32) (x3 : Int32) (y0 : Int32) (M : MM) (w : Int64) (fm : Bool) (l : List (Nat × Nat × Nat)) (t u : Nat) : nR X (callN X d) hX6_pack 4 [vR 2 0, vI x1, vI x2, vI x3, vX, vX] [vI y0] (M, w, true, fm, l, t, u) = if y0 = 0 then some (some (vI (-2 : Int32)), (M, w, true, fm, l, t, u)) else nBnd (callN X d 41 [vR 3 0, vI x2] (M, w, true, fm, l, t, u)) (fun v s2 => nR X (callN X d) hX6_pack 15 [vR 2 0, vI x1, vI x2, vI x3, vX, vX] (v.toList ++ []) s2) :=
  (nR_itc X _ _ c_X6_pack 5 _ _ _ _).trans rfl
set_option maxRecDepth 100000 in
theorem bX6_pack_15 (d : Nat) (x1 : Int32) (x2 : Int32) (x3 : Int32) (y0 : Int32) (M : MM) (w : Int64) (fm : Bool) (l : List (Nat × Nat × Nat)) (t u : Nat) : nR X (callN X d) hX6_pack 15 [vR 2 0, vI x1, vI x2, vI x3, vX, vX] [vI y0] (M, w, true, fm, l, t, u) = if y0 = 0 then some (some (vI (-2 : Int32)), (M, w, true, fm, l, t, u)) else nBnd (callN X d 88 [vI x3] (M, w, true, fm, l, t, u)) (fun v s2 => nR X (callN X d) hX6_pack 22 [vR 2 0, vI x1, vI x2, vI x3, vX, vX] (v.toList ++ []) s2) :=
  (nR_itc X _ _ c_X6_pack 3 _ _ _ _).trans rfl
set_option maxRecDepth 100000 in
theorem bX6_pack_22 (d : Nat) (x1 : Int32) (x2 : Int32) (x3 : Int32) (y0 : Int32) (M : MM) (w : Int64) (fm : Bool) (l : List (Nat × Nat × Nat)) (t u : Nat) : nR X (callN X d) hX6_pack 22 [vR 2 0, vI x1, vI x2, vI x3, vX, vX] [vI y0] (M, w, true, fm, l, t, u) = if y0 = 0 then some (some (vI (-2 : Int32)), (M, w, true, fm, l, t, u)) else cond (nIn x1 4) (nBnd (callN X d 33 [vR 18 (x1).toNatClampNeg, vI (2 : Int32), vI (6 : Int32)] (M, w, true, fm, l, t, u)) (fun v s2 => nR X (callN X d) hX6_pack 44 [vR 2 0, vI x1, vI x2, vI x3, vR 18 (x1).toNatClampNeg, vX] (v.toList ++ []) s2)) none :=
  (nR_itc X _ _ c_X6_pack 10 _ _ _ _).trans rfl
set_option maxRecDepth 100000 in
theorem bX6_pack_44 (d : Nat) (x1 : Int32) (x2 : Int32) (x3 : Int32) (r4 : Nat) (M : MM) (w : Int64) (fm : Bool) (l : List (Nat × Nat × Nat)) (t u : Nat) : nR X (callN X d) hX6_pack 44 [vR 2 0, vI x1, vI x2, vI x3, vR 18 r4, vX] [] (M, w, true, fm, l, t, u) = nR X (callN X d) hX6_pack 47 [vR 2 0, vI x1, vI x2, vI x3, vR 18 r4, vI (0 : Int32)] [] (M, w, true, fm, l, t, u) :=
  (nR_itc X _ _ c_X6_pack 2 _ _ _ _).trans rfl
set_option maxRecDepth 100000 in
theorem bX6_pack_47 (d : Nat) (x1 : Int32) (x2 : Int32) (x3 : Int32) (r4 : Nat) (x5 : Int32) (M : MM) (w : Int64) (fm : Bool) (l : List (Nat × Nat × Nat)) (t u : Nat) : nR X (callN X d) hX6_pack 47 [vR 2 0, vI x1, vI x2, vI x3, vR 18 r4, vI x5] [] (M, w, true, fm, l, t, u) = if (6 : Int32) ≤ x5 then nBnd (callN X d 35 [vR 18 r4] (M, w, true, fm, l, t, u)) (fun v s2 => nR X (callN X d) hX6_pack 80 [vR 2 0, vI x1, vI x2, vI x3, vR 18 r4, vI x5] (v.toList ++ []) s2) else nBnd (callN X d 97 [vR 2 0, vI x2, vI x3, vI x5] (M, w, true, fm, l, t, u)) (fun v s2 => nR X (callN X d) hX6_pack 66 [vR 2 0, vI x1, vI x2, vI x3, vR 18 r4, vI x5] (v.toList ++ [vI x5, vR 18 r4]) s2) :=
  (nR_itc X _ _ c_X6_pack 10 _ _ _ _).trans rfl
set_option maxRecDepth 100000 in
theorem bX6_pack_66 (d : Nat) (x1 : Int32) (x2 : Int32) (x3 : Int32) (r4 : Nat) (x5 : Int32) (y0 : Int32) (y1 : Int32) (q2 : Nat) (M : MM) (w : Int64) (fm : Bool) (l : List (Nat × Nat × Nat)) (t u : Nat) : nR X (callN X d) hX6_pack 66 [vR 2 0, vI x1, vI x2, vI x3, vR 18 r4, vI x5] [vI y0, vI y1, vR 18 q2] (M, w, true, fm, l, t, u) = nBnd (callN X d 34 [vR 18 q2, vI y1, vI y0] (M, w, true, fm, l, t, u)) (fun v s2 => nR X (callN X d) hX6_pack 69 [vR 2 0, vI x1, vI x2, vI x3, vR 18 r4, vI x5] (v.toList ++ []) s2) :=
  (nR_itc X _ _ c_X6_pack 1 _ _ _ _).trans rfl
set_option maxRecDepth 100000 in
theorem bX6_pack_69 (d : Nat) (x1 : Int32) (x2 : Int32) (x3 : Int32) (r4 : Nat) (x5 : Int32) (M : MM) (w : Int64) (fm : Bool) (l : List (Nat × Nat × Nat)) (t u : Nat) : nR X (callN X d) hX6_pack 69 [vR 2 0, vI x1, vI x2, vI x3, vR 18 r4, vI x5] [] (M, w, true, fm, l, t, u) = nR X (callN X d) hX6_pack 47 [vR 2 0, vI x1, vI x2, vI x3, vR 18 r4, vI (x5 + (1 : Int32))] [] (M, w, true, fm, l, t, u) :=
  (nR_itc X _ _ c_X6_pack 2 _ _ _ _).trans rfl
set_option maxRecDepth 100000 in
theorem bX6_pack_80 (d : Nat) (x1 : Int32) (x2 : Int32) (x3 : Int32) (r4 : Nat) (x5 : Int32) (y0 : Int32) (M : MM) (w : Int64) (fm : Bool) (l : List (Nat × Nat × Nat)) (t u : Nat) : nR X (callN X d) hX6_pack 80 [vR 2 0, vI x1, vI x2, vI x3, vR 18 r4, vI x5] [vI y0] (M, w, true, fm, l, t, u) = some (some (vI y0), (M, w, true, fm, l, t, u)) :=
  (nR_itc X _ _ c_X6_pack 1 _ _ _ _).trans rfl
def c_X6_fit : List Nat := [4, 15, 41]
set_option maxRecDepth 100000 in
theorem bX6_fit_0 (d : Nat) (a1 : Int32) (a2 : Int32) (a3 : Int32) (M : MM) (w : Int64) (fm : Bool) (l : List (Nat × Nat × Nat)) (t u : Nat) : nR X (callN X d) hX6_fit 0 [vR 2 0, vI a1, vI a2, vI a3, vX] [] (M, w, true, fm, l, t, u) = nBnd (callN X d 83 [vI a1] (M, w, true, fm, l, t, u)) (fun v s2 => nR X (callN X d) hX6_fit 4 [vR 2 0, vI a1, vI a2, vI a3, vX] (v.toList ++ []) s2) :=
  (nR_itc X _ _ c_X6_fit 2 _ _ _ _).trans rfl
set_option maxRecDepth 100000 in
theorem bX6_fit_4 (d : Nat) (x1 : Int32) (x2 : Int32) (x3 : Int32) (y0 : Int32) (M : MM) (w : Int64) (fm : Bool) (l : List (Nat × Nat × Nat)) (t u : Nat) : nR X (callN X d) hX6_fit 4 [vR 2 0, vI x1, vI x2, vI x3, vX] [vI y0] (M, w, true, fm, l, t, u) = if y0 = 0 then some (some (vI (-2 : Int32)), (M, w, true, fm, l, t, u)) else nBnd (callN X d 41 [vR 3 0, vI x2] (M, w, true, fm, l, t, u)) (fun v s2 => nR X (callN X d) hX6_fit 15 [vR 2 0, vI x1, vI x2, vI x3, vX] (v.toList ++ []) s2) :=
  (nR_itc X _ _ c_X6_fit 5 _ _ _ _).trans rfl
set_option maxRecDepth 100000 in
theorem bX6_fit_15 (d : Nat) (x1 : Int32) (x2 : Int32) (x3 : Int32) (y0 : Int32) (M : MM) (w : Int64) (fm : Bool) (l : List (Nat × Nat × Nat)) (t u : Nat) : nR X (callN X d) hX6_fit 15 [vR 2 0, vI x1, vI x2, vI x3, vX] [vI y0] (M, w, true, fm, l, t, u) = if y0 = 0 then some (some (vI (-2 : Int32)), (M, w, true, fm, l, t, u)) else if x3 < 0 then some (some (vI (-2 : Int32)), (M, w, true, fm, l, t, u)) else if x3 ≤ (4 : Int32) then cond (nIn x1 4) (nBnd (callN X d 98 [vR 2 0, vR 18 (x1).toNatClampNeg, vI x2] (M, w, true, fm, l, t, u)) (fun v s2 => nR X (callN X d) hX6_fit 41 [vR 2 0, vI x1, vI x2, vI x3, vX] (v.toList ++ []) s2)) none else some (some (vI (-2 : Int32)), (M, w, true, fm, l, t, u)) :=
  (nR_itc X _ _ c_X6_fit 13 _ _ _ _).trans rfl
set_option maxRecDepth 100000 in
theorem bX6_fit_41 (d : Nat) (x1 : Int32) (x2 : Int32) (x3 : Int32) (y0 : Int32) (M : MM) (w : Int64) (fm : Bool) (l : List (Nat × Nat × Nat)) (t u : Nat) : nR X (callN X d) hX6_fit 41 [vR 2 0, vI x1, vI x2, vI x3, vX] [vI y0] (M, w, true, fm, l, t, u) = if y0 = 0 then if x3 = (0 : Int32) then some (some (vI (M 20 0 0)), (M, w, true, fm, l, t, u)) else if x3 = (1 : Int32) then some (some (vI (M 20 0 1)), (M, w, true, fm, l, t, u)) else if x3 = (2 : Int32) then some (some (vI (M 20 0 2)), (M, w, true, fm, l, t, u)) else if x3 = (3 : Int32) then some (some (vI (M 20 0 3)), (M, w, true, fm, l, t, u)) else some (some (vI (M 20 0 4)), (M, w, true, fm, l, t, u)) else some (some (vI y0), (M, w, true, fm, l, t, u)) :=
  (nR_itc X _ _ c_X6_fit 9 _ _ _ _).trans rfl
def c_X6_share : List Nat := [4, 15, 22, 30, 48, 76]
set_option maxRecDepth 100000 in
theorem bX6_share_0 (d : Nat) (a1 : Int32) (a2 : Int32) (a3 : Int32) (a4 : Int32) (M : MM) (w : Int64) (fm : Bool) (l : List (Nat × Nat × Nat)) (t u : Nat) : nR X (callN X d) hX6_share 0 [vR 2 0, vI a1, vI a2, vI a3, vI a4] [] (M, w, true, fm, l, t, u) = nBnd (callN X d 83 [vI a1] (M, w, true, fm, l, t, u)) (fun v s2 => nR X (callN X d) hX6_share 4 [vR 2 0, vI a1, vI a2, vI a3, vI a4] (v.toList ++ []) s2) :=
  (nR_itc X _ _ c_X6_share 2 _ _ _ _).trans rfl
set_option maxRecDepth 100000 in
theorem bX6_share_4 (d : Nat) (x1 : Int32) (x2 : Int32) (x3 : Int32) (x4 : Int32) (y0 : Int32) (M : MM) (w : Int64) (fm : Bool) (l : List (Nat × Nat × Nat)) (t u : Nat) : nR X (callN X d) hX6_share 4 [vR 2 0, vI x1, vI x2, vI x3, vI x4] [vI y0] (M, w, true, fm, l, t, u) = if y0 = 0 then some (some (vL (-4611686018427387904 : Int64)), (M, w, true, fm, l, t, u)) else nBnd (callN X d 41 [vR 3 0, vI x2] (M, w, true, fm, l, t, u)) (fun v s2 => nR X (callN X d) hX6_share 15 [vR 2 0, vI x1, vI x2, vI x3, vI x4] (v.toList ++ []) s2) :=
  (nR_itc X _ _ c_X6_share 5 _ _ _ _).trans rfl
set_option maxRecDepth 100000 in
theorem bX6_share_15 (d : Nat) (x1 : Int32) (x2 : Int32) (x3 : Int32) (x4 : Int32) (y0 : Int32) (M : MM) (w : Int64) (fm : Bool) (l : List (Nat × Nat × Nat)) (t u : Nat) : nR X (callN X d) hX6_share 15 [vR 2 0, vI x1, vI x2, vI x3, vI x4] [vI y0] (M, w, true, fm, l, t, u) = if y0 = 0 then some (some (vL (-4611686018427387904 : Int64)), (M, w, true, fm, l, t, u)) else nBnd (callN X d 80 [vI x3] (M, w, true, fm, l, t, u)) (fun v s2 => nR X (callN X d) hX6_share 22 [vR 2 0, vI x1, vI x2, vI x3, vI x4] (v.toList ++ []) s2) :=
  (nR_itc X _ _ c_X6_share 3 _ _ _ _).trans rfl
set_option maxRecDepth 100000 in
theorem bX6_share_22 (d : Nat) (x1 : Int32) (x2 : Int32) (x3 : Int32) (x4 : Int32) (y0 : Int32) (M : MM) (w : Int64) (fm : Bool) (l : List (Nat × Nat × Nat)) (t u : Nat) : nR X (callN X d) hX6_share 22 [vR 2 0, vI x1, vI x2, vI x3, vI x4] [vI y0] (M, w, true, fm, l, t, u) = if y0 = 0 then some (some (vL (-4611686018427387904 : Int64)), (M, w, true, fm, l, t, u)) else nBnd (callN X d 82 [vI x4] (M, w, true, fm, l, t, u)) (fun v s2 => nR X (callN X d) hX6_share 30 [vR 2 0, vI x1, vI x2, vI x3, vI x4] (v.toList ++ []) s2) :=
  (nR_itc X _ _ c_X6_share 3 _ _ _ _).trans rfl
set_option maxRecDepth 100000 in
theorem bX6_share_30 (d : Nat) (x1 : Int32) (x2 : Int32) (x3 : Int32) (x4 : Int32) (y0 : Int32) (M : MM) (w : Int64) (fm : Bool) (l : List (Nat × Nat × Nat)) (t u : Nat) : nR X (callN X d) hX6_share 30 [vR 2 0, vI x1, vI x2, vI x3, vI x4] [vI y0] (M, w, true, fm, l, t, u) = if y0 = 0 then some (some (vL (-4611686018427387904 : Int64)), (M, w, true, fm, l, t, u)) else cond (nIn x1 4) (nBnd (callN X d 98 [vR 2 0, vR 18 (x1).toNatClampNeg, vI x2] (M, w, true, fm, l, t, u)) (fun v s2 => nR X (callN X d) hX6_share 48 [vR 2 0, vI x1, vI x2, vI x3, vI x4] (v.toList ++ []) s2)) none :=
  (nR_itc X _ _ c_X6_share 8 _ _ _ _).trans rfl
set_option maxRecDepth 100000 in
theorem bX6_share_48 (d : Nat) (x1 : Int32) (x2 : Int32) (x3 : Int32) (x4 : Int32) (y0 : Int32) (M : MM) (w : Int64) (fm : Bool) (l : List (Nat × Nat × Nat)) (t u : Nat) : nR X (callN X d) hX6_share 48 [vR 2 0, vI x1, vI x2, vI x3, vI x4] [vI y0] (M, w, true, fm, l, t, u) = if y0 = 0 then cond (nIn x3 6) (nBnd (callN X d 110 [vI (M 21 0 (x3).toNatClampNeg), vI (M 20 0 0), vI x4] (M, w, true, fm, l, t, u)) (fun v s2 => nR X (callN X d) hX6_share 76 [vR 2 0, vI x1, vI x2, vI x3, vI x4] (v.toList ++ []) s2)) none else some (some (vL (-4611686018427387904 : Int64)), (M, w, true, fm, l, t, u)) :=
  (nR_itc X _ _ c_X6_share 11 _ _ _ _).trans rfl
set_option maxRecDepth 100000 in
theorem bX6_share_76 (d : Nat) (x1 : Int32) (x2 : Int32) (x3 : Int32) (x4 : Int32) (y0 : Int64) (M : MM) (w : Int64) (fm : Bool) (l : List (Nat × Nat × Nat)) (t u : Nat) : nR X (callN X d) hX6_share 76 [vR 2 0, vI x1, vI x2, vI x3, vI x4] [vL y0] (M, w, true, fm, l, t, u) = some (some (vL y0), (M, w, true, fm, l, t, u)) :=
  (nR_itc X _ _ c_X6_share 1 _ _ _ _).trans rfl
def c_X6_go : List Nat := [6, 37, 43, 71, 84, 96, 136]
set_option maxRecDepth 100000 in
theorem bX6_go_0 (d : Nat) (a1 : Int32) (a2 : Int32) (a3 : Int32) (a4 : Int32) (M : MM) (w : Int64) (fm : Bool) (l : List (Nat × Nat × Nat)) (t u : Nat) : nR X (callN X d) hX6_go 0 [vR 2 0, vI a1, vI a2, vI a3, vI a4, vX, vX, vX, vX, vX] [] (M, w, true, fm, l, t, u) = nBnd (callN X d 84 [vR 2 0, vI a1, vI a2] (M, w, true, fm, l, t, u)) (fun v s2 => nR X (callN X d) hX6_go 6 [vR 2 0, vI a1, vI a2, vI a3, vI a4, vX, vX, vX, vX, vX] (v.toList ++ []) s2) :=
  (nR_itc X _ _ c_X6_go 4 _ _ _ _).trans rfl
set_option maxRecDepth 100000 in
theorem bX6_go_6 (d : Nat) (x1 : Int32) (x2 : Int32) (x3 : Int32) (x4 : Int32) (y0 : Int32) (M : MM) (w : Int64) (fm : Bool) (l : List (Nat × Nat × Nat)) (t u : Nat) : nR X (callN X d) hX6_go 6 [vR 2 0, vI x1, vI x2, vI x3, vI x4, vX, vX, vX, vX, vX] [vI y0] (M, w, true, fm, l, t, u) = if y0 = 0 then some (some (vI (-2 : Int32)), (M, w, true, fm, l, t, u)) else if x3 < 0 then some (some (vI (-2 : Int32)), (M, w, true, fm, l, t, u)) else if (3 : Int32) < x3 then some (some (vI (-2 : Int32)), (M, w, true, fm, l, t, u)) else if x4 < 0 then some (some (vI (-2 : Int32)), (M, w, true, fm, l, t, u)) else if x4 ≤ (1 : Int32) then nBnd (callN X d 96 [vR 2 0, vI x1] (M, w, true, fm, l, t, u)) (fun v s2 => nR X (callN X d) hX6_go 37 [vR 2 0, vI x1, vI x2, vI x3, vI x4, vX, vX, vX, vX, vX] (v.toList ++ []) s2) else some (some (vI (-2 : Int32)), (M, w, true, fm, l, t, u)) :=
  (nR_itc X _ _ c_X6_go 14 _ _ _ _).trans rfl
set_option maxRecDepth 100000 in
theorem bX6_go_37 (d : Nat) (x1 : Int32) (x2 : Int32) (x3 : Int32) (x4 : Int32) (M : MM) (w : Int64) (fm : Bool) (l : List (Nat × Nat × Nat)) (t u : Nat) : nR X (callN X d) hX6_go 37 [vR 2 0, vI x1, vI x2, vI x3, vI x4, vX, vX, vX, vX, vX] [] (M, w, true, fm, l, t, u) = nR X (callN X d) hX6_go 43 [vR 2 0, vI x1, vI x2, vI x3, vI x4, vI (1 : Int32), vI (0 : Int32), vX, vX, vX] [] (M, w, true, fm, l, t, u) :=
  (nR_itc X _ _ c_X6_go 4 _ _ _ _).trans rfl
set_option maxRecDepth 100000 in
theorem bX6_go_43 (d : Nat) (x1 : Int32) (x2 : Int32) (x3 : Int32) (x4 : Int32) (x5 : Int32) (x6 : Int32) (M : MM) (w : Int64) (fm : Bool) (l : List (Nat × Nat × Nat)) (t u : Nat) : nR X (callN X d) hX6_go 43 [vR 2 0, vI x1, vI x2, vI x3, vI x4, vI x5, vI x6, vX, vX, vX] [] (M, w, true, fm, l, t, u) = if x3 ≤ x6 then nR X (callN X d) hX6_go 71 [vR 2 0, vI x1, vI x2, vI x3, vI x4, vI x5, vI (0 : Int32), vI (-1 : Int32), vI (0 : Int32), vX] [] (M, w, true, fm, l, t, u) else nR X (callN X d) hX6_go 43 [vR 2 0, vI x1, vI x2, vI x3, vI x4, vI (x5 * (6 : Int32)), vI (x6 + (1 : Int32)), vX, vX, vX] [] (M, w, true, fm, l, t, u) :=
  (nR_itc X _ _ c_X6_go 9 _ _ _ _).trans rfl
set_option maxRecDepth 100000 in
theorem bX6_go_71 (d : Nat) (x1 : Int32) (x2 : Int32) (x3 : Int32) (x4 : Int32) (x5 : Int32) (x6 : Int32) (x7 : Int32) (x8 : Int32) (x9 : AV) (M : MM) (w : Int64) (fm : Bool) (l : List (Nat × Nat × Nat)) (t u : Nat) : nR X (callN X d) hX6_go 71 [vR 2 0, vI x1, vI x2, vI x3, vI x4, vI x5, vI x6, vI x7, vI x8, x9] [] (M, w, true, fm, l, t, u) = if x5 ≤ x8 then if x4 = 0 then nBnd (callN X d 100 [vI x6, vI x3] (M, w, true, fm, l, t, u)) (fun v s2 => nR X (callN X d) hX6_go 136 [vR 2 0, vI x1, vI x2, vI x3, vI x4, vI x5, vI x6, vI x7, vI x8, x9] (v.toList ++ []) s2) else some (some (vI x7), (M, w, true, fm, l, t, u)) else nBnd (callN X d 99 [vI x8, vI x3] (M, w, true, fm, l, t, u)) (fun v s2 => nR X (callN X d) hX6_go 84 [vR 2 0, vI x1, vI x2, vI x3, vI x4, vI x5, vI x6, vI x7, vI x8, x9] (v.toList ++ []) s2) :=
  (nR_itc X _ _ c_X6_go 8 _ _ _ _).trans rfl
set_option maxRecDepth 100000 in
theorem bX6_go_84 (d : Nat) (x1 : Int32) (x2 : Int32) (x3 : Int32) (x4 : Int32) (x5 : Int32) (x6 : Int32) (x7 : Int32) (x8 : Int32) (x9 : AV) (y0 : Int32) (M : MM) (w : Int64) (fm : Bool) (l : List (Nat × Nat × Nat)) (t u : Nat) : nR X (callN X d) hX6_go 84 [vR 2 0, vI x1, vI x2, vI x3, vI x4, vI x5, vI x6, vI x7, vI x8, x9] [vI y0] (M, w, true, fm, l, t, u) = if y0 = 0 then nR X (callN X d) hX6_go 71 [vR 2 0, vI x1, vI x2, vI x3, vI x4, vI x5, vI x6, vI x7, vI (x8 + (1 : Int32)), x9] [] (M, w, true, fm, l, t, u) else nBnd (callN X d 101 [vR 2 0, vI x1, vI x2, vI x8, vI x3] (M, w, true, fm, l, t, u)) (fun v s2 => nR X (callN X d) hX6_go 96 [vR 2 0, vI x1, vI x2, vI x3, vI x4, vI x5, vI x6, vI x7, vI x8, x9] (v.toList ++ []) s2) :=
  (nR_itc X _ _ c_X6_go 7 _ _ _ _).trans rfl
set_option maxRecDepth 100000 in
theorem bX6_go_96 (d : Nat) (x1 : Int32) (x2 : Int32) (x3 : Int32) (x4 : Int32) (x5 : Int32) (x6 : Int32) (x7 : Int32) (x8 : Int32) (x9 : AV) (y0 : Int32) (M : MM) (w : Int64) (fm : Bool) (l : List (Nat × Nat × Nat)) (t u : Nat) : nR X (callN X d) hX6_go 96 [vR 2 0, vI x1, vI x2, vI x3, vI x4, vI x5, vI x6, vI x7, vI x8, x9] [vI y0] (M, w, true, fm, l, t, u) = if x7 = (-1 : Int32) then nR X (callN X d) hX6_go 71 [vR 2 0, vI x1, vI x2, vI x3, vI x4, vI x5, vI x8, vI y0, vI (x8 + (1 : Int32)), vI y0] [] (M, w, true, fm, l, t, u) else if x7 ≤ y0 then nR X (callN X d) hX6_go 71 [vR 2 0, vI x1, vI x2, vI x3, vI x4, vI x5, vI x6, vI x7, vI (x8 + (1 : Int32)), vI y0] [] (M, w, true, fm, l, t, u) else nR X (callN X d) hX6_go 71 [vR 2 0, vI x1, vI x2, vI x3, vI x4, vI x5, vI x8, vI y0, vI (x8 + (1 : Int32)), vI y0] [] (M, w, true, fm, l, t, u) :=
  (nR_itc X _ _ c_X6_go 13 _ _ _ _).trans rfl
set_option maxRecDepth 100000 in
theorem bX6_go_136 (d : Nat) (x1 : Int32) (x2 : Int32) (x3 : Int32) (x4 : Int32) (x5 : Int32) (x6 : Int32) (x7 : Int32) (x8 : Int32) (x9 : AV) (y0 : Int32) (M : MM) (w : Int64) (fm : Bool) (l : List (Nat × Nat × Nat)) (t u : Nat) : nR X (callN X d) hX6_go 136 [vR 2 0, vI x1, vI x2, vI x3, vI x4, vI x5, vI x6, vI x7, vI x8, x9] [vI y0] (M, w, true, fm, l, t, u) = some (some (vI y0), (M, w, true, fm, l, t, u)) :=
  (nR_itc X _ _ c_X6_go 2 _ _ _ _).trans rfl
def c_X6_tells : List Nat := [4, 15, 22, 53, 123, 135, 144, 153, 165, 180, 191]
set_option maxRecDepth 100000 in
theorem bX6_tells_0 (d : Nat) (a1 : Int32) (a2 : Int32) (a3 : Int32) (a4 : Int32) (M : MM) (w : Int64) (fm : Bool) (l : List (Nat × Nat × Nat)) (t u : Nat) : nR X (callN X d) hX6_tells 0 [vR 2 0, vI a1, vI a2, vI a3, vI a4, vX] [] (M, w, true, fm, l, t, u) = nBnd (callN X d 83 [vI a1] (M, w, true, fm, l, t, u)) (fun v s2 => nR X (callN X d) hX6_tells 4 [vR 2 0, vI a1, vI a2, vI a3, vI a4, vX] (v.toList ++ []) s2) :=
  (nR_itc X _ _ c_X6_tells 2 _ _ _ _).trans rfl
set_option maxRecDepth 100000 in
theorem bX6_tells_4 (d : Nat) (x1 : Int32) (x2 : Int32) (x3 : Int32) (x4 : Int32) (y0 : Int32) (M : MM) (w : Int64) (fm : Bool) (l : List (Nat × Nat × Nat)) (t u : Nat) : nR X (callN X d) hX6_tells 4 [vR 2 0, vI x1, vI x2, vI x3, vI x4, vX] [vI y0] (M, w, true, fm, l, t, u) = if y0 = 0 then some (some (vI (-2 : Int32)), (M, w, true, fm, l, t, u)) else nBnd (callN X d 41 [vR 3 0, vI x2] (M, w, true, fm, l, t, u)) (fun v s2 => nR X (callN X d) hX6_tells 15 [vR 2 0, vI x1, vI x2, vI x3, vI x4, vX] (v.toList ++ []) s2) :=
  (nR_itc X _ _ c_X6_tells 5 _ _ _ _).trans rfl
set_option maxRecDepth 100000 in
theorem bX6_tells_15 (d : Nat) (x1 : Int32) (x2 : Int32) (x3 : Int32) (x4 : Int32) (y0 : Int32) (M : MM) (w : Int64) (fm : Bool) (l : List (Nat × Nat × Nat)) (t u : Nat) : nR X (callN X d) hX6_tells 15 [vR 2 0, vI x1, vI x2, vI x3, vI x4, vX] [vI y0] (M, w, true, fm, l, t, u) = if y0 = 0 then some (some (vI (-2 : Int32)), (M, w, true, fm, l, t, u)) else nBnd (callN X d 80 [vI x3] (M, w, true, fm, l, t, u)) (fun v s2 => nR X (callN X d) hX6_tells 22 [vR 2 0, vI x1, vI x2, vI x3, vI x4, vX] (v.toList ++ []) s2) :=
  (nR_itc X _ _ c_X6_tells 3 _ _ _ _).trans rfl
set_option maxRecDepth 100000 in
theorem bX6_tells_22 (d : Nat) (x1 : Int32) (x2 : Int32) (x3 : Int32) (x4 : Int32) (y0 : Int32) (M : MM) (w : Int64) (fm : Bool) (l : List (Nat × Nat × Nat)) (t u : Nat) : nR X (callN X d) hX6_tells 22 [vR 2 0, vI x1, vI x2, vI x3, vI x4, vX] [vI y0] (M, w, true, fm, l, t, u) = if y0 = 0 then some (some (vI (-2 : Int32)), (M, w, true, fm, l, t, u)) else if x4 < 0 then some (some (vI (-2 : Int32)), (M, w, true, fm, l, t, u)) else if x4 ≤ (6 : Int32) then cond (nIn x1 4) (nBnd (callN X d 30 [vR 18 (x1).toNatClampNeg] (M, w, true, fm, l, t, u)) (fun v s2 => nR X (callN X d) hX6_tells 53 [vR 2 0, vI x1, vI x2, vI x3, vI x4, vR 18 (x1).toNatClampNeg] (v.toList ++ []) s2)) none else some (some (vI (-2 : Int32)), (M, w, true, fm, l, t, u)) :=
  (nR_itc X _ _ c_X6_tells 13 _ _ _ _).trans rfl
set_option maxRecDepth 100000 in
theorem bX6_tells_53 (d : Nat) (x1 : Int32) (x2 : Int32) (x3 : Int32) (x4 : Int32) (r5 : Nat) (y0 : Int32) (M : MM) (w : Int64) (fm : Bool) (l : List (Nat × Nat × Nat)) (t u : Nat) : nR X (callN X d) hX6_tells 53 [vR 2 0, vI x1, vI x2, vI x3, vI x4, vR 18 r5] [vI y0] (M, w, true, fm, l, t, u) = if y0 = 0 then if (M 18 r5 1) ≤ (6 : Int32) then if x4 = (1 : Int32) then nBnd (callN X d 106 [vR 2 0, vR 18 r5, vI x2, vI x3, vI (1 : Int32), vI (6 : Int32)] (M, w, true, fm, l, t, u)) (fun v s2 => nR X (callN X d) hX6_tells 123 [vR 2 0, vI x1, vI x2, vI x3, vI x4, vR 18 r5] (v.toList ++ []) s2) else if x4 = (2 : Int32) then nBnd (callN X d 106 [vR 2 0, vR 18 r5, vI x2, vI x3, vI (2 : Int32), vI (10 : Int32)] (M, w, true, fm, l, t, u)) (fun v s2 => nR X (callN X d) hX6_tells 135 [vR 2 0, vI x1, vI x2, vI x3, vI x4, vR 18 r5] (v.toList ++ []) s2) else if x4 = (3 : Int32) then nBnd (callN X d 107 [vR 2 0, vR 18 r5, vI x2, vI x3] (M, w, true, fm, l, t, u)) (fun v s2 => nR X (callN X d) hX6_tells 144 [vR 2 0, vI x1, vI x2, vI x3, vI x4, vR 18 r5] (v.toList ++ []) s2) else if x4 = (4 : Int32) then nBnd (callN X d 108 [vR 2 0, vR 18 r5, vI x2, vI x3] (M, w, true, fm, l, t, u)) (fun v s2 => nR X (callN X d) hX6_tells 153 [vR 2 0, vI x1, vI x2, vI x3, vI x4, vR 18 r5] (v.toList ++ []) s2) else if x4 = (5 : Int32) then nBnd (callN X d 106 [vR 2 0, vR 18 r5, vI x2, vI x3, vI (5 : Int32), vI (6 : Int32)] (M, w, true, fm, l, t, u)) (fun v s2 => nR X (callN X d) hX6_tells 165 [vR 2 0, vI x1, vI x2, vI x3, vI x4, vR 18 r5] (v.toList ++ []) s2) else if x4 = (6 : Int32) then nBnd (callN X d 106 [vR 2 0, vR 18 r5, vI x2, vI x3, vI (6 : Int32), vI (M 2 0 5)] (M, w, true, fm, l, t, u)) (fun v s2 => nR X (callN X d) hX6_tells 180 [vR 2 0, vI x1, vI x2, vI x3, vI x4, vR 18 r5] (v.toList ++ []) s2) else nBnd (callN X d 105 [vR 2 0, vR 18 r5, vI x2, vI x3, vI (0 : Int32), vI (0 : Int32)] (M, w, true, fm, l, t, u)) (fun v s2 => nR X (callN X d) hX6_tells 191 [vR 2 0, vI x1, vI x2, vI x3, vI x4, vR 18 r5] (v.toList ++ []) s2) else some (some (vI (-2 : Int32)), (M, w, true, fm, l, t, u)) else some (some (vI (-11 : Int32)), (M, w, true, fm, l, t, u)) :=
  (nR_itc X _ _ c_X6_tells 15 _ _ _ _).trans rfl
set_option maxRecDepth 100000 in
theorem bX6_tells_123 (d : Nat) (x1 : Int32) (x2 : Int32) (x3 : Int32) (x4 : Int32) (r5 : Nat) (y0 : Int32) (M : MM) (w : Int64) (fm : Bool) (l : List (Nat × Nat × Nat)) (t u : Nat) : nR X (callN X d) hX6_tells 123 [vR 2 0, vI x1, vI x2, vI x3, vI x4, vR 18 r5] [vI y0] (M, w, true, fm, l, t, u) = some (some (vI y0), (M, w, true, fm, l, t, u)) :=
  (nR_itc X _ _ c_X6_tells 1 _ _ _ _).trans rfl
set_option maxRecDepth 100000 in
theorem bX6_tells_135 (d : Nat) (x1 : Int32) (x2 : Int32) (x3 : Int32) (x4 : Int32) (r5 : Nat) (y0 : Int32) (M : MM) (w : Int64) (fm : Bool) (l : List (Nat × Nat × Nat)) (t u : Nat) : nR X (callN X d) hX6_tells 135 [vR 2 0, vI x1, vI x2, vI x3, vI x4, vR 18 r5] [vI y0] (M, w, true, fm, l, t, u) = some (some (vI y0), (M, w, true, fm, l, t, u)) :=
  (nR_itc X _ _ c_X6_tells 1 _ _ _ _).trans rfl
set_option maxRecDepth 100000 in
theorem bX6_tells_144 (d : Nat) (x1 : Int32) (x2 : Int32) (x3 : Int32) (x4 : Int32) (r5 : Nat) (y0 : Int32) (M : MM) (w : Int64) (fm : Bool) (l : List (Nat × Nat × Nat)) (t u : Nat) : nR X (callN X d) hX6_tells 144 [vR 2 0, vI x1, vI x2, vI x3, vI x4, vR 18 r5] [vI y0] (M, w, true, fm, l, t, u) = some (some (vI y0), (M, w, true, fm, l, t, u)) :=
  (nR_itc X _ _ c_X6_tells 1 _ _ _ _).trans rfl
set_option maxRecDepth 100000 in
theorem bX6_tells_153 (d : Nat) (x1 : Int32) (x2 : Int32) (x3 : Int32) (x4 : Int32) (r5 : Nat) (y0 : Int32) (M : MM) (w : Int64) (fm : Bool) (l : List (Nat × Nat × Nat)) (t u : Nat) : nR X (callN X d) hX6_tells 153 [vR 2 0, vI x1, vI x2, vI x3, vI x4, vR 18 r5] [vI y0] (M, w, true, fm, l, t, u) = some (some (vI y0), (M, w, true, fm, l, t, u)) :=
  (nR_itc X _ _ c_X6_tells 1 _ _ _ _).trans rfl
set_option maxRecDepth 100000 in
theorem bX6_tells_165 (d : Nat) (x1 : Int32) (x2 : Int32) (x3 : Int32) (x4 : Int32) (r5 : Nat) (y0 : Int32) (M : MM) (w : Int64) (fm : Bool) (l : List (Nat × Nat × Nat)) (t u : Nat) : nR X (callN X d) hX6_tells 165 [vR 2 0, vI x1, vI x2, vI x3, vI x4, vR 18 r5] [vI y0] (M, w, true, fm, l, t, u) = some (some (vI y0), (M, w, true, fm, l, t, u)) :=
  (nR_itc X _ _ c_X6_tells 1 _ _ _ _).trans rfl
set_option maxRecDepth 100000 in
theorem bX6_tells_180 (d : Nat) (x1 : Int32) (x2 : Int32) (x3 : Int32) (x4 : Int32) (r5 : Nat) (y0 : Int32) (M : MM) (w : Int64) (fm : Bool) (l : List (Nat × Nat × Nat)) (t u : Nat) : nR X (callN X d) hX6_tells 180 [vR 2 0, vI x1, vI x2, vI x3, vI x4, vR 18 r5] [vI y0] (M, w, true, fm, l, t, u) = some (some (vI y0), (M, w, true, fm, l, t, u)) :=
  (nR_itc X _ _ c_X6_tells 1 _ _ _ _).trans rfl
set_option maxRecDepth 100000 in
theorem bX6_tells_191 (d : Nat) (x1 : Int32) (x2 : Int32) (x3 : Int32) (x4 : Int32) (r5 : Nat) (y0 : Int32) (M : MM) (w : Int64) (fm : Bool) (l : List (Nat × Nat × Nat)) (t u : Nat) : nR X (callN X d) hX6_tells 191 [vR 2 0, vI x1, vI x2, vI x3, vI x4, vR 18 r5] [vI y0] (M, w, true, fm, l, t, u) = some (some (vI y0), (M, w, true, fm, l, t, u)) :=
  (nR_itc X _ _ c_X6_tells 1 _ _ _ _).trans rfl
def c_X6_film : List Nat := [4, 15, 22, 44, 47, 66, 69, 80]
set_option maxRecDepth 100000 in
theorem bX6_film_0 (d : Nat) (a1 : Int32) (a2 : Int32) (a3 : Int32) (M : MM) (w : Int64) (fm : Bool) (l : List (Nat × Nat × Nat)) (t u : Nat) : nR X (callN X d) hX6_film 0 [vR 2 0, vI a1, vI a2, vI a3, vX, vX] [] (M, w, true, fm, l, t, u) = nBnd (callN X d 83 [vI a1] (M, w, true, fm, l, t, u)) (fun v s2 => nR X (callN X d) hX6_film 4 [vR 2 0, vI a1, vI a2, vI a3, vX, vX] (v.toList ++ []) s2) :=
  (nR_itc X _ _ c_X6_film 2 _ _ _ _).trans rfl
set_option maxRecDepth 100000 in
theorem bX6_film_4 (d : Nat) (x1 : Int32) (x2 : Int32) (x3 : Int32) (y0 : Int32) (M : MM) (w : Int64) (fm : Bool) (l : List (Nat × Nat × Nat)) (t u : Nat) : nR X (callN X d) hX6_film 4 [vR 2 0, vI x1, vI x2, vI x3, vX, vX] [vI y0] (M, w, true, fm, l, t, u) = if y0 = 0 then some (some (vI (-2 : Int32)), (M, w, true, fm, l, t, u)) else nBnd (callN X d 41 [vR 3 0, vI x2] (M, w, true, fm, l, t, u)) (fun v s2 => nR X (callN X d) hX6_film 15 [vR 2 0, vI x1, vI x2, vI x3, vX, vX] (v.toList ++ []) s2) :=
  (nR_itc X _ _ c_X6_film 5 _ _ _ _).trans rfl
set_option maxRecDepth 100000 in
theorem bX6_film_15 (d : Nat) (x1 : Int32) (x2 : Int32) (x3 : Int32) (y0 : Int32) (M : MM) (w : Int64) (fm : Bool) (l : List (Nat × Nat × Nat)) (t u : Nat) : nR X (callN X d) hX6_film 15 [vR 2 0, vI x1, vI x2, vI x3, vX, vX] [vI y0] (M, w, true, fm, l, t, u) = if y0 = 0 then some (some (vI (-2 : Int32)), (M, w, true, fm, l, t, u)) else nBnd (callN X d 80 [vI x3] (M, w, true, fm, l, t, u)) (fun v s2 => nR X (callN X d) hX6_film 22 [vR 2 0, vI x1, vI x2, vI x3, vX, vX] (v.toList ++ []) s2) :=
  (nR_itc X _ _ c_X6_film 3 _ _ _ _).trans rfl
set_option maxRecDepth 100000 in
theorem bX6_film_22 (d : Nat) (x1 : Int32) (x2 : Int32) (x3 : Int32) (y0 : Int32) (M : MM) (w : Int64) (fm : Bool) (l : List (Nat × Nat × Nat)) (t u : Nat) : nR X (callN X d) hX6_film 22 [vR 2 0, vI x1, vI x2, vI x3, vX, vX] [vI y0] (M, w, true, fm, l, t, u) = if y0 = 0 then some (some (vI (-2 : Int32)), (M, w, true, fm, l, t, u)) else cond (nIn x1 4) (nBnd (callN X d 33 [vR 18 (x1).toNatClampNeg, vI (0 : Int32), vI (6 : Int32)] (M, w, true, fm, l, t, u)) (fun v s2 => nR X (callN X d) hX6_film 44 [vR 2 0, vI x1, vI x2, vI x3, vR 18 (x1).toNatClampNeg, vX] (v.toList ++ []) s2)) none :=
  (nR_itc X _ _ c_X6_film 10 _ _ _ _).trans rfl
set_option maxRecDepth 100000 in
theorem bX6_film_44 (d : Nat) (x1 : Int32) (x2 : Int32) (x3 : Int32) (r4 : Nat) (M : MM) (w : Int64) (fm : Bool) (l : List (Nat × Nat × Nat)) (t u : Nat) : nR X (callN X d) hX6_film 44 [vR 2 0, vI x1, vI x2, vI x3, vR 18 r4, vX] [] (M, w, true, fm, l, t, u) = nR X (callN X d) hX6_film 47 [vR 2 0, vI x1, vI x2, vI x3, vR 18 r4, vI (0 : Int32)] [] (M, w, true, fm, l, t, u) :=
  (nR_itc X _ _ c_X6_film 2 _ _ _ _).trans rfl
set_option maxRecDepth 100000 in
theorem bX6_film_47 (d : Nat) (x1 : Int32) (x2 : Int32) (x3 : Int32) (r4 : Nat) (x5 : Int32) (M : MM) (w : Int64) (fm : Bool) (l : List (Nat × Nat × Nat)) (t u : Nat) : nR X (callN X d) hX6_film 47 [vR 2 0, vI x1, vI x2, vI x3, vR 18 r4, vI x5] [] (M, w, true, fm, l, t, u) = if (6 : Int32) ≤ x5 then nBnd (callN X d 35 [vR 18 r4] (M, w, true, fm, l, t, u)) (fun v s2 => nR X (callN X d) hX6_film 80 [vR 2 0, vI x1, vI x2, vI x3, vR 18 r4, vI x5] (v.toList ++ []) s2) else nBnd (callN X d 92 [vR 2 0, vI x2, vI x3, vI x5] (M, w, true, fm, l, t, u)) (fun v s2 => nR X (callN X d) hX6_film 66 [vR 2 0, vI x1, vI x2, vI x3, vR 18 r4, vI x5] (v.toList ++ [vI x5, vR 18 r4]) s2) :=
  (nR_itc X _ _ c_X6_film 10 _ _ _ _).trans rfl
set_option maxRecDepth 100000 in
theorem bX6_film_66 (d : Nat) (x1 : Int32) (x2 : Int32) (x3 : Int32) (r4 : Nat) (x5 : Int32) (y0 : Int32) (y1 : Int32) (q2 : Nat) (M : MM) (w : Int64) (fm : Bool) (l : List (Nat × Nat × Nat)) (t u : Nat) : nR X (callN X d) hX6_film 66 [vR 2 0, vI x1, vI x2, vI x3, vR 18 r4, vI x5] [vI y0, vI y1, vR 18 q2] (M, w, true, fm, l, t, u) = nBnd (callN X d 34 [vR 18 q2, vI y1, vI y0] (M, w, true, fm, l, t, u)) (fun v s2 => nR X (callN X d) hX6_film 69 [vR 2 0, vI x1, vI x2, vI x3, vR 18 r4, vI x5] (v.toList ++ []) s2) :=
  (nR_itc X _ _ c_X6_film 1 _ _ _ _).trans rfl
set_option maxRecDepth 100000 in
theorem bX6_film_69 (d : Nat) (x1 : Int32) (x2 : Int32) (x3 : Int32) (r4 : Nat) (x5 : Int32) (M : MM) (w : Int64) (fm : Bool) (l : List (Nat × Nat × Nat)) (t u : Nat) : nR X (callN X d) hX6_film 69 [vR 2 0, vI x1, vI x2, vI x3, vR 18 r4, vI x5] [] (M, w, true, fm, l, t, u) = nR X (callN X d) hX6_film 47 [vR 2 0, vI x1, vI x2, vI x3, vR 18 r4, vI (x5 + (1 : Int32))] [] (M, w, true, fm, l, t, u) :=
  (nR_itc X _ _ c_X6_film 2 _ _ _ _).trans rfl
set_option maxRecDepth 100000 in
theorem bX6_film_80 (d : Nat) (x1 : Int32) (x2 : Int32) (x3 : Int32) (r4 : Nat) (x5 : Int32) (y0 : Int32) (M : MM) (w : Int64) (fm : Bool) (l : List (Nat × Nat × Nat)) (t u : Nat) : nR X (callN X d) hX6_film 80 [vR 2 0, vI x1, vI x2, vI x3, vR 18 r4, vI x5] [vI y0] (M, w, true, fm, l, t, u) = some (some (vI y0), (M, w, true, fm, l, t, u)) :=
  (nR_itc X _ _ c_X6_film 1 _ _ _ _).trans rfl
def c_X6_drawn : List Nat := [8, 31]
set_option maxRecDepth 100000 in
theorem bX6_drawn_0 (d : Nat) (a1 : Int32) (a2 : Int32) (a3 : Int32) (M : MM) (w : Int64) (fm : Bool) (l : List (Nat × Nat × Nat)) (t u : Nat) : nR X (callN X d) hX6_drawn 0 [vR 2 0, vI a1, vI a2, vI a3] [] (M, w, true, fm, l, t, u) = nBnd (callN X d 41 [vR 3 0, vI a2] (M, w, true, fm, l, t, u)) (fun v s2 => nR X (callN X d) hX6_drawn 8 [vR 2 0, vI a1, vI a2, vI a3] (v.toList ++ []) s2) :=
  (nR_itc X _ _ c_X6_drawn 4 _ _ _ _).trans rfl
set_option maxRecDepth 100000 in
theorem bX6_drawn_8 (d : Nat) (x1 : Int32) (x2 : Int32) (x3 : Int32) (y0 : Int32) (M : MM) (w : Int64) (fm : Bool) (l : List (Nat × Nat × Nat)) (t u : Nat) : nR X (callN X d) hX6_drawn 8 [vR 2 0, vI x1, vI x2, vI x3] [vI y0] (M, w, true, fm, l, t, u) = if y0 = 0 then some (some (vI (-2 : Int32)), (M, w, true, fm, l, t, u)) else if x3 < 0 then some (some (vI (-2 : Int32)), (M, w, true, fm, l, t, u)) else if x3 ≤ (40 : Int32) then nBnd (callN X d 103 [vR 2 0, vI x1, vI x2, vI x3] (M, w, true, fm, l, t, u)) (fun v s2 => nR X (callN X d) hX6_drawn 31 [vR 2 0, vI x1, vI x2, vI x3] (v.toList ++ []) s2) else some (some (vI (-2 : Int32)), (M, w, true, fm, l, t, u)) :=
  (nR_itc X _ _ c_X6_drawn 11 _ _ _ _).trans rfl
set_option maxRecDepth 100000 in
theorem bX6_drawn_31 (d : Nat) (x1 : Int32) (x2 : Int32) (x3 : Int32) (y0 : Int32) (M : MM) (w : Int64) (fm : Bool) (l : List (Nat × Nat × Nat)) (t u : Nat) : nR X (callN X d) hX6_drawn 31 [vR 2 0, vI x1, vI x2, vI x3] [vI y0] (M, w, true, fm, l, t, u) = some (some (vI y0), (M, w, true, fm, l, t, u)) :=
  (nR_itc X _ _ c_X6_drawn 1 _ _ _ _).trans rfl
def c_X6_chance : List Nat := [19, 40, 53, 69, 91]
set_option maxRecDepth 100000 in
theorem bX6_chance_0 (d : Nat) (a1 : Int32) (a2 : Int32) (a3 : Int32) (a4 : Int32) (a5 : Int32) (M : MM) (w : Int64) (fm : Bool) (l : List (Nat × Nat × Nat)) (t u : Nat) : nR X (callN X d) hX6_chance 0 [vR 2 0, vI a1, vI a2, vI a3, vI a4, vI a5, vX, vX] [] (M, w, true, fm, l, t, u) = if a2 < (1 : Int32) then some (some (vL (-4611686018427387904 : Int64)), (M, w, true, fm, l, t, u)) else if (20 : Int32) < a2 then some (some (vL (-4611686018427387904 : Int64)), (M, w, true, fm, l, t, u)) else nBnd (callN X d 41 [vR 3 0, vI a3] (M, w, true, fm, l, t, u)) (fun v s2 => nR X (callN X d) hX6_chance 19 [vR 2 0, vI a1, vI a2, vI a3, vI a4, vI a5, vX, vX] (v.toList ++ []) s2) :=
  (nR_itc X _ _ c_X6_chance 10 _ _ _ _).trans rfl
set_option maxRecDepth 100000 in
theorem bX6_chance_19 (d : Nat) (x1 : Int32) (x2 : Int32) (x3 : Int32) (x4 : Int32) (x5 : Int32) (y0 : Int32) (M : MM) (w : Int64) (fm : Bool) (l : List (Nat × Nat × Nat)) (t u : Nat) : nR X (callN X d) hX6_chance 19 [vR 2 0, vI x1, vI x2, vI x3, vI x4, vI x5, vX, vX] [vI y0] (M, w, true, fm, l, t, u) = if y0 = 0 then some (some (vL (-4611686018427387904 : Int64)), (M, w, true, fm, l, t, u)) else if x4 < 0 then some (some (vL (-4611686018427387904 : Int64)), (M, w, true, fm, l, t, u)) else if (99999 : Int32) < x4 then some (some (vL (-4611686018427387904 : Int64)), (M, w, true, fm, l, t, u)) else nBnd (callN X d 82 [vI x5] (M, w, true, fm, l, t, u)) (fun v s2 => nR X (callN X d) hX6_chance 40 [vR 2 0, vI x1, vI x2, vI x3, vI x4, vI x5, vX, vX] (v.toList ++ []) s2) :=
  (nR_itc X _ _ c_X6_chance 8 _ _ _ _).trans rfl
set_option maxRecDepth 100000 in
theorem bX6_chance_40 (d : Nat) (x1 : Int32) (x2 : Int32) (x3 : Int32) (x4 : Int32) (x5 : Int32) (y0 : Int32) (M : MM) (w : Int64) (fm : Bool) (l : List (Nat × Nat × Nat)) (t u : Nat) : nR X (callN X d) hX6_chance 40 [vR 2 0, vI x1, vI x2, vI x3, vI x4, vI x5, vX, vX] [vI y0] (M, w, true, fm, l, t, u) = if y0 = 0 then some (some (vL (-4611686018427387904 : Int64)), (M, w, true, fm, l, t, u)) else nR X (callN X d) hX6_chance 53 [vR 2 0, vI x1, vI x2, vI x3, vI x4, vI x5, vI (0 : Int32), vI (0 : Int32)] [] (M, w, true, fm, l, t, u) :=
  (nR_itc X _ _ c_X6_chance 5 _ _ _ _).trans rfl
set_option maxRecDepth 100000 in
theorem bX6_chance_53 (d : Nat) (x1 : Int32) (x2 : Int32) (x3 : Int32) (x4 : Int32) (x5 : Int32) (x6 : Int32) (x7 : Int32) (M : MM) (w : Int64) (fm : Bool) (l : List (Nat × Nat × Nat)) (t u : Nat) : nR X (callN X d) hX6_chance 53 [vR 2 0, vI x1, vI x2, vI x3, vI x4, vI x5, vI x6, vI x7] [] (M, w, true, fm, l, t, u) = if x2 ≤ x7 then nBnd (callN X d 110 [vI x6, vI x2, vI x5] (M, w, true, fm, l, t, u)) (fun v s2 => nR X (callN X d) hX6_chance 91 [vR 2 0, vI x1, vI x2, vI x3, vI x4, vI x5, vI x6, vI x7] (v.toList ++ []) s2) else nBnd (callN X d 103 [vR 2 0, vI (x1 + x7), vI x3, vI (5 : Int32)] (M, w, true, fm, l, t, u)) (fun v s2 => nR X (callN X d) hX6_chance 69 [vR 2 0, vI x1, vI x2, vI x3, vI x4, vI x5, vI x6, vI x7] (v.toList ++ []) s2) :=
  (nR_itc X _ _ c_X6_chance 10 _ _ _ _).trans rfl
set_option maxRecDepth 100000 in
theorem bX6_chance_69 (d : Nat) (x1 : Int32) (x2 : Int32) (x3 : Int32) (x4 : Int32) (x5 : Int32) (x6 : Int32) (x7 : Int32) (y0 : Int32) (M : MM) (w : Int64) (fm : Bool) (l : List (Nat × Nat × Nat)) (t u : Nat) : nR X (callN X d) hX6_chance 69 [vR 2 0, vI x1, vI x2, vI x3, vI x4, vI x5, vI x6, vI x7] [vI y0] (M, w, true, fm, l, t, u) = if y0 < x4 then nR X (callN X d) hX6_chance 53 [vR 2 0, vI x1, vI x2, vI x3, vI x4, vI x5, vI x6, vI (x7 + (1 : Int32))] [] (M, w, true, fm, l, t, u) else nR X (callN X d) hX6_chance 53 [vR 2 0, vI x1, vI x2, vI x3, vI x4, vI x5, vI (x6 + (1 : Int32)), vI (x7 + (1 : Int32))] [] (M, w, true, fm, l, t, u) :=
  (nR_itc X _ _ c_X6_chance 5 _ _ _ _).trans rfl
set_option maxRecDepth 100000 in
theorem bX6_chance_91 (d : Nat) (x1 : Int32) (x2 : Int32) (x3 : Int32) (x4 : Int32) (x5 : Int32) (x6 : Int32) (x7 : Int32) (y0 : Int64) (M : MM) (w : Int64) (fm : Bool) (l : List (Nat × Nat × Nat)) (t u : Nat) : nR X (callN X d) hX6_chance 91 [vR 2 0, vI x1, vI x2, vI x3, vI x4, vI x5, vI x6, vI x7] [vL y0] (M, w, true, fm, l, t, u) = some (some (vL y0), (M, w, true, fm, l, t, u)) :=
  (nR_itc X _ _ c_X6_chance 1 _ _ _ _).trans rfl
def c_X6_image : List Nat := [11]
set_option maxRecDepth 100000 in
theorem bX6_image_0 (d : Nat) (M : MM) (w : Int64) (fm : Bool) (l : List (Nat × Nat × Nat)) (t u : Nat) : nR X (callN X d) hX6_image 0 [vR 2 0] [] (M, w, true, fm, l, t, u) = nBnd (callN X d 43 [vR 3 1, vR 3 0] (M, w, true, fm, l, t, u)) (fun v s2 => nR X (callN X d) hX6_image 11 [vR 2 0] (v.toList ++ []) s2) :=
  (nR_itc X _ _ c_X6_image 5 _ _ _ _).trans rfl
set_option maxRecDepth 100000 in
theorem bX6_image_11 (d : Nat) (M : MM) (w : Int64) (fm : Bool) (l : List (Nat × Nat × Nat)) (t u : Nat) : nR X (callN X d) hX6_image 11 [vR 2 0] [] (M, w, true, fm, l, t, u) = some (some (vI ((nSt M 2 0 2 (1 : Int32)) 3 0 2)), ((nSt M 2 0 2 (1 : Int32)), w, true, fm, l, t, u)) :=
  (nR_itc X _ _ c_X6_image 7 _ _ _ _).trans rfl
def c_X6_back : List Nat := [21]
set_option maxRecDepth 100000 in
theorem bX6_back_0 (d : Nat) (M : MM) (w : Int64) (fm : Bool) (l : List (Nat × Nat × Nat)) (t u : Nat) : nR X (callN X d) hX6_back 0 [vR 2 0] [] (M, w, true, fm, l, t, u) = if (M 2 0 2) = 0 then some (some (vI (-3 : Int32)), (M, w, true, fm, l, t, u)) else nBnd (callN X d 43 [vR 3 0, vR 3 1] (M, w, true, fm, l, t, u)) (fun v s2 => nR X (callN X d) hX6_back 21 [vR 2 0] (v.toList ++ []) s2) :=
  (nR_itc X _ _ c_X6_back 8 _ _ _ _).trans rfl
set_option maxRecDepth 100000 in
theorem bX6_back_21 (d : Nat) (M : MM) (w : Int64) (fm : Bool) (l : List (Nat × Nat × Nat)) (t u : Nat) : nR X (callN X d) hX6_back 21 [vR 2 0] [] (M, w, true, fm, l, t, u) = some (some (vI (M 3 0 2)), (M, w, true, fm, l, t, u)) :=
  (nR_itc X _ _ c_X6_back 4 _ _ _ _).trans rfl
def c_X6_count : List Nat := [63]
set_option maxRecDepth 100000 in
theorem bX6_count_0 (d : Nat) (a1 : Int32) (M : MM) (w : Int64) (fm : Bool) (l : List (Nat × Nat × Nat)) (t u : Nat) : nR X (callN X d) hX6_count 0 [vR 2 0, vI a1] [] (M, w, true, fm, l, t, u) = if a1 = (0 : Int32) then some (some (vI (M 3 0 2)), (M, w, true, fm, l, t, u)) else if a1 = (1 : Int32) then some (some (vI (M 3 0 0)), (M, w, true, fm, l, t, u)) else if a1 = (2 : Int32) then nBnd (callN X d 46 [vR 3 0] (M, w, true, fm, l, t, u)) (fun v s2 => nR X (callN X d) hX6_count 63 [vR 2 0, vI a1] (v.toList ++ []) s2) else if a1 = (3 : Int32) then some (some (vI (M 2 0 5)), (M, w, true, fm, l, t, u)) else if a1 = (4 : Int32) then some (some (vI (M 9 0 1)), (M, w, true, fm, l, t, u)) else if a1 = (5 : Int32) then some (some (vI (M 3 0 1)), (M, w, true, fm, l, t, u)) else some (some (vI (-2 : Int32)), (M, w, true, fm, l, t, u)) :=
  (nR_itc X _ _ c_X6_count 6 _ _ _ _).trans rfl
set_option maxRecDepth 100000 in
theorem bX6_count_63 (d : Nat) (x1 : Int32) (y0 : Int32) (M : MM) (w : Int64) (fm : Bool) (l : List (Nat × Nat × Nat)) (t u : Nat) : nR X (callN X d) hX6_count 63 [vR 2 0, vI x1] [vI y0] (M, w, true, fm, l, t, u) = some (some (vI y0), (M, w, true, fm, l, t, u)) :=
  (nR_itc X _ _ c_X6_count 1 _ _ _ _).trans rfl
def c_X6_sheet : List Nat := [4, 16, 38, 67]
set_option maxRecDepth 100000 in
theorem bX6_sheet_0 (d : Nat) (a1 : Int32) (a2 : Int32) (a3 : Int32) (M : MM) (w : Int64) (fm : Bool) (l : List (Nat × Nat × Nat)) (t u : Nat) : nR X (callN X d) hX6_sheet 0 [vR 2 0, vI a1, vI a2, vI a3] [] (M, w, true, fm, l, t, u) = nBnd (callN X d 83 [vI a1] (M, w, true, fm, l, t, u)) (fun v s2 => nR X (callN X d) hX6_sheet 4 [vR 2 0, vI a1, vI a2, vI a3] (v.toList ++ []) s2) :=
  (nR_itc X _ _ c_X6_sheet 2 _ _ _ _).trans rfl
set_option maxRecDepth 100000 in
theorem bX6_sheet_4 (d : Nat) (x1 : Int32) (x2 : Int32) (x3 : Int32) (y0 : Int32) (M : MM) (w : Int64) (fm : Bool) (l : List (Nat × Nat × Nat)) (t u : Nat) : nR X (callN X d) hX6_sheet 4 [vR 2 0, vI x1, vI x2, vI x3] [vI y0] (M, w, true, fm, l, t, u) = if y0 = 0 then some (some (vI (-2 : Int32)), (M, w, true, fm, l, t, u)) else if x2 = (-1 : Int32) then if x2 = (-1 : Int32) then cond (nIn x1 4) (nBnd (callN X d 33 [vR 18 (x1).toNatClampNeg, vI (-1 : Int32), vI (0 : Int32)] (M, w, true, fm, l, t, u)) (fun v s2 => nR X (callN X d) hX6_sheet 38 [vR 2 0, vI x1, vI x2, vI x3] (v.toList ++ []) s2)) none else if x3 ≤ (40 : Int32) then if 0 ≤ x3 then cond (nIn x1 4) (nBnd (callN X d 33 [vR 18 (x1).toNatClampNeg, vI x2, vI x3] (M, w, true, fm, l, t, u)) (fun v s2 => nR X (callN X d) hX6_sheet 67 [vR 2 0, vI x1, vI x2, vI x3] (v.toList ++ []) s2)) none else some (some (vI (-14 : Int32)), (M, w, true, fm, l, t, u)) else some (some (vI (-2 : Int32)), (M, w, true, fm, l, t, u)) else nBnd (callN X d 29 [vI x2] (M, w, true, fm, l, t, u)) (fun v s2 => nR X (callN X d) hX6_sheet 16 [vR 2 0, vI x1, vI x2, vI x3] (v.toList ++ []) s2) :=
  (nR_itc X _ _ c_X6_sheet 19 _ _ _ _).trans rfl
set_option maxRecDepth 100000 in
theorem bX6_sheet_16 (d : Nat) (x1 : Int32) (x2 : Int32) (x3 : Int32) (y0 : Int32) (M : MM) (w : Int64) (fm : Bool) (l : List (Nat × Nat × Nat)) (t u : Nat) : nR X (callN X d) hX6_sheet 16 [vR 2 0, vI x1, vI x2, vI x3] [vI y0] (M, w, true, fm, l, t, u) = if y0 = 0 then some (some (vI (-2 : Int32)), (M, w, true, fm, l, t, u)) else if x2 = (-1 : Int32) then cond (nIn x1 4) (nBnd (callN X d 33 [vR 18 (x1).toNatClampNeg, vI (-1 : Int32), vI (0 : Int32)] (M, w, true, fm, l, t, u)) (fun v s2 => nR X (callN X d) hX6_sheet 38 [vR 2 0, vI x1, vI x2, vI x3] (v.toList ++ []) s2)) none else if x3 ≤ (40 : Int32) then if 0 ≤ x3 then cond (nIn x1 4) (nBnd (callN X d 33 [vR 18 (x1).toNatClampNeg, vI x2, vI x3] (M, w, true, fm, l, t, u)) (fun v s2 => nR X (callN X d) hX6_sheet 67 [vR 2 0, vI x1, vI x2, vI x3] (v.toList ++ []) s2)) none else some (some (vI (-14 : Int32)), (M, w, true, fm, l, t, u)) else some (some (vI (-2 : Int32)), (M, w, true, fm, l, t, u)) :=
  (nR_itc X _ _ c_X6_sheet 16 _ _ _ _).trans rfl
set_option maxRecDepth 100000 in
theorem bX6_sheet_38 (d : Nat) (x1 : Int32) (x2 : Int32) (x3 : Int32) (M : MM) (w : Int64) (fm : Bool) (l : List (Nat × Nat × Nat)) (t u : Nat) : nR X (callN X d) hX6_sheet 38 [vR 2 0, vI x1, vI x2, vI x3] [] (M, w, true, fm, l, t, u) = some (some (vI (1 : Int32)), (M, w, true, fm, l, t, u)) :=
  (nR_itc X _ _ c_X6_sheet 2 _ _ _ _).trans rfl
set_option maxRecDepth 100000 in
theorem bX6_sheet_67 (d : Nat) (x1 : Int32) (x2 : Int32) (x3 : Int32) (M : MM) (w : Int64) (fm : Bool) (l : List (Nat × Nat × Nat)) (t u : Nat) : nR X (callN X d) hX6_sheet 67 [vR 2 0, vI x1, vI x2, vI x3] [] (M, w, true, fm, l, t, u) = some (some (vI (1 : Int32)), (M, w, true, fm, l, t, u)) :=
  (nR_itc X _ _ c_X6_sheet 2 _ _ _ _).trans rfl
def c_X6_cell : List Nat := [4, 23, 35, 48]
set_option maxRecDepth 100000 in
theorem bX6_cell_0 (d : Nat) (a1 : Int32) (a2 : Int32) (a3 : Int32) (M : MM) (w : Int64) (fm : Bool) (l : List (Nat × Nat × Nat)) (t u : Nat) : nR X (callN X d) hX6_cell 0 [vR 2 0, vI a1, vI a2, vI a3, vX] [] (M, w, true, fm, l, t, u) = nBnd (callN X d 83 [vI a1] (M, w, true, fm, l, t, u)) (fun v s2 => nR X (callN X d) hX6_cell 4 [vR 2 0, vI a1, vI a2, vI a3, vX] (v.toList ++ []) s2) :=
  (nR_itc X _ _ c_X6_cell 2 _ _ _ _).trans rfl
set_option maxRecDepth 100000 in
theorem bX6_cell_4 (d : Nat) (x1 : Int32) (x2 : Int32) (x3 : Int32) (y0 : Int32) (M : MM) (w : Int64) (fm : Bool) (l : List (Nat × Nat × Nat)) (t u : Nat) : nR X (callN X d) hX6_cell 4 [vR 2 0, vI x1, vI x2, vI x3, vX] [vI y0] (M, w, true, fm, l, t, u) = if y0 = 0 then some (some (vI (-2 : Int32)), (M, w, true, fm, l, t, u)) else cond (nIn x1 4) (nBnd (callN X d 30 [vR 18 (x1).toNatClampNeg] (M, w, true, fm, l, t, u)) (fun v s2 => nR X (callN X d) hX6_cell 23 [vR 2 0, vI x1, vI x2, vI x3, vR 18 (x1).toNatClampNeg] (v.toList ++ []) s2)) none :=
  (nR_itc X _ _ c_X6_cell 8 _ _ _ _).trans rfl
set_option maxRecDepth 100000 in
theorem bX6_cell_23 (d : Nat) (x1 : Int32) (x2 : Int32) (x3 : Int32) (r4 : Nat) (y0 : Int32) (M : MM) (w : Int64) (fm : Bool) (l : List (Nat × Nat × Nat)) (t u : Nat) : nR X (callN X d) hX6_cell 23 [vR 2 0, vI x1, vI x2, vI x3, vR 18 r4] [vI y0] (M, w, true, fm, l, t, u) = if y0 = 0 then nBnd (callN X d 31 [vR 18 r4, vI x2] (M, w, true, fm, l, t, u)) (fun v s2 => nR X (callN X d) hX6_cell 35 [vR 2 0, vI x1, vI x2, vI x3, vR 18 r4] (v.toList ++ []) s2) else some (some (vI (-11 : Int32)), (M, w, true, fm, l, t, u)) :=
  (nR_itc X _ _ c_X6_cell 4 _ _ _ _).trans rfl
set_option maxRecDepth 100000 in
theorem bX6_cell_35 (d : Nat) (x1 : Int32) (x2 : Int32) (x3 : Int32) (r4 : Nat) (y0 : Int32) (M : MM) (w : Int64) (fm : Bool) (l : List (Nat × Nat × Nat)) (t u : Nat) : nR X (callN X d) hX6_cell 35 [vR 2 0, vI x1, vI x2, vI x3, vR 18 r4] [vI y0] (M, w, true, fm, l, t, u) = if y0 = 0 then some (some (vI (-12 : Int32)), (M, w, true, fm, l, t, u)) else nBnd (callN X d 34 [vR 18 r4, vI x2, vI x3] (M, w, true, fm, l, t, u)) (fun v s2 => nR X (callN X d) hX6_cell 48 [vR 2 0, vI x1, vI x2, vI x3, vR 18 r4] (v.toList ++ []) s2) :=
  (nR_itc X _ _ c_X6_cell 5 _ _ _ _).trans rfl
set_option maxRecDepth 100000 in
theorem bX6_cell_48 (d : Nat) (x1 : Int32) (x2 : Int32) (x3 : Int32) (r4 : Nat) (M : MM) (w : Int64) (fm : Bool) (l : List (Nat × Nat × Nat)) (t u : Nat) : nR X (callN X d) hX6_cell 48 [vR 2 0, vI x1, vI x2, vI x3, vR 18 r4] [] (M, w, true, fm, l, t, u) = some (some (vI (1 : Int32)), (M, w, true, fm, l, t, u)) :=
  (nR_itc X _ _ c_X6_cell 2 _ _ _ _).trans rfl
def c_X6_copy : List Nat := [4, 11, 38, 46, 76, 88]
set_option maxRecDepth 100000 in
theorem bX6_copy_0 (d : Nat) (a1 : Int32) (a2 : Int32) (a3 : Int32) (a4 : Int32) (a5 : Int32) (M : MM) (w : Int64) (fm : Bool) (l : List (Nat × Nat × Nat)) (t u : Nat) : nR X (callN X d) hX6_copy 0 [vR 2 0, vI a1, vI a2, vI a3, vI a4, vI a5, vX, vX] [] (M, w, true, fm, l, t, u) = nBnd (callN X d 83 [vI a1] (M, w, true, fm, l, t, u)) (fun v s2 => nR X (callN X d) hX6_copy 4 [vR 2 0, vI a1, vI a2, vI a3, vI a4, vI a5, vX, vX] (v.toList ++ []) s2) :=
  (nR_itc X _ _ c_X6_copy 2 _ _ _ _).trans rfl
set_option maxRecDepth 100000 in
theorem bX6_copy_4 (d : Nat) (x1 : Int32) (x2 : Int32) (x3 : Int32) (x4 : Int32) (x5 : Int32) (y0 : Int32) (M : MM) (w : Int64) (fm : Bool) (l : List (Nat × Nat × Nat)) (t u : Nat) : nR X (callN X d) hX6_copy 4 [vR 2 0, vI x1, vI x2, vI x3, vI x4, vI x5, vX, vX] [vI y0] (M, w, true, fm, l, t, u) = if y0 = 0 then some (some (vI (-2 : Int32)), (M, w, true, fm, l, t, u)) else nBnd (callN X d 83 [vI x3] (M, w, true, fm, l, t, u)) (fun v s2 => nR X (callN X d) hX6_copy 11 [vR 2 0, vI x1, vI x2, vI x3, vI x4, vI x5, vX, vX] (v.toList ++ []) s2) :=
  (nR_itc X _ _ c_X6_copy 3 _ _ _ _).trans rfl
set_option maxRecDepth 100000 in
theorem bX6_copy_11 (d : Nat) (x1 : Int32) (x2 : Int32) (x3 : Int32) (x4 : Int32) (x5 : Int32) (y0 : Int32) (M : MM) (w : Int64) (fm : Bool) (l : List (Nat × Nat × Nat)) (t u : Nat) : nR X (callN X d) hX6_copy 11 [vR 2 0, vI x1, vI x2, vI x3, vI x4, vI x5, vX, vX] [vI y0] (M, w, true, fm, l, t, u) = if y0 = 0 then some (some (vI (-2 : Int32)), (M, w, true, fm, l, t, u)) else cond (nIn x1 4) (cond (nIn x3 4) (nBnd (callN X d 30 [vR 18 (x1).toNatClampNeg] (M, w, true, fm, l, t, u)) (fun v s2 => nR X (callN X d) hX6_copy 38 [vR 2 0, vI x1, vI x2, vI x3, vI x4, vI x5, vR 18 (x1).toNatClampNeg, vR 18 (x3).toNatClampNeg] (v.toList ++ []) s2)) none) none :=
  (nR_itc X _ _ c_X6_copy 13 _ _ _ _).trans rfl
set_option maxRecDepth 100000 in
theorem bX6_copy_38 (d : Nat) (x1 : Int32) (x2 : Int32) (x3 : Int32) (x4 : Int32) (x5 : Int32) (r6 : Nat) (r7 : Nat) (y0 : Int32) (M : MM) (w : Int64) (fm : Bool) (l : List (Nat × Nat × Nat)) (t u : Nat) : nR X (callN X d) hX6_copy 38 [vR 2 0, vI x1, vI x2, vI x3, vI x4, vI x5, vR 18 r6, vR 18 r7] [vI y0] (M, w, true, fm, l, t, u) = if y0 = 0 then nBnd (callN X d 30 [vR 18 r7] (M, w, true, fm, l, t, u)) (fun v s2 => nR X (callN X d) hX6_copy 46 [vR 2 0, vI x1, vI x2, vI x3, vI x4, vI x5, vR 18 r6, vR 18 r7] (v.toList ++ []) s2) else some (some (vI (-11 : Int32)), (M, w, true, fm, l, t, u)) :=
  (nR_itc X _ _ c_X6_copy 3 _ _ _ _).trans rfl
set_option maxRecDepth 100000 in
theorem bX6_copy_46 (d : Nat) (x1 : Int32) (x2 : Int32) (x3 : Int32) (x4 : Int32) (x5 : Int32) (r6 : Nat) (r7 : Nat) (y0 : Int32) (M : MM) (w : Int64) (fm : Bool) (l : List (Nat × Nat × Nat)) (t u : Nat) : nR X (callN X d) hX6_copy 46 [vR 2 0, vI x1, vI x2, vI x3, vI x4, vI x5, vR 18 r6, vR 18 r7] [vI y0] (M, w, true, fm, l, t, u) = if y0 = 0 then if (M 18 r6 0) = (M 18 r7 0) then nBnd (callN X d 32 [vR 18 r6, vI x2, vI x5] (M, w, true, fm, l, t, u)) (fun v s2 => nR X (callN X d) hX6_copy 76 [vR 2 0, vI x1, vI x2, vI x3, vI x4, vI x5, vR 18 r6, vR 18 r7] (v.toList ++ []) s2) else some (some (vI (-13 : Int32)), (M, w, true, fm, l, t, u)) else some (some (vI (-11 : Int32)), (M, w, true, fm, l, t, u)) :=
  (nR_itc X _ _ c_X6_copy 10 _ _ _ _).trans rfl
set_option maxRecDepth 100000 in
theorem bX6_copy_76 (d : Nat) (x1 : Int32) (x2 : Int32) (x3 : Int32) (x4 : Int32) (x5 : Int32) (r6 : Nat) (r7 : Nat) (y0 : Int32) (M : MM) (w : Int64) (fm : Bool) (l : List (Nat × Nat × Nat)) (t u : Nat) : nR X (callN X d) hX6_copy 76 [vR 2 0, vI x1, vI x2, vI x3, vI x4, vI x5, vR 18 r6, vR 18 r7] [vI y0] (M, w, true, fm, l, t, u) = if y0 = 0 then some (some (vI (-12 : Int32)), (M, w, true, fm, l, t, u)) else nBnd (callN X d 32 [vR 18 r7, vI x4, vI x5] (M, w, true, fm, l, t, u)) (fun v s2 => nR X (callN X d) hX6_copy 88 [vR 2 0, vI x1, vI x2, vI x3, vI x4, vI x5, vR 18 r6, vR 18 r7] (v.toList ++ []) s2) :=
  (nR_itc X _ _ c_X6_copy 5 _ _ _ _).trans rfl
set_option maxRecDepth 100000 in
theorem bX6_copy_88 (d : Nat) (x1 : Int32) (x2 : Int32) (x3 : Int32) (x4 : Int32) (x5 : Int32) (r6 : Nat) (r7 : Nat) (y0 : Int32) (M : MM) (w : Int64) (fm : Bool) (l : List (Nat × Nat × Nat)) (t u : Nat) : nR X (callN X d) hX6_copy 88 [vR 2 0, vI x1, vI x2, vI x3, vI x4, vI x5, vR 18 r6, vR 18 r7] [vI y0] (M, w, true, fm, l, t, u) = if y0 = 0 then some (some (vI (-12 : Int32)), (M, w, true, fm, l, t, u)) else cond (decide (¬ x2 < 0 ∧ ¬ x4 < 0 ∧ ¬ x5 < 0 ∧ (x2).toNatClampNeg + (x5).toNatClampNeg ≤ 40 ∧ (x4).toNatClampNeg + (x5).toNatClampNeg ≤ 40)) (some (some (vI x5), ((nCpy M 19 r6 (x2).toNatClampNeg 19 r7 (x4).toNatClampNeg (x5).toNatClampNeg), w, true, fm, l, t, u))) none :=
  (nR_itc X _ _ c_X6_copy 11 _ _ _ _).trans rfl
def c_X6_people : List Nat := [4, 11, 41, 65, 88, 116]
set_option maxRecDepth 100000 in
theorem bX6_people_0 (d : Nat) (a1 : Int32) (a2 : Int32) (a3 : Int32) (a4 : Int32) (M : MM) (w : Int64) (fm : Bool) (l : List (Nat × Nat × Nat)) (t u : Nat) : nR X (callN X d) hX6_people 0 [vR 2 0, vI a1, vI a2, vI a3, vI a4, vX, vX, vX, vX] [] (M, w, true, fm, l, t, u) = nBnd (callN X d 83 [vI a1] (M, w, true, fm, l, t, u)) (fun v s2 => nR X (callN X d) hX6_people 4 [vR 2 0, vI a1, vI a2, vI a3, vI a4, vX, vX, vX, vX] (v.toList ++ []) s2) :=
  (nR_itc X _ _ c_X6_people 2 _ _ _ _).trans rfl
set_option maxRecDepth 100000 in
theorem bX6_people_4 (d : Nat) (x1 : Int32) (x2 : Int32) (x3 : Int32) (x4 : Int32) (y0 : Int32) (M : MM) (w : Int64) (fm : Bool) (l : List (Nat × Nat × Nat)) (t u : Nat) : nR X (callN X d) hX6_people 4 [vR 2 0, vI x1, vI x2, vI x3, vI x4, vX, vX, vX, vX] [vI y0] (M, w, true, fm, l, t, u) = if y0 = 0 then some (some (vI (-2 : Int32)), (M, w, true, fm, l, t, u)) else nBnd (callN X d 29 [vI x2] (M, w, true, fm, l, t, u)) (fun v s2 => nR X (callN X d) hX6_people 11 [vR 2 0, vI x1, vI x2, vI x3, vI x4, vX, vX, vX, vX] (v.toList ++ []) s2) :=
  (nR_itc X _ _ c_X6_people 3 _ _ _ _).trans rfl
set_option maxRecDepth 100000 in
theorem bX6_people_11 (d : Nat) (x1 : Int32) (x2 : Int32) (x3 : Int32) (x4 : Int32) (y0 : Int32) (M : MM) (w : Int64) (fm : Bool) (l : List (Nat × Nat × Nat)) (t u : Nat) : nR X (callN X d) hX6_people 11 [vR 2 0, vI x1, vI x2, vI x3, vI x4, vX, vX, vX, vX] [vI y0] (M, w, true, fm, l, t, u) = if y0 = 0 then some (some (vI (-2 : Int32)), (M, w, true, fm, l, t, u)) else if x4 < 0 then some (some (vI (-2 : Int32)), (M, w, true, fm, l, t, u)) else if x4 ≤ (5 : Int32) then cond (nIn x1 4) (nBnd (callN X d 30 [vR 18 (x1).toNatClampNeg] (M, w, true, fm, l, t, u)) (fun v s2 => nR X (callN X d) hX6_people 41 [vR 2 0, vI x1, vI x2, vI x3, vI x4, vR 18 (x1).toNatClampNeg, vX, vX, vX] (v.toList ++ []) s2)) none else some (some (vI (-2 : Int32)), (M, w, true, fm, l, t, u)) :=
  (nR_itc X _ _ c_X6_people 13 _ _ _ _).trans rfl
set_option maxRecDepth 100000 in
theorem bX6_people_41 (d : Nat) (x1 : Int32) (x2 : Int32) (x3 : Int32) (x4 : Int32) (r5 : Nat) (y0 : Int32) (M : MM) (w : Int64) (fm : Bool) (l : List (Nat × Nat × Nat)) (t u : Nat) : nR X (callN X d) hX6_people 41 [vR 2 0, vI x1, vI x2, vI x3, vI x4, vR 18 r5, vX, vX, vX] [vI y0] (M, w, true, fm, l, t, u) = if y0 = 0 then if (M 18 r5 0) = x2 then nR X (callN X d) hX6_people 65 [vR 2 0, vI x1, vI x2, vI x3, vI x4, vR 18 r5, vI (0 : Int32), vI (0 : Int32), vX] [] (M, w, true, fm, l, t, u) else some (some (vI (-13 : Int32)), (M, w, true, fm, l, t, u)) else some (some (vI (-11 : Int32)), (M, w, true, fm, l, t, u)) :=
  (nR_itc X _ _ c_X6_people 9 _ _ _ _).trans rfl
set_option maxRecDepth 100000 in
theorem bX6_people_65 (d : Nat) (x1 : Int32) (x2 : Int32) (x3 : Int32) (x4 : Int32) (r5 : Nat) (x6 : Int32) (x7 : Int32) (x8 : AV) (M : MM) (w : Int64) (fm : Bool) (l : List (Nat × Nat × Nat)) (t u : Nat) : nR X (callN X d) hX6_people 65 [vR 2 0, vI x1, vI x2, vI x3, vI x4, vR 18 r5, vI x6, vI x7, x8] [] (M, w, true, fm, l, t, u) = if x4 ≤ x7 then some (some (vI x6), (M, w, true, fm, l, t, u)) else nBnd (callN X d 32 [vR 18 r5, vI (x3 + ((2 : Int32) * x7)), vI (2 : Int32)] (M, w, true, fm, l, t, u)) (fun v s2 => nR X (callN X d) hX6_people 88 [vR 2 0, vI x1, vI x2, vI x3, vI x4, vR 18 r5, vI x6, vI x7, vI (x3 + ((2 : Int32) * x7))] (v.toList ++ []) s2) :=
  (nR_itc X _ _ c_X6_people 13 _ _ _ _).trans rfl
set_option maxRecDepth 100000 in
theorem bX6_people_88 (d : Nat) (x1 : Int32) (x2 : Int32) (x3 : Int32) (x4 : Int32) (r5 : Nat) (x6 : Int32) (x7 : Int32) (x8 : Int32) (y0 : Int32) (M : MM) (w : Int64) (fm : Bool) (l : List (Nat × Nat × Nat)) (t u : Nat) : nR X (callN X d) hX6_people 88 [vR 2 0, vI x1, vI x2, vI x3, vI x4, vR 18 r5, vI x6, vI x7, vI x8] [vI y0] (M, w, true, fm, l, t, u) = if y0 = 0 then some (some (vI (-12 : Int32)), (M, w, true, fm, l, t, u)) else cond (nIn x8 40) (cond (nIn (x8 + (1 : Int32)) 40) (nBnd (callN X d 52 [vR 2 0, vI (M 19 r5 (x8).toNatClampNeg), vI (M 19 r5 ((x8 + (1 : Int32))).toNatClampNeg)] (M, w, true, fm, l, t, u)) (fun v s2 => nR X (callN X d) hX6_people 116 [vR 2 0, vI x1, vI x2, vI x3, vI x4, vR 18 r5, vI x6, vI x7, vI x8] (v.toList ++ []) s2)) none) none :=
  (nR_itc X _ _ c_X6_people 13 _ _ _ _).trans rfl
set_option maxRecDepth 100000 in
theorem bX6_people_116 (d : Nat) (x1 : Int32) (x2 : Int32) (x3 : Int32) (x4 : Int32) (r5 : Nat) (x6 : Int32) (x7 : Int32) (x8 : Int32) (y0 : Int32) (M : MM) (w : Int64) (fm : Bool) (l : List (Nat × Nat × Nat)) (t u : Nat) : nR X (callN X d) hX6_people 116 [vR 2 0, vI x1, vI x2, vI x3, vI x4, vR 18 r5, vI x6, vI x7, vI x8] [vI y0] (M, w, true, fm, l, t, u) = if y0 < 0 then nR X (callN X d) hX6_people 65 [vR 2 0, vI x1, vI x2, vI x3, vI x4, vR 18 r5, vI x6, vI (x7 + (1 : Int32)), vI x8] [] (M, w, true, fm, l, t, u) else nR X (callN X d) hX6_people 65 [vR 2 0, vI x1, vI x2, vI x3, vI x4, vR 18 r5, vI (x6 + (1 : Int32)), vI (x7 + (1 : Int32)), vI x8] [] (M, w, true, fm, l, t, u) :=
  (nR_itc X _ _ c_X6_people 4 _ _ _ _).trans rfl
def c_X6_taken : List Nat := [21, 40]
set_option maxRecDepth 100000 in
theorem bX6_taken_0 (d : Nat) (a1 : Int32) (a2 : Int32) (M : MM) (w : Int64) (fm : Bool) (l : List (Nat × Nat × Nat)) (t u : Nat) : nR X (callN X d) hX6_taken 0 [vR 2 0, vI a1, vI a2] [] (M, w, true, fm, l, t, u) = if a2 < 0 then some (some (vI (-2 : Int32)), (M, w, true, fm, l, t, u)) else if a2 < (6 : Int32) then nBnd (callN X d 41 [vR 3 0, vI a1] (M, w, true, fm, l, t, u)) (fun v s2 => nR X (callN X d) hX6_taken 21 [vR 2 0, vI a1, vI a2] (v.toList ++ []) s2) else some (some (vI (-2 : Int32)), (M, w, true, fm, l, t, u)) :=
  (nR_itc X _ _ c_X6_taken 9 _ _ _ _).trans rfl
set_option maxRecDepth 100000 in
theorem bX6_taken_21 (d : Nat) (x1 : Int32) (x2 : Int32) (y0 : Int32) (M : MM) (w : Int64) (fm : Bool) (l : List (Nat × Nat × Nat)) (t u : Nat) : nR X (callN X d) hX6_taken 21 [vR 2 0, vI x1, vI x2] [vI y0] (M, w, true, fm, l, t, u) = if y0 = 0 then some (some (vI (-11 : Int32)), (M, w, true, fm, l, t, u)) else cond (nIn x1 5) (nBnd (callN X d 11 [vI (M 6 0 (x1).toNatClampNeg), vI x2] (M, w, true, fm, l, t, u)) (fun v s2 => nR X (callN X d) hX6_taken 40 [vR 2 0, vI x1, vI x2] (v.toList ++ []) s2)) none :=
  (nR_itc X _ _ c_X6_taken 8 _ _ _ _).trans rfl
set_option maxRecDepth 100000 in
theorem bX6_taken_40 (d : Nat) (x1 : Int32) (x2 : Int32) (y0 : Int32) (M : MM) (w : Int64) (fm : Bool) (l : List (Nat × Nat × Nat)) (t u : Nat) : nR X (callN X d) hX6_taken 40 [vR 2 0, vI x1, vI x2] [vI y0] (M, w, true, fm, l, t, u) = if y0 = 0 then some (some (vI (-13 : Int32)), (M, w, true, fm, l, t, u)) else cond (nIn x1 5) (some (some (vI (M 7 0 (x1).toNatClampNeg)), (M, w, true, fm, l, t, u))) none :=
  (nR_itc X _ _ c_X6_taken 8 _ _ _ _).trans rfl
def c_X6_isCoast : List Nat := []
set_option maxRecDepth 100000 in
theorem bX6_isCoast_0 (d : Nat) (a1 : Int32) (M : MM) (w : Int64) (fm : Bool) (l : List (Nat × Nat × Nat)) (t u : Nat) : nR X (callN X d) hX6_isCoast 0 [vI a1] [] (M, w, true, fm, l, t, u) = if a1 < 0 then some (some (vI (0 : Int32)), (M, w, true, fm, l, t, u)) else if (6 : Int32) ≤ a1 then some (some (vI (0 : Int32)), (M, w, true, fm, l, t, u)) else some (some (vI (1 : Int32)), (M, w, true, fm, l, t, u)) :=
  (nR_itc X _ _ c_X6_isCoast 8 _ _ _ _).trans rfl
def c_X6_isMark : List Nat := []
set_option maxRecDepth 100000 in
theorem bX6_isMark_0 (d : Nat) (a1 : Int32) (M : MM) (w : Int64) (fm : Bool) (l : List (Nat × Nat × Nat)) (t u : Nat) : nR X (callN X d) hX6_isMark 0 [vI a1] [] (M, w, true, fm, l, t, u) = if a1 < 0 then some (some (vI (0 : Int32)), (M, w, true, fm, l, t, u)) else if (6 : Int32) ≤ a1 then some (some (vI (0 : Int32)), (M, w, true, fm, l, t, u)) else some (some (vI (1 : Int32)), (M, w, true, fm, l, t, u)) :=
  (nR_itc X _ _ c_X6_isMark 8 _ _ _ _).trans rfl
def c_X6_isPart : List Nat := []
set_option maxRecDepth 100000 in
theorem bX6_isPart_0 (d : Nat) (a1 : Int32) (M : MM) (w : Int64) (fm : Bool) (l : List (Nat × Nat × Nat)) (t u : Nat) : nR X (callN X d) hX6_isPart 0 [vI a1] [] (M, w, true, fm, l, t, u) = if a1 = 0 then some (some (vI (1 : Int32)), (M, w, true, fm, l, t, u)) else if a1 = (1 : Int32) then some (some (vI (1 : Int32)), (M, w, true, fm, l, t, u)) else some (some (vI (0 : Int32)), (M, w, true, fm, l, t, u)) :=
  (nR_itc X _ _ c_X6_isPart 8 _ _ _ _).trans rfl
def c_X6_isSheet : List Nat := []
set_option maxRecDepth 100000 in
theorem bX6_isSheet_0 (d : Nat) (a1 : Int32) (M : MM) (w : Int64) (fm : Bool) (l : List (Nat × Nat × Nat)) (t u : Nat) : nR X (callN X d) hX6_isSheet 0 [vI a1] [] (M, w, true, fm, l, t, u) = if a1 < 0 then some (some (vI (0 : Int32)), (M, w, true, fm, l, t, u)) else if (4 : Int32) ≤ a1 then some (some (vI (0 : Int32)), (M, w, true, fm, l, t, u)) else some (some (vI (1 : Int32)), (M, w, true, fm, l, t, u)) :=
  (nR_itc X _ _ c_X6_isSheet 8 _ _ _ _).trans rfl
def c_X6_areTwo : List Nat := [8, 19]
set_option maxRecDepth 100000 in
theorem bX6_areTwo_0 (d : Nat) (a1 : Int32) (a2 : Int32) (M : MM) (w : Int64) (fm : Bool) (l : List (Nat × Nat × Nat)) (t u : Nat) : nR X (callN X d) hX6_areTwo 0 [vR 2 0, vI a1, vI a2] [] (M, w, true, fm, l, t, u) = nBnd (callN X d 41 [vR 3 0, vI a1] (M, w, true, fm, l, t, u)) (fun v s2 => nR X (callN X d) hX6_areTwo 8 [vR 2 0, vI a1, vI a2] (v.toList ++ []) s2) :=
  (nR_itc X _ _ c_X6_areTwo 4 _ _ _ _).trans rfl
set_option maxRecDepth 100000 in
theorem bX6_areTwo_8 (d : Nat) (x1 : Int32) (x2 : Int32) (y0 : Int32) (M : MM) (w : Int64) (fm : Bool) (l : List (Nat × Nat × Nat)) (t u : Nat) : nR X (callN X d) hX6_areTwo 8 [vR 2 0, vI x1, vI x2] [vI y0] (M, w, true, fm, l, t, u) = if y0 = 0 then some (some (vI (0 : Int32)), (M, w, true, fm, l, t, u)) else nBnd (callN X d 41 [vR 3 0, vI x2] (M, w, true, fm, l, t, u)) (fun v s2 => nR X (callN X d) hX6_areTwo 19 [vR 2 0, vI x1, vI x2] (v.toList ++ []) s2) :=
  (nR_itc X _ _ c_X6_areTwo 5 _ _ _ _).trans rfl
set_option maxRecDepth 100000 in
theorem bX6_areTwo_19 (d : Nat) (x1 : Int32) (x2 : Int32) (y0 : Int32) (M : MM) (w : Int64) (fm : Bool) (l : List (Nat × Nat × Nat)) (t u : Nat) : nR X (callN X d) hX6_areTwo 19 [vR 2 0, vI x1, vI x2] [vI y0] (M, w, true, fm, l, t, u) = if y0 = 0 then some (some (vI (0 : Int32)), (M, w, true, fm, l, t, u)) else if x1 = x2 then some (some (vI (0 : Int32)), (M, w, true, fm, l, t, u)) else some (some (vI (1 : Int32)), (M, w, true, fm, l, t, u)) :=
  (nR_itc X _ _ c_X6_areTwo 7 _ _ _ _).trans rfl
def c_X6_isPlace : List Nat := []
set_option maxRecDepth 100000 in
theorem bX6_isPlace_0 (d : Nat) (a1 : Int32) (a2 : Int32) (M : MM) (w : Int64) (fm : Bool) (l : List (Nat × Nat × Nat)) (t u : Nat) : nR X (callN X d) hX6_isPlace 0 [vI a1, vI a2] [] (M, w, true, fm, l, t, u) = if a1 < 0 then some (some (vI (0 : Int32)), (M, w, true, fm, l, t, u)) else if (10 : Int32) = 0 then none else if a2 ≤ (a1 / (10 : Int32)) then some (some (vI (0 : Int32)), (M, w, true, fm, l, t, u)) else if (10 : Int32) = 0 then none else if (6 : Int32) ≤ (a1 - a1 / (10 : Int32) * (10 : Int32)) then some (some (vI (0 : Int32)), (M, w, true, fm, l, t, u)) else some (some (vI (1 : Int32)), (M, w, true, fm, l, t, u)) :=
  (nR_itc X _ _ c_X6_isPlace 15 _ _ _ _).trans rfl
def c_X6_placeOf : List Nat := []
set_option maxRecDepth 100000 in
theorem bX6_placeOf_0 (d : Nat) (a1 : Int32) (M : MM) (w : Int64) (fm : Bool) (l : List (Nat × Nat × Nat)) (t u : Nat) : nR X (callN X d) hX6_placeOf 0 [vI a1] [] (M, w, true, fm, l, t, u) = if (10 : Int32) = 0 then none else if (10 : Int32) = 0 then none else some (some (vI (((a1 / (10 : Int32)) * (6 : Int32)) + (a1 - a1 / (10 : Int32) * (10 : Int32)))), (M, w, true, fm, l, t, u)) :=
  (nR_itc X _ _ c_X6_placeOf 10 _ _ _ _).trans rfl
def c_X6_mostOf : List Nat := []
set_option maxRecDepth 100000 in
theorem bX6_mostOf_0 (d : Nat) (a1 : Int32) (M : MM) (w : Int64) (fm : Bool) (l : List (Nat × Nat × Nat)) (t u : Nat) : nR X (callN X d) hX6_mostOf 0 [vI a1] [] (M, w, true, fm, l, t, u) = if a1 = (0 : Int32) then some (some (vI (999 : Int32)), (M, w, true, fm, l, t, u)) else if a1 = (1 : Int32) then some (some (vI (99 : Int32)), (M, w, true, fm, l, t, u)) else if a1 = (2 : Int32) then some (some (vI (9 : Int32)), (M, w, true, fm, l, t, u)) else some (some (vI (9999 : Int32)), (M, w, true, fm, l, t, u)) :=
  (nR_itc X _ _ c_X6_mostOf 4 _ _ _ _).trans rfl
def c_X6_areStays : List Nat := [17]
set_option maxRecDepth 100000 in
theorem bX6_areStays_0 (d : Nat) (a1 : Int32) (M : MM) (w : Int64) (fm : Bool) (l : List (Nat × Nat × Nat)) (t u : Nat) : nR X (callN X d) hX6_areStays 0 [vI a1, vX, vX] [] (M, w, true, fm, l, t, u) = if a1 < 0 then some (some (vI (0 : Int32)), (M, w, true, fm, l, t, u)) else if a1 ≤ (333333 : Int32) then nR X (callN X d) hX6_areStays 17 [vI a1, vI a1, vI (0 : Int32)] [] (M, w, true, fm, l, t, u) else some (some (vI (0 : Int32)), (M, w, true, fm, l, t, u)) :=
  (nR_itc X _ _ c_X6_areStays 9 _ _ _ _).trans rfl
set_option maxRecDepth 100000 in
theorem bX6_areStays_17 (d : Nat) (x0 : Int32) (x1 : Int32) (x2 : Int32) (M : MM) (w : Int64) (fm : Bool) (l : List (Nat × Nat × Nat)) (t u : Nat) : nR X (callN X d) hX6_areStays 17 [vI x0, vI x1, vI x2] [] (M, w, true, fm, l, t, u) = if (6 : Int32) ≤ x2 then some (some (vI (1 : Int32)), (M, w, true, fm, l, t, u)) else if (10 : Int32) = 0 then none else if (x1 - x1 / (10 : Int32) * (10 : Int32)) ≤ (3 : Int32) then if (10 : Int32) = 0 then none else nR X (callN X d) hX6_areStays 17 [vI x0, vI (x1 / (10 : Int32)), vI (x2 + (1 : Int32))] [] (M, w, true, fm, l, t, u) else some (some (vI (0 : Int32)), (M, w, true, fm, l, t, u)) :=
  (nR_itc X _ _ c_X6_areStays 14 _ _ _ _).trans rfl
def c_X6_valueOf : List Nat := [18]
set_option maxRecDepth 100000 in
theorem bX6_valueOf_0 (d : Nat) (a1 : Int32) (a2 : Int32) (a3 : Int32) (M : MM) (w : Int64) (fm : Bool) (l : List (Nat × Nat × Nat)) (t u : Nat) : nR X (callN X d) hX6_valueOf 0 [vR 2 0, vI a1, vI a2, vI a3, vX] [] (M, w, true, fm, l, t, u) = cond (nIn a1 6) (nBnd (callN X d 38 [vR 14 (a1).toNatClampNeg, vI a2, vR 24 0, vR 25 0] (M, w, true, fm, l, t, u)) (fun v s2 => nR X (callN X d) hX6_valueOf 18 [vR 2 0, vI a1, vI a2, vI a3, vX] (v.toList ++ []) s2)) none :=
  (nR_itc X _ _ c_X6_valueOf 10 _ _ _ _).trans rfl
set_option maxRecDepth 100000 in
theorem bX6_valueOf_18 (d : Nat) (x1 : Int32) (x2 : Int32) (x3 : Int32) (y0 : Int32) (M : MM) (w : Int64) (fm : Bool) (l : List (Nat × Nat × Nat)) (t u : Nat) : nR X (callN X d) hX6_valueOf 18 [vR 2 0, vI x1, vI x2, vI x3, vX] [vI y0] (M, w, true, fm, l, t, u) = some (some (vI (if (0 : Int32) < (if x3 < y0 then x3 else y0) then (if x3 < y0 then x3 else y0) else (0 : Int32))), (M, w, true, fm, l, t, u)) :=
  (nR_itc X _ _ c_X6_valueOf 7 _ _ _ _).trans rfl
def c_X6_nameAll : List Nat := []
set_option maxRecDepth 100000 in
theorem bX6_nameAll_0 (d : Nat) (a1 : Int32) (a2 : Int32) (a3 : Int32) (a4 : Int32) (a5 : Int32) (a6 : Int32) (M : MM) (w : Int64) (fm : Bool) (l : List (Nat × Nat × Nat)) (t u : Nat) : nR X (callN X d) hX6_nameAll 0 [vR 2 0, vI a1, vI a2, vI a3, vI a4, vI a5, vI a6] [] (M, w, true, fm, l, t, u) = some (none, ((nSt (nSt (nSt (nSt (nSt (nSt M 24 0 ((0 : Int32)).toNatClampNeg a1) 24 0 ((1 : Int32)).toNatClampNeg a2) 24 0 ((2 : Int32)).toNatClampNeg a3) 24 0 ((3 : Int32)).toNatClampNeg a4) 24 0 ((4 : Int32)).toNatClampNeg a5) 24 0 ((5 : Int32)).toNatClampNeg a6), w, true, fm, l, t, u)) :=
  (nR_itc X _ _ c_X6_nameAll 31 _ _ _ _).trans rfl
def c_X6_takesOf : List Nat := [27, 37, 43]
set_option maxRecDepth 100000 in
theorem bX6_takesOf_0 (d : Nat) (a1 : Int32) (a2 : Int32) (a3 : Int32) (a4 : Int32) (a5 : Int32) (a6 : Int32) (M : MM) (w : Int64) (fm : Bool) (l : List (Nat × Nat × Nat)) (t u : Nat) : nR X (callN X d) hX6_takesOf 0 [vR 2 0, vI a1, vI a2, vI a3, vI a4, vI a5, vI a6] [] (M, w, true, fm, l, t, u) = cond (nIn ((a4 * (6 : Int32)) + a5) 36) (nBnd (callN X d 90 [vR 2 0, vI (M 4 0 (((a4 * (6 : Int32)) + a5)).toNatClampNeg), vI a5, vI a2, vI a3, vI a4, vI (0 : Int32)] (M, w, true, fm, l, t, u)) (fun v s2 => nR X (callN X d) hX6_takesOf 27 [vR 2 0, vI a1, vI a2, vI a3, vI a4, vI a5, vI a6] (v.toList ++ []) s2)) none :=
  (nR_itc X _ _ c_X6_takesOf 16 _ _ _ _).trans rfl
set_option maxRecDepth 100000 in
theorem bX6_takesOf_27 (d : Nat) (x1 : Int32) (x2 : Int32) (x3 : Int32) (x4 : Int32) (x5 : Int32) (x6 : Int32) (M : MM) (w : Int64) (fm : Bool) (l : List (Nat × Nat × Nat)) (t u : Nat) : nR X (callN X d) hX6_takesOf 27 [vR 2 0, vI x1, vI x2, vI x3, vI x4, vI x5, vI x6] [] (M, w, true, fm, l, t, u) = nBnd (callN X d 89 [vR 2 0, vI x6, vI (0 : Int32), vI (99 : Int32)] (M, w, true, fm, l, t, u)) (fun v s2 => nR X (callN X d) hX6_takesOf 37 [vR 2 0, vI x1, vI x2, vI x3, vI x4, vI x5, vI x6] (v.toList ++ [vI x1]) s2) :=
  (nR_itc X _ _ c_X6_takesOf 6 _ _ _ _).trans rfl
set_option maxRecDepth 100000 in
theorem bX6_takesOf_37 (d : Nat) (x1 : Int32) (x2 : Int32) (x3 : Int32) (x4 : Int32) (x5 : Int32) (x6 : Int32) (y0 : Int32) (y1 : Int32) (M : MM) (w : Int64) (fm : Bool) (l : List (Nat × Nat × Nat)) (t u : Nat) : nR X (callN X d) hX6_takesOf 37 [vR 2 0, vI x1, vI x2, vI x3, vI x4, vI x5, vI x6] [vI y0, vI y1] (M, w, true, fm, l, t, u) = nBnd (callN X d 7 [vI y1, vI y0, vI x5, vI x2] (M, w, true, fm, l, t, u)) (fun v s2 => nR X (callN X d) hX6_takesOf 43 [vR 2 0, vI x1, vI x2, vI x3, vI x4, vI x5, vI x6] (v.toList ++ []) s2) :=
  (nR_itc X _ _ c_X6_takesOf 3 _ _ _ _).trans rfl
set_option maxRecDepth 100000 in
theorem bX6_takesOf_43 (d : Nat) (x1 : Int32) (x2 : Int32) (x3 : Int32) (x4 : Int32) (x5 : Int32) (x6 : Int32) (y0 : Int32) (M : MM) (w : Int64) (fm : Bool) (l : List (Nat × Nat × Nat)) (t u : Nat) : nR X (callN X d) hX6_takesOf 43 [vR 2 0, vI x1, vI x2, vI x3, vI x4, vI x5, vI x6] [vI y0] (M, w, true, fm, l, t, u) = some (some (vI y0), (M, w, true, fm, l, t, u)) :=
  (nR_itc X _ _ c_X6_takesOf 1 _ _ _ _).trans rfl
def c_X6_takesNow : List Nat := [38]
set_option maxRecDepth 100000 in
theorem bX6_takesNow_0 (d : Nat) (a1 : Int32) (a2 : Int32) (a3 : Int32) (M : MM) (w : Int64) (fm : Bool) (l : List (Nat × Nat × Nat)) (t u : Nat) : nR X (callN X d) hX6_takesNow 0 [vR 2 0, vI a1, vI a2, vI a3] [] (M, w, true, fm, l, t, u) = cond (nIn a1 5) (cond (nIn a1 5) (nBnd (callN X d 91 [vR 2 0, vI (M 6 0 (a1).toNatClampNeg), vI (M 7 0 (a1).toNatClampNeg), vI (M 3 0 0), vI a2, vI a3, vI (M 3 0 1)] (M, w, true, fm, l, t, u)) (fun v s2 => nR X (callN X d) hX6_takesNow 38 [vR 2 0, vI a1, vI a2, vI a3] (v.toList ++ []) s2)) none) none :=
  (nR_itc X _ _ c_X6_takesNow 20 _ _ _ _).trans rfl
set_option maxRecDepth 100000 in
theorem bX6_takesNow_38 (d : Nat) (x1 : Int32) (x2 : Int32) (x3 : Int32) (y0 : Int32) (M : MM) (w : Int64) (fm : Bool) (l : List (Nat × Nat × Nat)) (t u : Nat) : nR X (callN X d) hX6_takesNow 38 [vR 2 0, vI x1, vI x2, vI x3] [vI y0] (M, w, true, fm, l, t, u) = some (some (vI y0), (M, w, true, fm, l, t, u)) :=
  (nR_itc X _ _ c_X6_takesNow 1 _ _ _ _).trans rfl
def c_X6_keepsOf : List Nat := [43, 46, 69, 73]
set_option maxRecDepth 100000 in
theorem bX6_keepsOf_0 (d : Nat) (a1 : Int32) (a2 : Int32) (M : MM) (w : Int64) (fm : Bool) (l : List (Nat × Nat × Nat)) (t u : Nat) : nR X (callN X d) hX6_keepsOf 0 [vR 2 0, vI a1, vI a2, vX] [] (M, w, true, fm, l, t, u) = cond (nIn ((a1 * (6 : Int32)) + a2) 30) (cond (nIn a1 5) (nBnd (callN X d 45 [vR 3 0, vI a1] (M, w, true, fm, l, t, u)) (fun v s2 => nR X (callN X d) hX6_keepsOf 43 [vR 2 0, vI a1, vI a2, vI (M 5 0 (((a1 * (6 : Int32)) + a2)).toNatClampNeg)] (v.toList ++ [vI (0 : Int32), vI (M 3 0 0), vI (M 7 0 (a1).toNatClampNeg), vI a2, vI (M 5 0 (((a1 * (6 : Int32)) + a2)).toNatClampNeg), vR 2 0]) s2)) none) none :=
  (nR_itc X _ _ c_X6_keepsOf 26 _ _ _ _).trans rfl
set_option maxRecDepth 100000 in
theorem bX6_keepsOf_43 (d : Nat) (x1 : Int32) (x2 : Int32) (x3 : Int32) (y0 : Int32) (y1 : Int32) (y2 : Int32) (y3 : Int32) (y4 : Int32) (y5 : Int32) (M : MM) (w : Int64) (fm : Bool) (l : List (Nat × Nat × Nat)) (t u : Nat) : nR X (callN X d) hX6_keepsOf 43 [vR 2 0, vI x1, vI x2, vI x3] [vI y0, vI y1, vI y2, vI y3, vI y4, vI y5, vR 2 0] (M, w, true, fm, l, t, u) = nBnd (callN X d 90 [vR 2 0, vI y5, vI y4, vI y3, vI y2, vI y1, vI y0] (M, w, true, fm, l, t, u)) (fun v s2 => nR X (callN X d) hX6_keepsOf 46 [vR 2 0, vI x1, vI x2, vI x3] (v.toList ++ []) s2) :=
  (nR_itc X _ _ c_X6_keepsOf 1 _ _ _ _).trans rfl
set_option maxRecDepth 100000 in
theorem bX6_keepsOf_46 (d : Nat) (x1 : Int32) (x2 : Int32) (x3 : Int32) (M : MM) (w : Int64) (fm : Bool) (l : List (Nat × Nat × Nat)) (t u : Nat) : nR X (callN X d) hX6_keepsOf 46 [vR 2 0, vI x1, vI x2, vI x3] [] (M, w, true, fm, l, t, u) = cond (nIn x1 5) (nBnd (callN X d 89 [vR 2 0, vI (M 3 0 1), vI (1 : Int32), vI (100 : Int32)] (M, w, true, fm, l, t, u)) (fun v s2 => nR X (callN X d) hX6_keepsOf 69 [vR 2 0, vI x1, vI x2, vI x3] (v.toList ++ [vI (M 6 0 (x1).toNatClampNeg)]) s2)) none :=
  (nR_itc X _ _ c_X6_keepsOf 12 _ _ _ _).trans rfl
set_option maxRecDepth 100000 in
theorem bX6_keepsOf_69 (d : Nat) (x1 : Int32) (x2 : Int32) (x3 : Int32) (y0 : Int32) (y1 : Int32) (M : MM) (w : Int64) (fm : Bool) (l : List (Nat × Nat × Nat)) (t u : Nat) : nR X (callN X d) hX6_keepsOf 69 [vR 2 0, vI x1, vI x2, vI x3] [vI y0, vI y1] (M, w, true, fm, l, t, u) = nBnd (callN X d 9 [vI y1, vI y0, vI x3] (M, w, true, fm, l, t, u)) (fun v s2 => nR X (callN X d) hX6_keepsOf 73 [vR 2 0, vI x1, vI x2, vI x3] (v.toList ++ []) s2) :=
  (nR_itc X _ _ c_X6_keepsOf 2 _ _ _ _).trans rfl
set_option maxRecDepth 100000 in
theorem bX6_keepsOf_73 (d : Nat) (x1 : Int32) (x2 : Int32) (x3 : Int32) (y0 : Int32) (M : MM) (w : Int64) (fm : Bool) (l : List (Nat × Nat × Nat)) (t u : Nat) : nR X (callN X d) hX6_keepsOf 73 [vR 2 0, vI x1, vI x2, vI x3] [vI y0] (M, w, true, fm, l, t, u) = some (some (vI y0), (M, w, true, fm, l, t, u)) :=
  (nR_itc X _ _ c_X6_keepsOf 1 _ _ _ _).trans rfl
def c_X6_sureOf : List Nat := [45, 48, 71, 76]
set_option maxRecDepth 100000 in
theorem bX6_sureOf_0 (d : Nat) (a1 : Int32) (a2 : Int32) (a3 : Int32) (M : MM) (w : Int64) (fm : Bool) (l : List (Nat × Nat × Nat)) (t u : Nat) : nR X (callN X d) hX6_sureOf 0 [vR 2 0, vI a1, vI a2, vI a3, vX] [] (M, w, true, fm, l, t, u) = cond (nIn a1 5) (cond (nIn ((a2 * (6 : Int32)) + a3) 30) (nBnd (callN X d 45 [vR 3 0, vI a2] (M, w, true, fm, l, t, u)) (fun v s2 => nR X (callN X d) hX6_sureOf 45 [vR 2 0, vI a1, vI a2, vI a3, vI (M 7 0 (a1).toNatClampNeg)] (v.toList ++ [vI (0 : Int32), vI (M 3 0 0), vI (M 7 0 (a1).toNatClampNeg), vI a3, vI (M 5 0 (((a2 * (6 : Int32)) + a3)).toNatClampNeg), vR 2 0]) s2)) none) none :=
  (nR_itc X _ _ c_X6_sureOf 26 _ _ _ _).trans rfl
set_option maxRecDepth 100000 in
theorem bX6_sureOf_45 (d : Nat) (x1 : Int32) (x2 : Int32) (x3 : Int32) (x4 : Int32) (y0 : Int32) (y1 : Int32) (y2 : Int32) (y3 : Int32) (y4 : Int32) (y5 : Int32) (M : MM) (w : Int64) (fm : Bool) (l : List (Nat × Nat × Nat)) (t u : Nat) : nR X (callN X d) hX6_sureOf 45 [vR 2 0, vI x1, vI x2, vI x3, vI x4] [vI y0, vI y1, vI y2, vI y3, vI y4, vI y5, vR 2 0] (M, w, true, fm, l, t, u) = nBnd (callN X d 90 [vR 2 0, vI y5, vI y4, vI y3, vI y2, vI y1, vI y0] (M, w, true, fm, l, t, u)) (fun v s2 => nR X (callN X d) hX6_sureOf 48 [vR 2 0, vI x1, vI x2, vI x3, vI x4] (v.toList ++ []) s2) :=
  (nR_itc X _ _ c_X6_sureOf 1 _ _ _ _).trans rfl
set_option maxRecDepth 100000 in
theorem bX6_sureOf_48 (d : Nat) (x1 : Int32) (x2 : Int32) (x3 : Int32) (x4 : Int32) (M : MM) (w : Int64) (fm : Bool) (l : List (Nat × Nat × Nat)) (t u : Nat) : nR X (callN X d) hX6_sureOf 48 [vR 2 0, vI x1, vI x2, vI x3, vI x4] [] (M, w, true, fm, l, t, u) = cond (nIn x1 5) (nBnd (callN X d 89 [vR 2 0, vI (M 3 0 1), vI (2 : Int32), vI (99 : Int32)] (M, w, true, fm, l, t, u)) (fun v s2 => nR X (callN X d) hX6_sureOf 71 [vR 2 0, vI x1, vI x2, vI x3, vI x4] (v.toList ++ [vI (M 6 0 (x1).toNatClampNeg)]) s2)) none :=
  (nR_itc X _ _ c_X6_sureOf 12 _ _ _ _).trans rfl
set_option maxRecDepth 100000 in
theorem bX6_sureOf_71 (d : Nat) (x1 : Int32) (x2 : Int32) (x3 : Int32) (x4 : Int32) (y0 : Int32) (y1 : Int32) (M : MM) (w : Int64) (fm : Bool) (l : List (Nat × Nat × Nat)) (t u : Nat) : nR X (callN X d) hX6_sureOf 71 [vR 2 0, vI x1, vI x2, vI x3, vI x4] [vI y0, vI y1] (M, w, true, fm, l, t, u) = nBnd (callN X d 10 [vI y1, vI y0, vI x4] (M, w, true, fm, l, t, u)) (fun v s2 => nR X (callN X d) hX6_sureOf 76 [vR 2 0, vI x1, vI x2, vI x3, vI x4] (v.toList ++ []) s2) :=
  (nR_itc X _ _ c_X6_sureOf 2 _ _ _ _).trans rfl
set_option maxRecDepth 100000 in
theorem bX6_sureOf_76 (d : Nat) (x1 : Int32) (x2 : Int32) (x3 : Int32) (x4 : Int32) (y0 : Int32) (M : MM) (w : Int64) (fm : Bool) (l : List (Nat × Nat × Nat)) (t u : Nat) : nR X (callN X d) hX6_sureOf 76 [vR 2 0, vI x1, vI x2, vI x3, vI x4] [vI y0] (M, w, true, fm, l, t, u) = some (some (vI y0), (M, w, true, fm, l, t, u)) :=
  (nR_itc X _ _ c_X6_sureOf 1 _ _ _ _).trans rfl
def c_X6_tellsExaminer : List Nat := [5, 39]
set_option maxRecDepth 100000 in
theorem bX6_tellsExaminer_0 (d : Nat) (a1 : Int32) (a2 : Int32) (M : MM) (w : Int64) (fm : Bool) (l : List (Nat × Nat × Nat)) (t u : Nat) : nR X (callN X d) hX6_tellsExaminer 0 [vR 2 0, vI a1, vI a2, vX, vX] [] (M, w, true, fm, l, t, u) = nR X (callN X d) hX6_tellsExaminer 5 [vR 2 0, vI a1, vI a2, vI (0 : Int32), vI (0 : Int32)] [] (M, w, true, fm, l, t, u) :=
  (nR_itc X _ _ c_X6_tellsExaminer 4 _ _ _ _).trans rfl
set_option maxRecDepth 100000 in
theorem bX6_tellsExaminer_5 (d : Nat) (x1 : Int32) (x2 : Int32) (x3 : Int32) (x4 : Int32) (M : MM) (w : Int64) (fm : Bool) (l : List (Nat × Nat × Nat)) (t u : Nat) : nR X (callN X d) hX6_tellsExaminer 5 [vR 2 0, vI x1, vI x2, vI x3, vI x4] [] (M, w, true, fm, l, t, u) = if (6 : Int32) ≤ x4 then some (some (vI x3), (M, w, true, fm, l, t, u)) else cond (nIn ((x1 * (6 : Int32)) + x4) 30) (if (M 5 0 (((x1 * (6 : Int32)) + x4)).toNatClampNeg) ≤ 0 then nR X (callN X d) hX6_tellsExaminer 5 [vR 2 0, vI x1, vI x2, vI x3, vI (x4 + (1 : Int32))] [] (M, w, true, fm, l, t, u) else nBnd (callN X d 94 [vR 2 0, vI x2, vI x1, vI x4] (M, w, true, fm, l, t, u)) (fun v s2 => nR X (callN X d) hX6_tellsExaminer 39 [vR 2 0, vI x1, vI x2, vI x3, vI x4] (v.toList ++ [vI x3]) s2)) none :=
  (nR_itc X _ _ c_X6_tellsExaminer 19 _ _ _ _).trans rfl
set_option maxRecDepth 100000 in
theorem bX6_tellsExaminer_39 (d : Nat) (x1 : Int32) (x2 : Int32) (x3 : Int32) (x4 : Int32) (y0 : Int32) (y1 : Int32) (M : MM) (w : Int64) (fm : Bool) (l : List (Nat × Nat × Nat)) (t u : Nat) : nR X (callN X d) hX6_tellsExaminer 39 [vR 2 0, vI x1, vI x2, vI x3, vI x4] [vI y0, vI y1] (M, w, true, fm, l, t, u) = nR X (callN X d) hX6_tellsExaminer 5 [vR 2 0, vI x1, vI x2, vI (y1 + y0), vI (x4 + (1 : Int32))] [] (M, w, true, fm, l, t, u) :=
  (nR_itc X _ _ c_X6_tellsExaminer 4 _ _ _ _).trans rfl
def c_X6_tellDailyTakes : List Nat := [23, 33, 76]
set_option maxRecDepth 100000 in
theorem bX6_tellDailyTakes_0 (d : Nat) (a1 : Int32) (M : MM) (w : Int64) (fm : Bool) (l : List (Nat × Nat × Nat)) (t u : Nat) : nR X (callN X d) hX6_tellDailyTakes 0 [vR 2 0, vI a1, vX, vX, vX, vX] [] (M, w, true, fm, l, t, u) = cond (nIn a1 5) (cond (nIn a1 5) (nR X (callN X d) hX6_tellDailyTakes 23 [vR 2 0, vI a1, vI (M 6 0 (a1).toNatClampNeg), vI (M 7 0 (a1).toNatClampNeg), vI (0 : Int32), vX] [] (M, w, true, fm, l, t, u)) none) none :=
  (nR_itc X _ _ c_X6_tellDailyTakes 14 _ _ _ _).trans rfl
set_option maxRecDepth 100000 in
theorem bX6_tellDailyTakes_23 (d : Nat) (x1 : Int32) (x2 : Int32) (x3 : Int32) (x4 : Int32) (x5 : AV) (M : MM) (w : Int64) (fm : Bool) (l : List (Nat × Nat × Nat)) (t u : Nat) : nR X (callN X d) hX6_tellDailyTakes 23 [vR 2 0, vI x1, vI x2, vI x3, vI x4, x5] [] (M, w, true, fm, l, t, u) = if (6 : Int32) ≤ x4 then some (none, (M, w, true, fm, l, t, u)) else nR X (callN X d) hX6_tellDailyTakes 33 [vR 2 0, vI x1, vI x2, vI x3, vI x4, vI (0 : Int32)] [] (M, w, true, fm, l, t, u) :=
  (nR_itc X _ _ c_X6_tellDailyTakes 5 _ _ _ _).trans rfl
set_option maxRecDepth 100000 in
theorem bX6_tellDailyTakes_33 (d : Nat) (x1 : Int32) (x2 : Int32) (x3 : Int32) (x4 : Int32) (x5 : Int32) (M : MM) (w : Int64) (fm : Bool) (l : List (Nat × Nat × Nat)) (t u : Nat) : nR X (callN X d) hX6_tellDailyTakes 33 [vR 2 0, vI x1, vI x2, vI x3, vI x4, vI x5] [] (M, w, true, fm, l, t, u) = if (6 : Int32) ≤ x5 then nR X (callN X d) hX6_tellDailyTakes 23 [vR 2 0, vI x1, vI x2, vI x3, vI (x4 + (1 : Int32)), vI x5] [] (M, w, true, fm, l, t, u) else nBnd (callN X d 91 [vR 2 0, vI x2, vI x3, vI (M 3 0 0), vI x4, vI x5, vI (M 3 0 1)] (M, w, true, fm, l, t, u)) (fun v s2 => nR X (callN X d) hX6_tellDailyTakes 76 [vR 2 0, vI x1, vI x2, vI x3, vI x4, vI x5] (v.toList ++ [vI ((x4 * (6 : Int32)) + x5), vR 26 0]) s2) :=
  (nR_itc X _ _ c_X6_tellDailyTakes 22 _ _ _ _).trans rfl
set_option maxRecDepth 100000 in
theorem bX6_tellDailyTakes_76 (d : Nat) (x1 : Int32) (x2 : Int32) (x3 : Int32) (x4 : Int32) (x5 : Int32) (y0 : Int32) (y1 : Int32) (M : MM) (w : Int64) (fm : Bool) (l : List (Nat × Nat × Nat)) (t u : Nat) : nR X (callN X d) hX6_tellDailyTakes 76 [vR 2 0, vI x1, vI x2, vI x3, vI x4, vI x5] [vI y0, vI y1, vR 26 0] (M, w, true, fm, l, t, u) = cond (nIn y1 36) (nR X (callN X d) hX6_tellDailyTakes 33 [vR 2 0, vI x1, vI x2, vI x3, vI x4, vI (x5 + (1 : Int32))] [] ((nSt M 26 0 (y1).toNatClampNeg y0), w, true, fm, l, t, u)) none :=
  (nR_itc X _ _ c_X6_tellDailyTakes 3 _ _ _ _).trans rfl
def c_X6_takesByStays : List Nat := [9, 29]
set_option maxRecDepth 100000 in
theorem bX6_takesByStays_0 (d : Nat) (a1 : Int32) (a2 : Int32) (a3 : Int32) (M : MM) (w : Int64) (fm : Bool) (l : List (Nat × Nat × Nat)) (t u : Nat) : nR X (callN X d) hX6_takesByStays 0 [vR 2 0, vI a1, vI a2, vI a3, vX, vX, vX] [] (M, w, true, fm, l, t, u) = nR X (callN X d) hX6_takesByStays 9 [vR 2 0, vI a1, vI a2, vI a3, vI (0 : Int32), vI a2, vI (5 : Int32)] [] (M, w, true, fm, l, t, u) :=
  (nR_itc X _ _ c_X6_takesByStays 6 _ _ _ _).trans rfl
set_option maxRecDepth 100000 in
theorem bX6_takesByStays_9 (d : Nat) (x1 : Int32) (x2 : Int32) (x3 : Int32) (x4 : Int32) (x5 : Int32) (x6 : Int32) (M : MM) (w : Int64) (fm : Bool) (l : List (Nat × Nat × Nat)) (t u : Nat) : nR X (callN X d) hX6_takesByStays 9 [vR 2 0, vI x1, vI x2, vI x3, vI x4, vI x5, vI x6] [] (M, w, true, fm, l, t, u) = if x6 < 0 then some (some (vI x4), (M, w, true, fm, l, t, u)) else if (10 : Int32) = 0 then none else nBnd (callN X d 92 [vR 2 0, vI x1, vI x6, vI x3] (M, w, true, fm, l, t, u)) (fun v s2 => nR X (callN X d) hX6_takesByStays 29 [vR 2 0, vI x1, vI x2, vI x3, vI x4, vI x5, vI x6] (v.toList ++ [vI (x5 - x5 / (10 : Int32) * (10 : Int32)), vI x4]) s2) :=
  (nR_itc X _ _ c_X6_takesByStays 11 _ _ _ _).trans rfl
set_option maxRecDepth 100000 in
theorem bX6_takesByStays_29 (d : Nat) (x1 : Int32) (x2 : Int32) (x3 : Int32) (x4 : Int32) (x5 : Int32) (x6 : Int32) (y0 : Int32) (y1 : Int32) (y2 : Int32) (M : MM) (w : Int64) (fm : Bool) (l : List (Nat × Nat × Nat)) (t u : Nat) : nR X (callN X d) hX6_takesByStays 29 [vR 2 0, vI x1, vI x2, vI x3, vI x4, vI x5, vI x6] [vI y0, vI y1, vI y2] (M, w, true, fm, l, t, u) = if (10 : Int32) = 0 then none else nR X (callN X d) hX6_takesByStays 9 [vR 2 0, vI x1, vI x2, vI x3, vI (y2 + (y1 * y0)), vI (x5 / (10 : Int32)), vI (x6 + (-1 : Int32))] [] (M, w, true, fm, l, t, u) :=
  (nR_itc X _ _ c_X6_takesByStays 9 _ _ _ _).trans rfl
def c_X6_findFits : List Nat := [4, 27, 42]
set_option maxRecDepth 100000 in
theorem bX6_findFits_0 (d : Nat) (i1 : Nat) (a2 : Int32) (M : MM) (w : Int64) (fm : Bool) (l : List (Nat × Nat × Nat)) (t u : Nat) : nR X (callN X d) hX6_findFits 0 [vR 2 0, vR 18 i1, vI a2] [] (M, w, true, fm, l, t, u) = nBnd (callN X d 30 [vR 18 i1] (M, w, true, fm, l, t, u)) (fun v s2 => nR X (callN X d) hX6_findFits 4 [vR 2 0, vR 18 i1, vI a2] (v.toList ++ []) s2) :=
  (nR_itc X _ _ c_X6_findFits 2 _ _ _ _).trans rfl
set_option maxRecDepth 100000 in
theorem bX6_findFits_4 (d : Nat) (i1 : Nat) (x2 : Int32) (y0 : Int32) (M : MM) (w : Int64) (fm : Bool) (l : List (Nat × Nat × Nat)) (t u : Nat) : nR X (callN X d) hX6_findFits 4 [vR 2 0, vR 18 i1, vI x2] [vI y0] (M, w, true, fm, l, t, u) = if y0 = 0 then if (M 18 i1 1) = (6 : Int32) then nBnd (callN X d 96 [vR 2 0, vI x2] (M, w, true, fm, l, t, u)) (fun v s2 => nR X (callN X d) hX6_findFits 27 [vR 2 0, vR 18 i1, vI x2] (v.toList ++ []) s2) else some (some (vI (-2 : Int32)), (M, w, true, fm, l, t, u)) else some (some (vI (-11 : Int32)), (M, w, true, fm, l, t, u)) :=
  (nR_itc X _ _ c_X6_findFits 8 _ _ _ _).trans rfl
set_option maxRecDepth 100000 in
theorem bX6_findFits_27 (d : Nat) (i1 : Nat) (x2 : Int32) (M : MM) (w : Int64) (fm : Bool) (l : List (Nat × Nat × Nat)) (t u : Nat) : nR X (callN X d) hX6_findFits 27 [vR 2 0, vR 18 i1, vI x2] [] (M, w, true, fm, l, t, u) = nBnd (callN X d 1 [vR 20 0, vR 26 0, vR 19 i1] (M, w, true, fm, l, t, u)) (fun v s2 => nR X (callN X d) hX6_findFits 42 [vR 2 0, vR 18 i1, vI x2] (v.toList ++ []) s2) :=
  (nR_itc X _ _ c_X6_findFits 7 _ _ _ _).trans rfl
set_option maxRecDepth 100000 in
theorem bX6_findFits_42 (d : Nat) (i1 : Nat) (x2 : Int32) (M : MM) (w : Int64) (fm : Bool) (l : List (Nat × Nat × Nat)) (t u : Nat) : nR X (callN X d) hX6_findFits 42 [vR 2 0, vR 18 i1, vI x2] [] (M, w, true, fm, l, t, u) = some (some (vI (0 : Int32)), (M, w, true, fm, l, t, u)) :=
  (nR_itc X _ _ c_X6_findFits 2 _ _ _ _).trans rfl
def c_X6_neverGoesBack : List Nat := [7]
set_option maxRecDepth 100000 in
theorem bX6_neverGoesBack_0 (d : Nat) (a1 : Int32) (a2 : Int32) (M : MM) (w : Int64) (fm : Bool) (l : List (Nat × Nat × Nat)) (t u : Nat) : nR X (callN X d) hX6_neverGoesBack 0 [vI a1, vI a2, vX, vX, vX, vX] [] (M, w, true, fm, l, t, u) = nR X (callN X d) hX6_neverGoesBack 7 [vI a1, vI a2, vI a1, vI (5 : Int32), vI (0 : Int32), vX] [] (M, w, true, fm, l, t, u) :=
  (nR_itc X _ _ c_X6_neverGoesBack 6 _ _ _ _).trans rfl
set_option maxRecDepth 100000 in
theorem bX6_neverGoesBack_7 (d : Nat) (x0 : Int32) (x1 : Int32) (x2 : Int32) (x3 : Int32) (x4 : Int32) (x5 : AV) (M : MM) (w : Int64) (fm : Bool) (l : List (Nat × Nat × Nat)) (t u : Nat) : nR X (callN X d) hX6_neverGoesBack 7 [vI x0, vI x1, vI x2, vI x3, vI x4, x5] [] (M, w, true, fm, l, t, u) = if x1 ≤ x4 then some (some (vI (1 : Int32)), (M, w, true, fm, l, t, u)) else if (6 : Int32) = 0 then none else if (x2 - x2 / (6 : Int32) * (6 : Int32)) ≤ x3 then if (6 : Int32) = 0 then none else nR X (callN X d) hX6_neverGoesBack 7 [vI x0, vI x1, vI (x2 / (6 : Int32)), vI (x2 - x2 / (6 : Int32) * (6 : Int32)), vI (x4 + (1 : Int32)), vI (x2 - x2 / (6 : Int32) * (6 : Int32))] [] (M, w, true, fm, l, t, u) else some (some (vI (0 : Int32)), (M, w, true, fm, l, t, u)) :=
  (nR_itc X _ _ c_X6_neverGoesBack 18 _ _ _ _).trans rfl
def c_X6_digitsOfWay : List Nat := [10]
set_option maxRecDepth 100000 in
theorem bX6_digitsOfWay_0 (d : Nat) (a1 : Int32) (a2 : Int32) (M : MM) (w : Int64) (fm : Bool) (l : List (Nat × Nat × Nat)) (t u : Nat) : nR X (callN X d) hX6_digitsOfWay 0 [vI a1, vI a2, vX, vX, vX, vX] [] (M, w, true, fm, l, t, u) = nR X (callN X d) hX6_digitsOfWay 10 [vI a1, vI a2, vI (0 : Int32), vI a1, vI (1 : Int32), vI (0 : Int32)] [] (M, w, true, fm, l, t, u) :=
  (nR_itc X _ _ c_X6_digitsOfWay 8 _ _ _ _).trans rfl
set_option maxRecDepth 100000 in
theorem bX6_digitsOfWay_10 (d : Nat) (x0 : Int32) (x1 : Int32) (x2 : Int32) (x3 : Int32) (x4 : Int32) (x5 : Int32) (M : MM) (w : Int64) (fm : Bool) (l : List (Nat × Nat × Nat)) (t u : Nat) : nR X (callN X d) hX6_digitsOfWay 10 [vI x0, vI x1, vI x2, vI x3, vI x4, vI x5] [] (M, w, true, fm, l, t, u) = if x1 ≤ x5 then some (some (vI x2), (M, w, true, fm, l, t, u)) else if (6 : Int32) = 0 then none else if (6 : Int32) = 0 then none else nR X (callN X d) hX6_digitsOfWay 10 [vI x0, vI x1, vI (x2 + (((x3 - x3 / (6 : Int32) * (6 : Int32)) + (1 : Int32)) * x4)), vI (x3 / (6 : Int32)), vI (x4 * (10 : Int32)), vI (x5 + (1 : Int32))] [] (M, w, true, fm, l, t, u) :=
  (nR_itc X _ _ c_X6_digitsOfWay 23 _ _ _ _).trans rfl
def c_X6_apartAfter : List Nat := [27, 43, 62]
set_option maxRecDepth 100000 in
theorem bX6_apartAfter_0 (d : Nat) (a1 : Int32) (a2 : Int32) (a3 : Int32) (a4 : Int32) (M : MM) (w : Int64) (fm : Bool) (l : List (Nat × Nat × Nat)) (t u : Nat) : nR X (callN X d) hX6_apartAfter 0 [vR 2 0, vI a1, vI a2, vI a3, vI a4, vX, vX, vX] [] (M, w, true, fm, l, t, u) = cond (decide (¬ (a1 * (6 : Int32)) < 0 ∧ ¬ (0 : Int32) < 0 ∧ ¬ (6 : Int32) < 0 ∧ ((a1 * (6 : Int32))).toNatClampNeg + ((6 : Int32)).toNatClampNeg ≤ 30 ∧ ((0 : Int32)).toNatClampNeg + ((6 : Int32)).toNatClampNeg ≤ 6)) (nR X (callN X d) hX6_apartAfter 27 [vR 2 0, vI a1, vI a2, vI a3, vI a4, vI a3, vI (0 : Int32), vX] [] ((nCpy M 5 0 ((a1 * (6 : Int32))).toNatClampNeg 27 0 ((0 : Int32)).toNatClampNeg ((6 : Int32)).toNatClampNeg), w, true, fm, l, t, u)) none :=
  (nR_itc X _ _ c_X6_apartAfter 15 _ _ _ _).trans rfl
set_option maxRecDepth 100000 in
theorem bX6_apartAfter_27 (d : Nat) (x1 : Int32) (x2 : Int32) (x3 : Int32) (x4 : Int32) (x5 : Int32) (x6 : Int32) (M : MM) (w : Int64) (fm : Bool) (l : List (Nat × Nat × Nat)) (t u : Nat) : nR X (callN X d) hX6_apartAfter 27 [vR 2 0, vI x1, vI x2, vI x3, vI x4, vI x5, vI x6, vX] [] (M, w, true, fm, l, t, u) = if x4 ≤ x6 then nR X (callN X d) hX6_apartAfter 62 [vR 2 0, vI x1, vI x2, vI x3, vI x4, vI x5, vI (0 : Int32), vI (0 : Int32)] [] (M, w, true, fm, l, t, u) else if (6 : Int32) = 0 then none else nBnd (callN X d 102 [vR 2 0, vI (x5 - x5 / (6 : Int32) * (6 : Int32))] (M, w, true, fm, l, t, u)) (fun v s2 => nR X (callN X d) hX6_apartAfter 43 [vR 2 0, vI x1, vI x2, vI x3, vI x4, vI x5, vI x6, vX] (v.toList ++ []) s2) :=
  (nR_itc X _ _ c_X6_apartAfter 8 _ _ _ _).trans rfl
set_option maxRecDepth 100000 in
theorem bX6_apartAfter_43 (d : Nat) (x1 : Int32) (x2 : Int32) (x3 : Int32) (x4 : Int32) (x5 : Int32) (x6 : Int32) (M : MM) (w : Int64) (fm : Bool) (l : List (Nat × Nat × Nat)) (t u : Nat) : nR X (callN X d) hX6_apartAfter 43 [vR 2 0, vI x1, vI x2, vI x3, vI x4, vI x5, vI x6, vX] [] (M, w, true, fm, l, t, u) = if (6 : Int32) = 0 then none else nR X (callN X d) hX6_apartAfter 27 [vR 2 0, vI x1, vI x2, vI x3, vI x4, vI (x5 / (6 : Int32)), vI (x6 + (1 : Int32)), vX] [] (M, w, true, fm, l, t, u) :=
  (nR_itc X _ _ c_X6_apartAfter 6 _ _ _ _).trans rfl
set_option maxRecDepth 100000 in
theorem bX6_apartAfter_62 (d : Nat) (x1 : Int32) (x2 : Int32) (x3 : Int32) (x4 : Int32) (x5 : Int32) (x6 : Int32) (x7 : Int32) (M : MM) (w : Int64) (fm : Bool) (l : List (Nat × Nat × Nat)) (t u : Nat) : nR X (callN X d) hX6_apartAfter 62 [vR 2 0, vI x1, vI x2, vI x3, vI x4, vI x5, vI x6, vI x7] [] (M, w, true, fm, l, t, u) = if (6 : Int32) ≤ x7 then some (some (vI x6), (M, w, true, fm, l, t, u)) else cond (nIn x7 6) (cond (nIn ((x2 * (6 : Int32)) + x7) 30) (nR X (callN X d) hX6_apartAfter 62 [vR 2 0, vI x1, vI x2, vI x3, vI x4, vI x5, vI (x6 + (if 0 ≤ ((M 27 0 (x7).toNatClampNeg) - (M 5 0 (((x2 * (6 : Int32)) + x7)).toNatClampNeg)) then ((M 27 0 (x7).toNatClampNeg) - (M 5 0 (((x2 * (6 : Int32)) + x7)).toNatClampNeg)) else 0 - ((M 27 0 (x7).toNatClampNeg) - (M 5 0 (((x2 * (6 : Int32)) + x7)).toNatClampNeg)))), vI (x7 + (1 : Int32))] [] (M, w, true, fm, l, t, u)) none) none :=
  (nR_itc X _ _ c_X6_apartAfter 23 _ _ _ _).trans rfl
def c_X6_goInThought : List Nat := [2]
set_option maxRecDepth 100000 in
theorem bX6_goInThought_0 (d : Nat) (a1 : Int32) (M : MM) (w : Int64) (fm : Bool) (l : List (Nat × Nat × Nat)) (t u : Nat) : nR X (callN X d) hX6_goInThought 0 [vR 2 0, vI a1, vX] [] (M, w, true, fm, l, t, u) = nR X (callN X d) hX6_goInThought 2 [vR 2 0, vI a1, vI (0 : Int32)] [] (M, w, true, fm, l, t, u) :=
  (nR_itc X _ _ c_X6_goInThought 2 _ _ _ _).trans rfl
set_option maxRecDepth 100000 in
theorem bX6_goInThought_2 (d : Nat) (x1 : Int32) (x2 : Int32) (M : MM) (w : Int64) (fm : Bool) (l : List (Nat × Nat × Nat)) (t u : Nat) : nR X (callN X d) hX6_goInThought 2 [vR 2 0, vI x1, vI x2] [] (M, w, true, fm, l, t, u) = if (6 : Int32) ≤ x2 then some (none, (M, w, true, fm, l, t, u)) else cond (nIn x2 6) (cond (nIn ((x1 * (6 : Int32)) + x2) 36) (cond (nIn x2 6) (nR X (callN X d) hX6_goInThought 2 [vR 2 0, vI x1, vI (x2 + (1 : Int32))] [] ((nSt M 27 0 (x2).toNatClampNeg (if (9999 : Int32) < ((M 27 0 (x2).toNatClampNeg) + (M 26 0 (((x1 * (6 : Int32)) + x2)).toNatClampNeg)) then (9999 : Int32) else ((M 27 0 (x2).toNatClampNeg) + (M 26 0 (((x1 * (6 : Int32)) + x2)).toNatClampNeg)))), w, true, fm, l, t, u)) none) none) none :=
  (nR_itc X _ _ c_X6_goInThought 24 _ _ _ _).trans rfl
def c_X6_allAfterDrawn : List Nat := [27, 68, 84]
set_option maxRecDepth 100000 in
theorem bX6_allAfterDrawn_0 (d : Nat) (a1 : Int32) (a2 : Int32) (a3 : Int32) (M : MM) (w : Int64) (fm : Bool) (l : List (Nat × Nat × Nat)) (t u : Nat) : nR X (callN X d) hX6_allAfterDrawn 0 [vR 2 0, vI a1, vI a2, vI a3, vX, vX] [] (M, w, true, fm, l, t, u) = cond (decide (¬ (a2 * (6 : Int32)) < 0 ∧ ¬ (0 : Int32) < 0 ∧ ¬ (6 : Int32) < 0 ∧ ((a2 * (6 : Int32))).toNatClampNeg + ((6 : Int32)).toNatClampNeg ≤ 30 ∧ ((0 : Int32)).toNatClampNeg + ((6 : Int32)).toNatClampNeg ≤ 6)) (nR X (callN X d) hX6_allAfterDrawn 27 [vR 2 0, vI a1, vI a2, vI a3, vI a1, vI (0 : Int32)] [] ((nCpy M 5 0 ((a2 * (6 : Int32))).toNatClampNeg 27 0 ((0 : Int32)).toNatClampNeg ((6 : Int32)).toNatClampNeg), w, true, fm, l, t, u)) none :=
  (nR_itc X _ _ c_X6_allAfterDrawn 15 _ _ _ _).trans rfl
set_option maxRecDepth 100000 in
theorem bX6_allAfterDrawn_27 (d : Nat) (x1 : Int32) (x2 : Int32) (x3 : Int32) (x4 : Int32) (x5 : Int32) (M : MM) (w : Int64) (fm : Bool) (l : List (Nat × Nat × Nat)) (t u : Nat) : nR X (callN X d) hX6_allAfterDrawn 27 [vR 2 0, vI x1, vI x2, vI x3, vI x4, vI x5] [] (M, w, true, fm, l, t, u) = if x3 ≤ x5 then nBnd (callN X d 109 [vR 27 0, vI (0 : Int32), vI (6 : Int32)] (M, w, true, fm, l, t, u)) (fun v s2 => nR X (callN X d) hX6_allAfterDrawn 84 [vR 2 0, vI x1, vI x2, vI x3, vI x4, vI x5] (v.toList ++ []) s2) else if (6 : Int32) = 0 then none else nBnd (callN X d 104 [vR 2 0, vI x2, vI ((M 3 0 0) + x5), vI ((((((x4 * (1103515245 : Int32)) + (12345 : Int32))).toUInt32 >>> (((9 : Int32)).toUInt32 &&& Int32.toUInt32 31)).toInt32) - (((((x4 * (1103515245 : Int32)) + (12345 : Int32))).toUInt32 >>> (((9 : Int32)).toUInt32 &&& Int32.toUInt32 31)).toInt32) / (6 : Int32) * (6 : Int32))] (M, w, true, fm, l, t, u)) (fun v s2 => nR X (callN X d) hX6_allAfterDrawn 68 [vR 2 0, vI x1, vI x2, vI x3, vI ((x4 * (1103515245 : Int32)) + (12345 : Int32)), vI x5] (v.toList ++ []) s2) :=
  (nR_itc X _ _ c_X6_allAfterDrawn 22 _ _ _ _).trans rfl
set_option maxRecDepth 100000 in
theorem bX6_allAfterDrawn_68 (d : Nat) (x1 : Int32) (x2 : Int32) (x3 : Int32) (x4 : Int32) (x5 : Int32) (M : MM) (w : Int64) (fm : Bool) (l : List (Nat × Nat × Nat)) (t u : Nat) : nR X (callN X d) hX6_allAfterDrawn 68 [vR 2 0, vI x1, vI x2, vI x3, vI x4, vI x5] [] (M, w, true, fm, l, t, u) = nR X (callN X d) hX6_allAfterDrawn 27 [vR 2 0, vI x1, vI x2, vI x3, vI x4, vI (x5 + (1 : Int32))] [] (M, w, true, fm, l, t, u) :=
  (nR_itc X _ _ c_X6_allAfterDrawn 2 _ _ _ _).trans rfl
set_option maxRecDepth 100000 in
theorem bX6_allAfterDrawn_84 (d : Nat) (x1 : Int32) (x2 : Int32) (x3 : Int32) (x4 : Int32) (x5 : Int32) (y0 : Int32) (M : MM) (w : Int64) (fm : Bool) (l : List (Nat × Nat × Nat)) (t u : Nat) : nR X (callN X d) hX6_allAfterDrawn 84 [vR 2 0, vI x1, vI x2, vI x3, vI x4, vI x5] [vI y0] (M, w, true, fm, l, t, u) = some (some (vI y0), (M, w, true, fm, l, t, u)) :=
  (nR_itc X _ _ c_X6_allAfterDrawn 1 _ _ _ _).trans rfl
def c_X6_stayInThought : List Nat := [3, 43]
set_option maxRecDepth 100000 in
theorem bX6_stayInThought_0 (d : Nat) (a1 : Int32) (a2 : Int32) (a3 : Int32) (M : MM) (w : Int64) (fm : Bool) (l : List (Nat × Nat × Nat)) (t u : Nat) : nR X (callN X d) hX6_stayInThought 0 [vR 2 0, vI a1, vI a2, vI a3, vX, vX] [] (M, w, true, fm, l, t, u) = nR X (callN X d) hX6_stayInThought 3 [vR 2 0, vI a1, vI a2, vI a3, vI (0 : Int32), vX] [] (M, w, true, fm, l, t, u) :=
  (nR_itc X _ _ c_X6_stayInThought 2 _ _ _ _).trans rfl
set_option maxRecDepth 100000 in
theorem bX6_stayInThought_3 (d : Nat) (x1 : Int32) (x2 : Int32) (x3 : Int32) (x4 : Int32) (x5 : AV) (M : MM) (w : Int64) (fm : Bool) (l : List (Nat × Nat × Nat)) (t u : Nat) : nR X (callN X d) hX6_stayInThought 3 [vR 2 0, vI x1, vI x2, vI x3, vI x4, x5] [] (M, w, true, fm, l, t, u) = if (6 : Int32) ≤ x4 then some (none, (M, w, true, fm, l, t, u)) else cond (nIn x1 5) (cond (nIn x1 5) (nBnd (callN X d 91 [vR 2 0, vI (M 6 0 (x1).toNatClampNeg), vI (M 7 0 (x1).toNatClampNeg), vI x2, vI x3, vI x4, vI (M 3 0 1)] (M, w, true, fm, l, t, u)) (fun v s2 => nR X (callN X d) hX6_stayInThought 43 [vR 2 0, vI x1, vI x2, vI x3, vI x4, x5] (v.toList ++ []) s2)) none) none :=
  (nR_itc X _ _ c_X6_stayInThought 21 _ _ _ _).trans rfl
set_option maxRecDepth 100000 in
theorem bX6_stayInThought_43 (d : Nat) (x1 : Int32) (x2 : Int32) (x3 : Int32) (x4 : Int32) (x5 : AV) (y0 : Int32) (M : MM) (w : Int64) (fm : Bool) (l : List (Nat × Nat × Nat)) (t u : Nat) : nR X (callN X d) hX6_stayInThought 43 [vR 2 0, vI x1, vI x2, vI x3, vI x4, x5] [vI y0] (M, w, true, fm, l, t, u) = cond (nIn x4 6) (cond (nIn x4 6) (nR X (callN X d) hX6_stayInThought 3 [vR 2 0, vI x1, vI x2, vI x3, vI (x4 + (1 : Int32)), vI y0] [] ((nSt M 27 0 (x4).toNatClampNeg (if (9999 : Int32) < ((M 27 0 (x4).toNatClampNeg) + y0) then (9999 : Int32) else ((M 27 0 (x4).toNatClampNeg) + y0))), w, true, fm, l, t, u)) none) none :=
  (nR_itc X _ _ c_X6_stayInThought 15 _ _ _ _).trans rfl
def c_X6_firstOtherwise : List Nat := [22, 44, 64, 78, 99, 102, 134]
set_option maxRecDepth 100000 in
theorem bX6_firstOtherwise_0 (d : Nat) (i1 : Nat) (a2 : Int32) (a3 : Int32) (a4 : Int32) (a5 : Int32) (M : MM) (w : Int64) (fm : Bool) (l : List (Nat × Nat × Nat)) (t u : Nat) : nR X (callN X d) hX6_firstOtherwise 0 [vR 2 0, vR 18 i1, vI a2, vI a3, vI a4, vI a5, vX, vX, vX, vX, vX, vX] [] (M, w, true, fm, l, t, u) = if a4 = (1 : Int32) then nR X (callN X d) hX6_firstOtherwise 22 [vR 2 0, vR 18 i1, vI a2, vI a3, vI a4, vI a5, vI a5, vX, vX, vX, vX, vX] [] (M, w, true, fm, l, t, u) else cond (nIn a2 5) (nR X (callN X d) hX6_firstOtherwise 22 [vR 2 0, vR 18 i1, vI a2, vI a3, vI a4, vI a5, vI (M 6 0 (a2).toNatClampNeg), vX, vX, vX, vX, vX] [] (M, w, true, fm, l, t, u)) none :=
  (nR_itc X _ _ c_X6_firstOtherwise 9 _ _ _ _).trans rfl
set_option maxRecDepth 100000 in
theorem bX6_firstOtherwise_22 (d : Nat) (i1 : Nat) (x2 : Int32) (x3 : Int32) (x4 : Int32) (x5 : Int32) (x6 : Int32) (M : MM) (w : Int64) (fm : Bool) (l : List (Nat × Nat × Nat)) (t u : Nat) : nR X (callN X d) hX6_firstOtherwise 22 [vR 2 0, vR 18 i1, vI x2, vI x3, vI x4, vI x5, vI x6, vX, vX, vX, vX, vX] [] (M, w, true, fm, l, t, u) = if x4 = (2 : Int32) then nR X (callN X d) hX6_firstOtherwise 44 [vR 2 0, vR 18 i1, vI x2, vI x3, vI x4, vI x5, vI x6, vI x5, vX, vX, vX, vX] [] (M, w, true, fm, l, t, u) else cond (nIn x2 5) (nR X (callN X d) hX6_firstOtherwise 44 [vR 2 0, vR 18 i1, vI x2, vI x3, vI x4, vI x5, vI x6, vI (M 7 0 (x2).toNatClampNeg), vX, vX, vX, vX] [] (M, w, true, fm, l, t, u)) none :=
  (nR_itc X _ _ c_X6_firstOtherwise 9 _ _ _ _).trans rfl
set_option maxRecDepth 100000 in
theorem bX6_firstOtherwise_44 (d : Nat) (i1 : Nat) (x2 : Int32) (x3 : Int32) (x4 : Int32) (x5 : Int32) (x6 : Int32) (x7 : Int32) (M : MM) (w : Int64) (fm : Bool) (l : List (Nat × Nat × Nat)) (t u : Nat) : nR X (callN X d) hX6_firstOtherwise 44 [vR 2 0, vR 18 i1, vI x2, vI x3, vI x4, vI x5, vI x6, vI x7, vX, vX, vX, vX] [] (M, w, true, fm, l, t, u) = if x4 = (3 : Int32) then nR X (callN X d) hX6_firstOtherwise 64 [vR 2 0, vR 18 i1, vI x2, vI x3, vI x4, vI x5, vI x6, vI x7, vI x5, vX, vX, vX] [] (M, w, true, fm, l, t, u) else nR X (callN X d) hX6_firstOtherwise 64 [vR 2 0, vR 18 i1, vI x2, vI x3, vI x4, vI x5, vI x6, vI x7, vI (M 3 0 0), vX, vX, vX] [] (M, w, true, fm, l, t, u) :=
  (nR_itc X _ _ c_X6_firstOtherwise 7 _ _ _ _).trans rfl
set_option maxRecDepth 100000 in
theorem bX6_firstOtherwise_64 (d : Nat) (i1 : Nat) (x2 : Int32) (x3 : Int32) (x4 : Int32) (x5 : Int32) (x6 : Int32) (x7 : Int32) (x8 : Int32) (M : MM) (w : Int64) (fm : Bool) (l : List (Nat × Nat × Nat)) (t u : Nat) : nR X (callN X d) hX6_firstOtherwise 64 [vR 2 0, vR 18 i1, vI x2, vI x3, vI x4, vI x5, vI x6, vI x7, vI x8, vX, vX, vX] [] (M, w, true, fm, l, t, u) = if x4 = (5 : Int32) then nR X (callN X d) hX6_firstOtherwise 78 [vR 2 0, vR 18 i1, vI x2, vI x3, vI x4, vI x5, vI x6, vI x7, vI x8, vI x5, vX, vX] [] (M, w, true, fm, l, t, u) else nR X (callN X d) hX6_firstOtherwise 78 [vR 2 0, vR 18 i1, vI x2, vI x3, vI x4, vI x5, vI x6, vI x7, vI x8, vI x3, vX, vX] [] (M, w, true, fm, l, t, u) :=
  (nR_itc X _ _ c_X6_firstOtherwise 6 _ _ _ _).trans rfl
set_option maxRecDepth 100000 in
theorem bX6_firstOtherwise_78 (d : Nat) (i1 : Nat) (x2 : Int32) (x3 : Int32) (x4 : Int32) (x5 : Int32) (x6 : Int32) (x7 : Int32) (x8 : Int32) (x9 : Int32) (M : MM) (w : Int64) (fm : Bool) (l : List (Nat × Nat × Nat)) (t u : Nat) : nR X (callN X d) hX6_firstOtherwise 78 [vR 2 0, vR 18 i1, vI x2, vI x3, vI x4, vI x5, vI x6, vI x7, vI x8, vI x9, vX, vX] [] (M, w, true, fm, l, t, u) = if x4 = (6 : Int32) then nR X (callN X d) hX6_firstOtherwise 99 [vR 2 0, vR 18 i1, vI x2, vI x3, vI x4, vI x5, vI x6, vI x7, vI x8, vI x9, vI x5, vX] [] (M, w, true, fm, l, t, u) else nR X (callN X d) hX6_firstOtherwise 99 [vR 2 0, vR 18 i1, vI x2, vI x3, vI x4, vI x5, vI x6, vI x7, vI x8, vI x9, vI (M 3 0 1), vX] [] (M, w, true, fm, l, t, u) :=
  (nR_itc X _ _ c_X6_firstOtherwise 7 _ _ _ _).trans rfl
set_option maxRecDepth 100000 in
theorem bX6_firstOtherwise_99 (d : Nat) (i1 : Nat) (x2 : Int32) (x3 : Int32) (x4 : Int32) (x5 : Int32) (x6 : Int32) (x7 : Int32) (x8 : Int32) (x9 : Int32) (x10 : Int32) (M : MM) (w : Int64) (fm : Bool) (l : List (Nat × Nat × Nat)) (t u : Nat) : nR X (callN X d) hX6_firstOtherwise 99 [vR 2 0, vR 18 i1, vI x2, vI x3, vI x4, vI x5, vI x6, vI x7, vI x8, vI x9, vI x10, vX] [] (M, w, true, fm, l, t, u) = nR X (callN X d) hX6_firstOtherwise 102 [vR 2 0, vR 18 i1, vI x2, vI x3, vI x4, vI x5, vI x6, vI x7, vI x8, vI x9, vI x10, vI (0 : Int32)] [] (M, w, true, fm, l, t, u) :=
  (nR_itc X _ _ c_X6_firstOtherwise 2 _ _ _ _).trans rfl
set_option maxRecDepth 100000 in
theorem bX6_firstOtherwise_102 (d : Nat) (i1 : Nat) (x2 : Int32) (x3 : Int32) (x4 : Int32) (x5 : Int32) (x6 : Int32) (x7 : Int32) (x8 : Int32) (x9 : Int32) (x10 : Int32) (x11 : Int32) (M : MM) (w : Int64) (fm : Bool) (l : List (Nat × Nat × Nat)) (t u : Nat) : nR X (callN X d) hX6_firstOtherwise 102 [vR 2 0, vR 18 i1, vI x2, vI x3, vI x4, vI x5, vI x6, vI x7, vI x8, vI x9, vI x10, vI x11] [] (M, w, true, fm, l, t, u) = if (M 18 i1 1) ≤ x11 then some (some (vI (-1 : Int32)), (M, w, true, fm, l, t, u)) else if (6 : Int32) ≤ x11 then some (some (vI (-1 : Int32)), (M, w, true, fm, l, t, u)) else nBnd (callN X d 91 [vR 2 0, vI x6, vI x7, vI x8, vI x9, vI x11, vI x10] (M, w, true, fm, l, t, u)) (fun v s2 => nR X (callN X d) hX6_firstOtherwise 134 [vR 2 0, vR 18 i1, vI x2, vI x3, vI x4, vI x5, vI x6, vI x7, vI x8, vI x9, vI x10, vI x11] (v.toList ++ []) s2) :=
  (nR_itc X _ _ c_X6_firstOtherwise 15 _ _ _ _).trans rfl
set_option maxRecDepth 100000 in
theorem bX6_firstOtherwise_134 (d : Nat) (i1 : Nat) (x2 : Int32) (x3 : Int32) (x4 : Int32) (x5 : Int32) (x6 : Int32) (x7 : Int32) (x8 : Int32) (x9 : Int32) (x10 : Int32) (x11 : Int32) (y0 : Int32) (M : MM) (w : Int64) (fm : Bool) (l : List (Nat × Nat × Nat)) (t u : Nat) : nR X (callN X d) hX6_firstOtherwise 134 [vR 2 0, vR 18 i1, vI x2, vI x3, vI x4, vI x5, vI x6, vI x7, vI x8, vI x9, vI x10, vI x11] [vI y0] (M, w, true, fm, l, t, u) = cond (nIn x11 40) (if y0 = (M 19 i1 (x11).toNatClampNeg) then nR X (callN X d) hX6_firstOtherwise 102 [vR 2 0, vR 18 i1, vI x2, vI x3, vI x4, vI x5, vI x6, vI x7, vI x8, vI x9, vI x10, vI (x11 + (1 : Int32))] [] (M, w, true, fm, l, t, u) else some (some (vI x11), (M, w, true, fm, l, t, u))) none :=
  (nR_itc X _ _ c_X6_firstOtherwise 7 _ _ _ _).trans rfl
def c_X6_bitsThatTell : List Nat := [6, 24]
set_option maxRecDepth 100000 in
theorem bX6_bitsThatTell_0 (d : Nat) (i1 : Nat) (a2 : Int32) (a3 : Int32) (a4 : Int32) (a5 : Int32) (M : MM) (w : Int64) (fm : Bool) (l : List (Nat × Nat × Nat)) (t u : Nat) : nR X (callN X d) hX6_bitsThatTell 0 [vR 2 0, vR 18 i1, vI a2, vI a3, vI a4, vI a5, vX, vX] [] (M, w, true, fm, l, t, u) = nR X (callN X d) hX6_bitsThatTell 6 [vR 2 0, vR 18 i1, vI a2, vI a3, vI a4, vI a5, vI (0 : Int32), vI (0 : Int32)] [] (M, w, true, fm, l, t, u) :=
  (nR_itc X _ _ c_X6_bitsThatTell 4 _ _ _ _).trans rfl
set_option maxRecDepth 100000 in
theorem bX6_bitsThatTell_6 (d : Nat) (i1 : Nat) (x2 : Int32) (x3 : Int32) (x4 : Int32) (x5 : Int32) (x6 : Int32) (x7 : Int32) (M : MM) (w : Int64) (fm : Bool) (l : List (Nat × Nat × Nat)) (t u : Nat) : nR X (callN X d) hX6_bitsThatTell 6 [vR 2 0, vR 18 i1, vI x2, vI x3, vI x4, vI x5, vI x6, vI x7] [] (M, w, true, fm, l, t, u) = if x5 ≤ x7 then some (some (vI x6), (M, w, true, fm, l, t, u)) else nBnd (callN X d 105 [vR 2 0, vR 18 i1, vI x2, vI x3, vI x4, vI x7] (M, w, true, fm, l, t, u)) (fun v s2 => nR X (callN X d) hX6_bitsThatTell 24 [vR 2 0, vR 18 i1, vI x2, vI x3, vI x4, vI x5, vI x6, vI x7] (v.toList ++ []) s2) :=
  (nR_itc X _ _ c_X6_bitsThatTell 10 _ _ _ _).trans rfl
set_option maxRecDepth 100000 in
theorem bX6_bitsThatTell_24 (d : Nat) (i1 : Nat) (x2 : Int32) (x3 : Int32) (x4 : Int32) (x5 : Int32) (x6 : Int32) (x7 : Int32) (y0 : Int32) (M : MM) (w : Int64) (fm : Bool) (l : List (Nat × Nat × Nat)) (t u : Nat) : nR X (callN X d) hX6_bitsThatTell 24 [vR 2 0, vR 18 i1, vI x2, vI x3, vI x4, vI x5, vI x6, vI x7] [vI y0] (M, w, true, fm, l, t, u) = if y0 = (-1 : Int32) then nR X (callN X d) hX6_bitsThatTell 6 [vR 2 0, vR 18 i1, vI x2, vI x3, vI x4, vI x5, vI (x6 ||| ((1 : Int32) <<< (x7 &&& 31))), vI (x7 + (1 : Int32))] [] (M, w, true, fm, l, t, u) else nR X (callN X d) hX6_bitsThatTell 6 [vR 2 0, vR 18 i1, vI x2, vI x3, vI x4, vI x5, vI x6, vI (x7 + (1 : Int32))] [] (M, w, true, fm, l, t, u) :=
  (nR_itc X _ _ c_X6_bitsThatTell 10 _ _ _ _).trans rfl
def c_X6_daysThatTell : List Nat := [6, 23]
set_option maxRecDepth 100000 in
theorem bX6_daysThatTell_0 (d : Nat) (i1 : Nat) (a2 : Int32) (a3 : Int32) (M : MM) (w : Int64) (fm : Bool) (l : List (Nat × Nat × Nat)) (t u : Nat) : nR X (callN X d) hX6_daysThatTell 0 [vR 2 0, vR 18 i1, vI a2, vI a3, vX, vX] [] (M, w, true, fm, l, t, u) = nR X (callN X d) hX6_daysThatTell 6 [vR 2 0, vR 18 i1, vI a2, vI a3, vI (0 : Int32), vI (0 : Int32)] [] (M, w, true, fm, l, t, u) :=
  (nR_itc X _ _ c_X6_daysThatTell 4 _ _ _ _).trans rfl
set_option maxRecDepth 100000 in
theorem bX6_daysThatTell_6 (d : Nat) (i1 : Nat) (x2 : Int32) (x3 : Int32) (x4 : Int32) (x5 : Int32) (M : MM) (w : Int64) (fm : Bool) (l : List (Nat × Nat × Nat)) (t u : Nat) : nR X (callN X d) hX6_daysThatTell 6 [vR 2 0, vR 18 i1, vI x2, vI x3, vI x4, vI x5] [] (M, w, true, fm, l, t, u) = if (100 : Int32) ≤ x5 then some (some (vI x4), (M, w, true, fm, l, t, u)) else nBnd (callN X d 105 [vR 2 0, vR 18 i1, vI x2, vI x3, vI (3 : Int32), vI x5] (M, w, true, fm, l, t, u)) (fun v s2 => nR X (callN X d) hX6_daysThatTell 23 [vR 2 0, vR 18 i1, vI x2, vI x3, vI x4, vI x5] (v.toList ++ []) s2) :=
  (nR_itc X _ _ c_X6_daysThatTell 10 _ _ _ _).trans rfl
set_option maxRecDepth 100000 in
theorem bX6_daysThatTell_23 (d : Nat) (i1 : Nat) (x2 : Int32) (x3 : Int32) (x4 : Int32) (x5 : Int32) (y0 : Int32) (M : MM) (w : Int64) (fm : Bool) (l : List (Nat × Nat × Nat)) (t u : Nat) : nR X (callN X d) hX6_daysThatTell 23 [vR 2 0, vR 18 i1, vI x2, vI x3, vI x4, vI x5] [vI y0] (M, w, true, fm, l, t, u) = if y0 = (-1 : Int32) then nR X (callN X d) hX6_daysThatTell 6 [vR 2 0, vR 18 i1, vI x2, vI x3, vI (x4 + (1 : Int32)), vI (x5 + (1 : Int32))] [] (M, w, true, fm, l, t, u) else nR X (callN X d) hX6_daysThatTell 6 [vR 2 0, vR 18 i1, vI x2, vI x3, vI x4, vI (x5 + (1 : Int32))] [] (M, w, true, fm, l, t, u) :=
  (nR_itc X _ _ c_X6_daysThatTell 5 _ _ _ _).trans rfl
def c_X6_leastDayThatTells : List Nat := [3, 20]
set_option maxRecDepth 100000 in
theorem bX6_leastDayThatTells_0 (d : Nat) (i1 : Nat) (a2 : Int32) (a3 : Int32) (M : MM) (w : Int64) (fm : Bool) (l : List (Nat × Nat × Nat)) (t u : Nat) : nR X (callN X d) hX6_leastDayThatTells 0 [vR 2 0, vR 18 i1, vI a2, vI a3, vX] [] (M, w, true, fm, l, t, u) = nR X (callN X d) hX6_leastDayThatTells 3 [vR 2 0, vR 18 i1, vI a2, vI a3, vI (0 : Int32)] [] (M, w, true, fm, l, t, u) :=
  (nR_itc X _ _ c_X6_leastDayThatTells 2 _ _ _ _).trans rfl
set_option maxRecDepth 100000 in
theorem bX6_leastDayThatTells_3 (d : Nat) (i1 : Nat) (x2 : Int32) (x3 : Int32) (x4 : Int32) (M : MM) (w : Int64) (fm : Bool) (l : List (Nat × Nat × Nat)) (t u : Nat) : nR X (callN X d) hX6_leastDayThatTells 3 [vR 2 0, vR 18 i1, vI x2, vI x3, vI x4] [] (M, w, true, fm, l, t, u) = if (100 : Int32) ≤ x4 then some (some (vI (-1 : Int32)), (M, w, true, fm, l, t, u)) else nBnd (callN X d 105 [vR 2 0, vR 18 i1, vI x2, vI x3, vI (3 : Int32), vI x4] (M, w, true, fm, l, t, u)) (fun v s2 => nR X (callN X d) hX6_leastDayThatTells 20 [vR 2 0, vR 18 i1, vI x2, vI x3, vI x4] (v.toList ++ []) s2) :=
  (nR_itc X _ _ c_X6_leastDayThatTells 10 _ _ _ _).trans rfl
set_option maxRecDepth 100000 in
theorem bX6_leastDayThatTells_20 (d : Nat) (i1 : Nat) (x2 : Int32) (x3 : Int32) (x4 : Int32) (y0 : Int32) (M : MM) (w : Int64) (fm : Bool) (l : List (Nat × Nat × Nat)) (t u : Nat) : nR X (callN X d) hX6_leastDayThatTells 20 [vR 2 0, vR 18 i1, vI x2, vI x3, vI x4] [vI y0] (M, w, true, fm, l, t, u) = if y0 = (-1 : Int32) then some (some (vI x4), (M, w, true, fm, l, t, u)) else nR X (callN X d) hX6_leastDayThatTells 3 [vR 2 0, vR 18 i1, vI x2, vI x3, vI (x4 + (1 : Int32))] [] (M, w, true, fm, l, t, u) :=
  (nR_itc X _ _ c_X6_leastDayThatTells 4 _ _ _ _).trans rfl
def c_X6_sum : List Nat := [5]
set_option maxRecDepth 100000 in
theorem bX6_sum4_0 (d : Nat) (i1 : Nat) (a2 : Int32) (a3 : Int32) (M : MM) (w : Int64) (fm : Bool) (l : List (Nat × Nat × Nat)) (t u : Nat) : nR X (callN X d) hX6_sum 0 [vR 4 i1, vI a2, vI a3, vX, vX] [] (M, w, true, fm, l, t, u) = nR X (callN X d) hX6_sum 5 [vR 4 i1, vI a2, vI a3, vI (0 : Int32), vI (0 : Int32)] [] (M, w, true, fm, l, t, u) :=
  (nR_itc X _ _ c_X6_sum 4 _ _ _ _).trans rfl
set_option maxRecDepth 100000 in
theorem bX6_sum4_5 (d : Nat) (i1 : Nat) (x1 : Int32) (x2 : Int32) (x3 : Int32) (x4 : Int32) (M : MM) (w : Int64) (fm : Bool) (l : List (Nat × Nat × Nat)) (t u : Nat) : nR X (callN X d) hX6_sum 5 [vR 4 i1, vI x1, vI x2, vI x3, vI x4] [] (M, w, true, fm, l, t, u) = if x2 ≤ x4 then some (some (vI x3), (M, w, true, fm, l, t, u)) else cond (nIn (x1 + x4) 36) (nR X (callN X d) hX6_sum 5 [vR 4 i1, vI x1, vI x2, vI (x3 + (M 4 i1 ((x1 + x4)).toNatClampNeg)), vI (x4 + (1 : Int32))] [] (M, w, true, fm, l, t, u)) none :=
  (nR_itc X _ _ c_X6_sum 13 _ _ _ _).trans rfl
set_option maxRecDepth 100000 in
theorem bX6_sum5_0 (d : Nat) (i1 : Nat) (a2 : Int32) (a3 : Int32) (M : MM) (w : Int64) (fm : Bool) (l : List (Nat × Nat × Nat)) (t u : Nat) : nR X (callN X d) hX6_sum 0 [vR 5 i1, vI a2, vI a3, vX, vX] [] (M, w, true, fm, l, t, u) = nR X (callN X d) hX6_sum 5 [vR 5 i1, vI a2, vI a3, vI (0 : Int32), vI (0 : Int32)] [] (M, w, true, fm, l, t, u) :=
  (nR_itc X _ _ c_X6_sum 4 _ _ _ _).trans rfl
set_option maxRecDepth 100000 in
theorem bX6_sum5_5 (d : Nat) (i1 : Nat) (x1 : Int32) (x2 : Int32) (x3 : Int32) (x4 : Int32) (M : MM) (w : Int64) (fm : Bool) (l : List (Nat × Nat × Nat)) (t u : Nat) : nR X (callN X d) hX6_sum 5 [vR 5 i1, vI x1, vI x2, vI x3, vI x4] [] (M, w, true, fm, l, t, u) = if x2 ≤ x4 then some (some (vI x3), (M, w, true, fm, l, t, u)) else cond (nIn (x1 + x4) 30) (nR X (callN X d) hX6_sum 5 [vR 5 i1, vI x1, vI x2, vI (x3 + (M 5 i1 ((x1 + x4)).toNatClampNeg)), vI (x4 + (1 : Int32))] [] (M, w, true, fm, l, t, u)) none :=
  (nR_itc X _ _ c_X6_sum 13 _ _ _ _).trans rfl
set_option maxRecDepth 100000 in
theorem bX6_sum19_0 (d : Nat) (i1 : Nat) (a2 : Int32) (a3 : Int32) (M : MM) (w : Int64) (fm : Bool) (l : List (Nat × Nat × Nat)) (t u : Nat) : nR X (callN X d) hX6_sum 0 [vR 19 i1, vI a2, vI a3, vX, vX] [] (M, w, true, fm, l, t, u) = nR X (callN X d) hX6_sum 5 [vR 19 i1, vI a2, vI a3, vI (0 : Int32), vI (0 : Int32)] [] (M, w, true, fm, l, t, u) :=
  (nR_itc X _ _ c_X6_sum 4 _ _ _ _).trans rfl
set_option maxRecDepth 100000 in
theorem bX6_sum19_5 (d : Nat) (i1 : Nat) (x1 : Int32) (x2 : Int32) (x3 : Int32) (x4 : Int32) (M : MM) (w : Int64) (fm : Bool) (l : List (Nat × Nat × Nat)) (t u : Nat) : nR X (callN X d) hX6_sum 5 [vR 19 i1, vI x1, vI x2, vI x3, vI x4] [] (M, w, true, fm, l, t, u) = if x2 ≤ x4 then some (some (vI x3), (M, w, true, fm, l, t, u)) else cond (nIn (x1 + x4) 40) (nR X (callN X d) hX6_sum 5 [vR 19 i1, vI x1, vI x2, vI (x3 + (M 19 i1 ((x1 + x4)).toNatClampNeg)), vI (x4 + (1 : Int32))] [] (M, w, true, fm, l, t, u)) none :=
  (nR_itc X _ _ c_X6_sum 13 _ _ _ _).trans rfl
set_option maxRecDepth 100000 in
theorem bX6_sum27_0 (d : Nat) (i1 : Nat) (a2 : Int32) (a3 : Int32) (M : MM) (w : Int64) (fm : Bool) (l : List (Nat × Nat × Nat)) (t u : Nat) : nR X (callN X d) hX6_sum 0 [vR 27 i1, vI a2, vI a3, vX, vX] [] (M, w, true, fm, l, t, u) = nR X (callN X d) hX6_sum 5 [vR 27 i1, vI a2, vI a3, vI (0 : Int32), vI (0 : Int32)] [] (M, w, true, fm, l, t, u) :=
  (nR_itc X _ _ c_X6_sum 4 _ _ _ _).trans rfl
set_option maxRecDepth 100000 in
theorem bX6_sum27_5 (d : Nat) (i1 : Nat) (x1 : Int32) (x2 : Int32) (x3 : Int32) (x4 : Int32) (M : MM) (w : Int64) (fm : Bool) (l : List (Nat × Nat × Nat)) (t u : Nat) : nR X (callN X d) hX6_sum 5 [vR 27 i1, vI x1, vI x2, vI x3, vI x4] [] (M, w, true, fm, l, t, u) = if x2 ≤ x4 then some (some (vI x3), (M, w, true, fm, l, t, u)) else cond (nIn (x1 + x4) 6) (nR X (callN X d) hX6_sum 5 [vR 27 i1, vI x1, vI x2, vI (x3 + (M 27 i1 ((x1 + x4)).toNatClampNeg)), vI (x4 + (1 : Int32))] [] (M, w, true, fm, l, t, u)) none :=
  (nR_itc X _ _ c_X6_sum 13 _ _ _ _).trans rfl
def c_X6_lowestTerms : List Nat := [8]
set_option maxRecDepth 100000 in
theorem bX6_lowestTerms_0 (d : Nat) (a1 : Int32) (a2 : Int32) (a3 : Int32) (M : MM) (w : Int64) (fm : Bool) (l : List (Nat × Nat × Nat)) (t u : Nat) : nR X (callN X d) hX6_lowestTerms 0 [vI a1, vI a2, vI a3, vX, vX, vX, vX] [] (M, w, true, fm, l, t, u) = nR X (callN X d) hX6_lowestTerms 8 [vI a1, vI a2, vI a3, vI a2, vI a1, vI (0 : Int32), vX] [] (M, w, true, fm, l, t, u) :=
  (nR_itc X _ _ c_X6_lowestTerms 6 _ _ _ _).trans rfl
set_option maxRecDepth 100000 in
theorem bX6_lowestTerms_8 (d : Nat) (x0 : Int32) (x1 : Int32) (x2 : Int32) (x3 : Int32) (x4 : Int32) (x5 : Int32) (x6 : AV) (M : MM) (w : Int64) (fm : Bool) (l : List (Nat × Nat × Nat)) (t u : Nat) : nR X (callN X d) hX6_lowestTerms 8 [vI x0, vI x1, vI x2, vI x3, vI x4, vI x5, x6] [] (M, w, true, fm, l, t, u) = if (100 : Int32) ≤ x5 then if x1 = 0 then some (some (vL (-4611686018427387904 : Int64)), (M, w, true, fm, l, t, u)) else if x3 = 0 then some (some (vL (-4611686018427387904 : Int64)), (M, w, true, fm, l, t, u)) else if x2 = 0 then if x3 = 0 then none else some (some (vL ((x0 / x3)).toInt64), (M, w, true, fm, l, t, u)) else if x3 = 0 then none else some (some (vL ((x1 / x3)).toInt64), (M, w, true, fm, l, t, u)) else if x4 = 0 then if x1 = 0 then some (some (vL (-4611686018427387904 : Int64)), (M, w, true, fm, l, t, u)) else if x3 = 0 then some (some (vL (-4611686018427387904 : Int64)), (M, w, true, fm, l, t, u)) else if x2 = 0 then if x3 = 0 then none else some (some (vL ((x0 / x3)).toInt64), (M, w, true, fm, l, t, u)) else if x3 = 0 then none else some (some (vL ((x1 / x3)).toInt64), (M, w, true, fm, l, t, u)) else if x4 = 0 then none else nR X (callN X d) hX6_lowestTerms 8 [vI x0, vI x1, vI x2, vI x4, vI (x3 - x3 / x4 * x4), vI (x5 + (1 : Int32)), vI (x3 - x3 / x4 * x4)] [] (M, w, true, fm, l, t, u) :=
  (nR_itc X _ _ c_X6_lowestTerms 17 _ _ _ _).trans rfl
end
