section
variable (X : Nat × (Nat → Int32))
def c_X7_in : List Nat := []
set_option maxRecDepth 100000 in
theorem bX7_in_0 (d : Nat) (a1 : Int64) (a2 : Int64) (a3 : Int64) (M : MM) (w : Int64) (l : List (Nat × Nat × Nat)) (t u : Nat) : nR X (callN X d) hX7_in 0 [vL a1, vX, vL a2, vX, vL a3, vX] [] (M, w, true, true, l, t, u) = if (nLcmp a1 a2) < 0 then some (some (vI (0 : Int32)), (M, w, true, true, l, t, u)) else if 0 < (nLcmp a1 a3) then some (some (vI (0 : Int32)), (M, w, true, true, l, t, u)) else some (some (vI (1 : Int32)), (M, w, true, true, l, t, u)) :=
  (nR_itc X _ _ c_X7_in 11 _ _ _ _).trans rfl
def c_X7_within : List Nat := []
set_option maxRecDepth 100000 in
theorem bX7_within_0 (d : Nat) (a1 : Int32) (a2 : Int32) (a3 : Int32) (M : MM) (w : Int64) (l : List (Nat × Nat × Nat)) (t u : Nat) : nR X (callN X d) hX7_within 0 [vI a1, vI a2, vI a3] [] (M, w, true, true, l, t, u) = if a2 ≤ a1 then if a1 ≤ a3 then some (some (vI a1), (M, w, true, true, l, t, u)) else some (some (vI a3), (M, w, true, true, l, t, u)) else some (some (vI a2), (M, w, true, true, l, t, u)) :=
  (nR_itc X _ _ c_X7_within 9 _ _ _ _).trans rfl
def c_X7_spell : List Nat := []
set_option maxRecDepth 100000 in
theorem bX7_spell_0 (d : Nat) (a1 : Int32) (a2 : Int32) (a3 : Int32) (a4 : Int32) (a5 : Int32) (a6 : Int32) (a7 : Int32) (a8 : Int32) (a9 : Int32) (M : MM) (w : Int64) (l : List (Nat × Nat × Nat)) (t u : Nat) : nR X (callN X d) hX7_spell 0 [vR 30 0, vI a1, vI a2, vI a3, vI a4, vI a5, vI a6, vI a7, vI a8, vI a9] [] (M, w, true, true, l, t, u) = cond (nIn a1 960) (cond (nIn (a1 + (1 : Int32)) 960) (cond (nIn (a1 + (2 : Int32)) 960) (cond (nIn (a1 + (3 : Int32)) 960) (cond (nIn (a1 + (4 : Int32)) 960) (cond (nIn (a1 + (5 : Int32)) 960) (cond (nIn (a1 + (6 : Int32)) 960) (cond (nIn (a1 + (7 : Int32)) 960) (some (none, ((nSt (nSt (nSt (nSt (nSt (nSt (nSt (nSt M 31 0 (a1).toNatClampNeg a2) 31 0 ((a1 + (1 : Int32))).toNatClampNeg a3) 31 0 ((a1 + (2 : Int32))).toNatClampNeg a4) 31 0 ((a1 + (3 : Int32))).toNatClampNeg a5) 31 0 ((a1 + (4 : Int32))).toNatClampNeg a6) 31 0 ((a1 + (5 : Int32))).toNatClampNeg a7) 31 0 ((a1 + (6 : Int32))).toNatClampNeg a8) 31 0 ((a1 + (7 : Int32))).toNatClampNeg a9), w, true, true, l, t, u))) none) none) none) none) none) none) none) none :=
  (nR_itc X _ _ c_X7_spell 55 _ _ _ _).trans rfl
def c_X7_isOne : List Nat := [13]
set_option maxRecDepth 100000 in
theorem bX7_isOne_0 (d : Nat) (a1 : Int32) (M : MM) (w : Int64) (l : List (Nat × Nat × Nat)) (t u : Nat) : nR X (callN X d) hX7_isOne 0 [vR 30 0, vI a1] [] (M, w, true, true, l, t, u) = nBnd (callN X d 111 [vL (a1).toInt64, vL (0 : Int64), vL (((M 30 0 12) - (1 : Int32))).toInt64] (M, w, true, true, l, t, u)) (fun v s2 => nR X (callN X d) hX7_isOne 13 [vR 30 0, vI a1] (v.toList ++ []) s2) :=
  (nR_itc X _ _ c_X7_isOne 9 _ _ _ _).trans rfl
set_option maxRecDepth 100000 in
theorem bX7_isOne_13 (d : Nat) (x1 : Int32) (y0 : Int32) (M : MM) (w : Int64) (l : List (Nat × Nat × Nat)) (t u : Nat) : nR X (callN X d) hX7_isOne 13 [vR 30 0, vI x1] [vI y0] (M, w, true, true, l, t, u) = cond (nIsb y0) (some (some (vI y0), (M, w, true, true, l, t, u))) none :=
  (nR_itc X _ _ c_X7_isOne 1 _ _ _ _).trans rfl
def c_X7_isCoast : List Nat := [9]
set_option maxRecDepth 100000 in
theorem bX7_isCoast_0 (d : Nat) (a1 : Int32) (M : MM) (w : Int64) (l : List (Nat × Nat × Nat)) (t u : Nat) : nR X (callN X d) hX7_isCoast 0 [vI a1] [] (M, w, true, true, l, t, u) = nBnd (callN X d 111 [vL (a1).toInt64, vL (0 : Int64), vL (5 : Int64)] (M, w, true, true, l, t, u)) (fun v s2 => nR X (callN X d) hX7_isCoast 9 [vI a1] (v.toList ++ []) s2) :=
  (nR_itc X _ _ c_X7_isCoast 5 _ _ _ _).trans rfl
set_option maxRecDepth 100000 in
theorem bX7_isCoast_9 (d : Nat) (x0 : Int32) (y0 : Int32) (M : MM) (w : Int64) (l : List (Nat × Nat × Nat)) (t u : Nat) : nR X (callN X d) hX7_isCoast 9 [vI x0] [vI y0] (M, w, true, true, l, t, u) = cond (nIsb y0) (some (some (vI y0), (M, w, true, true, l, t, u))) none :=
  (nR_itc X _ _ c_X7_isCoast 1 _ _ _ _).trans rfl
def c_X7_isMark : List Nat := [9]
set_option maxRecDepth 100000 in
theorem bX7_isMark_0 (d : Nat) (a1 : Int32) (M : MM) (w : Int64) (l : List (Nat × Nat × Nat)) (t u : Nat) : nR X (callN X d) hX7_isMark 0 [vI a1] [] (M, w, true, true, l, t, u) = nBnd (callN X d 111 [vL (a1).toInt64, vL (0 : Int64), vL (5 : Int64)] (M, w, true, true, l, t, u)) (fun v s2 => nR X (callN X d) hX7_isMark 9 [vI a1] (v.toList ++ []) s2) :=
  (nR_itc X _ _ c_X7_isMark 5 _ _ _ _).trans rfl
set_option maxRecDepth 100000 in
theorem bX7_isMark_9 (d : Nat) (x0 : Int32) (y0 : Int32) (M : MM) (w : Int64) (l : List (Nat × Nat × Nat)) (t u : Nat) : nR X (callN X d) hX7_isMark 9 [vI x0] [vI y0] (M, w, true, true, l, t, u) = cond (nIsb y0) (some (some (vI y0), (M, w, true, true, l, t, u))) none :=
  (nR_itc X _ _ c_X7_isMark 1 _ _ _ _).trans rfl
def c_X7_isOf : List Nat := [19, 29, 45, 68, 79]
set_option maxRecDepth 100000 in
theorem bX7_isOf_0 (d : Nat) (a1 : Int32) (a2 : Int32) (M : MM) (w : Int64) (l : List (Nat × Nat × Nat)) (t u : Nat) : nR X (callN X d) hX7_isOf 0 [vR 30 0, vI a1, vI a2] [] (M, w, true, true, l, t, u) = if a1 = (1 : Int32) then nBnd (callN X d 111 [vL (a2).toInt64, vL (0 : Int64), vL (55 : Int64)] (M, w, true, true, l, t, u)) (fun v s2 => nR X (callN X d) hX7_isOf 19 [vR 30 0, vI a1, vI a2] (v.toList ++ []) s2) else if a1 = (3 : Int32) then nBnd (callN X d 111 [vL (a2).toInt64, vL (0 : Int64), vL (55 : Int64)] (M, w, true, true, l, t, u)) (fun v s2 => nR X (callN X d) hX7_isOf 19 [vR 30 0, vI a1, vI a2] (v.toList ++ []) s2) else if a1 = 0 then some (some (vI (1 : Int32)), (M, w, true, true, l, t, u)) else if a1 = (7 : Int32) then nBnd (callN X d 116 [vI a2] (M, w, true, true, l, t, u)) (fun v s2 => nR X (callN X d) hX7_isOf 68 [vR 30 0, vI a1, vI a2] (v.toList ++ []) s2) else nBnd (callN X d 115 [vR 30 0, vI a2] (M, w, true, true, l, t, u)) (fun v s2 => nR X (callN X d) hX7_isOf 79 [vR 30 0, vI a1, vI a2] (v.toList ++ []) s2) :=
  (nR_itc X _ _ c_X7_isOf 14 _ _ _ _).trans rfl
set_option maxRecDepth 100000 in
theorem bX7_isOf_19 (d : Nat) (x1 : Int32) (x2 : Int32) (y0 : Int32) (M : MM) (w : Int64) (l : List (Nat × Nat × Nat)) (t u : Nat) : nR X (callN X d) hX7_isOf 19 [vR 30 0, vI x1, vI x2] [vI y0] (M, w, true, true, l, t, u) = if y0 = 0 then some (some (vI (0 : Int32)), (M, w, true, true, l, t, u)) else if (10 : Int32) = 0 then none else nBnd (callN X d 117 [vI (x2 - x2 / (10 : Int32) * (10 : Int32))] (M, w, true, true, l, t, u)) (fun v s2 => nR X (callN X d) hX7_isOf 29 [vR 30 0, vI x1, vI x2] (v.toList ++ []) s2) :=
  (nR_itc X _ _ c_X7_isOf 5 _ _ _ _).trans rfl
set_option maxRecDepth 100000 in
theorem bX7_isOf_29 (d : Nat) (x1 : Int32) (x2 : Int32) (y0 : Int32) (M : MM) (w : Int64) (l : List (Nat × Nat × Nat)) (t u : Nat) : nR X (callN X d) hX7_isOf 29 [vR 30 0, vI x1, vI x2] [vI y0] (M, w, true, true, l, t, u) = if y0 = 0 then some (some (vI (0 : Int32)), (M, w, true, true, l, t, u)) else if x1 = (1 : Int32) then some (some (vI (1 : Int32)), (M, w, true, true, l, t, u)) else if (10 : Int32) = 0 then none else nBnd (callN X d 115 [vR 30 0, vI (x2 / (10 : Int32))] (M, w, true, true, l, t, u)) (fun v s2 => nR X (callN X d) hX7_isOf 45 [vR 30 0, vI x1, vI x2] (v.toList ++ []) s2) :=
  (nR_itc X _ _ c_X7_isOf 9 _ _ _ _).trans rfl
set_option maxRecDepth 100000 in
theorem bX7_isOf_45 (d : Nat) (x1 : Int32) (x2 : Int32) (y0 : Int32) (M : MM) (w : Int64) (l : List (Nat × Nat × Nat)) (t u : Nat) : nR X (callN X d) hX7_isOf 45 [vR 30 0, vI x1, vI x2] [vI y0] (M, w, true, true, l, t, u) = if y0 = 0 then some (some (vI (0 : Int32)), (M, w, true, true, l, t, u)) else some (some (vI (1 : Int32)), (M, w, true, true, l, t, u)) :=
  (nR_itc X _ _ c_X7_isOf 4 _ _ _ _).trans rfl
set_option maxRecDepth 100000 in
theorem bX7_isOf_68 (d : Nat) (x1 : Int32) (x2 : Int32) (y0 : Int32) (M : MM) (w : Int64) (l : List (Nat × Nat × Nat)) (t u : Nat) : nR X (callN X d) hX7_isOf 68 [vR 30 0, vI x1, vI x2] [vI y0] (M, w, true, true, l, t, u) = if y0 = 0 then some (some (vI (0 : Int32)), (M, w, true, true, l, t, u)) else some (some (vI (1 : Int32)), (M, w, true, true, l, t, u)) :=
  (nR_itc X _ _ c_X7_isOf 5 _ _ _ _).trans rfl
set_option maxRecDepth 100000 in
theorem bX7_isOf_79 (d : Nat) (x1 : Int32) (x2 : Int32) (y0 : Int32) (M : MM) (w : Int64) (l : List (Nat × Nat × Nat)) (t u : Nat) : nR X (callN X d) hX7_isOf 79 [vR 30 0, vI x1, vI x2] [vI y0] (M, w, true, true, l, t, u) = if y0 = 0 then some (some (vI (0 : Int32)), (M, w, true, true, l, t, u)) else some (some (vI (1 : Int32)), (M, w, true, true, l, t, u)) :=
  (nR_itc X _ _ c_X7_isOf 4 _ _ _ _).trans rfl
def c_X7_mostOf : List Nat := []
set_option maxRecDepth 100000 in
theorem bX7_mostOf_0 (d : Nat) (a1 : Int32) (M : MM) (w : Int64) (l : List (Nat × Nat × Nat)) (t u : Nat) : nR X (callN X d) hX7_mostOf 0 [vI a1] [] (M, w, true, true, l, t, u) = if a1 = 0 then some (some (vI (999 : Int32)), (M, w, true, true, l, t, u)) else if a1 = (1 : Int32) then some (some (vI (99 : Int32)), (M, w, true, true, l, t, u)) else if a1 = (2 : Int32) then some (some (vI (9 : Int32)), (M, w, true, true, l, t, u)) else some (some (vI (9999 : Int32)), (M, w, true, true, l, t, u)) :=
  (nR_itc X _ _ c_X7_mostOf 11 _ _ _ _).trans rfl
def c_X7_placeOf : List Nat := []
set_option maxRecDepth 100000 in
theorem bX7_placeOf_0 (d : Nat) (a1 : Int32) (M : MM) (w : Int64) (l : List (Nat × Nat × Nat)) (t u : Nat) : nR X (callN X d) hX7_placeOf 0 [vI a1] [] (M, w, true, true, l, t, u) = if (10 : Int32) = 0 then none else if (10 : Int32) = 0 then none else some (some (vI (((6 : Int32) * (a1 / (10 : Int32))) + (a1 - a1 / (10 : Int32) * (10 : Int32)))), (M, w, true, true, l, t, u)) :=
  (nR_itc X _ _ c_X7_placeOf 10 _ _ _ _).trans rfl
def c_X7_set : List Nat := [9, 18, 28, 32, 44, 53]
set_option maxRecDepth 100000 in
theorem bX7_set_0 (d : Nat) (a1 : Int32) (a2 : Int32) (a3 : Int32) (M : MM) (w : Int64) (l : List (Nat × Nat × Nat)) (t u : Nat) : nR X (callN X d) hX7_set 0 [vR 30 0, vI a1, vI a2, vI a3, vX] [] (M, w, true, true, l, t, u) = nBnd (callN X d 111 [vL (a1).toInt64, vL (0 : Int64), vL (3 : Int64)] (M, w, true, true, l, t, u)) (fun v s2 => nR X (callN X d) hX7_set 9 [vR 30 0, vI a1, vI a2, vI a3, vX] (v.toList ++ []) s2) :=
  (nR_itc X _ _ c_X7_set 5 _ _ _ _).trans rfl
set_option maxRecDepth 100000 in
theorem bX7_set_9 (d : Nat) (x1 : Int32) (x2 : Int32) (x3 : Int32) (y0 : Int32) (M : MM) (w : Int64) (l : List (Nat × Nat × Nat)) (t u : Nat) : nR X (callN X d) hX7_set 9 [vR 30 0, vI x1, vI x2, vI x3, vX] [vI y0] (M, w, true, true, l, t, u) = if y0 = 0 then some (some (vI (-2 : Int32)), (M, w, true, true, l, t, u)) else nBnd (callN X d 118 [vR 30 0, vI x1, vI x2] (M, w, true, true, l, t, u)) (fun v s2 => nR X (callN X d) hX7_set 18 [vR 30 0, vI x1, vI x2, vI x3, vX] (v.toList ++ []) s2) :=
  (nR_itc X _ _ c_X7_set 5 _ _ _ _).trans rfl
set_option maxRecDepth 100000 in
theorem bX7_set_18 (d : Nat) (x1 : Int32) (x2 : Int32) (x3 : Int32) (y0 : Int32) (M : MM) (w : Int64) (l : List (Nat × Nat × Nat)) (t u : Nat) : nR X (callN X d) hX7_set 18 [vR 30 0, vI x1, vI x2, vI x3, vX] [vI y0] (M, w, true, true, l, t, u) = if y0 = 0 then some (some (vI (-2 : Int32)), (M, w, true, true, l, t, u)) else nBnd (callN X d 119 [vI x1] (M, w, true, true, l, t, u)) (fun v s2 => nR X (callN X d) hX7_set 28 [vR 30 0, vI x1, vI x2, vI x3, vX] (v.toList ++ [vL (0 : Int64), vL (x3).toInt64]) s2) :=
  (nR_itc X _ _ c_X7_set 6 _ _ _ _).trans rfl
set_option maxRecDepth 100000 in
theorem bX7_set_28 (d : Nat) (x1 : Int32) (x2 : Int32) (x3 : Int32) (y0 : Int32) (y1 : Int64) (y2 : Int64) (M : MM) (w : Int64) (l : List (Nat × Nat × Nat)) (t u : Nat) : nR X (callN X d) hX7_set 28 [vR 30 0, vI x1, vI x2, vI x3, vX] [vI y0, vL y1, vL y2] (M, w, true, true, l, t, u) = nBnd (callN X d 111 [vL y2, vL y1, vL (y0).toInt64] (M, w, true, true, l, t, u)) (fun v s2 => nR X (callN X d) hX7_set 32 [vR 30 0, vI x1, vI x2, vI x3, vX] (v.toList ++ []) s2) :=
  (nR_itc X _ _ c_X7_set 2 _ _ _ _).trans rfl
set_option maxRecDepth 100000 in
theorem bX7_set_32 (d : Nat) (x1 : Int32) (x2 : Int32) (x3 : Int32) (y0 : Int32) (M : MM) (w : Int64) (l : List (Nat × Nat × Nat)) (t u : Nat) : nR X (callN X d) hX7_set 32 [vR 30 0, vI x1, vI x2, vI x3, vX] [vI y0] (M, w, true, true, l, t, u) = if y0 = 0 then some (some (vI (-2 : Int32)), (M, w, true, true, l, t, u)) else nBnd (callN X d 124 [vR 30 0, vI x2, vI x1] (M, w, true, true, l, t, u)) (fun v s2 => nR X (callN X d) hX7_set 44 [vR 30 0, vI x1, vI x2, vI x3, vX] (v.toList ++ []) s2) :=
  (nR_itc X _ _ c_X7_set 5 _ _ _ _).trans rfl
set_option maxRecDepth 100000 in
theorem bX7_set_44 (d : Nat) (x1 : Int32) (x2 : Int32) (x3 : Int32) (y0 : Int32) (M : MM) (w : Int64) (l : List (Nat × Nat × Nat)) (t u : Nat) : nR X (callN X d) hX7_set 44 [vR 30 0, vI x1, vI x2, vI x3, vX] [vI y0] (M, w, true, true, l, t, u) = nBnd (callN X d 122 [vR 30 0, vI x1, vI x2, vI x3] (M, w, true, true, l, t, u)) (fun v s2 => nR X (callN X d) hX7_set 53 [vR 30 0, vI x1, vI x2, vI x3, vI y0] (v.toList ++ []) s2) :=
  (nR_itc X _ _ c_X7_set 6 _ _ _ _).trans rfl
set_option maxRecDepth 100000 in
theorem bX7_set_53 (d : Nat) (x1 : Int32) (x2 : Int32) (x3 : Int32) (x4 : Int32) (M : MM) (w : Int64) (l : List (Nat × Nat × Nat)) (t u : Nat) : nR X (callN X d) hX7_set 53 [vR 30 0, vI x1, vI x2, vI x3, vI x4] [] (M, w, true, true, l, t, u) = some (some (vI x4), (M, w, true, true, l, t, u)) :=
  (nR_itc X _ _ c_X7_set 2 _ _ _ _).trans rfl
def c_X7_lays : List Nat := [25, 60]
set_option maxRecDepth 100000 in
theorem bX7_lays_0 (d : Nat) (a1 : Int32) (a2 : Int32) (a3 : Int32) (M : MM) (w : Int64) (l : List (Nat × Nat × Nat)) (t u : Nat) : nR X (callN X d) hX7_lays 0 [vR 30 0, vI a1, vI a2, vI a3] [] (M, w, true, true, l, t, u) = if a1 = 0 then some (none, ((nSt M 30 0 7 a3), w, true, true, l, t, u)) else if a1 = (1 : Int32) then nBnd (callN X d 120 [vI a2] (M, w, true, true, l, t, u)) (fun v s2 => nR X (callN X d) hX7_lays 25 [vR 30 0, vI a1, vI a2, vI a3] (v.toList ++ [vR 34 0]) s2) else if a1 = (2 : Int32) then cond (nIn ((2 : Int32) * a2) 10) (some (none, ((nSt M 36 0 (((2 : Int32) * a2)).toNatClampNeg a3), w, true, true, l, t, u))) none else if a1 = (3 : Int32) then nBnd (callN X d 120 [vI a2] (M, w, true, true, l, t, u)) (fun v s2 => nR X (callN X d) hX7_lays 60 [vR 30 0, vI a1, vI a2, vI a3] (v.toList ++ [vR 37 0]) s2) else if a1 = (4 : Int32) then cond (nIn a2 5) (some (none, ((nSt M 35 0 (a2).toNatClampNeg a3), w, true, true, l, t, u))) none else some (none, ((nSt M 30 0 4 a3), w, true, true, l, t, u)) :=
  (nR_itc X _ _ c_X7_lays 21 _ _ _ _).trans rfl
set_option maxRecDepth 100000 in
theorem bX7_lays_25 (d : Nat) (x1 : Int32) (x2 : Int32) (x3 : Int32) (y0 : Int32) (M : MM) (w : Int64) (l : List (Nat × Nat × Nat)) (t u : Nat) : nR X (callN X d) hX7_lays 25 [vR 30 0, vI x1, vI x2, vI x3] [vI y0, vR 34 0] (M, w, true, true, l, t, u) = cond (nIn y0 36) (some (none, ((nSt M 34 0 (y0).toNatClampNeg x3), w, true, true, l, t, u))) none :=
  (nR_itc X _ _ c_X7_lays 4 _ _ _ _).trans rfl
set_option maxRecDepth 100000 in
theorem bX7_lays_60 (d : Nat) (x1 : Int32) (x2 : Int32) (x3 : Int32) (y0 : Int32) (M : MM) (w : Int64) (l : List (Nat × Nat × Nat)) (t u : Nat) : nR X (callN X d) hX7_lays 60 [vR 30 0, vI x1, vI x2, vI x3] [vI y0, vR 37 0] (M, w, true, true, l, t, u) = cond (nIn y0 30) (some (none, ((nSt M 37 0 (y0).toNatClampNeg x3), w, true, true, l, t, u))) none :=
  (nR_itc X _ _ c_X7_lays 4 _ _ _ _).trans rfl
def c_X7_person : List Nat := [9, 21, 76]
set_option maxRecDepth 100000 in
theorem bX7_person_0 (d : Nat) (a1 : Int32) (a2 : Int32) (M : MM) (w : Int64) (l : List (Nat × Nat × Nat)) (t u : Nat) : nR X (callN X d) hX7_person 0 [vR 30 0, vI a1, vI a2, vX] [] (M, w, true, true, l, t, u) = nBnd (callN X d 111 [vL (a1).toInt64, vL (0 : Int64), vL (5 : Int64)] (M, w, true, true, l, t, u)) (fun v s2 => nR X (callN X d) hX7_person 9 [vR 30 0, vI a1, vI a2, vX] (v.toList ++ []) s2) :=
  (nR_itc X _ _ c_X7_person 5 _ _ _ _).trans rfl
set_option maxRecDepth 100000 in
theorem bX7_person_9 (d : Nat) (x1 : Int32) (x2 : Int32) (y0 : Int32) (M : MM) (w : Int64) (l : List (Nat × Nat × Nat)) (t u : Nat) : nR X (callN X d) hX7_person 9 [vR 30 0, vI x1, vI x2, vX] [vI y0] (M, w, true, true, l, t, u) = if y0 = 0 then some (some (vI (-2 : Int32)), (M, w, true, true, l, t, u)) else nBnd (callN X d 111 [vL (x2).toInt64, vL (0 : Int64), vL (9 : Int64)] (M, w, true, true, l, t, u)) (fun v s2 => nR X (callN X d) hX7_person 21 [vR 30 0, vI x1, vI x2, vX] (v.toList ++ []) s2) :=
  (nR_itc X _ _ c_X7_person 6 _ _ _ _).trans rfl
set_option maxRecDepth 100000 in
theorem bX7_person_21 (d : Nat) (x1 : Int32) (x2 : Int32) (y0 : Int32) (M : MM) (w : Int64) (l : List (Nat × Nat × Nat)) (t u : Nat) : nR X (callN X d) hX7_person 21 [vR 30 0, vI x1, vI x2, vX] [vI y0] (M, w, true, true, l, t, u) = if y0 = 0 then some (some (vI (-2 : Int32)), (M, w, true, true, l, t, u)) else if (M 30 0 12) = (5 : Int32) then some (some (vI (-4 : Int32)), (M, w, true, true, l, t, u)) else cond (nIn (M 30 0 12) 5) (cond (nIn ((2 : Int32) * ((nSt M 35 0 ((M 30 0 12)).toNatClampNeg x1) 30 0 12)) 10) (cond (nIn (((2 : Int32) * ((nSt (nSt M 35 0 ((M 30 0 12)).toNatClampNeg x1) 36 0 (((2 : Int32) * ((nSt M 35 0 ((M 30 0 12)).toNatClampNeg x1) 30 0 12))).toNatClampNeg x2) 30 0 12)) + (1 : Int32)) 10) (nR X (callN X d) hX7_person 76 [vR 30 0, vI x1, vI x2, vI (0 : Int32)] [] ((nSt (nSt (nSt M 35 0 ((M 30 0 12)).toNatClampNeg x1) 36 0 (((2 : Int32) * ((nSt M 35 0 ((M 30 0 12)).toNatClampNeg x1) 30 0 12))).toNatClampNeg x2) 36 0 ((((2 : Int32) * ((nSt (nSt M 35 0 ((M 30 0 12)).toNatClampNeg x1) 36 0 (((2 : Int32) * ((nSt M 35 0 ((M 30 0 12)).toNatClampNeg x1) 30 0 12))).toNatClampNeg x2) 30 0 12)) + (1 : Int32))).toNatClampNeg (0 : Int32)), w, true, true, l, t, u)) none) none) none :=
  (nR_itc X _ _ c_X7_person 31 _ _ _ _).trans rfl
set_option maxRecDepth 100000 in
theorem bX7_person_76 (d : Nat) (x1 : Int32) (x2 : Int32) (x3 : Int32) (M : MM) (w : Int64) (l : List (Nat × Nat × Nat)) (t u : Nat) : nR X (callN X d) hX7_person 76 [vR 30 0, vI x1, vI x2, vI x3] [] (M, w, true, true, l, t, u) = if (6 : Int32) ≤ x3 then some (some (vI (((nSt M 30 0 12 ((M 30 0 12) + (1 : Int32))) 30 0 12) - (1 : Int32))), ((nSt M 30 0 12 ((M 30 0 12) + (1 : Int32))), w, true, true, l, t, u)) else cond (nIn (((6 : Int32) * (M 30 0 12)) + x3) 30) (nR X (callN X d) hX7_person 76 [vR 30 0, vI x1, vI x2, vI (x3 + (1 : Int32))] [] ((nSt M 37 0 ((((6 : Int32) * (M 30 0 12)) + x3)).toNatClampNeg (0 : Int32)), w, true, true, l, t, u)) none :=
  (nR_itc X _ _ c_X7_person 15 _ _ _ _).trans rfl
def c_X7_told : List Nat := [9, 18, 53, 81, 126, 134]
set_option maxRecDepth 100000 in
theorem bX7_told_0 (d : Nat) (a1 : Int32) (a2 : Int32) (M : MM) (w : Int64) (l : List (Nat × Nat × Nat)) (t u : Nat) : nR X (callN X d) hX7_told 0 [vR 30 0, vI a1, vI a2] [] (M, w, true, true, l, t, u) = nBnd (callN X d 111 [vL (a2).toInt64, vL (0 : Int64), vL (7 : Int64)] (M, w, true, true, l, t, u)) (fun v s2 => nR X (callN X d) hX7_told 9 [vR 30 0, vI a1, vI a2] (v.toList ++ []) s2) :=
  (nR_itc X _ _ c_X7_told 5 _ _ _ _).trans rfl
set_option maxRecDepth 100000 in
theorem bX7_told_9 (d : Nat) (x1 : Int32) (x2 : Int32) (y0 : Int32) (M : MM) (w : Int64) (l : List (Nat × Nat × Nat)) (t u : Nat) : nR X (callN X d) hX7_told 9 [vR 30 0, vI x1, vI x2] [vI y0] (M, w, true, true, l, t, u) = if y0 = 0 then some (some (vI (-2 : Int32)), (M, w, true, true, l, t, u)) else nBnd (callN X d 118 [vR 30 0, vI x2, vI x1] (M, w, true, true, l, t, u)) (fun v s2 => nR X (callN X d) hX7_told 18 [vR 30 0, vI x1, vI x2] (v.toList ++ []) s2) :=
  (nR_itc X _ _ c_X7_told 5 _ _ _ _).trans rfl
set_option maxRecDepth 100000 in
theorem bX7_told_18 (d : Nat) (x1 : Int32) (x2 : Int32) (y0 : Int32) (M : MM) (w : Int64) (l : List (Nat × Nat × Nat)) (t u : Nat) : nR X (callN X d) hX7_told 18 [vR 30 0, vI x1, vI x2] [vI y0] (M, w, true, true, l, t, u) = if y0 = 0 then some (some (vI (-2 : Int32)), (M, w, true, true, l, t, u)) else if (4 : Int32) ≤ x2 then if x2 = (4 : Int32) then cond (nIn x1 5) (nR X (callN X d) hX7_told 134 [vR 30 0, vI x1, vI x2] [vI (M 35 0 (x1).toNatClampNeg)] (M, w, true, true, l, t, u)) none else if x2 = (5 : Int32) then cond (nIn (((2 : Int32) * x1) + (1 : Int32)) 10) (nR X (callN X d) hX7_told 134 [vR 30 0, vI x1, vI x2] [vI (M 36 0 ((((2 : Int32) * x1) + (1 : Int32))).toNatClampNeg)] (M, w, true, true, l, t, u)) none else if x2 = (6 : Int32) then nBnd (callN X d 125 [vR 30 0, vI x1] (M, w, true, true, l, t, u)) (fun v s2 => nR X (callN X d) hX7_told 126 [vR 30 0, vI x1, vI x2] (v.toList ++ []) s2) else nBnd (callN X d 126 [vR 30 0, vI x1] (M, w, true, true, l, t, u)) (fun v s2 => nR X (callN X d) hX7_told 134 [vR 30 0, vI x1, vI x2] (v.toList ++ []) s2) else if x2 = 0 then some (some (vI (M 30 0 7)), (M, w, true, true, l, t, u)) else if x2 = (1 : Int32) then nBnd (callN X d 120 [vI x1] (M, w, true, true, l, t, u)) (fun v s2 => nR X (callN X d) hX7_told 53 [vR 30 0, vI x1, vI x2] (v.toList ++ [vR 34 0]) s2) else if x2 = (2 : Int32) then cond (nIn ((2 : Int32) * x1) 10) (some (some (vI (M 36 0 (((2 : Int32) * x1)).toNatClampNeg)), (M, w, true, true, l, t, u))) none else nBnd (callN X d 120 [vI x1] (M, w, true, true, l, t, u)) (fun v s2 => nR X (callN X d) hX7_told 81 [vR 30 0, vI x1, vI x2] (v.toList ++ [vR 37 0]) s2) :=
  (nR_itc X _ _ c_X7_told 20 _ _ _ _).trans rfl
set_option maxRecDepth 100000 in
theorem bX7_told_53 (d : Nat) (x1 : Int32) (x2 : Int32) (y0 : Int32) (M : MM) (w : Int64) (l : List (Nat × Nat × Nat)) (t u : Nat) : nR X (callN X d) hX7_told 53 [vR 30 0, vI x1, vI x2] [vI y0, vR 34 0] (M, w, true, true, l, t, u) = cond (nIn y0 36) (some (some (vI (M 34 0 (y0).toNatClampNeg)), (M, w, true, true, l, t, u))) none :=
  (nR_itc X _ _ c_X7_told 3 _ _ _ _).trans rfl
set_option maxRecDepth 100000 in
theorem bX7_told_81 (d : Nat) (x1 : Int32) (x2 : Int32) (y0 : Int32) (M : MM) (w : Int64) (l : List (Nat × Nat × Nat)) (t u : Nat) : nR X (callN X d) hX7_told 81 [vR 30 0, vI x1, vI x2] [vI y0, vR 37 0] (M, w, true, true, l, t, u) = cond (nIn y0 30) (some (some (vI (M 37 0 (y0).toNatClampNeg)), (M, w, true, true, l, t, u))) none :=
  (nR_itc X _ _ c_X7_told 2 _ _ _ _).trans rfl
set_option maxRecDepth 100000 in
theorem bX7_told_126 (d : Nat) (x1 : Int32) (x2 : Int32) (y0 : Int32) (M : MM) (w : Int64) (l : List (Nat × Nat × Nat)) (t u : Nat) : nR X (callN X d) hX7_told 126 [vR 30 0, vI x1, vI x2] [vI y0] (M, w, true, true, l, t, u) = nR X (callN X d) hX7_told 134 [vR 30 0, vI x1, vI x2] [vI y0] (M, w, true, true, l, t, u) :=
  (nR_itc X _ _ c_X7_told 1 _ _ _ _).trans rfl
set_option maxRecDepth 100000 in
theorem bX7_told_134 (d : Nat) (x1 : Int32) (x2 : Int32) (y0 : Int32) (M : MM) (w : Int64) (l : List (Nat × Nat × Nat)) (t u : Nat) : nR X (callN X d) hX7_told 134 [vR 30 0, vI x1, vI x2] [vI y0] (M, w, true, true, l, t, u) = some (some (vI y0), (M, w, true, true, l, t, u)) :=
  (nR_itc X _ _ c_X7_told 1 _ _ _ _).trans rfl
def c_X7_shoeOf : List Nat := [4]
set_option maxRecDepth 100000 in
theorem bX7_shoeOf_0 (d : Nat) (a1 : Int32) (M : MM) (w : Int64) (l : List (Nat × Nat × Nat)) (t u : Nat) : nR X (callN X d) hX7_shoeOf 0 [vR 30 0, vI a1, vX, vX] [] (M, w, true, true, l, t, u) = nR X (callN X d) hX7_shoeOf 4 [vR 30 0, vI a1, vI (0 : Int32), vI (0 : Int32)] [] (M, w, true, true, l, t, u) :=
  (nR_itc X _ _ c_X7_shoeOf 4 _ _ _ _).trans rfl
set_option maxRecDepth 100000 in
theorem bX7_shoeOf_4 (d : Nat) (x1 : Int32) (x2 : Int32) (x3 : Int32) (M : MM) (w : Int64) (l : List (Nat × Nat × Nat)) (t u : Nat) : nR X (callN X d) hX7_shoeOf 4 [vR 30 0, vI x1, vI x2, vI x3] [] (M, w, true, true, l, t, u) = if (6 : Int32) ≤ x3 then some (some (vI x2), (M, w, true, true, l, t, u)) else cond (nIn (((6 : Int32) * x1) + x3) 30) (nR X (callN X d) hX7_shoeOf 4 [vR 30 0, vI x1, vI (x2 + (M 37 0 ((((6 : Int32) * x1) + x3)).toNatClampNeg)), vI (x3 + (1 : Int32))] [] (M, w, true, true, l, t, u)) none :=
  (nR_itc X _ _ c_X7_shoeOf 16 _ _ _ _).trans rfl
def c_X7_coastOf : List Nat := [4]
set_option maxRecDepth 100000 in
theorem bX7_coastOf_0 (d : Nat) (a1 : Int32) (M : MM) (w : Int64) (l : List (Nat × Nat × Nat)) (t u : Nat) : nR X (callN X d) hX7_coastOf 0 [vR 30 0, vI a1, vX, vX] [] (M, w, true, true, l, t, u) = nR X (callN X d) hX7_coastOf 4 [vR 30 0, vI a1, vI (0 : Int32), vI (0 : Int32)] [] (M, w, true, true, l, t, u) :=
  (nR_itc X _ _ c_X7_coastOf 4 _ _ _ _).trans rfl
set_option maxRecDepth 100000 in
theorem bX7_coastOf_4 (d : Nat) (x1 : Int32) (x2 : Int32) (x3 : Int32) (M : MM) (w : Int64) (l : List (Nat × Nat × Nat)) (t u : Nat) : nR X (callN X d) hX7_coastOf 4 [vR 30 0, vI x1, vI x2, vI x3] [] (M, w, true, true, l, t, u) = if (6 : Int32) ≤ x3 then some (some (vI x2), (M, w, true, true, l, t, u)) else cond (nIn (((6 : Int32) * x1) + x3) 36) (nR X (callN X d) hX7_coastOf 4 [vR 30 0, vI x1, vI (x2 + (M 34 0 ((((6 : Int32) * x1) + x3)).toNatClampNeg)), vI (x3 + (1 : Int32))] [] (M, w, true, true, l, t, u)) none :=
  (nR_itc X _ _ c_X7_coastOf 16 _ _ _ _).trans rfl
def c_X7_feed : List Nat := [9]
set_option maxRecDepth 100000 in
theorem bX7_feed_0 (d : Nat) (a1 : Int32) (M : MM) (w : Int64) (l : List (Nat × Nat × Nat)) (t u : Nat) : nR X (callN X d) hX7_feed 0 [vR 30 0, vI a1] [] (M, w, true, true, l, t, u) = nBnd (callN X d 111 [vL (a1).toInt64, vL (0 : Int64), vL (255 : Int64)] (M, w, true, true, l, t, u)) (fun v s2 => nR X (callN X d) hX7_feed 9 [vR 30 0, vI a1] (v.toList ++ []) s2) :=
  (nR_itc X _ _ c_X7_feed 5 _ _ _ _).trans rfl
set_option maxRecDepth 100000 in
theorem bX7_feed_9 (d : Nat) (x1 : Int32) (y0 : Int32) (M : MM) (w : Int64) (l : List (Nat × Nat × Nat)) (t u : Nat) : nR X (callN X d) hX7_feed 9 [vR 30 0, vI x1] [vI y0] (M, w, true, true, l, t, u) = if y0 = 0 then some (some (vI (-2 : Int32)), (M, w, true, true, l, t, u)) else if (M 30 0 6) = (160 : Int32) then some (some (vI (-4 : Int32)), (M, w, true, true, l, t, u)) else cond (nIn (M 30 0 6) 160) (some (some (vI ((nSt (nSt M 33 0 ((M 30 0 6)).toNatClampNeg x1) 30 0 6 (((nSt M 33 0 ((M 30 0 6)).toNatClampNeg x1) 30 0 6) + (1 : Int32))) 30 0 6)), ((nSt (nSt M 33 0 ((M 30 0 6)).toNatClampNeg x1) 30 0 6 (((nSt M 33 0 ((M 30 0 6)).toNatClampNeg x1) 30 0 6) + (1 : Int32))), w, true, true, l, t, u))) none :=
  (nR_itc X _ _ c_X7_feed 20 _ _ _ _).trans rfl
def c_X7_byteAt : List Nat := []
set_option maxRecDepth 100000 in
theorem bX7_byteAt_0 (d : Nat) (a1 : Int32) (M : MM) (w : Int64) (l : List (Nat × Nat × Nat)) (t u : Nat) : nR X (callN X d) hX7_byteAt 0 [vR 30 0, vI a1] [] (M, w, true, true, l, t, u) = if (M 30 0 20) ≤ a1 then some (some (vI (-1 : Int32)), (M, w, true, true, l, t, u)) else cond (nIn ((M 30 0 19) + a1) 960) (some (some (vI (M 31 0 (((M 30 0 19) + a1)).toNatClampNeg)), (M, w, true, true, l, t, u))) none :=
  (nR_itc X _ _ c_X7_byteAt 13 _ _ _ _).trans rfl
def c_X7_next : List Nat := [0, 8, 21, 55, 92, 100, 108, 118, 145, 160, 168, 178, 203]
set_option maxRecDepth 100000 in
theorem bX7_next_0 (d : Nat) (M : MM) (w : Int64) (l : List (Nat × Nat × Nat)) (t u : Nat) : nR X (callN X d) hX7_next 0 [vR 30 0, vX, vX] [] (M, w, true, true, l, t, u) = nBnd (callN X d 128 [vR 30 0, vI (M 30 0 21)] (M, w, true, true, l, t, u)) (fun v s2 => nR X (callN X d) hX7_next 8 [vR 30 0, vX, vX] (v.toList ++ []) s2) :=
  (nR_itc X _ _ c_X7_next 4 _ _ _ _).trans rfl
set_option maxRecDepth 100000 in
theorem bX7_next_8 (d : Nat) (y0 : Int32) (M : MM) (w : Int64) (l : List (Nat × Nat × Nat)) (t u : Nat) : nR X (callN X d) hX7_next 8 [vR 30 0, vX, vX] [vI y0] (M, w, true, true, l, t, u) = if y0 = (32 : Int32) then nR X (callN X d) hX7_next 0 [vR 30 0, vX, vX] [] ((nSt M 30 0 21 ((M 30 0 21) + (1 : Int32))), w, true, true, l, t, u) else nBnd (callN X d 128 [vR 30 0, vI (M 30 0 21)] (M, w, true, true, l, t, u)) (fun v s2 => nR X (callN X d) hX7_next 21 [vR 30 0, vX, vX] (v.toList ++ []) s2) :=
  (nR_itc X _ _ c_X7_next 9 _ _ _ _).trans rfl
set_option maxRecDepth 100000 in
theorem bX7_next_21 (d : Nat) (y0 : Int32) (M : MM) (w : Int64) (l : List (Nat × Nat × Nat)) (t u : Nat) : nR X (callN X d) hX7_next 21 [vR 30 0, vX, vX] [vI y0] (M, w, true, true, l, t, u) = if y0 = (10 : Int32) then nR X (callN X d) hX7_next 0 [vR 30 0, vX, vX] [] ((nSt M 30 0 21 ((M 30 0 21) + (1 : Int32))), w, true, true, l, t, u) else nBnd (callN X d 128 [vR 30 0, vI ((nSt M 30 0 23 (M 30 0 21)) 30 0 21)] ((nSt M 30 0 23 (M 30 0 21)), w, true, true, l, t, u)) (fun v s2 => nR X (callN X d) hX7_next 55 [vR 30 0, vX, vX] (v.toList ++ []) s2) :=
  (nR_itc X _ _ c_X7_next 10 _ _ _ _).trans rfl
set_option maxRecDepth 100000 in
theorem bX7_next_55 (d : Nat) (y0 : Int32) (M : MM) (w : Int64) (l : List (Nat × Nat × Nat)) (t u : Nat) : nR X (callN X d) hX7_next 55 [vR 30 0, vX, vX] [vI y0] (M, w, true, true, l, t, u) = if 0 ≤ y0 then nBnd (callN X d 111 [vL (y0).toInt64, vL (97 : Int64), vL (122 : Int64)] ((nSt M 30 0 22 (4 : Int32)), w, true, true, l, t, u)) (fun v s2 => nR X (callN X d) hX7_next 92 [vR 30 0, vI y0, vX] (v.toList ++ []) s2) else some (none, ((nSt (nSt (nSt M 30 0 22 (4 : Int32)) 30 0 22 (0 : Int32)) 30 0 23 ((nSt (nSt M 30 0 22 (4 : Int32)) 30 0 22 (0 : Int32)) 30 0 20)), w, true, true, l, t, u)) :=
  (nR_itc X _ _ c_X7_next 15 _ _ _ _).trans rfl
set_option maxRecDepth 100000 in
theorem bX7_next_92 (d : Nat) (x1 : Int32) (y0 : Int32) (M : MM) (w : Int64) (l : List (Nat × Nat × Nat)) (t u : Nat) : nR X (callN X d) hX7_next 92 [vR 30 0, vI x1, vX] [vI y0] (M, w, true, true, l, t, u) = if y0 = 0 then nBnd (callN X d 111 [vL (x1).toInt64, vL (48 : Int64), vL (57 : Int64)] (M, w, true, true, l, t, u)) (fun v s2 => nR X (callN X d) hX7_next 145 [vR 30 0, vI x1, vX] (v.toList ++ []) s2) else nR X (callN X d) hX7_next 100 [vR 30 0, vI x1, vX] [] ((nSt M 30 0 22 (1 : Int32)), w, true, true, l, t, u) :=
  (nR_itc X _ _ c_X7_next 6 _ _ _ _).trans rfl
set_option maxRecDepth 100000 in
theorem bX7_next_100 (d : Nat) (x1 : Int32) (M : MM) (w : Int64) (l : List (Nat × Nat × Nat)) (t u : Nat) : nR X (callN X d) hX7_next 100 [vR 30 0, vI x1, vX] [] (M, w, true, true, l, t, u) = nBnd (callN X d 128 [vR 30 0, vI (M 30 0 21)] (M, w, true, true, l, t, u)) (fun v s2 => nR X (callN X d) hX7_next 108 [vR 30 0, vI x1, vX] (v.toList ++ []) s2) :=
  (nR_itc X _ _ c_X7_next 4 _ _ _ _).trans rfl
set_option maxRecDepth 100000 in
theorem bX7_next_108 (d : Nat) (x1 : Int32) (y0 : Int32) (M : MM) (w : Int64) (l : List (Nat × Nat × Nat)) (t u : Nat) : nR X (callN X d) hX7_next 108 [vR 30 0, vI x1, vX] [vI y0] (M, w, true, true, l, t, u) = nBnd (callN X d 111 [vL (y0).toInt64, vL (97 : Int64), vL (122 : Int64)] (M, w, true, true, l, t, u)) (fun v s2 => nR X (callN X d) hX7_next 118 [vR 30 0, vI x1, vX] (v.toList ++ []) s2) :=
  (nR_itc X _ _ c_X7_next 4 _ _ _ _).trans rfl
set_option maxRecDepth 100000 in
theorem bX7_next_118 (d : Nat) (x1 : Int32) (y0 : Int32) (M : MM) (w : Int64) (l : List (Nat × Nat × Nat)) (t u : Nat) : nR X (callN X d) hX7_next 118 [vR 30 0, vI x1, vX] [vI y0] (M, w, true, true, l, t, u) = if y0 = 0 then some (none, (M, w, true, true, l, t, u)) else nR X (callN X d) hX7_next 100 [vR 30 0, vI x1, vX] [] ((nSt M 30 0 21 ((M 30 0 21) + (1 : Int32))), w, true, true, l, t, u) :=
  (nR_itc X _ _ c_X7_next 8 _ _ _ _).trans rfl
set_option maxRecDepth 100000 in
theorem bX7_next_145 (d : Nat) (x1 : Int32) (y0 : Int32) (M : MM) (w : Int64) (l : List (Nat × Nat × Nat)) (t u : Nat) : nR X (callN X d) hX7_next 145 [vR 30 0, vI x1, vX] [vI y0] (M, w, true, true, l, t, u) = if y0 = 0 then if x1 = (40 : Int32) then some (none, ((nSt (nSt M 30 0 22 (3 : Int32)) 30 0 21 (((nSt M 30 0 22 (3 : Int32)) 30 0 21) + (1 : Int32))), (x1).toInt64, true, true, l, t, u)) else if x1 = (41 : Int32) then some (none, ((nSt (nSt M 30 0 22 (3 : Int32)) 30 0 21 (((nSt M 30 0 22 (3 : Int32)) 30 0 21) + (1 : Int32))), (x1).toInt64, true, true, l, t, u)) else if x1 = (59 : Int32) then some (none, ((nSt (nSt M 30 0 22 (3 : Int32)) 30 0 21 (((nSt M 30 0 22 (3 : Int32)) 30 0 21) + (1 : Int32))), (x1).toInt64, true, true, l, t, u)) else if x1 = (43 : Int32) then some (none, ((nSt (nSt M 30 0 22 (3 : Int32)) 30 0 21 (((nSt M 30 0 22 (3 : Int32)) 30 0 21) + (1 : Int32))), (x1).toInt64, true, true, l, t, u)) else if x1 = (45 : Int32) then some (none, ((nSt (nSt M 30 0 22 (3 : Int32)) 30 0 21 (((nSt M 30 0 22 (3 : Int32)) 30 0 21) + (1 : Int32))), (x1).toInt64, true, true, l, t, u)) else if x1 = (42 : Int32) then some (none, ((nSt (nSt M 30 0 22 (3 : Int32)) 30 0 21 (((nSt M 30 0 22 (3 : Int32)) 30 0 21) + (1 : Int32))), (x1).toInt64, true, true, l, t, u)) else if x1 = (60 : Int32) then some (none, ((nSt (nSt M 30 0 22 (3 : Int32)) 30 0 21 (((nSt M 30 0 22 (3 : Int32)) 30 0 21) + (1 : Int32))), (x1).toInt64, true, true, l, t, u)) else if x1 = (61 : Int32) then some (none, ((nSt (nSt M 30 0 22 (3 : Int32)) 30 0 21 (((nSt M 30 0 22 (3 : Int32)) 30 0 21) + (1 : Int32))), (x1).toInt64, true, true, l, t, u)) else some (none, (M, w, true, true, l, t, u)) else nR X (callN X d) hX7_next 160 [vR 30 0, vI x1, vI (0 : Int32)] [] ((nSt M 30 0 22 (2 : Int32)), (0 : Int64), true, true, l, t, u) :=
  (nR_itc X _ _ c_X7_next 39 _ _ _ _).trans rfl
set_option maxRecDepth 100000 in
theorem bX7_next_160 (d : Nat) (x1 : Int32) (x2 : Int32) (M : MM) (w : Int64) (l : List (Nat × Nat × Nat)) (t u : Nat) : nR X (callN X d) hX7_next 160 [vR 30 0, vI x1, vI x2] [] (M, w, true, true, l, t, u) = nBnd (callN X d 128 [vR 30 0, vI (M 30 0 21)] (M, w, true, true, l, t, u)) (fun v s2 => nR X (callN X d) hX7_next 168 [vR 30 0, vI x1, vI x2] (v.toList ++ []) s2) :=
  (nR_itc X _ _ c_X7_next 4 _ _ _ _).trans rfl
set_option maxRecDepth 100000 in
theorem bX7_next_168 (d : Nat) (x1 : Int32) (x2 : Int32) (y0 : Int32) (M : MM) (w : Int64) (l : List (Nat × Nat × Nat)) (t u : Nat) : nR X (callN X d) hX7_next 168 [vR 30 0, vI x1, vI x2] [vI y0] (M, w, true, true, l, t, u) = nBnd (callN X d 111 [vL (y0).toInt64, vL (48 : Int64), vL (57 : Int64)] (M, w, true, true, l, t, u)) (fun v s2 => nR X (callN X d) hX7_next 178 [vR 30 0, vI x1, vI x2] (v.toList ++ []) s2) :=
  (nR_itc X _ _ c_X7_next 4 _ _ _ _).trans rfl
set_option maxRecDepth 100000 in
theorem bX7_next_178 (d : Nat) (x1 : Int32) (x2 : Int32) (y0 : Int32) (M : MM) (w : Int64) (l : List (Nat × Nat × Nat)) (t u : Nat) : nR X (callN X d) hX7_next 178 [vR 30 0, vI x1, vI x2] [vI y0] (M, w, true, true, l, t, u) = if y0 = 0 then if x2 ≤ (4 : Int32) then some (none, ((nSt M 30 0 22 (2 : Int32)), w, true, true, l, t, u)) else some (none, ((nSt M 30 0 22 (4 : Int32)), w, true, true, l, t, u)) else if (4 : Int32) ≤ x2 then nR X (callN X d) hX7_next 160 [vR 30 0, vI x1, vI (x2 + (1 : Int32))] [] ((nSt M 30 0 21 ((M 30 0 21) + (1 : Int32))), w, true, true, l, t, u) else nBnd (callN X d 128 [vR 30 0, vI (M 30 0 21)] (M, w, true, true, l, t, u)) (fun v s2 => nR X (callN X d) hX7_next 203 [vR 30 0, vI x1, vI x2] (v.toList ++ [vL ((10 : Int64) * w), vR 30 0]) s2) :=
  (nR_itc X _ _ c_X7_next 16 _ _ _ _).trans rfl
set_option maxRecDepth 100000 in
theorem bX7_next_203 (d : Nat) (x1 : Int32) (x2 : Int32) (y0 : Int32) (y1 : Int64) (M : MM) (w : Int64) (l : List (Nat × Nat × Nat)) (t u : Nat) : nR X (callN X d) hX7_next 203 [vR 30 0, vI x1, vI x2] [vI y0, vL y1, vR 30 0] (M, w, true, true, l, t, u) = nR X (callN X d) hX7_next 160 [vR 30 0, vI x1, vI (x2 + (1 : Int32))] [] ((nSt M 30 0 21 ((M 30 0 21) + (1 : Int32))), ((y1 + (y0).toInt64) - (48 : Int64)), true, true, l, t, u) :=
  (nR_itc X _ _ c_X7_next 14 _ _ _ _).trans rfl
def c_X7_fail : List Nat := []
set_option maxRecDepth 100000 in
theorem bX7_fail_0 (d : Nat) (M : MM) (w : Int64) (l : List (Nat × Nat × Nat)) (t u : Nat) : nR X (callN X d) hX7_fail 0 [vR 30 0] [] (M, w, true, true, l, t, u) = if (M 30 0 26) = 0 then some (none, ((nSt (nSt M 30 0 26 (1 : Int32)) 30 0 27 ((nSt M 30 0 26 (1 : Int32)) 30 0 23)), w, true, true, l, t, u)) else some (none, (M, w, true, true, l, t, u)) :=
  (nR_itc X _ _ c_X7_fail 11 _ _ _ _).trans rfl
def c_X7_isLetter : List Nat := [23]
set_option maxRecDepth 100000 in
theorem bX7_isLetter_0 (d : Nat) (a1 : Int32) (a2 : Int32) (M : MM) (w : Int64) (l : List (Nat × Nat × Nat)) (t u : Nat) : nR X (callN X d) hX7_isLetter 0 [vR 30 0, vI a1, vI a2] [] (M, w, true, true, l, t, u) = if (M 30 0 21) ≤ ((M 30 0 23) + a1) then if a2 = 0 then some (some (vI (1 : Int32)), (M, w, true, true, l, t, u)) else some (some (vI (0 : Int32)), (M, w, true, true, l, t, u)) else nBnd (callN X d 128 [vR 30 0, vI ((M 30 0 23) + a1)] (M, w, true, true, l, t, u)) (fun v s2 => nR X (callN X d) hX7_isLetter 23 [vR 30 0, vI a1, vI a2] (v.toList ++ []) s2) :=
  (nR_itc X _ _ c_X7_isLetter 13 _ _ _ _).trans rfl
set_option maxRecDepth 100000 in
theorem bX7_isLetter_23 (d : Nat) (x1 : Int32) (x2 : Int32) (y0 : Int32) (M : MM) (w : Int64) (l : List (Nat × Nat × Nat)) (t u : Nat) : nR X (callN X d) hX7_isLetter 23 [vR 30 0, vI x1, vI x2] [vI y0] (M, w, true, true, l, t, u) = if y0 = x2 then some (some (vI (1 : Int32)), (M, w, true, true, l, t, u)) else some (some (vI (0 : Int32)), (M, w, true, true, l, t, u)) :=
  (nR_itc X _ _ c_X7_isLetter 5 _ _ _ _).trans rfl
def c_X7_isWord : List Nat := [35, 44, 53, 63, 73, 83, 94, 105]
set_option maxRecDepth 100000 in
theorem bX7_isWord_0 (d : Nat) (a1 : Int32) (a2 : Int32) (a3 : Int32) (a4 : Int32) (a5 : Int32) (a6 : Int32) (a7 : Int32) (a8 : Int32) (M : MM) (w : Int64) (l : List (Nat × Nat × Nat)) (t u : Nat) : nR X (callN X d) hX7_isWord 0 [vR 30 0, vI a1, vI a2, vI a3, vI a4, vI a5, vI a6, vI a7, vI a8] [] (M, w, true, true, l, t, u) = if (M 30 0 26) = 0 then if (M 30 0 22) = (1 : Int32) then if ((M 30 0 23) + (8 : Int32)) < (M 30 0 21) then some (some (vI (0 : Int32)), (M, w, true, true, l, t, u)) else nBnd (callN X d 131 [vR 30 0, vI (0 : Int32), vI a1] (M, w, true, true, l, t, u)) (fun v s2 => nR X (callN X d) hX7_isWord 35 [vR 30 0, vI a1, vI a2, vI a3, vI a4, vI a5, vI a6, vI a7, vI a8] (v.toList ++ []) s2) else some (some (vI (0 : Int32)), (M, w, true, true, l, t, u)) else some (some (vI (0 : Int32)), (M, w, true, true, l, t, u)) :=
  (nR_itc X _ _ c_X7_isWord 18 _ _ _ _).trans rfl
set_option maxRecDepth 100000 in
theorem bX7_isWord_35 (d : Nat) (x1 : Int32) (x2 : Int32) (x3 : Int32) (x4 : Int32) (x5 : Int32) (x6 : Int32) (x7 : Int32) (x8 : Int32) (y0 : Int32) (M : MM) (w : Int64) (l : List (Nat × Nat × Nat)) (t u : Nat) : nR X (callN X d) hX7_isWord 35 [vR 30 0, vI x1, vI x2, vI x3, vI x4, vI x5, vI x6, vI x7, vI x8] [vI y0] (M, w, true, true, l, t, u) = if y0 = 0 then some (some (vI (0 : Int32)), (M, w, true, true, l, t, u)) else nBnd (callN X d 131 [vR 30 0, vI (1 : Int32), vI x2] (M, w, true, true, l, t, u)) (fun v s2 => nR X (callN X d) hX7_isWord 44 [vR 30 0, vI x1, vI x2, vI x3, vI x4, vI x5, vI x6, vI x7, vI x8] (v.toList ++ []) s2) :=
  (nR_itc X _ _ c_X7_isWord 5 _ _ _ _).trans rfl
set_option maxRecDepth 100000 in
theorem bX7_isWord_44 (d : Nat) (x1 : Int32) (x2 : Int32) (x3 : Int32) (x4 : Int32) (x5 : Int32) (x6 : Int32) (x7 : Int32) (x8 : Int32) (y0 : Int32) (M : MM) (w : Int64) (l : List (Nat × Nat × Nat)) (t u : Nat) : nR X (callN X d) hX7_isWord 44 [vR 30 0, vI x1, vI x2, vI x3, vI x4, vI x5, vI x6, vI x7, vI x8] [vI y0] (M, w, true, true, l, t, u) = if y0 = 0 then some (some (vI (0 : Int32)), (M, w, true, true, l, t, u)) else nBnd (callN X d 131 [vR 30 0, vI (2 : Int32), vI x3] (M, w, true, true, l, t, u)) (fun v s2 => nR X (callN X d) hX7_isWord 53 [vR 30 0, vI x1, vI x2, vI x3, vI x4, vI x5, vI x6, vI x7, vI x8] (v.toList ++ []) s2) :=
  (nR_itc X _ _ c_X7_isWord 5 _ _ _ _).trans rfl
set_option maxRecDepth 100000 in
theorem bX7_isWord_53 (d : Nat) (x1 : Int32) (x2 : Int32) (x3 : Int32) (x4 : Int32) (x5 : Int32) (x6 : Int32) (x7 : Int32) (x8 : Int32) (y0 : Int32) (M : MM) (w : Int64) (l : List (Nat × Nat × Nat)) (t u : Nat) : nR X (callN X d) hX7_isWord 53 [vR 30 0, vI x1, vI x2, vI x3, vI x4, vI x5, vI x6, vI x7, vI x8] [vI y0] (M, w, true, true, l, t, u) = if y0 = 0 then some (some (vI (0 : Int32)), (M, w, true, true, l, t, u)) else nBnd (callN X d 131 [vR 30 0, vI (3 : Int32), vI x4] (M, w, true, true, l, t, u)) (fun v s2 => nR X (callN X d) hX7_isWord 63 [vR 30 0, vI x1, vI x2, vI x3, vI x4, vI x5, vI x6, vI x7, vI x8] (v.toList ++ []) s2) :=
  (nR_itc X _ _ c_X7_isWord 5 _ _ _ _).trans rfl
set_option maxRecDepth 100000 in
theorem bX7_isWord_63 (d : Nat) (x1 : Int32) (x2 : Int32) (x3 : Int32) (x4 : Int32) (x5 : Int32) (x6 : Int32) (x7 : Int32) (x8 : Int32) (y0 : Int32) (M : MM) (w : Int64) (l : List (Nat × Nat × Nat)) (t u : Nat) : nR X (callN X d) hX7_isWord 63 [vR 30 0, vI x1, vI x2, vI x3, vI x4, vI x5, vI x6, vI x7, vI x8] [vI y0] (M, w, true, true, l, t, u) = if y0 = 0 then some (some (vI (0 : Int32)), (M, w, true, true, l, t, u)) else nBnd (callN X d 131 [vR 30 0, vI (4 : Int32), vI x5] (M, w, true, true, l, t, u)) (fun v s2 => nR X (callN X d) hX7_isWord 73 [vR 30 0, vI x1, vI x2, vI x3, vI x4, vI x5, vI x6, vI x7, vI x8] (v.toList ++ []) s2) :=
  (nR_itc X _ _ c_X7_isWord 5 _ _ _ _).trans rfl
set_option maxRecDepth 100000 in
theorem bX7_isWord_73 (d : Nat) (x1 : Int32) (x2 : Int32) (x3 : Int32) (x4 : Int32) (x5 : Int32) (x6 : Int32) (x7 : Int32) (x8 : Int32) (y0 : Int32) (M : MM) (w : Int64) (l : List (Nat × Nat × Nat)) (t u : Nat) : nR X (callN X d) hX7_isWord 73 [vR 30 0, vI x1, vI x2, vI x3, vI x4, vI x5, vI x6, vI x7, vI x8] [vI y0] (M, w, true, true, l, t, u) = if y0 = 0 then some (some (vI (0 : Int32)), (M, w, true, true, l, t, u)) else nBnd (callN X d 131 [vR 30 0, vI (5 : Int32), vI x6] (M, w, true, true, l, t, u)) (fun v s2 => nR X (callN X d) hX7_isWord 83 [vR 30 0, vI x1, vI x2, vI x3, vI x4, vI x5, vI x6, vI x7, vI x8] (v.toList ++ []) s2) :=
  (nR_itc X _ _ c_X7_isWord 5 _ _ _ _).trans rfl
set_option maxRecDepth 100000 in
theorem bX7_isWord_83 (d : Nat) (x1 : Int32) (x2 : Int32) (x3 : Int32) (x4 : Int32) (x5 : Int32) (x6 : Int32) (x7 : Int32) (x8 : Int32) (y0 : Int32) (M : MM) (w : Int64) (l : List (Nat × Nat × Nat)) (t u : Nat) : nR X (callN X d) hX7_isWord 83 [vR 30 0, vI x1, vI x2, vI x3, vI x4, vI x5, vI x6, vI x7, vI x8] [vI y0] (M, w, true, true, l, t, u) = if y0 = 0 then some (some (vI (0 : Int32)), (M, w, true, true, l, t, u)) else nBnd (callN X d 131 [vR 30 0, vI (6 : Int32), vI x7] (M, w, true, true, l, t, u)) (fun v s2 => nR X (callN X d) hX7_isWord 94 [vR 30 0, vI x1, vI x2, vI x3, vI x4, vI x5, vI x6, vI x7, vI x8] (v.toList ++ []) s2) :=
  (nR_itc X _ _ c_X7_isWord 5 _ _ _ _).trans rfl
set_option maxRecDepth 100000 in
theorem bX7_isWord_94 (d : Nat) (x1 : Int32) (x2 : Int32) (x3 : Int32) (x4 : Int32) (x5 : Int32) (x6 : Int32) (x7 : Int32) (x8 : Int32) (y0 : Int32) (M : MM) (w : Int64) (l : List (Nat × Nat × Nat)) (t u : Nat) : nR X (callN X d) hX7_isWord 94 [vR 30 0, vI x1, vI x2, vI x3, vI x4, vI x5, vI x6, vI x7, vI x8] [vI y0] (M, w, true, true, l, t, u) = if y0 = 0 then some (some (vI (0 : Int32)), (M, w, true, true, l, t, u)) else nBnd (callN X d 131 [vR 30 0, vI (7 : Int32), vI x8] (M, w, true, true, l, t, u)) (fun v s2 => nR X (callN X d) hX7_isWord 105 [vR 30 0, vI x1, vI x2, vI x3, vI x4, vI x5, vI x6, vI x7, vI x8] (v.toList ++ []) s2) :=
  (nR_itc X _ _ c_X7_isWord 5 _ _ _ _).trans rfl
set_option maxRecDepth 100000 in
theorem bX7_isWord_105 (d : Nat) (x1 : Int32) (x2 : Int32) (x3 : Int32) (x4 : Int32) (x5 : Int32) (x6 : Int32) (x7 : Int32) (x8 : Int32) (y0 : Int32) (M : MM) (w : Int64) (l : List (Nat × Nat × Nat)) (t u : Nat) : nR X (callN X d) hX7_isWord 105 [vR 30 0, vI x1, vI x2, vI x3, vI x4, vI x5, vI x6, vI x7, vI x8] [vI y0] (M, w, true, true, l, t, u) = if y0 = 0 then some (some (vI (0 : Int32)), (M, w, true, true, l, t, u)) else some (some (vI (1 : Int32)), (M, w, true, true, l, t, u)) :=
  (nR_itc X _ _ c_X7_isWord 4 _ _ _ _).trans rfl
def c_X7_isSign : List Nat := []
set_option maxRecDepth 100000 in
theorem bX7_isSign_0 (d : Nat) (a1 : Int32) (M : MM) (w : Int64) (l : List (Nat × Nat × Nat)) (t u : Nat) : nR X (callN X d) hX7_isSign 0 [vR 30 0, vI a1] [] (M, w, true, true, l, t, u) = if (M 30 0 26) = 0 then if (M 30 0 22) = (3 : Int32) then if (nLcmp w (a1).toInt64) = 0 then some (some (vI (1 : Int32)), (M, w, true, true, l, t, u)) else some (some (vI (0 : Int32)), (M, w, true, true, l, t, u)) else some (some (vI (0 : Int32)), (M, w, true, true, l, t, u)) else some (some (vI (0 : Int32)), (M, w, true, true, l, t, u)) :=
  (nR_itc X _ _ c_X7_isSign 16 _ _ _ _).trans rfl
def c_X7_opens : List Nat := [12, 28]
set_option maxRecDepth 100000 in
theorem bX7_opens_0 (d : Nat) (M : MM) (w : Int64) (l : List (Nat × Nat × Nat)) (t u : Nat) : nR X (callN X d) hX7_opens 0 [vR 30 0] [] (M, w, true, true, l, t, u) = if (M 30 0 25) = (5 : Int32) then nBnd (callN X d 130 [vR 30 0] (M, w, true, true, l, t, u)) (fun v s2 => nR X (callN X d) hX7_opens 12 [vR 30 0] (v.toList ++ []) s2) else nBnd (callN X d 129 [vR 30 0] ((nSt M 30 0 25 ((M 30 0 25) + (1 : Int32))), w, true, true, l, t, u)) (fun v s2 => nR X (callN X d) hX7_opens 28 [vR 30 0] (v.toList ++ []) s2) :=
  (nR_itc X _ _ c_X7_opens 12 _ _ _ _).trans rfl
set_option maxRecDepth 100000 in
theorem bX7_opens_12 (d : Nat) (M : MM) (w : Int64) (l : List (Nat × Nat × Nat)) (t u : Nat) : nR X (callN X d) hX7_opens 12 [vR 30 0] [] (M, w, true, true, l, t, u) = some (some (vI (0 : Int32)), (M, w, true, true, l, t, u)) :=
  (nR_itc X _ _ c_X7_opens 2 _ _ _ _).trans rfl
set_option maxRecDepth 100000 in
theorem bX7_opens_28 (d : Nat) (M : MM) (w : Int64) (l : List (Nat × Nat × Nat)) (t u : Nat) : nR X (callN X d) hX7_opens 28 [vR 30 0] [] (M, w, true, true, l, t, u) = some (some (vI (1 : Int32)), (M, w, true, true, l, t, u)) :=
  (nR_itc X _ _ c_X7_opens 2 _ _ _ _).trans rfl
def c_X7_name : List Nat := [18, 42, 68, 91, 116, 140, 152]
set_option maxRecDepth 100000 in
theorem bX7_name_0 (d : Nat) (M : MM) (w : Int64) (l : List (Nat × Nat × Nat)) (t u : Nat) : nR X (callN X d) hX7_name 0 [vR 30 0] [] (M, w, true, true, l, t, u) = nBnd (callN X d 132 [vR 30 0, vI (103 : Int32), vI (114 : Int32), vI (97 : Int32), vI (105 : Int32), vI (110 : Int32), vI (115 : Int32), vI (0 : Int32), vI (0 : Int32)] (M, w, true, true, l, t, u)) (fun v s2 => nR X (callN X d) hX7_name 18 [vR 30 0] (v.toList ++ []) s2) :=
  (nR_itc X _ _ c_X7_name 10 _ _ _ _).trans rfl
set_option maxRecDepth 100000 in
theorem bX7_name_18 (d : Nat) (y0 : Int32) (M : MM) (w : Int64) (l : List (Nat × Nat × Nat)) (t u : Nat) : nR X (callN X d) hX7_name 18 [vR 30 0] [vI y0] (M, w, true, true, l, t, u) = if y0 = 0 then nBnd (callN X d 132 [vR 30 0, vI (109 : Int32), vI (97 : Int32), vI (114 : Int32), vI (107 : Int32), vI (0 : Int32), vI (0 : Int32), vI (0 : Int32), vI (0 : Int32)] (M, w, true, true, l, t, u)) (fun v s2 => nR X (callN X d) hX7_name 42 [vR 30 0] (v.toList ++ []) s2) else some (some (vI (M 30 0 13)), (M, w, true, true, l, t, u)) :=
  (nR_itc X _ _ c_X7_name 11 _ _ _ _).trans rfl
set_option maxRecDepth 100000 in
theorem bX7_name_42 (d : Nat) (y0 : Int32) (M : MM) (w : Int64) (l : List (Nat × Nat × Nat)) (t u : Nat) : nR X (callN X d) hX7_name 42 [vR 30 0] [vI y0] (M, w, true, true, l, t, u) = if y0 = 0 then nBnd (callN X d 132 [vR 30 0, vI (110 : Int32), vI (117 : Int32), vI (109 : Int32), vI (98 : Int32), vI (101 : Int32), vI (114 : Int32), vI (0 : Int32), vI (0 : Int32)] (M, w, true, true, l, t, u)) (fun v s2 => nR X (callN X d) hX7_name 68 [vR 30 0] (v.toList ++ []) s2) else some (some (vI (M 30 0 14)), (M, w, true, true, l, t, u)) :=
  (nR_itc X _ _ c_X7_name 11 _ _ _ _).trans rfl
set_option maxRecDepth 100000 in
theorem bX7_name_68 (d : Nat) (y0 : Int32) (M : MM) (w : Int64) (l : List (Nat × Nat × Nat)) (t u : Nat) : nR X (callN X d) hX7_name 68 [vR 30 0] [vI y0] (M, w, true, true, l, t, u) = if y0 = 0 then nBnd (callN X d 132 [vR 30 0, vI (100 : Int32), vI (97 : Int32), vI (121 : Int32), vI (0 : Int32), vI (0 : Int32), vI (0 : Int32), vI (0 : Int32), vI (0 : Int32)] (M, w, true, true, l, t, u)) (fun v s2 => nR X (callN X d) hX7_name 91 [vR 30 0] (v.toList ++ []) s2) else some (some (vI (M 30 0 15)), (M, w, true, true, l, t, u)) :=
  (nR_itc X _ _ c_X7_name 11 _ _ _ _).trans rfl
set_option maxRecDepth 100000 in
theorem bX7_name_91 (d : Nat) (y0 : Int32) (M : MM) (w : Int64) (l : List (Nat × Nat × Nat)) (t u : Nat) : nR X (callN X d) hX7_name 91 [vR 30 0] [vI y0] (M, w, true, true, l, t, u) = if y0 = 0 then nBnd (callN X d 132 [vR 30 0, vI (99 : Int32), vI (111 : Int32), vI (97 : Int32), vI (115 : Int32), vI (116 : Int32), vI (0 : Int32), vI (0 : Int32), vI (0 : Int32)] (M, w, true, true, l, t, u)) (fun v s2 => nR X (callN X d) hX7_name 116 [vR 30 0] (v.toList ++ []) s2) else some (some (vI (M 30 0 16)), (M, w, true, true, l, t, u)) :=
  (nR_itc X _ _ c_X7_name 11 _ _ _ _).trans rfl
set_option maxRecDepth 100000 in
theorem bX7_name_116 (d : Nat) (y0 : Int32) (M : MM) (w : Int64) (l : List (Nat × Nat × Nat)) (t u : Nat) : nR X (callN X d) hX7_name 116 [vR 30 0] [vI y0] (M, w, true, true, l, t, u) = if y0 = 0 then nBnd (callN X d 132 [vR 30 0, vI (115 : Int32), vI (104 : Int32), vI (111 : Int32), vI (101 : Int32), vI (0 : Int32), vI (0 : Int32), vI (0 : Int32), vI (0 : Int32)] (M, w, true, true, l, t, u)) (fun v s2 => nR X (callN X d) hX7_name 140 [vR 30 0] (v.toList ++ []) s2) else some (some (vI (M 30 0 17)), (M, w, true, true, l, t, u)) :=
  (nR_itc X _ _ c_X7_name 11 _ _ _ _).trans rfl
set_option maxRecDepth 100000 in
theorem bX7_name_140 (d : Nat) (y0 : Int32) (M : MM) (w : Int64) (l : List (Nat × Nat × Nat)) (t u : Nat) : nR X (callN X d) hX7_name 140 [vR 30 0] [vI y0] (M, w, true, true, l, t, u) = if y0 = 0 then nBnd (callN X d 130 [vR 30 0] (M, w, true, true, l, t, u)) (fun v s2 => nR X (callN X d) hX7_name 152 [vR 30 0] (v.toList ++ []) s2) else some (some (vI (M 30 0 18)), (M, w, true, true, l, t, u)) :=
  (nR_itc X _ _ c_X7_name 4 _ _ _ _).trans rfl
set_option maxRecDepth 100000 in
theorem bX7_name_152 (d : Nat) (M : MM) (w : Int64) (l : List (Nat × Nat × Nat)) (t u : Nat) : nR X (callN X d) hX7_name 152 [vR 30 0] [] (M, w, true, true, l, t, u) = some (some (vI (0 : Int32)), (M, w, true, true, l, t, u)) :=
  (nR_itc X _ _ c_X7_name 2 _ _ _ _).trans rfl
def c_X7_atom : List Nat := [8, 15, 22, 43, 50, 57, 64, 71, 92, 120, 142, 154, 161]
set_option maxRecDepth 100000 in
theorem bX7_atom_0 (d : Nat) (M : MM) (w : Int64) (l : List (Nat × Nat × Nat)) (t u : Nat) : nR X (callN X d) hX7_atom 0 [vR 30 0, vX] [] (M, w, true, true, l, t, u) = nBnd (callN X d 133 [vR 30 0, vI (45 : Int32)] (M, w, true, true, l, t, u)) (fun v s2 => nR X (callN X d) hX7_atom 8 [vR 30 0, vI (0 : Int32)] (v.toList ++ []) s2) :=
  (nR_itc X _ _ c_X7_atom 5 _ _ _ _).trans rfl
set_option maxRecDepth 100000 in
theorem bX7_atom_8 (d : Nat) (x1 : Int32) (y0 : Int32) (M : MM) (w : Int64) (l : List (Nat × Nat × Nat)) (t u : Nat) : nR X (callN X d) hX7_atom 8 [vR 30 0, vI x1] [vI y0] (M, w, true, true, l, t, u) = if y0 = 0 then nBnd (callN X d 133 [vR 30 0, vI (40 : Int32)] (M, w, true, true, l, t, u)) (fun v s2 => nR X (callN X d) hX7_atom 43 [vR 30 0, vI x1] (v.toList ++ []) s2) else nBnd (callN X d 134 [vR 30 0] (M, w, true, true, l, t, u)) (fun v s2 => nR X (callN X d) hX7_atom 15 [vR 30 0, vI x1] (v.toList ++ []) s2) :=
  (nR_itc X _ _ c_X7_atom 4 _ _ _ _).trans rfl
set_option maxRecDepth 100000 in
theorem bX7_atom_15 (d : Nat) (x1 : Int32) (y0 : Int32) (M : MM) (w : Int64) (l : List (Nat × Nat × Nat)) (t u : Nat) : nR X (callN X d) hX7_atom 15 [vR 30 0, vI x1] [vI y0] (M, w, true, true, l, t, u) = if y0 = 0 then nR X (callN X d) hX7_atom 161 [vR 30 0, vI x1] [] (M, w, true, true, l, t, u) else nBnd (callN X d 136 [vR 30 0] (M, w, true, true, l, t, u)) (fun v s2 => nR X (callN X d) hX7_atom 22 [vR 30 0, vI x1] (v.toList ++ []) s2) :=
  (nR_itc X _ _ c_X7_atom 3 _ _ _ _).trans rfl
set_option maxRecDepth 100000 in
theorem bX7_atom_22 (d : Nat) (x1 : Int32) (y0 : Int32) (M : MM) (w : Int64) (l : List (Nat × Nat × Nat)) (t u : Nat) : nR X (callN X d) hX7_atom 22 [vR 30 0, vI x1] [vI y0] (M, w, true, true, l, t, u) = nR X (callN X d) hX7_atom 161 [vR 30 0, vI (-y0)] [] ((nSt M 30 0 25 ((M 30 0 25) - (1 : Int32))), w, true, true, l, t, u) :=
  (nR_itc X _ _ c_X7_atom 9 _ _ _ _).trans rfl
set_option maxRecDepth 100000 in
theorem bX7_atom_43 (d : Nat) (x1 : Int32) (y0 : Int32) (M : MM) (w : Int64) (l : List (Nat × Nat × Nat)) (t u : Nat) : nR X (callN X d) hX7_atom 43 [vR 30 0, vI x1] [vI y0] (M, w, true, true, l, t, u) = if y0 = 0 then if (M 30 0 26) = 0 then if (M 30 0 22) = (2 : Int32) then nBnd (callN X d 129 [vR 30 0] (M, w, true, true, l, t, u)) (fun v s2 => nR X (callN X d) hX7_atom 120 [vR 30 0, vI (w).toInt32] (v.toList ++ []) s2) else if (M 30 0 26) = 0 then if (M 30 0 22) = (1 : Int32) then nBnd (callN X d 135 [vR 30 0] (M, w, true, true, l, t, u)) (fun v s2 => nR X (callN X d) hX7_atom 142 [vR 30 0, vI x1] (v.toList ++ []) s2) else nBnd (callN X d 130 [vR 30 0] (M, w, true, true, l, t, u)) (fun v s2 => nR X (callN X d) hX7_atom 161 [vR 30 0, vI x1] (v.toList ++ []) s2) else nBnd (callN X d 130 [vR 30 0] (M, w, true, true, l, t, u)) (fun v s2 => nR X (callN X d) hX7_atom 161 [vR 30 0, vI x1] (v.toList ++ []) s2) else if (M 30 0 26) = 0 then if (M 30 0 22) = (1 : Int32) then nBnd (callN X d 135 [vR 30 0] (M, w, true, true, l, t, u)) (fun v s2 => nR X (callN X d) hX7_atom 142 [vR 30 0, vI x1] (v.toList ++ []) s2) else nBnd (callN X d 130 [vR 30 0] (M, w, true, true, l, t, u)) (fun v s2 => nR X (callN X d) hX7_atom 161 [vR 30 0, vI x1] (v.toList ++ []) s2) else nBnd (callN X d 130 [vR 30 0] (M, w, true, true, l, t, u)) (fun v s2 => nR X (callN X d) hX7_atom 161 [vR 30 0, vI x1] (v.toList ++ []) s2) else nBnd (callN X d 134 [vR 30 0] (M, w, true, true, l, t, u)) (fun v s2 => nR X (callN X d) hX7_atom 50 [vR 30 0, vI x1] (v.toList ++ []) s2) :=
  (nR_itc X _ _ c_X7_atom 17 _ _ _ _).trans rfl
set_option maxRecDepth 100000 in
theorem bX7_atom_50 (d : Nat) (x1 : Int32) (y0 : Int32) (M : MM) (w : Int64) (l : List (Nat × Nat × Nat)) (t u : Nat) : nR X (callN X d) hX7_atom 50 [vR 30 0, vI x1] [vI y0] (M, w, true, true, l, t, u) = if y0 = 0 then nR X (callN X d) hX7_atom 161 [vR 30 0, vI x1] [] (M, w, true, true, l, t, u) else nBnd (callN X d 141 [vR 30 0] (M, w, true, true, l, t, u)) (fun v s2 => nR X (callN X d) hX7_atom 57 [vR 30 0, vI x1] (v.toList ++ []) s2) :=
  (nR_itc X _ _ c_X7_atom 3 _ _ _ _).trans rfl
set_option maxRecDepth 100000 in
theorem bX7_atom_57 (d : Nat) (x1 : Int32) (y0 : Int32) (M : MM) (w : Int64) (l : List (Nat × Nat × Nat)) (t u : Nat) : nR X (callN X d) hX7_atom 57 [vR 30 0, vI x1] [vI y0] (M, w, true, true, l, t, u) = nBnd (callN X d 133 [vR 30 0, vI (41 : Int32)] (M, w, true, true, l, t, u)) (fun v s2 => nR X (callN X d) hX7_atom 64 [vR 30 0, vI y0] (v.toList ++ []) s2) :=
  (nR_itc X _ _ c_X7_atom 4 _ _ _ _).trans rfl
set_option maxRecDepth 100000 in
theorem bX7_atom_64 (d : Nat) (x1 : Int32) (y0 : Int32) (M : MM) (w : Int64) (l : List (Nat × Nat × Nat)) (t u : Nat) : nR X (callN X d) hX7_atom 64 [vR 30 0, vI x1] [vI y0] (M, w, true, true, l, t, u) = if y0 = 0 then nBnd (callN X d 130 [vR 30 0] (M, w, true, true, l, t, u)) (fun v s2 => nR X (callN X d) hX7_atom 71 [vR 30 0, vI x1] (v.toList ++ []) s2) else nR X (callN X d) hX7_atom 71 [vR 30 0, vI x1] [] (M, w, true, true, l, t, u) :=
  (nR_itc X _ _ c_X7_atom 3 _ _ _ _).trans rfl
set_option maxRecDepth 100000 in
theorem bX7_atom_71 (d : Nat) (x1 : Int32) (M : MM) (w : Int64) (l : List (Nat × Nat × Nat)) (t u : Nat) : nR X (callN X d) hX7_atom 71 [vR 30 0, vI x1] [] (M, w, true, true, l, t, u) = if ((nSt M 30 0 25 ((M 30 0 25) - (1 : Int32))) 30 0 26) = 0 then nBnd (callN X d 129 [vR 30 0] ((nSt M 30 0 25 ((M 30 0 25) - (1 : Int32))), w, true, true, l, t, u)) (fun v s2 => nR X (callN X d) hX7_atom 92 [vR 30 0, vI x1] (v.toList ++ []) s2) else nR X (callN X d) hX7_atom 161 [vR 30 0, vI x1] [] ((nSt M 30 0 25 ((M 30 0 25) - (1 : Int32))), w, true, true, l, t, u) :=
  (nR_itc X _ _ c_X7_atom 11 _ _ _ _).trans rfl
set_option maxRecDepth 100000 in
theorem bX7_atom_92 (d : Nat) (x1 : Int32) (M : MM) (w : Int64) (l : List (Nat × Nat × Nat)) (t u : Nat) : nR X (callN X d) hX7_atom 92 [vR 30 0, vI x1] [] (M, w, true, true, l, t, u) = nR X (callN X d) hX7_atom 161 [vR 30 0, vI x1] [] (M, w, true, true, l, t, u) :=
  (nR_itc X _ _ c_X7_atom 1 _ _ _ _).trans rfl
set_option maxRecDepth 100000 in
theorem bX7_atom_120 (d : Nat) (x1 : Int32) (M : MM) (w : Int64) (l : List (Nat × Nat × Nat)) (t u : Nat) : nR X (callN X d) hX7_atom 120 [vR 30 0, vI x1] [] (M, w, true, true, l, t, u) = nR X (callN X d) hX7_atom 161 [vR 30 0, vI x1] [] (M, w, true, true, l, t, u) :=
  (nR_itc X _ _ c_X7_atom 1 _ _ _ _).trans rfl
set_option maxRecDepth 100000 in
theorem bX7_atom_142 (d : Nat) (x1 : Int32) (y0 : Int32) (M : MM) (w : Int64) (l : List (Nat × Nat × Nat)) (t u : Nat) : nR X (callN X d) hX7_atom 142 [vR 30 0, vI x1] [vI y0] (M, w, true, true, l, t, u) = if (M 30 0 26) = 0 then nBnd (callN X d 129 [vR 30 0] (M, w, true, true, l, t, u)) (fun v s2 => nR X (callN X d) hX7_atom 154 [vR 30 0, vI y0] (v.toList ++ []) s2) else nR X (callN X d) hX7_atom 161 [vR 30 0, vI y0] [] (M, w, true, true, l, t, u) :=
  (nR_itc X _ _ c_X7_atom 6 _ _ _ _).trans rfl
set_option maxRecDepth 100000 in
theorem bX7_atom_154 (d : Nat) (x1 : Int32) (M : MM) (w : Int64) (l : List (Nat × Nat × Nat)) (t u : Nat) : nR X (callN X d) hX7_atom 154 [vR 30 0, vI x1] [] (M, w, true, true, l, t, u) = nR X (callN X d) hX7_atom 161 [vR 30 0, vI x1] [] (M, w, true, true, l, t, u) :=
  (nR_itc X _ _ c_X7_atom 1 _ _ _ _).trans rfl
set_option maxRecDepth 100000 in
theorem bX7_atom_161 (d : Nat) (x1 : Int32) (M : MM) (w : Int64) (l : List (Nat × Nat × Nat)) (t u : Nat) : nR X (callN X d) hX7_atom 161 [vR 30 0, vI x1] [] (M, w, true, true, l, t, u) = some (some (vI x1), (M, w, true, true, l, t, u)) :=
  (nR_itc X _ _ c_X7_atom 2 _ _ _ _).trans rfl
def c_X7_term : List Nat := [4, 5, 11, 18, 23]
set_option maxRecDepth 100000 in
theorem bX7_term_0 (d : Nat) (M : MM) (w : Int64) (l : List (Nat × Nat × Nat)) (t u : Nat) : nR X (callN X d) hX7_term 0 [vR 30 0, vX] [] (M, w, true, true, l, t, u) = nBnd (callN X d 136 [vR 30 0] (M, w, true, true, l, t, u)) (fun v s2 => nR X (callN X d) hX7_term 4 [vR 30 0, vX] (v.toList ++ []) s2) :=
  (nR_itc X _ _ c_X7_term 2 _ _ _ _).trans rfl
set_option maxRecDepth 100000 in
theorem bX7_term_4 (d : Nat) (y0 : Int32) (M : MM) (w : Int64) (l : List (Nat × Nat × Nat)) (t u : Nat) : nR X (callN X d) hX7_term 4 [vR 30 0, vX] [vI y0] (M, w, true, true, l, t, u) = nR X (callN X d) hX7_term 5 [vR 30 0, vI y0] [] (M, w, true, true, l, t, u) :=
  (nR_itc X _ _ c_X7_term 1 _ _ _ _).trans rfl
set_option maxRecDepth 100000 in
theorem bX7_term_5 (d : Nat) (x1 : Int32) (M : MM) (w : Int64) (l : List (Nat × Nat × Nat)) (t u : Nat) : nR X (callN X d) hX7_term 5 [vR 30 0, vI x1] [] (M, w, true, true, l, t, u) = nBnd (callN X d 133 [vR 30 0, vI (42 : Int32)] (M, w, true, true, l, t, u)) (fun v s2 => nR X (callN X d) hX7_term 11 [vR 30 0, vI x1] (v.toList ++ []) s2) :=
  (nR_itc X _ _ c_X7_term 3 _ _ _ _).trans rfl
set_option maxRecDepth 100000 in
theorem bX7_term_11 (d : Nat) (x1 : Int32) (y0 : Int32) (M : MM) (w : Int64) (l : List (Nat × Nat × Nat)) (t u : Nat) : nR X (callN X d) hX7_term 11 [vR 30 0, vI x1] [vI y0] (M, w, true, true, l, t, u) = if y0 = 0 then some (some (vI x1), (M, w, true, true, l, t, u)) else nBnd (callN X d 129 [vR 30 0] (M, w, true, true, l, t, u)) (fun v s2 => nR X (callN X d) hX7_term 18 [vR 30 0, vI x1] (v.toList ++ []) s2) :=
  (nR_itc X _ _ c_X7_term 3 _ _ _ _).trans rfl
set_option maxRecDepth 100000 in
theorem bX7_term_18 (d : Nat) (x1 : Int32) (M : MM) (w : Int64) (l : List (Nat × Nat × Nat)) (t u : Nat) : nR X (callN X d) hX7_term 18 [vR 30 0, vI x1] [] (M, w, true, true, l, t, u) = nBnd (callN X d 136 [vR 30 0] (M, w, true, true, l, t, u)) (fun v s2 => nR X (callN X d) hX7_term 23 [vR 30 0, vI x1] (v.toList ++ [vI x1]) s2) :=
  (nR_itc X _ _ c_X7_term 3 _ _ _ _).trans rfl
set_option maxRecDepth 100000 in
theorem bX7_term_23 (d : Nat) (x1 : Int32) (y0 : Int32) (y1 : Int32) (M : MM) (w : Int64) (l : List (Nat × Nat × Nat)) (t u : Nat) : nR X (callN X d) hX7_term 23 [vR 30 0, vI x1] [vI y0, vI y1] (M, w, true, true, l, t, u) = nR X (callN X d) hX7_term 5 [vR 30 0, vI (y1 * y0)] [] (M, w, true, true, l, t, u) :=
  (nR_itc X _ _ c_X7_term 3 _ _ _ _).trans rfl
def c_X7_added : List Nat := [4, 5, 11, 20, 44, 48]
set_option maxRecDepth 100000 in
theorem bX7_added_0 (d : Nat) (M : MM) (w : Int64) (l : List (Nat × Nat × Nat)) (t u : Nat) : nR X (callN X d) hX7_added 0 [vR 30 0, vX, vX, vX] [] (M, w, true, true, l, t, u) = nBnd (callN X d 137 [vR 30 0] (M, w, true, true, l, t, u)) (fun v s2 => nR X (callN X d) hX7_added 4 [vR 30 0, vX, vX, vX] (v.toList ++ []) s2) :=
  (nR_itc X _ _ c_X7_added 2 _ _ _ _).trans rfl
set_option maxRecDepth 100000 in
theorem bX7_added_4 (d : Nat) (y0 : Int32) (M : MM) (w : Int64) (l : List (Nat × Nat × Nat)) (t u : Nat) : nR X (callN X d) hX7_added 4 [vR 30 0, vX, vX, vX] [vI y0] (M, w, true, true, l, t, u) = nR X (callN X d) hX7_added 5 [vR 30 0, vI y0, vX, vX] [] (M, w, true, true, l, t, u) :=
  (nR_itc X _ _ c_X7_added 1 _ _ _ _).trans rfl
set_option maxRecDepth 100000 in
theorem bX7_added_5 (d : Nat) (x1 : Int32) (x2 : AV) (x3 : AV) (M : MM) (w : Int64) (l : List (Nat × Nat × Nat)) (t u : Nat) : nR X (callN X d) hX7_added 5 [vR 30 0, vI x1, x2, x3] [] (M, w, true, true, l, t, u) = nBnd (callN X d 133 [vR 30 0, vI (43 : Int32)] (M, w, true, true, l, t, u)) (fun v s2 => nR X (callN X d) hX7_added 11 [vR 30 0, vI x1, x2, x3] (v.toList ++ []) s2) :=
  (nR_itc X _ _ c_X7_added 3 _ _ _ _).trans rfl
set_option maxRecDepth 100000 in
theorem bX7_added_11 (d : Nat) (x1 : Int32) (x2 : AV) (x3 : AV) (y0 : Int32) (M : MM) (w : Int64) (l : List (Nat × Nat × Nat)) (t u : Nat) : nR X (callN X d) hX7_added 11 [vR 30 0, vI x1, x2, x3] [vI y0] (M, w, true, true, l, t, u) = if y0 = 0 then nBnd (callN X d 133 [vR 30 0, vI (45 : Int32)] (M, w, true, true, l, t, u)) (fun v s2 => nR X (callN X d) hX7_added 20 [vR 30 0, vI x1, x2, x3] (v.toList ++ []) s2) else if (nLcmp w (43 : Int64)) = 0 then nBnd (callN X d 129 [vR 30 0] (M, w, true, true, l, t, u)) (fun v s2 => nR X (callN X d) hX7_added 44 [vR 30 0, vI x1, vI (1 : Int32), x3] (v.toList ++ []) s2) else nBnd (callN X d 129 [vR 30 0] (M, w, true, true, l, t, u)) (fun v s2 => nR X (callN X d) hX7_added 44 [vR 30 0, vI x1, vI (0 : Int32), x3] (v.toList ++ []) s2) :=
  (nR_itc X _ _ c_X7_added 11 _ _ _ _).trans rfl
set_option maxRecDepth 100000 in
theorem bX7_added_20 (d : Nat) (x1 : Int32) (x2 : AV) (x3 : AV) (y0 : Int32) (M : MM) (w : Int64) (l : List (Nat × Nat × Nat)) (t u : Nat) : nR X (callN X d) hX7_added 20 [vR 30 0, vI x1, x2, x3] [vI y0] (M, w, true, true, l, t, u) = if y0 = 0 then some (some (vI x1), (M, w, true, true, l, t, u)) else if (nLcmp w (43 : Int64)) = 0 then nBnd (callN X d 129 [vR 30 0] (M, w, true, true, l, t, u)) (fun v s2 => nR X (callN X d) hX7_added 44 [vR 30 0, vI x1, vI (1 : Int32), x3] (v.toList ++ []) s2) else nBnd (callN X d 129 [vR 30 0] (M, w, true, true, l, t, u)) (fun v s2 => nR X (callN X d) hX7_added 44 [vR 30 0, vI x1, vI (0 : Int32), x3] (v.toList ++ []) s2) :=
  (nR_itc X _ _ c_X7_added 11 _ _ _ _).trans rfl
set_option maxRecDepth 100000 in
theorem bX7_added_44 (d : Nat) (x1 : Int32) (x2 : Int32) (x3 : AV) (M : MM) (w : Int64) (l : List (Nat × Nat × Nat)) (t u : Nat) : nR X (callN X d) hX7_added 44 [vR 30 0, vI x1, vI x2, x3] [] (M, w, true, true, l, t, u) = nBnd (callN X d 137 [vR 30 0] (M, w, true, true, l, t, u)) (fun v s2 => nR X (callN X d) hX7_added 48 [vR 30 0, vI x1, vI x2, x3] (v.toList ++ []) s2) :=
  (nR_itc X _ _ c_X7_added 2 _ _ _ _).trans rfl
set_option maxRecDepth 100000 in
theorem bX7_added_48 (d : Nat) (x1 : Int32) (x2 : Int32) (x3 : AV) (y0 : Int32) (M : MM) (w : Int64) (l : List (Nat × Nat × Nat)) (t u : Nat) : nR X (callN X d) hX7_added 48 [vR 30 0, vI x1, vI x2, x3] [vI y0] (M, w, true, true, l, t, u) = if x2 = 0 then nR X (callN X d) hX7_added 5 [vR 30 0, vI (x1 - y0), vI x2, vI y0] [] (M, w, true, true, l, t, u) else nR X (callN X d) hX7_added 5 [vR 30 0, vI (x1 + y0), vI x2, vI y0] [] (M, w, true, true, l, t, u) :=
  (nR_itc X _ _ c_X7_added 9 _ _ _ _).trans rfl
def c_X7_not : List Nat := [15, 22, 31, 56, 63, 72, 98, 102]
set_option maxRecDepth 100000 in
theorem bX7_not_0 (d : Nat) (M : MM) (w : Int64) (l : List (Nat × Nat × Nat)) (t u : Nat) : nR X (callN X d) hX7_not 0 [vR 30 0, vX, vX, vX] [] (M, w, true, true, l, t, u) = nBnd (callN X d 132 [vR 30 0, vI (110 : Int32), vI (111 : Int32), vI (116 : Int32), vI (0 : Int32), vI (0 : Int32), vI (0 : Int32), vI (0 : Int32), vI (0 : Int32)] (M, w, true, true, l, t, u)) (fun v s2 => nR X (callN X d) hX7_not 15 [vR 30 0, vX, vX, vX] (v.toList ++ []) s2) :=
  (nR_itc X _ _ c_X7_not 10 _ _ _ _).trans rfl
set_option maxRecDepth 100000 in
theorem bX7_not_15 (d : Nat) (y0 : Int32) (M : MM) (w : Int64) (l : List (Nat × Nat × Nat)) (t u : Nat) : nR X (callN X d) hX7_not 15 [vR 30 0, vX, vX, vX] [vI y0] (M, w, true, true, l, t, u) = if y0 = 0 then nBnd (callN X d 138 [vR 30 0] (M, w, true, true, l, t, u)) (fun v s2 => nR X (callN X d) hX7_not 56 [vR 30 0, vX, vX, vX] (v.toList ++ []) s2) else nBnd (callN X d 134 [vR 30 0] (M, w, true, true, l, t, u)) (fun v s2 => nR X (callN X d) hX7_not 22 [vR 30 0, vX, vX, vX] (v.toList ++ []) s2) :=
  (nR_itc X _ _ c_X7_not 3 _ _ _ _).trans rfl
set_option maxRecDepth 100000 in
theorem bX7_not_22 (d : Nat) (y0 : Int32) (M : MM) (w : Int64) (l : List (Nat × Nat × Nat)) (t u : Nat) : nR X (callN X d) hX7_not 22 [vR 30 0, vX, vX, vX] [vI y0] (M, w, true, true, l, t, u) = if y0 = 0 then some (some (vI (0 : Int32)), (M, w, true, true, l, t, u)) else nBnd (callN X d 139 [vR 30 0] (M, w, true, true, l, t, u)) (fun v s2 => nR X (callN X d) hX7_not 31 [vR 30 0, vX, vX, vX] (v.toList ++ []) s2) :=
  (nR_itc X _ _ c_X7_not 3 _ _ _ _).trans rfl
set_option maxRecDepth 100000 in
theorem bX7_not_31 (d : Nat) (y0 : Int32) (M : MM) (w : Int64) (l : List (Nat × Nat × Nat)) (t u : Nat) : nR X (callN X d) hX7_not 31 [vR 30 0, vX, vX, vX] [vI y0] (M, w, true, true, l, t, u) = if y0 = 0 then some (some (vI (1 : Int32)), ((nSt M 30 0 25 ((M 30 0 25) - (1 : Int32))), w, true, true, l, t, u)) else some (some (vI (0 : Int32)), ((nSt M 30 0 25 ((M 30 0 25) - (1 : Int32))), w, true, true, l, t, u)) :=
  (nR_itc X _ _ c_X7_not 12 _ _ _ _).trans rfl
set_option maxRecDepth 100000 in
theorem bX7_not_56 (d : Nat) (y0 : Int32) (M : MM) (w : Int64) (l : List (Nat × Nat × Nat)) (t u : Nat) : nR X (callN X d) hX7_not 56 [vR 30 0, vX, vX, vX] [vI y0] (M, w, true, true, l, t, u) = nBnd (callN X d 133 [vR 30 0, vI (60 : Int32)] (M, w, true, true, l, t, u)) (fun v s2 => nR X (callN X d) hX7_not 63 [vR 30 0, vI y0, vX, vX] (v.toList ++ []) s2) :=
  (nR_itc X _ _ c_X7_not 4 _ _ _ _).trans rfl
set_option maxRecDepth 100000 in
theorem bX7_not_63 (d : Nat) (x1 : Int32) (y0 : Int32) (M : MM) (w : Int64) (l : List (Nat × Nat × Nat)) (t u : Nat) : nR X (callN X d) hX7_not 63 [vR 30 0, vI x1, vX, vX] [vI y0] (M, w, true, true, l, t, u) = if y0 = 0 then nBnd (callN X d 133 [vR 30 0, vI (61 : Int32)] (M, w, true, true, l, t, u)) (fun v s2 => nR X (callN X d) hX7_not 72 [vR 30 0, vI x1, vX, vX] (v.toList ++ []) s2) else if (nLcmp w (60 : Int64)) = 0 then nBnd (callN X d 129 [vR 30 0] (M, w, true, true, l, t, u)) (fun v s2 => nR X (callN X d) hX7_not 98 [vR 30 0, vI x1, vI (1 : Int32), vX] (v.toList ++ []) s2) else nBnd (callN X d 129 [vR 30 0] (M, w, true, true, l, t, u)) (fun v s2 => nR X (callN X d) hX7_not 98 [vR 30 0, vI x1, vI (0 : Int32), vX] (v.toList ++ []) s2) :=
  (nR_itc X _ _ c_X7_not 11 _ _ _ _).trans rfl
set_option maxRecDepth 100000 in
theorem bX7_not_72 (d : Nat) (x1 : Int32) (y0 : Int32) (M : MM) (w : Int64) (l : List (Nat × Nat × Nat)) (t u : Nat) : nR X (callN X d) hX7_not 72 [vR 30 0, vI x1, vX, vX] [vI y0] (M, w, true, true, l, t, u) = if y0 = 0 then some (some (vI x1), (M, w, true, true, l, t, u)) else if (nLcmp w (60 : Int64)) = 0 then nBnd (callN X d 129 [vR 30 0] (M, w, true, true, l, t, u)) (fun v s2 => nR X (callN X d) hX7_not 98 [vR 30 0, vI x1, vI (1 : Int32), vX] (v.toList ++ []) s2) else nBnd (callN X d 129 [vR 30 0] (M, w, true, true, l, t, u)) (fun v s2 => nR X (callN X d) hX7_not 98 [vR 30 0, vI x1, vI (0 : Int32), vX] (v.toList ++ []) s2) :=
  (nR_itc X _ _ c_X7_not 11 _ _ _ _).trans rfl
set_option maxRecDepth 100000 in
theorem bX7_not_98 (d : Nat) (x1 : Int32) (x2 : Int32) (M : MM) (w : Int64) (l : List (Nat × Nat × Nat)) (t u : Nat) : nR X (callN X d) hX7_not 98 [vR 30 0, vI x1, vI x2, vX] [] (M, w, true, true, l, t, u) = nBnd (callN X d 138 [vR 30 0] (M, w, true, true, l, t, u)) (fun v s2 => nR X (callN X d) hX7_not 102 [vR 30 0, vI x1, vI x2, vX] (v.toList ++ []) s2) :=
  (nR_itc X _ _ c_X7_not 2 _ _ _ _).trans rfl
set_option maxRecDepth 100000 in
theorem bX7_not_102 (d : Nat) (x1 : Int32) (x2 : Int32) (y0 : Int32) (M : MM) (w : Int64) (l : List (Nat × Nat × Nat)) (t u : Nat) : nR X (callN X d) hX7_not 102 [vR 30 0, vI x1, vI x2, vX] [vI y0] (M, w, true, true, l, t, u) = if x2 = 0 then if x1 = y0 then some (some (vI (1 : Int32)), (M, w, true, true, l, t, u)) else some (some (vI (0 : Int32)), (M, w, true, true, l, t, u)) else if y0 ≤ x1 then some (some (vI (0 : Int32)), (M, w, true, true, l, t, u)) else some (some (vI (1 : Int32)), (M, w, true, true, l, t, u)) :=
  (nR_itc X _ _ c_X7_not 10 _ _ _ _).trans rfl
def c_X7_both : List Nat := [4, 5, 20, 27, 31]
set_option maxRecDepth 100000 in
theorem bX7_both_0 (d : Nat) (M : MM) (w : Int64) (l : List (Nat × Nat × Nat)) (t u : Nat) : nR X (callN X d) hX7_both 0 [vR 30 0, vX, vX] [] (M, w, true, true, l, t, u) = nBnd (callN X d 139 [vR 30 0] (M, w, true, true, l, t, u)) (fun v s2 => nR X (callN X d) hX7_both 4 [vR 30 0, vX, vX] (v.toList ++ []) s2) :=
  (nR_itc X _ _ c_X7_both 2 _ _ _ _).trans rfl
set_option maxRecDepth 100000 in
theorem bX7_both_4 (d : Nat) (y0 : Int32) (M : MM) (w : Int64) (l : List (Nat × Nat × Nat)) (t u : Nat) : nR X (callN X d) hX7_both 4 [vR 30 0, vX, vX] [vI y0] (M, w, true, true, l, t, u) = nR X (callN X d) hX7_both 5 [vR 30 0, vI y0, vX] [] (M, w, true, true, l, t, u) :=
  (nR_itc X _ _ c_X7_both 1 _ _ _ _).trans rfl
set_option maxRecDepth 100000 in
theorem bX7_both_5 (d : Nat) (x1 : Int32) (x2 : AV) (M : MM) (w : Int64) (l : List (Nat × Nat × Nat)) (t u : Nat) : nR X (callN X d) hX7_both 5 [vR 30 0, vI x1, x2] [] (M, w, true, true, l, t, u) = nBnd (callN X d 132 [vR 30 0, vI (97 : Int32), vI (110 : Int32), vI (100 : Int32), vI (0 : Int32), vI (0 : Int32), vI (0 : Int32), vI (0 : Int32), vI (0 : Int32)] (M, w, true, true, l, t, u)) (fun v s2 => nR X (callN X d) hX7_both 20 [vR 30 0, vI x1, x2] (v.toList ++ []) s2) :=
  (nR_itc X _ _ c_X7_both 10 _ _ _ _).trans rfl
set_option maxRecDepth 100000 in
theorem bX7_both_20 (d : Nat) (x1 : Int32) (x2 : AV) (y0 : Int32) (M : MM) (w : Int64) (l : List (Nat × Nat × Nat)) (t u : Nat) : nR X (callN X d) hX7_both 20 [vR 30 0, vI x1, x2] [vI y0] (M, w, true, true, l, t, u) = if y0 = 0 then some (some (vI x1), (M, w, true, true, l, t, u)) else nBnd (callN X d 129 [vR 30 0] (M, w, true, true, l, t, u)) (fun v s2 => nR X (callN X d) hX7_both 27 [vR 30 0, vI x1, x2] (v.toList ++ []) s2) :=
  (nR_itc X _ _ c_X7_both 3 _ _ _ _).trans rfl
set_option maxRecDepth 100000 in
theorem bX7_both_27 (d : Nat) (x1 : Int32) (x2 : AV) (M : MM) (w : Int64) (l : List (Nat × Nat × Nat)) (t u : Nat) : nR X (callN X d) hX7_both 27 [vR 30 0, vI x1, x2] [] (M, w, true, true, l, t, u) = nBnd (callN X d 139 [vR 30 0] (M, w, true, true, l, t, u)) (fun v s2 => nR X (callN X d) hX7_both 31 [vR 30 0, vI x1, x2] (v.toList ++ []) s2) :=
  (nR_itc X _ _ c_X7_both 2 _ _ _ _).trans rfl
set_option maxRecDepth 100000 in
theorem bX7_both_31 (d : Nat) (x1 : Int32) (x2 : AV) (y0 : Int32) (M : MM) (w : Int64) (l : List (Nat × Nat × Nat)) (t u : Nat) : nR X (callN X d) hX7_both 31 [vR 30 0, vI x1, x2] [vI y0] (M, w, true, true, l, t, u) = if x1 = 0 then nR X (callN X d) hX7_both 5 [vR 30 0, vI (0 : Int32), vI y0] [] (M, w, true, true, l, t, u) else if y0 = 0 then nR X (callN X d) hX7_both 5 [vR 30 0, vI (0 : Int32), vI y0] [] (M, w, true, true, l, t, u) else nR X (callN X d) hX7_both 5 [vR 30 0, vI (1 : Int32), vI y0] [] (M, w, true, true, l, t, u) :=
  (nR_itc X _ _ c_X7_both 9 _ _ _ _).trans rfl
def c_X7_either : List Nat := [4, 5, 19, 26, 30]
set_option maxRecDepth 100000 in
theorem bX7_either_0 (d : Nat) (M : MM) (w : Int64) (l : List (Nat × Nat × Nat)) (t u : Nat) : nR X (callN X d) hX7_either 0 [vR 30 0, vX, vX] [] (M, w, true, true, l, t, u) = nBnd (callN X d 140 [vR 30 0] (M, w, true, true, l, t, u)) (fun v s2 => nR X (callN X d) hX7_either 4 [vR 30 0, vX, vX] (v.toList ++ []) s2) :=
  (nR_itc X _ _ c_X7_either 2 _ _ _ _).trans rfl
set_option maxRecDepth 100000 in
theorem bX7_either_4 (d : Nat) (y0 : Int32) (M : MM) (w : Int64) (l : List (Nat × Nat × Nat)) (t u : Nat) : nR X (callN X d) hX7_either 4 [vR 30 0, vX, vX] [vI y0] (M, w, true, true, l, t, u) = nR X (callN X d) hX7_either 5 [vR 30 0, vI y0, vX] [] (M, w, true, true, l, t, u) :=
  (nR_itc X _ _ c_X7_either 1 _ _ _ _).trans rfl
set_option maxRecDepth 100000 in
theorem bX7_either_5 (d : Nat) (x1 : Int32) (x2 : AV) (M : MM) (w : Int64) (l : List (Nat × Nat × Nat)) (t u : Nat) : nR X (callN X d) hX7_either 5 [vR 30 0, vI x1, x2] [] (M, w, true, true, l, t, u) = nBnd (callN X d 132 [vR 30 0, vI (111 : Int32), vI (114 : Int32), vI (0 : Int32), vI (0 : Int32), vI (0 : Int32), vI (0 : Int32), vI (0 : Int32), vI (0 : Int32)] (M, w, true, true, l, t, u)) (fun v s2 => nR X (callN X d) hX7_either 19 [vR 30 0, vI x1, x2] (v.toList ++ []) s2) :=
  (nR_itc X _ _ c_X7_either 10 _ _ _ _).trans rfl
set_option maxRecDepth 100000 in
theorem bX7_either_19 (d : Nat) (x1 : Int32) (x2 : AV) (y0 : Int32) (M : MM) (w : Int64) (l : List (Nat × Nat × Nat)) (t u : Nat) : nR X (callN X d) hX7_either 19 [vR 30 0, vI x1, x2] [vI y0] (M, w, true, true, l, t, u) = if y0 = 0 then some (some (vI x1), (M, w, true, true, l, t, u)) else nBnd (callN X d 129 [vR 30 0] (M, w, true, true, l, t, u)) (fun v s2 => nR X (callN X d) hX7_either 26 [vR 30 0, vI x1, x2] (v.toList ++ []) s2) :=
  (nR_itc X _ _ c_X7_either 3 _ _ _ _).trans rfl
set_option maxRecDepth 100000 in
theorem bX7_either_26 (d : Nat) (x1 : Int32) (x2 : AV) (M : MM) (w : Int64) (l : List (Nat × Nat × Nat)) (t u : Nat) : nR X (callN X d) hX7_either 26 [vR 30 0, vI x1, x2] [] (M, w, true, true, l, t, u) = nBnd (callN X d 140 [vR 30 0] (M, w, true, true, l, t, u)) (fun v s2 => nR X (callN X d) hX7_either 30 [vR 30 0, vI x1, x2] (v.toList ++ []) s2) :=
  (nR_itc X _ _ c_X7_either 2 _ _ _ _).trans rfl
set_option maxRecDepth 100000 in
theorem bX7_either_30 (d : Nat) (x1 : Int32) (x2 : AV) (y0 : Int32) (M : MM) (w : Int64) (l : List (Nat × Nat × Nat)) (t u : Nat) : nR X (callN X d) hX7_either 30 [vR 30 0, vI x1, x2] [vI y0] (M, w, true, true, l, t, u) = if x1 = 0 then if y0 = 0 then nR X (callN X d) hX7_either 5 [vR 30 0, vI (0 : Int32), vI y0] [] (M, w, true, true, l, t, u) else nR X (callN X d) hX7_either 5 [vR 30 0, vI (1 : Int32), vI y0] [] (M, w, true, true, l, t, u) else nR X (callN X d) hX7_either 5 [vR 30 0, vI (1 : Int32), vI y0] [] (M, w, true, true, l, t, u) :=
  (nR_itc X _ _ c_X7_either 9 _ _ _ _).trans rfl
def c_X7_part : List Nat := [8, 19, 34, 41, 48, 59]
set_option maxRecDepth 100000 in
theorem bX7_part_0 (d : Nat) (a1 : Int32) (M : MM) (w : Int64) (l : List (Nat × Nat × Nat)) (t u : Nat) : nR X (callN X d) hX7_part 0 [vR 30 0, vI a1, vX] [] (M, w, true, true, l, t, u) = if a1 = 0 then nBnd (callN X d 130 [vR 30 0] (M, w, true, true, l, t, u)) (fun v s2 => nR X (callN X d) hX7_part 8 [vR 30 0, vI a1, vX] (v.toList ++ []) s2) else nR X (callN X d) hX7_part 8 [vR 30 0, vI a1, vX] [] (M, w, true, true, l, t, u) :=
  (nR_itc X _ _ c_X7_part 4 _ _ _ _).trans rfl
set_option maxRecDepth 100000 in
theorem bX7_part_8 (d : Nat) (x1 : Int32) (M : MM) (w : Int64) (l : List (Nat × Nat × Nat)) (t u : Nat) : nR X (callN X d) hX7_part 8 [vR 30 0, vI x1, vX] [] (M, w, true, true, l, t, u) = if (M 30 0 26) = 0 then nBnd (callN X d 129 [vR 30 0] (M, w, true, true, l, t, u)) (fun v s2 => nR X (callN X d) hX7_part 19 [vR 30 0, vI x1, vX] (v.toList ++ []) s2) else nR X (callN X d) hX7_part 19 [vR 30 0, vI x1, vX] [] (M, w, true, true, l, t, u) :=
  (nR_itc X _ _ c_X7_part 5 _ _ _ _).trans rfl
set_option maxRecDepth 100000 in
theorem bX7_part_19 (d : Nat) (x1 : Int32) (M : MM) (w : Int64) (l : List (Nat × Nat × Nat)) (t u : Nat) : nR X (callN X d) hX7_part 19 [vR 30 0, vI x1, vX] [] (M, w, true, true, l, t, u) = if (M 30 0 26) = 0 then nBnd (callN X d 141 [vR 30 0] (M, w, true, true, l, t, u)) (fun v s2 => nR X (callN X d) hX7_part 34 [vR 30 0, vI x1, vX] (v.toList ++ []) s2) else nR X (callN X d) hX7_part 34 [vR 30 0, vI x1, vX] [vI (0 : Int32)] (M, w, true, true, l, t, u) :=
  (nR_itc X _ _ c_X7_part 5 _ _ _ _).trans rfl
set_option maxRecDepth 100000 in
theorem bX7_part_34 (d : Nat) (x1 : Int32) (y0 : Int32) (M : MM) (w : Int64) (l : List (Nat × Nat × Nat)) (t u : Nat) : nR X (callN X d) hX7_part 34 [vR 30 0, vI x1, vX] [vI y0] (M, w, true, true, l, t, u) = nBnd (callN X d 133 [vR 30 0, vI (59 : Int32)] (M, w, true, true, l, t, u)) (fun v s2 => nR X (callN X d) hX7_part 41 [vR 30 0, vI x1, vI y0] (v.toList ++ []) s2) :=
  (nR_itc X _ _ c_X7_part 4 _ _ _ _).trans rfl
set_option maxRecDepth 100000 in
theorem bX7_part_41 (d : Nat) (x1 : Int32) (x2 : Int32) (y0 : Int32) (M : MM) (w : Int64) (l : List (Nat × Nat × Nat)) (t u : Nat) : nR X (callN X d) hX7_part 41 [vR 30 0, vI x1, vI x2] [vI y0] (M, w, true, true, l, t, u) = if y0 = 0 then nBnd (callN X d 130 [vR 30 0] (M, w, true, true, l, t, u)) (fun v s2 => nR X (callN X d) hX7_part 48 [vR 30 0, vI x1, vI x2] (v.toList ++ []) s2) else nR X (callN X d) hX7_part 48 [vR 30 0, vI x1, vI x2] [] (M, w, true, true, l, t, u) :=
  (nR_itc X _ _ c_X7_part 3 _ _ _ _).trans rfl
set_option maxRecDepth 100000 in
theorem bX7_part_48 (d : Nat) (x1 : Int32) (x2 : Int32) (M : MM) (w : Int64) (l : List (Nat × Nat × Nat)) (t u : Nat) : nR X (callN X d) hX7_part 48 [vR 30 0, vI x1, vI x2] [] (M, w, true, true, l, t, u) = if (M 30 0 26) = 0 then nBnd (callN X d 129 [vR 30 0] (M, w, true, true, l, t, u)) (fun v s2 => nR X (callN X d) hX7_part 59 [vR 30 0, vI x1, vI x2] (v.toList ++ []) s2) else nR X (callN X d) hX7_part 59 [vR 30 0, vI x1, vI x2] [] (M, w, true, true, l, t, u) :=
  (nR_itc X _ _ c_X7_part 5 _ _ _ _).trans rfl
set_option maxRecDepth 100000 in
theorem bX7_part_59 (d : Nat) (x1 : Int32) (x2 : Int32) (M : MM) (w : Int64) (l : List (Nat × Nat × Nat)) (t u : Nat) : nR X (callN X d) hX7_part 59 [vR 30 0, vI x1, vI x2] [] (M, w, true, true, l, t, u) = some (some (vI x2), (M, w, true, true, l, t, u)) :=
  (nR_itc X _ _ c_X7_part 2 _ _ _ _).trans rfl
def c_X7_read : List Nat := [38, 56, 59, 89, 92, 122, 125, 145]
set_option maxRecDepth 100000 in
theorem bX7_read_0 (d : Nat) (a1 : Int32) (a2 : Int32) (M : MM) (w : Int64) (l : List (Nat × Nat × Nat)) (t u : Nat) : nR X (callN X d) hX7_read 0 [vR 30 0, vI a1, vI a2, vX, vX, vX] [] (M, w, true, true, l, t, u) = cond (nIn a1 6) (nBnd (callN X d 129 [vR 30 0] ((nSt (nSt (nSt (nSt (nSt M 30 0 19 ((160 : Int32) * a1)) 30 0 20 ((nSt M 30 0 19 ((160 : Int32) * a1)) 32 0 (a1).toNatClampNeg)) 30 0 21 (0 : Int32)) 30 0 25 (0 : Int32)) 30 0 26 (0 : Int32)), w, true, true, l, t, u)) (fun v s2 => nR X (callN X d) hX7_read 38 [vR 30 0, vI a1, vI a2, vX, vX, vX] (v.toList ++ []) s2)) none :=
  (nR_itc X _ _ c_X7_read 22 _ _ _ _).trans rfl
set_option maxRecDepth 100000 in
theorem bX7_read_38 (d : Nat) (x1 : Int32) (x2 : Int32) (M : MM) (w : Int64) (l : List (Nat × Nat × Nat)) (t u : Nat) : nR X (callN X d) hX7_read 38 [vR 30 0, vI x1, vI x2, vX, vX, vX] [] (M, w, true, true, l, t, u) = nBnd (callN X d 132 [vR 30 0, vI (116 : Int32), vI (97 : Int32), vI (107 : Int32), vI (101 : Int32), vI (115 : Int32), vI (0 : Int32), vI (0 : Int32), vI (0 : Int32)] (M, w, true, true, l, t, u)) (fun v s2 => nR X (callN X d) hX7_read 56 [vR 30 0, vI x1, vI x2, vX, vX, vX] (v.toList ++ [vR 30 0]) s2) :=
  (nR_itc X _ _ c_X7_read 11 _ _ _ _).trans rfl
set_option maxRecDepth 100000 in
theorem bX7_read_56 (d : Nat) (x1 : Int32) (x2 : Int32) (y0 : Int32) (M : MM) (w : Int64) (l : List (Nat × Nat × Nat)) (t u : Nat) : nR X (callN X d) hX7_read 56 [vR 30 0, vI x1, vI x2, vX, vX, vX] [vI y0, vR 30 0] (M, w, true, true, l, t, u) = nBnd (callN X d 142 [vR 30 0, vI y0] (M, w, true, true, l, t, u)) (fun v s2 => nR X (callN X d) hX7_read 59 [vR 30 0, vI x1, vI x2, vX, vX, vX] (v.toList ++ []) s2) :=
  (nR_itc X _ _ c_X7_read 1 _ _ _ _).trans rfl
set_option maxRecDepth 100000 in
theorem bX7_read_59 (d : Nat) (x1 : Int32) (x2 : Int32) (y0 : Int32) (M : MM) (w : Int64) (l : List (Nat × Nat × Nat)) (t u : Nat) : nR X (callN X d) hX7_read 59 [vR 30 0, vI x1, vI x2, vX, vX, vX] [vI y0] (M, w, true, true, l, t, u) = if (M 30 0 26) = 0 then nBnd (callN X d 132 [vR 30 0, vI (107 : Int32), vI (101 : Int32), vI (101 : Int32), vI (112 : Int32), vI (115 : Int32), vI (0 : Int32), vI (0 : Int32), vI (0 : Int32)] (M, w, true, true, l, t, u)) (fun v s2 => nR X (callN X d) hX7_read 89 [vR 30 0, vI x1, vI x2, vI y0, vX, vX] (v.toList ++ [vR 30 0]) s2) else nR X (callN X d) hX7_read 92 [vR 30 0, vI x1, vI x2, vI y0, vX, vX] [vI (0 : Int32)] (M, w, true, true, l, t, u) :=
  (nR_itc X _ _ c_X7_read 15 _ _ _ _).trans rfl
set_option maxRecDepth 100000 in
theorem bX7_read_89 (d : Nat) (x1 : Int32) (x2 : Int32) (x3 : Int32) (y0 : Int32) (M : MM) (w : Int64) (l : List (Nat × Nat × Nat)) (t u : Nat) : nR X (callN X d) hX7_read 89 [vR 30 0, vI x1, vI x2, vI x3, vX, vX] [vI y0, vR 30 0] (M, w, true, true, l, t, u) = nBnd (callN X d 142 [vR 30 0, vI y0] (M, w, true, true, l, t, u)) (fun v s2 => nR X (callN X d) hX7_read 92 [vR 30 0, vI x1, vI x2, vI x3, vX, vX] (v.toList ++ []) s2) :=
  (nR_itc X _ _ c_X7_read 1 _ _ _ _).trans rfl
set_option maxRecDepth 100000 in
theorem bX7_read_92 (d : Nat) (x1 : Int32) (x2 : Int32) (x3 : Int32) (y0 : Int32) (M : MM) (w : Int64) (l : List (Nat × Nat × Nat)) (t u : Nat) : nR X (callN X d) hX7_read 92 [vR 30 0, vI x1, vI x2, vI x3, vX, vX] [vI y0] (M, w, true, true, l, t, u) = if (M 30 0 26) = 0 then nBnd (callN X d 132 [vR 30 0, vI (115 : Int32), vI (117 : Int32), vI (114 : Int32), vI (101 : Int32), vI (0 : Int32), vI (0 : Int32), vI (0 : Int32), vI (0 : Int32)] (M, w, true, true, l, t, u)) (fun v s2 => nR X (callN X d) hX7_read 122 [vR 30 0, vI x1, vI x2, vI x3, vI y0, vX] (v.toList ++ [vR 30 0]) s2) else nR X (callN X d) hX7_read 125 [vR 30 0, vI x1, vI x2, vI x3, vI y0, vX] [vI (0 : Int32)] (M, w, true, true, l, t, u) :=
  (nR_itc X _ _ c_X7_read 15 _ _ _ _).trans rfl
set_option maxRecDepth 100000 in
theorem bX7_read_122 (d : Nat) (x1 : Int32) (x2 : Int32) (x3 : Int32) (x4 : Int32) (y0 : Int32) (M : MM) (w : Int64) (l : List (Nat × Nat × Nat)) (t u : Nat) : nR X (callN X d) hX7_read 122 [vR 30 0, vI x1, vI x2, vI x3, vI x4, vX] [vI y0, vR 30 0] (M, w, true, true, l, t, u) = nBnd (callN X d 142 [vR 30 0, vI y0] (M, w, true, true, l, t, u)) (fun v s2 => nR X (callN X d) hX7_read 125 [vR 30 0, vI x1, vI x2, vI x3, vI x4, vX] (v.toList ++ []) s2) :=
  (nR_itc X _ _ c_X7_read 1 _ _ _ _).trans rfl
set_option maxRecDepth 100000 in
theorem bX7_read_125 (d : Nat) (x1 : Int32) (x2 : Int32) (x3 : Int32) (x4 : Int32) (y0 : Int32) (M : MM) (w : Int64) (l : List (Nat × Nat × Nat)) (t u : Nat) : nR X (callN X d) hX7_read 125 [vR 30 0, vI x1, vI x2, vI x3, vI x4, vX] [vI y0] (M, w, true, true, l, t, u) = if (M 30 0 26) = 0 then if (M 30 0 22) = 0 then nR X (callN X d) hX7_read 145 [vR 30 0, vI x1, vI x2, vI x3, vI x4, vI y0] [] (M, w, true, true, l, t, u) else nBnd (callN X d 130 [vR 30 0] (M, w, true, true, l, t, u)) (fun v s2 => nR X (callN X d) hX7_read 145 [vR 30 0, vI x1, vI x2, vI x3, vI x4, vI y0] (v.toList ++ []) s2) else nR X (callN X d) hX7_read 145 [vR 30 0, vI x1, vI x2, vI x3, vI x4, vI y0] [] (M, w, true, true, l, t, u) :=
  (nR_itc X _ _ c_X7_read 9 _ _ _ _).trans rfl
set_option maxRecDepth 100000 in
theorem bX7_read_145 (d : Nat) (x1 : Int32) (x2 : Int32) (x3 : Int32) (x4 : Int32) (x5 : Int32) (M : MM) (w : Int64) (l : List (Nat × Nat × Nat)) (t u : Nat) : nR X (callN X d) hX7_read 145 [vR 30 0, vI x1, vI x2, vI x3, vI x4, vI x5] [] (M, w, true, true, l, t, u) = if x2 = 0 then some (some (vI x3), (M, w, true, true, l, t, u)) else if x2 = (1 : Int32) then some (some (vI x4), (M, w, true, true, l, t, u)) else some (some (vI x5), (M, w, true, true, l, t, u)) :=
  (nR_itc X _ _ c_X7_read 8 _ _ _ _).trans rfl
def c_X7_text : List Nat := [14, 76]
set_option maxRecDepth 100000 in
theorem bX7_text_0 (d : Nat) (M : MM) (w : Int64) (l : List (Nat × Nat × Nat)) (t u : Nat) : nR X (callN X d) hX7_text 0 [vR 30 0, vX] [] (M, w, true, true, l, t, u) = if (M 30 0 3) = (6 : Int32) then some (some (vI (-4 : Int32)), (M, w, true, true, l, t, u)) else nR X (callN X d) hX7_text 14 [vR 30 0, vI (0 : Int32)] [] (M, w, true, true, l, t, u) :=
  (nR_itc X _ _ c_X7_text 6 _ _ _ _).trans rfl
set_option maxRecDepth 100000 in
theorem bX7_text_14 (d : Nat) (x1 : Int32) (M : MM) (w : Int64) (l : List (Nat × Nat × Nat)) (t u : Nat) : nR X (callN X d) hX7_text 14 [vR 30 0, vI x1] [] (M, w, true, true, l, t, u) = if (M 30 0 6) ≤ x1 then cond (nIn (M 30 0 3) 6) (nBnd (callN X d 143 [vR 30 0, vI ((nSt (nSt M 32 0 ((M 30 0 3)).toNatClampNeg (M 30 0 6)) 30 0 6 (0 : Int32)) 30 0 3), vI (0 : Int32)] ((nSt (nSt M 32 0 ((M 30 0 3)).toNatClampNeg (M 30 0 6)) 30 0 6 (0 : Int32)), w, true, true, l, t, u)) (fun v s2 => nR X (callN X d) hX7_text 76 [vR 30 0, vI x1] (v.toList ++ []) s2)) none else cond (nIn x1 160) (cond (nIn (((160 : Int32) * (M 30 0 3)) + x1) 960) (nR X (callN X d) hX7_text 14 [vR 30 0, vI (x1 + (1 : Int32))] [] ((nSt M 31 0 ((((160 : Int32) * (M 30 0 3)) + x1)).toNatClampNeg (M 33 0 (x1).toNatClampNeg)), w, true, true, l, t, u)) none) none :=
  (nR_itc X _ _ c_X7_text 19 _ _ _ _).trans rfl
set_option maxRecDepth 100000 in
theorem bX7_text_76 (d : Nat) (x1 : Int32) (y0 : Int32) (M : MM) (w : Int64) (l : List (Nat × Nat × Nat)) (t u : Nat) : nR X (callN X d) hX7_text 76 [vR 30 0, vI x1] [vI y0] (M, w, true, true, l, t, u) = if (M 30 0 26) = 0 then some (some (vI (((nSt M 30 0 3 ((M 30 0 3) + (1 : Int32))) 30 0 3) - (1 : Int32))), ((nSt M 30 0 3 ((M 30 0 3) + (1 : Int32))), w, true, true, l, t, u)) else some (some (vI ((-100 : Int32) - (M 30 0 27))), (M, w, true, true, l, t, u)) :=
  (nR_itc X _ _ c_X7_text 15 _ _ _ _).trans rfl
def c_X7_force : List Nat := [13]
set_option maxRecDepth 100000 in
theorem bX7_force_0 (d : Nat) (a1 : Int32) (M : MM) (w : Int64) (l : List (Nat × Nat × Nat)) (t u : Nat) : nR X (callN X d) hX7_force 0 [vR 30 0, vI a1, vX] [] (M, w, true, true, l, t, u) = nBnd (callN X d 111 [vL (a1).toInt64, vL (0 : Int64), vL (((M 30 0 3) - (1 : Int32))).toInt64] (M, w, true, true, l, t, u)) (fun v s2 => nR X (callN X d) hX7_force 13 [vR 30 0, vI a1, vX] (v.toList ++ []) s2) :=
  (nR_itc X _ _ c_X7_force 9 _ _ _ _).trans rfl
set_option maxRecDepth 100000 in
theorem bX7_force_13 (d : Nat) (x1 : Int32) (y0 : Int32) (M : MM) (w : Int64) (l : List (Nat × Nat × Nat)) (t u : Nat) : nR X (callN X d) hX7_force 13 [vR 30 0, vI x1, vX] [vI y0] (M, w, true, true, l, t, u) = if y0 = 0 then some (some (vI (-2 : Int32)), (M, w, true, true, l, t, u)) else some (some (vI (M 30 0 4)), ((nSt M 30 0 4 x1), w, true, true, l, t, u)) :=
  (nR_itc X _ _ c_X7_force 9 _ _ _ _).trans rfl
def c_X7_says : List Nat := [52, 68]
set_option maxRecDepth 100000 in
theorem bX7_says_0 (d : Nat) (a1 : Int32) (a2 : Int32) (a3 : Int32) (a4 : Int32) (a5 : Int32) (a6 : Int32) (M : MM) (w : Int64) (l : List (Nat × Nat × Nat)) (t u : Nat) : nR X (callN X d) hX7_says 0 [vR 30 0, vI a1, vI a2, vI a3, vI a4, vI a5, vI a6] [] (M, w, true, true, l, t, u) = cond (nIn ((2 : Int32) * a2) 10) (nBnd (callN X d 143 [vR 30 0, vI ((nSt (nSt (nSt (nSt (nSt (nSt M 30 0 13 a4) 30 0 14 a3) 30 0 15 ((nSt (nSt M 30 0 13 a4) 30 0 14 a3) 36 0 (((2 : Int32) * a2)).toNatClampNeg)) 30 0 16 ((nSt (nSt (nSt M 30 0 13 a4) 30 0 14 a3) 30 0 15 ((nSt (nSt M 30 0 13 a4) 30 0 14 a3) 36 0 (((2 : Int32) * a2)).toNatClampNeg)) 30 0 7)) 30 0 17 a5) 30 0 18 a6) 30 0 4), vI a1] ((nSt (nSt (nSt (nSt (nSt (nSt M 30 0 13 a4) 30 0 14 a3) 30 0 15 ((nSt (nSt M 30 0 13 a4) 30 0 14 a3) 36 0 (((2 : Int32) * a2)).toNatClampNeg)) 30 0 16 ((nSt (nSt (nSt M 30 0 13 a4) 30 0 14 a3) 30 0 15 ((nSt (nSt M 30 0 13 a4) 30 0 14 a3) 36 0 (((2 : Int32) * a2)).toNatClampNeg)) 30 0 7)) 30 0 17 a5) 30 0 18 a6), w, true, true, l, t, u)) (fun v s2 => nR X (callN X d) hX7_says 52 [vR 30 0, vI a1, vI a2, vI a3, vI a4, vI a5, vI a6] (v.toList ++ []) s2)) none :=
  (nR_itc X _ _ c_X7_says 29 _ _ _ _).trans rfl
set_option maxRecDepth 100000 in
theorem bX7_says_52 (d : Nat) (x1 : Int32) (x2 : Int32) (x3 : Int32) (x4 : Int32) (x5 : Int32) (x6 : Int32) (y0 : Int32) (M : MM) (w : Int64) (l : List (Nat × Nat × Nat)) (t u : Nat) : nR X (callN X d) hX7_says 52 [vR 30 0, vI x1, vI x2, vI x3, vI x4, vI x5, vI x6] [vI y0] (M, w, true, true, l, t, u) = if x1 = (1 : Int32) then nBnd (callN X d 112 [vI y0, vI (0 : Int32), vI (100 : Int32)] (M, w, true, true, l, t, u)) (fun v s2 => nR X (callN X d) hX7_says 68 [vR 30 0, vI x1, vI x2, vI x3, vI x4, vI x5, vI x6] (v.toList ++ []) s2) else nBnd (callN X d 112 [vI y0, vI (0 : Int32), vI (99 : Int32)] (M, w, true, true, l, t, u)) (fun v s2 => nR X (callN X d) hX7_says 68 [vR 30 0, vI x1, vI x2, vI x3, vI x4, vI x5, vI x6] (v.toList ++ []) s2) :=
  (nR_itc X _ _ c_X7_says 7 _ _ _ _).trans rfl
set_option maxRecDepth 100000 in
theorem bX7_says_68 (d : Nat) (x1 : Int32) (x2 : Int32) (x3 : Int32) (x4 : Int32) (x5 : Int32) (x6 : Int32) (y0 : Int32) (M : MM) (w : Int64) (l : List (Nat × Nat × Nat)) (t u : Nat) : nR X (callN X d) hX7_says 68 [vR 30 0, vI x1, vI x2, vI x3, vI x4, vI x5, vI x6] [vI y0] (M, w, true, true, l, t, u) = some (some (vI y0), (M, w, true, true, l, t, u)) :=
  (nR_itc X _ _ c_X7_says 1 _ _ _ _).trans rfl
def c_X7_takesOf : List Nat := [51, 139]
set_option maxRecDepth 100000 in
theorem bX7_takesOf_0 (d : Nat) (a1 : Int32) (a2 : Int32) (a3 : Int32) (M : MM) (w : Int64) (l : List (Nat × Nat × Nat)) (t u : Nat) : nR X (callN X d) hX7_takesOf 0 [vR 30 0, vI a1, vI a2, vI a3, vX, vX, vX, vX] [] (M, w, true, true, l, t, u) = cond (nIn a1 5) (cond (nIn ((2 : Int32) * a1) 10) (if (M 35 0 (a1).toNatClampNeg) = (4 : Int32) then if a2 = (5 : Int32) then some (some (vI (0 : Int32)), (M, w, true, true, l, t, u)) else cond (nIn (((6 : Int32) * a3) + a2) 36) (nBnd (callN X d 146 [vR 30 0, vI (0 : Int32), vI a1, vI a2, vI (M 34 0 ((((6 : Int32) * a3) + a2)).toNatClampNeg), vI a3, vI (0 : Int32)] (M, w, true, true, l, t, u)) (fun v s2 => nR X (callN X d) hX7_takesOf 51 [vR 30 0, vI a1, vI a2, vI a3, vI (M 35 0 (a1).toNatClampNeg), vI (M 36 0 (((2 : Int32) * a1)).toNatClampNeg), vX, vX] (v.toList ++ []) s2)) none else cond (nIn (((6 : Int32) * a3) + a2) 36) (nBnd (callN X d 146 [vR 30 0, vI (0 : Int32), vI a1, vI a2, vI (M 34 0 ((((6 : Int32) * a3) + a2)).toNatClampNeg), vI a3, vI (0 : Int32)] (M, w, true, true, l, t, u)) (fun v s2 => nR X (callN X d) hX7_takesOf 51 [vR 30 0, vI a1, vI a2, vI a3, vI (M 35 0 (a1).toNatClampNeg), vI (M 36 0 (((2 : Int32) * a1)).toNatClampNeg), vX, vX] (v.toList ++ []) s2)) none) none) none :=
  (nR_itc X _ _ c_X7_takesOf 33 _ _ _ _).trans rfl
set_option maxRecDepth 100000 in
theorem bX7_takesOf_51 (d : Nat) (x1 : Int32) (x2 : Int32) (x3 : Int32) (x4 : Int32) (x5 : Int32) (y0 : Int32) (M : MM) (w : Int64) (l : List (Nat × Nat × Nat)) (t u : Nat) : nR X (callN X d) hX7_takesOf 51 [vR 30 0, vI x1, vI x2, vI x3, vI x4, vI x5, vX, vX] [vI y0] (M, w, true, true, l, t, u) = if x4 = (1 : Int32) then nBnd (callN X d 112 [vI ((2 : Int32) * y0), vI (0 : Int32), vI (99 : Int32)] (M, w, true, true, l, t, u)) (fun v s2 => nR X (callN X d) hX7_takesOf 139 [vR 30 0, vI x1, vI x2, vI x3, vI x4, vI x5, vI y0, vI ((2 : Int32) * y0)] (v.toList ++ []) s2) else if x4 = (3 : Int32) then if (6 : Int32) = 0 then none else if x2 = (x5 - x5 / (6 : Int32) * (6 : Int32)) then nBnd (callN X d 112 [vI (((2 : Int32) * y0) + x5), vI (0 : Int32), vI (99 : Int32)] (M, w, true, true, l, t, u)) (fun v s2 => nR X (callN X d) hX7_takesOf 139 [vR 30 0, vI x1, vI x2, vI x3, vI x4, vI x5, vI y0, vI (((2 : Int32) * y0) + x5)] (v.toList ++ []) s2) else nBnd (callN X d 112 [vI (((2 : Int32) * y0) + (0 : Int32)), vI (0 : Int32), vI (99 : Int32)] (M, w, true, true, l, t, u)) (fun v s2 => nR X (callN X d) hX7_takesOf 139 [vR 30 0, vI x1, vI x2, vI x3, vI x4, vI x5, vI y0, vI (((2 : Int32) * y0) + (0 : Int32))] (v.toList ++ []) s2) else if x4 = (2 : Int32) then if (2 : Int32) = 0 then none else nBnd (callN X d 112 [vI (y0 / (2 : Int32)), vI (0 : Int32), vI (99 : Int32)] (M, w, true, true, l, t, u)) (fun v s2 => nR X (callN X d) hX7_takesOf 139 [vR 30 0, vI x1, vI x2, vI x3, vI x4, vI x5, vI y0, vI (y0 / (2 : Int32))] (v.toList ++ []) s2) else if x4 = (4 : Int32) then if (2 : Int32) = 0 then none else nBnd (callN X d 112 [vI (y0 / (2 : Int32)), vI (0 : Int32), vI (99 : Int32)] (M, w, true, true, l, t, u)) (fun v s2 => nR X (callN X d) hX7_takesOf 139 [vR 30 0, vI x1, vI x2, vI x3, vI x4, vI x5, vI y0, vI (y0 / (2 : Int32))] (v.toList ++ []) s2) else if x4 = (5 : Int32) then nBnd (callN X d 112 [vI (y0 + x2), vI (0 : Int32), vI (99 : Int32)] (M, w, true, true, l, t, u)) (fun v s2 => nR X (callN X d) hX7_takesOf 139 [vR 30 0, vI x1, vI x2, vI x3, vI x4, vI x5, vI y0, vI (y0 + x2)] (v.toList ++ []) s2) else nBnd (callN X d 112 [vI y0, vI (0 : Int32), vI (99 : Int32)] (M, w, true, true, l, t, u)) (fun v s2 => nR X (callN X d) hX7_takesOf 139 [vR 30 0, vI x1, vI x2, vI x3, vI x4, vI x5, vI y0, vI y0] (v.toList ++ []) s2) :=
  (nR_itc X _ _ c_X7_takesOf 25 _ _ _ _).trans rfl
set_option maxRecDepth 100000 in
theorem bX7_takesOf_139 (d : Nat) (x1 : Int32) (x2 : Int32) (x3 : Int32) (x4 : Int32) (x5 : Int32) (x6 : Int32) (x7 : Int32) (y0 : Int32) (M : MM) (w : Int64) (l : List (Nat × Nat × Nat)) (t u : Nat) : nR X (callN X d) hX7_takesOf 139 [vR 30 0, vI x1, vI x2, vI x3, vI x4, vI x5, vI x6, vI x7] [vI y0] (M, w, true, true, l, t, u) = some (some (vI y0), (M, w, true, true, l, t, u)) :=
  (nR_itc X _ _ c_X7_takesOf 1 _ _ _ _).trans rfl
def c_X7_keepsOf : List Nat := [78, 81]
set_option maxRecDepth 100000 in
theorem bX7_keepsOf_0 (d : Nat) (a1 : Int32) (a2 : Int32) (M : MM) (w : Int64) (l : List (Nat × Nat × Nat)) (t u : Nat) : nR X (callN X d) hX7_keepsOf 0 [vR 30 0, vI a1, vI a2, vX, vX, vX] [] (M, w, true, true, l, t, u) = cond (nIn a1 5) (cond (nIn (((6 : Int32) * a1) + a2) 30) (if (M 35 0 (a1).toNatClampNeg) = (5 : Int32) then if (M 35 0 (a1).toNatClampNeg) = (5 : Int32) then some (some (vI (0 : Int32)), (M, w, true, true, l, t, u)) else some (some (vI (M 37 0 ((((6 : Int32) * a1) + a2)).toNatClampNeg)), (M, w, true, true, l, t, u)) else if (M 35 0 (a1).toNatClampNeg) = (2 : Int32) then if (M 35 0 (a1).toNatClampNeg) = (5 : Int32) then some (some (vI (0 : Int32)), (M, w, true, true, l, t, u)) else some (some (vI (M 37 0 ((((6 : Int32) * a1) + a2)).toNatClampNeg)), (M, w, true, true, l, t, u)) else if (M 35 0 (a1).toNatClampNeg) = (4 : Int32) then if (10 : Int32) ≤ (M 37 0 ((((6 : Int32) * a1) + a2)).toNatClampNeg) then some (some (vI ((M 37 0 ((((6 : Int32) * a1) + a2)).toNatClampNeg) - (10 : Int32))), (M, w, true, true, l, t, u)) else some (some (vI (0 : Int32)), (M, w, true, true, l, t, u)) else nBnd (callN X d 125 [vR 30 0, vI a1] (M, w, true, true, l, t, u)) (fun v s2 => nR X (callN X d) hX7_keepsOf 78 [vR 30 0, vI a1, vI a2, vI (M 35 0 (a1).toNatClampNeg), vI (M 37 0 ((((6 : Int32) * a1) + a2)).toNatClampNeg), vX] (v.toList ++ [vI (0 : Int32), vI (M 37 0 ((((6 : Int32) * a1) + a2)).toNatClampNeg), vI a2, vI a1, vI (1 : Int32), vR 30 0, vI (M 37 0 ((((6 : Int32) * a1) + a2)).toNatClampNeg)]) s2)) none) none :=
  (nR_itc X _ _ c_X7_keepsOf 33 _ _ _ _).trans rfl
set_option maxRecDepth 100000 in
theorem bX7_keepsOf_78 (d : Nat) (x1 : Int32) (x2 : Int32) (x3 : Int32) (x4 : Int32) (y0 : Int32) (y1 : Int32) (y2 : Int32) (y3 : Int32) (y4 : Int32) (y5 : Int32) (y7 : Int32) (M : MM) (w : Int64) (l : List (Nat × Nat × Nat)) (t u : Nat) : nR X (callN X d) hX7_keepsOf 78 [vR 30 0, vI x1, vI x2, vI x3, vI x4, vX] [vI y0, vI y1, vI y2, vI y3, vI y4, vI y5, vR 30 0, vI y7] (M, w, true, true, l, t, u) = nBnd (callN X d 146 [vR 30 0, vI y5, vI y4, vI y3, vI y2, vI y1, vI y0] (M, w, true, true, l, t, u)) (fun v s2 => nR X (callN X d) hX7_keepsOf 81 [vR 30 0, vI x1, vI x2, vI x3, vI x4, vX] (v.toList ++ [vI y7]) s2) :=
  (nR_itc X _ _ c_X7_keepsOf 1 _ _ _ _).trans rfl
set_option maxRecDepth 100000 in
theorem bX7_keepsOf_81 (d : Nat) (x1 : Int32) (x2 : Int32) (x3 : Int32) (x4 : Int32) (y0 : Int32) (y1 : Int32) (M : MM) (w : Int64) (l : List (Nat × Nat × Nat)) (t u : Nat) : nR X (callN X d) hX7_keepsOf 81 [vR 30 0, vI x1, vI x2, vI x3, vI x4, vX] [vI y0, vI y1] (M, w, true, true, l, t, u) = if (100 : Int32) = 0 then none else if x3 = (3 : Int32) then if (2 : Int32) = 0 then none else some (some (vI (((y1 * y0) / (100 : Int32)) / (2 : Int32))), (M, w, true, true, l, t, u)) else some (some (vI ((y1 * y0) / (100 : Int32))), (M, w, true, true, l, t, u)) :=
  (nR_itc X _ _ c_X7_keepsOf 12 _ _ _ _).trans rfl
def c_X7_sureOf : List Nat := [53, 56, 104]
set_option maxRecDepth 100000 in
theorem bX7_sureOf_0 (d : Nat) (a1 : Int32) (a2 : Int32) (a3 : Int32) (M : MM) (w : Int64) (l : List (Nat × Nat × Nat)) (t u : Nat) : nR X (callN X d) hX7_sureOf 0 [vR 30 0, vI a1, vI a2, vI a3, vX, vX, vX] [] (M, w, true, true, l, t, u) = cond (nIn a1 5) (if (M 35 0 (a1).toNatClampNeg) = (3 : Int32) then if (M 35 0 (a1).toNatClampNeg) = (5 : Int32) then some (some (vI (1 : Int32)), (M, w, true, true, l, t, u)) else some (some (vI (0 : Int32)), (M, w, true, true, l, t, u)) else if (M 35 0 (a1).toNatClampNeg) = (5 : Int32) then if (M 35 0 (a1).toNatClampNeg) = (5 : Int32) then some (some (vI (1 : Int32)), (M, w, true, true, l, t, u)) else some (some (vI (0 : Int32)), (M, w, true, true, l, t, u)) else cond (nIn (((6 : Int32) * a3) + a2) 30) (nBnd (callN X d 125 [vR 30 0, vI a3] (M, w, true, true, l, t, u)) (fun v s2 => nR X (callN X d) hX7_sureOf 53 [vR 30 0, vI a1, vI a2, vI a3, vI (M 35 0 (a1).toNatClampNeg), vX, vX] (v.toList ++ [vI (0 : Int32), vI (M 37 0 ((((6 : Int32) * a3) + a2)).toNatClampNeg), vI a2, vI a1, vI (2 : Int32), vR 30 0]) s2)) none) none :=
  (nR_itc X _ _ c_X7_sureOf 27 _ _ _ _).trans rfl
set_option maxRecDepth 100000 in
theorem bX7_sureOf_53 (d : Nat) (x1 : Int32) (x2 : Int32) (x3 : Int32) (x4 : Int32) (y0 : Int32) (y1 : Int32) (y2 : Int32) (y3 : Int32) (y4 : Int32) (y5 : Int32) (M : MM) (w : Int64) (l : List (Nat × Nat × Nat)) (t u : Nat) : nR X (callN X d) hX7_sureOf 53 [vR 30 0, vI x1, vI x2, vI x3, vI x4, vX, vX] [vI y0, vI y1, vI y2, vI y3, vI y4, vI y5, vR 30 0] (M, w, true, true, l, t, u) = nBnd (callN X d 146 [vR 30 0, vI y5, vI y4, vI y3, vI y2, vI y1, vI y0] (M, w, true, true, l, t, u)) (fun v s2 => nR X (callN X d) hX7_sureOf 56 [vR 30 0, vI x1, vI x2, vI x3, vI x4, vX, vX] (v.toList ++ []) s2) :=
  (nR_itc X _ _ c_X7_sureOf 1 _ _ _ _).trans rfl
set_option maxRecDepth 100000 in
theorem bX7_sureOf_56 (d : Nat) (x1 : Int32) (x2 : Int32) (x3 : Int32) (x4 : Int32) (y0 : Int32) (M : MM) (w : Int64) (l : List (Nat × Nat × Nat)) (t u : Nat) : nR X (callN X d) hX7_sureOf 56 [vR 30 0, vI x1, vI x2, vI x3, vI x4, vX, vX] [vI y0] (M, w, true, true, l, t, u) = cond (nIn ((2 : Int32) * x1) 10) (if x4 = (2 : Int32) then nBnd (callN X d 112 [vI (y0 + (M 36 0 (((2 : Int32) * x1)).toNatClampNeg)), vI (0 : Int32), vI (999 : Int32)] (M, w, true, true, l, t, u)) (fun v s2 => nR X (callN X d) hX7_sureOf 104 [vR 30 0, vI x1, vI x2, vI x3, vI x4, vI y0, vI (y0 + (M 36 0 (((2 : Int32) * x1)).toNatClampNeg))] (v.toList ++ []) s2) else if x4 = (4 : Int32) then nBnd (callN X d 112 [vI ((2 : Int32) * (y0 + (M 36 0 (((2 : Int32) * x1)).toNatClampNeg))), vI (0 : Int32), vI (999 : Int32)] (M, w, true, true, l, t, u)) (fun v s2 => nR X (callN X d) hX7_sureOf 104 [vR 30 0, vI x1, vI x2, vI x3, vI x4, vI y0, vI (y0 + (M 36 0 (((2 : Int32) * x1)).toNatClampNeg))] (v.toList ++ []) s2) else nBnd (callN X d 112 [vI y0, vI (0 : Int32), vI (999 : Int32)] (M, w, true, true, l, t, u)) (fun v s2 => nR X (callN X d) hX7_sureOf 104 [vR 30 0, vI x1, vI x2, vI x3, vI x4, vI y0, vI (y0 + (M 36 0 (((2 : Int32) * x1)).toNatClampNeg))] (v.toList ++ []) s2)) none :=
  (nR_itc X _ _ c_X7_sureOf 23 _ _ _ _).trans rfl
set_option maxRecDepth 100000 in
theorem bX7_sureOf_104 (d : Nat) (x1 : Int32) (x2 : Int32) (x3 : Int32) (x4 : Int32) (x5 : Int32) (x6 : Int32) (y0 : Int32) (M : MM) (w : Int64) (l : List (Nat × Nat × Nat)) (t u : Nat) : nR X (callN X d) hX7_sureOf 104 [vR 30 0, vI x1, vI x2, vI x3, vI x4, vI x5, vI x6] [vI y0] (M, w, true, true, l, t, u) = some (some (vI y0), (M, w, true, true, l, t, u)) :=
  (nR_itc X _ _ c_X7_sureOf 1 _ _ _ _).trans rfl
def c_X7_asks : List Nat := [5, 12, 24, 43, 58, 68]
set_option maxRecDepth 100000 in
theorem bX7_asks_0 (d : Nat) (a1 : Int32) (a2 : Int32) (a3 : Int32) (M : MM) (w : Int64) (l : List (Nat × Nat × Nat)) (t u : Nat) : nR X (callN X d) hX7_asks 0 [vR 30 0, vI a1, vI a2, vI a3] [] (M, w, true, true, l, t, u) = nBnd (callN X d 115 [vR 30 0, vI a1] (M, w, true, true, l, t, u)) (fun v s2 => nR X (callN X d) hX7_asks 5 [vR 30 0, vI a1, vI a2, vI a3] (v.toList ++ []) s2) :=
  (nR_itc X _ _ c_X7_asks 3 _ _ _ _).trans rfl
set_option maxRecDepth 100000 in
theorem bX7_asks_5 (d : Nat) (x1 : Int32) (x2 : Int32) (x3 : Int32) (y0 : Int32) (M : MM) (w : Int64) (l : List (Nat × Nat × Nat)) (t u : Nat) : nR X (callN X d) hX7_asks 5 [vR 30 0, vI x1, vI x2, vI x3] [vI y0] (M, w, true, true, l, t, u) = if y0 = 0 then some (some (vI (-2 : Int32)), (M, w, true, true, l, t, u)) else nBnd (callN X d 117 [vI x2] (M, w, true, true, l, t, u)) (fun v s2 => nR X (callN X d) hX7_asks 12 [vR 30 0, vI x1, vI x2, vI x3] (v.toList ++ []) s2) :=
  (nR_itc X _ _ c_X7_asks 3 _ _ _ _).trans rfl
set_option maxRecDepth 100000 in
theorem bX7_asks_12 (d : Nat) (x1 : Int32) (x2 : Int32) (x3 : Int32) (y0 : Int32) (M : MM) (w : Int64) (l : List (Nat × Nat × Nat)) (t u : Nat) : nR X (callN X d) hX7_asks 12 [vR 30 0, vI x1, vI x2, vI x3] [vI y0] (M, w, true, true, l, t, u) = if y0 = 0 then some (some (vI (-2 : Int32)), (M, w, true, true, l, t, u)) else nBnd (callN X d 111 [vL (x3).toInt64, vL (0 : Int64), vL (7 : Int64)] (M, w, true, true, l, t, u)) (fun v s2 => nR X (callN X d) hX7_asks 24 [vR 30 0, vI x1, vI x2, vI x3] (v.toList ++ []) s2) :=
  (nR_itc X _ _ c_X7_asks 6 _ _ _ _).trans rfl
set_option maxRecDepth 100000 in
theorem bX7_asks_24 (d : Nat) (x1 : Int32) (x2 : Int32) (x3 : Int32) (y0 : Int32) (M : MM) (w : Int64) (l : List (Nat × Nat × Nat)) (t u : Nat) : nR X (callN X d) hX7_asks 24 [vR 30 0, vI x1, vI x2, vI x3] [vI y0] (M, w, true, true, l, t, u) = if y0 = 0 then some (some (vI (-2 : Int32)), (M, w, true, true, l, t, u)) else if (6 : Int32) ≤ x3 then if x3 = (6 : Int32) then nBnd (callN X d 148 [vR 30 0, vI x1, vI x2] (M, w, true, true, l, t, u)) (fun v s2 => nR X (callN X d) hX7_asks 58 [vR 30 0, vI x1, vI x2, vI x3] (v.toList ++ []) s2) else nBnd (callN X d 149 [vR 30 0, vI x1, vI x2, vI x1] (M, w, true, true, l, t, u)) (fun v s2 => nR X (callN X d) hX7_asks 68 [vR 30 0, vI x1, vI x2, vI x3] (v.toList ++ []) s2) else nBnd (callN X d 147 [vR 30 0, vI x1, vI x2, vI x3] (M, w, true, true, l, t, u)) (fun v s2 => nR X (callN X d) hX7_asks 43 [vR 30 0, vI x1, vI x2, vI x3] (v.toList ++ []) s2) :=
  (nR_itc X _ _ c_X7_asks 12 _ _ _ _).trans rfl
set_option maxRecDepth 100000 in
theorem bX7_asks_43 (d : Nat) (x1 : Int32) (x2 : Int32) (x3 : Int32) (y0 : Int32) (M : MM) (w : Int64) (l : List (Nat × Nat × Nat)) (t u : Nat) : nR X (callN X d) hX7_asks 43 [vR 30 0, vI x1, vI x2, vI x3] [vI y0] (M, w, true, true, l, t, u) = nR X (callN X d) hX7_asks 68 [vR 30 0, vI x1, vI x2, vI x3] [vI y0] (M, w, true, true, l, t, u) :=
  (nR_itc X _ _ c_X7_asks 1 _ _ _ _).trans rfl
set_option maxRecDepth 100000 in
theorem bX7_asks_58 (d : Nat) (x1 : Int32) (x2 : Int32) (x3 : Int32) (y0 : Int32) (M : MM) (w : Int64) (l : List (Nat × Nat × Nat)) (t u : Nat) : nR X (callN X d) hX7_asks 58 [vR 30 0, vI x1, vI x2, vI x3] [vI y0] (M, w, true, true, l, t, u) = nR X (callN X d) hX7_asks 68 [vR 30 0, vI x1, vI x2, vI x3] [vI y0] (M, w, true, true, l, t, u) :=
  (nR_itc X _ _ c_X7_asks 1 _ _ _ _).trans rfl
set_option maxRecDepth 100000 in
theorem bX7_asks_68 (d : Nat) (x1 : Int32) (x2 : Int32) (x3 : Int32) (y0 : Int32) (M : MM) (w : Int64) (l : List (Nat × Nat × Nat)) (t u : Nat) : nR X (callN X d) hX7_asks 68 [vR 30 0, vI x1, vI x2, vI x3] [vI y0] (M, w, true, true, l, t, u) = some (some (vI y0), (M, w, true, true, l, t, u)) :=
  (nR_itc X _ _ c_X7_asks 1 _ _ _ _).trans rfl
def c_X7_stays1 : List Nat := [2, 36, 44, 79]
set_option maxRecDepth 100000 in
theorem bX7_stays1_0 (d : Nat) (a1 : Int32) (a2 : Int32) (M : MM) (w : Int64) (l : List (Nat × Nat × Nat)) (t u : Nat) : nR X (callN X d) hX7_stays1 0 [vR 30 0, vI a1, vI a2, vX] [] (M, w, true, true, l, t, u) = nR X (callN X d) hX7_stays1 2 [vR 30 0, vI a1, vI a2, vI (0 : Int32)] [] (M, w, true, true, l, t, u) :=
  (nR_itc X _ _ c_X7_stays1 2 _ _ _ _).trans rfl
set_option maxRecDepth 100000 in
theorem bX7_stays1_2 (d : Nat) (x1 : Int32) (x2 : Int32) (x3 : Int32) (M : MM) (w : Int64) (l : List (Nat × Nat × Nat)) (t u : Nat) : nR X (callN X d) hX7_stays1 2 [vR 30 0, vI x1, vI x2, vI x3] [] (M, w, true, true, l, t, u) = if (6 : Int32) ≤ x3 then cond (nIn (((2 : Int32) * x1) + (1 : Int32)) 10) (nBnd (callN X d 112 [vI ((M 36 0 ((((2 : Int32) * x1) + (1 : Int32))).toNatClampNeg) + (1 : Int32)), vI (0 : Int32), vI (9999 : Int32)] (M, w, true, true, l, t, u)) (fun v s2 => nR X (callN X d) hX7_stays1 79 [vR 30 0, vI x1, vI x2, vI x3] (v.toList ++ [vI (((2 : Int32) * x1) + (1 : Int32)), vR 36 0]) s2)) none else cond (nIn (((6 : Int32) * x1) + x3) 30) (nBnd (callN X d 147 [vR 30 0, vI x1, vI x3, vI x2] (M, w, true, true, l, t, u)) (fun v s2 => nR X (callN X d) hX7_stays1 36 [vR 30 0, vI x1, vI x2, vI x3] (v.toList ++ [vI (M 37 0 ((((6 : Int32) * x1) + x3)).toNatClampNeg), vI (((6 : Int32) * x1) + x3), vR 37 0]) s2)) none :=
  (nR_itc X _ _ c_X7_stays1 23 _ _ _ _).trans rfl
set_option maxRecDepth 100000 in
theorem bX7_stays1_36 (d : Nat) (x1 : Int32) (x2 : Int32) (x3 : Int32) (y0 : Int32) (y1 : Int32) (y2 : Int32) (M : MM) (w : Int64) (l : List (Nat × Nat × Nat)) (t u : Nat) : nR X (callN X d) hX7_stays1 36 [vR 30 0, vI x1, vI x2, vI x3] [vI y0, vI y1, vI y2, vR 37 0] (M, w, true, true, l, t, u) = nBnd (callN X d 112 [vI (y1 + y0), vI (0 : Int32), vI (9999 : Int32)] (M, w, true, true, l, t, u)) (fun v s2 => nR X (callN X d) hX7_stays1 44 [vR 30 0, vI x1, vI x2, vI x3] (v.toList ++ [vI y2, vR 37 0]) s2) :=
  (nR_itc X _ _ c_X7_stays1 4 _ _ _ _).trans rfl
set_option maxRecDepth 100000 in
theorem bX7_stays1_44 (d : Nat) (x1 : Int32) (x2 : Int32) (x3 : Int32) (y0 : Int32) (y1 : Int32) (M : MM) (w : Int64) (l : List (Nat × Nat × Nat)) (t u : Nat) : nR X (callN X d) hX7_stays1 44 [vR 30 0, vI x1, vI x2, vI x3] [vI y0, vI y1, vR 37 0] (M, w, true, true, l, t, u) = cond (nIn y1 30) (nR X (callN X d) hX7_stays1 2 [vR 30 0, vI x1, vI x2, vI (x3 + (1 : Int32))] [] ((nSt M 37 0 (y1).toNatClampNeg y0), w, true, true, l, t, u)) none :=
  (nR_itc X _ _ c_X7_stays1 3 _ _ _ _).trans rfl
set_option maxRecDepth 100000 in
theorem bX7_stays1_79 (d : Nat) (x1 : Int32) (x2 : Int32) (x3 : Int32) (y0 : Int32) (y1 : Int32) (M : MM) (w : Int64) (l : List (Nat × Nat × Nat)) (t u : Nat) : nR X (callN X d) hX7_stays1 79 [vR 30 0, vI x1, vI x2, vI x3] [vI y0, vI y1, vR 36 0] (M, w, true, true, l, t, u) = cond (nIn y1 10) (some (none, ((nSt (nSt M 36 0 (y1).toNatClampNeg y0) 30 0 7 (((nSt M 36 0 (y1).toNatClampNeg y0) 30 0 7) + (1 : Int32))), w, true, true, l, t, u))) none :=
  (nR_itc X _ _ c_X7_stays1 8 _ _ _ _).trans rfl
def c_X7_stay : List Nat := [5, 12, 37, 42]
set_option maxRecDepth 100000 in
theorem bX7_stay_0 (d : Nat) (a1 : Int32) (a2 : Int32) (M : MM) (w : Int64) (l : List (Nat × Nat × Nat)) (t u : Nat) : nR X (callN X d) hX7_stay 0 [vR 30 0, vI a1, vI a2] [] (M, w, true, true, l, t, u) = nBnd (callN X d 115 [vR 30 0, vI a1] (M, w, true, true, l, t, u)) (fun v s2 => nR X (callN X d) hX7_stay 5 [vR 30 0, vI a1, vI a2] (v.toList ++ []) s2) :=
  (nR_itc X _ _ c_X7_stay 3 _ _ _ _).trans rfl
set_option maxRecDepth 100000 in
theorem bX7_stay_5 (d : Nat) (x1 : Int32) (x2 : Int32) (y0 : Int32) (M : MM) (w : Int64) (l : List (Nat × Nat × Nat)) (t u : Nat) : nR X (callN X d) hX7_stay 5 [vR 30 0, vI x1, vI x2] [vI y0] (M, w, true, true, l, t, u) = if y0 = 0 then some (some (vI (-2 : Int32)), (M, w, true, true, l, t, u)) else nBnd (callN X d 116 [vI x2] (M, w, true, true, l, t, u)) (fun v s2 => nR X (callN X d) hX7_stay 12 [vR 30 0, vI x1, vI x2] (v.toList ++ []) s2) :=
  (nR_itc X _ _ c_X7_stay 3 _ _ _ _).trans rfl
set_option maxRecDepth 100000 in
theorem bX7_stay_12 (d : Nat) (x1 : Int32) (x2 : Int32) (y0 : Int32) (M : MM) (w : Int64) (l : List (Nat × Nat × Nat)) (t u : Nat) : nR X (callN X d) hX7_stay 12 [vR 30 0, vI x1, vI x2] [vI y0] (M, w, true, true, l, t, u) = if y0 = 0 then some (some (vI (-2 : Int32)), (M, w, true, true, l, t, u)) else if (M 30 0 7) = (999 : Int32) then some (some (vI (-3 : Int32)), (M, w, true, true, l, t, u)) else nBnd (callN X d 151 [vR 30 0, vI x1, vI x2] (M, w, true, true, l, t, u)) (fun v s2 => nR X (callN X d) hX7_stay 37 [vR 30 0, vI x1, vI x2] (v.toList ++ []) s2) :=
  (nR_itc X _ _ c_X7_stay 9 _ _ _ _).trans rfl
set_option maxRecDepth 100000 in
theorem bX7_stay_37 (d : Nat) (x1 : Int32) (x2 : Int32) (M : MM) (w : Int64) (l : List (Nat × Nat × Nat)) (t u : Nat) : nR X (callN X d) hX7_stay 37 [vR 30 0, vI x1, vI x2] [] (M, w, true, true, l, t, u) = nBnd (callN X d 125 [vR 30 0, vI x1] (M, w, true, true, l, t, u)) (fun v s2 => nR X (callN X d) hX7_stay 42 [vR 30 0, vI x1, vI x2] (v.toList ++ []) s2) :=
  (nR_itc X _ _ c_X7_stay 3 _ _ _ _).trans rfl
set_option maxRecDepth 100000 in
theorem bX7_stay_42 (d : Nat) (x1 : Int32) (x2 : Int32) (y0 : Int32) (M : MM) (w : Int64) (l : List (Nat × Nat × Nat)) (t u : Nat) : nR X (callN X d) hX7_stay 42 [vR 30 0, vI x1, vI x2] [vI y0] (M, w, true, true, l, t, u) = some (some (vI y0), (M, w, true, true, l, t, u)) :=
  (nR_itc X _ _ c_X7_stay 1 _ _ _ _).trans rfl
def c_X7_shake : List Nat := [5, 16, 19, 36, 45, 80]
set_option maxRecDepth 100000 in
theorem bX7_shake_0 (d : Nat) (a1 : Int32) (M : MM) (w : Int64) (l : List (Nat × Nat × Nat)) (t u : Nat) : nR X (callN X d) hX7_shake 0 [vR 30 0, vI a1, vX, vX] [] (M, w, true, true, l, t, u) = nBnd (callN X d 115 [vR 30 0, vI a1] (M, w, true, true, l, t, u)) (fun v s2 => nR X (callN X d) hX7_shake 5 [vR 30 0, vI a1, vX, vX] (v.toList ++ []) s2) :=
  (nR_itc X _ _ c_X7_shake 3 _ _ _ _).trans rfl
set_option maxRecDepth 100000 in
theorem bX7_shake_5 (d : Nat) (x1 : Int32) (y0 : Int32) (M : MM) (w : Int64) (l : List (Nat × Nat × Nat)) (t u : Nat) : nR X (callN X d) hX7_shake 5 [vR 30 0, vI x1, vX, vX] [vI y0] (M, w, true, true, l, t, u) = if y0 = 0 then some (some (vI (-2 : Int32)), (M, w, true, true, l, t, u)) else nBnd (callN X d 125 [vR 30 0, vI x1] (M, w, true, true, l, t, u)) (fun v s2 => nR X (callN X d) hX7_shake 16 [vR 30 0, vI x1, vX, vX] (v.toList ++ []) s2) :=
  (nR_itc X _ _ c_X7_shake 4 _ _ _ _).trans rfl
set_option maxRecDepth 100000 in
theorem bX7_shake_16 (d : Nat) (x1 : Int32) (y0 : Int32) (M : MM) (w : Int64) (l : List (Nat × Nat × Nat)) (t u : Nat) : nR X (callN X d) hX7_shake 16 [vR 30 0, vI x1, vX, vX] [vI y0] (M, w, true, true, l, t, u) = nR X (callN X d) hX7_shake 19 [vR 30 0, vI x1, vI y0, vI (0 : Int32)] [] (M, w, true, true, l, t, u) :=
  (nR_itc X _ _ c_X7_shake 3 _ _ _ _).trans rfl
set_option maxRecDepth 100000 in
theorem bX7_shake_19 (d : Nat) (x1 : Int32) (x2 : Int32) (x3 : Int32) (M : MM) (w : Int64) (l : List (Nat × Nat × Nat)) (t u : Nat) : nR X (callN X d) hX7_shake 19 [vR 30 0, vI x1, vI x2, vI x3] [] (M, w, true, true, l, t, u) = if (6 : Int32) ≤ x3 then nR X (callN X d) hX7_shake 45 [vR 30 0, vI x1, vI x2, vI (0 : Int32)] [] (M, w, true, true, l, t, u) else nBnd (callN X d 148 [vR 30 0, vI x1, vI x3] (M, w, true, true, l, t, u)) (fun v s2 => nR X (callN X d) hX7_shake 36 [vR 30 0, vI x1, vI x2, vI x3] (v.toList ++ [vI x3, vR 38 0]) s2) :=
  (nR_itc X _ _ c_X7_shake 10 _ _ _ _).trans rfl
set_option maxRecDepth 100000 in
theorem bX7_shake_36 (d : Nat) (x1 : Int32) (x2 : Int32) (x3 : Int32) (y0 : Int32) (y1 : Int32) (M : MM) (w : Int64) (l : List (Nat × Nat × Nat)) (t u : Nat) : nR X (callN X d) hX7_shake 36 [vR 30 0, vI x1, vI x2, vI x3] [vI y0, vI y1, vR 38 0] (M, w, true, true, l, t, u) = cond (nIn y1 6) (nR X (callN X d) hX7_shake 19 [vR 30 0, vI x1, vI x2, vI (x3 + (1 : Int32))] [] ((nSt M 38 0 (y1).toNatClampNeg y0), w, true, true, l, t, u)) none :=
  (nR_itc X _ _ c_X7_shake 3 _ _ _ _).trans rfl
set_option maxRecDepth 100000 in
theorem bX7_shake_45 (d : Nat) (x1 : Int32) (x2 : Int32) (x3 : Int32) (M : MM) (w : Int64) (l : List (Nat × Nat × Nat)) (t u : Nat) : nR X (callN X d) hX7_shake 45 [vR 30 0, vI x1, vI x2, vI x3] [] (M, w, true, true, l, t, u) = if (6 : Int32) ≤ x3 then nBnd (callN X d 125 [vR 30 0, vI x1] (M, w, true, true, l, t, u)) (fun v s2 => nR X (callN X d) hX7_shake 80 [vR 30 0, vI x1, vI x2, vI x3] (v.toList ++ [vI x2]) s2) else cond (nIn x3 6) (cond (nIn (((6 : Int32) * x1) + x3) 30) (nR X (callN X d) hX7_shake 45 [vR 30 0, vI x1, vI x2, vI (x3 + (1 : Int32))] [] ((nSt M 37 0 ((((6 : Int32) * x1) + x3)).toNatClampNeg (M 38 0 (x3).toNatClampNeg)), w, true, true, l, t, u)) none) none :=
  (nR_itc X _ _ c_X7_shake 17 _ _ _ _).trans rfl
set_option maxRecDepth 100000 in
theorem bX7_shake_80 (d : Nat) (x1 : Int32) (x2 : Int32) (x3 : Int32) (y0 : Int32) (y1 : Int32) (M : MM) (w : Int64) (l : List (Nat × Nat × Nat)) (t u : Nat) : nR X (callN X d) hX7_shake 80 [vR 30 0, vI x1, vI x2, vI x3] [vI y0, vI y1] (M, w, true, true, l, t, u) = some (some (vI (y1 - y0)), (M, w, true, true, l, t, u)) :=
  (nR_itc X _ _ c_X7_shake 2 _ _ _ _).trans rfl
def c_X7_apart : List Nat := [5]
set_option maxRecDepth 100000 in
theorem bX7_apart_0 (d : Nat) (a1 : Int32) (a2 : Int32) (M : MM) (w : Int64) (l : List (Nat × Nat × Nat)) (t u : Nat) : nR X (callN X d) hX7_apart 0 [vR 30 0, vI a1, vI a2, vX, vX, vX] [] (M, w, true, true, l, t, u) = nR X (callN X d) hX7_apart 5 [vR 30 0, vI a1, vI a2, vI (0 : Int32), vI (0 : Int32), vX] [] (M, w, true, true, l, t, u) :=
  (nR_itc X _ _ c_X7_apart 4 _ _ _ _).trans rfl
set_option maxRecDepth 100000 in
theorem bX7_apart_5 (d : Nat) (x1 : Int32) (x2 : Int32) (x3 : Int32) (x4 : Int32) (x5 : AV) (M : MM) (w : Int64) (l : List (Nat × Nat × Nat)) (t u : Nat) : nR X (callN X d) hX7_apart 5 [vR 30 0, vI x1, vI x2, vI x3, vI x4, x5] [] (M, w, true, true, l, t, u) = if (6 : Int32) ≤ x4 then some (some (vI x3), (M, w, true, true, l, t, u)) else cond (nIn (((6 : Int32) * x1) + x4) 30) (cond (nIn (((6 : Int32) * x2) + x4) 30) (if 0 ≤ ((M 37 0 ((((6 : Int32) * x1) + x4)).toNatClampNeg) - (M 37 0 ((((6 : Int32) * x2) + x4)).toNatClampNeg)) then nR X (callN X d) hX7_apart 5 [vR 30 0, vI x1, vI x2, vI (x3 + ((M 37 0 ((((6 : Int32) * x1) + x4)).toNatClampNeg) - (M 37 0 ((((6 : Int32) * x2) + x4)).toNatClampNeg))), vI (x4 + (1 : Int32)), vI ((M 37 0 ((((6 : Int32) * x1) + x4)).toNatClampNeg) - (M 37 0 ((((6 : Int32) * x2) + x4)).toNatClampNeg))] [] (M, w, true, true, l, t, u) else nR X (callN X d) hX7_apart 5 [vR 30 0, vI x1, vI x2, vI (x3 + (-((M 37 0 ((((6 : Int32) * x1) + x4)).toNatClampNeg) - (M 37 0 ((((6 : Int32) * x2) + x4)).toNatClampNeg)))), vI (x4 + (1 : Int32)), vI ((M 37 0 ((((6 : Int32) * x1) + x4)).toNatClampNeg) - (M 37 0 ((((6 : Int32) * x2) + x4)).toNatClampNeg))] [] (M, w, true, true, l, t, u)) none) none :=
  (nR_itc X _ _ c_X7_apart 31 _ _ _ _).trans rfl
def c_X7_tellsOf : List Nat := [5, 36]
set_option maxRecDepth 100000 in
theorem bX7_tellsOf_0 (d : Nat) (a1 : Int32) (a2 : Int32) (M : MM) (w : Int64) (l : List (Nat × Nat × Nat)) (t u : Nat) : nR X (callN X d) hX7_tellsOf 0 [vR 30 0, vI a1, vI a2, vX, vX] [] (M, w, true, true, l, t, u) = nR X (callN X d) hX7_tellsOf 5 [vR 30 0, vI a1, vI a2, vI (0 : Int32), vI (0 : Int32)] [] (M, w, true, true, l, t, u) :=
  (nR_itc X _ _ c_X7_tellsOf 4 _ _ _ _).trans rfl
set_option maxRecDepth 100000 in
theorem bX7_tellsOf_5 (d : Nat) (x1 : Int32) (x2 : Int32) (x3 : Int32) (x4 : Int32) (M : MM) (w : Int64) (l : List (Nat × Nat × Nat)) (t u : Nat) : nR X (callN X d) hX7_tellsOf 5 [vR 30 0, vI x1, vI x2, vI x3, vI x4] [] (M, w, true, true, l, t, u) = if (6 : Int32) ≤ x4 then some (some (vI x3), (M, w, true, true, l, t, u)) else cond (nIn (((6 : Int32) * x1) + x4) 30) (if (M 37 0 ((((6 : Int32) * x1) + x4)).toNatClampNeg) ≤ 0 then nR X (callN X d) hX7_tellsOf 5 [vR 30 0, vI x1, vI x2, vI (x3 + (0 : Int32)), vI (x4 + (1 : Int32))] [] (M, w, true, true, l, t, u) else nBnd (callN X d 149 [vR 30 0, vI x2, vI x4, vI x1] (M, w, true, true, l, t, u)) (fun v s2 => nR X (callN X d) hX7_tellsOf 36 [vR 30 0, vI x1, vI x2, vI x3, vI x4] (v.toList ++ [vI x3]) s2)) none :=
  (nR_itc X _ _ c_X7_tellsOf 18 _ _ _ _).trans rfl
set_option maxRecDepth 100000 in
theorem bX7_tellsOf_36 (d : Nat) (x1 : Int32) (x2 : Int32) (x3 : Int32) (x4 : Int32) (y0 : Int32) (y1 : Int32) (M : MM) (w : Int64) (l : List (Nat × Nat × Nat)) (t u : Nat) : nR X (callN X d) hX7_tellsOf 36 [vR 30 0, vI x1, vI x2, vI x3, vI x4] [vI y0, vI y1] (M, w, true, true, l, t, u) = nR X (callN X d) hX7_tellsOf 5 [vR 30 0, vI x1, vI x2, vI (y1 + y0), vI (x4 + (1 : Int32))] [] (M, w, true, true, l, t, u) :=
  (nR_itc X _ _ c_X7_tellsOf 5 _ _ _ _).trans rfl
def c_X7_areTwo : List Nat := [5, 13]
set_option maxRecDepth 100000 in
theorem bX7_areTwo_0 (d : Nat) (a1 : Int32) (a2 : Int32) (M : MM) (w : Int64) (l : List (Nat × Nat × Nat)) (t u : Nat) : nR X (callN X d) hX7_areTwo 0 [vR 30 0, vI a1, vI a2] [] (M, w, true, true, l, t, u) = nBnd (callN X d 115 [vR 30 0, vI a1] (M, w, true, true, l, t, u)) (fun v s2 => nR X (callN X d) hX7_areTwo 5 [vR 30 0, vI a1, vI a2] (v.toList ++ []) s2) :=
  (nR_itc X _ _ c_X7_areTwo 3 _ _ _ _).trans rfl
set_option maxRecDepth 100000 in
theorem bX7_areTwo_5 (d : Nat) (x1 : Int32) (x2 : Int32) (y0 : Int32) (M : MM) (w : Int64) (l : List (Nat × Nat × Nat)) (t u : Nat) : nR X (callN X d) hX7_areTwo 5 [vR 30 0, vI x1, vI x2] [vI y0] (M, w, true, true, l, t, u) = if y0 = 0 then some (some (vI (0 : Int32)), (M, w, true, true, l, t, u)) else nBnd (callN X d 115 [vR 30 0, vI x2] (M, w, true, true, l, t, u)) (fun v s2 => nR X (callN X d) hX7_areTwo 13 [vR 30 0, vI x1, vI x2] (v.toList ++ []) s2) :=
  (nR_itc X _ _ c_X7_areTwo 4 _ _ _ _).trans rfl
set_option maxRecDepth 100000 in
theorem bX7_areTwo_13 (d : Nat) (x1 : Int32) (x2 : Int32) (y0 : Int32) (M : MM) (w : Int64) (l : List (Nat × Nat × Nat)) (t u : Nat) : nR X (callN X d) hX7_areTwo 13 [vR 30 0, vI x1, vI x2] [vI y0] (M, w, true, true, l, t, u) = if y0 = 0 then some (some (vI (0 : Int32)), (M, w, true, true, l, t, u)) else if x1 = x2 then some (some (vI (0 : Int32)), (M, w, true, true, l, t, u)) else some (some (vI (1 : Int32)), (M, w, true, true, l, t, u)) :=
  (nR_itc X _ _ c_X7_areTwo 7 _ _ _ _).trans rfl
def c_X7_like : List Nat := [6, 16, 32, 41]
set_option maxRecDepth 100000 in
theorem bX7_like_0 (d : Nat) (a1 : Int32) (a2 : Int32) (a3 : Int32) (M : MM) (w : Int64) (l : List (Nat × Nat × Nat)) (t u : Nat) : nR X (callN X d) hX7_like 0 [vR 30 0, vI a1, vI a2, vI a3] [] (M, w, true, true, l, t, u) = nBnd (callN X d 156 [vR 30 0, vI a1, vI a2] (M, w, true, true, l, t, u)) (fun v s2 => nR X (callN X d) hX7_like 6 [vR 30 0, vI a1, vI a2, vI a3] (v.toList ++ []) s2) :=
  (nR_itc X _ _ c_X7_like 4 _ _ _ _).trans rfl
set_option maxRecDepth 100000 in
theorem bX7_like_6 (d : Nat) (x1 : Int32) (x2 : Int32) (x3 : Int32) (y0 : Int32) (M : MM) (w : Int64) (l : List (Nat × Nat × Nat)) (t u : Nat) : nR X (callN X d) hX7_like 6 [vR 30 0, vI x1, vI x2, vI x3] [vI y0] (M, w, true, true, l, t, u) = if y0 = 0 then some (some (vI (-2 : Int32)), (M, w, true, true, l, t, u)) else nBnd (callN X d 111 [vL (x3).toInt64, vL (0 : Int64), vL (1 : Int64)] (M, w, true, true, l, t, u)) (fun v s2 => nR X (callN X d) hX7_like 16 [vR 30 0, vI x1, vI x2, vI x3] (v.toList ++ []) s2) :=
  (nR_itc X _ _ c_X7_like 6 _ _ _ _).trans rfl
set_option maxRecDepth 100000 in
theorem bX7_like_16 (d : Nat) (x1 : Int32) (x2 : Int32) (x3 : Int32) (y0 : Int32) (M : MM) (w : Int64) (l : List (Nat × Nat × Nat)) (t u : Nat) : nR X (callN X d) hX7_like 16 [vR 30 0, vI x1, vI x2, vI x3] [vI y0] (M, w, true, true, l, t, u) = if y0 = 0 then some (some (vI (-2 : Int32)), (M, w, true, true, l, t, u)) else if x3 = 0 then nBnd (callN X d 154 [vR 30 0, vI x1, vI x2] (M, w, true, true, l, t, u)) (fun v s2 => nR X (callN X d) hX7_like 32 [vR 30 0, vI x1, vI x2, vI x3] (v.toList ++ []) s2) else nBnd (callN X d 155 [vR 30 0, vI x1, vI x2] (M, w, true, true, l, t, u)) (fun v s2 => nR X (callN X d) hX7_like 41 [vR 30 0, vI x1, vI x2, vI x3] (v.toList ++ []) s2) :=
  (nR_itc X _ _ c_X7_like 7 _ _ _ _).trans rfl
set_option maxRecDepth 100000 in
theorem bX7_like_32 (d : Nat) (x1 : Int32) (x2 : Int32) (x3 : Int32) (y0 : Int32) (M : MM) (w : Int64) (l : List (Nat × Nat × Nat)) (t u : Nat) : nR X (callN X d) hX7_like 32 [vR 30 0, vI x1, vI x2, vI x3] [vI y0] (M, w, true, true, l, t, u) = nR X (callN X d) hX7_like 41 [vR 30 0, vI x1, vI x2, vI x3] [vI y0] (M, w, true, true, l, t, u) :=
  (nR_itc X _ _ c_X7_like 1 _ _ _ _).trans rfl
set_option maxRecDepth 100000 in
theorem bX7_like_41 (d : Nat) (x1 : Int32) (x2 : Int32) (x3 : Int32) (y0 : Int32) (M : MM) (w : Int64) (l : List (Nat × Nat × Nat)) (t u : Nat) : nR X (callN X d) hX7_like 41 [vR 30 0, vI x1, vI x2, vI x3] [vI y0] (M, w, true, true, l, t, u) = some (some (vI y0), (M, w, true, true, l, t, u)) :=
  (nR_itc X _ _ c_X7_like 1 _ _ _ _).trans rfl
def c_X7_odd : List Nat := [5, 17, 28, 41, 46, 71, 93, 109]
set_option maxRecDepth 100000 in
theorem bX7_odd_0 (d : Nat) (a1 : Int32) (a2 : Int32) (M : MM) (w : Int64) (l : List (Nat × Nat × Nat)) (t u : Nat) : nR X (callN X d) hX7_odd 0 [vR 30 0, vI a1, vI a2, vX, vX, vX, vX] [] (M, w, true, true, l, t, u) = nBnd (callN X d 115 [vR 30 0, vI a1] (M, w, true, true, l, t, u)) (fun v s2 => nR X (callN X d) hX7_odd 5 [vR 30 0, vI a1, vI a2, vX, vX, vX, vX] (v.toList ++ []) s2) :=
  (nR_itc X _ _ c_X7_odd 3 _ _ _ _).trans rfl
set_option maxRecDepth 100000 in
theorem bX7_odd_5 (d : Nat) (x1 : Int32) (x2 : Int32) (y0 : Int32) (M : MM) (w : Int64) (l : List (Nat × Nat × Nat)) (t u : Nat) : nR X (callN X d) hX7_odd 5 [vR 30 0, vI x1, vI x2, vX, vX, vX, vX] [vI y0] (M, w, true, true, l, t, u) = if y0 = 0 then some (some (vI (-2 : Int32)), (M, w, true, true, l, t, u)) else nBnd (callN X d 111 [vL (x2).toInt64, vL (0 : Int64), vL (2 : Int64)] (M, w, true, true, l, t, u)) (fun v s2 => nR X (callN X d) hX7_odd 17 [vR 30 0, vI x1, vI x2, vX, vX, vX, vX] (v.toList ++ []) s2) :=
  (nR_itc X _ _ c_X7_odd 6 _ _ _ _).trans rfl
set_option maxRecDepth 100000 in
theorem bX7_odd_17 (d : Nat) (x1 : Int32) (x2 : Int32) (y0 : Int32) (M : MM) (w : Int64) (l : List (Nat × Nat × Nat)) (t u : Nat) : nR X (callN X d) hX7_odd 17 [vR 30 0, vI x1, vI x2, vX, vX, vX, vX] [vI y0] (M, w, true, true, l, t, u) = if y0 = 0 then some (some (vI (-2 : Int32)), (M, w, true, true, l, t, u)) else nR X (callN X d) hX7_odd 28 [vR 30 0, vI x1, vI x2, vI (0 : Int32), vI (1 : Int32), vX, vX] [] (M, w, true, true, l, t, u) :=
  (nR_itc X _ _ c_X7_odd 5 _ _ _ _).trans rfl
set_option maxRecDepth 100000 in
theorem bX7_odd_28 (d : Nat) (x1 : Int32) (x2 : Int32) (x3 : Int32) (x4 : Int32) (M : MM) (w : Int64) (l : List (Nat × Nat × Nat)) (t u : Nat) : nR X (callN X d) hX7_odd 28 [vR 30 0, vI x1, vI x2, vI x3, vI x4, vX, vX] [] (M, w, true, true, l, t, u) = if (6 : Int32) ≤ x4 then nR X (callN X d) hX7_odd 71 [vR 30 0, vI x1, vI x2, vI x3, vI (-1 : Int32), vI (-1 : Int32), vI (0 : Int32)] [] (M, w, true, true, l, t, u) else nBnd (callN X d 126 [vR 30 0, vI x4] (M, w, true, true, l, t, u)) (fun v s2 => nR X (callN X d) hX7_odd 41 [vR 30 0, vI x1, vI x2, vI x3, vI x4, vX, vX] (v.toList ++ []) s2) :=
  (nR_itc X _ _ c_X7_odd 9 _ _ _ _).trans rfl
set_option maxRecDepth 100000 in
theorem bX7_odd_41 (d : Nat) (x1 : Int32) (x2 : Int32) (x3 : Int32) (x4 : Int32) (y0 : Int32) (M : MM) (w : Int64) (l : List (Nat × Nat × Nat)) (t u : Nat) : nR X (callN X d) hX7_odd 41 [vR 30 0, vI x1, vI x2, vI x3, vI x4, vX, vX] [vI y0] (M, w, true, true, l, t, u) = nBnd (callN X d 126 [vR 30 0, vI x3] (M, w, true, true, l, t, u)) (fun v s2 => nR X (callN X d) hX7_odd 46 [vR 30 0, vI x1, vI x2, vI x3, vI x4, vX, vX] (v.toList ++ [vI y0]) s2) :=
  (nR_itc X _ _ c_X7_odd 3 _ _ _ _).trans rfl
set_option maxRecDepth 100000 in
theorem bX7_odd_46 (d : Nat) (x1 : Int32) (x2 : Int32) (x3 : Int32) (x4 : Int32) (y0 : Int32) (y1 : Int32) (M : MM) (w : Int64) (l : List (Nat × Nat × Nat)) (t u : Nat) : nR X (callN X d) hX7_odd 46 [vR 30 0, vI x1, vI x2, vI x3, vI x4, vX, vX] [vI y0, vI y1] (M, w, true, true, l, t, u) = if y0 ≤ y1 then nR X (callN X d) hX7_odd 28 [vR 30 0, vI x1, vI x2, vI x3, vI (x4 + (1 : Int32)), vX, vX] [] (M, w, true, true, l, t, u) else nR X (callN X d) hX7_odd 28 [vR 30 0, vI x1, vI x2, vI x4, vI (x4 + (1 : Int32)), vX, vX] [] (M, w, true, true, l, t, u) :=
  (nR_itc X _ _ c_X7_odd 6 _ _ _ _).trans rfl
set_option maxRecDepth 100000 in
theorem bX7_odd_71 (d : Nat) (x1 : Int32) (x2 : Int32) (x3 : Int32) (x4 : Int32) (x5 : Int32) (x6 : Int32) (M : MM) (w : Int64) (l : List (Nat × Nat × Nat)) (t u : Nat) : nR X (callN X d) hX7_odd 71 [vR 30 0, vI x1, vI x2, vI x3, vI x4, vI x5, vI x6] [] (M, w, true, true, l, t, u) = if (M 30 0 12) ≤ x6 then if x2 = 0 then some (some (vI x4), (M, w, true, true, l, t, u)) else if x2 = (1 : Int32) then some (some (vI x5), (M, w, true, true, l, t, u)) else some (some (vI x3), (M, w, true, true, l, t, u)) else if x6 = x1 then nR X (callN X d) hX7_odd 71 [vR 30 0, vI x1, vI x2, vI x3, vI x4, vI x5, vI (x6 + (1 : Int32))] [] (M, w, true, true, l, t, u) else nBnd (callN X d 154 [vR 30 0, vI x1, vI x6] (M, w, true, true, l, t, u)) (fun v s2 => nR X (callN X d) hX7_odd 93 [vR 30 0, vI x1, vI x2, vI x3, vI x4, vI x5, vI x6] (v.toList ++ []) s2) :=
  (nR_itc X _ _ c_X7_odd 12 _ _ _ _).trans rfl
set_option maxRecDepth 100000 in
theorem bX7_odd_93 (d : Nat) (x1 : Int32) (x2 : Int32) (x3 : Int32) (x4 : Int32) (x5 : Int32) (x6 : Int32) (y0 : Int32) (M : MM) (w : Int64) (l : List (Nat × Nat × Nat)) (t u : Nat) : nR X (callN X d) hX7_odd 93 [vR 30 0, vI x1, vI x2, vI x3, vI x4, vI x5, vI x6] [vI y0] (M, w, true, true, l, t, u) = if y0 ≤ x5 then nR X (callN X d) hX7_odd 71 [vR 30 0, vI x1, vI x2, vI x3, vI x4, vI x5, vI (x6 + (1 : Int32))] [] (M, w, true, true, l, t, u) else nBnd (callN X d 154 [vR 30 0, vI x1, vI x6] (M, w, true, true, l, t, u)) (fun v s2 => nR X (callN X d) hX7_odd 109 [vR 30 0, vI x1, vI x2, vI x3, vI x6, vI x5, vI x6] (v.toList ++ []) s2) :=
  (nR_itc X _ _ c_X7_odd 8 _ _ _ _).trans rfl
set_option maxRecDepth 100000 in
theorem bX7_odd_109 (d : Nat) (x1 : Int32) (x2 : Int32) (x3 : Int32) (x4 : Int32) (x5 : Int32) (x6 : Int32) (y0 : Int32) (M : MM) (w : Int64) (l : List (Nat × Nat × Nat)) (t u : Nat) : nR X (callN X d) hX7_odd 109 [vR 30 0, vI x1, vI x2, vI x3, vI x4, vI x5, vI x6] [vI y0] (M, w, true, true, l, t, u) = nR X (callN X d) hX7_odd 71 [vR 30 0, vI x1, vI x2, vI x3, vI x4, vI y0, vI (x6 + (1 : Int32))] [] (M, w, true, true, l, t, u) :=
  (nR_itc X _ _ c_X7_odd 3 _ _ _ _).trans rfl
def c_X7_lowest : List Nat := [6]
set_option maxRecDepth 100000 in
theorem bX7_lowest_0 (d : Nat) (a1 : Int64) (a2 : Int64) (a3 : Int32) (M : MM) (w : Int64) (l : List (Nat × Nat × Nat)) (t u : Nat) : nR X (callN X d) hX7_lowest 0 [vL a1, vX, vL a2, vX, vI a3, vX, vX, vX, vX, vX, vX] [] (M, w, true, true, l, t, u) = nR X (callN X d) hX7_lowest 6 [vL a1, vX, vL a2, vX, vI a3, vL a1, vX, vL a2, vX, vX, vX] [] (M, w, true, true, l, t, u) :=
  (nR_itc X _ _ c_X7_lowest 4 _ _ _ _).trans rfl
set_option maxRecDepth 100000 in
theorem bX7_lowest_6 (d : Nat) (x0 : Int64) (x2 : Int64) (x4 : Int32) (x5 : Int64) (x7 : Int64) (x9 : AV) (M : MM) (w : Int64) (l : List (Nat × Nat × Nat)) (t u : Nat) : nR X (callN X d) hX7_lowest 6 [vL x0, vX, vL x2, vX, vI x4, vL x5, vX, vL x7, vX, x9, vX] [] (M, w, true, true, l, t, u) = if (nLcmp x7 (0 : Int64)) = 0 then if x4 = 0 then if x5 = 0 then none else some (some (vL (x0 / x5)), (M, w, true, true, l, t, u)) else if x5 = 0 then none else some (some (vL (x2 / x5)), (M, w, true, true, l, t, u)) else if x7 = 0 then none else nR X (callN X d) hX7_lowest 6 [vL x0, vX, vL x2, vX, vI x4, vL x7, vX, vL (x5 - x5 / x7 * x7), vX, vL (x5 - x5 / x7 * x7), vX] [] (M, w, true, true, l, t, u) :=
  (nR_itc X _ _ c_X7_lowest 13 _ _ _ _).trans rfl
def c_X7_mean : List Nat := [5, 12, 22, 30, 54, 59]
set_option maxRecDepth 100000 in
theorem bX7_mean_0 (d : Nat) (a1 : Int32) (a2 : Int32) (a3 : Int32) (M : MM) (w : Int64) (l : List (Nat × Nat × Nat)) (t u : Nat) : nR X (callN X d) hX7_mean 0 [vR 30 0, vI a1, vI a2, vI a3] [] (M, w, true, true, l, t, u) = nBnd (callN X d 115 [vR 30 0, vI a1] (M, w, true, true, l, t, u)) (fun v s2 => nR X (callN X d) hX7_mean 5 [vR 30 0, vI a1, vI a2, vI a3] (v.toList ++ []) s2) :=
  (nR_itc X _ _ c_X7_mean 3 _ _ _ _).trans rfl
set_option maxRecDepth 100000 in
theorem bX7_mean_5 (d : Nat) (x1 : Int32) (x2 : Int32) (x3 : Int32) (y0 : Int32) (M : MM) (w : Int64) (l : List (Nat × Nat × Nat)) (t u : Nat) : nR X (callN X d) hX7_mean 5 [vR 30 0, vI x1, vI x2, vI x3] [vI y0] (M, w, true, true, l, t, u) = if y0 = 0 then some (some (vL (-4611686018427387904 : Int64)), (M, w, true, true, l, t, u)) else nBnd (callN X d 117 [vI x2] (M, w, true, true, l, t, u)) (fun v s2 => nR X (callN X d) hX7_mean 12 [vR 30 0, vI x1, vI x2, vI x3] (v.toList ++ []) s2) :=
  (nR_itc X _ _ c_X7_mean 3 _ _ _ _).trans rfl
set_option maxRecDepth 100000 in
theorem bX7_mean_12 (d : Nat) (x1 : Int32) (x2 : Int32) (x3 : Int32) (y0 : Int32) (M : MM) (w : Int64) (l : List (Nat × Nat × Nat)) (t u : Nat) : nR X (callN X d) hX7_mean 12 [vR 30 0, vI x1, vI x2, vI x3] [vI y0] (M, w, true, true, l, t, u) = if y0 = 0 then some (some (vL (-4611686018427387904 : Int64)), (M, w, true, true, l, t, u)) else nBnd (callN X d 111 [vL (x3).toInt64, vL (0 : Int64), vL (1 : Int64)] (M, w, true, true, l, t, u)) (fun v s2 => nR X (callN X d) hX7_mean 22 [vR 30 0, vI x1, vI x2, vI x3] (v.toList ++ []) s2) :=
  (nR_itc X _ _ c_X7_mean 6 _ _ _ _).trans rfl
set_option maxRecDepth 100000 in
theorem bX7_mean_22 (d : Nat) (x1 : Int32) (x2 : Int32) (x3 : Int32) (y0 : Int32) (M : MM) (w : Int64) (l : List (Nat × Nat × Nat)) (t u : Nat) : nR X (callN X d) hX7_mean 22 [vR 30 0, vI x1, vI x2, vI x3] [vI y0] (M, w, true, true, l, t, u) = if y0 = 0 then some (some (vL (-4611686018427387904 : Int64)), (M, w, true, true, l, t, u)) else nBnd (callN X d 125 [vR 30 0, vI x1] (M, w, true, true, l, t, u)) (fun v s2 => nR X (callN X d) hX7_mean 30 [vR 30 0, vI x1, vI x2, vI x3] (v.toList ++ []) s2) :=
  (nR_itc X _ _ c_X7_mean 4 _ _ _ _).trans rfl
set_option maxRecDepth 100000 in
theorem bX7_mean_30 (d : Nat) (x1 : Int32) (x2 : Int32) (x3 : Int32) (y0 : Int32) (M : MM) (w : Int64) (l : List (Nat × Nat × Nat)) (t u : Nat) : nR X (callN X d) hX7_mean 30 [vR 30 0, vI x1, vI x2, vI x3] [vI y0] (M, w, true, true, l, t, u) = if y0 = 0 then some (some (vL (-4611686018427387904 : Int64)), (M, w, true, true, l, t, u)) else cond (nIn (((6 : Int32) * x1) + x2) 30) (nBnd (callN X d 125 [vR 30 0, vI x1] (M, w, true, true, l, t, u)) (fun v s2 => nR X (callN X d) hX7_mean 54 [vR 30 0, vI x1, vI x2, vI x3] (v.toList ++ [vL ((M 37 0 ((((6 : Int32) * x1) + x2)).toNatClampNeg)).toInt64]) s2)) none :=
  (nR_itc X _ _ c_X7_mean 13 _ _ _ _).trans rfl
set_option maxRecDepth 100000 in
theorem bX7_mean_54 (d : Nat) (x1 : Int32) (x2 : Int32) (x3 : Int32) (y0 : Int32) (y1 : Int64) (M : MM) (w : Int64) (l : List (Nat × Nat × Nat)) (t u : Nat) : nR X (callN X d) hX7_mean 54 [vR 30 0, vI x1, vI x2, vI x3] [vI y0, vL y1] (M, w, true, true, l, t, u) = nBnd (callN X d 159 [vL y1, vL (y0).toInt64, vI x3] (M, w, true, true, l, t, u)) (fun v s2 => nR X (callN X d) hX7_mean 59 [vR 30 0, vI x1, vI x2, vI x3] (v.toList ++ []) s2) :=
  (nR_itc X _ _ c_X7_mean 3 _ _ _ _).trans rfl
set_option maxRecDepth 100000 in
theorem bX7_mean_59 (d : Nat) (x1 : Int32) (x2 : Int32) (x3 : Int32) (y0 : Int64) (M : MM) (w : Int64) (l : List (Nat × Nat × Nat)) (t u : Nat) : nR X (callN X d) hX7_mean 59 [vR 30 0, vI x1, vI x2, vI x3] [vL y0] (M, w, true, true, l, t, u) = some (some (vL y0), (M, w, true, true, l, t, u)) :=
  (nR_itc X _ _ c_X7_mean 1 _ _ _ _).trans rfl
def c_X7_tables : List Nat := [2, 10, 33]
set_option maxRecDepth 100000 in
theorem bX7_tables_0 (d : Nat) (a1 : Int32) (M : MM) (w : Int64) (l : List (Nat × Nat × Nat)) (t u : Nat) : nR X (callN X d) hX7_tables 0 [vR 30 0, vI a1, vX, vX] [] (M, w, true, true, l, t, u) = nR X (callN X d) hX7_tables 2 [vR 30 0, vI a1, vI (0 : Int32), vX] [] (M, w, true, true, l, t, u) :=
  (nR_itc X _ _ c_X7_tables 2 _ _ _ _).trans rfl
set_option maxRecDepth 100000 in
theorem bX7_tables_2 (d : Nat) (x1 : Int32) (x2 : Int32) (x3 : AV) (M : MM) (w : Int64) (l : List (Nat × Nat × Nat)) (t u : Nat) : nR X (callN X d) hX7_tables 2 [vR 30 0, vI x1, vI x2, x3] [] (M, w, true, true, l, t, u) = if (6 : Int32) ≤ x2 then some (none, (M, w, true, true, l, t, u)) else nR X (callN X d) hX7_tables 10 [vR 30 0, vI x1, vI x2, vI (0 : Int32)] [] (M, w, true, true, l, t, u) :=
  (nR_itc X _ _ c_X7_tables 5 _ _ _ _).trans rfl
set_option maxRecDepth 100000 in
theorem bX7_tables_10 (d : Nat) (x1 : Int32) (x2 : Int32) (x3 : Int32) (M : MM) (w : Int64) (l : List (Nat × Nat × Nat)) (t u : Nat) : nR X (callN X d) hX7_tables 10 [vR 30 0, vI x1, vI x2, vI x3] [] (M, w, true, true, l, t, u) = if (6 : Int32) ≤ x3 then nR X (callN X d) hX7_tables 2 [vR 30 0, vI x1, vI (x2 + (1 : Int32)), vI x3] [] (M, w, true, true, l, t, u) else nBnd (callN X d 147 [vR 30 0, vI x1, vI x3, vI x2] (M, w, true, true, l, t, u)) (fun v s2 => nR X (callN X d) hX7_tables 33 [vR 30 0, vI x1, vI x2, vI x3] (v.toList ++ [vI (((6 : Int32) * x2) + x3), vR 39 0]) s2) :=
  (nR_itc X _ _ c_X7_tables 15 _ _ _ _).trans rfl
set_option maxRecDepth 100000 in
theorem bX7_tables_33 (d : Nat) (x1 : Int32) (x2 : Int32) (x3 : Int32) (y0 : Int32) (y1 : Int32) (M : MM) (w : Int64) (l : List (Nat × Nat × Nat)) (t u : Nat) : nR X (callN X d) hX7_tables 33 [vR 30 0, vI x1, vI x2, vI x3] [vI y0, vI y1, vR 39 0] (M, w, true, true, l, t, u) = cond (nIn y1 36) (nR X (callN X d) hX7_tables 10 [vR 30 0, vI x1, vI x2, vI (x3 + (1 : Int32))] [] ((nSt M 39 0 (y1).toNatClampNeg y0), w, true, true, l, t, u)) none :=
  (nR_itc X _ _ c_X7_tables 3 _ _ _ _).trans rfl
def c_X7_daysOn : List Nat := []
set_option maxRecDepth 100000 in
theorem bX7_daysOn_0 (d : Nat) (a1 : Int32) (a2 : Int32) (M : MM) (w : Int64) (l : List (Nat × Nat × Nat)) (t u : Nat) : nR X (callN X d) hX7_daysOn 0 [vI a1, vI a2] [] (M, w, true, true, l, t, u) = some (some (vI ((a1 >>> (((2 : Int32) * ((5 : Int32) - a2)) &&& 31)) &&& (3 : Int32))), (M, w, true, true, l, t, u)) :=
  (nR_itc X _ _ c_X7_daysOn 10 _ _ _ _).trans rfl
def c_X7_packed : List Nat := [5, 19]
set_option maxRecDepth 100000 in
theorem bX7_packed_0 (d : Nat) (a1 : Int32) (a2 : Int32) (M : MM) (w : Int64) (l : List (Nat × Nat × Nat)) (t u : Nat) : nR X (callN X d) hX7_packed 0 [vR 30 0, vI a1, vI a2, vX, vX] [] (M, w, true, true, l, t, u) = nR X (callN X d) hX7_packed 5 [vR 30 0, vI a1, vI a2, vI (0 : Int32), vI (0 : Int32)] [] (M, w, true, true, l, t, u) :=
  (nR_itc X _ _ c_X7_packed 4 _ _ _ _).trans rfl
set_option maxRecDepth 100000 in
theorem bX7_packed_5 (d : Nat) (x1 : Int32) (x2 : Int32) (x3 : Int32) (x4 : Int32) (M : MM) (w : Int64) (l : List (Nat × Nat × Nat)) (t u : Nat) : nR X (callN X d) hX7_packed 5 [vR 30 0, vI x1, vI x2, vI x3, vI x4] [] (M, w, true, true, l, t, u) = if (6 : Int32) ≤ x4 then some (some (vI x3), (M, w, true, true, l, t, u)) else nBnd (callN X d 162 [vI x1, vI x4] (M, w, true, true, l, t, u)) (fun v s2 => nR X (callN X d) hX7_packed 19 [vR 30 0, vI x1, vI x2, vI x3, vI x4] (v.toList ++ [vI x3]) s2) :=
  (nR_itc X _ _ c_X7_packed 7 _ _ _ _).trans rfl
set_option maxRecDepth 100000 in
theorem bX7_packed_19 (d : Nat) (x1 : Int32) (x2 : Int32) (x3 : Int32) (x4 : Int32) (y0 : Int32) (y1 : Int32) (M : MM) (w : Int64) (l : List (Nat × Nat × Nat)) (t u : Nat) : nR X (callN X d) hX7_packed 19 [vR 30 0, vI x1, vI x2, vI x3, vI x4] [vI y0, vI y1] (M, w, true, true, l, t, u) = cond (nIn (((6 : Int32) * x4) + x2) 36) (nR X (callN X d) hX7_packed 5 [vR 30 0, vI x1, vI x2, vI (y1 + (y0 * (M 39 0 ((((6 : Int32) * x4) + x2)).toNatClampNeg))), vI (x4 + (1 : Int32))] [] (M, w, true, true, l, t, u)) none :=
  (nR_itc X _ _ c_X7_packed 13 _ _ _ _).trans rfl
def c_X7_wayOf : List Nat := [9, 20]
set_option maxRecDepth 100000 in
theorem bX7_wayOf_0 (d : Nat) (a1 : Int32) (M : MM) (w : Int64) (l : List (Nat × Nat × Nat)) (t u : Nat) : nR X (callN X d) hX7_wayOf 0 [vI a1, vX, vX, vX] [] (M, w, true, true, l, t, u) = nBnd (callN X d 111 [vL (a1).toInt64, vL (0 : Int64), vL (333333 : Int64)] (M, w, true, true, l, t, u)) (fun v s2 => nR X (callN X d) hX7_wayOf 9 [vI a1, vX, vX, vX] (v.toList ++ []) s2) :=
  (nR_itc X _ _ c_X7_wayOf 5 _ _ _ _).trans rfl
set_option maxRecDepth 100000 in
theorem bX7_wayOf_9 (d : Nat) (x0 : Int32) (y0 : Int32) (M : MM) (w : Int64) (l : List (Nat × Nat × Nat)) (t u : Nat) : nR X (callN X d) hX7_wayOf 9 [vI x0, vX, vX, vX] [vI y0] (M, w, true, true, l, t, u) = if y0 = 0 then some (some (vI (-1 : Int32)), (M, w, true, true, l, t, u)) else nR X (callN X d) hX7_wayOf 20 [vI x0, vI (0 : Int32), vI x0, vI (5 : Int32)] [] (M, w, true, true, l, t, u) :=
  (nR_itc X _ _ c_X7_wayOf 7 _ _ _ _).trans rfl
set_option maxRecDepth 100000 in
theorem bX7_wayOf_20 (d : Nat) (x0 : Int32) (x1 : Int32) (x2 : Int32) (x3 : Int32) (M : MM) (w : Int64) (l : List (Nat × Nat × Nat)) (t u : Nat) : nR X (callN X d) hX7_wayOf 20 [vI x0, vI x1, vI x2, vI x3] [] (M, w, true, true, l, t, u) = if x3 < 0 then some (some (vI x1), (M, w, true, true, l, t, u)) else if (10 : Int32) = 0 then none else if (x2 - x2 / (10 : Int32) * (10 : Int32)) ≤ (3 : Int32) then if (10 : Int32) = 0 then none else if (10 : Int32) = 0 then none else nR X (callN X d) hX7_wayOf 20 [vI x0, vI (x1 ||| ((x2 - x2 / (10 : Int32) * (10 : Int32)) <<< (((2 : Int32) * ((5 : Int32) - x3)) &&& 31))), vI (x2 / (10 : Int32)), vI (x3 + (-1 : Int32))] [] (M, w, true, true, l, t, u) else some (some (vI (-1 : Int32)), (M, w, true, true, l, t, u)) :=
  (nR_itc X _ _ c_X7_wayOf 25 _ _ _ _).trans rfl
def c_X7_digitsOf : List Nat := [4, 19]
set_option maxRecDepth 100000 in
theorem bX7_digitsOf_0 (d : Nat) (a1 : Int32) (M : MM) (w : Int64) (l : List (Nat × Nat × Nat)) (t u : Nat) : nR X (callN X d) hX7_digitsOf 0 [vI a1, vX, vX] [] (M, w, true, true, l, t, u) = nR X (callN X d) hX7_digitsOf 4 [vI a1, vI (0 : Int32), vI (0 : Int32)] [] (M, w, true, true, l, t, u) :=
  (nR_itc X _ _ c_X7_digitsOf 4 _ _ _ _).trans rfl
set_option maxRecDepth 100000 in
theorem bX7_digitsOf_4 (d : Nat) (x0 : Int32) (x1 : Int32) (x2 : Int32) (M : MM) (w : Int64) (l : List (Nat × Nat × Nat)) (t u : Nat) : nR X (callN X d) hX7_digitsOf 4 [vI x0, vI x1, vI x2] [] (M, w, true, true, l, t, u) = if (6 : Int32) ≤ x2 then some (some (vI x1), (M, w, true, true, l, t, u)) else nBnd (callN X d 162 [vI x0, vI x2] (M, w, true, true, l, t, u)) (fun v s2 => nR X (callN X d) hX7_digitsOf 19 [vI x0, vI x1, vI x2] (v.toList ++ [vI ((10 : Int32) * x1)]) s2) :=
  (nR_itc X _ _ c_X7_digitsOf 9 _ _ _ _).trans rfl
set_option maxRecDepth 100000 in
theorem bX7_digitsOf_19 (d : Nat) (x0 : Int32) (x1 : Int32) (x2 : Int32) (y0 : Int32) (y1 : Int32) (M : MM) (w : Int64) (l : List (Nat × Nat × Nat)) (t u : Nat) : nR X (callN X d) hX7_digitsOf 19 [vI x0, vI x1, vI x2] [vI y0, vI y1] (M, w, true, true, l, t, u) = nR X (callN X d) hX7_digitsOf 4 [vI x0, vI (y1 + y0), vI (x2 + (1 : Int32))] [] (M, w, true, true, l, t, u) :=
  (nR_itc X _ _ c_X7_digitsOf 4 _ _ _ _).trans rfl
def c_X7_stays : List Nat := [4, 11, 24, 35, 42]
set_option maxRecDepth 100000 in
theorem bX7_stays_0 (d : Nat) (a1 : Int32) (a2 : Int32) (a3 : Int32) (M : MM) (w : Int64) (l : List (Nat × Nat × Nat)) (t u : Nat) : nR X (callN X d) hX7_stays 0 [vR 30 0, vI a1, vI a2, vI a3, vX] [] (M, w, true, true, l, t, u) = nBnd (callN X d 164 [vI a2] (M, w, true, true, l, t, u)) (fun v s2 => nR X (callN X d) hX7_stays 4 [vR 30 0, vI a1, vI a2, vI a3, vX] (v.toList ++ []) s2) :=
  (nR_itc X _ _ c_X7_stays 2 _ _ _ _).trans rfl
set_option maxRecDepth 100000 in
theorem bX7_stays_4 (d : Nat) (x1 : Int32) (x2 : Int32) (x3 : Int32) (y0 : Int32) (M : MM) (w : Int64) (l : List (Nat × Nat × Nat)) (t u : Nat) : nR X (callN X d) hX7_stays 4 [vR 30 0, vI x1, vI x2, vI x3, vX] [vI y0] (M, w, true, true, l, t, u) = nBnd (callN X d 115 [vR 30 0, vI x1] (M, w, true, true, l, t, u)) (fun v s2 => nR X (callN X d) hX7_stays 11 [vR 30 0, vI x1, vI x2, vI x3, vI y0] (v.toList ++ []) s2) :=
  (nR_itc X _ _ c_X7_stays 4 _ _ _ _).trans rfl
set_option maxRecDepth 100000 in
theorem bX7_stays_11 (d : Nat) (x1 : Int32) (x2 : Int32) (x3 : Int32) (x4 : Int32) (y0 : Int32) (M : MM) (w : Int64) (l : List (Nat × Nat × Nat)) (t u : Nat) : nR X (callN X d) hX7_stays 11 [vR 30 0, vI x1, vI x2, vI x3, vI x4] [vI y0] (M, w, true, true, l, t, u) = if y0 = 0 then some (some (vI (-2 : Int32)), (M, w, true, true, l, t, u)) else if x4 = (-1 : Int32) then some (some (vI (-2 : Int32)), (M, w, true, true, l, t, u)) else nBnd (callN X d 117 [vI x3] (M, w, true, true, l, t, u)) (fun v s2 => nR X (callN X d) hX7_stays 24 [vR 30 0, vI x1, vI x2, vI x3, vI x4] (v.toList ++ []) s2) :=
  (nR_itc X _ _ c_X7_stays 6 _ _ _ _).trans rfl
set_option maxRecDepth 100000 in
theorem bX7_stays_24 (d : Nat) (x1 : Int32) (x2 : Int32) (x3 : Int32) (x4 : Int32) (y0 : Int32) (M : MM) (w : Int64) (l : List (Nat × Nat × Nat)) (t u : Nat) : nR X (callN X d) hX7_stays 24 [vR 30 0, vI x1, vI x2, vI x3, vI x4] [vI y0] (M, w, true, true, l, t, u) = if y0 = 0 then some (some (vI (-2 : Int32)), (M, w, true, true, l, t, u)) else nBnd (callN X d 161 [vR 30 0, vI x1] (M, w, true, true, l, t, u)) (fun v s2 => nR X (callN X d) hX7_stays 35 [vR 30 0, vI x1, vI x2, vI x3, vI x4] (v.toList ++ []) s2) :=
  (nR_itc X _ _ c_X7_stays 4 _ _ _ _).trans rfl
set_option maxRecDepth 100000 in
theorem bX7_stays_35 (d : Nat) (x1 : Int32) (x2 : Int32) (x3 : Int32) (x4 : Int32) (M : MM) (w : Int64) (l : List (Nat × Nat × Nat)) (t u : Nat) : nR X (callN X d) hX7_stays 35 [vR 30 0, vI x1, vI x2, vI x3, vI x4] [] (M, w, true, true, l, t, u) = nBnd (callN X d 163 [vR 30 0, vI x4, vI x3] (M, w, true, true, l, t, u)) (fun v s2 => nR X (callN X d) hX7_stays 42 [vR 30 0, vI x1, vI x2, vI x3, vI x4] (v.toList ++ []) s2) :=
  (nR_itc X _ _ c_X7_stays 4 _ _ _ _).trans rfl
set_option maxRecDepth 100000 in
theorem bX7_stays_42 (d : Nat) (x1 : Int32) (x2 : Int32) (x3 : Int32) (x4 : Int32) (y0 : Int32) (M : MM) (w : Int64) (l : List (Nat × Nat × Nat)) (t u : Nat) : nR X (callN X d) hX7_stays 42 [vR 30 0, vI x1, vI x2, vI x3, vI x4] [vI y0] (M, w, true, true, l, t, u) = some (some (vI y0), (M, w, true, true, l, t, u)) :=
  (nR_itc X _ _ c_X7_stays 1 _ _ _ _).trans rfl
def c_X7_pack : List Nat := [4, 10, 18, 35, 43, 50, 76, 87]
set_option maxRecDepth 100000 in
theorem bX7_pack_0 (d : Nat) (a1 : Int32) (a2 : Int32) (a3 : Int32) (M : MM) (w : Int64) (l : List (Nat × Nat × Nat)) (t u : Nat) : nR X (callN X d) hX7_pack 0 [vR 30 0, vI a1, vI a2, vI a3, vX, vX, vX] [] (M, w, true, true, l, t, u) = nBnd (callN X d 164 [vI a3] (M, w, true, true, l, t, u)) (fun v s2 => nR X (callN X d) hX7_pack 4 [vR 30 0, vI a1, vI a2, vI a3, vX, vX, vX] (v.toList ++ []) s2) :=
  (nR_itc X _ _ c_X7_pack 2 _ _ _ _).trans rfl
set_option maxRecDepth 100000 in
theorem bX7_pack_4 (d : Nat) (x1 : Int32) (x2 : Int32) (x3 : Int32) (y0 : Int32) (M : MM) (w : Int64) (l : List (Nat × Nat × Nat)) (t u : Nat) : nR X (callN X d) hX7_pack 4 [vR 30 0, vI x1, vI x2, vI x3, vX, vX, vX] [vI y0] (M, w, true, true, l, t, u) = nBnd (callN X d 186 [vI x1] (M, w, true, true, l, t, u)) (fun v s2 => nR X (callN X d) hX7_pack 10 [vR 30 0, vI x1, vI x2, vI x3, vI y0, vX, vX] (v.toList ++ []) s2) :=
  (nR_itc X _ _ c_X7_pack 3 _ _ _ _).trans rfl
set_option maxRecDepth 100000 in
theorem bX7_pack_10 (d : Nat) (x1 : Int32) (x2 : Int32) (x3 : Int32) (x4 : Int32) (y0 : Int32) (M : MM) (w : Int64) (l : List (Nat × Nat × Nat)) (t u : Nat) : nR X (callN X d) hX7_pack 10 [vR 30 0, vI x1, vI x2, vI x3, vI x4, vX, vX] [vI y0] (M, w, true, true, l, t, u) = if y0 = 0 then some (some (vI (-2 : Int32)), (M, w, true, true, l, t, u)) else nBnd (callN X d 115 [vR 30 0, vI x2] (M, w, true, true, l, t, u)) (fun v s2 => nR X (callN X d) hX7_pack 18 [vR 30 0, vI x1, vI x2, vI x3, vI x4, vX, vX] (v.toList ++ []) s2) :=
  (nR_itc X _ _ c_X7_pack 4 _ _ _ _).trans rfl
set_option maxRecDepth 100000 in
theorem bX7_pack_18 (d : Nat) (x1 : Int32) (x2 : Int32) (x3 : Int32) (x4 : Int32) (y0 : Int32) (M : MM) (w : Int64) (l : List (Nat × Nat × Nat)) (t u : Nat) : nR X (callN X d) hX7_pack 18 [vR 30 0, vI x1, vI x2, vI x3, vI x4, vX, vX] [vI y0] (M, w, true, true, l, t, u) = if y0 = 0 then some (some (vI (-2 : Int32)), (M, w, true, true, l, t, u)) else if x4 = (-1 : Int32) then some (some (vI (-2 : Int32)), (M, w, true, true, l, t, u)) else nBnd (callN X d 161 [vR 30 0, vI x2] (M, w, true, true, l, t, u)) (fun v s2 => nR X (callN X d) hX7_pack 35 [vR 30 0, vI x1, vI x2, vI x3, vI x4, vX, vX] (v.toList ++ []) s2) :=
  (nR_itc X _ _ c_X7_pack 7 _ _ _ _).trans rfl
set_option maxRecDepth 100000 in
theorem bX7_pack_35 (d : Nat) (x1 : Int32) (x2 : Int32) (x3 : Int32) (x4 : Int32) (M : MM) (w : Int64) (l : List (Nat × Nat × Nat)) (t u : Nat) : nR X (callN X d) hX7_pack 35 [vR 30 0, vI x1, vI x2, vI x3, vI x4, vX, vX] [] (M, w, true, true, l, t, u) = nBnd (callN X d 187 [vR 30 0, vI x1, vI (2 : Int32), vI (6 : Int32)] (M, w, true, true, l, t, u)) (fun v s2 => nR X (callN X d) hX7_pack 43 [vR 30 0, vI x1, vI x2, vI x3, vI x4, vX, vX] (v.toList ++ []) s2) :=
  (nR_itc X _ _ c_X7_pack 5 _ _ _ _).trans rfl
set_option maxRecDepth 100000 in
theorem bX7_pack_43 (d : Nat) (x1 : Int32) (x2 : Int32) (x3 : Int32) (x4 : Int32) (y0 : Int32) (M : MM) (w : Int64) (l : List (Nat × Nat × Nat)) (t u : Nat) : nR X (callN X d) hX7_pack 43 [vR 30 0, vI x1, vI x2, vI x3, vI x4, vX, vX] [vI y0] (M, w, true, true, l, t, u) = nR X (callN X d) hX7_pack 50 [vR 30 0, vI x1, vI x2, vI x3, vI x4, vI (0 : Int32), vI (0 : Int32)] [] (M, w, true, true, l, t, u) :=
  (nR_itc X _ _ c_X7_pack 5 _ _ _ _).trans rfl
set_option maxRecDepth 100000 in
theorem bX7_pack_50 (d : Nat) (x1 : Int32) (x2 : Int32) (x3 : Int32) (x4 : Int32) (x5 : Int32) (x6 : Int32) (M : MM) (w : Int64) (l : List (Nat × Nat × Nat)) (t u : Nat) : nR X (callN X d) hX7_pack 50 [vR 30 0, vI x1, vI x2, vI x3, vI x4, vI x5, vI x6] [] (M, w, true, true, l, t, u) = if (6 : Int32) ≤ x6 then some (some (vI x5), (M, w, true, true, l, t, u)) else nBnd (callN X d 163 [vR 30 0, vI x4, vI x6] (M, w, true, true, l, t, u)) (fun v s2 => nR X (callN X d) hX7_pack 76 [vR 30 0, vI x1, vI x2, vI x3, vI x4, vI x5, vI x6] (v.toList ++ [vI (((40 : Int32) * x1) + x6), vR 48 0]) s2) :=
  (nR_itc X _ _ c_X7_pack 14 _ _ _ _).trans rfl
set_option maxRecDepth 100000 in
theorem bX7_pack_76 (d : Nat) (x1 : Int32) (x2 : Int32) (x3 : Int32) (x4 : Int32) (x5 : Int32) (x6 : Int32) (y0 : Int32) (y1 : Int32) (M : MM) (w : Int64) (l : List (Nat × Nat × Nat)) (t u : Nat) : nR X (callN X d) hX7_pack 76 [vR 30 0, vI x1, vI x2, vI x3, vI x4, vI x5, vI x6] [vI y0, vI y1, vR 48 0] (M, w, true, true, l, t, u) = cond (nIn y1 160) (nBnd (callN X d 163 [vR 30 0, vI x4, vI x6] ((nSt M 48 0 (y1).toNatClampNeg y0), w, true, true, l, t, u)) (fun v s2 => nR X (callN X d) hX7_pack 87 [vR 30 0, vI x1, vI x2, vI x3, vI x4, vI x5, vI x6] (v.toList ++ [vI x5]) s2)) none :=
  (nR_itc X _ _ c_X7_pack 6 _ _ _ _).trans rfl
set_option maxRecDepth 100000 in
theorem bX7_pack_87 (d : Nat) (x1 : Int32) (x2 : Int32) (x3 : Int32) (x4 : Int32) (x5 : Int32) (x6 : Int32) (y0 : Int32) (y1 : Int32) (M : MM) (w : Int64) (l : List (Nat × Nat × Nat)) (t u : Nat) : nR X (callN X d) hX7_pack 87 [vR 30 0, vI x1, vI x2, vI x3, vI x4, vI x5, vI x6] [vI y0, vI y1] (M, w, true, true, l, t, u) = nR X (callN X d) hX7_pack 50 [vR 30 0, vI x1, vI x2, vI x3, vI x4, vI (y1 + y0), vI (x6 + (1 : Int32))] [] (M, w, true, true, l, t, u) :=
  (nR_itc X _ _ c_X7_pack 4 _ _ _ _).trans rfl
def c_X7_fits : List Nat := [2, 14]
set_option maxRecDepth 100000 in
theorem bX7_fits_0 (d : Nat) (a1 : Int32) (a2 : Int32) (M : MM) (w : Int64) (l : List (Nat × Nat × Nat)) (t u : Nat) : nR X (callN X d) hX7_fits 0 [vR 30 0, vI a1, vI a2, vX] [] (M, w, true, true, l, t, u) = nR X (callN X d) hX7_fits 2 [vR 30 0, vI a1, vI a2, vI (0 : Int32)] [] (M, w, true, true, l, t, u) :=
  (nR_itc X _ _ c_X7_fits 2 _ _ _ _).trans rfl
set_option maxRecDepth 100000 in
theorem bX7_fits_2 (d : Nat) (x1 : Int32) (x2 : Int32) (x3 : Int32) (M : MM) (w : Int64) (l : List (Nat × Nat × Nat)) (t u : Nat) : nR X (callN X d) hX7_fits 2 [vR 30 0, vI x1, vI x2, vI x3] [] (M, w, true, true, l, t, u) = if (6 : Int32) ≤ x3 then some (some (vI (1 : Int32)), (M, w, true, true, l, t, u)) else nBnd (callN X d 163 [vR 30 0, vI x2, vI x3] (M, w, true, true, l, t, u)) (fun v s2 => nR X (callN X d) hX7_fits 14 [vR 30 0, vI x1, vI x2, vI x3] (v.toList ++ []) s2) :=
  (nR_itc X _ _ c_X7_fits 7 _ _ _ _).trans rfl
set_option maxRecDepth 100000 in
theorem bX7_fits_14 (d : Nat) (x1 : Int32) (x2 : Int32) (x3 : Int32) (y0 : Int32) (M : MM) (w : Int64) (l : List (Nat × Nat × Nat)) (t u : Nat) : nR X (callN X d) hX7_fits 14 [vR 30 0, vI x1, vI x2, vI x3] [vI y0] (M, w, true, true, l, t, u) = cond (nIn (((40 : Int32) * x1) + x3) 160) (if y0 = (M 48 0 ((((40 : Int32) * x1) + x3)).toNatClampNeg) then nR X (callN X d) hX7_fits 2 [vR 30 0, vI x1, vI x2, vI (x3 + (1 : Int32))] [] (M, w, true, true, l, t, u) else some (some (vI (0 : Int32)), (M, w, true, true, l, t, u))) none :=
  (nR_itc X _ _ c_X7_fits 11 _ _ _ _).trans rfl
def c_X7_lengthOf : List Nat := [4, 16]
set_option maxRecDepth 100000 in
theorem bX7_lengthOf_0 (d : Nat) (a1 : Int32) (M : MM) (w : Int64) (l : List (Nat × Nat × Nat)) (t u : Nat) : nR X (callN X d) hX7_lengthOf 0 [vI a1, vX, vX] [] (M, w, true, true, l, t, u) = nR X (callN X d) hX7_lengthOf 4 [vI a1, vI (0 : Int32), vI (0 : Int32)] [] (M, w, true, true, l, t, u) :=
  (nR_itc X _ _ c_X7_lengthOf 4 _ _ _ _).trans rfl
set_option maxRecDepth 100000 in
theorem bX7_lengthOf_4 (d : Nat) (x0 : Int32) (x1 : Int32) (x2 : Int32) (M : MM) (w : Int64) (l : List (Nat × Nat × Nat)) (t u : Nat) : nR X (callN X d) hX7_lengthOf 4 [vI x0, vI x1, vI x2] [] (M, w, true, true, l, t, u) = if (6 : Int32) ≤ x2 then some (some (vI x1), (M, w, true, true, l, t, u)) else nBnd (callN X d 162 [vI x0, vI x2] (M, w, true, true, l, t, u)) (fun v s2 => nR X (callN X d) hX7_lengthOf 16 [vI x0, vI x1, vI x2] (v.toList ++ [vI x1]) s2) :=
  (nR_itc X _ _ c_X7_lengthOf 7 _ _ _ _).trans rfl
set_option maxRecDepth 100000 in
theorem bX7_lengthOf_16 (d : Nat) (x0 : Int32) (x1 : Int32) (x2 : Int32) (y0 : Int32) (y1 : Int32) (M : MM) (w : Int64) (l : List (Nat × Nat × Nat)) (t u : Nat) : nR X (callN X d) hX7_lengthOf 16 [vI x0, vI x1, vI x2] [vI y0, vI y1] (M, w, true, true, l, t, u) = nR X (callN X d) hX7_lengthOf 4 [vI x0, vI (y1 + y0), vI (x2 + (1 : Int32))] [] (M, w, true, true, l, t, u) :=
  (nR_itc X _ _ c_X7_lengthOf 4 _ _ _ _).trans rfl
def c_X7_coastsOf : List Nat := [4, 16]
set_option maxRecDepth 100000 in
theorem bX7_coastsOf_0 (d : Nat) (a1 : Int32) (M : MM) (w : Int64) (l : List (Nat × Nat × Nat)) (t u : Nat) : nR X (callN X d) hX7_coastsOf 0 [vI a1, vX, vX] [] (M, w, true, true, l, t, u) = nR X (callN X d) hX7_coastsOf 4 [vI a1, vI (0 : Int32), vI (0 : Int32)] [] (M, w, true, true, l, t, u) :=
  (nR_itc X _ _ c_X7_coastsOf 4 _ _ _ _).trans rfl
set_option maxRecDepth 100000 in
theorem bX7_coastsOf_4 (d : Nat) (x0 : Int32) (x1 : Int32) (x2 : Int32) (M : MM) (w : Int64) (l : List (Nat × Nat × Nat)) (t u : Nat) : nR X (callN X d) hX7_coastsOf 4 [vI x0, vI x1, vI x2] [] (M, w, true, true, l, t, u) = if (6 : Int32) ≤ x2 then some (some (vI x1), (M, w, true, true, l, t, u)) else nBnd (callN X d 162 [vI x0, vI x2] (M, w, true, true, l, t, u)) (fun v s2 => nR X (callN X d) hX7_coastsOf 16 [vI x0, vI x1, vI x2] (v.toList ++ [vI x1]) s2) :=
  (nR_itc X _ _ c_X7_coastsOf 7 _ _ _ _).trans rfl
set_option maxRecDepth 100000 in
theorem bX7_coastsOf_16 (d : Nat) (x0 : Int32) (x1 : Int32) (x2 : Int32) (y0 : Int32) (y1 : Int32) (M : MM) (w : Int64) (l : List (Nat × Nat × Nat)) (t u : Nat) : nR X (callN X d) hX7_coastsOf 16 [vI x0, vI x1, vI x2] [vI y0, vI y1] (M, w, true, true, l, t, u) = if y0 ≤ 0 then nR X (callN X d) hX7_coastsOf 4 [vI x0, vI (y1 ||| ((0 : Int32) <<< (x2 &&& 31))), vI (x2 + (1 : Int32))] [] (M, w, true, true, l, t, u) else nR X (callN X d) hX7_coastsOf 4 [vI x0, vI (y1 ||| ((1 : Int32) <<< (x2 &&& 31))), vI (x2 + (1 : Int32))] [] (M, w, true, true, l, t, u) :=
  (nR_itc X _ _ c_X7_coastsOf 9 _ _ _ _).trans rfl
def c_X7_looks : List Nat := [5, 33, 54, 67, 74, 111, 153, 165, 173]
set_option maxRecDepth 100000 in
theorem bX7_looks_0 (d : Nat) (a1 : Int32) (a2 : Int32) (M : MM) (w : Int64) (l : List (Nat × Nat × Nat)) (t u : Nat) : nR X (callN X d) hX7_looks 0 [vR 30 0, vI a1, vI a2, vX, vX, vX] [] (M, w, true, true, l, t, u) = nBnd (callN X d 161 [vR 30 0, vI a2] (M, w, true, true, l, t, u)) (fun v s2 => nR X (callN X d) hX7_looks 5 [vR 30 0, vI a1, vI a2, vX, vX, vX] (v.toList ++ []) s2) :=
  (nR_itc X _ _ c_X7_looks 3 _ _ _ _).trans rfl
set_option maxRecDepth 100000 in
theorem bX7_looks_5 (d : Nat) (x1 : Int32) (x2 : Int32) (M : MM) (w : Int64) (l : List (Nat × Nat × Nat)) (t u : Nat) : nR X (callN X d) hX7_looks 5 [vR 30 0, vI x1, vI x2, vX, vX, vX] [] (M, w, true, true, l, t, u) = nR X (callN X d) hX7_looks 33 [vR 30 0, vI x1, vI x2, vI (0 : Int32), vX, vX] [] ((nSt (nSt (nSt (nSt (nSt M 30 0 30 (0 : Int32)) 30 0 31 (-1 : Int32)) 30 0 32 (-1 : Int32)) 30 0 33 (63 : Int32)) 30 0 34 (0 : Int32)), w, true, true, l, t, u) :=
  (nR_itc X _ _ c_X7_looks 17 _ _ _ _).trans rfl
set_option maxRecDepth 100000 in
theorem bX7_looks_33 (d : Nat) (x1 : Int32) (x2 : Int32) (x3 : Int32) (M : MM) (w : Int64) (l : List (Nat × Nat × Nat)) (t u : Nat) : nR X (callN X d) hX7_looks 33 [vR 30 0, vI x1, vI x2, vI x3, vX, vX] [] (M, w, true, true, l, t, u) = if (6 : Int32) ≤ x3 then nR X (callN X d) hX7_looks 54 [vR 30 0, vI x1, vI x2, vI (0 : Int32), vX, vX] [] (M, w, true, true, l, t, u) else cond (nIn x3 6) (nR X (callN X d) hX7_looks 33 [vR 30 0, vI x1, vI x2, vI (x3 + (1 : Int32)), vX, vX] [] ((nSt M 40 0 (x3).toNatClampNeg (0 : Int32)), w, true, true, l, t, u)) none :=
  (nR_itc X _ _ c_X7_looks 10 _ _ _ _).trans rfl
set_option maxRecDepth 100000 in
theorem bX7_looks_54 (d : Nat) (x1 : Int32) (x2 : Int32) (x3 : Int32) (x4 : AV) (x5 : AV) (M : MM) (w : Int64) (l : List (Nat × Nat × Nat)) (t u : Nat) : nR X (callN X d) hX7_looks 54 [vR 30 0, vI x1, vI x2, vI x3, x4, x5] [] (M, w, true, true, l, t, u) = if (4096 : Int32) ≤ x3 then if (M 30 0 30) = 0 then some (none, ((nSt M 30 0 33 (0 : Int32)), w, true, true, l, t, u)) else some (none, ((nSt M 30 0 33 (M 30 0 33)), w, true, true, l, t, u)) else nBnd (callN X d 168 [vR 30 0, vI x1, vI x3] (M, w, true, true, l, t, u)) (fun v s2 => nR X (callN X d) hX7_looks 67 [vR 30 0, vI x1, vI x2, vI x3, x4, x5] (v.toList ++ []) s2) :=
  (nR_itc X _ _ c_X7_looks 11 _ _ _ _).trans rfl
set_option maxRecDepth 100000 in
theorem bX7_looks_67 (d : Nat) (x1 : Int32) (x2 : Int32) (x3 : Int32) (x4 : AV) (x5 : AV) (y0 : Int32) (M : MM) (w : Int64) (l : List (Nat × Nat × Nat)) (t u : Nat) : nR X (callN X d) hX7_looks 67 [vR 30 0, vI x1, vI x2, vI x3, x4, x5] [vI y0] (M, w, true, true, l, t, u) = if y0 = 0 then nR X (callN X d) hX7_looks 54 [vR 30 0, vI x1, vI x2, vI (x3 + (1 : Int32)), x4, x5] [] (M, w, true, true, l, t, u) else nBnd (callN X d 170 [vI x3] (M, w, true, true, l, t, u)) (fun v s2 => nR X (callN X d) hX7_looks 74 [vR 30 0, vI x1, vI x2, vI x3, x4, x5] (v.toList ++ []) s2) :=
  (nR_itc X _ _ c_X7_looks 3 _ _ _ _).trans rfl
set_option maxRecDepth 100000 in
theorem bX7_looks_74 (d : Nat) (x1 : Int32) (x2 : Int32) (x3 : Int32) (x4 : AV) (x5 : AV) (y0 : Int32) (M : MM) (w : Int64) (l : List (Nat × Nat × Nat)) (t u : Nat) : nR X (callN X d) hX7_looks 74 [vR 30 0, vI x1, vI x2, vI x3, x4, x5] [vI y0] (M, w, true, true, l, t, u) = nR X (callN X d) hX7_looks 111 [vR 30 0, vI x1, vI x2, vI x3, vI y0, vI (0 : Int32)] [] ((nSt (nSt (nSt M 30 0 30 ((M 30 0 30) + (1 : Int32))) 30 0 33 (((nSt M 30 0 30 ((M 30 0 30) + (1 : Int32))) 30 0 33) &&& y0)) 30 0 34 (((nSt (nSt M 30 0 30 ((M 30 0 30) + (1 : Int32))) 30 0 33 (((nSt M 30 0 30 ((M 30 0 30) + (1 : Int32))) 30 0 33) &&& y0)) 30 0 34) ||| y0)), w, true, true, l, t, u) :=
  (nR_itc X _ _ c_X7_looks 21 _ _ _ _).trans rfl
set_option maxRecDepth 100000 in
theorem bX7_looks_111 (d : Nat) (x1 : Int32) (x2 : Int32) (x3 : Int32) (x4 : Int32) (x5 : Int32) (M : MM) (w : Int64) (l : List (Nat × Nat × Nat)) (t u : Nat) : nR X (callN X d) hX7_looks 111 [vR 30 0, vI x1, vI x2, vI x3, vI x4, vI x5] [] (M, w, true, true, l, t, u) = if (6 : Int32) ≤ x5 then if (M 30 0 32) = (-1 : Int32) then nBnd (callN X d 169 [vI x3] (M, w, true, true, l, t, u)) (fun v s2 => nR X (callN X d) hX7_looks 165 [vR 30 0, vI x1, vI x2, vI x3, vI x4, vI x5] (v.toList ++ [vR 30 0]) s2) else nBnd (callN X d 169 [vI x3] (M, w, true, true, l, t, u)) (fun v s2 => nR X (callN X d) hX7_looks 153 [vR 30 0, vI x1, vI x2, vI x3, vI x4, vI x5] (v.toList ++ []) s2) else cond (nIn x5 6) (cond (nIn x5 6) (nR X (callN X d) hX7_looks 111 [vR 30 0, vI x1, vI x2, vI x3, vI x4, vI (x5 + (1 : Int32))] [] ((nSt M 40 0 (x5).toNatClampNeg ((M 40 0 (x5).toNatClampNeg) + ((x4 >>> (x5 &&& 31)) &&& (1 : Int32)))), w, true, true, l, t, u)) none) none :=
  (nR_itc X _ _ c_X7_looks 17 _ _ _ _).trans rfl
set_option maxRecDepth 100000 in
theorem bX7_looks_153 (d : Nat) (x1 : Int32) (x2 : Int32) (x3 : Int32) (x4 : Int32) (x5 : Int32) (y0 : Int32) (M : MM) (w : Int64) (l : List (Nat × Nat × Nat)) (t u : Nat) : nR X (callN X d) hX7_looks 153 [vR 30 0, vI x1, vI x2, vI x3, vI x4, vI x5] [vI y0] (M, w, true, true, l, t, u) = if (M 30 0 32) ≤ y0 then nR X (callN X d) hX7_looks 54 [vR 30 0, vI x1, vI x2, vI (x3 + (1 : Int32)), vI x4, vI x5] [] (M, w, true, true, l, t, u) else nBnd (callN X d 169 [vI x3] (M, w, true, true, l, t, u)) (fun v s2 => nR X (callN X d) hX7_looks 165 [vR 30 0, vI x1, vI x2, vI x3, vI x4, vI x5] (v.toList ++ [vR 30 0]) s2) :=
  (nR_itc X _ _ c_X7_looks 6 _ _ _ _).trans rfl
set_option maxRecDepth 100000 in
theorem bX7_looks_165 (d : Nat) (x1 : Int32) (x2 : Int32) (x3 : Int32) (x4 : Int32) (x5 : Int32) (y0 : Int32) (M : MM) (w : Int64) (l : List (Nat × Nat × Nat)) (t u : Nat) : nR X (callN X d) hX7_looks 165 [vR 30 0, vI x1, vI x2, vI x3, vI x4, vI x5] [vI y0, vR 30 0] (M, w, true, true, l, t, u) = nBnd (callN X d 165 [vI x3] ((nSt M 30 0 32 y0), w, true, true, l, t, u)) (fun v s2 => nR X (callN X d) hX7_looks 173 [vR 30 0, vI x1, vI x2, vI x3, vI x4, vI x5] (v.toList ++ [vR 30 0]) s2) :=
  (nR_itc X _ _ c_X7_looks 4 _ _ _ _).trans rfl
set_option maxRecDepth 100000 in
theorem bX7_looks_173 (d : Nat) (x1 : Int32) (x2 : Int32) (x3 : Int32) (x4 : Int32) (x5 : Int32) (y0 : Int32) (M : MM) (w : Int64) (l : List (Nat × Nat × Nat)) (t u : Nat) : nR X (callN X d) hX7_looks 173 [vR 30 0, vI x1, vI x2, vI x3, vI x4, vI x5] [vI y0, vR 30 0] (M, w, true, true, l, t, u) = nR X (callN X d) hX7_looks 54 [vR 30 0, vI x1, vI x2, vI (x3 + (1 : Int32)), vI x4, vI x5] [] ((nSt M 30 0 31 y0), w, true, true, l, t, u) :=
  (nR_itc X _ _ c_X7_looks 3 _ _ _ _).trans rfl
def c_X7_fit : List Nat := [4, 12, 24, 62]
set_option maxRecDepth 100000 in
theorem bX7_fit_0 (d : Nat) (a1 : Int32) (a2 : Int32) (a3 : Int32) (M : MM) (w : Int64) (l : List (Nat × Nat × Nat)) (t u : Nat) : nR X (callN X d) hX7_fit 0 [vR 30 0, vI a1, vI a2, vI a3] [] (M, w, true, true, l, t, u) = nBnd (callN X d 186 [vI a1] (M, w, true, true, l, t, u)) (fun v s2 => nR X (callN X d) hX7_fit 4 [vR 30 0, vI a1, vI a2, vI a3] (v.toList ++ []) s2) :=
  (nR_itc X _ _ c_X7_fit 2 _ _ _ _).trans rfl
set_option maxRecDepth 100000 in
theorem bX7_fit_4 (d : Nat) (x1 : Int32) (x2 : Int32) (x3 : Int32) (y0 : Int32) (M : MM) (w : Int64) (l : List (Nat × Nat × Nat)) (t u : Nat) : nR X (callN X d) hX7_fit 4 [vR 30 0, vI x1, vI x2, vI x3] [vI y0] (M, w, true, true, l, t, u) = if y0 = 0 then some (some (vI (-2 : Int32)), (M, w, true, true, l, t, u)) else nBnd (callN X d 115 [vR 30 0, vI x2] (M, w, true, true, l, t, u)) (fun v s2 => nR X (callN X d) hX7_fit 12 [vR 30 0, vI x1, vI x2, vI x3] (v.toList ++ []) s2) :=
  (nR_itc X _ _ c_X7_fit 4 _ _ _ _).trans rfl
set_option maxRecDepth 100000 in
theorem bX7_fit_12 (d : Nat) (x1 : Int32) (x2 : Int32) (x3 : Int32) (y0 : Int32) (M : MM) (w : Int64) (l : List (Nat × Nat × Nat)) (t u : Nat) : nR X (callN X d) hX7_fit 12 [vR 30 0, vI x1, vI x2, vI x3] [vI y0] (M, w, true, true, l, t, u) = if y0 = 0 then some (some (vI (-2 : Int32)), (M, w, true, true, l, t, u)) else nBnd (callN X d 111 [vL (x3).toInt64, vL (0 : Int64), vL (4 : Int64)] (M, w, true, true, l, t, u)) (fun v s2 => nR X (callN X d) hX7_fit 24 [vR 30 0, vI x1, vI x2, vI x3] (v.toList ++ []) s2) :=
  (nR_itc X _ _ c_X7_fit 6 _ _ _ _).trans rfl
set_option maxRecDepth 100000 in
theorem bX7_fit_24 (d : Nat) (x1 : Int32) (x2 : Int32) (x3 : Int32) (y0 : Int32) (M : MM) (w : Int64) (l : List (Nat × Nat × Nat)) (t u : Nat) : nR X (callN X d) hX7_fit 24 [vR 30 0, vI x1, vI x2, vI x3] [vI y0] (M, w, true, true, l, t, u) = if y0 = 0 then some (some (vI (-2 : Int32)), (M, w, true, true, l, t, u)) else cond (nIn x1 4) (if (M 45 0 (x1).toNatClampNeg) = 0 then some (some (vI (-11 : Int32)), (M, w, true, true, l, t, u)) else cond (nIn x1 4) (if (M 47 0 (x1).toNatClampNeg) = (6 : Int32) then nBnd (callN X d 171 [vR 30 0, vI x1, vI x2] (M, w, true, true, l, t, u)) (fun v s2 => nR X (callN X d) hX7_fit 62 [vR 30 0, vI x1, vI x2, vI x3] (v.toList ++ []) s2) else some (some (vI (-2 : Int32)), (M, w, true, true, l, t, u))) none) none :=
  (nR_itc X _ _ c_X7_fit 16 _ _ _ _).trans rfl
set_option maxRecDepth 100000 in
theorem bX7_fit_62 (d : Nat) (x1 : Int32) (x2 : Int32) (x3 : Int32) (M : MM) (w : Int64) (l : List (Nat × Nat × Nat)) (t u : Nat) : nR X (callN X d) hX7_fit 62 [vR 30 0, vI x1, vI x2, vI x3] [] (M, w, true, true, l, t, u) = if x3 = 0 then some (some (vI (M 30 0 30)), (M, w, true, true, l, t, u)) else if x3 = (1 : Int32) then some (some (vI (M 30 0 31)), (M, w, true, true, l, t, u)) else if x3 = (2 : Int32) then some (some (vI (M 30 0 32)), (M, w, true, true, l, t, u)) else if x3 = (3 : Int32) then some (some (vI (M 30 0 33)), (M, w, true, true, l, t, u)) else some (some (vI (M 30 0 34)), (M, w, true, true, l, t, u)) :=
  (nR_itc X _ _ c_X7_fit 15 _ _ _ _).trans rfl
def c_X7_share : List Nat := [4, 12, 39, 50, 63, 93]
set_option maxRecDepth 100000 in
theorem bX7_share_0 (d : Nat) (a1 : Int32) (a2 : Int32) (a3 : Int32) (a4 : Int32) (M : MM) (w : Int64) (l : List (Nat × Nat × Nat)) (t u : Nat) : nR X (callN X d) hX7_share 0 [vR 30 0, vI a1, vI a2, vI a3, vI a4] [] (M, w, true, true, l, t, u) = nBnd (callN X d 186 [vI a1] (M, w, true, true, l, t, u)) (fun v s2 => nR X (callN X d) hX7_share 4 [vR 30 0, vI a1, vI a2, vI a3, vI a4] (v.toList ++ []) s2) :=
  (nR_itc X _ _ c_X7_share 2 _ _ _ _).trans rfl
set_option maxRecDepth 100000 in
theorem bX7_share_4 (d : Nat) (x1 : Int32) (x2 : Int32) (x3 : Int32) (x4 : Int32) (y0 : Int32) (M : MM) (w : Int64) (l : List (Nat × Nat × Nat)) (t u : Nat) : nR X (callN X d) hX7_share 4 [vR 30 0, vI x1, vI x2, vI x3, vI x4] [vI y0] (M, w, true, true, l, t, u) = if y0 = 0 then some (some (vL (-4611686018427387904 : Int64)), (M, w, true, true, l, t, u)) else nBnd (callN X d 115 [vR 30 0, vI x2] (M, w, true, true, l, t, u)) (fun v s2 => nR X (callN X d) hX7_share 12 [vR 30 0, vI x1, vI x2, vI x3, vI x4] (v.toList ++ []) s2) :=
  (nR_itc X _ _ c_X7_share 4 _ _ _ _).trans rfl
set_option maxRecDepth 100000 in
theorem bX7_share_12 (d : Nat) (x1 : Int32) (x2 : Int32) (x3 : Int32) (x4 : Int32) (y0 : Int32) (M : MM) (w : Int64) (l : List (Nat × Nat × Nat)) (t u : Nat) : nR X (callN X d) hX7_share 12 [vR 30 0, vI x1, vI x2, vI x3, vI x4] [vI y0] (M, w, true, true, l, t, u) = if y0 = 0 then some (some (vL (-4611686018427387904 : Int64)), (M, w, true, true, l, t, u)) else cond (nIn x1 4) (if (M 45 0 (x1).toNatClampNeg) = 0 then some (some (vL (-4611686018427387904 : Int64)), (M, w, true, true, l, t, u)) else cond (nIn x1 4) (if (M 47 0 (x1).toNatClampNeg) = (6 : Int32) then nBnd (callN X d 116 [vI x3] (M, w, true, true, l, t, u)) (fun v s2 => nR X (callN X d) hX7_share 39 [vR 30 0, vI x1, vI x2, vI x3, vI x4] (v.toList ++ []) s2) else some (some (vL (-4611686018427387904 : Int64)), (M, w, true, true, l, t, u))) none) none :=
  (nR_itc X _ _ c_X7_share 14 _ _ _ _).trans rfl
set_option maxRecDepth 100000 in
theorem bX7_share_39 (d : Nat) (x1 : Int32) (x2 : Int32) (x3 : Int32) (x4 : Int32) (y0 : Int32) (M : MM) (w : Int64) (l : List (Nat × Nat × Nat)) (t u : Nat) : nR X (callN X d) hX7_share 39 [vR 30 0, vI x1, vI x2, vI x3, vI x4] [vI y0] (M, w, true, true, l, t, u) = if y0 = 0 then some (some (vL (-4611686018427387904 : Int64)), (M, w, true, true, l, t, u)) else nBnd (callN X d 111 [vL (x4).toInt64, vL (0 : Int64), vL (1 : Int64)] (M, w, true, true, l, t, u)) (fun v s2 => nR X (callN X d) hX7_share 50 [vR 30 0, vI x1, vI x2, vI x3, vI x4] (v.toList ++ []) s2) :=
  (nR_itc X _ _ c_X7_share 6 _ _ _ _).trans rfl
set_option maxRecDepth 100000 in
theorem bX7_share_50 (d : Nat) (x1 : Int32) (x2 : Int32) (x3 : Int32) (x4 : Int32) (y0 : Int32) (M : MM) (w : Int64) (l : List (Nat × Nat × Nat)) (t u : Nat) : nR X (callN X d) hX7_share 50 [vR 30 0, vI x1, vI x2, vI x3, vI x4] [vI y0] (M, w, true, true, l, t, u) = if y0 = 0 then some (some (vL (-4611686018427387904 : Int64)), (M, w, true, true, l, t, u)) else nBnd (callN X d 171 [vR 30 0, vI x1, vI x2] (M, w, true, true, l, t, u)) (fun v s2 => nR X (callN X d) hX7_share 63 [vR 30 0, vI x1, vI x2, vI x3, vI x4] (v.toList ++ []) s2) :=
  (nR_itc X _ _ c_X7_share 5 _ _ _ _).trans rfl
set_option maxRecDepth 100000 in
theorem bX7_share_63 (d : Nat) (x1 : Int32) (x2 : Int32) (x3 : Int32) (x4 : Int32) (M : MM) (w : Int64) (l : List (Nat × Nat × Nat)) (t u : Nat) : nR X (callN X d) hX7_share 63 [vR 30 0, vI x1, vI x2, vI x3, vI x4] [] (M, w, true, true, l, t, u) = if (M 30 0 30) = 0 then nR X (callN X d) hX7_share 93 [vR 30 0, vI x1, vI x2, vI x3, vI x4] [vL (-4611686018427387904 : Int64)] (M, w, true, true, l, t, u) else cond (nIn x3 6) (nBnd (callN X d 159 [vL ((M 40 0 (x3).toNatClampNeg)).toInt64, vL ((M 30 0 30)).toInt64, vI x4] (M, w, true, true, l, t, u)) (fun v s2 => nR X (callN X d) hX7_share 93 [vR 30 0, vI x1, vI x2, vI x3, vI x4] (v.toList ++ []) s2)) none :=
  (nR_itc X _ _ c_X7_share 13 _ _ _ _).trans rfl
set_option maxRecDepth 100000 in
theorem bX7_share_93 (d : Nat) (x1 : Int32) (x2 : Int32) (x3 : Int32) (x4 : Int32) (y0 : Int64) (M : MM) (w : Int64) (l : List (Nat × Nat × Nat)) (t u : Nat) : nR X (callN X d) hX7_share 93 [vR 30 0, vI x1, vI x2, vI x3, vI x4] [vL y0] (M, w, true, true, l, t, u) = some (some (vL y0), (M, w, true, true, l, t, u)) :=
  (nR_itc X _ _ c_X7_share 1 _ _ _ _).trans rfl
def c_X7_goes : List Nat := [10, 46, 62, 123, 151, 154]
set_option maxRecDepth 100000 in
theorem bX7_goes_0 (d : Nat) (a1 : Int32) (a2 : Int32) (a3 : Int32) (a4 : Int32) (a5 : Int32) (M : MM) (w : Int64) (l : List (Nat × Nat × Nat)) (t u : Nat) : nR X (callN X d) hX7_goes 0 [vR 30 0, vI a1, vI a2, vI a3, vI a4, vI a5, vX, vX, vX] [] (M, w, true, true, l, t, u) = if a3 = 0 then nBnd (callN X d 154 [vR 30 0, vI a1, vI a2] (M, w, true, true, l, t, u)) (fun v s2 => nR X (callN X d) hX7_goes 10 [vR 30 0, vI a1, vI a2, vI a3, vI a4, vI a5, vX, vX, vX] (v.toList ++ []) s2) else nR X (callN X d) hX7_goes 46 [vR 30 0, vI a1, vI a2, vI a3, vI a4, vI a5, vI a4, vX, vX] [] (M, w, true, true, l, t, u) :=
  (nR_itc X _ _ c_X7_goes 6 _ _ _ _).trans rfl
set_option maxRecDepth 100000 in
theorem bX7_goes_10 (d : Nat) (x1 : Int32) (x2 : Int32) (x3 : Int32) (x4 : Int32) (x5 : Int32) (y0 : Int32) (M : MM) (w : Int64) (l : List (Nat × Nat × Nat)) (t u : Nat) : nR X (callN X d) hX7_goes 10 [vR 30 0, vI x1, vI x2, vI x3, vI x4, vI x5, vX, vX, vX] [vI y0] (M, w, true, true, l, t, u) = if (M 30 0 36) = (-1 : Int32) then some (none, ((nSt (nSt M 30 0 36 x5) 30 0 37 y0), w, true, true, l, t, u)) else if (M 30 0 37) ≤ y0 then some (none, (M, w, true, true, l, t, u)) else some (none, ((nSt (nSt M 30 0 36 x5) 30 0 37 y0), w, true, true, l, t, u)) :=
  (nR_itc X _ _ c_X7_goes 16 _ _ _ _).trans rfl
def c_X7_go : List Nat := [6, 18, 29, 40, 59]
set_option maxRecDepth 100000 in
theorem bX7_go_0 (d : Nat) (a1 : Int32) (a2 : Int32) (a3 : Int32) (a4 : Int32) (M : MM) (w : Int64) (l : List (Nat × Nat × Nat)) (t u : Nat) : nR X (callN X d) hX7_go 0 [vR 30 0, vI a1, vI a2, vI a3, vI a4] [] (M, w, true, true, l, t, u) = nBnd (callN X d 156 [vR 30 0, vI a1, vI a2] (M, w, true, true, l, t, u)) (fun v s2 => nR X (callN X d) hX7_go 6 [vR 30 0, vI a1, vI a2, vI a3, vI a4] (v.toList ++ []) s2) :=
  (nR_itc X _ _ c_X7_go 4 _ _ _ _).trans rfl
set_option maxRecDepth 100000 in
theorem bX7_go_6 (d : Nat) (x1 : Int32) (x2 : Int32) (x3 : Int32) (x4 : Int32) (y0 : Int32) (M : MM) (w : Int64) (l : List (Nat × Nat × Nat)) (t u : Nat) : nR X (callN X d) hX7_go 6 [vR 30 0, vI x1, vI x2, vI x3, vI x4] [vI y0] (M, w, true, true, l, t, u) = if y0 = 0 then some (some (vI (-2 : Int32)), (M, w, true, true, l, t, u)) else nBnd (callN X d 111 [vL (x3).toInt64, vL (0 : Int64), vL (3 : Int64)] (M, w, true, true, l, t, u)) (fun v s2 => nR X (callN X d) hX7_go 18 [vR 30 0, vI x1, vI x2, vI x3, vI x4] (v.toList ++ []) s2) :=
  (nR_itc X _ _ c_X7_go 6 _ _ _ _).trans rfl
set_option maxRecDepth 100000 in
theorem bX7_go_18 (d : Nat) (x1 : Int32) (x2 : Int32) (x3 : Int32) (x4 : Int32) (y0 : Int32) (M : MM) (w : Int64) (l : List (Nat × Nat × Nat)) (t u : Nat) : nR X (callN X d) hX7_go 18 [vR 30 0, vI x1, vI x2, vI x3, vI x4] [vI y0] (M, w, true, true, l, t, u) = if y0 = 0 then some (some (vI (-2 : Int32)), (M, w, true, true, l, t, u)) else nBnd (callN X d 111 [vL (x4).toInt64, vL (0 : Int64), vL (1 : Int64)] (M, w, true, true, l, t, u)) (fun v s2 => nR X (callN X d) hX7_go 29 [vR 30 0, vI x1, vI x2, vI x3, vI x4] (v.toList ++ []) s2) :=
  (nR_itc X _ _ c_X7_go 6 _ _ _ _).trans rfl
set_option maxRecDepth 100000 in
theorem bX7_go_29 (d : Nat) (x1 : Int32) (x2 : Int32) (x3 : Int32) (x4 : Int32) (y0 : Int32) (M : MM) (w : Int64) (l : List (Nat × Nat × Nat)) (t u : Nat) : nR X (callN X d) hX7_go 29 [vR 30 0, vI x1, vI x2, vI x3, vI x4] [vI y0] (M, w, true, true, l, t, u) = if y0 = 0 then some (some (vI (-2 : Int32)), (M, w, true, true, l, t, u)) else nBnd (callN X d 161 [vR 30 0, vI x1] (M, w, true, true, l, t, u)) (fun v s2 => nR X (callN X d) hX7_go 40 [vR 30 0, vI x1, vI x2, vI x3, vI x4] (v.toList ++ []) s2) :=
  (nR_itc X _ _ c_X7_go 4 _ _ _ _).trans rfl
set_option maxRecDepth 100000 in
theorem bX7_go_40 (d : Nat) (x1 : Int32) (x2 : Int32) (x3 : Int32) (x4 : Int32) (M : MM) (w : Int64) (l : List (Nat × Nat × Nat)) (t u : Nat) : nR X (callN X d) hX7_go 40 [vR 30 0, vI x1, vI x2, vI x3, vI x4] [] (M, w, true, true, l, t, u) = nBnd (callN X d 174 [vR 30 0, vI x1, vI x2, vI x3, vI (0 : Int32), vI (0 : Int32)] ((nSt (nSt M 30 0 36 (-1 : Int32)) 30 0 37 (0 : Int32)), w, true, true, l, t, u)) (fun v s2 => nR X (callN X d) hX7_go 59 [vR 30 0, vI x1, vI x2, vI x3, vI x4] (v.toList ++ []) s2) :=
  (nR_itc X _ _ c_X7_go 13 _ _ _ _).trans rfl
set_option maxRecDepth 100000 in
theorem bX7_go_59 (d : Nat) (x1 : Int32) (x2 : Int32) (x3 : Int32) (x4 : Int32) (M : MM) (w : Int64) (l : List (Nat × Nat × Nat)) (t u : Nat) : nR X (callN X d) hX7_go 59 [vR 30 0, vI x1, vI x2, vI x3, vI x4] [] (M, w, true, true, l, t, u) = if x4 = 0 then some (some (vI (M 30 0 36)), (M, w, true, true, l, t, u)) else some (some (vI (M 30 0 37)), (M, w, true, true, l, t, u)) :=
  (nR_itc X _ _ c_X7_go 6 _ _ _ _).trans rfl
def c_X7_firstOther : List Nat := [3, 22]
set_option maxRecDepth 100000 in
theorem bX7_firstOther_0 (d : Nat) (a1 : Int32) (a2 : Int32) (a3 : Int32) (M : MM) (w : Int64) (l : List (Nat × Nat × Nat)) (t u : Nat) : nR X (callN X d) hX7_firstOther 0 [vR 30 0, vI a1, vI a2, vI a3, vX] [] (M, w, true, true, l, t, u) = nR X (callN X d) hX7_firstOther 3 [vR 30 0, vI a1, vI a2, vI a3, vI (0 : Int32)] [] (M, w, true, true, l, t, u) :=
  (nR_itc X _ _ c_X7_firstOther 2 _ _ _ _).trans rfl
set_option maxRecDepth 100000 in
theorem bX7_firstOther_3 (d : Nat) (x1 : Int32) (x2 : Int32) (x3 : Int32) (x4 : Int32) (M : MM) (w : Int64) (l : List (Nat × Nat × Nat)) (t u : Nat) : nR X (callN X d) hX7_firstOther 3 [vR 30 0, vI x1, vI x2, vI x3, vI x4] [] (M, w, true, true, l, t, u) = cond (nIn x1 4) (if (M 47 0 (x1).toNatClampNeg) ≤ x4 then some (some (vI (-1 : Int32)), (M, w, true, true, l, t, u)) else nBnd (callN X d 147 [vR 30 0, vI x2, vI x4, vI x3] (M, w, true, true, l, t, u)) (fun v s2 => nR X (callN X d) hX7_firstOther 22 [vR 30 0, vI x1, vI x2, vI x3, vI x4] (v.toList ++ []) s2)) none :=
  (nR_itc X _ _ c_X7_firstOther 11 _ _ _ _).trans rfl
set_option maxRecDepth 100000 in
theorem bX7_firstOther_22 (d : Nat) (x1 : Int32) (x2 : Int32) (x3 : Int32) (x4 : Int32) (y0 : Int32) (M : MM) (w : Int64) (l : List (Nat × Nat × Nat)) (t u : Nat) : nR X (callN X d) hX7_firstOther 22 [vR 30 0, vI x1, vI x2, vI x3, vI x4] [vI y0] (M, w, true, true, l, t, u) = cond (nIn (((40 : Int32) * x1) + x4) 160) (if y0 = (M 48 0 ((((40 : Int32) * x1) + x4)).toNatClampNeg) then nR X (callN X d) hX7_firstOther 3 [vR 30 0, vI x1, vI x2, vI x3, vI (x4 + (1 : Int32))] [] (M, w, true, true, l, t, u) else some (some (vI x4), (M, w, true, true, l, t, u))) none :=
  (nR_itc X _ _ c_X7_firstOther 11 _ _ _ _).trans rfl
def c_X7_coastSet : List Nat := [5, 21]
set_option maxRecDepth 100000 in
theorem bX7_coastSet_0 (d : Nat) (a1 : Int32) (a2 : Int32) (M : MM) (w : Int64) (l : List (Nat × Nat × Nat)) (t u : Nat) : nR X (callN X d) hX7_coastSet 0 [vR 30 0, vI a1, vI a2, vX, vX] [] (M, w, true, true, l, t, u) = nR X (callN X d) hX7_coastSet 5 [vR 30 0, vI a1, vI a2, vI (0 : Int32), vI (0 : Int32)] [] (M, w, true, true, l, t, u) :=
  (nR_itc X _ _ c_X7_coastSet 4 _ _ _ _).trans rfl
set_option maxRecDepth 100000 in
theorem bX7_coastSet_5 (d : Nat) (x1 : Int32) (x2 : Int32) (x3 : Int32) (x4 : Int32) (M : MM) (w : Int64) (l : List (Nat × Nat × Nat)) (t u : Nat) : nR X (callN X d) hX7_coastSet 5 [vR 30 0, vI x1, vI x2, vI x3, vI x4] [] (M, w, true, true, l, t, u) = if (6 : Int32) ≤ x4 then some (some (vI x3), (M, w, true, true, l, t, u)) else nBnd (callN X d 176 [vR 30 0, vI x1, vI x2, vI x4] (M, w, true, true, l, t, u)) (fun v s2 => nR X (callN X d) hX7_coastSet 21 [vR 30 0, vI x1, vI x2, vI x3, vI x4] (v.toList ++ [vI x3]) s2) :=
  (nR_itc X _ _ c_X7_coastSet 9 _ _ _ _).trans rfl
set_option maxRecDepth 100000 in
theorem bX7_coastSet_21 (d : Nat) (x1 : Int32) (x2 : Int32) (x3 : Int32) (x4 : Int32) (y0 : Int32) (y1 : Int32) (M : MM) (w : Int64) (l : List (Nat × Nat × Nat)) (t u : Nat) : nR X (callN X d) hX7_coastSet 21 [vR 30 0, vI x1, vI x2, vI x3, vI x4] [vI y0, vI y1] (M, w, true, true, l, t, u) = if y0 = (-1 : Int32) then nR X (callN X d) hX7_coastSet 5 [vR 30 0, vI x1, vI x2, vI (y1 ||| ((1 : Int32) <<< (x4 &&& 31))), vI (x4 + (1 : Int32))] [] (M, w, true, true, l, t, u) else nR X (callN X d) hX7_coastSet 5 [vR 30 0, vI x1, vI x2, vI (y1 ||| ((0 : Int32) <<< (x4 &&& 31))), vI (x4 + (1 : Int32))] [] (M, w, true, true, l, t, u) :=
  (nR_itc X _ _ c_X7_coastSet 10 _ _ _ _).trans rfl
def c_X7_tells : List Nat := [4, 12, 19, 32, 87, 96, 151, 206, 220, 227, 273]
set_option maxRecDepth 100000 in
theorem bX7_tells_0 (d : Nat) (a1 : Int32) (a2 : Int32) (a3 : Int32) (a4 : Int32) (M : MM) (w : Int64) (l : List (Nat × Nat × Nat)) (t u : Nat) : nR X (callN X d) hX7_tells 0 [vR 30 0, vI a1, vI a2, vI a3, vI a4, vX, vX, vX, vX, vX, vX, vX] [] (M, w, true, true, l, t, u) = nBnd (callN X d 186 [vI a1] (M, w, true, true, l, t, u)) (fun v s2 => nR X (callN X d) hX7_tells 4 [vR 30 0, vI a1, vI a2, vI a3, vI a4, vX, vX, vX, vX, vX, vX, vX] (v.toList ++ []) s2) :=
  (nR_itc X _ _ c_X7_tells 2 _ _ _ _).trans rfl
set_option maxRecDepth 100000 in
theorem bX7_tells_4 (d : Nat) (x1 : Int32) (x2 : Int32) (x3 : Int32) (x4 : Int32) (y0 : Int32) (M : MM) (w : Int64) (l : List (Nat × Nat × Nat)) (t u : Nat) : nR X (callN X d) hX7_tells 4 [vR 30 0, vI x1, vI x2, vI x3, vI x4, vX, vX, vX, vX, vX, vX, vX] [vI y0] (M, w, true, true, l, t, u) = if y0 = 0 then some (some (vI (-2 : Int32)), (M, w, true, true, l, t, u)) else nBnd (callN X d 115 [vR 30 0, vI x2] (M, w, true, true, l, t, u)) (fun v s2 => nR X (callN X d) hX7_tells 12 [vR 30 0, vI x1, vI x2, vI x3, vI x4, vX, vX, vX, vX, vX, vX, vX] (v.toList ++ []) s2) :=
  (nR_itc X _ _ c_X7_tells 4 _ _ _ _).trans rfl
set_option maxRecDepth 100000 in
theorem bX7_tells_12 (d : Nat) (x1 : Int32) (x2 : Int32) (x3 : Int32) (x4 : Int32) (y0 : Int32) (M : MM) (w : Int64) (l : List (Nat × Nat × Nat)) (t u : Nat) : nR X (callN X d) hX7_tells 12 [vR 30 0, vI x1, vI x2, vI x3, vI x4, vX, vX, vX, vX, vX, vX, vX] [vI y0] (M, w, true, true, l, t, u) = if y0 = 0 then some (some (vI (-2 : Int32)), (M, w, true, true, l, t, u)) else nBnd (callN X d 116 [vI x3] (M, w, true, true, l, t, u)) (fun v s2 => nR X (callN X d) hX7_tells 19 [vR 30 0, vI x1, vI x2, vI x3, vI x4, vX, vX, vX, vX, vX, vX, vX] (v.toList ++ []) s2) :=
  (nR_itc X _ _ c_X7_tells 3 _ _ _ _).trans rfl
set_option maxRecDepth 100000 in
theorem bX7_tells_19 (d : Nat) (x1 : Int32) (x2 : Int32) (x3 : Int32) (x4 : Int32) (y0 : Int32) (M : MM) (w : Int64) (l : List (Nat × Nat × Nat)) (t u : Nat) : nR X (callN X d) hX7_tells 19 [vR 30 0, vI x1, vI x2, vI x3, vI x4, vX, vX, vX, vX, vX, vX, vX] [vI y0] (M, w, true, true, l, t, u) = if y0 = 0 then some (some (vI (-2 : Int32)), (M, w, true, true, l, t, u)) else nBnd (callN X d 111 [vL (x4).toInt64, vL (0 : Int64), vL (6 : Int64)] (M, w, true, true, l, t, u)) (fun v s2 => nR X (callN X d) hX7_tells 32 [vR 30 0, vI x1, vI x2, vI x3, vI x4, vX, vX, vX, vX, vX, vX, vX] (v.toList ++ []) s2) :=
  (nR_itc X _ _ c_X7_tells 6 _ _ _ _).trans rfl
set_option maxRecDepth 100000 in
theorem bX7_tells_32 (d : Nat) (x1 : Int32) (x2 : Int32) (x3 : Int32) (x4 : Int32) (y0 : Int32) (M : MM) (w : Int64) (l : List (Nat × Nat × Nat)) (t u : Nat) : nR X (callN X d) hX7_tells 32 [vR 30 0, vI x1, vI x2, vI x3, vI x4, vX, vX, vX, vX, vX, vX, vX] [vI y0] (M, w, true, true, l, t, u) = if y0 = 0 then some (some (vI (-2 : Int32)), (M, w, true, true, l, t, u)) else cond (nIn x1 4) (if (M 45 0 (x1).toNatClampNeg) = 0 then some (some (vI (-11 : Int32)), (M, w, true, true, l, t, u)) else cond (nIn x1 4) (if (M 47 0 (x1).toNatClampNeg) ≤ (6 : Int32) then if x4 = 0 then if x4 = 0 then nBnd (callN X d 176 [vR 30 0, vI x1, vI x2, vI x3] (M, w, true, true, l, t, u)) (fun v s2 => nR X (callN X d) hX7_tells 87 [vR 30 0, vI x1, vI x2, vI x3, vI x4, vX, vX, vX, vX, vX, vX, vX] (v.toList ++ []) s2) else nBnd (callN X d 177 [vR 30 0, vI x1, vI x2] (M, w, true, true, l, t, u)) (fun v s2 => nR X (callN X d) hX7_tells 96 [vR 30 0, vI x1, vI x2, vI x3, vI x4, vX, vX, vX, vX, vX, vX, vX] (v.toList ++ []) s2) else if x4 = (5 : Int32) then if x4 = 0 then nBnd (callN X d 176 [vR 30 0, vI x1, vI x2, vI x3] (M, w, true, true, l, t, u)) (fun v s2 => nR X (callN X d) hX7_tells 87 [vR 30 0, vI x1, vI x2, vI x3, vI x4, vX, vX, vX, vX, vX, vX, vX] (v.toList ++ []) s2) else nBnd (callN X d 177 [vR 30 0, vI x1, vI x2] (M, w, true, true, l, t, u)) (fun v s2 => nR X (callN X d) hX7_tells 96 [vR 30 0, vI x1, vI x2, vI x3, vI x4, vX, vX, vX, vX, vX, vX, vX] (v.toList ++ []) s2) else if x4 = (1 : Int32) then if (4 : Int32) = (5 : Int32) then nR X (callN X d) hX7_tells 151 [vR 30 0, vI x1, vI x2, vI x3, vI x4, vI (4 : Int32), vX, vX, vX, vX, vX, vX] [vI (M 30 0 4)] (M, w, true, true, l, t, u) else nBnd (callN X d 124 [vR 30 0, vI x2, vI (4 : Int32)] (M, w, true, true, l, t, u)) (fun v s2 => nR X (callN X d) hX7_tells 151 [vR 30 0, vI x1, vI x2, vI x3, vI x4, vI (4 : Int32), vX, vX, vX, vX, vX, vX] (v.toList ++ []) s2) else if x4 = (2 : Int32) then if (2 : Int32) = (5 : Int32) then nR X (callN X d) hX7_tells 151 [vR 30 0, vI x1, vI x2, vI x3, vI x4, vI (2 : Int32), vX, vX, vX, vX, vX, vX] [vI (M 30 0 4)] (M, w, true, true, l, t, u) else nBnd (callN X d 124 [vR 30 0, vI x2, vI (2 : Int32)] (M, w, true, true, l, t, u)) (fun v s2 => nR X (callN X d) hX7_tells 151 [vR 30 0, vI x1, vI x2, vI x3, vI x4, vI (2 : Int32), vX, vX, vX, vX, vX, vX] (v.toList ++ []) s2) else if x4 = (6 : Int32) then if (5 : Int32) = (5 : Int32) then nR X (callN X d) hX7_tells 151 [vR 30 0, vI x1, vI x2, vI x3, vI x4, vI (5 : Int32), vX, vX, vX, vX, vX, vX] [vI (M 30 0 4)] (M, w, true, true, l, t, u) else nBnd (callN X d 124 [vR 30 0, vI x2, vI (5 : Int32)] (M, w, true, true, l, t, u)) (fun v s2 => nR X (callN X d) hX7_tells 151 [vR 30 0, vI x1, vI x2, vI x3, vI x4, vI (5 : Int32), vX, vX, vX, vX, vX, vX] (v.toList ++ []) s2) else if (0 : Int32) = (5 : Int32) then nR X (callN X d) hX7_tells 151 [vR 30 0, vI x1, vI x2, vI x3, vI x4, vI (0 : Int32), vX, vX, vX, vX, vX, vX] [vI (M 30 0 4)] (M, w, true, true, l, t, u) else nBnd (callN X d 124 [vR 30 0, vI x2, vI (0 : Int32)] (M, w, true, true, l, t, u)) (fun v s2 => nR X (callN X d) hX7_tells 151 [vR 30 0, vI x1, vI x2, vI x3, vI x4, vI (0 : Int32), vX, vX, vX, vX, vX, vX] (v.toList ++ []) s2) else some (some (vI (-2 : Int32)), (M, w, true, true, l, t, u))) none) none :=
  (nR_itc X _ _ c_X7_tells 36 _ _ _ _).trans rfl
set_option maxRecDepth 100000 in
theorem bX7_tells_87 (d : Nat) (x1 : Int32) (x2 : Int32) (x3 : Int32) (x4 : Int32) (y0 : Int32) (M : MM) (w : Int64) (l : List (Nat × Nat × Nat)) (t u : Nat) : nR X (callN X d) hX7_tells 87 [vR 30 0, vI x1, vI x2, vI x3, vI x4, vX, vX, vX, vX, vX, vX, vX] [vI y0] (M, w, true, true, l, t, u) = nR X (callN X d) hX7_tells 96 [vR 30 0, vI x1, vI x2, vI x3, vI x4, vX, vX, vX, vX, vX, vX, vX] [vI y0] (M, w, true, true, l, t, u) :=
  (nR_itc X _ _ c_X7_tells 1 _ _ _ _).trans rfl
set_option maxRecDepth 100000 in
theorem bX7_tells_96 (d : Nat) (x1 : Int32) (x2 : Int32) (x3 : Int32) (x4 : Int32) (y0 : Int32) (M : MM) (w : Int64) (l : List (Nat × Nat × Nat)) (t u : Nat) : nR X (callN X d) hX7_tells 96 [vR 30 0, vI x1, vI x2, vI x3, vI x4, vX, vX, vX, vX, vX, vX, vX] [vI y0] (M, w, true, true, l, t, u) = some (some (vI y0), (M, w, true, true, l, t, u)) :=
  (nR_itc X _ _ c_X7_tells 1 _ _ _ _).trans rfl
set_option maxRecDepth 100000 in
theorem bX7_tells_151 (d : Nat) (x1 : Int32) (x2 : Int32) (x3 : Int32) (x4 : Int32) (x5 : Int32) (y0 : Int32) (M : MM) (w : Int64) (l : List (Nat × Nat × Nat)) (t u : Nat) : nR X (callN X d) hX7_tells 151 [vR 30 0, vI x1, vI x2, vI x3, vI x4, vI x5, vX, vX, vX, vX, vX, vX] [vI y0] (M, w, true, true, l, t, u) = if x5 = (5 : Int32) then nR X (callN X d) hX7_tells 206 [vR 30 0, vI x1, vI x2, vI x3, vI x4, vI x5, vI y0, vI ((M 30 0 3) - (1 : Int32)), vI (0 : Int32), vI (0 : Int32), vI (-1 : Int32), vI ((M 30 0 3) - (1 : Int32))] [] (M, w, true, true, l, t, u) else if x5 = (4 : Int32) then nR X (callN X d) hX7_tells 206 [vR 30 0, vI x1, vI x2, vI x3, vI x4, vI x5, vI y0, vI (5 : Int32), vI (0 : Int32), vI (0 : Int32), vI (-1 : Int32), vI (5 : Int32)] [] (M, w, true, true, l, t, u) else if x5 = (2 : Int32) then nR X (callN X d) hX7_tells 206 [vR 30 0, vI x1, vI x2, vI x3, vI x4, vI x5, vI y0, vI (9 : Int32), vI (0 : Int32), vI (0 : Int32), vI (-1 : Int32), vI (9 : Int32)] [] (M, w, true, true, l, t, u) else nR X (callN X d) hX7_tells 206 [vR 30 0, vI x1, vI x2, vI x3, vI x4, vI x5, vI y0, vI (99 : Int32), vI (0 : Int32), vI (0 : Int32), vI (-1 : Int32), vI (99 : Int32)] [] (M, w, true, true, l, t, u) :=
  (nR_itc X _ _ c_X7_tells 21 _ _ _ _).trans rfl
set_option maxRecDepth 100000 in
theorem bX7_tells_206 (d : Nat) (x1 : Int32) (x2 : Int32) (x3 : Int32) (x4 : Int32) (x5 : Int32) (x6 : Int32) (x7 : Int32) (x8 : Int32) (x9 : Int32) (x10 : Int32) (x11 : Int32) (M : MM) (w : Int64) (l : List (Nat × Nat × Nat)) (t u : Nat) : nR X (callN X d) hX7_tells 206 [vR 30 0, vI x1, vI x2, vI x3, vI x4, vI x5, vI x6, vI x7, vI x8, vI x9, vI x10, vI x11] [] (M, w, true, true, l, t, u) = if x11 < 0 then nBnd (callN X d 122 [vR 30 0, vI x5, vI x2, vI x6] (M, w, true, true, l, t, u)) (fun v s2 => nR X (callN X d) hX7_tells 273 [vR 30 0, vI x1, vI x2, vI x3, vI x4, vI x5, vI x6, vI x7, vI x8, vI x9, vI x10, vI x11] (v.toList ++ []) s2) else nBnd (callN X d 122 [vR 30 0, vI x5, vI x2, vI x11] (M, w, true, true, l, t, u)) (fun v s2 => nR X (callN X d) hX7_tells 220 [vR 30 0, vI x1, vI x2, vI x3, vI x4, vI x5, vI x6, vI x7, vI x8, vI x9, vI x10, vI x11] (v.toList ++ []) s2) :=
  (nR_itc X _ _ c_X7_tells 7 _ _ _ _).trans rfl
set_option maxRecDepth 100000 in
theorem bX7_tells_220 (d : Nat) (x1 : Int32) (x2 : Int32) (x3 : Int32) (x4 : Int32) (x5 : Int32) (x6 : Int32) (x7 : Int32) (x8 : Int32) (x9 : Int32) (x10 : Int32) (x11 : Int32) (M : MM) (w : Int64) (l : List (Nat × Nat × Nat)) (t u : Nat) : nR X (callN X d) hX7_tells 220 [vR 30 0, vI x1, vI x2, vI x3, vI x4, vI x5, vI x6, vI x7, vI x8, vI x9, vI x10, vI x11] [] (M, w, true, true, l, t, u) = nBnd (callN X d 176 [vR 30 0, vI x1, vI x2, vI x3] (M, w, true, true, l, t, u)) (fun v s2 => nR X (callN X d) hX7_tells 227 [vR 30 0, vI x1, vI x2, vI x3, vI x4, vI x5, vI x6, vI x7, vI x8, vI x9, vI x10, vI x11] (v.toList ++ []) s2) :=
  (nR_itc X _ _ c_X7_tells 5 _ _ _ _).trans rfl
set_option maxRecDepth 100000 in
theorem bX7_tells_227 (d : Nat) (x1 : Int32) (x2 : Int32) (x3 : Int32) (x4 : Int32) (x5 : Int32) (x6 : Int32) (x7 : Int32) (x8 : Int32) (x9 : Int32) (x10 : Int32) (x11 : Int32) (y0 : Int32) (M : MM) (w : Int64) (l : List (Nat × Nat × Nat)) (t u : Nat) : nR X (callN X d) hX7_tells 227 [vR 30 0, vI x1, vI x2, vI x3, vI x4, vI x5, vI x6, vI x7, vI x8, vI x9, vI x10, vI x11] [vI y0] (M, w, true, true, l, t, u) = if y0 = (-1 : Int32) then if (10 : Int32) ≤ x11 then nR X (callN X d) hX7_tells 206 [vR 30 0, vI x1, vI x2, vI x3, vI x4, vI x5, vI x6, vI x7, vI (x8 ||| (0 : Int32)), vI (x9 + (1 : Int32)), vI x11, vI (x11 + (-1 : Int32))] [] (M, w, true, true, l, t, u) else nR X (callN X d) hX7_tells 206 [vR 30 0, vI x1, vI x2, vI x3, vI x4, vI x5, vI x6, vI x7, vI (x8 ||| ((1 : Int32) <<< (x11 &&& 31))), vI (x9 + (1 : Int32)), vI x11, vI (x11 + (-1 : Int32))] [] (M, w, true, true, l, t, u) else nR X (callN X d) hX7_tells 206 [vR 30 0, vI x1, vI x2, vI x3, vI x4, vI x5, vI x6, vI x7, vI x8, vI x9, vI x10, vI (x11 + (-1 : Int32))] [] (M, w, true, true, l, t, u) :=
  (nR_itc X _ _ c_X7_tells 17 _ _ _ _).trans rfl
set_option maxRecDepth 100000 in
theorem bX7_tells_273 (d : Nat) (x1 : Int32) (x2 : Int32) (x3 : Int32) (x4 : Int32) (x5 : Int32) (x6 : Int32) (x7 : Int32) (x8 : Int32) (x9 : Int32) (x10 : Int32) (x11 : Int32) (M : MM) (w : Int64) (l : List (Nat × Nat × Nat)) (t u : Nat) : nR X (callN X d) hX7_tells 273 [vR 30 0, vI x1, vI x2, vI x3, vI x4, vI x5, vI x6, vI x7, vI x8, vI x9, vI x10, vI x11] [] (M, w, true, true, l, t, u) = if x4 = (3 : Int32) then some (some (vI x9), (M, w, true, true, l, t, u)) else if x4 = (4 : Int32) then some (some (vI x10), (M, w, true, true, l, t, u)) else some (some (vI x8), (M, w, true, true, l, t, u)) :=
  (nR_itc X _ _ c_X7_tells 9 _ _ _ _).trans rfl
def c_X7_film : List Nat := [4, 12, 19, 33, 40, 66, 77]
set_option maxRecDepth 100000 in
theorem bX7_film_0 (d : Nat) (a1 : Int32) (a2 : Int32) (a3 : Int32) (M : MM) (w : Int64) (l : List (Nat × Nat × Nat)) (t u : Nat) : nR X (callN X d) hX7_film 0 [vR 30 0, vI a1, vI a2, vI a3, vX, vX] [] (M, w, true, true, l, t, u) = nBnd (callN X d 186 [vI a1] (M, w, true, true, l, t, u)) (fun v s2 => nR X (callN X d) hX7_film 4 [vR 30 0, vI a1, vI a2, vI a3, vX, vX] (v.toList ++ []) s2) :=
  (nR_itc X _ _ c_X7_film 2 _ _ _ _).trans rfl
set_option maxRecDepth 100000 in
theorem bX7_film_4 (d : Nat) (x1 : Int32) (x2 : Int32) (x3 : Int32) (y0 : Int32) (M : MM) (w : Int64) (l : List (Nat × Nat × Nat)) (t u : Nat) : nR X (callN X d) hX7_film 4 [vR 30 0, vI x1, vI x2, vI x3, vX, vX] [vI y0] (M, w, true, true, l, t, u) = if y0 = 0 then some (some (vI (-2 : Int32)), (M, w, true, true, l, t, u)) else nBnd (callN X d 115 [vR 30 0, vI x2] (M, w, true, true, l, t, u)) (fun v s2 => nR X (callN X d) hX7_film 12 [vR 30 0, vI x1, vI x2, vI x3, vX, vX] (v.toList ++ []) s2) :=
  (nR_itc X _ _ c_X7_film 4 _ _ _ _).trans rfl
set_option maxRecDepth 100000 in
theorem bX7_film_12 (d : Nat) (x1 : Int32) (x2 : Int32) (x3 : Int32) (y0 : Int32) (M : MM) (w : Int64) (l : List (Nat × Nat × Nat)) (t u : Nat) : nR X (callN X d) hX7_film 12 [vR 30 0, vI x1, vI x2, vI x3, vX, vX] [vI y0] (M, w, true, true, l, t, u) = if y0 = 0 then some (some (vI (-2 : Int32)), (M, w, true, true, l, t, u)) else nBnd (callN X d 116 [vI x3] (M, w, true, true, l, t, u)) (fun v s2 => nR X (callN X d) hX7_film 19 [vR 30 0, vI x1, vI x2, vI x3, vX, vX] (v.toList ++ []) s2) :=
  (nR_itc X _ _ c_X7_film 3 _ _ _ _).trans rfl
set_option maxRecDepth 100000 in
theorem bX7_film_19 (d : Nat) (x1 : Int32) (x2 : Int32) (x3 : Int32) (y0 : Int32) (M : MM) (w : Int64) (l : List (Nat × Nat × Nat)) (t u : Nat) : nR X (callN X d) hX7_film 19 [vR 30 0, vI x1, vI x2, vI x3, vX, vX] [vI y0] (M, w, true, true, l, t, u) = if y0 = 0 then some (some (vI (-2 : Int32)), (M, w, true, true, l, t, u)) else nBnd (callN X d 187 [vR 30 0, vI x1, vI (0 : Int32), vI (6 : Int32)] (M, w, true, true, l, t, u)) (fun v s2 => nR X (callN X d) hX7_film 33 [vR 30 0, vI x1, vI x2, vI x3, vX, vX] (v.toList ++ []) s2) :=
  (nR_itc X _ _ c_X7_film 6 _ _ _ _).trans rfl
set_option maxRecDepth 100000 in
theorem bX7_film_33 (d : Nat) (x1 : Int32) (x2 : Int32) (x3 : Int32) (y0 : Int32) (M : MM) (w : Int64) (l : List (Nat × Nat × Nat)) (t u : Nat) : nR X (callN X d) hX7_film 33 [vR 30 0, vI x1, vI x2, vI x3, vX, vX] [vI y0] (M, w, true, true, l, t, u) = nR X (callN X d) hX7_film 40 [vR 30 0, vI x1, vI x2, vI x3, vI (0 : Int32), vI (0 : Int32)] [] (M, w, true, true, l, t, u) :=
  (nR_itc X _ _ c_X7_film 5 _ _ _ _).trans rfl
set_option maxRecDepth 100000 in
theorem bX7_film_40 (d : Nat) (x1 : Int32) (x2 : Int32) (x3 : Int32) (x4 : Int32) (x5 : Int32) (M : MM) (w : Int64) (l : List (Nat × Nat × Nat)) (t u : Nat) : nR X (callN X d) hX7_film 40 [vR 30 0, vI x1, vI x2, vI x3, vI x4, vI x5] [] (M, w, true, true, l, t, u) = if (6 : Int32) ≤ x5 then some (some (vI x4), (M, w, true, true, l, t, u)) else nBnd (callN X d 147 [vR 30 0, vI x2, vI x5, vI x3] (M, w, true, true, l, t, u)) (fun v s2 => nR X (callN X d) hX7_film 66 [vR 30 0, vI x1, vI x2, vI x3, vI x4, vI x5] (v.toList ++ [vI (((40 : Int32) * x1) + x5), vR 48 0]) s2) :=
  (nR_itc X _ _ c_X7_film 15 _ _ _ _).trans rfl
set_option maxRecDepth 100000 in
theorem bX7_film_66 (d : Nat) (x1 : Int32) (x2 : Int32) (x3 : Int32) (x4 : Int32) (x5 : Int32) (y0 : Int32) (y1 : Int32) (M : MM) (w : Int64) (l : List (Nat × Nat × Nat)) (t u : Nat) : nR X (callN X d) hX7_film 66 [vR 30 0, vI x1, vI x2, vI x3, vI x4, vI x5] [vI y0, vI y1, vR 48 0] (M, w, true, true, l, t, u) = cond (nIn y1 160) (nBnd (callN X d 147 [vR 30 0, vI x2, vI x5, vI x3] ((nSt M 48 0 (y1).toNatClampNeg y0), w, true, true, l, t, u)) (fun v s2 => nR X (callN X d) hX7_film 77 [vR 30 0, vI x1, vI x2, vI x3, vI x4, vI x5] (v.toList ++ [vI x4]) s2)) none :=
  (nR_itc X _ _ c_X7_film 7 _ _ _ _).trans rfl
set_option maxRecDepth 100000 in
theorem bX7_film_77 (d : Nat) (x1 : Int32) (x2 : Int32) (x3 : Int32) (x4 : Int32) (x5 : Int32) (y0 : Int32) (y1 : Int32) (M : MM) (w : Int64) (l : List (Nat × Nat × Nat)) (t u : Nat) : nR X (callN X d) hX7_film 77 [vR 30 0, vI x1, vI x2, vI x3, vI x4, vI x5] [vI y0, vI y1] (M, w, true, true, l, t, u) = nR X (callN X d) hX7_film 40 [vR 30 0, vI x1, vI x2, vI x3, vI (y1 + y0), vI (x5 + (1 : Int32))] [] (M, w, true, true, l, t, u) :=
  (nR_itc X _ _ c_X7_film 4 _ _ _ _).trans rfl
def c_X7_shoeDrawn : List Nat := [21, 59, 90, 101, 106]
set_option maxRecDepth 100000 in
theorem bX7_shoeDrawn_0 (d : Nat) (a1 : Int32) (a2 : Int32) (a3 : Int32) (M : MM) (w : Int64) (l : List (Nat × Nat × Nat)) (t u : Nat) : nR X (callN X d) hX7_shoeDrawn 0 [vR 30 0, vI a1, vI a2, vI a3, vX, vX, vX, vX, vX] [] (M, w, true, true, l, t, u) = cond (nIn (((2 : Int32) * a2) + (1 : Int32)) 10) (nR X (callN X d) hX7_shoeDrawn 21 [vR 30 0, vI a1, vI a2, vI a3, vI (M 30 0 7), vI (M 36 0 ((((2 : Int32) * a2) + (1 : Int32))).toNatClampNeg), vI (0 : Int32), vX, vX] [] (M, w, true, true, l, t, u)) none :=
  (nR_itc X _ _ c_X7_shoeDrawn 14 _ _ _ _).trans rfl
set_option maxRecDepth 100000 in
theorem bX7_shoeDrawn_21 (d : Nat) (x1 : Int32) (x2 : Int32) (x3 : Int32) (x4 : Int32) (x5 : Int32) (x6 : Int32) (M : MM) (w : Int64) (l : List (Nat × Nat × Nat)) (t u : Nat) : nR X (callN X d) hX7_shoeDrawn 21 [vR 30 0, vI x1, vI x2, vI x3, vI x4, vI x5, vI x6, vX, vX] [] (M, w, true, true, l, t, u) = if (6 : Int32) ≤ x6 then nR X (callN X d) hX7_shoeDrawn 59 [vR 30 0, vI x1, vI x2, vI x3, vI x4, vI x5, vI x1, vI (0 : Int32), vX] [] (M, w, true, true, l, t, u) else cond (nIn (((6 : Int32) * x2) + x6) 30) (cond (nIn x6 6) (nR X (callN X d) hX7_shoeDrawn 21 [vR 30 0, vI x1, vI x2, vI x3, vI x4, vI x5, vI (x6 + (1 : Int32)), vX, vX] [] ((nSt M 41 0 (x6).toNatClampNeg (M 37 0 ((((6 : Int32) * x2) + x6)).toNatClampNeg)), w, true, true, l, t, u)) none) none :=
  (nR_itc X _ _ c_X7_shoeDrawn 17 _ _ _ _).trans rfl
set_option maxRecDepth 100000 in
theorem bX7_shoeDrawn_59 (d : Nat) (x1 : Int32) (x2 : Int32) (x3 : Int32) (x4 : Int32) (x5 : Int32) (x6 : Int32) (x7 : Int32) (M : MM) (w : Int64) (l : List (Nat × Nat × Nat)) (t u : Nat) : nR X (callN X d) hX7_shoeDrawn 59 [vR 30 0, vI x1, vI x2, vI x3, vI x4, vI x5, vI x6, vI x7, vX] [] (M, w, true, true, l, t, u) = if x3 ≤ x7 then nBnd (callN X d 125 [vR 30 0, vI x2] (M, w, true, true, l, t, u)) (fun v s2 => nR X (callN X d) hX7_shoeDrawn 101 [vR 30 0, vI x1, vI x2, vI x3, vI x4, vI x5, vI x6, vI x7, vX] (v.toList ++ []) s2) else if (6 : Int32) = 0 then none else nBnd (callN X d 151 [vR 30 0, vI x2, vI ((((((x6 * (1103515245 : Int32)) + (12345 : Int32))).toUInt32 >>> (((9 : Int32)).toUInt32 &&& Int32.toUInt32 31)).toInt32) - (((((x6 * (1103515245 : Int32)) + (12345 : Int32))).toUInt32 >>> (((9 : Int32)).toUInt32 &&& Int32.toUInt32 31)).toInt32) / (6 : Int32) * (6 : Int32))] (M, w, true, true, l, t, u)) (fun v s2 => nR X (callN X d) hX7_shoeDrawn 90 [vR 30 0, vI x1, vI x2, vI x3, vI x4, vI x5, vI ((x6 * (1103515245 : Int32)) + (12345 : Int32)), vI x7, vX] (v.toList ++ []) s2) :=
  (nR_itc X _ _ c_X7_shoeDrawn 17 _ _ _ _).trans rfl
set_option maxRecDepth 100000 in
theorem bX7_shoeDrawn_90 (d : Nat) (x1 : Int32) (x2 : Int32) (x3 : Int32) (x4 : Int32) (x5 : Int32) (x6 : Int32) (x7 : Int32) (M : MM) (w : Int64) (l : List (Nat × Nat × Nat)) (t u : Nat) : nR X (callN X d) hX7_shoeDrawn 90 [vR 30 0, vI x1, vI x2, vI x3, vI x4, vI x5, vI x6, vI x7, vX] [] (M, w, true, true, l, t, u) = nR X (callN X d) hX7_shoeDrawn 59 [vR 30 0, vI x1, vI x2, vI x3, vI x4, vI x5, vI x6, vI (x7 + (1 : Int32)), vX] [] (M, w, true, true, l, t, u) :=
  (nR_itc X _ _ c_X7_shoeDrawn 2 _ _ _ _).trans rfl
set_option maxRecDepth 100000 in
theorem bX7_shoeDrawn_101 (d : Nat) (x1 : Int32) (x2 : Int32) (x3 : Int32) (x4 : Int32) (x5 : Int32) (x6 : Int32) (x7 : Int32) (y0 : Int32) (M : MM) (w : Int64) (l : List (Nat × Nat × Nat)) (t u : Nat) : nR X (callN X d) hX7_shoeDrawn 101 [vR 30 0, vI x1, vI x2, vI x3, vI x4, vI x5, vI x6, vI x7, vX] [vI y0] (M, w, true, true, l, t, u) = nR X (callN X d) hX7_shoeDrawn 106 [vR 30 0, vI x1, vI x2, vI x3, vI x4, vI x5, vI x6, vI y0, vI (0 : Int32)] [] (M, w, true, true, l, t, u) :=
  (nR_itc X _ _ c_X7_shoeDrawn 3 _ _ _ _).trans rfl
set_option maxRecDepth 100000 in
theorem bX7_shoeDrawn_106 (d : Nat) (x1 : Int32) (x2 : Int32) (x3 : Int32) (x4 : Int32) (x5 : Int32) (x6 : Int32) (x7 : Int32) (x8 : Int32) (M : MM) (w : Int64) (l : List (Nat × Nat × Nat)) (t u : Nat) : nR X (callN X d) hX7_shoeDrawn 106 [vR 30 0, vI x1, vI x2, vI x3, vI x4, vI x5, vI x6, vI x7, vI x8] [] (M, w, true, true, l, t, u) = if (6 : Int32) ≤ x8 then cond (nIn (((2 : Int32) * x2) + (1 : Int32)) 10) (some (some (vI x7), ((nSt (nSt M 36 0 ((((2 : Int32) * x2) + (1 : Int32))).toNatClampNeg x5) 30 0 7 x4), w, true, true, l, t, u))) none else cond (nIn x8 6) (cond (nIn (((6 : Int32) * x2) + x8) 30) (nR X (callN X d) hX7_shoeDrawn 106 [vR 30 0, vI x1, vI x2, vI x3, vI x4, vI x5, vI x6, vI x7, vI (x8 + (1 : Int32))] [] ((nSt M 37 0 ((((6 : Int32) * x2) + x8)).toNatClampNeg (M 41 0 (x8).toNatClampNeg)), w, true, true, l, t, u)) none) none :=
  (nR_itc X _ _ c_X7_shoeDrawn 17 _ _ _ _).trans rfl
def c_X7_drawn : List Nat := [5, 17, 27]
set_option maxRecDepth 100000 in
theorem bX7_drawn_0 (d : Nat) (a1 : Int32) (a2 : Int32) (a3 : Int32) (M : MM) (w : Int64) (l : List (Nat × Nat × Nat)) (t u : Nat) : nR X (callN X d) hX7_drawn 0 [vR 30 0, vI a1, vI a2, vI a3] [] (M, w, true, true, l, t, u) = nBnd (callN X d 115 [vR 30 0, vI a2] (M, w, true, true, l, t, u)) (fun v s2 => nR X (callN X d) hX7_drawn 5 [vR 30 0, vI a1, vI a2, vI a3] (v.toList ++ []) s2) :=
  (nR_itc X _ _ c_X7_drawn 3 _ _ _ _).trans rfl
set_option maxRecDepth 100000 in
theorem bX7_drawn_5 (d : Nat) (x1 : Int32) (x2 : Int32) (x3 : Int32) (y0 : Int32) (M : MM) (w : Int64) (l : List (Nat × Nat × Nat)) (t u : Nat) : nR X (callN X d) hX7_drawn 5 [vR 30 0, vI x1, vI x2, vI x3] [vI y0] (M, w, true, true, l, t, u) = if y0 = 0 then some (some (vI (-2 : Int32)), (M, w, true, true, l, t, u)) else nBnd (callN X d 111 [vL (x3).toInt64, vL (0 : Int64), vL (40 : Int64)] (M, w, true, true, l, t, u)) (fun v s2 => nR X (callN X d) hX7_drawn 17 [vR 30 0, vI x1, vI x2, vI x3] (v.toList ++ []) s2) :=
  (nR_itc X _ _ c_X7_drawn 6 _ _ _ _).trans rfl
set_option maxRecDepth 100000 in
theorem bX7_drawn_17 (d : Nat) (x1 : Int32) (x2 : Int32) (x3 : Int32) (y0 : Int32) (M : MM) (w : Int64) (l : List (Nat × Nat × Nat)) (t u : Nat) : nR X (callN X d) hX7_drawn 17 [vR 30 0, vI x1, vI x2, vI x3] [vI y0] (M, w, true, true, l, t, u) = if y0 = 0 then some (some (vI (-2 : Int32)), (M, w, true, true, l, t, u)) else nBnd (callN X d 180 [vR 30 0, vI x1, vI x2, vI x3] (M, w, true, true, l, t, u)) (fun v s2 => nR X (callN X d) hX7_drawn 27 [vR 30 0, vI x1, vI x2, vI x3] (v.toList ++ []) s2) :=
  (nR_itc X _ _ c_X7_drawn 6 _ _ _ _).trans rfl
set_option maxRecDepth 100000 in
theorem bX7_drawn_27 (d : Nat) (x1 : Int32) (x2 : Int32) (x3 : Int32) (y0 : Int32) (M : MM) (w : Int64) (l : List (Nat × Nat × Nat)) (t u : Nat) : nR X (callN X d) hX7_drawn 27 [vR 30 0, vI x1, vI x2, vI x3] [vI y0] (M, w, true, true, l, t, u) = some (some (vI y0), (M, w, true, true, l, t, u)) :=
  (nR_itc X _ _ c_X7_drawn 2 _ _ _ _).trans rfl
def c_X7_chance : List Nat := [9, 17, 30, 41, 54, 72, 100]
set_option maxRecDepth 100000 in
theorem bX7_chance_0 (d : Nat) (a1 : Int32) (a2 : Int32) (a3 : Int32) (a4 : Int32) (a5 : Int32) (M : MM) (w : Int64) (l : List (Nat × Nat × Nat)) (t u : Nat) : nR X (callN X d) hX7_chance 0 [vR 30 0, vI a1, vI a2, vI a3, vI a4, vI a5, vX, vX, vX] [] (M, w, true, true, l, t, u) = nBnd (callN X d 111 [vL (a2).toInt64, vL (1 : Int64), vL (20 : Int64)] (M, w, true, true, l, t, u)) (fun v s2 => nR X (callN X d) hX7_chance 9 [vR 30 0, vI a1, vI a2, vI a3, vI a4, vI a5, vX, vX, vX] (v.toList ++ []) s2) :=
  (nR_itc X _ _ c_X7_chance 5 _ _ _ _).trans rfl
set_option maxRecDepth 100000 in
theorem bX7_chance_9 (d : Nat) (x1 : Int32) (x2 : Int32) (x3 : Int32) (x4 : Int32) (x5 : Int32) (y0 : Int32) (M : MM) (w : Int64) (l : List (Nat × Nat × Nat)) (t u : Nat) : nR X (callN X d) hX7_chance 9 [vR 30 0, vI x1, vI x2, vI x3, vI x4, vI x5, vX, vX, vX] [vI y0] (M, w, true, true, l, t, u) = if y0 = 0 then some (some (vL (-4611686018427387904 : Int64)), (M, w, true, true, l, t, u)) else nBnd (callN X d 115 [vR 30 0, vI x3] (M, w, true, true, l, t, u)) (fun v s2 => nR X (callN X d) hX7_chance 17 [vR 30 0, vI x1, vI x2, vI x3, vI x4, vI x5, vX, vX, vX] (v.toList ++ []) s2) :=
  (nR_itc X _ _ c_X7_chance 4 _ _ _ _).trans rfl
set_option maxRecDepth 100000 in
theorem bX7_chance_17 (d : Nat) (x1 : Int32) (x2 : Int32) (x3 : Int32) (x4 : Int32) (x5 : Int32) (y0 : Int32) (M : MM) (w : Int64) (l : List (Nat × Nat × Nat)) (t u : Nat) : nR X (callN X d) hX7_chance 17 [vR 30 0, vI x1, vI x2, vI x3, vI x4, vI x5, vX, vX, vX] [vI y0] (M, w, true, true, l, t, u) = if y0 = 0 then some (some (vL (-4611686018427387904 : Int64)), (M, w, true, true, l, t, u)) else nBnd (callN X d 111 [vL (x4).toInt64, vL (0 : Int64), vL (99999 : Int64)] (M, w, true, true, l, t, u)) (fun v s2 => nR X (callN X d) hX7_chance 30 [vR 30 0, vI x1, vI x2, vI x3, vI x4, vI x5, vX, vX, vX] (v.toList ++ []) s2) :=
  (nR_itc X _ _ c_X7_chance 6 _ _ _ _).trans rfl
set_option maxRecDepth 100000 in
theorem bX7_chance_30 (d : Nat) (x1 : Int32) (x2 : Int32) (x3 : Int32) (x4 : Int32) (x5 : Int32) (y0 : Int32) (M : MM) (w : Int64) (l : List (Nat × Nat × Nat)) (t u : Nat) : nR X (callN X d) hX7_chance 30 [vR 30 0, vI x1, vI x2, vI x3, vI x4, vI x5, vX, vX, vX] [vI y0] (M, w, true, true, l, t, u) = if y0 = 0 then some (some (vL (-4611686018427387904 : Int64)), (M, w, true, true, l, t, u)) else nBnd (callN X d 111 [vL (x5).toInt64, vL (0 : Int64), vL (1 : Int64)] (M, w, true, true, l, t, u)) (fun v s2 => nR X (callN X d) hX7_chance 41 [vR 30 0, vI x1, vI x2, vI x3, vI x4, vI x5, vX, vX, vX] (v.toList ++ []) s2) :=
  (nR_itc X _ _ c_X7_chance 6 _ _ _ _).trans rfl
set_option maxRecDepth 100000 in
theorem bX7_chance_41 (d : Nat) (x1 : Int32) (x2 : Int32) (x3 : Int32) (x4 : Int32) (x5 : Int32) (y0 : Int32) (M : MM) (w : Int64) (l : List (Nat × Nat × Nat)) (t u : Nat) : nR X (callN X d) hX7_chance 41 [vR 30 0, vI x1, vI x2, vI x3, vI x4, vI x5, vX, vX, vX] [vI y0] (M, w, true, true, l, t, u) = if y0 = 0 then some (some (vL (-4611686018427387904 : Int64)), (M, w, true, true, l, t, u)) else nR X (callN X d) hX7_chance 54 [vR 30 0, vI x1, vI x2, vI x3, vI x4, vI x5, vL (0 : Int64), vX, vI (0 : Int32)] [] (M, w, true, true, l, t, u) :=
  (nR_itc X _ _ c_X7_chance 5 _ _ _ _).trans rfl
set_option maxRecDepth 100000 in
theorem bX7_chance_54 (d : Nat) (x1 : Int32) (x2 : Int32) (x3 : Int32) (x4 : Int32) (x5 : Int32) (x6 : Int64) (x8 : Int32) (M : MM) (w : Int64) (l : List (Nat × Nat × Nat)) (t u : Nat) : nR X (callN X d) hX7_chance 54 [vR 30 0, vI x1, vI x2, vI x3, vI x4, vI x5, vL x6, vX, vI x8] [] (M, w, true, true, l, t, u) = if x2 ≤ x8 then nBnd (callN X d 159 [vL x6, vL (x2).toInt64, vI x5] (M, w, true, true, l, t, u)) (fun v s2 => nR X (callN X d) hX7_chance 100 [vR 30 0, vI x1, vI x2, vI x3, vI x4, vI x5, vL x6, vX, vI x8] (v.toList ++ []) s2) else nBnd (callN X d 180 [vR 30 0, vI (x1 + x8), vI x3, vI (5 : Int32)] (M, w, true, true, l, t, u)) (fun v s2 => nR X (callN X d) hX7_chance 72 [vR 30 0, vI x1, vI x2, vI x3, vI x4, vI x5, vL x6, vX, vI x8] (v.toList ++ [vL x6]) s2) :=
  (nR_itc X _ _ c_X7_chance 11 _ _ _ _).trans rfl
set_option maxRecDepth 100000 in
theorem bX7_chance_72 (d : Nat) (x1 : Int32) (x2 : Int32) (x3 : Int32) (x4 : Int32) (x5 : Int32) (x6 : Int64) (x8 : Int32) (y0 : Int32) (y1 : Int64) (M : MM) (w : Int64) (l : List (Nat × Nat × Nat)) (t u : Nat) : nR X (callN X d) hX7_chance 72 [vR 30 0, vI x1, vI x2, vI x3, vI x4, vI x5, vL x6, vX, vI x8] [vI y0, vL y1] (M, w, true, true, l, t, u) = if y0 < x4 then nR X (callN X d) hX7_chance 54 [vR 30 0, vI x1, vI x2, vI x3, vI x4, vI x5, vL (y1 + (0 : Int64)), vX, vI (x8 + (1 : Int32))] [] (M, w, true, true, l, t, u) else nR X (callN X d) hX7_chance 54 [vR 30 0, vI x1, vI x2, vI x3, vI x4, vI x5, vL (y1 + (1 : Int64)), vX, vI (x8 + (1 : Int32))] [] (M, w, true, true, l, t, u) :=
  (nR_itc X _ _ c_X7_chance 8 _ _ _ _).trans rfl
set_option maxRecDepth 100000 in
theorem bX7_chance_100 (d : Nat) (x1 : Int32) (x2 : Int32) (x3 : Int32) (x4 : Int32) (x5 : Int32) (x6 : Int64) (x8 : Int32) (y0 : Int64) (M : MM) (w : Int64) (l : List (Nat × Nat × Nat)) (t u : Nat) : nR X (callN X d) hX7_chance 100 [vR 30 0, vI x1, vI x2, vI x3, vI x4, vI x5, vL x6, vX, vI x8] [vL y0] (M, w, true, true, l, t, u) = some (some (vL y0), (M, w, true, true, l, t, u)) :=
  (nR_itc X _ _ c_X7_chance 1 _ _ _ _).trans rfl
def c_X7_image : List Nat := [2, 28, 54]
set_option maxRecDepth 100000 in
theorem bX7_image_0 (d : Nat) (M : MM) (w : Int64) (l : List (Nat × Nat × Nat)) (t u : Nat) : nR X (callN X d) hX7_image 0 [vR 30 0, vX] [] (M, w, true, true, l, t, u) = nR X (callN X d) hX7_image 2 [vR 30 0, vI (0 : Int32)] [] (M, w, true, true, l, t, u) :=
  (nR_itc X _ _ c_X7_image 2 _ _ _ _).trans rfl
set_option maxRecDepth 100000 in
theorem bX7_image_2 (d : Nat) (x1 : Int32) (M : MM) (w : Int64) (l : List (Nat × Nat × Nat)) (t u : Nat) : nR X (callN X d) hX7_image 2 [vR 30 0, vI x1] [] (M, w, true, true, l, t, u) = if (36 : Int32) ≤ x1 then nR X (callN X d) hX7_image 28 [vR 30 0, vI (0 : Int32)] [] (M, w, true, true, l, t, u) else cond (nIn x1 36) (cond (nIn x1 36) (nR X (callN X d) hX7_image 2 [vR 30 0, vI (x1 + (1 : Int32))] [] ((nSt M 42 0 (x1).toNatClampNeg (M 34 0 (x1).toNatClampNeg)), w, true, true, l, t, u)) none) none :=
  (nR_itc X _ _ c_X7_image 13 _ _ _ _).trans rfl
set_option maxRecDepth 100000 in
theorem bX7_image_28 (d : Nat) (x1 : Int32) (M : MM) (w : Int64) (l : List (Nat × Nat × Nat)) (t u : Nat) : nR X (callN X d) hX7_image 28 [vR 30 0, vI x1] [] (M, w, true, true, l, t, u) = if (10 : Int32) ≤ x1 then nR X (callN X d) hX7_image 54 [vR 30 0, vI (0 : Int32)] [] (M, w, true, true, l, t, u) else cond (nIn x1 10) (cond (nIn x1 10) (nR X (callN X d) hX7_image 28 [vR 30 0, vI (x1 + (1 : Int32))] [] ((nSt M 43 0 (x1).toNatClampNeg (M 36 0 (x1).toNatClampNeg)), w, true, true, l, t, u)) none) none :=
  (nR_itc X _ _ c_X7_image 13 _ _ _ _).trans rfl
set_option maxRecDepth 100000 in
theorem bX7_image_54 (d : Nat) (x1 : Int32) (M : MM) (w : Int64) (l : List (Nat × Nat × Nat)) (t u : Nat) : nR X (callN X d) hX7_image 54 [vR 30 0, vI x1] [] (M, w, true, true, l, t, u) = if (30 : Int32) ≤ x1 then some (some (vI ((nSt (nSt (nSt M 30 0 42 (M 30 0 12)) 30 0 43 ((nSt M 30 0 42 (M 30 0 12)) 30 0 7)) 30 0 44 ((nSt (nSt M 30 0 42 (M 30 0 12)) 30 0 43 ((nSt M 30 0 42 (M 30 0 12)) 30 0 7)) 30 0 4)) 30 0 12)), ((nSt (nSt (nSt M 30 0 42 (M 30 0 12)) 30 0 43 ((nSt M 30 0 42 (M 30 0 12)) 30 0 7)) 30 0 44 ((nSt (nSt M 30 0 42 (M 30 0 12)) 30 0 43 ((nSt M 30 0 42 (M 30 0 12)) 30 0 7)) 30 0 4)), w, true, true, l, t, u)) else cond (nIn x1 30) (cond (nIn x1 30) (nR X (callN X d) hX7_image 54 [vR 30 0, vI (x1 + (1 : Int32))] [] ((nSt M 44 0 (x1).toNatClampNeg (M 37 0 (x1).toNatClampNeg)), w, true, true, l, t, u)) none) none :=
  (nR_itc X _ _ c_X7_image 18 _ _ _ _).trans rfl
def c_X7_back : List Nat := [13, 39, 65]
set_option maxRecDepth 100000 in
theorem bX7_back_0 (d : Nat) (M : MM) (w : Int64) (l : List (Nat × Nat × Nat)) (t u : Nat) : nR X (callN X d) hX7_back 0 [vR 30 0, vX] [] (M, w, true, true, l, t, u) = if (M 30 0 42) = (-1 : Int32) then some (some (vI (-3 : Int32)), (M, w, true, true, l, t, u)) else nR X (callN X d) hX7_back 13 [vR 30 0, vI (0 : Int32)] [] (M, w, true, true, l, t, u) :=
  (nR_itc X _ _ c_X7_back 6 _ _ _ _).trans rfl
set_option maxRecDepth 100000 in
theorem bX7_back_13 (d : Nat) (x1 : Int32) (M : MM) (w : Int64) (l : List (Nat × Nat × Nat)) (t u : Nat) : nR X (callN X d) hX7_back 13 [vR 30 0, vI x1] [] (M, w, true, true, l, t, u) = if (36 : Int32) ≤ x1 then nR X (callN X d) hX7_back 39 [vR 30 0, vI (0 : Int32)] [] (M, w, true, true, l, t, u) else cond (nIn x1 36) (cond (nIn x1 36) (nR X (callN X d) hX7_back 13 [vR 30 0, vI (x1 + (1 : Int32))] [] ((nSt M 34 0 (x1).toNatClampNeg (M 42 0 (x1).toNatClampNeg)), w, true, true, l, t, u)) none) none :=
  (nR_itc X _ _ c_X7_back 13 _ _ _ _).trans rfl
set_option maxRecDepth 100000 in
theorem bX7_back_39 (d : Nat) (x1 : Int32) (M : MM) (w : Int64) (l : List (Nat × Nat × Nat)) (t u : Nat) : nR X (callN X d) hX7_back 39 [vR 30 0, vI x1] [] (M, w, true, true, l, t, u) = if (10 : Int32) ≤ x1 then nR X (callN X d) hX7_back 65 [vR 30 0, vI (0 : Int32)] [] (M, w, true, true, l, t, u) else cond (nIn x1 10) (cond (nIn x1 10) (nR X (callN X d) hX7_back 39 [vR 30 0, vI (x1 + (1 : Int32))] [] ((nSt M 36 0 (x1).toNatClampNeg (M 43 0 (x1).toNatClampNeg)), w, true, true, l, t, u)) none) none :=
  (nR_itc X _ _ c_X7_back 13 _ _ _ _).trans rfl
set_option maxRecDepth 100000 in
theorem bX7_back_65 (d : Nat) (x1 : Int32) (M : MM) (w : Int64) (l : List (Nat × Nat × Nat)) (t u : Nat) : nR X (callN X d) hX7_back 65 [vR 30 0, vI x1] [] (M, w, true, true, l, t, u) = if (30 : Int32) ≤ x1 then some (some (vI ((nSt (nSt (nSt M 30 0 12 (M 30 0 42)) 30 0 7 ((nSt M 30 0 12 (M 30 0 42)) 30 0 43)) 30 0 4 ((nSt (nSt M 30 0 12 (M 30 0 42)) 30 0 7 ((nSt M 30 0 12 (M 30 0 42)) 30 0 43)) 30 0 44)) 30 0 12)), ((nSt (nSt (nSt M 30 0 12 (M 30 0 42)) 30 0 7 ((nSt M 30 0 12 (M 30 0 42)) 30 0 43)) 30 0 4 ((nSt (nSt M 30 0 12 (M 30 0 42)) 30 0 7 ((nSt M 30 0 12 (M 30 0 42)) 30 0 43)) 30 0 44)), w, true, true, l, t, u)) else cond (nIn x1 30) (cond (nIn x1 30) (nR X (callN X d) hX7_back 65 [vR 30 0, vI (x1 + (1 : Int32))] [] ((nSt M 37 0 (x1).toNatClampNeg (M 44 0 (x1).toNatClampNeg)), w, true, true, l, t, u)) none) none :=
  (nR_itc X _ _ c_X7_back 18 _ _ _ _).trans rfl
def c_X7_count : List Nat := [9, 19, 33]
set_option maxRecDepth 100000 in
theorem bX7_count_0 (d : Nat) (a1 : Int32) (M : MM) (w : Int64) (l : List (Nat × Nat × Nat)) (t u : Nat) : nR X (callN X d) hX7_count 0 [vR 30 0, vI a1, vX, vX] [] (M, w, true, true, l, t, u) = nBnd (callN X d 111 [vL (a1).toInt64, vL (0 : Int64), vL (5 : Int64)] (M, w, true, true, l, t, u)) (fun v s2 => nR X (callN X d) hX7_count 9 [vR 30 0, vI a1, vX, vX] (v.toList ++ []) s2) :=
  (nR_itc X _ _ c_X7_count 5 _ _ _ _).trans rfl
set_option maxRecDepth 100000 in
theorem bX7_count_9 (d : Nat) (x1 : Int32) (y0 : Int32) (M : MM) (w : Int64) (l : List (Nat × Nat × Nat)) (t u : Nat) : nR X (callN X d) hX7_count 9 [vR 30 0, vI x1, vX, vX] [vI y0] (M, w, true, true, l, t, u) = if y0 = 0 then some (some (vI (-2 : Int32)), (M, w, true, true, l, t, u)) else nR X (callN X d) hX7_count 19 [vR 30 0, vI x1, vI (0 : Int32), vI (0 : Int32)] [] (M, w, true, true, l, t, u) :=
  (nR_itc X _ _ c_X7_count 5 _ _ _ _).trans rfl
set_option maxRecDepth 100000 in
theorem bX7_count_19 (d : Nat) (x1 : Int32) (x2 : Int32) (x3 : Int32) (M : MM) (w : Int64) (l : List (Nat × Nat × Nat)) (t u : Nat) : nR X (callN X d) hX7_count 19 [vR 30 0, vI x1, vI x2, vI x3] [] (M, w, true, true, l, t, u) = if (M 30 0 12) ≤ x3 then if x1 = 0 then some (some (vI (M 30 0 12)), (M, w, true, true, l, t, u)) else if x1 = (1 : Int32) then some (some (vI (M 30 0 7)), (M, w, true, true, l, t, u)) else if x1 = (2 : Int32) then some (some (vI x2), (M, w, true, true, l, t, u)) else if x1 = (3 : Int32) then some (some (vI (M 30 0 3)), (M, w, true, true, l, t, u)) else if x1 = (4 : Int32) then some (some (vI (M 30 0 6)), (M, w, true, true, l, t, u)) else some (some (vI (M 30 0 4)), (M, w, true, true, l, t, u)) else nBnd (callN X d 125 [vR 30 0, vI x3] (M, w, true, true, l, t, u)) (fun v s2 => nR X (callN X d) hX7_count 33 [vR 30 0, vI x1, vI x2, vI x3] (v.toList ++ [vI x2]) s2) :=
  (nR_itc X _ _ c_X7_count 22 _ _ _ _).trans rfl
set_option maxRecDepth 100000 in
theorem bX7_count_33 (d : Nat) (x1 : Int32) (x2 : Int32) (x3 : Int32) (y0 : Int32) (y1 : Int32) (M : MM) (w : Int64) (l : List (Nat × Nat × Nat)) (t u : Nat) : nR X (callN X d) hX7_count 33 [vR 30 0, vI x1, vI x2, vI x3] [vI y0, vI y1] (M, w, true, true, l, t, u) = nR X (callN X d) hX7_count 19 [vR 30 0, vI x1, vI (y1 + y0), vI (x3 + (1 : Int32))] [] (M, w, true, true, l, t, u) :=
  (nR_itc X _ _ c_X7_count 4 _ _ _ _).trans rfl
def c_X7_isSheet : List Nat := [9]
set_option maxRecDepth 100000 in
theorem bX7_isSheet_0 (d : Nat) (a1 : Int32) (M : MM) (w : Int64) (l : List (Nat × Nat × Nat)) (t u : Nat) : nR X (callN X d) hX7_isSheet 0 [vI a1] [] (M, w, true, true, l, t, u) = nBnd (callN X d 111 [vL (a1).toInt64, vL (0 : Int64), vL (3 : Int64)] (M, w, true, true, l, t, u)) (fun v s2 => nR X (callN X d) hX7_isSheet 9 [vI a1] (v.toList ++ []) s2) :=
  (nR_itc X _ _ c_X7_isSheet 5 _ _ _ _).trans rfl
set_option maxRecDepth 100000 in
theorem bX7_isSheet_9 (d : Nat) (x0 : Int32) (y0 : Int32) (M : MM) (w : Int64) (l : List (Nat × Nat × Nat)) (t u : Nat) : nR X (callN X d) hX7_isSheet 9 [vI x0] [vI y0] (M, w, true, true, l, t, u) = cond (nIsb y0) (some (some (vI y0), (M, w, true, true, l, t, u))) none :=
  (nR_itc X _ _ c_X7_isSheet 1 _ _ _ _).trans rfl
def c_X7_sheet : List Nat := [4, 18, 77]
set_option maxRecDepth 100000 in
theorem bX7_sheet_0 (d : Nat) (a1 : Int32) (a2 : Int32) (a3 : Int32) (M : MM) (w : Int64) (l : List (Nat × Nat × Nat)) (t u : Nat) : nR X (callN X d) hX7_sheet 0 [vR 30 0, vI a1, vI a2, vI a3, vX] [] (M, w, true, true, l, t, u) = nBnd (callN X d 186 [vI a1] (M, w, true, true, l, t, u)) (fun v s2 => nR X (callN X d) hX7_sheet 4 [vR 30 0, vI a1, vI a2, vI a3, vX] (v.toList ++ []) s2) :=
  (nR_itc X _ _ c_X7_sheet 2 _ _ _ _).trans rfl
set_option maxRecDepth 100000 in
theorem bX7_sheet_4 (d : Nat) (x1 : Int32) (x2 : Int32) (x3 : Int32) (y0 : Int32) (M : MM) (w : Int64) (l : List (Nat × Nat × Nat)) (t u : Nat) : nR X (callN X d) hX7_sheet 4 [vR 30 0, vI x1, vI x2, vI x3, vX] [vI y0] (M, w, true, true, l, t, u) = if y0 = 0 then some (some (vI (-2 : Int32)), (M, w, true, true, l, t, u)) else nBnd (callN X d 111 [vL (x2).toInt64, vL (-1 : Int64), vL (2 : Int64)] (M, w, true, true, l, t, u)) (fun v s2 => nR X (callN X d) hX7_sheet 18 [vR 30 0, vI x1, vI x2, vI x3, vX] (v.toList ++ []) s2) :=
  (nR_itc X _ _ c_X7_sheet 6 _ _ _ _).trans rfl
set_option maxRecDepth 100000 in
theorem bX7_sheet_18 (d : Nat) (x1 : Int32) (x2 : Int32) (x3 : Int32) (y0 : Int32) (M : MM) (w : Int64) (l : List (Nat × Nat × Nat)) (t u : Nat) : nR X (callN X d) hX7_sheet 18 [vR 30 0, vI x1, vI x2, vI x3, vX] [vI y0] (M, w, true, true, l, t, u) = if y0 = 0 then some (some (vI (-2 : Int32)), (M, w, true, true, l, t, u)) else if x2 < 0 then if x2 < 0 then if x2 < 0 then cond (nIn x1 4) (cond (nIn x1 4) (cond (nIn x1 4) (nR X (callN X d) hX7_sheet 77 [vR 30 0, vI x1, vI x2, vI x3, vI (0 : Int32)] [] ((nSt (nSt (nSt M 45 0 (x1).toNatClampNeg (0 : Int32)) 46 0 (x1).toNatClampNeg x2) 47 0 (x1).toNatClampNeg x3), w, true, true, l, t, u)) none) none) none else cond (nIn x1 4) (cond (nIn x1 4) (cond (nIn x1 4) (nR X (callN X d) hX7_sheet 77 [vR 30 0, vI x1, vI x2, vI x3, vI (0 : Int32)] [] ((nSt (nSt (nSt M 45 0 (x1).toNatClampNeg (1 : Int32)) 46 0 (x1).toNatClampNeg x2) 47 0 (x1).toNatClampNeg x3), w, true, true, l, t, u)) none) none) none else if 0 ≤ x3 then if x2 < 0 then cond (nIn x1 4) (cond (nIn x1 4) (cond (nIn x1 4) (nR X (callN X d) hX7_sheet 77 [vR 30 0, vI x1, vI x2, vI x3, vI (0 : Int32)] [] ((nSt (nSt (nSt M 45 0 (x1).toNatClampNeg (0 : Int32)) 46 0 (x1).toNatClampNeg x2) 47 0 (x1).toNatClampNeg x3), w, true, true, l, t, u)) none) none) none else cond (nIn x1 4) (cond (nIn x1 4) (cond (nIn x1 4) (nR X (callN X d) hX7_sheet 77 [vR 30 0, vI x1, vI x2, vI x3, vI (0 : Int32)] [] ((nSt (nSt (nSt M 45 0 (x1).toNatClampNeg (1 : Int32)) 46 0 (x1).toNatClampNeg x2) 47 0 (x1).toNatClampNeg x3), w, true, true, l, t, u)) none) none) none else some (some (vI (-14 : Int32)), (M, w, true, true, l, t, u)) else if x3 ≤ (40 : Int32) then if x2 < 0 then if x2 < 0 then cond (nIn x1 4) (cond (nIn x1 4) (cond (nIn x1 4) (nR X (callN X d) hX7_sheet 77 [vR 30 0, vI x1, vI x2, vI x3, vI (0 : Int32)] [] ((nSt (nSt (nSt M 45 0 (x1).toNatClampNeg (0 : Int32)) 46 0 (x1).toNatClampNeg x2) 47 0 (x1).toNatClampNeg x3), w, true, true, l, t, u)) none) none) none else cond (nIn x1 4) (cond (nIn x1 4) (cond (nIn x1 4) (nR X (callN X d) hX7_sheet 77 [vR 30 0, vI x1, vI x2, vI x3, vI (0 : Int32)] [] ((nSt (nSt (nSt M 45 0 (x1).toNatClampNeg (1 : Int32)) 46 0 (x1).toNatClampNeg x2) 47 0 (x1).toNatClampNeg x3), w, true, true, l, t, u)) none) none) none else if 0 ≤ x3 then if x2 < 0 then cond (nIn x1 4) (cond (nIn x1 4) (cond (nIn x1 4) (nR X (callN X d) hX7_sheet 77 [vR 30 0, vI x1, vI x2, vI x3, vI (0 : Int32)] [] ((nSt (nSt (nSt M 45 0 (x1).toNatClampNeg (0 : Int32)) 46 0 (x1).toNatClampNeg x2) 47 0 (x1).toNatClampNeg x3), w, true, true, l, t, u)) none) none) none else cond (nIn x1 4) (cond (nIn x1 4) (cond (nIn x1 4) (nR X (callN X d) hX7_sheet 77 [vR 30 0, vI x1, vI x2, vI x3, vI (0 : Int32)] [] ((nSt (nSt (nSt M 45 0 (x1).toNatClampNeg (1 : Int32)) 46 0 (x1).toNatClampNeg x2) 47 0 (x1).toNatClampNeg x3), w, true, true, l, t, u)) none) none) none else some (some (vI (-14 : Int32)), (M, w, true, true, l, t, u)) else some (some (vI (-2 : Int32)), (M, w, true, true, l, t, u)) :=
  (nR_itc X _ _ c_X7_sheet 30 _ _ _ _).trans rfl
set_option maxRecDepth 100000 in
theorem bX7_sheet_77 (d : Nat) (x1 : Int32) (x2 : Int32) (x3 : Int32) (x4 : Int32) (M : MM) (w : Int64) (l : List (Nat × Nat × Nat)) (t u : Nat) : nR X (callN X d) hX7_sheet 77 [vR 30 0, vI x1, vI x2, vI x3, vI x4] [] (M, w, true, true, l, t, u) = if x3 ≤ x4 then some (some (vI (1 : Int32)), (M, w, true, true, l, t, u)) else if x2 < 0 then some (some (vI (1 : Int32)), (M, w, true, true, l, t, u)) else cond (nIn (((40 : Int32) * x1) + x4) 160) (nR X (callN X d) hX7_sheet 77 [vR 30 0, vI x1, vI x2, vI x3, vI (x4 + (1 : Int32))] [] ((nSt M 48 0 ((((40 : Int32) * x1) + x4)).toNatClampNeg (0 : Int32)), w, true, true, l, t, u)) none :=
  (nR_itc X _ _ c_X7_sheet 16 _ _ _ _).trans rfl
def c_X7_cell : List Nat := [4, 37]
set_option maxRecDepth 100000 in
theorem bX7_cell_0 (d : Nat) (a1 : Int32) (a2 : Int32) (a3 : Int32) (M : MM) (w : Int64) (l : List (Nat × Nat × Nat)) (t u : Nat) : nR X (callN X d) hX7_cell 0 [vR 30 0, vI a1, vI a2, vI a3] [] (M, w, true, true, l, t, u) = nBnd (callN X d 186 [vI a1] (M, w, true, true, l, t, u)) (fun v s2 => nR X (callN X d) hX7_cell 4 [vR 30 0, vI a1, vI a2, vI a3] (v.toList ++ []) s2) :=
  (nR_itc X _ _ c_X7_cell 2 _ _ _ _).trans rfl
set_option maxRecDepth 100000 in
theorem bX7_cell_4 (d : Nat) (x1 : Int32) (x2 : Int32) (x3 : Int32) (y0 : Int32) (M : MM) (w : Int64) (l : List (Nat × Nat × Nat)) (t u : Nat) : nR X (callN X d) hX7_cell 4 [vR 30 0, vI x1, vI x2, vI x3] [vI y0] (M, w, true, true, l, t, u) = if y0 = 0 then some (some (vI (-2 : Int32)), (M, w, true, true, l, t, u)) else cond (nIn x1 4) (if (M 45 0 (x1).toNatClampNeg) = 0 then some (some (vI (-11 : Int32)), (M, w, true, true, l, t, u)) else cond (nIn x1 4) (nBnd (callN X d 111 [vL (x2).toInt64, vL (0 : Int64), vL (((M 47 0 (x1).toNatClampNeg) - (1 : Int32))).toInt64] (M, w, true, true, l, t, u)) (fun v s2 => nR X (callN X d) hX7_cell 37 [vR 30 0, vI x1, vI x2, vI x3] (v.toList ++ []) s2)) none) none :=
  (nR_itc X _ _ c_X7_cell 17 _ _ _ _).trans rfl
set_option maxRecDepth 100000 in
theorem bX7_cell_37 (d : Nat) (x1 : Int32) (x2 : Int32) (x3 : Int32) (y0 : Int32) (M : MM) (w : Int64) (l : List (Nat × Nat × Nat)) (t u : Nat) : nR X (callN X d) hX7_cell 37 [vR 30 0, vI x1, vI x2, vI x3] [vI y0] (M, w, true, true, l, t, u) = if y0 = 0 then some (some (vI (-12 : Int32)), (M, w, true, true, l, t, u)) else cond (nIn x1 4) (if (M 46 0 (x1).toNatClampNeg) = 0 then cond (nIn (((40 : Int32) * x1) + x2) 160) (some (some (vI (1 : Int32)), ((nSt M 48 0 ((((40 : Int32) * x1) + x2)).toNatClampNeg (x3).toInt8.toInt32), w, true, true, l, t, u))) none else cond (nIn x1 4) (if (M 46 0 (x1).toNatClampNeg) = (1 : Int32) then cond (nIn (((40 : Int32) * x1) + x2) 160) (some (some (vI (1 : Int32)), ((nSt M 48 0 ((((40 : Int32) * x1) + x2)).toNatClampNeg (x3).toInt16.toInt32), w, true, true, l, t, u))) none else cond (nIn (((40 : Int32) * x1) + x2) 160) (some (some (vI (1 : Int32)), ((nSt M 48 0 ((((40 : Int32) * x1) + x2)).toNatClampNeg x3), w, true, true, l, t, u))) none) none) none :=
  (nR_itc X _ _ c_X7_cell 25 _ _ _ _).trans rfl
def c_X7_copy : List Nat := [4, 11, 121]
set_option maxRecDepth 100000 in
theorem bX7_copy_0 (d : Nat) (a1 : Int32) (a2 : Int32) (a3 : Int32) (a4 : Int32) (a5 : Int32) (M : MM) (w : Int64) (l : List (Nat × Nat × Nat)) (t u : Nat) : nR X (callN X d) hX7_copy 0 [vR 30 0, vI a1, vI a2, vI a3, vI a4, vI a5, vX, vX, vX] [] (M, w, true, true, l, t, u) = nBnd (callN X d 186 [vI a1] (M, w, true, true, l, t, u)) (fun v s2 => nR X (callN X d) hX7_copy 4 [vR 30 0, vI a1, vI a2, vI a3, vI a4, vI a5, vX, vX, vX] (v.toList ++ []) s2) :=
  (nR_itc X _ _ c_X7_copy 2 _ _ _ _).trans rfl
set_option maxRecDepth 100000 in
theorem bX7_copy_4 (d : Nat) (x1 : Int32) (x2 : Int32) (x3 : Int32) (x4 : Int32) (x5 : Int32) (y0 : Int32) (M : MM) (w : Int64) (l : List (Nat × Nat × Nat)) (t u : Nat) : nR X (callN X d) hX7_copy 4 [vR 30 0, vI x1, vI x2, vI x3, vI x4, vI x5, vX, vX, vX] [vI y0] (M, w, true, true, l, t, u) = if y0 = 0 then some (some (vI (-2 : Int32)), (M, w, true, true, l, t, u)) else nBnd (callN X d 186 [vI x3] (M, w, true, true, l, t, u)) (fun v s2 => nR X (callN X d) hX7_copy 11 [vR 30 0, vI x1, vI x2, vI x3, vI x4, vI x5, vX, vX, vX] (v.toList ++ []) s2) :=
  (nR_itc X _ _ c_X7_copy 3 _ _ _ _).trans rfl
set_option maxRecDepth 100000 in
theorem bX7_copy_11 (d : Nat) (x1 : Int32) (x2 : Int32) (x3 : Int32) (x4 : Int32) (x5 : Int32) (y0 : Int32) (M : MM) (w : Int64) (l : List (Nat × Nat × Nat)) (t u : Nat) : nR X (callN X d) hX7_copy 11 [vR 30 0, vI x1, vI x2, vI x3, vI x4, vI x5, vX, vX, vX] [vI y0] (M, w, true, true, l, t, u) = if y0 = 0 then some (some (vI (-2 : Int32)), (M, w, true, true, l, t, u)) else cond (nIn x1 4) (if (M 45 0 (x1).toNatClampNeg) = 0 then some (some (vI (-11 : Int32)), (M, w, true, true, l, t, u)) else cond (nIn x3 4) (if (M 45 0 (x3).toNatClampNeg) = 0 then some (some (vI (-11 : Int32)), (M, w, true, true, l, t, u)) else cond (nIn x1 4) (cond (nIn x3 4) (if (M 46 0 (x1).toNatClampNeg) = (M 46 0 (x3).toNatClampNeg) then if x5 < 0 then some (some (vI (-12 : Int32)), (M, w, true, true, l, t, u)) else if x2 < 0 then some (some (vI (-12 : Int32)), (M, w, true, true, l, t, u)) else if x4 < 0 then some (some (vI (-12 : Int32)), (M, w, true, true, l, t, u)) else cond (nIn x1 4) (if ((M 47 0 (x1).toNatClampNeg) - x5) < x2 then some (some (vI (-12 : Int32)), (M, w, true, true, l, t, u)) else cond (nIn x3 4) (if x4 ≤ ((M 47 0 (x3).toNatClampNeg) - x5) then if x1 = x3 then if x4 ≤ x2 then nR X (callN X d) hX7_copy 121 [vR 30 0, vI x1, vI x2, vI x3, vI x4, vI x5, vI (0 : Int32), vI (0 : Int32), vX] [] (M, w, true, true, l, t, u) else nR X (callN X d) hX7_copy 121 [vR 30 0, vI x1, vI x2, vI x3, vI x4, vI x5, vI (1 : Int32), vI (0 : Int32), vX] [] (M, w, true, true, l, t, u) else nR X (callN X d) hX7_copy 121 [vR 30 0, vI x1, vI x2, vI x3, vI x4, vI x5, vI (0 : Int32), vI (0 : Int32), vX] [] (M, w, true, true, l, t, u) else some (some (vI (-12 : Int32)), (M, w, true, true, l, t, u))) none) none else some (some (vI (-13 : Int32)), (M, w, true, true, l, t, u))) none) none) none) none :=
  (nR_itc X _ _ c_X7_copy 53 _ _ _ _).trans rfl
set_option maxRecDepth 100000 in
theorem bX7_copy_121 (d : Nat) (x1 : Int32) (x2 : Int32) (x3 : Int32) (x4 : Int32) (x5 : Int32) (x6 : Int32) (x7 : Int32) (x8 : AV) (M : MM) (w : Int64) (l : List (Nat × Nat × Nat)) (t u : Nat) : nR X (callN X d) hX7_copy 121 [vR 30 0, vI x1, vI x2, vI x3, vI x4, vI x5, vI x6, vI x7, x8] [] (M, w, true, true, l, t, u) = if x5 ≤ x7 then some (some (vI x5), (M, w, true, true, l, t, u)) else if x6 = 0 then cond (nIn ((((40 : Int32) * x1) + x2) + x7) 160) (cond (nIn ((((40 : Int32) * x3) + x4) + x7) 160) (nR X (callN X d) hX7_copy 121 [vR 30 0, vI x1, vI x2, vI x3, vI x4, vI x5, vI x6, vI (x7 + (1 : Int32)), vI x7] [] ((nSt M 48 0 (((((40 : Int32) * x3) + x4) + x7)).toNatClampNeg (M 48 0 (((((40 : Int32) * x1) + x2) + x7)).toNatClampNeg)), w, true, true, l, t, u)) none) none else cond (nIn ((((40 : Int32) * x1) + x2) + ((x5 - (1 : Int32)) - x7)) 160) (cond (nIn ((((40 : Int32) * x3) + x4) + ((x5 - (1 : Int32)) - x7)) 160) (nR X (callN X d) hX7_copy 121 [vR 30 0, vI x1, vI x2, vI x3, vI x4, vI x5, vI x6, vI (x7 + (1 : Int32)), vI ((x5 - (1 : Int32)) - x7)] [] ((nSt M 48 0 (((((40 : Int32) * x3) + x4) + ((x5 - (1 : Int32)) - x7))).toNatClampNeg (M 48 0 (((((40 : Int32) * x1) + x2) + ((x5 - (1 : Int32)) - x7))).toNatClampNeg)), w, true, true, l, t, u)) none) none :=
  (nR_itc X _ _ c_X7_copy 34 _ _ _ _).trans rfl
def c_X7_people : List Nat := [4, 16, 29, 75, 141]
set_option maxRecDepth 100000 in
theorem bX7_people_0 (d : Nat) (a1 : Int32) (a2 : Int32) (a3 : Int32) (a4 : Int32) (M : MM) (w : Int64) (l : List (Nat × Nat × Nat)) (t u : Nat) : nR X (callN X d) hX7_people 0 [vR 30 0, vI a1, vI a2, vI a3, vI a4, vX, vX, vX] [] (M, w, true, true, l, t, u) = nBnd (callN X d 186 [vI a1] (M, w, true, true, l, t, u)) (fun v s2 => nR X (callN X d) hX7_people 4 [vR 30 0, vI a1, vI a2, vI a3, vI a4, vX, vX, vX] (v.toList ++ []) s2) :=
  (nR_itc X _ _ c_X7_people 2 _ _ _ _).trans rfl
set_option maxRecDepth 100000 in
theorem bX7_people_4 (d : Nat) (x1 : Int32) (x2 : Int32) (x3 : Int32) (x4 : Int32) (y0 : Int32) (M : MM) (w : Int64) (l : List (Nat × Nat × Nat)) (t u : Nat) : nR X (callN X d) hX7_people 4 [vR 30 0, vI x1, vI x2, vI x3, vI x4, vX, vX, vX] [vI y0] (M, w, true, true, l, t, u) = if y0 = 0 then some (some (vI (-2 : Int32)), (M, w, true, true, l, t, u)) else nBnd (callN X d 111 [vL (x2).toInt64, vL (0 : Int64), vL (2 : Int64)] (M, w, true, true, l, t, u)) (fun v s2 => nR X (callN X d) hX7_people 16 [vR 30 0, vI x1, vI x2, vI x3, vI x4, vX, vX, vX] (v.toList ++ []) s2) :=
  (nR_itc X _ _ c_X7_people 6 _ _ _ _).trans rfl
set_option maxRecDepth 100000 in
theorem bX7_people_16 (d : Nat) (x1 : Int32) (x2 : Int32) (x3 : Int32) (x4 : Int32) (y0 : Int32) (M : MM) (w : Int64) (l : List (Nat × Nat × Nat)) (t u : Nat) : nR X (callN X d) hX7_people 16 [vR 30 0, vI x1, vI x2, vI x3, vI x4, vX, vX, vX] [vI y0] (M, w, true, true, l, t, u) = if y0 = 0 then some (some (vI (-2 : Int32)), (M, w, true, true, l, t, u)) else nBnd (callN X d 111 [vL (x4).toInt64, vL (0 : Int64), vL (5 : Int64)] (M, w, true, true, l, t, u)) (fun v s2 => nR X (callN X d) hX7_people 29 [vR 30 0, vI x1, vI x2, vI x3, vI x4, vX, vX, vX] (v.toList ++ []) s2) :=
  (nR_itc X _ _ c_X7_people 6 _ _ _ _).trans rfl
set_option maxRecDepth 100000 in
theorem bX7_people_29 (d : Nat) (x1 : Int32) (x2 : Int32) (x3 : Int32) (x4 : Int32) (y0 : Int32) (M : MM) (w : Int64) (l : List (Nat × Nat × Nat)) (t u : Nat) : nR X (callN X d) hX7_people 29 [vR 30 0, vI x1, vI x2, vI x3, vI x4, vX, vX, vX] [vI y0] (M, w, true, true, l, t, u) = if y0 = 0 then some (some (vI (-2 : Int32)), (M, w, true, true, l, t, u)) else cond (nIn x1 4) (if (M 45 0 (x1).toNatClampNeg) = 0 then cond (nIn x1 4) (if (M 45 0 (x1).toNatClampNeg) = 0 then some (some (vI (-11 : Int32)), (M, w, true, true, l, t, u)) else nR X (callN X d) hX7_people 75 [vR 30 0, vI x1, vI x2, vI x3, vI x4, vI (0 : Int32), vI (0 : Int32), vX] [] (M, w, true, true, l, t, u)) none else cond (nIn x1 4) (if (M 46 0 (x1).toNatClampNeg) = x2 then cond (nIn x1 4) (if (M 45 0 (x1).toNatClampNeg) = 0 then some (some (vI (-11 : Int32)), (M, w, true, true, l, t, u)) else nR X (callN X d) hX7_people 75 [vR 30 0, vI x1, vI x2, vI x3, vI x4, vI (0 : Int32), vI (0 : Int32), vX] [] (M, w, true, true, l, t, u)) none else some (some (vI (-13 : Int32)), (M, w, true, true, l, t, u))) none) none :=
  (nR_itc X _ _ c_X7_people 21 _ _ _ _).trans rfl
set_option maxRecDepth 100000 in
theorem bX7_people_75 (d : Nat) (x1 : Int32) (x2 : Int32) (x3 : Int32) (x4 : Int32) (x5 : Int32) (x6 : Int32) (x7 : AV) (M : MM) (w : Int64) (l : List (Nat × Nat × Nat)) (t u : Nat) : nR X (callN X d) hX7_people 75 [vR 30 0, vI x1, vI x2, vI x3, vI x4, vI x5, vI x6, x7] [] (M, w, true, true, l, t, u) = if x4 ≤ x6 then some (some (vI x5), (M, w, true, true, l, t, u)) else if x3 < 0 then some (some (vI (-12 : Int32)), (M, w, true, true, l, t, u)) else cond (nIn x1 4) (if x3 ≤ (((M 47 0 (x1).toNatClampNeg) - ((2 : Int32) * x6)) - (2 : Int32)) then cond (nIn ((((40 : Int32) * x1) + x3) + ((2 : Int32) * x6)) 160) (cond (nIn (((((40 : Int32) * x1) + x3) + ((2 : Int32) * x6)) + (1 : Int32)) 160) (nBnd (callN X d 123 [vR 30 0, vI (M 48 0 (((((40 : Int32) * x1) + x3) + ((2 : Int32) * x6))).toNatClampNeg), vI (M 48 0 ((((((40 : Int32) * x1) + x3) + ((2 : Int32) * x6)) + (1 : Int32))).toNatClampNeg)] (M, w, true, true, l, t, u)) (fun v s2 => nR X (callN X d) hX7_people 141 [vR 30 0, vI x1, vI x2, vI x3, vI x4, vI x5, vI x6, vI ((((40 : Int32) * x1) + x3) + ((2 : Int32) * x6))] (v.toList ++ [vI x5]) s2)) none) none else some (some (vI (-12 : Int32)), (M, w, true, true, l, t, u))) none :=
  (nR_itc X _ _ c_X7_people 40 _ _ _ _).trans rfl
set_option maxRecDepth 100000 in
theorem bX7_people_141 (d : Nat) (x1 : Int32) (x2 : Int32) (x3 : Int32) (x4 : Int32) (x5 : Int32) (x6 : Int32) (x7 : Int32) (y0 : Int32) (y1 : Int32) (M : MM) (w : Int64) (l : List (Nat × Nat × Nat)) (t u : Nat) : nR X (callN X d) hX7_people 141 [vR 30 0, vI x1, vI x2, vI x3, vI x4, vI x5, vI x6, vI x7] [vI y0, vI y1] (M, w, true, true, l, t, u) = if y0 < 0 then nR X (callN X d) hX7_people 75 [vR 30 0, vI x1, vI x2, vI x3, vI x4, vI (y1 + (0 : Int32)), vI (x6 + (1 : Int32)), vI x7] [] (M, w, true, true, l, t, u) else nR X (callN X d) hX7_people 75 [vR 30 0, vI x1, vI x2, vI x3, vI x4, vI (y1 + (1 : Int32)), vI (x6 + (1 : Int32)), vI x7] [] (M, w, true, true, l, t, u) :=
  (nR_itc X _ _ c_X7_people 7 _ _ _ _).trans rfl
def c_X7_over : List Nat := []
set_option maxRecDepth 100000 in
theorem bX7_over_0 (d : Nat) (a1 : Int32) (M : MM) (w : Int64) (l : List (Nat × Nat × Nat)) (t u : Nat) : nR X (callN X d) hX7_over 0 [vI a1] [] (M, w, true, true, l, t, u) = if a1 = 0 then some (some (vI (-1 : Int32)), (M, w, true, true, l, t, u)) else if a1 = (3 : Int32) then some (some (vI (1 : Int32)), (M, w, true, true, l, t, u)) else if a1 = (4 : Int32) then some (some (vI (2 : Int32)), (M, w, true, true, l, t, u)) else some (some (vI (0 : Int32)), (M, w, true, true, l, t, u)) :=
  (nR_itc X _ _ c_X7_over 11 _ _ _ _).trans rfl
def c_X7_taken : List Nat := [9, 20, 33, 47]
set_option maxRecDepth 100000 in
theorem bX7_taken_0 (d : Nat) (a1 : Int32) (a2 : Int32) (M : MM) (w : Int64) (l : List (Nat × Nat × Nat)) (t u : Nat) : nR X (callN X d) hX7_taken 0 [vR 30 0, vI a1, vI a2, vX] [] (M, w, true, true, l, t, u) = nBnd (callN X d 111 [vL (a2).toInt64, vL (0 : Int64), vL (5 : Int64)] (M, w, true, true, l, t, u)) (fun v s2 => nR X (callN X d) hX7_taken 9 [vR 30 0, vI a1, vI a2, vX] (v.toList ++ []) s2) :=
  (nR_itc X _ _ c_X7_taken 5 _ _ _ _).trans rfl
set_option maxRecDepth 100000 in
theorem bX7_taken_9 (d : Nat) (x1 : Int32) (x2 : Int32) (y0 : Int32) (M : MM) (w : Int64) (l : List (Nat × Nat × Nat)) (t u : Nat) : nR X (callN X d) hX7_taken 9 [vR 30 0, vI x1, vI x2, vX] [vI y0] (M, w, true, true, l, t, u) = if y0 = 0 then some (some (vI (-2 : Int32)), (M, w, true, true, l, t, u)) else nBnd (callN X d 115 [vR 30 0, vI x1] (M, w, true, true, l, t, u)) (fun v s2 => nR X (callN X d) hX7_taken 20 [vR 30 0, vI x1, vI x2, vX] (v.toList ++ []) s2) :=
  (nR_itc X _ _ c_X7_taken 4 _ _ _ _).trans rfl
set_option maxRecDepth 100000 in
theorem bX7_taken_20 (d : Nat) (x1 : Int32) (x2 : Int32) (y0 : Int32) (M : MM) (w : Int64) (l : List (Nat × Nat × Nat)) (t u : Nat) : nR X (callN X d) hX7_taken 20 [vR 30 0, vI x1, vI x2, vX] [vI y0] (M, w, true, true, l, t, u) = if y0 = 0 then some (some (vI (-11 : Int32)), (M, w, true, true, l, t, u)) else cond (nIn x1 5) (nR X (callN X d) hX7_taken 33 [vR 30 0, vI x1, vI x2, vI (M 35 0 (x1).toNatClampNeg)] [] (M, w, true, true, l, t, u)) none :=
  (nR_itc X _ _ c_X7_taken 6 _ _ _ _).trans rfl
set_option maxRecDepth 100000 in
theorem bX7_taken_33 (d : Nat) (x1 : Int32) (x2 : Int32) (x3 : Int32) (M : MM) (w : Int64) (l : List (Nat × Nat × Nat)) (t u : Nat) : nR X (callN X d) hX7_taken 33 [vR 30 0, vI x1, vI x2, vI x3] [] (M, w, true, true, l, t, u) = if x3 = (-1 : Int32) then if x3 = x2 then cond (nIn ((2 : Int32) * x1) 10) (some (some (vI (M 36 0 (((2 : Int32) * x1)).toNatClampNeg)), (M, w, true, true, l, t, u))) none else some (some (vI (-13 : Int32)), (M, w, true, true, l, t, u)) else if x3 = x2 then if x3 = x2 then cond (nIn ((2 : Int32) * x1) 10) (some (some (vI (M 36 0 (((2 : Int32) * x1)).toNatClampNeg)), (M, w, true, true, l, t, u))) none else some (some (vI (-13 : Int32)), (M, w, true, true, l, t, u)) else nBnd (callN X d 191 [vI x3] (M, w, true, true, l, t, u)) (fun v s2 => nR X (callN X d) hX7_taken 47 [vR 30 0, vI x1, vI x2, vI x3] (v.toList ++ []) s2) :=
  (nR_itc X _ _ c_X7_taken 17 _ _ _ _).trans rfl
set_option maxRecDepth 100000 in
theorem bX7_taken_47 (d : Nat) (x1 : Int32) (x2 : Int32) (x3 : Int32) (y0 : Int32) (M : MM) (w : Int64) (l : List (Nat × Nat × Nat)) (t u : Nat) : nR X (callN X d) hX7_taken 47 [vR 30 0, vI x1, vI x2, vI x3] [vI y0] (M, w, true, true, l, t, u) = nR X (callN X d) hX7_taken 33 [vR 30 0, vI x1, vI x2, vI y0] [] (M, w, true, true, l, t, u) :=
  (nR_itc X _ _ c_X7_taken 2 _ _ _ _).trans rfl
end
