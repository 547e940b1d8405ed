section
variable (X : Nat × (Nat → Int32))
def c_X0_search : List Nat := [4, 6, 18, 25, 30]
set_option maxRecDepth 100000 in
theorem bX0_search_0 (d : Nat) (i2 : Nat) (M : MM) (w : Int64) (fm : Bool) (l : List (Nat × Nat × Nat)) (t u : Nat) : nR X (callN X d) hX0_search 0 [vR 20 0, vR 26 0, vR 19 i2, vX] [] (M, w, true, fm, l, t, u) = nBnd (callN X d 2 [vR 20 0] (M, w, true, fm, l, t, u)) (fun v s2 => nR X (callN X d) hX0_search 4 [vR 20 0, vR 26 0, vR 19 i2, vX] (v.toList ++ []) s2) :=
  (nR_itc X _ _ c_X0_search 2 _ _ _ _).trans rfl
set_option maxRecDepth 100000 in
theorem bX0_search_4 (d : Nat) (i2 : Nat) (M : MM) (w : Int64) (fm : Bool) (l : List (Nat × Nat × Nat)) (t u : Nat) : nR X (callN X d) hX0_search 4 [vR 20 0, vR 26 0, vR 19 i2, vX] [] (M, w, true, fm, l, t, u) = nR X (callN X d) hX0_search 6 [vR 20 0, vR 26 0, vR 19 i2, vI (0 : Int32)] [] (M, w, true, fm, l, t, u) :=
  (nR_itc X _ _ c_X0_search 2 _ _ _ _).trans rfl
set_option maxRecDepth 100000 in
theorem bX0_search_6 (d : Nat) (i2 : Nat) (x3 : Int32) (M : MM) (w : Int64) (fm : Bool) (l : List (Nat × Nat × Nat)) (t u : Nat) : nR X (callN X d) hX0_search 6 [vR 20 0, vR 26 0, vR 19 i2, vI x3] [] (M, w, true, fm, l, t, u) = if (4096 : Int32) ≤ x3 then some (none, (M, w, true, fm, l, t, u)) else nBnd (callN X d 3 [vR 20 0, vR 19 i2] (M, w, true, fm, l, t, u)) (fun v s2 => nR X (callN X d) hX0_search 18 [vR 20 0, vR 26 0, vR 19 i2, vI x3] (v.toList ++ []) s2) :=
  (nR_itc X _ _ c_X0_search 6 _ _ _ _).trans rfl
set_option maxRecDepth 100000 in
theorem bX0_search_18 (d : Nat) (i2 : Nat) (x3 : Int32) (y0 : Int32) (M : MM) (w : Int64) (fm : Bool) (l : List (Nat × Nat × Nat)) (t u : Nat) : nR X (callN X d) hX0_search 18 [vR 20 0, vR 26 0, vR 19 i2, vI x3] [vI y0] (M, w, true, fm, l, t, u) = if y0 = 0 then nR X (callN X d) hX0_search 25 [vR 20 0, vR 26 0, vR 19 i2, vI x3] [] (M, w, true, fm, l, t, u) else nBnd (callN X d 4 [vR 20 0] (M, w, true, fm, l, t, u)) (fun v s2 => nR X (callN X d) hX0_search 25 [vR 20 0, vR 26 0, vR 19 i2, vI x3] (v.toList ++ []) s2) :=
  (nR_itc X _ _ c_X0_search 3 _ _ _ _).trans rfl
set_option maxRecDepth 100000 in
theorem bX0_search_25 (d : Nat) (i2 : Nat) (x3 : Int32) (M : MM) (w : Int64) (fm : Bool) (l : List (Nat × Nat × Nat)) (t u : Nat) : nR X (callN X d) hX0_search 25 [vR 20 0, vR 26 0, vR 19 i2, vI x3] [] (M, w, true, fm, l, t, u) = nBnd (callN X d 5 [vR 20 0, vR 26 0] (M, w, true, fm, l, t, u)) (fun v s2 => nR X (callN X d) hX0_search 30 [vR 20 0, vR 26 0, vR 19 i2, vI x3] (v.toList ++ []) s2) :=
  (nR_itc X _ _ c_X0_search 3 _ _ _ _).trans rfl
set_option maxRecDepth 100000 in
theorem bX0_search_30 (d : Nat) (i2 : Nat) (x3 : Int32) (M : MM) (w : Int64) (fm : Bool) (l : List (Nat × Nat × Nat)) (t u : Nat) : nR X (callN X d) hX0_search 30 [vR 20 0, vR 26 0, vR 19 i2, vI x3] [] (M, w, true, fm, l, t, u) = nR X (callN X d) hX0_search 6 [vR 20 0, vR 26 0, vR 19 i2, vI (x3 + (1 : Int32))] [] (M, w, true, fm, l, t, u) :=
  (nR_itc X _ _ c_X0_search 2 _ _ _ _).trans rfl
def c_X0_clear : List Nat := [27, 55]
set_option maxRecDepth 100000 in
theorem bX0_clear_0 (d : Nat) (M : MM) (w : Int64) (fm : Bool) (l : List (Nat × Nat × Nat)) (t u : Nat) : nR X (callN X d) hX0_clear 0 [vR 20 0, vX] [] (M, w, true, fm, l, t, u) = nR X (callN X d) hX0_clear 27 [vR 20 0, vI (0 : Int32)] [] ((nSt (nSt (nSt (nSt (nSt M 20 0 0 (0 : Int32)) 20 0 1 (-1 : Int32)) 20 0 2 (-1 : Int32)) 20 0 3 (0 : Int32)) 20 0 4 (0 : Int32)), w, true, fm, l, t, u) :=
  (nR_itc X _ _ c_X0_clear 17 _ _ _ _).trans rfl
set_option maxRecDepth 100000 in
theorem bX0_clear_27 (d : Nat) (x1 : Int32) (M : MM) (w : Int64) (fm : Bool) (l : List (Nat × Nat × Nat)) (t u : Nat) : nR X (callN X d) hX0_clear 27 [vR 20 0, vI x1] [] (M, w, true, fm, l, t, u) = if (6 : Int32) ≤ x1 then nR X (callN X d) hX0_clear 55 [vR 20 0, vI (0 : Int32)] [] (M, w, true, fm, l, t, u) else cond (nIn x1 6) (cond (nIn x1 6) (nR X (callN X d) hX0_clear 27 [vR 20 0, vI (x1 + (1 : Int32))] [] ((nSt (nSt M 21 0 (x1).toNatClampNeg (0 : Int32)) 22 0 (x1).toNatClampNeg (0 : Int32)), w, true, fm, l, t, u)) none) none :=
  (nR_itc X _ _ c_X0_clear 15 _ _ _ _).trans rfl
set_option maxRecDepth 100000 in
theorem bX0_clear_55 (d : Nat) (x1 : Int32) (M : MM) (w : Int64) (fm : Bool) (l : List (Nat × Nat × Nat)) (t u : Nat) : nR X (callN X d) hX0_clear 55 [vR 20 0, vI x1] [] (M, w, true, fm, l, t, u) = if (6 : Int32) ≤ x1 then some (none, (M, w, true, fm, l, t, u)) else cond (nIn x1 6) (nR X (callN X d) hX0_clear 55 [vR 20 0, vI (x1 + (1 : Int32))] [] ((nSt M 23 0 (x1).toNatClampNeg (0 : Int32)), w, true, fm, l, t, u)) none :=
  (nR_itc X _ _ c_X0_clear 10 _ _ _ _).trans rfl
def c_X0_isInShoe : List Nat := [2]
set_option maxRecDepth 100000 in
theorem bX0_isInShoe_0 (d : Nat) (i1 : Nat) (M : MM) (w : Int64) (fm : Bool) (l : List (Nat × Nat × Nat)) (t u : Nat) : nR X (callN X d) hX0_isInShoe 0 [vR 20 0, vR 19 i1, vX] [] (M, w, true, fm, l, t, u) = nR X (callN X d) hX0_isInShoe 2 [vR 20 0, vR 19 i1, vI (0 : Int32)] [] (M, w, true, fm, l, t, u) :=
  (nR_itc X _ _ c_X0_isInShoe 2 _ _ _ _).trans rfl
set_option maxRecDepth 100000 in
theorem bX0_isInShoe_2 (d : Nat) (i1 : Nat) (x2 : Int32) (M : MM) (w : Int64) (fm : Bool) (l : List (Nat × Nat × Nat)) (t u : Nat) : nR X (callN X d) hX0_isInShoe 2 [vR 20 0, vR 19 i1, vI x2] [] (M, w, true, fm, l, t, u) = if (6 : Int32) ≤ x2 then some (some (vI (1 : Int32)), (M, w, true, fm, l, t, u)) else cond (nIn x2 6) (cond (nIn x2 40) (if (M 23 0 (x2).toNatClampNeg) = (M 19 i1 (x2).toNatClampNeg) then nR X (callN X d) hX0_isInShoe 2 [vR 20 0, vR 19 i1, vI (x2 + (1 : Int32))] [] (M, w, true, fm, l, t, u) else some (some (vI (0 : Int32)), (M, w, true, fm, l, t, u))) none) none :=
  (nR_itc X _ _ c_X0_isInShoe 13 _ _ _ _).trans rfl
def c_X0_found : List Nat := [9]
set_option maxRecDepth 100000 in
theorem bX0_found_0 (d : Nat) (M : MM) (w : Int64) (fm : Bool) (l : List (Nat × Nat × Nat)) (t u : Nat) : nR X (callN X d) hX0_found 0 [vR 20 0, vX, vX, vX, vX] [] (M, w, true, fm, l, t, u) = nR X (callN X d) hX0_found 9 [vR 20 0, vI (0 : Int32), vI (0 : Int32), vI (0 : Int32), vI (0 : Int32)] [] (M, w, true, fm, l, t, u) :=
  (nR_itc X _ _ c_X0_found 8 _ _ _ _).trans rfl
set_option maxRecDepth 100000 in
theorem bX0_found_9 (d : Nat) (x1 : Int32) (x2 : Int32) (x3 : Int32) (x4 : Int32) (M : MM) (w : Int64) (fm : Bool) (l : List (Nat × Nat × Nat)) (t u : Nat) : nR X (callN X d) hX0_found 9 [vR 20 0, vI x1, vI x2, vI x3, vI x4] [] (M, w, true, fm, l, t, u) = if (6 : Int32) ≤ x4 then if (M 20 0 0) = 0 then if ((nSt (nSt M 20 0 3 x3) 20 0 4 (((nSt M 20 0 3 x3) 20 0 4) ||| x3)) 20 0 0) = 0 then some (none, ((nSt (nSt (nSt (nSt (nSt M 20 0 3 x3) 20 0 4 (((nSt M 20 0 3 x3) 20 0 4) ||| x3)) 20 0 1 x1) 20 0 2 x2) 20 0 0 (((nSt (nSt (nSt (nSt M 20 0 3 x3) 20 0 4 (((nSt M 20 0 3 x3) 20 0 4) ||| x3)) 20 0 1 x1) 20 0 2 x2) 20 0 0) + (1 : Int32))), w, true, fm, l, t, u)) else if ((nSt (nSt M 20 0 3 x3) 20 0 4 (((nSt M 20 0 3 x3) 20 0 4) ||| x3)) 20 0 2) ≤ x2 then some (none, ((nSt (nSt (nSt M 20 0 3 x3) 20 0 4 (((nSt M 20 0 3 x3) 20 0 4) ||| x3)) 20 0 0 (((nSt (nSt M 20 0 3 x3) 20 0 4 (((nSt M 20 0 3 x3) 20 0 4) ||| x3)) 20 0 0) + (1 : Int32))), w, true, fm, l, t, u)) else some (none, ((nSt (nSt (nSt (nSt (nSt M 20 0 3 x3) 20 0 4 (((nSt M 20 0 3 x3) 20 0 4) ||| x3)) 20 0 1 x1) 20 0 2 x2) 20 0 0 (((nSt (nSt (nSt (nSt M 20 0 3 x3) 20 0 4 (((nSt M 20 0 3 x3) 20 0 4) ||| x3)) 20 0 1 x1) 20 0 2 x2) 20 0 0) + (1 : Int32))), w, true, fm, l, t, u)) else if ((nSt (nSt M 20 0 3 ((M 20 0 3) &&& x3)) 20 0 4 (((nSt M 20 0 3 ((M 20 0 3) &&& x3)) 20 0 4) ||| x3)) 20 0 0) = 0 then some (none, ((nSt (nSt (nSt (nSt (nSt M 20 0 3 ((M 20 0 3) &&& x3)) 20 0 4 (((nSt M 20 0 3 ((M 20 0 3) &&& x3)) 20 0 4) ||| x3)) 20 0 1 x1) 20 0 2 x2) 20 0 0 (((nSt (nSt (nSt (nSt M 20 0 3 ((M 20 0 3) &&& x3)) 20 0 4 (((nSt M 20 0 3 ((M 20 0 3) &&& x3)) 20 0 4) ||| x3)) 20 0 1 x1) 20 0 2 x2) 20 0 0) + (1 : Int32))), w, true, fm, l, t, u)) else if ((nSt (nSt M 20 0 3 ((M 20 0 3) &&& x3)) 20 0 4 (((nSt M 20 0 3 ((M 20 0 3) &&& x3)) 20 0 4) ||| x3)) 20 0 2) ≤ x2 then some (none, ((nSt (nSt (nSt M 20 0 3 ((M 20 0 3) &&& x3)) 20 0 4 (((nSt M 20 0 3 ((M 20 0 3) &&& x3)) 20 0 4) ||| x3)) 20 0 0 (((nSt (nSt M 20 0 3 ((M 20 0 3) &&& x3)) 20 0 4 (((nSt M 20 0 3 ((M 20 0 3) &&& x3)) 20 0 4) ||| x3)) 20 0 0) + (1 : Int32))), w, true, fm, l, t, u)) else some (none, ((nSt (nSt (nSt (nSt (nSt M 20 0 3 ((M 20 0 3) &&& x3)) 20 0 4 (((nSt M 20 0 3 ((M 20 0 3) &&& x3)) 20 0 4) ||| x3)) 20 0 1 x1) 20 0 2 x2) 20 0 0 (((nSt (nSt (nSt (nSt M 20 0 3 ((M 20 0 3) &&& x3)) 20 0 4 (((nSt M 20 0 3 ((M 20 0 3) &&& x3)) 20 0 4) ||| x3)) 20 0 1 x1) 20 0 2 x2) 20 0 0) + (1 : Int32))), w, true, fm, l, t, u)) else cond (nIn x4 6) (cond (nIn x4 6) (cond (nIn x4 6) (if (M 22 0 (x4).toNatClampNeg) ≤ 0 then nR X (callN X d) hX0_found 9 [vR 20 0, vI ((x1 * (10 : Int32)) + (M 22 0 (x4).toNatClampNeg)), vI (x2 + (M 22 0 (x4).toNatClampNeg)), vI x3, vI (x4 + (1 : Int32))] [] (M, w, true, fm, l, t, u) else cond (nIn x4 6) (cond (nIn x4 6) (nR X (callN X d) hX0_found 9 [vR 20 0, vI ((x1 * (10 : Int32)) + (M 22 0 (x4).toNatClampNeg)), vI (x2 + (M 22 0 (x4).toNatClampNeg)), vI (x3 ||| ((1 : Int32) <<< (x4 &&& 31))), vI (x4 + (1 : Int32))] [] ((nSt M 21 0 (x4).toNatClampNeg ((M 21 0 (x4).toNatClampNeg) + (1 : Int32))), w, true, fm, l, t, u)) none) none) none) none) none :=
  (nR_itc X _ _ c_X0_found 40 _ _ _ _).trans rfl
def c_X0_stepOn : List Nat := [2, 24, 41]
set_option maxRecDepth 100000 in
theorem bX0_stepOn_0 (d : Nat) (M : MM) (w : Int64) (fm : Bool) (l : List (Nat × Nat × Nat)) (t u : Nat) : nR X (callN X d) hX0_stepOn 0 [vR 20 0, vR 26 0, vX] [] (M, w, true, fm, l, t, u) = nR X (callN X d) hX0_stepOn 2 [vR 20 0, vR 26 0, vI (5 : Int32)] [] (M, w, true, fm, l, t, u) :=
  (nR_itc X _ _ c_X0_stepOn 2 _ _ _ _).trans rfl
set_option maxRecDepth 100000 in
theorem bX0_stepOn_2 (d : Nat) (x2 : Int32) (M : MM) (w : Int64) (fm : Bool) (l : List (Nat × Nat × Nat)) (t u : Nat) : nR X (callN X d) hX0_stepOn 2 [vR 20 0, vR 26 0, vI x2] [] (M, w, true, fm, l, t, u) = if x2 < 0 then if x2 < 0 then nR X (callN X d) hX0_stepOn 41 [vR 20 0, vR 26 0, vI x2] [] (M, w, true, fm, l, t, u) else nBnd (callN X d 6 [vR 20 0, vR 26 0, vI x2, vI (1 : Int32)] (M, w, true, fm, l, t, u)) (fun v s2 => nR X (callN X d) hX0_stepOn 41 [vR 20 0, vR 26 0, vI x2] (v.toList ++ []) s2) else cond (nIn x2 6) (if (M 22 0 (x2).toNatClampNeg) = (3 : Int32) then nBnd (callN X d 6 [vR 20 0, vR 26 0, vI x2, vI (-3 : Int32)] (M, w, true, fm, l, t, u)) (fun v s2 => nR X (callN X d) hX0_stepOn 24 [vR 20 0, vR 26 0, vI x2] (v.toList ++ []) s2) else if x2 < 0 then nR X (callN X d) hX0_stepOn 41 [vR 20 0, vR 26 0, vI x2] [] (M, w, true, fm, l, t, u) else nBnd (callN X d 6 [vR 20 0, vR 26 0, vI x2, vI (1 : Int32)] (M, w, true, fm, l, t, u)) (fun v s2 => nR X (callN X d) hX0_stepOn 41 [vR 20 0, vR 26 0, vI x2] (v.toList ++ []) s2)) none :=
  (nR_itc X _ _ c_X0_stepOn 15 _ _ _ _).trans rfl
set_option maxRecDepth 100000 in
theorem bX0_stepOn_24 (d : Nat) (x2 : Int32) (M : MM) (w : Int64) (fm : Bool) (l : List (Nat × Nat × Nat)) (t u : Nat) : nR X (callN X d) hX0_stepOn 24 [vR 20 0, vR 26 0, vI x2] [] (M, w, true, fm, l, t, u) = nR X (callN X d) hX0_stepOn 2 [vR 20 0, vR 26 0, vI (x2 + (-1 : Int32))] [] (M, w, true, fm, l, t, u) :=
  (nR_itc X _ _ c_X0_stepOn 2 _ _ _ _).trans rfl
set_option maxRecDepth 100000 in
theorem bX0_stepOn_41 (d : Nat) (x2 : Int32) (M : MM) (w : Int64) (fm : Bool) (l : List (Nat × Nat × Nat)) (t u : Nat) : nR X (callN X d) hX0_stepOn 41 [vR 20 0, vR 26 0, vI x2] [] (M, w, true, fm, l, t, u) = some (none, (M, w, true, fm, l, t, u)) :=
  (nR_itc X _ _ c_X0_stepOn 1 _ _ _ _).trans rfl
def c_X0_takeUp : List Nat := [13]
set_option maxRecDepth 100000 in
theorem bX0_takeUp_0 (d : Nat) (a2 : Int32) (a3 : Int32) (M : MM) (w : Int64) (fm : Bool) (l : List (Nat × Nat × Nat)) (t u : Nat) : nR X (callN X d) hX0_takeUp 0 [vR 20 0, vR 26 0, vI a2, vI a3, vX] [] (M, w, true, fm, l, t, u) = cond (nIn a2 6) (cond (nIn a2 6) (nR X (callN X d) hX0_takeUp 13 [vR 20 0, vR 26 0, vI a2, vI a3, vI (0 : Int32)] [] ((nSt M 22 0 (a2).toNatClampNeg ((M 22 0 (a2).toNatClampNeg) + a3)), w, true, fm, l, t, u)) none) none :=
  (nR_itc X _ _ c_X0_takeUp 10 _ _ _ _).trans rfl
set_option maxRecDepth 100000 in
theorem bX0_takeUp_13 (d : Nat) (x2 : Int32) (x3 : Int32) (x4 : Int32) (M : MM) (w : Int64) (fm : Bool) (l : List (Nat × Nat × Nat)) (t u : Nat) : nR X (callN X d) hX0_takeUp 13 [vR 20 0, vR 26 0, vI x2, vI x3, vI x4] [] (M, w, true, fm, l, t, u) = if (6 : Int32) ≤ x4 then some (none, (M, w, true, fm, l, t, u)) else cond (nIn x4 6) (cond (nIn ((x2 * (6 : Int32)) + x4) 36) (cond (nIn x4 6) (nR X (callN X d) hX0_takeUp 13 [vR 20 0, vR 26 0, vI x2, vI x3, vI (x4 + (1 : Int32))] [] ((nSt M 23 0 (x4).toNatClampNeg ((M 23 0 (x4).toNatClampNeg) + (x3 * (M 26 0 (((x2 * (6 : Int32)) + x4)).toNatClampNeg)))), w, true, fm, l, t, u)) none) none) none :=
  (nR_itc X _ _ c_X0_takeUp 21 _ _ _ _).trans rfl
def c_X1_takes : List Nat := [7]
set_option maxRecDepth 100000 in
theorem bX1_takes_0 (d : Nat) (a1 : Int32) (a2 : Int32) (a3 : Int32) (a4 : Int32) (M : MM) (w : Int64) (fm : Bool) (l : List (Nat × Nat × Nat)) (t u : Nat) : nR X (callN X d) hX1_takes 0 [vI a1, vI a2, vI a3, vI a4] [] (M, w, true, fm, l, t, u) = nBnd (callN X d 8 [vI a1, vI a2, vI a3, vI a4] (M, w, true, fm, l, t, u)) (fun v s2 => nR X (callN X d) hX1_takes 7 [vI a1, vI a2, vI a3, vI a4] (v.toList ++ []) s2) :=
  (nR_itc X _ _ c_X1_takes 5 _ _ _ _).trans rfl
set_option maxRecDepth 100000 in
theorem bX1_takes_7 (d : Nat) (x0 : Int32) (x1 : Int32) (x2 : Int32) (x3 : Int32) (y0 : Int32) (M : MM) (w : Int64) (fm : Bool) (l : List (Nat × Nat × Nat)) (t u : Nat) : nR X (callN X d) hX1_takes 7 [vI x0, vI x1, vI x2, vI x3] [vI y0] (M, w, true, fm, l, t, u) = some (some (vI (if (99 : Int32) < y0 then (99 : Int32) else y0)), (M, w, true, fm, l, t, u)) :=
  (nR_itc X _ _ c_X1_takes 3 _ _ _ _).trans rfl
def c_X1_takesUnbounded : List Nat := []
set_option maxRecDepth 100000 in
theorem bX1_takesUnbounded_0 (d : Nat) (a1 : Int32) (a2 : Int32) (a3 : Int32) (a4 : Int32) (M : MM) (w : Int64) (fm : Bool) (l : List (Nat × Nat × Nat)) (t u : Nat) : nR X (callN X d) hX1_takesUnbounded 0 [vI a1, vI a2, vI a3, vI a4] [] (M, w, true, fm, l, t, u) = if a1 = (1 : Int32) then some (some (vI ((2 : Int32) * a2)), (M, w, true, fm, l, t, u)) else if a1 = (2 : Int32) then if (2 : Int32) = 0 then none else some (some (vI (a2 / (2 : Int32))), (M, w, true, fm, l, t, u)) else if a1 = (3 : Int32) then if (6 : Int32) = 0 then none else if a3 = (a4 - a4 / (6 : Int32) * (6 : Int32)) then some (some (vI (((2 : Int32) * a2) + a4)), (M, w, true, fm, l, t, u)) else some (some (vI ((2 : Int32) * a2)), (M, w, true, fm, l, t, u)) else if a1 = (4 : Int32) then if a3 = (5 : Int32) then some (some (vI (0 : Int32)), (M, w, true, fm, l, t, u)) else if (2 : Int32) = 0 then none else some (some (vI (a2 / (2 : Int32))), (M, w, true, fm, l, t, u)) else if a1 = (5 : Int32) then some (some (vI (a2 + a3)), (M, w, true, fm, l, t, u)) else some (some (vI a2), (M, w, true, fm, l, t, u)) :=
  (nR_itc X _ _ c_X1_takesUnbounded 14 _ _ _ _).trans rfl
def c_X1_keeps : List Nat := []
set_option maxRecDepth 100000 in
theorem bX1_keeps_0 (d : Nat) (a1 : Int32) (a2 : Int32) (a3 : Int32) (M : MM) (w : Int64) (fm : Bool) (l : List (Nat × Nat × Nat)) (t u : Nat) : nR X (callN X d) hX1_keeps 0 [vI a1, vI a2, vI a3] [] (M, w, true, fm, l, t, u) = if a1 = (2 : Int32) then some (some (vI a3), (M, w, true, fm, l, t, u)) else if a1 = (3 : Int32) then if (100 : Int32) = 0 then none else if (2 : Int32) = 0 then none else some (some (vI (((a3 * a2) / (100 : Int32)) / (2 : Int32))), (M, w, true, fm, l, t, u)) else if a1 = (4 : Int32) then some (some (vI (if (a3 - (10 : Int32)) < (0 : Int32) then (0 : Int32) else (a3 - (10 : Int32)))), (M, w, true, fm, l, t, u)) else if a1 = (5 : Int32) then some (some (vI (0 : Int32)), (M, w, true, fm, l, t, u)) else if (100 : Int32) = 0 then none else some (some (vI ((a3 * a2) / (100 : Int32))), (M, w, true, fm, l, t, u)) :=
  (nR_itc X _ _ c_X1_keeps 10 _ _ _ _).trans rfl
def c_X1_sure : List Nat := []
set_option maxRecDepth 100000 in
theorem bX1_sure_0 (d : Nat) (a1 : Int32) (a2 : Int32) (a3 : Int32) (M : MM) (w : Int64) (fm : Bool) (l : List (Nat × Nat × Nat)) (t u : Nat) : nR X (callN X d) hX1_sure 0 [vI a1, vI a2, vI a3] [] (M, w, true, fm, l, t, u) = if a1 = (2 : Int32) then some (some (vI (a2 + a3)), (M, w, true, fm, l, t, u)) else if a1 = (3 : Int32) then some (some (vI (0 : Int32)), (M, w, true, fm, l, t, u)) else if a1 = (4 : Int32) then some (some (vI ((2 : Int32) * (a2 + a3))), (M, w, true, fm, l, t, u)) else if a1 = (5 : Int32) then some (some (vI (1 : Int32)), (M, w, true, fm, l, t, u)) else some (some (vI a2), (M, w, true, fm, l, t, u)) :=
  (nR_itc X _ _ c_X1_sure 8 _ _ _ _).trans rfl
def c_X1_isUnder : List Nat := []
set_option maxRecDepth 100000 in
theorem bX1_isUnder_0 (d : Nat) (a1 : Int32) (a2 : Int32) (M : MM) (w : Int64) (fm : Bool) (l : List (Nat × Nat × Nat)) (t u : Nat) : nR X (callN X d) hX1_isUnder 0 [vI a1, vI a2] [] (M, w, true, fm, l, t, u) = if a1 = a2 then some (some (vI (1 : Int32)), (M, w, true, fm, l, t, u)) else if a2 = 0 then some (some (vI (1 : Int32)), (M, w, true, fm, l, t, u)) else if a1 = (3 : Int32) then if a2 = (1 : Int32) then some (some (vI (1 : Int32)), (M, w, true, fm, l, t, u)) else if a1 = (4 : Int32) then if a2 = (2 : Int32) then some (some (vI (1 : Int32)), (M, w, true, fm, l, t, u)) else some (some (vI (0 : Int32)), (M, w, true, fm, l, t, u)) else some (some (vI (0 : Int32)), (M, w, true, fm, l, t, u)) else if a1 = (4 : Int32) then if a2 = (2 : Int32) then some (some (vI (1 : Int32)), (M, w, true, fm, l, t, u)) else some (some (vI (0 : Int32)), (M, w, true, fm, l, t, u)) else some (some (vI (0 : Int32)), (M, w, true, fm, l, t, u)) :=
  (nR_itc X _ _ c_X1_isUnder 20 _ _ _ _).trans rfl
def c_X2_add : List Nat := []
set_option maxRecDepth 100000 in
theorem bX2_add_0 (d : Nat) (a1 : Int32) (M : MM) (w : Int64) (fm : Bool) (l : List (Nat × Nat × Nat)) (t u : Nat) : nR X (callN X d) hX2_add 0 [vR 9 0, vI a1] [] (M, w, true, fm, l, t, u) = if (M 9 0 1) < (160 : Int32) then cond (nIn (M 9 0 1) 160) (some (some (vI ((nSt (nSt M 10 0 ((M 9 0 1)).toNatClampNeg a1) 9 0 1 (((nSt M 10 0 ((M 9 0 1)).toNatClampNeg a1) 9 0 1) + (1 : Int32))) 9 0 1)), ((nSt (nSt M 10 0 ((M 9 0 1)).toNatClampNeg a1) 9 0 1 (((nSt M 10 0 ((M 9 0 1)).toNatClampNeg a1) 9 0 1) + (1 : Int32))), w, true, fm, l, t, u))) none else some (some (vI (-4 : Int32)), (M, w, true, fm, l, t, u)) :=
  (nR_itc X _ _ c_X2_add 19 _ _ _ _).trans rfl
def c_X2_read : List Nat := [14, 16, 40, 46, 67]
set_option maxRecDepth 100000 in
theorem bX2_read_0 (d : Nat) (M : MM) (w : Int64) (fm : Bool) (l : List (Nat × Nat × Nat)) (t u : Nat) : nR X (callN X d) hX2_read 0 [vR 9 0, vX] [] (M, w, true, fm, l, t, u) = nBnd (callN X d 21 [vR 9 0] ((nSt (nSt M 9 0 4 (0 : Int32)) 9 0 5 (0 : Int32)), w, true, fm, l, t, u)) (fun v s2 => nR X (callN X d) hX2_read 14 [vR 9 0, vX] (v.toList ++ []) s2) :=
  (nR_itc X _ _ c_X2_read 8 _ _ _ _).trans rfl
set_option maxRecDepth 100000 in
theorem bX2_read_14 (d : Nat) (M : MM) (w : Int64) (fm : Bool) (l : List (Nat × Nat × Nat)) (t u : Nat) : nR X (callN X d) hX2_read 14 [vR 9 0, vX] [] (M, w, true, fm, l, t, u) = nR X (callN X d) hX2_read 16 [vR 9 0, vI (0 : Int32)] [] (M, w, true, fm, l, t, u) :=
  (nR_itc X _ _ c_X2_read 2 _ _ _ _).trans rfl
set_option maxRecDepth 100000 in
theorem bX2_read_16 (d : Nat) (x1 : Int32) (M : MM) (w : Int64) (fm : Bool) (l : List (Nat × Nat × Nat)) (t u : Nat) : nR X (callN X d) hX2_read 16 [vR 9 0, vI x1] [] (M, w, true, fm, l, t, u) = if (3 : Int32) ≤ x1 then if (M 9 0 6) = 0 then some (some (vI (-1 : Int32)), (M, w, true, fm, l, t, u)) else some (some (vI (M 9 0 7)), (M, w, true, fm, l, t, u)) else if (M 9 0 6) = ((4 : Int32) + x1) then nBnd (callN X d 21 [vR 9 0] (M, w, true, fm, l, t, u)) (fun v s2 => nR X (callN X d) hX2_read 40 [vR 9 0, vI x1] (v.toList ++ []) s2) else some (some (vI (M 9 0 7)), (M, w, true, fm, l, t, u)) :=
  (nR_itc X _ _ c_X2_read 12 _ _ _ _).trans rfl
set_option maxRecDepth 100000 in
theorem bX2_read_40 (d : Nat) (x1 : Int32) (M : MM) (w : Int64) (fm : Bool) (l : List (Nat × Nat × Nat)) (t u : Nat) : nR X (callN X d) hX2_read 40 [vR 9 0, vI x1] [] (M, w, true, fm, l, t, u) = nBnd (callN X d 15 [vR 9 0, vI (0 : Int32), vI (0 : Int32)] (M, w, true, fm, l, t, u)) (fun v s2 => nR X (callN X d) hX2_read 46 [vR 9 0, vI x1] (v.toList ++ []) s2) :=
  (nR_itc X _ _ c_X2_read 4 _ _ _ _).trans rfl
set_option maxRecDepth 100000 in
theorem bX2_read_46 (d : Nat) (x1 : Int32) (y0 : Int32) (M : MM) (w : Int64) (fm : Bool) (l : List (Nat × Nat × Nat)) (t u : Nat) : nR X (callN X d) hX2_read 46 [vR 9 0, vI x1] [vI y0] (M, w, true, fm, l, t, u) = if y0 = 0 then some (some (vI (M 9 0 7)), (M, w, true, fm, l, t, u)) else if (M 9 0 6) = (59 : Int32) then nBnd (callN X d 21 [vR 9 0] (M, w, true, fm, l, t, u)) (fun v s2 => nR X (callN X d) hX2_read 67 [vR 9 0, vI x1] (v.toList ++ []) s2) else some (some (vI (M 9 0 7)), (M, w, true, fm, l, t, u)) :=
  (nR_itc X _ _ c_X2_read 8 _ _ _ _).trans rfl
set_option maxRecDepth 100000 in
theorem bX2_read_67 (d : Nat) (x1 : Int32) (M : MM) (w : Int64) (fm : Bool) (l : List (Nat × Nat × Nat)) (t u : Nat) : nR X (callN X d) hX2_read 67 [vR 9 0, vI x1] [] (M, w, true, fm, l, t, u) = cond (nIn (x1 + (1 : Int32)) 4) (nR X (callN X d) hX2_read 16 [vR 9 0, vI (x1 + (1 : Int32))] [] ((nSt M 12 0 ((x1 + (1 : Int32))).toNatClampNeg (M 9 0 4)), w, true, fm, l, t, u)) none :=
  (nR_itc X _ _ c_X2_read 10 _ _ _ _).trans rfl
def c_X2_readLevel : List Nat := [10, 30, 39, 60, 73, 84, 90, 98, 109]
set_option maxRecDepth 100000 in
theorem bX2_readLevel_0 (d : Nat) (a1 : Int32) (a2 : Int32) (M : MM) (w : Int64) (fm : Bool) (l : List (Nat × Nat × Nat)) (t u : Nat) : nR X (callN X d) hX2_readLevel 0 [vR 9 0, vI a1, vI a2, vX, vX, vX] [] (M, w, true, fm, l, t, u) = if a1 < (5 : Int32) then if a1 = (2 : Int32) then if (M 9 0 6) = (9 : Int32) then nBnd (callN X d 16 [vR 9 0, vI a2] (M, w, true, fm, l, t, u)) (fun v s2 => nR X (callN X d) hX2_readLevel 30 [vR 9 0, vI a1, vI a2, vX, vX, vX] (v.toList ++ []) s2) else nBnd (callN X d 15 [vR 9 0, vI (a1 + (1 : Int32)), vI a2] (M, w, true, fm, l, t, u)) (fun v s2 => nR X (callN X d) hX2_readLevel 39 [vR 9 0, vI a1, vI a2, vX, vX, vX] (v.toList ++ []) s2) else nBnd (callN X d 15 [vR 9 0, vI (a1 + (1 : Int32)), vI a2] (M, w, true, fm, l, t, u)) (fun v s2 => nR X (callN X d) hX2_readLevel 39 [vR 9 0, vI a1, vI a2, vX, vX, vX] (v.toList ++ []) s2) else nBnd (callN X d 17 [vR 9 0, vI a2] (M, w, true, fm, l, t, u)) (fun v s2 => nR X (callN X d) hX2_readLevel 10 [vR 9 0, vI a1, vI a2, vX, vX, vX] (v.toList ++ []) s2) :=
  (nR_itc X _ _ c_X2_readLevel 16 _ _ _ _).trans rfl
set_option maxRecDepth 100000 in
theorem bX2_readLevel_10 (d : Nat) (x1 : Int32) (x2 : Int32) (y0 : Int32) (M : MM) (w : Int64) (fm : Bool) (l : List (Nat × Nat × Nat)) (t u : Nat) : nR X (callN X d) hX2_readLevel 10 [vR 9 0, vI x1, vI x2, vX, vX, vX] [vI y0] (M, w, true, fm, l, t, u) = cond (nIsb y0) (some (some (vI y0), (M, w, true, fm, l, t, u))) none :=
  (nR_itc X _ _ c_X2_readLevel 1 _ _ _ _).trans rfl
set_option maxRecDepth 100000 in
theorem bX2_readLevel_30 (d : Nat) (x1 : Int32) (x2 : Int32) (y0 : Int32) (M : MM) (w : Int64) (fm : Bool) (l : List (Nat × Nat × Nat)) (t u : Nat) : nR X (callN X d) hX2_readLevel 30 [vR 9 0, vI x1, vI x2, vX, vX, vX] [vI y0] (M, w, true, fm, l, t, u) = cond (nIsb y0) (some (some (vI y0), (M, w, true, fm, l, t, u))) none :=
  (nR_itc X _ _ c_X2_readLevel 1 _ _ _ _).trans rfl
set_option maxRecDepth 100000 in
theorem bX2_readLevel_39 (d : Nat) (x1 : Int32) (x2 : Int32) (y0 : Int32) (M : MM) (w : Int64) (fm : Bool) (l : List (Nat × Nat × Nat)) (t u : Nat) : nR X (callN X d) hX2_readLevel 39 [vR 9 0, vI x1, vI x2, vX, vX, vX] [vI y0] (M, w, true, fm, l, t, u) = if y0 = 0 then some (some (vI (0 : Int32)), (M, w, true, fm, l, t, u)) else if x1 = (2 : Int32) then nR X (callN X d) hX2_readLevel 60 [vR 9 0, vI x1, vI x2, vI (1 : Int32), vI (0 : Int32), vX] [] (M, w, true, fm, l, t, u) else nR X (callN X d) hX2_readLevel 60 [vR 9 0, vI x1, vI x2, vI (160 : Int32), vI (0 : Int32), vX] [] (M, w, true, fm, l, t, u) :=
  (nR_itc X _ _ c_X2_readLevel 9 _ _ _ _).trans rfl
set_option maxRecDepth 100000 in
theorem bX2_readLevel_60 (d : Nat) (x1 : Int32) (x2 : Int32) (x3 : Int32) (x4 : Int32) (x5 : AV) (M : MM) (w : Int64) (fm : Bool) (l : List (Nat × Nat × Nat)) (t u : Nat) : nR X (callN X d) hX2_readLevel 60 [vR 9 0, vI x1, vI x2, vI x3, vI x4, x5] [] (M, w, true, fm, l, t, u) = if x3 ≤ x4 then some (some (vI (1 : Int32)), (M, w, true, fm, l, t, u)) else nBnd (callN X d 18 [vI (M 9 0 6)] (M, w, true, fm, l, t, u)) (fun v s2 => nR X (callN X d) hX2_readLevel 73 [vR 9 0, vI x1, vI x2, vI x3, vI x4, x5] (v.toList ++ []) s2) :=
  (nR_itc X _ _ c_X2_readLevel 6 _ _ _ _).trans rfl
set_option maxRecDepth 100000 in
theorem bX2_readLevel_73 (d : Nat) (x1 : Int32) (x2 : Int32) (x3 : Int32) (x4 : Int32) (x5 : AV) (y0 : Int32) (M : MM) (w : Int64) (fm : Bool) (l : List (Nat × Nat × Nat)) (t u : Nat) : nR X (callN X d) hX2_readLevel 73 [vR 9 0, vI x1, vI x2, vI x3, vI x4, x5] [vI y0] (M, w, true, fm, l, t, u) = if y0 = x1 then nBnd (callN X d 19 [vI (M 9 0 6)] (M, w, true, fm, l, t, u)) (fun v s2 => nR X (callN X d) hX2_readLevel 84 [vR 9 0, vI x1, vI x2, vI x3, vI x4, x5] (v.toList ++ []) s2) else some (some (vI (1 : Int32)), (M, w, true, fm, l, t, u)) :=
  (nR_itc X _ _ c_X2_readLevel 5 _ _ _ _).trans rfl
set_option maxRecDepth 100000 in
theorem bX2_readLevel_84 (d : Nat) (x1 : Int32) (x2 : Int32) (x3 : Int32) (x4 : Int32) (x5 : AV) (y0 : Int32) (M : MM) (w : Int64) (fm : Bool) (l : List (Nat × Nat × Nat)) (t u : Nat) : nR X (callN X d) hX2_readLevel 84 [vR 9 0, vI x1, vI x2, vI x3, vI x4, x5] [vI y0] (M, w, true, fm, l, t, u) = nBnd (callN X d 21 [vR 9 0] (M, w, true, fm, l, t, u)) (fun v s2 => nR X (callN X d) hX2_readLevel 90 [vR 9 0, vI x1, vI x2, vI x3, vI x4, vI y0] (v.toList ++ []) s2) :=
  (nR_itc X _ _ c_X2_readLevel 3 _ _ _ _).trans rfl
set_option maxRecDepth 100000 in
theorem bX2_readLevel_90 (d : Nat) (x1 : Int32) (x2 : Int32) (x3 : Int32) (x4 : Int32) (x5 : Int32) (M : MM) (w : Int64) (fm : Bool) (l : List (Nat × Nat × Nat)) (t u : Nat) : nR X (callN X d) hX2_readLevel 90 [vR 9 0, vI x1, vI x2, vI x3, vI x4, vI x5] [] (M, w, true, fm, l, t, u) = nBnd (callN X d 15 [vR 9 0, vI (x1 + (1 : Int32)), vI x2] (M, w, true, fm, l, t, u)) (fun v s2 => nR X (callN X d) hX2_readLevel 98 [vR 9 0, vI x1, vI x2, vI x3, vI x4, vI x5] (v.toList ++ []) s2) :=
  (nR_itc X _ _ c_X2_readLevel 6 _ _ _ _).trans rfl
set_option maxRecDepth 100000 in
theorem bX2_readLevel_98 (d : Nat) (x1 : Int32) (x2 : Int32) (x3 : Int32) (x4 : Int32) (x5 : Int32) (y0 : Int32) (M : MM) (w : Int64) (fm : Bool) (l : List (Nat × Nat × Nat)) (t u : Nat) : nR X (callN X d) hX2_readLevel 98 [vR 9 0, vI x1, vI x2, vI x3, vI x4, vI x5] [vI y0] (M, w, true, fm, l, t, u) = if y0 = 0 then some (some (vI (0 : Int32)), (M, w, true, fm, l, t, u)) else nBnd (callN X d 20 [vR 9 0, vI x5] (M, w, true, fm, l, t, u)) (fun v s2 => nR X (callN X d) hX2_readLevel 109 [vR 9 0, vI x1, vI x2, vI x3, vI x4, vI x5] (v.toList ++ []) s2) :=
  (nR_itc X _ _ c_X2_readLevel 4 _ _ _ _).trans rfl
set_option maxRecDepth 100000 in
theorem bX2_readLevel_109 (d : Nat) (x1 : Int32) (x2 : Int32) (x3 : Int32) (x4 : Int32) (x5 : Int32) (M : MM) (w : Int64) (fm : Bool) (l : List (Nat × Nat × Nat)) (t u : Nat) : nR X (callN X d) hX2_readLevel 109 [vR 9 0, vI x1, vI x2, vI x3, vI x4, vI x5] [] (M, w, true, fm, l, t, u) = nR X (callN X d) hX2_readLevel 60 [vR 9 0, vI x1, vI x2, vI x3, vI (x4 + (1 : Int32)), vI x5] [] (M, w, true, fm, l, t, u) :=
  (nR_itc X _ _ c_X2_readLevel 2 _ _ _ _).trans rfl
def c_X2_readNot : List Nat := [11, 19, 30]
set_option maxRecDepth 100000 in
theorem bX2_readNot_0 (d : Nat) (a1 : Int32) (M : MM) (w : Int64) (fm : Bool) (l : List (Nat × Nat × Nat)) (t u : Nat) : nR X (callN X d) hX2_readNot 0 [vR 9 0, vI a1] [] (M, w, true, fm, l, t, u) = if a1 < (5 : Int32) then nBnd (callN X d 21 [vR 9 0] (M, w, true, fm, l, t, u)) (fun v s2 => nR X (callN X d) hX2_readNot 11 [vR 9 0, vI a1] (v.toList ++ []) s2) else some (some (vI (0 : Int32)), (M, w, true, fm, l, t, u)) :=
  (nR_itc X _ _ c_X2_readNot 5 _ _ _ _).trans rfl
set_option maxRecDepth 100000 in
theorem bX2_readNot_11 (d : Nat) (x1 : Int32) (M : MM) (w : Int64) (fm : Bool) (l : List (Nat × Nat × Nat)) (t u : Nat) : nR X (callN X d) hX2_readNot 11 [vR 9 0, vI x1] [] (M, w, true, fm, l, t, u) = nBnd (callN X d 15 [vR 9 0, vI (2 : Int32), vI (x1 + (1 : Int32))] (M, w, true, fm, l, t, u)) (fun v s2 => nR X (callN X d) hX2_readNot 19 [vR 9 0, vI x1] (v.toList ++ []) s2) :=
  (nR_itc X _ _ c_X2_readNot 6 _ _ _ _).trans rfl
set_option maxRecDepth 100000 in
theorem bX2_readNot_19 (d : Nat) (x1 : Int32) (y0 : Int32) (M : MM) (w : Int64) (fm : Bool) (l : List (Nat × Nat × Nat)) (t u : Nat) : nR X (callN X d) hX2_readNot 19 [vR 9 0, vI x1] [vI y0] (M, w, true, fm, l, t, u) = if y0 = 0 then some (some (vI (0 : Int32)), (M, w, true, fm, l, t, u)) else nBnd (callN X d 20 [vR 9 0, vI (-7 : Int32)] (M, w, true, fm, l, t, u)) (fun v s2 => nR X (callN X d) hX2_readNot 30 [vR 9 0, vI x1] (v.toList ++ []) s2) :=
  (nR_itc X _ _ c_X2_readNot 4 _ _ _ _).trans rfl
set_option maxRecDepth 100000 in
theorem bX2_readNot_30 (d : Nat) (x1 : Int32) (M : MM) (w : Int64) (fm : Bool) (l : List (Nat × Nat × Nat)) (t u : Nat) : nR X (callN X d) hX2_readNot 30 [vR 9 0, vI x1] [] (M, w, true, fm, l, t, u) = some (some (vI (1 : Int32)), (M, w, true, fm, l, t, u)) :=
  (nR_itc X _ _ c_X2_readNot 2 _ _ _ _).trans rfl
def c_X2_readOne : List Nat := [37, 41, 66, 79, 90, 100, 118]
set_option maxRecDepth 100000 in
theorem bX2_readOne_0 (d : Nat) (a1 : Int32) (M : MM) (w : Int64) (fm : Bool) (l : List (Nat × Nat × Nat)) (t u : Nat) : nR X (callN X d) hX2_readOne 0 [vR 9 0, vI a1, vX] [] (M, w, true, fm, l, t, u) = if (M 9 0 6) = (2 : Int32) then if (M 9 0 6) = (2 : Int32) then nBnd (callN X d 20 [vR 9 0, vI (M 9 0 8)] (M, w, true, fm, l, t, u)) (fun v s2 => nR X (callN X d) hX2_readOne 37 [vR 9 0, vI a1, vI (M 9 0 6)] (v.toList ++ []) s2) else nBnd (callN X d 20 [vR 9 0, vI ((-1 : Int32) - (M 9 0 8))] (M, w, true, fm, l, t, u)) (fun v s2 => nR X (callN X d) hX2_readOne 37 [vR 9 0, vI a1, vI (M 9 0 6)] (v.toList ++ []) s2) else if (M 9 0 6) = (3 : Int32) then if (M 9 0 6) = (2 : Int32) then nBnd (callN X d 20 [vR 9 0, vI (M 9 0 8)] (M, w, true, fm, l, t, u)) (fun v s2 => nR X (callN X d) hX2_readOne 37 [vR 9 0, vI a1, vI (M 9 0 6)] (v.toList ++ []) s2) else nBnd (callN X d 20 [vR 9 0, vI ((-1 : Int32) - (M 9 0 8))] (M, w, true, fm, l, t, u)) (fun v s2 => nR X (callN X d) hX2_readOne 37 [vR 9 0, vI a1, vI (M 9 0 6)] (v.toList ++ []) s2) else if (M 9 0 6) = (45 : Int32) then if a1 < (5 : Int32) then nBnd (callN X d 21 [vR 9 0] (M, w, true, fm, l, t, u)) (fun v s2 => nR X (callN X d) hX2_readOne 66 [vR 9 0, vI a1, vI (M 9 0 6)] (v.toList ++ []) s2) else some (some (vI (0 : Int32)), (M, w, true, fm, l, t, u)) else if (M 9 0 6) = (40 : Int32) then if a1 < (5 : Int32) then nBnd (callN X d 21 [vR 9 0] (M, w, true, fm, l, t, u)) (fun v s2 => nR X (callN X d) hX2_readOne 66 [vR 9 0, vI a1, vI (M 9 0 6)] (v.toList ++ []) s2) else some (some (vI (0 : Int32)), (M, w, true, fm, l, t, u)) else some (some (vI (0 : Int32)), (M, w, true, fm, l, t, u)) :=
  (nR_itc X _ _ c_X2_readOne 20 _ _ _ _).trans rfl
set_option maxRecDepth 100000 in
theorem bX2_readOne_37 (d : Nat) (x1 : Int32) (x2 : Int32) (M : MM) (w : Int64) (fm : Bool) (l : List (Nat × Nat × Nat)) (t u : Nat) : nR X (callN X d) hX2_readOne 37 [vR 9 0, vI x1, vI x2] [] (M, w, true, fm, l, t, u) = nBnd (callN X d 21 [vR 9 0] (M, w, true, fm, l, t, u)) (fun v s2 => nR X (callN X d) hX2_readOne 41 [vR 9 0, vI x1, vI x2] (v.toList ++ []) s2) :=
  (nR_itc X _ _ c_X2_readOne 2 _ _ _ _).trans rfl
set_option maxRecDepth 100000 in
theorem bX2_readOne_41 (d : Nat) (x1 : Int32) (x2 : Int32) (M : MM) (w : Int64) (fm : Bool) (l : List (Nat × Nat × Nat)) (t u : Nat) : nR X (callN X d) hX2_readOne 41 [vR 9 0, vI x1, vI x2] [] (M, w, true, fm, l, t, u) = some (some (vI (1 : Int32)), (M, w, true, fm, l, t, u)) :=
  (nR_itc X _ _ c_X2_readOne 2 _ _ _ _).trans rfl
set_option maxRecDepth 100000 in
theorem bX2_readOne_66 (d : Nat) (x1 : Int32) (x2 : Int32) (M : MM) (w : Int64) (fm : Bool) (l : List (Nat × Nat × Nat)) (t u : Nat) : nR X (callN X d) hX2_readOne 66 [vR 9 0, vI x1, vI x2] [] (M, w, true, fm, l, t, u) = if x2 = (45 : Int32) then nBnd (callN X d 17 [vR 9 0, vI (x1 + (1 : Int32))] (M, w, true, fm, l, t, u)) (fun v s2 => nR X (callN X d) hX2_readOne 79 [vR 9 0, vI x1, vI x2] (v.toList ++ []) s2) else nBnd (callN X d 15 [vR 9 0, vI (0 : Int32), vI (x1 + (1 : Int32))] (M, w, true, fm, l, t, u)) (fun v s2 => nR X (callN X d) hX2_readOne 100 [vR 9 0, vI x1, vI x2] (v.toList ++ []) s2) :=
  (nR_itc X _ _ c_X2_readOne 9 _ _ _ _).trans rfl
set_option maxRecDepth 100000 in
theorem bX2_readOne_79 (d : Nat) (x1 : Int32) (x2 : Int32) (y0 : Int32) (M : MM) (w : Int64) (fm : Bool) (l : List (Nat × Nat × Nat)) (t u : Nat) : nR X (callN X d) hX2_readOne 79 [vR 9 0, vI x1, vI x2] [vI y0] (M, w, true, fm, l, t, u) = if y0 = 0 then some (some (vI (0 : Int32)), (M, w, true, fm, l, t, u)) else nBnd (callN X d 20 [vR 9 0, vI (-8 : Int32)] (M, w, true, fm, l, t, u)) (fun v s2 => nR X (callN X d) hX2_readOne 90 [vR 9 0, vI x1, vI x2] (v.toList ++ []) s2) :=
  (nR_itc X _ _ c_X2_readOne 4 _ _ _ _).trans rfl
set_option maxRecDepth 100000 in
theorem bX2_readOne_90 (d : Nat) (x1 : Int32) (x2 : Int32) (M : MM) (w : Int64) (fm : Bool) (l : List (Nat × Nat × Nat)) (t u : Nat) : nR X (callN X d) hX2_readOne 90 [vR 9 0, vI x1, vI x2] [] (M, w, true, fm, l, t, u) = some (some (vI (1 : Int32)), (M, w, true, fm, l, t, u)) :=
  (nR_itc X _ _ c_X2_readOne 2 _ _ _ _).trans rfl
set_option maxRecDepth 100000 in
theorem bX2_readOne_100 (d : Nat) (x1 : Int32) (x2 : Int32) (y0 : Int32) (M : MM) (w : Int64) (fm : Bool) (l : List (Nat × Nat × Nat)) (t u : Nat) : nR X (callN X d) hX2_readOne 100 [vR 9 0, vI x1, vI x2] [vI y0] (M, w, true, fm, l, t, u) = if y0 = 0 then some (some (vI (0 : Int32)), (M, w, true, fm, l, t, u)) else if (M 9 0 6) = (41 : Int32) then nBnd (callN X d 21 [vR 9 0] (M, w, true, fm, l, t, u)) (fun v s2 => nR X (callN X d) hX2_readOne 118 [vR 9 0, vI x1, vI x2] (v.toList ++ []) s2) else some (some (vI (0 : Int32)), (M, w, true, fm, l, t, u)) :=
  (nR_itc X _ _ c_X2_readOne 7 _ _ _ _).trans rfl
set_option maxRecDepth 100000 in
theorem bX2_readOne_118 (d : Nat) (x1 : Int32) (x2 : Int32) (M : MM) (w : Int64) (fm : Bool) (l : List (Nat × Nat × Nat)) (t u : Nat) : nR X (callN X d) hX2_readOne 118 [vR 9 0, vI x1, vI x2] [] (M, w, true, fm, l, t, u) = some (some (vI (1 : Int32)), (M, w, true, fm, l, t, u)) :=
  (nR_itc X _ _ c_X2_readOne 2 _ _ _ _).trans rfl
def c_X2_levelOf : List Nat := []
set_option maxRecDepth 100000 in
theorem bX2_levelOf_0 (d : Nat) (a1 : Int32) (M : MM) (w : Int64) (fm : Bool) (l : List (Nat × Nat × Nat)) (t u : Nat) : nR X (callN X d) hX2_levelOf 0 [vI a1] [] (M, w, true, fm, l, t, u) = if a1 = (7 : Int32) then some (some (vI (0 : Int32)), (M, w, true, fm, l, t, u)) else if a1 = (8 : Int32) then some (some (vI (1 : Int32)), (M, w, true, fm, l, t, u)) else if a1 = (42 : Int32) then some (some (vI (4 : Int32)), (M, w, true, fm, l, t, u)) else if a1 = (43 : Int32) then some (some (vI (3 : Int32)), (M, w, true, fm, l, t, u)) else if a1 = (45 : Int32) then some (some (vI (3 : Int32)), (M, w, true, fm, l, t, u)) else if a1 = (60 : Int32) then some (some (vI (2 : Int32)), (M, w, true, fm, l, t, u)) else if a1 = (61 : Int32) then some (some (vI (2 : Int32)), (M, w, true, fm, l, t, u)) else some (some (vI (-1 : Int32)), (M, w, true, fm, l, t, u)) :=
  (nR_itc X _ _ c_X2_levelOf 4 _ _ _ _).trans rfl
def c_X2_stepOf : List Nat := []
set_option maxRecDepth 100000 in
theorem bX2_stepOf_0 (d : Nat) (a1 : Int32) (M : MM) (w : Int64) (fm : Bool) (l : List (Nat × Nat × Nat)) (t u : Nat) : nR X (callN X d) hX2_stepOf 0 [vI a1] [] (M, w, true, fm, l, t, u) = if a1 = (7 : Int32) then some (some (vI (-9 : Int32)), (M, w, true, fm, l, t, u)) else if a1 = (8 : Int32) then some (some (vI (-10 : Int32)), (M, w, true, fm, l, t, u)) else if a1 = (43 : Int32) then some (some (vI (-13 : Int32)), (M, w, true, fm, l, t, u)) else if a1 = (45 : Int32) then some (some (vI (-14 : Int32)), (M, w, true, fm, l, t, u)) else if a1 = (60 : Int32) then some (some (vI (-11 : Int32)), (M, w, true, fm, l, t, u)) else if a1 = (61 : Int32) then some (some (vI (-12 : Int32)), (M, w, true, fm, l, t, u)) else some (some (vI (-15 : Int32)), (M, w, true, fm, l, t, u)) :=
  (nR_itc X _ _ c_X2_stepOf 4 _ _ _ _).trans rfl
def c_X2_put : List Nat := []
set_option maxRecDepth 100000 in
theorem bX2_put_0 (d : Nat) (a1 : Int32) (M : MM) (w : Int64) (fm : Bool) (l : List (Nat × Nat × Nat)) (t u : Nat) : nR X (callN X d) hX2_put 0 [vR 9 0, vI a1] [] (M, w, true, fm, l, t, u) = if (160 : Int32) ≤ (M 9 0 4) then some (none, (M, w, true, fm, l, t, u)) else cond (nIn (M 9 0 4) 160) (some (none, ((nSt (nSt M 11 0 ((M 9 0 4)).toNatClampNeg a1) 9 0 4 (((nSt M 11 0 ((M 9 0 4)).toNatClampNeg a1) 9 0 4) + (1 : Int32))), w, true, fm, l, t, u))) none :=
  (nR_itc X _ _ c_X2_put 17 _ _ _ _).trans rfl
def c_X2_next : List Nat := [0, 91, 98, 113, 120, 136]
set_option maxRecDepth 100000 in
theorem bX2_next_0 (d : Nat) (M : MM) (w : Int64) (fm : Bool) (l : List (Nat × Nat × Nat)) (t u : Nat) : nR X (callN X d) hX2_next 0 [vR 9 0] [] (M, w, true, fm, l, t, u) = if (M 9 0 1) ≤ (M 9 0 5) then if ((nSt M 9 0 7 (M 9 0 5)) 9 0 5) < ((nSt M 9 0 7 (M 9 0 5)) 9 0 1) then nBnd (callN X d 24 [vR 9 0, vI ((nSt M 9 0 7 (M 9 0 5)) 9 0 5), vI (97 : Int32), vI (122 : Int32)] ((nSt M 9 0 7 (M 9 0 5)), w, true, fm, l, t, u)) (fun v s2 => nR X (callN X d) hX2_next 91 [vR 9 0] (v.toList ++ []) s2) else some (none, ((nSt (nSt M 9 0 7 (M 9 0 5)) 9 0 6 (0 : Int32)), w, true, fm, l, t, u)) else cond (nIn (M 9 0 5) 160) (if (M 10 0 ((M 9 0 5)).toNatClampNeg) = (32 : Int32) then nR X (callN X d) hX2_next 0 [vR 9 0] [] ((nSt M 9 0 5 ((M 9 0 5) + (1 : Int32))), w, true, fm, l, t, u) else cond (nIn (M 9 0 5) 160) (if (M 10 0 ((M 9 0 5)).toNatClampNeg) = (10 : Int32) then nR X (callN X d) hX2_next 0 [vR 9 0] [] ((nSt M 9 0 5 ((M 9 0 5) + (1 : Int32))), w, true, fm, l, t, u) else if ((nSt M 9 0 7 (M 9 0 5)) 9 0 5) < ((nSt M 9 0 7 (M 9 0 5)) 9 0 1) then nBnd (callN X d 24 [vR 9 0, vI ((nSt M 9 0 7 (M 9 0 5)) 9 0 5), vI (97 : Int32), vI (122 : Int32)] ((nSt M 9 0 7 (M 9 0 5)), w, true, fm, l, t, u)) (fun v s2 => nR X (callN X d) hX2_next 91 [vR 9 0] (v.toList ++ []) s2) else some (none, ((nSt (nSt M 9 0 7 (M 9 0 5)) 9 0 6 (0 : Int32)), w, true, fm, l, t, u))) none) none :=
  (nR_itc X _ _ c_X2_next 34 _ _ _ _).trans rfl
set_option maxRecDepth 100000 in
theorem bX2_next_91 (d : Nat) (y0 : Int32) (M : MM) (w : Int64) (fm : Bool) (l : List (Nat × Nat × Nat)) (t u : Nat) : nR X (callN X d) hX2_next 91 [vR 9 0] [vI y0] (M, w, true, fm, l, t, u) = if y0 = 0 then nBnd (callN X d 24 [vR 9 0, vI (M 9 0 5), vI (48 : Int32), vI (57 : Int32)] (M, w, true, fm, l, t, u)) (fun v s2 => nR X (callN X d) hX2_next 113 [vR 9 0] (v.toList ++ []) s2) else nBnd (callN X d 22 [vR 9 0] (M, w, true, fm, l, t, u)) (fun v s2 => nR X (callN X d) hX2_next 98 [vR 9 0] (v.toList ++ []) s2) :=
  (nR_itc X _ _ c_X2_next 7 _ _ _ _).trans rfl
set_option maxRecDepth 100000 in
theorem bX2_next_98 (d : Nat) (M : MM) (w : Int64) (fm : Bool) (l : List (Nat × Nat × Nat)) (t u : Nat) : nR X (callN X d) hX2_next 98 [vR 9 0] [] (M, w, true, fm, l, t, u) = some (none, (M, w, true, fm, l, t, u)) :=
  (nR_itc X _ _ c_X2_next 2 _ _ _ _).trans rfl
set_option maxRecDepth 100000 in
theorem bX2_next_113 (d : Nat) (y0 : Int32) (M : MM) (w : Int64) (fm : Bool) (l : List (Nat × Nat × Nat)) (t u : Nat) : nR X (callN X d) hX2_next 113 [vR 9 0] [vI y0] (M, w, true, fm, l, t, u) = if y0 = 0 then cond (nIn (M 9 0 5) 160) (nBnd (callN X d 25 [vI (M 10 0 ((M 9 0 5)).toNatClampNeg)] (M, w, true, fm, l, t, u)) (fun v s2 => nR X (callN X d) hX2_next 136 [vR 9 0] (v.toList ++ [vR 9 0]) s2)) none else nBnd (callN X d 23 [vR 9 0] (M, w, true, fm, l, t, u)) (fun v s2 => nR X (callN X d) hX2_next 120 [vR 9 0] (v.toList ++ []) s2) :=
  (nR_itc X _ _ c_X2_next 8 _ _ _ _).trans rfl
set_option maxRecDepth 100000 in
theorem bX2_next_120 (d : Nat) (M : MM) (w : Int64) (fm : Bool) (l : List (Nat × Nat × Nat)) (t u : Nat) : nR X (callN X d) hX2_next 120 [vR 9 0] [] (M, w, true, fm, l, t, u) = some (none, (M, w, true, fm, l, t, u)) :=
  (nR_itc X _ _ c_X2_next 2 _ _ _ _).trans rfl
set_option maxRecDepth 100000 in
theorem bX2_next_136 (d : Nat) (y0 : Int32) (M : MM) (w : Int64) (fm : Bool) (l : List (Nat × Nat × Nat)) (t u : Nat) : nR X (callN X d) hX2_next 136 [vR 9 0] [vI y0, vR 9 0] (M, w, true, fm, l, t, u) = if y0 = 0 then some (none, ((nSt (nSt M 9 0 6 (1 : Int32)) 9 0 5 (((nSt M 9 0 6 (1 : Int32)) 9 0 5) + (1 : Int32))), w, true, fm, l, t, u)) else cond (nIn (M 9 0 5) 160) (some (none, ((nSt (nSt M 9 0 6 (M 10 0 ((M 9 0 5)).toNatClampNeg)) 9 0 5 (((nSt M 9 0 6 (M 10 0 ((M 9 0 5)).toNatClampNeg)) 9 0 5) + (1 : Int32))), w, true, fm, l, t, u))) none :=
  (nR_itc X _ _ c_X2_next 15 _ _ _ _).trans rfl
def c_X2_nextWord : List Nat := [0, 23, 44, 55, 58]
set_option maxRecDepth 100000 in
theorem bX2_nextWord_0 (d : Nat) (M : MM) (w : Int64) (fm : Bool) (l : List (Nat × Nat × Nat)) (t u : Nat) : nR X (callN X d) hX2_nextWord 0 [vR 9 0, vX, vX] [] (M, w, true, fm, l, t, u) = if (M 9 0 1) ≤ (M 9 0 5) then nR X (callN X d) hX2_nextWord 44 [vR 9 0, vI (12 : Int32), vI (0 : Int32)] [] (M, w, true, fm, l, t, u) else nBnd (callN X d 24 [vR 9 0, vI (M 9 0 5), vI (97 : Int32), vI (122 : Int32)] (M, w, true, fm, l, t, u)) (fun v s2 => nR X (callN X d) hX2_nextWord 23 [vR 9 0, vX, vX] (v.toList ++ []) s2) :=
  (nR_itc X _ _ c_X2_nextWord 11 _ _ _ _).trans rfl
set_option maxRecDepth 100000 in
theorem bX2_nextWord_23 (d : Nat) (y0 : Int32) (M : MM) (w : Int64) (fm : Bool) (l : List (Nat × Nat × Nat)) (t u : Nat) : nR X (callN X d) hX2_nextWord 23 [vR 9 0, vX, vX] [vI y0] (M, w, true, fm, l, t, u) = if y0 = 0 then nR X (callN X d) hX2_nextWord 44 [vR 9 0, vI (12 : Int32), vI (0 : Int32)] [] (M, w, true, fm, l, t, u) else nR X (callN X d) hX2_nextWord 0 [vR 9 0, vX, vX] [] ((nSt M 9 0 5 ((M 9 0 5) + (1 : Int32))), w, true, fm, l, t, u) :=
  (nR_itc X _ _ c_X2_nextWord 8 _ _ _ _).trans rfl
set_option maxRecDepth 100000 in
theorem bX2_nextWord_44 (d : Nat) (x1 : Int32) (x2 : Int32) (M : MM) (w : Int64) (fm : Bool) (l : List (Nat × Nat × Nat)) (t u : Nat) : nR X (callN X d) hX2_nextWord 44 [vR 9 0, vI x1, vI x2] [] (M, w, true, fm, l, t, u) = if (12 : Int32) ≤ x2 then if (6 : Int32) ≤ x1 then if (12 : Int32) ≤ x1 then some (none, ((nSt M 9 0 6 (1 : Int32)), w, true, fm, l, t, u)) else some (none, ((nSt M 9 0 6 (((4 : Int32) + x1) - (6 : Int32))), w, true, fm, l, t, u)) else some (none, ((nSt (nSt M 9 0 6 (3 : Int32)) 9 0 8 x1), w, true, fm, l, t, u)) else nBnd (callN X d 27 [vI x2] (M, w, true, fm, l, t, u)) (fun v s2 => nR X (callN X d) hX2_nextWord 55 [vR 9 0, vI x1, vI x2] (v.toList ++ [vR 9 0]) s2) :=
  (nR_itc X _ _ c_X2_nextWord 18 _ _ _ _).trans rfl
set_option maxRecDepth 100000 in
theorem bX2_nextWord_55 (d : Nat) (x1 : Int32) (x2 : Int32) (q0 : Nat) (M : MM) (w : Int64) (fm : Bool) (l : List (Nat × Nat × Nat)) (t u : Nat) : nR X (callN X d) hX2_nextWord 55 [vR 9 0, vI x1, vI x2] [vR 1 q0, vR 9 0] (M, w, true, fm, l, t, u) = nBnd (callN X d 26 [vR 9 0, vR 1 q0] (M, w, true, fm, l, t, u)) (fun v s2 => nR X (callN X d) hX2_nextWord 58 [vR 9 0, vI x1, vI x2] (v.toList ++ []) s2) :=
  (nR_itc X _ _ c_X2_nextWord 1 _ _ _ _).trans rfl
set_option maxRecDepth 100000 in
theorem bX2_nextWord_58 (d : Nat) (x1 : Int32) (x2 : Int32) (y0 : Int32) (M : MM) (w : Int64) (fm : Bool) (l : List (Nat × Nat × Nat)) (t u : Nat) : nR X (callN X d) hX2_nextWord 58 [vR 9 0, vI x1, vI x2] [vI y0] (M, w, true, fm, l, t, u) = if y0 = 0 then nR X (callN X d) hX2_nextWord 44 [vR 9 0, vI x1, vI (x2 + (1 : Int32))] [] (M, w, true, fm, l, t, u) else nR X (callN X d) hX2_nextWord 44 [vR 9 0, vI x2, vI (x2 + (1 : Int32))] [] (M, w, true, fm, l, t, u) :=
  (nR_itc X _ _ c_X2_nextWord 5 _ _ _ _).trans rfl
def c_X2_nextNumber : List Nat := [5, 28]
set_option maxRecDepth 100000 in
theorem bX2_nextNumber_0 (d : Nat) (M : MM) (w : Int64) (fm : Bool) (l : List (Nat × Nat × Nat)) (t u : Nat) : nR X (callN X d) hX2_nextNumber 0 [vR 9 0] [] (M, w, true, fm, l, t, u) = nR X (callN X d) hX2_nextNumber 5 [vR 9 0] [] ((nSt M 9 0 8 (0 : Int32)), w, true, fm, l, t, u) :=
  (nR_itc X _ _ c_X2_nextNumber 3 _ _ _ _).trans rfl
set_option maxRecDepth 100000 in
theorem bX2_nextNumber_5 (d : Nat) (M : MM) (w : Int64) (fm : Bool) (l : List (Nat × Nat × Nat)) (t u : Nat) : nR X (callN X d) hX2_nextNumber 5 [vR 9 0] [] (M, w, true, fm, l, t, u) = if (M 9 0 1) ≤ (M 9 0 5) then if ((M 9 0 5) - (M 9 0 7)) ≤ (4 : Int32) then some (none, ((nSt M 9 0 6 (2 : Int32)), w, true, fm, l, t, u)) else some (none, ((nSt M 9 0 6 (1 : Int32)), w, true, fm, l, t, u)) else nBnd (callN X d 24 [vR 9 0, vI (M 9 0 5), vI (48 : Int32), vI (57 : Int32)] (M, w, true, fm, l, t, u)) (fun v s2 => nR X (callN X d) hX2_nextNumber 28 [vR 9 0] (v.toList ++ []) s2) :=
  (nR_itc X _ _ c_X2_nextNumber 17 _ _ _ _).trans rfl
set_option maxRecDepth 100000 in
theorem bX2_nextNumber_28 (d : Nat) (y0 : Int32) (M : MM) (w : Int64) (fm : Bool) (l : List (Nat × Nat × Nat)) (t u : Nat) : nR X (callN X d) hX2_nextNumber 28 [vR 9 0] [vI y0] (M, w, true, fm, l, t, u) = if y0 = 0 then if ((M 9 0 5) - (M 9 0 7)) ≤ (4 : Int32) then some (none, ((nSt M 9 0 6 (2 : Int32)), w, true, fm, l, t, u)) else some (none, ((nSt M 9 0 6 (1 : Int32)), w, true, fm, l, t, u)) else cond (nIn (M 9 0 5) 160) (nR X (callN X d) hX2_nextNumber 5 [vR 9 0] [] ((nSt (nSt M 9 0 8 ((((M 9 0 8) * (10 : Int32)) + (M 10 0 ((M 9 0 5)).toNatClampNeg)) - (48 : Int32))) 9 0 5 (((nSt M 9 0 8 ((((M 9 0 8) * (10 : Int32)) + (M 10 0 ((M 9 0 5)).toNatClampNeg)) - (48 : Int32))) 9 0 5) + (1 : Int32))), w, true, fm, l, t, u)) none :=
  (nR_itc X _ _ c_X2_nextNumber 22 _ _ _ _).trans rfl
def c_X2_isIn : List Nat := []
set_option maxRecDepth 100000 in
theorem bX2_isIn_0 (d : Nat) (a1 : Int32) (a2 : Int32) (a3 : Int32) (M : MM) (w : Int64) (fm : Bool) (l : List (Nat × Nat × Nat)) (t u : Nat) : nR X (callN X d) hX2_isIn 0 [vR 9 0, vI a1, vI a2, vI a3] [] (M, w, true, fm, l, t, u) = if (M 9 0 1) ≤ a1 then some (some (vI (0 : Int32)), (M, w, true, fm, l, t, u)) else cond (nIn a1 160) (if (M 10 0 (a1).toNatClampNeg) < a2 then some (some (vI (0 : Int32)), (M, w, true, fm, l, t, u)) else cond (nIn a1 160) (if a3 < (M 10 0 (a1).toNatClampNeg) then some (some (vI (0 : Int32)), (M, w, true, fm, l, t, u)) else some (some (vI (1 : Int32)), (M, w, true, fm, l, t, u))) none) none :=
  (nR_itc X _ _ c_X2_isIn 19 _ _ _ _).trans rfl
def c_X2_isSign : List Nat := []
set_option maxRecDepth 100000 in
theorem bX2_isSign_0 (d : Nat) (a1 : Int32) (M : MM) (w : Int64) (fm : Bool) (l : List (Nat × Nat × Nat)) (t u : Nat) : nR X (callN X d) hX2_isSign 0 [vI a1] [] (M, w, true, fm, l, t, u) = if a1 < (40 : Int32) then if a1 = (45 : Int32) then some (some (vI (1 : Int32)), (M, w, true, fm, l, t, u)) else if a1 < (59 : Int32) then some (some (vI (0 : Int32)), (M, w, true, fm, l, t, u)) else if (61 : Int32) < a1 then some (some (vI (0 : Int32)), (M, w, true, fm, l, t, u)) else some (some (vI (1 : Int32)), (M, w, true, fm, l, t, u)) else if a1 ≤ (43 : Int32) then some (some (vI (1 : Int32)), (M, w, true, fm, l, t, u)) else if a1 = (45 : Int32) then some (some (vI (1 : Int32)), (M, w, true, fm, l, t, u)) else if a1 < (59 : Int32) then some (some (vI (0 : Int32)), (M, w, true, fm, l, t, u)) else if (61 : Int32) < a1 then some (some (vI (0 : Int32)), (M, w, true, fm, l, t, u)) else some (some (vI (1 : Int32)), (M, w, true, fm, l, t, u)) :=
  (nR_itc X _ _ c_X2_isSign 18 _ _ _ _).trans rfl
def c_X2_isToken : List Nat := [20]
set_option maxRecDepth 100000 in
theorem bX2_isToken_0 (d : Nat) (i1 : Nat) (M : MM) (w : Int64) (fm : Bool) (l : List (Nat × Nat × Nat)) (t u : Nat) : nR X (callN X d) hX2_isToken 0 [vR 9 0, vR 1 i1, vX] [] (M, w, true, fm, l, t, u) = cond (Nat.blt i1 13) (if (Int32.ofNat (nSlen i1)) = ((M 9 0 5) - (M 9 0 7)) then nR X (callN X d) hX2_isToken 20 [vR 9 0, vR 1 i1, vI (0 : Int32)] [] (M, w, true, fm, l, t, u) else some (some (vI (0 : Int32)), (M, w, true, fm, l, t, u))) none :=
  (nR_itc X _ _ c_X2_isToken 10 _ _ _ _).trans rfl
set_option maxRecDepth 100000 in
theorem bX2_isToken_20 (d : Nat) (i1 : Nat) (x2 : Int32) (M : MM) (w : Int64) (fm : Bool) (l : List (Nat × Nat × Nat)) (t u : Nat) : nR X (callN X d) hX2_isToken 20 [vR 9 0, vR 1 i1, vI x2] [] (M, w, true, fm, l, t, u) = cond (Nat.blt i1 13) (if (Int32.ofNat (nSlen i1)) ≤ x2 then some (some (vI (1 : Int32)), (M, w, true, fm, l, t, u)) else cond (Nat.blt i1 13 && nIn x2 (nSlen i1)) (cond (nIn ((M 9 0 7) + x2) 160) (if (nSch i1 (x2).toNatClampNeg) = (M 10 0 (((M 9 0 7) + x2)).toNatClampNeg) then nR X (callN X d) hX2_isToken 20 [vR 9 0, vR 1 i1, vI (x2 + (1 : Int32))] [] (M, w, true, fm, l, t, u) else some (some (vI (0 : Int32)), (M, w, true, fm, l, t, u))) none) none) none :=
  (nR_itc X _ _ c_X2_isToken 17 _ _ _ _).trans rfl
def c_X2_wordOf : List Nat := []
set_option maxRecDepth 100000 in
theorem bX2_wordOf_0 (d : Nat) (a1 : Int32) (M : MM) (w : Int64) (fm : Bool) (l : List (Nat × Nat × Nat)) (t u : Nat) : nR X (callN X d) hX2_wordOf 0 [vI a1] [] (M, w, true, fm, l, t, u) = if a1 = (0 : Int32) then some (some (vR 1 1), (M, w, true, fm, l, t, u)) else if a1 = (1 : Int32) then some (some (vR 1 2), (M, w, true, fm, l, t, u)) else if a1 = (2 : Int32) then some (some (vR 1 3), (M, w, true, fm, l, t, u)) else if a1 = (3 : Int32) then some (some (vR 1 4), (M, w, true, fm, l, t, u)) else if a1 = (4 : Int32) then some (some (vR 1 5), (M, w, true, fm, l, t, u)) else if a1 = (5 : Int32) then some (some (vR 1 6), (M, w, true, fm, l, t, u)) else if a1 = (6 : Int32) then some (some (vR 1 7), (M, w, true, fm, l, t, u)) else if a1 = (7 : Int32) then some (some (vR 1 8), (M, w, true, fm, l, t, u)) else if a1 = (8 : Int32) then some (some (vR 1 9), (M, w, true, fm, l, t, u)) else if a1 = (9 : Int32) then some (some (vR 1 10), (M, w, true, fm, l, t, u)) else if a1 = (10 : Int32) then some (some (vR 1 11), (M, w, true, fm, l, t, u)) else some (some (vR 1 12), (M, w, true, fm, l, t, u)) :=
  (nR_itc X _ _ c_X2_wordOf 4 _ _ _ _).trans rfl
def c_X3_isSort : List Nat := []
set_option maxRecDepth 100000 in
theorem bX3_isSort_0 (d : Nat) (a1 : Int32) (M : MM) (w : Int64) (fm : Bool) (l : List (Nat × Nat × Nat)) (t u : Nat) : nR X (callN X d) hX3_isSort 0 [vI a1] [] (M, w, true, fm, l, t, u) = if a1 < 0 then some (some (vI (0 : Int32)), (M, w, true, fm, l, t, u)) else if (2 : Int32) < a1 then some (some (vI (0 : Int32)), (M, w, true, fm, l, t, u)) else some (some (vI (1 : Int32)), (M, w, true, fm, l, t, u)) :=
  (nR_itc X _ _ c_X3_isSort 8 _ _ _ _).trans rfl
def c_X3_isMissing : List Nat := []
set_option maxRecDepth 100000 in
theorem bX3_isMissing_0 (d : Nat) (i0 : Nat) (M : MM) (w : Int64) (fm : Bool) (l : List (Nat × Nat × Nat)) (t u : Nat) : nR X (callN X d) hX3_isMissing 0 [vR 18 i0] [] (M, w, true, fm, l, t, u) = if (M 18 i0 0) = (-1 : Int32) then some (some (vI (1 : Int32)), (M, w, true, fm, l, t, u)) else some (some (vI (0 : Int32)), (M, w, true, fm, l, t, u)) :=
  (nR_itc X _ _ c_X3_isMissing 7 _ _ _ _).trans rfl
def c_X3_has : List Nat := []
set_option maxRecDepth 100000 in
theorem bX3_has_0 (d : Nat) (i0 : Nat) (a1 : Int32) (M : MM) (w : Int64) (fm : Bool) (l : List (Nat × Nat × Nat)) (t u : Nat) : nR X (callN X d) hX3_has 0 [vR 18 i0, vI a1] [] (M, w, true, fm, l, t, u) = if a1 < 0 then some (some (vI (0 : Int32)), (M, w, true, fm, l, t, u)) else if (M 18 i0 1) ≤ a1 then some (some (vI (0 : Int32)), (M, w, true, fm, l, t, u)) else some (some (vI (1 : Int32)), (M, w, true, fm, l, t, u)) :=
  (nR_itc X _ _ c_X3_has 9 _ _ _ _).trans rfl
def c_X3_hasRun : List Nat := []
set_option maxRecDepth 100000 in
theorem bX3_hasRun_0 (d : Nat) (i0 : Nat) (a1 : Int32) (a2 : Int32) (M : MM) (w : Int64) (fm : Bool) (l : List (Nat × Nat × Nat)) (t u : Nat) : nR X (callN X d) hX3_hasRun 0 [vR 18 i0, vI a1, vI a2] [] (M, w, true, fm, l, t, u) = if a1 < 0 then some (some (vI (0 : Int32)), (M, w, true, fm, l, t, u)) else if a2 < 0 then some (some (vI (0 : Int32)), (M, w, true, fm, l, t, u)) else if (M 18 i0 1) < a1 then some (some (vI (0 : Int32)), (M, w, true, fm, l, t, u)) else if ((M 18 i0 1) - a1) < a2 then some (some (vI (0 : Int32)), (M, w, true, fm, l, t, u)) else some (some (vI (1 : Int32)), (M, w, true, fm, l, t, u)) :=
  (nR_itc X _ _ c_X3_hasRun 17 _ _ _ _).trans rfl
def c_X3_becomes : List Nat := [12]
set_option maxRecDepth 100000 in
theorem bX3_becomes_0 (d : Nat) (i0 : Nat) (a1 : Int32) (a2 : Int32) (M : MM) (w : Int64) (fm : Bool) (l : List (Nat × Nat × Nat)) (t u : Nat) : nR X (callN X d) hX3_becomes 0 [vR 18 i0, vI a1, vI a2, vX] [] (M, w, true, fm, l, t, u) = nR X (callN X d) hX3_becomes 12 [vR 18 i0, vI a1, vI a2, vI (0 : Int32)] [] ((nSt (nSt M 18 i0 0 a1) 18 i0 1 a2), w, true, fm, l, t, u) :=
  (nR_itc X _ _ c_X3_becomes 8 _ _ _ _).trans rfl
set_option maxRecDepth 100000 in
theorem bX3_becomes_12 (d : Nat) (i0 : Nat) (x1 : Int32) (x2 : Int32) (x3 : Int32) (M : MM) (w : Int64) (fm : Bool) (l : List (Nat × Nat × Nat)) (t u : Nat) : nR X (callN X d) hX3_becomes 12 [vR 18 i0, vI x1, vI x2, vI x3] [] (M, w, true, fm, l, t, u) = if (40 : Int32) ≤ x3 then some (none, (M, w, true, fm, l, t, u)) else cond (nIn x3 40) (nR X (callN X d) hX3_becomes 12 [vR 18 i0, vI x1, vI x2, vI (x3 + (1 : Int32))] [] ((nSt M 19 i0 (x3).toNatClampNeg (0 : Int32)), w, true, fm, l, t, u)) none :=
  (nR_itc X _ _ c_X3_becomes 10 _ _ _ _).trans rfl
def c_X3_put : List Nat := []
set_option maxRecDepth 100000 in
theorem bX3_put_0 (d : Nat) (i0 : Nat) (a1 : Int32) (a2 : Int32) (M : MM) (w : Int64) (fm : Bool) (l : List (Nat × Nat × Nat)) (t u : Nat) : nR X (callN X d) hX3_put 0 [vR 18 i0, vI a1, vI a2] [] (M, w, true, fm, l, t, u) = if (M 18 i0 0) = 0 then cond (nIn a1 40) (some (none, ((nSt M 19 i0 (a1).toNatClampNeg (a2).toInt8.toInt32), w, true, fm, l, t, u))) none else if (M 18 i0 0) = (1 : Int32) then cond (nIn a1 40) (some (none, ((nSt M 19 i0 (a1).toNatClampNeg (a2).toInt16.toInt32), w, true, fm, l, t, u))) none else cond (nIn a1 40) (some (none, ((nSt M 19 i0 (a1).toNatClampNeg a2), w, true, fm, l, t, u))) none :=
  (nR_itc X _ _ c_X3_put 15 _ _ _ _).trans rfl
def c_X3_all : List Nat := [12]
set_option maxRecDepth 100000 in
theorem bX3_all_0 (d : Nat) (i0 : Nat) (M : MM) (w : Int64) (fm : Bool) (l : List (Nat × Nat × Nat)) (t u : Nat) : nR X (callN X d) hX3_all 0 [vR 18 i0] [] (M, w, true, fm, l, t, u) = nBnd (callN X d 109 [vR 19 i0, vI (0 : Int32), vI (M 18 i0 1)] (M, w, true, fm, l, t, u)) (fun v s2 => nR X (callN X d) hX3_all 12 [vR 18 i0] (v.toList ++ []) s2) :=
  (nR_itc X _ _ c_X3_all 6 _ _ _ _).trans rfl
set_option maxRecDepth 100000 in
theorem bX3_all_12 (d : Nat) (i0 : Nat) (y0 : Int32) (M : MM) (w : Int64) (fm : Bool) (l : List (Nat × Nat × Nat)) (t u : Nat) : nR X (callN X d) hX3_all 12 [vR 18 i0] [vI y0] (M, w, true, fm, l, t, u) = some (some (vI y0), (M, w, true, fm, l, t, u)) :=
  (nR_itc X _ _ c_X3_all 1 _ _ _ _).trans rfl
def c_X4_becomes : List Nat := []
set_option maxRecDepth 100000 in
theorem bX4_becomes_0 (d : Nat) (i0 : Nat) (M : MM) (w : Int64) (fm : Bool) (l : List (Nat × Nat × Nat)) (t u : Nat) : nR X (callN X d) hX4_becomes 0 [vR 14 i0, vR 11 0, vR 12 0] [] (M, w, true, fm, l, t, u) = some (none, ((nCpy (nCpy M 11 0 ((0 : Int32)).toNatClampNeg 15 i0 ((0 : Int32)).toNatClampNeg ((160 : Int32)).toNatClampNeg) 12 0 ((0 : Int32)).toNatClampNeg 16 i0 ((0 : Int32)).toNatClampNeg ((4 : Int32)).toNatClampNeg), w, true, fm, l, t, u)) :=
  (nR_itc X _ _ c_X4_becomes 15 _ _ _ _).trans rfl
def c_X4_value : List Nat := [11, 75, 83, 142, 158, 178, 179]
set_option maxRecDepth 100000 in
theorem bX4_value_0 (d : Nat) (i0 : Nat) (a1 : Int32) (M : MM) (w : Int64) (fm : Bool) (l : List (Nat × Nat × Nat)) (t u : Nat) : nR X (callN X d) hX4_value 0 [vR 14 i0, vI a1, vR 24 0, vR 25 0, vX, vX, vX] [] (M, w, true, fm, l, t, u) = cond (nIn a1 4) (nR X (callN X d) hX4_value 11 [vR 14 i0, vI a1, vR 24 0, vR 25 0, vI (0 : Int32), vI (M 16 i0 (a1).toNatClampNeg), vX] [] (M, w, true, fm, l, t, u)) none :=
  (nR_itc X _ _ c_X4_value 7 _ _ _ _).trans rfl
set_option maxRecDepth 100000 in
theorem bX4_value_11 (d : Nat) (i0 : Nat) (x1 : Int32) (x4 : Int32) (x5 : Int32) (x6 : AV) (M : MM) (w : Int64) (fm : Bool) (l : List (Nat × Nat × Nat)) (t u : Nat) : nR X (callN X d) hX4_value 11 [vR 14 i0, vI x1, vR 24 0, vR 25 0, vI x4, vI x5, x6] [] (M, w, true, fm, l, t, u) = cond (nIn (x1 + (1 : Int32)) 4) (if (M 16 i0 ((x1 + (1 : Int32))).toNatClampNeg) ≤ x5 then if x4 ≤ 0 then some (some (vI (0 : Int32)), (M, w, true, fm, l, t, u)) else some (some (vI (M 25 0 ((0 : Int32)).toNatClampNeg)), (M, w, true, fm, l, t, u)) else if (160 : Int32) ≤ x5 then if x4 ≤ 0 then some (some (vI (0 : Int32)), (M, w, true, fm, l, t, u)) else some (some (vI (M 25 0 ((0 : Int32)).toNatClampNeg)), (M, w, true, fm, l, t, u)) else cond (nIn x5 160) (if (M 15 i0 (x5).toNatClampNeg) ≤ (-7 : Int32) then nR X (callN X d) hX4_value 83 [vR 14 i0, vI x1, vR 24 0, vR 25 0, vI x4, vI x5, vI (M 15 i0 (x5).toNatClampNeg)] [] (M, w, true, fm, l, t, u) else if (160 : Int32) ≤ x4 then nR X (callN X d) hX4_value 83 [vR 14 i0, vI x1, vR 24 0, vR 25 0, vI x4, vI x5, vI (M 15 i0 (x5).toNatClampNeg)] [] (M, w, true, fm, l, t, u) else if (M 15 i0 (x5).toNatClampNeg) < 0 then nR X (callN X d) hX4_value 75 [vR 14 i0, vI x1, vR 24 0, vR 25 0, vI x4, vI x5, vI (M 15 i0 (x5).toNatClampNeg)] [vI ((-1 : Int32) - (M 15 i0 (x5).toNatClampNeg)), vR 24 0, vI x4, vR 25 0] (M, w, true, fm, l, t, u) else cond (nIn x4 160) (nR X (callN X d) hX4_value 179 [vR 14 i0, vI x1, vR 24 0, vR 25 0, vI (x4 + (1 : Int32)), vI x5, vI (M 15 i0 (x5).toNatClampNeg)] [] ((nSt M 25 0 (x4).toNatClampNeg (M 15 i0 (x5).toNatClampNeg)), w, true, fm, l, t, u)) none) none) none :=
  (nR_itc X _ _ c_X4_value 34 _ _ _ _).trans rfl
set_option maxRecDepth 100000 in
theorem bX4_value_75 (d : Nat) (i0 : Nat) (x1 : Int32) (x4 : Int32) (x5 : Int32) (x6 : Int32) (y0 : Int32) (y2 : Int32) (M : MM) (w : Int64) (fm : Bool) (l : List (Nat × Nat × Nat)) (t u : Nat) : nR X (callN X d) hX4_value 75 [vR 14 i0, vI x1, vR 24 0, vR 25 0, vI x4, vI x5, vI x6] [vI y0, vR 24 0, vI y2, vR 25 0] (M, w, true, fm, l, t, u) = cond (nIn y0 6) (cond (nIn y2 160) (nR X (callN X d) hX4_value 179 [vR 14 i0, vI x1, vR 24 0, vR 25 0, vI (x4 + (1 : Int32)), vI x5, vI x6] [] ((nSt M 25 0 (y2).toNatClampNeg (M 24 0 (y0).toNatClampNeg)), w, true, fm, l, t, u)) none) none :=
  (nR_itc X _ _ c_X4_value 4 _ _ _ _).trans rfl
set_option maxRecDepth 100000 in
theorem bX4_value_83 (d : Nat) (i0 : Nat) (x1 : Int32) (x4 : Int32) (x5 : Int32) (x6 : Int32) (M : MM) (w : Int64) (fm : Bool) (l : List (Nat × Nat × Nat)) (t u : Nat) : nR X (callN X d) hX4_value 83 [vR 14 i0, vI x1, vR 24 0, vR 25 0, vI x4, vI x5, vI x6] [] (M, w, true, fm, l, t, u) = if (-7 : Int32) < x6 then nR X (callN X d) hX4_value 142 [vR 14 i0, vI x1, vR 24 0, vR 25 0, vI x4, vI x5, vI x6] [] (M, w, true, fm, l, t, u) else if x6 < (-8 : Int32) then nR X (callN X d) hX4_value 142 [vR 14 i0, vI x1, vR 24 0, vR 25 0, vI x4, vI x5, vI x6] [] (M, w, true, fm, l, t, u) else if x4 ≤ 0 then nR X (callN X d) hX4_value 142 [vR 14 i0, vI x1, vR 24 0, vR 25 0, vI x4, vI x5, vI x6] [] (M, w, true, fm, l, t, u) else if x6 = (-8 : Int32) then cond (nIn (x4 - (1 : Int32)) 160) (cond (nIn (x4 - (1 : Int32)) 160) (nR X (callN X d) hX4_value 179 [vR 14 i0, vI x1, vR 24 0, vR 25 0, vI x4, vI x5, vI x6] [] ((nSt M 25 0 ((x4 - (1 : Int32))).toNatClampNeg (-(M 25 0 ((x4 - (1 : Int32))).toNatClampNeg))), w, true, fm, l, t, u)) none) none else cond (nIn (x4 - (1 : Int32)) 160) (if (M 25 0 ((x4 - (1 : Int32))).toNatClampNeg) = 0 then cond (nIn (x4 - (1 : Int32)) 160) (nR X (callN X d) hX4_value 179 [vR 14 i0, vI x1, vR 24 0, vR 25 0, vI x4, vI x5, vI x6] [] ((nSt M 25 0 ((x4 - (1 : Int32))).toNatClampNeg (1 : Int32)), w, true, fm, l, t, u)) none else cond (nIn (x4 - (1 : Int32)) 160) (nR X (callN X d) hX4_value 179 [vR 14 i0, vI x1, vR 24 0, vR 25 0, vI x4, vI x5, vI x6] [] ((nSt M 25 0 ((x4 - (1 : Int32))).toNatClampNeg (0 : Int32)), w, true, fm, l, t, u)) none) none :=
  (nR_itc X _ _ c_X4_value 25 _ _ _ _).trans rfl
set_option maxRecDepth 100000 in
theorem bX4_value_142 (d : Nat) (i0 : Nat) (x1 : Int32) (x4 : Int32) (x5 : Int32) (x6 : Int32) (M : MM) (w : Int64) (fm : Bool) (l : List (Nat × Nat × Nat)) (t u : Nat) : nR X (callN X d) hX4_value 142 [vR 14 i0, vI x1, vR 24 0, vR 25 0, vI x4, vI x5, vI x6] [] (M, w, true, fm, l, t, u) = if (-8 : Int32) ≤ x6 then nR X (callN X d) hX4_value 179 [vR 14 i0, vI x1, vR 24 0, vR 25 0, vI x4, vI x5, vI x6] [] (M, w, true, fm, l, t, u) else if x4 ≤ (1 : Int32) then nR X (callN X d) hX4_value 179 [vR 14 i0, vI x1, vR 24 0, vR 25 0, vI x4, vI x5, vI x6] [] (M, w, true, fm, l, t, u) else nR X (callN X d) hX4_value 158 [vR 14 i0, vI x1, vR 24 0, vR 25 0, vI (x4 + (-1 : Int32)), vI x5, vI x6] [] (M, w, true, fm, l, t, u) :=
  (nR_itc X _ _ c_X4_value 7 _ _ _ _).trans rfl
set_option maxRecDepth 100000 in
theorem bX4_value_158 (d : Nat) (i0 : Nat) (x1 : Int32) (x4 : Int32) (x5 : Int32) (x6 : Int32) (M : MM) (w : Int64) (fm : Bool) (l : List (Nat × Nat × Nat)) (t u : Nat) : nR X (callN X d) hX4_value 158 [vR 14 i0, vI x1, vR 24 0, vR 25 0, vI x4, vI x5, vI x6] [] (M, w, true, fm, l, t, u) = cond (nIn (x4 - (1 : Int32)) 160) (cond (nIn x4 160) (nBnd (callN X d 39 [vI x6, vI (M 25 0 ((x4 - (1 : Int32))).toNatClampNeg), vI (M 25 0 (x4).toNatClampNeg)] (M, w, true, fm, l, t, u)) (fun v s2 => nR X (callN X d) hX4_value 178 [vR 14 i0, vI x1, vR 24 0, vR 25 0, vI x4, vI x5, vI x6] (v.toList ++ [vI (x4 - (1 : Int32)), vR 25 0]) s2)) none) none :=
  (nR_itc X _ _ c_X4_value 14 _ _ _ _).trans rfl
set_option maxRecDepth 100000 in
theorem bX4_value_178 (d : Nat) (i0 : Nat) (x1 : Int32) (x4 : Int32) (x5 : Int32) (x6 : Int32) (y0 : Int32) (y1 : Int32) (M : MM) (w : Int64) (fm : Bool) (l : List (Nat × Nat × Nat)) (t u : Nat) : nR X (callN X d) hX4_value 178 [vR 14 i0, vI x1, vR 24 0, vR 25 0, vI x4, vI x5, vI x6] [vI y0, vI y1, vR 25 0] (M, w, true, fm, l, t, u) = cond (nIn y1 160) (nR X (callN X d) hX4_value 179 [vR 14 i0, vI x1, vR 24 0, vR 25 0, vI x4, vI x5, vI x6] [] ((nSt M 25 0 (y1).toNatClampNeg y0), w, true, fm, l, t, u)) none :=
  (nR_itc X _ _ c_X4_value 1 _ _ _ _).trans rfl
set_option maxRecDepth 100000 in
theorem bX4_value_179 (d : Nat) (i0 : Nat) (x1 : Int32) (x4 : Int32) (x5 : Int32) (x6 : Int32) (M : MM) (w : Int64) (fm : Bool) (l : List (Nat × Nat × Nat)) (t u : Nat) : nR X (callN X d) hX4_value 179 [vR 14 i0, vI x1, vR 24 0, vR 25 0, vI x4, vI x5, vI x6] [] (M, w, true, fm, l, t, u) = nR X (callN X d) hX4_value 11 [vR 14 i0, vI x1, vR 24 0, vR 25 0, vI x4, vI (x5 + (1 : Int32)), vI x6] [] (M, w, true, fm, l, t, u) :=
  (nR_itc X _ _ c_X4_value 2 _ _ _ _).trans rfl
def c_X4_joined : List Nat := []
set_option maxRecDepth 100000 in
theorem bX4_joined_0 (d : Nat) (a1 : Int32) (a2 : Int32) (a3 : Int32) (M : MM) (w : Int64) (fm : Bool) (l : List (Nat × Nat × Nat)) (t u : Nat) : nR X (callN X d) hX4_joined 0 [vI a1, vI a2, vI a3] [] (M, w, true, fm, l, t, u) = if a1 = (-14 : Int32) then some (some (vI (a2 - a3)), (M, w, true, fm, l, t, u)) else if a1 = (-13 : Int32) then some (some (vI (a2 + a3)), (M, w, true, fm, l, t, u)) else if a1 = (-12 : Int32) then if a2 = a3 then some (some (vI (1 : Int32)), (M, w, true, fm, l, t, u)) else some (some (vI (0 : Int32)), (M, w, true, fm, l, t, u)) else if a1 = (-11 : Int32) then if a3 ≤ a2 then some (some (vI (0 : Int32)), (M, w, true, fm, l, t, u)) else some (some (vI (1 : Int32)), (M, w, true, fm, l, t, u)) else if a1 = (-10 : Int32) then if a2 = 0 then some (some (vI (0 : Int32)), (M, w, true, fm, l, t, u)) else if a3 = 0 then some (some (vI (0 : Int32)), (M, w, true, fm, l, t, u)) else some (some (vI (1 : Int32)), (M, w, true, fm, l, t, u)) else if a1 = (-9 : Int32) then if a2 = 0 then if a3 = 0 then some (some (vI (0 : Int32)), (M, w, true, fm, l, t, u)) else some (some (vI (1 : Int32)), (M, w, true, fm, l, t, u)) else some (some (vI (1 : Int32)), (M, w, true, fm, l, t, u)) else some (some (vI (a2 * a3)), (M, w, true, fm, l, t, u)) :=
  (nR_itc X _ _ c_X4_joined 9 _ _ _ _).trans rfl
def c_X5_has : List Nat := []
set_option maxRecDepth 100000 in
theorem bX5_has_0 (d : Nat) (i0 : Nat) (a1 : Int32) (M : MM) (w : Int64) (fm : Bool) (l : List (Nat × Nat × Nat)) (t u : Nat) : nR X (callN X d) hX5_has 0 [vR 3 i0, vI a1] [] (M, w, true, fm, l, t, u) = if a1 < 0 then some (some (vI (0 : Int32)), (M, w, true, fm, l, t, u)) else if (M 3 i0 2) ≤ a1 then some (some (vI (0 : Int32)), (M, w, true, fm, l, t, u)) else some (some (vI (1 : Int32)), (M, w, true, fm, l, t, u)) :=
  (nR_itc X _ _ c_X5_has 9 _ _ _ _).trans rfl
def c_X5_comes : List Nat := []
set_option maxRecDepth 100000 in
theorem bX5_comes_0 (d : Nat) (i0 : Nat) (a1 : Int32) (a2 : Int32) (M : MM) (w : Int64) (fm : Bool) (l : List (Nat × Nat × Nat)) (t u : Nat) : nR X (callN X d) hX5_comes 0 [vR 3 i0, vI a1, vI a2, vX] [] (M, w, true, fm, l, t, u) = if (M 3 i0 2) < (5 : Int32) then cond (nIn (M 3 i0 2) 5) (cond (nIn (M 3 i0 2) 5) (some (some (vI (M 3 i0 2)), ((nSt (nSt (nSt M 6 i0 ((M 3 i0 2)).toNatClampNeg a1) 7 i0 ((M 3 i0 2)).toNatClampNeg a2) 3 i0 2 (((nSt (nSt M 6 i0 ((M 3 i0 2)).toNatClampNeg a1) 7 i0 ((M 3 i0 2)).toNatClampNeg a2) 3 i0 2) + (1 : Int32))), w, true, fm, l, t, u))) none) none else some (some (vI (-4 : Int32)), (M, w, true, fm, l, t, u)) :=
  (nR_itc X _ _ c_X5_comes 25 _ _ _ _).trans rfl
def c_X5_becomes : List Nat := []
set_option maxRecDepth 100000 in
theorem bX5_becomes_0 (d : Nat) (i0 : Nat) (i1 : Nat) (M : MM) (w : Int64) (fm : Bool) (l : List (Nat × Nat × Nat)) (t u : Nat) : nR X (callN X d) hX5_becomes 0 [vR 3 i0, vR 3 i1] [] (M, w, true, fm, l, t, u) = some (none, ((nCpy (nCpy (nCpy (nCpy (nCpy (nSt (nSt (nSt M 3 i0 0 (M 3 i1 0)) 3 i0 1 ((nSt M 3 i0 0 (M 3 i1 0)) 3 i1 1)) 3 i0 2 ((nSt (nSt M 3 i0 0 (M 3 i1 0)) 3 i0 1 ((nSt M 3 i0 0 (M 3 i1 0)) 3 i1 1)) 3 i1 2)) 4 i1 ((0 : Int32)).toNatClampNeg 4 i0 ((0 : Int32)).toNatClampNeg ((36 : Int32)).toNatClampNeg) 5 i1 ((0 : Int32)).toNatClampNeg 5 i0 ((0 : Int32)).toNatClampNeg ((30 : Int32)).toNatClampNeg) 6 i1 ((0 : Int32)).toNatClampNeg 6 i0 ((0 : Int32)).toNatClampNeg ((5 : Int32)).toNatClampNeg) 7 i1 ((0 : Int32)).toNatClampNeg 7 i0 ((0 : Int32)).toNatClampNeg ((5 : Int32)).toNatClampNeg) 8 i1 ((0 : Int32)).toNatClampNeg 8 i0 ((0 : Int32)).toNatClampNeg ((5 : Int32)).toNatClampNeg), w, true, fm, l, t, u)) :=
  (nR_itc X _ _ c_X5_becomes 63 _ _ _ _).trans rfl
def c_X5_allOnCoast : List Nat := [13]
set_option maxRecDepth 100000 in
theorem bX5_allOnCoast_0 (d : Nat) (i0 : Nat) (a1 : Int32) (M : MM) (w : Int64) (fm : Bool) (l : List (Nat × Nat × Nat)) (t u : Nat) : nR X (callN X d) hX5_allOnCoast 0 [vR 3 i0, vI a1] [] (M, w, true, fm, l, t, u) = nBnd (callN X d 109 [vR 4 i0, vI (a1 * (6 : Int32)), vI (6 : Int32)] (M, w, true, fm, l, t, u)) (fun v s2 => nR X (callN X d) hX5_allOnCoast 13 [vR 3 i0, vI a1] (v.toList ++ []) s2) :=
  (nR_itc X _ _ c_X5_allOnCoast 7 _ _ _ _).trans rfl
set_option maxRecDepth 100000 in
theorem bX5_allOnCoast_13 (d : Nat) (i0 : Nat) (x1 : Int32) (y0 : Int32) (M : MM) (w : Int64) (fm : Bool) (l : List (Nat × Nat × Nat)) (t u : Nat) : nR X (callN X d) hX5_allOnCoast 13 [vR 3 i0, vI x1] [vI y0] (M, w, true, fm, l, t, u) = some (some (vI y0), (M, w, true, fm, l, t, u)) :=
  (nR_itc X _ _ c_X5_allOnCoast 1 _ _ _ _).trans rfl
def c_X5_allInShoe : List Nat := [13]
set_option maxRecDepth 100000 in
theorem bX5_allInShoe_0 (d : Nat) (i0 : Nat) (a1 : Int32) (M : MM) (w : Int64) (fm : Bool) (l : List (Nat × Nat × Nat)) (t u : Nat) : nR X (callN X d) hX5_allInShoe 0 [vR 3 i0, vI a1] [] (M, w, true, fm, l, t, u) = nBnd (callN X d 109 [vR 5 i0, vI (a1 * (6 : Int32)), vI (6 : Int32)] (M, w, true, fm, l, t, u)) (fun v s2 => nR X (callN X d) hX5_allInShoe 13 [vR 3 i0, vI a1] (v.toList ++ []) s2) :=
  (nR_itc X _ _ c_X5_allInShoe 7 _ _ _ _).trans rfl
set_option maxRecDepth 100000 in
theorem bX5_allInShoe_13 (d : Nat) (i0 : Nat) (x1 : Int32) (y0 : Int32) (M : MM) (w : Int64) (fm : Bool) (l : List (Nat × Nat × Nat)) (t u : Nat) : nR X (callN X d) hX5_allInShoe 13 [vR 3 i0, vI x1] [vI y0] (M, w, true, fm, l, t, u) = some (some (vI y0), (M, w, true, fm, l, t, u)) :=
  (nR_itc X _ _ c_X5_allInShoe 1 _ _ _ _).trans rfl
def c_X5_allInShoes : List Nat := [15]
set_option maxRecDepth 100000 in
theorem bX5_allInShoes_0 (d : Nat) (i0 : Nat) (M : MM) (w : Int64) (fm : Bool) (l : List (Nat × Nat × Nat)) (t u : Nat) : nR X (callN X d) hX5_allInShoes 0 [vR 3 i0] [] (M, w, true, fm, l, t, u) = nBnd (callN X d 109 [vR 5 i0, vI (0 : Int32), vI ((M 3 i0 2) * (6 : Int32))] (M, w, true, fm, l, t, u)) (fun v s2 => nR X (callN X d) hX5_allInShoes 15 [vR 3 i0] (v.toList ++ []) s2) :=
  (nR_itc X _ _ c_X5_allInShoes 8 _ _ _ _).trans rfl
set_option maxRecDepth 100000 in
theorem bX5_allInShoes_15 (d : Nat) (i0 : Nat) (y0 : Int32) (M : MM) (w : Int64) (fm : Bool) (l : List (Nat × Nat × Nat)) (t u : Nat) : nR X (callN X d) hX5_allInShoes 15 [vR 3 i0] [vI y0] (M, w, true, fm, l, t, u) = some (some (vI y0), (M, w, true, fm, l, t, u)) :=
  (nR_itc X _ _ c_X5_allInShoes 1 _ _ _ _).trans rfl
def c_X5_apart : List Nat := [5]
set_option maxRecDepth 100000 in
theorem bX5_apart_0 (d : Nat) (i0 : Nat) (a1 : Int32) (a2 : Int32) (M : MM) (w : Int64) (fm : Bool) (l : List (Nat × Nat × Nat)) (t u : Nat) : nR X (callN X d) hX5_apart 0 [vR 3 i0, vI a1, vI a2, vX, vX] [] (M, w, true, fm, l, t, u) = nR X (callN X d) hX5_apart 5 [vR 3 i0, vI a1, vI a2, vI (0 : Int32), vI (0 : Int32)] [] (M, w, true, fm, l, t, u) :=
  (nR_itc X _ _ c_X5_apart 4 _ _ _ _).trans rfl
set_option maxRecDepth 100000 in
theorem bX5_apart_5 (d : Nat) (i0 : Nat) (x1 : Int32) (x2 : Int32) (x3 : Int32) (x4 : Int32) (M : MM) (w : Int64) (fm : Bool) (l : List (Nat × Nat × Nat)) (t u : Nat) : nR X (callN X d) hX5_apart 5 [vR 3 i0, vI x1, vI x2, vI x3, vI x4] [] (M, w, true, fm, l, t, u) = if (6 : Int32) ≤ x4 then some (some (vI x3), (M, w, true, fm, l, t, u)) else cond (nIn ((x1 * (6 : Int32)) + x4) 30) (cond (nIn ((x2 * (6 : Int32)) + x4) 30) (nR X (callN X d) hX5_apart 5 [vR 3 i0, vI x1, vI x2, vI (x3 + (if 0 ≤ ((M 5 i0 (((x1 * (6 : Int32)) + x4)).toNatClampNeg) - (M 5 i0 (((x2 * (6 : Int32)) + x4)).toNatClampNeg)) then ((M 5 i0 (((x1 * (6 : Int32)) + x4)).toNatClampNeg) - (M 5 i0 (((x2 * (6 : Int32)) + x4)).toNatClampNeg)) else 0 - ((M 5 i0 (((x1 * (6 : Int32)) + x4)).toNatClampNeg) - (M 5 i0 (((x2 * (6 : Int32)) + x4)).toNatClampNeg)))), vI (x4 + (1 : Int32))] [] (M, w, true, fm, l, t, u)) none) none :=
  (nR_itc X _ _ c_X5_apart 26 _ _ _ _).trans rfl
def c_X5_oddest : List Nat := [7, 29, 43]
set_option maxRecDepth 100000 in
theorem bX5_oddest_0 (d : Nat) (i0 : Nat) (a1 : Int32) (M : MM) (w : Int64) (fm : Bool) (l : List (Nat × Nat × Nat)) (t u : Nat) : nR X (callN X d) hX5_oddest 0 [vR 3 i0, vI a1, vX, vX, vX] [] (M, w, true, fm, l, t, u) = nR X (callN X d) hX5_oddest 7 [vR 3 i0, vI a1, vI (-1 : Int32), vI (-1 : Int32), vI (0 : Int32)] [] (M, w, true, fm, l, t, u) :=
  (nR_itc X _ _ c_X5_oddest 6 _ _ _ _).trans rfl
set_option maxRecDepth 100000 in
theorem bX5_oddest_7 (d : Nat) (i0 : Nat) (x1 : Int32) (x2 : Int32) (x3 : Int32) (x4 : Int32) (M : MM) (w : Int64) (fm : Bool) (l : List (Nat × Nat × Nat)) (t u : Nat) : nR X (callN X d) hX5_oddest 7 [vR 3 i0, vI x1, vI x2, vI x3, vI x4] [] (M, w, true, fm, l, t, u) = if (M 3 i0 2) ≤ x4 then some (some (vI x2), (M, w, true, fm, l, t, u)) else if x4 = x1 then nR X (callN X d) hX5_oddest 7 [vR 3 i0, vI x1, vI x2, vI x3, vI (x4 + (1 : Int32))] [] (M, w, true, fm, l, t, u) else nBnd (callN X d 47 [vR 3 i0, vI x1, vI x4] (M, w, true, fm, l, t, u)) (fun v s2 => nR X (callN X d) hX5_oddest 29 [vR 3 i0, vI x1, vI x2, vI x3, vI x4] (v.toList ++ []) s2) :=
  (nR_itc X _ _ c_X5_oddest 11 _ _ _ _).trans rfl
set_option maxRecDepth 100000 in
theorem bX5_oddest_29 (d : Nat) (i0 : Nat) (x1 : Int32) (x2 : Int32) (x3 : Int32) (x4 : Int32) (y0 : Int32) (M : MM) (w : Int64) (fm : Bool) (l : List (Nat × Nat × Nat)) (t u : Nat) : nR X (callN X d) hX5_oddest 29 [vR 3 i0, vI x1, vI x2, vI x3, vI x4] [vI y0] (M, w, true, fm, l, t, u) = if y0 ≤ x3 then nR X (callN X d) hX5_oddest 7 [vR 3 i0, vI x1, vI x2, vI x3, vI (x4 + (1 : Int32))] [] (M, w, true, fm, l, t, u) else nBnd (callN X d 47 [vR 3 i0, vI x1, vI x4] (M, w, true, fm, l, t, u)) (fun v s2 => nR X (callN X d) hX5_oddest 43 [vR 3 i0, vI x1, vI x4, vI x3, vI x4] (v.toList ++ []) s2) :=
  (nR_itc X _ _ c_X5_oddest 8 _ _ _ _).trans rfl
set_option maxRecDepth 100000 in
theorem bX5_oddest_43 (d : Nat) (i0 : Nat) (x1 : Int32) (x2 : Int32) (x3 : Int32) (x4 : Int32) (y0 : Int32) (M : MM) (w : Int64) (fm : Bool) (l : List (Nat × Nat × Nat)) (t u : Nat) : nR X (callN X d) hX5_oddest 43 [vR 3 i0, vI x1, vI x2, vI x3, vI x4] [vI y0] (M, w, true, fm, l, t, u) = nR X (callN X d) hX5_oddest 7 [vR 3 i0, vI x1, vI x2, vI y0, vI (x4 + (1 : Int32))] [] (M, w, true, fm, l, t, u) :=
  (nR_itc X _ _ c_X5_oddest 3 _ _ _ _).trans rfl
def c_X5_poorest : List Nat := [4, 15, 20]
set_option maxRecDepth 100000 in
theorem bX5_poorest_0 (d : Nat) (i0 : Nat) (M : MM) (w : Int64) (fm : Bool) (l : List (Nat × Nat × Nat)) (t u : Nat) : nR X (callN X d) hX5_poorest 0 [vR 3 i0, vX, vX] [] (M, w, true, fm, l, t, u) = nR X (callN X d) hX5_poorest 4 [vR 3 i0, vI (0 : Int32), vI (1 : Int32)] [] (M, w, true, fm, l, t, u) :=
  (nR_itc X _ _ c_X5_poorest 4 _ _ _ _).trans rfl
set_option maxRecDepth 100000 in
theorem bX5_poorest_4 (d : Nat) (i0 : Nat) (x1 : Int32) (x2 : Int32) (M : MM) (w : Int64) (fm : Bool) (l : List (Nat × Nat × Nat)) (t u : Nat) : nR X (callN X d) hX5_poorest 4 [vR 3 i0, vI x1, vI x2] [] (M, w, true, fm, l, t, u) = if (6 : Int32) ≤ x2 then some (some (vI x1), (M, w, true, fm, l, t, u)) else nBnd (callN X d 44 [vR 3 i0, vI x2] (M, w, true, fm, l, t, u)) (fun v s2 => nR X (callN X d) hX5_poorest 15 [vR 3 i0, vI x1, vI x2] (v.toList ++ []) s2) :=
  (nR_itc X _ _ c_X5_poorest 6 _ _ _ _).trans rfl
set_option maxRecDepth 100000 in
theorem bX5_poorest_15 (d : Nat) (i0 : Nat) (x1 : Int32) (x2 : Int32) (y0 : Int32) (M : MM) (w : Int64) (fm : Bool) (l : List (Nat × Nat × Nat)) (t u : Nat) : nR X (callN X d) hX5_poorest 15 [vR 3 i0, vI x1, vI x2] [vI y0] (M, w, true, fm, l, t, u) = nBnd (callN X d 44 [vR 3 i0, vI x1] (M, w, true, fm, l, t, u)) (fun v s2 => nR X (callN X d) hX5_poorest 20 [vR 3 i0, vI x1, vI x2] (v.toList ++ [vI y0]) s2) :=
  (nR_itc X _ _ c_X5_poorest 3 _ _ _ _).trans rfl
set_option maxRecDepth 100000 in
theorem bX5_poorest_20 (d : Nat) (i0 : Nat) (x1 : Int32) (x2 : Int32) (y0 : Int32) (y1 : Int32) (M : MM) (w : Int64) (fm : Bool) (l : List (Nat × Nat × Nat)) (t u : Nat) : nR X (callN X d) hX5_poorest 20 [vR 3 i0, vI x1, vI x2] [vI y0, vI y1] (M, w, true, fm, l, t, u) = if y0 ≤ y1 then nR X (callN X d) hX5_poorest 4 [vR 3 i0, vI x1, vI (x2 + (1 : Int32))] [] (M, w, true, fm, l, t, u) else nR X (callN X d) hX5_poorest 4 [vR 3 i0, vI x2, vI (x2 + (1 : Int32))] [] (M, w, true, fm, l, t, u) :=
  (nR_itc X _ _ c_X5_poorest 5 _ _ _ _).trans rfl
end
