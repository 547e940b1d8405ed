/-! the class, as it is made: its first text; the other, as it is made -/
section
variable (X : Nat × (Nat → Int32))
def c_X6_init : List Nat := [12, 23, 39, 72, 110, 128, 137, 154, 163, 182, 193]
set_option maxRecDepth 100000 in
theorem bX6_init_163 (d : Nat) (x1 : Int32) (M : MM) (w : Int64) (fm : Bool) (l : List (Nat × Nat × Nat)) (t u : Nat) : nR X (callN X d) hX6_init 163 [vR 2 0, vI x1] [] (M, w, true, fm, l, t, u) = if (Int32.ofNat (nSlen 0)) ≤ x1 then nBnd (callN X d 56 [vR 2 0] (M, w, true, fm, l, t, u)) (fun v s2 => nR X (callN X d) hX6_init 193 [vR 2 0, vI x1] (v.toList ++ []) s2) else cond (Nat.blt 0 13 && nIn x1 (nSlen 0)) (nBnd (callN X d 55 [vR 2 0, vI (nSch 0 (x1).toNatClampNeg)] (M, w, true, fm, l, t, u)) (fun v s2 => nR X (callN X d) hX6_init 182 [vR 2 0, vI x1] (v.toList ++ []) s2)) none :=
  (nR_itc X _ _ c_X6_init 9 _ _ _ _).trans rfl
set_option maxRecDepth 100000 in
theorem bX6_init_182 (d : Nat) (x1 : Int32) (y0 : Int32) (M : MM) (w : Int64) (fm : Bool) (l : List (Nat × Nat × Nat)) (t u : Nat) : nR X (callN X d) hX6_init 182 [vR 2 0, vI x1] [vI y0] (M, w, true, fm, l, t, u) = nR X (callN X d) hX6_init 163 [vR 2 0, vI (x1 + (1 : Int32))] [] (M, w, true, fm, l, t, u) :=
  (nR_itc X _ _ c_X6_init 3 _ _ _ _).trans rfl
set_option maxRecDepth 100000 in
theorem bX6_init_193 (d : Nat) (x1 : Int32) (y0 : Int32) (M : MM) (w : Int64) (fm : Bool) (l : List (Nat × Nat × Nat)) (t u : Nat) : nR X (callN X d) hX6_init 193 [vR 2 0, vI x1] [vI y0] (M, w, true, fm, l, t, u) = some (none, (M, w, true, fm, l, t, u)) :=
  (nR_itc X _ _ c_X6_init 2 _ _ _ _).trans rfl
set_option maxRecDepth 100000 in
theorem sl1 (d : Nat) (M : MM) (w : Int64) : nR X (callN X d) hL_law 0 [vR 70 0, vX, vX, vX] [] (M, w, false, false, [], 0, 0) = nBnd (callN X d 50 [vR 2 0] ((nZ M 2 0), w, false, false, [], 1, 12)) (fun v s2 => nR X (callN X d) hL_law 7 [vR 70 0, vX, vX, vX] (v.toList ++ [vR 2 0]) s2) :=
  (nR_itc X _ _ [7, 15, 18, 183, 202, 221, 235, 254, 268, 292, 311, 325, 334, 343, 347, 361, 370, 389, 403, 417, 426, 450, 469, 488, 502, 526, 545, 570, 589, 613, 632, 656, 675, 704, 728, 758, 782, 811, 835, 859, 878, 902, 921, 955, 984, 994, 998, 1007, 1011, 1025, 1034, 1058, 1077, 1101, 1120, 1154, 1183, 1212, 1236, 1255, 1269] 3 _ _ _ _).trans rfl
set_option maxRecDepth 100000 in
theorem sl2 (d : Nat) (M : MM) (w : Int64) : nR X (callN X d) hL_law 7 [vR 70 0, vX, vX, vX] [vR 2 0] (M, w, true, false, [], 53, 1935) = nBnd (callN X d 113 [vR 30 0] ((nZ M 30 0), (0 : Int64), true, false, [], 54, 1984)) (fun v s2 => nR X (callN X d) hL_law 15 [vR 70 0, vR 2 0, vX, vX] (v.toList ++ [vR 30 0]) s2) :=
  (nR_itc X _ _ [7, 15, 18, 183, 202, 221, 235, 254, 268, 292, 311, 325, 334, 343, 347, 361, 370, 389, 403, 417, 426, 450, 469, 488, 502, 526, 545, 570, 589, 613, 632, 656, 675, 704, 728, 758, 782, 811, 835, 859, 878, 902, 921, 955, 984, 994, 998, 1007, 1011, 1025, 1034, 1058, 1077, 1101, 1120, 1154, 1183, 1212, 1236, 1255, 1269] 4 _ _ _ _).trans rfl
set_option maxRecDepth 100000 in
theorem sm1 (d : Nat) (M : MM) (w : Int64) : nR X (callN X d) hX7_init 0 [vR 30 0] [] (M, w, true, false, [], 54, 1984) = nR X (callN X d) hX7_init 13 [vR 30 0] [] ((nZ M 31 0), w, true, false, [(30, 0, 1)], 55, 2944) :=
  (nR_itc X _ _ [13, 21, 30, 38, 45, 53, 61, 69, 77, 85, 93, 101, 109, 117, 129, 136, 143, 152, 173, 195, 217, 239, 261] 6 _ _ _ _).trans rfl
set_option maxRecDepth 100000 in
theorem sm2 (d : Nat) (M : MM) (w : Int64) : nR X (callN X d) hX7_init 13 [vR 30 0] [] (M, w, true, false, [(30, 0, 1)], 55, 2944) = nR X (callN X d) hX7_init 21 [vR 30 0] [] ((nZ M 32 0), w, true, false, [(30, 0, 2), (30, 0, 1)], 56, 2950) :=
  (nR_itc X _ _ [13, 21, 30, 38, 45, 53, 61, 69, 77, 85, 93, 101, 109, 117, 129, 136, 143, 152, 173, 195, 217, 239, 261] 4 _ _ _ _).trans rfl
set_option maxRecDepth 100000 in
theorem sm3 (d : Nat) (M : MM) (w : Int64) : nR X (callN X d) hX7_init 21 [vR 30 0] [] (M, w, true, false, [(30, 0, 2), (30, 0, 1)], 56, 2950) = nR X (callN X d) hX7_init 30 [vR 30 0] [] ((nZ M 33 0), w, true, false, [(30, 0, 5), (30, 0, 2), (30, 0, 1)], 57, 3110) :=
  (nR_itc X _ _ [13, 21, 30, 38, 45, 53, 61, 69, 77, 85, 93, 101, 109, 117, 129, 136, 143, 152, 173, 195, 217, 239, 261] 4 _ _ _ _).trans rfl
set_option maxRecDepth 100000 in
theorem sm4 (d : Nat) (M : MM) (w : Int64) : nR X (callN X d) hX7_init 30 [vR 30 0] [] (M, w, true, false, [(30, 0, 5), (30, 0, 2), (30, 0, 1)], 57, 3110) = nR X (callN X d) hX7_init 38 [vR 30 0] [] ((nZ M 34 0), w, true, false, [(30, 0, 8), (30, 0, 5), (30, 0, 2), (30, 0, 1)], 58, 3146) :=
  (nR_itc X _ _ [13, 21, 30, 38, 45, 53, 61, 69, 77, 85, 93, 101, 109, 117, 129, 136, 143, 152, 173, 195, 217, 239, 261] 4 _ _ _ _).trans rfl
set_option maxRecDepth 100000 in
theorem sm5 (d : Nat) (M : MM) (w : Int64) : nR X (callN X d) hX7_init 38 [vR 30 0] [] (M, w, true, false, [(30, 0, 8), (30, 0, 5), (30, 0, 2), (30, 0, 1)], 58, 3146) = nR X (callN X d) hX7_init 45 [vR 30 0] [] ((nZ M 35 0), w, true, false, [(30, 0, 9), (30, 0, 8), (30, 0, 5), (30, 0, 2), (30, 0, 1)], 59, 3151) :=
  (nR_itc X _ _ [13, 21, 30, 38, 45, 53, 61, 69, 77, 85, 93, 101, 109, 117, 129, 136, 143, 152, 173, 195, 217, 239, 261] 4 _ _ _ _).trans rfl
set_option maxRecDepth 100000 in
theorem sm6 (d : Nat) (M : MM) (w : Int64) : nR X (callN X d) hX7_init 45 [vR 30 0] [] (M, w, true, false, [(30, 0, 9), (30, 0, 8), (30, 0, 5), (30, 0, 2), (30, 0, 1)], 59, 3151) = nR X (callN X d) hX7_init 53 [vR 30 0] [] ((nZ M 36 0), w, true, false, [(30, 0, 10), (30, 0, 9), (30, 0, 8), (30, 0, 5), (30, 0, 2), (30, 0, 1)], 60, 3161) :=
  (nR_itc X _ _ [13, 21, 30, 38, 45, 53, 61, 69, 77, 85, 93, 101, 109, 117, 129, 136, 143, 152, 173, 195, 217, 239, 261] 4 _ _ _ _).trans rfl
set_option maxRecDepth 100000 in
theorem sm7 (d : Nat) (M : MM) (w : Int64) : nR X (callN X d) hX7_init 53 [vR 30 0] [] (M, w, true, false, [(30, 0, 10), (30, 0, 9), (30, 0, 8), (30, 0, 5), (30, 0, 2), (30, 0, 1)], 60, 3161) = nR X (callN X d) hX7_init 61 [vR 30 0] [] ((nZ M 37 0), w, true, false, [(30, 0, 11), (30, 0, 10), (30, 0, 9), (30, 0, 8), (30, 0, 5), (30, 0, 2), (30, 0, 1)], 61, 3191) :=
  (nR_itc X _ _ [13, 21, 30, 38, 45, 53, 61, 69, 77, 85, 93, 101, 109, 117, 129, 136, 143, 152, 173, 195, 217, 239, 261] 4 _ _ _ _).trans rfl
set_option maxRecDepth 100000 in
theorem sm8 (d : Nat) (M : MM) (w : Int64) : nR X (callN X d) hX7_init 61 [vR 30 0] [] (M, w, true, false, [(30, 0, 11), (30, 0, 10), (30, 0, 9), (30, 0, 8), (30, 0, 5), (30, 0, 2), (30, 0, 1)], 61, 3191) = nR X (callN X d) hX7_init 69 [vR 30 0] [] ((nZ M 38 0), w, true, false, [(30, 0, 28), (30, 0, 11), (30, 0, 10), (30, 0, 9), (30, 0, 8), (30, 0, 5), (30, 0, 2), (30, 0, 1)], 62, 3197) :=
  (nR_itc X _ _ [13, 21, 30, 38, 45, 53, 61, 69, 77, 85, 93, 101, 109, 117, 129, 136, 143, 152, 173, 195, 217, 239, 261] 4 _ _ _ _).trans rfl
set_option maxRecDepth 100000 in
theorem sm9 (d : Nat) (M : MM) (w : Int64) : nR X (callN X d) hX7_init 69 [vR 30 0] [] (M, w, true, false, [(30, 0, 28), (30, 0, 11), (30, 0, 10), (30, 0, 9), (30, 0, 8), (30, 0, 5), (30, 0, 2), (30, 0, 1)], 62, 3197) = nR X (callN X d) hX7_init 77 [vR 30 0] [] ((nZ M 39 0), w, true, false, [(30, 0, 29), (30, 0, 28), (30, 0, 11), (30, 0, 10), (30, 0, 9), (30, 0, 8), (30, 0, 5), (30, 0, 2), (30, 0, 1)], 63, 3233) :=
  (nR_itc X _ _ [13, 21, 30, 38, 45, 53, 61, 69, 77, 85, 93, 101, 109, 117, 129, 136, 143, 152, 173, 195, 217, 239, 261] 4 _ _ _ _).trans rfl
set_option maxRecDepth 100000 in
theorem sm10 (d : Nat) (M : MM) (w : Int64) : nR X (callN X d) hX7_init 77 [vR 30 0] [] (M, w, true, false, [(30, 0, 29), (30, 0, 28), (30, 0, 11), (30, 0, 10), (30, 0, 9), (30, 0, 8), (30, 0, 5), (30, 0, 2), (30, 0, 1)], 63, 3233) = nR X (callN X d) hX7_init 85 [vR 30 0] [] ((nZ M 40 0), w, true, false, [(30, 0, 35), (30, 0, 29), (30, 0, 28), (30, 0, 11), (30, 0, 10), (30, 0, 9), (30, 0, 8), (30, 0, 5), (30, 0, 2), (30, 0, 1)], 64, 3239) :=
  (nR_itc X _ _ [13, 21, 30, 38, 45, 53, 61, 69, 77, 85, 93, 101, 109, 117, 129, 136, 143, 152, 173, 195, 217, 239, 261] 4 _ _ _ _).trans rfl
set_option maxRecDepth 100000 in
theorem sm11 (d : Nat) (M : MM) (w : Int64) : nR X (callN X d) hX7_init 85 [vR 30 0] [] (M, w, true, false, [(30, 0, 35), (30, 0, 29), (30, 0, 28), (30, 0, 11), (30, 0, 10), (30, 0, 9), (30, 0, 8), (30, 0, 5), (30, 0, 2), (30, 0, 1)], 64, 3239) = nR X (callN X d) hX7_init 93 [vR 30 0] [] ((nZ M 41 0), w, true, false, [(30, 0, 38), (30, 0, 35), (30, 0, 29), (30, 0, 28), (30, 0, 11), (30, 0, 10), (30, 0, 9), (30, 0, 8), (30, 0, 5), (30, 0, 2), (30, 0, 1)], 65, 3245) :=
  (nR_itc X _ _ [13, 21, 30, 38, 45, 53, 61, 69, 77, 85, 93, 101, 109, 117, 129, 136, 143, 152, 173, 195, 217, 239, 261] 4 _ _ _ _).trans rfl
set_option maxRecDepth 100000 in
theorem sm12 (d : Nat) (M : MM) (w : Int64) : nR X (callN X d) hX7_init 93 [vR 30 0] [] (M, w, true, false, [(30, 0, 38), (30, 0, 35), (30, 0, 29), (30, 0, 28), (30, 0, 11), (30, 0, 10), (30, 0, 9), (30, 0, 8), (30, 0, 5), (30, 0, 2), (30, 0, 1)], 65, 3245) = nR X (callN X d) hX7_init 101 [vR 30 0] [] ((nZ M 42 0), w, true, false, [(30, 0, 39), (30, 0, 38), (30, 0, 35), (30, 0, 29), (30, 0, 28), (30, 0, 11), (30, 0, 10), (30, 0, 9), (30, 0, 8), (30, 0, 5), (30, 0, 2), (30, 0, 1)], 66, 3281) :=
  (nR_itc X _ _ [13, 21, 30, 38, 45, 53, 61, 69, 77, 85, 93, 101, 109, 117, 129, 136, 143, 152, 173, 195, 217, 239, 261] 4 _ _ _ _).trans rfl
set_option maxRecDepth 100000 in
theorem sm13 (d : Nat) (M : MM) (w : Int64) : nR X (callN X d) hX7_init 101 [vR 30 0] [] (M, w, true, false, [(30, 0, 39), (30, 0, 38), (30, 0, 35), (30, 0, 29), (30, 0, 28), (30, 0, 11), (30, 0, 10), (30, 0, 9), (30, 0, 8), (30, 0, 5), (30, 0, 2), (30, 0, 1)], 66, 3281) = nR X (callN X d) hX7_init 109 [vR 30 0] [] ((nZ M 43 0), w, true, false, [(30, 0, 40), (30, 0, 39), (30, 0, 38), (30, 0, 35), (30, 0, 29), (30, 0, 28), (30, 0, 11), (30, 0, 10), (30, 0, 9), (30, 0, 8), (30, 0, 5), (30, 0, 2), (30, 0, 1)], 67, 3291) :=
  (nR_itc X _ _ [13, 21, 30, 38, 45, 53, 61, 69, 77, 85, 93, 101, 109, 117, 129, 136, 143, 152, 173, 195, 217, 239, 261] 4 _ _ _ _).trans rfl
set_option maxRecDepth 100000 in
theorem sm14 (d : Nat) (M : MM) (w : Int64) : nR X (callN X d) hX7_init 109 [vR 30 0] [] (M, w, true, false, [(30, 0, 40), (30, 0, 39), (30, 0, 38), (30, 0, 35), (30, 0, 29), (30, 0, 28), (30, 0, 11), (30, 0, 10), (30, 0, 9), (30, 0, 8), (30, 0, 5), (30, 0, 2), (30, 0, 1)], 67, 3291) = nR X (callN X d) hX7_init 117 [vR 30 0] [] ((nZ M 44 0), w, true, false, [(30, 0, 41), (30, 0, 40), (30, 0, 39), (30, 0, 38), (30, 0, 35), (30, 0, 29), (30, 0, 28), (30, 0, 11), (30, 0, 10), (30, 0, 9), (30, 0, 8), (30, 0, 5), (30, 0, 2), (30, 0, 1)], 68, 3321) :=
  (nR_itc X _ _ [13, 21, 30, 38, 45, 53, 61, 69, 77, 85, 93, 101, 109, 117, 129, 136, 143, 152, 173, 195, 217, 239, 261] 4 _ _ _ _).trans rfl
set_option maxRecDepth 100000 in
theorem sm15 (d : Nat) (M : MM) (w : Int64) : nR X (callN X d) hX7_init 117 [vR 30 0] [] (M, w, true, false, [(30, 0, 41), (30, 0, 40), (30, 0, 39), (30, 0, 38), (30, 0, 35), (30, 0, 29), (30, 0, 28), (30, 0, 11), (30, 0, 10), (30, 0, 9), (30, 0, 8), (30, 0, 5), (30, 0, 2), (30, 0, 1)], 68, 3321) = nR X (callN X d) hX7_init 129 [vR 30 0] [] ((nZ (nSt M 30 0 42 (-1 : Int32)) 45 0), w, true, false, [(30, 0, 45), (30, 0, 41), (30, 0, 40), (30, 0, 39), (30, 0, 38), (30, 0, 35), (30, 0, 29), (30, 0, 28), (30, 0, 11), (30, 0, 10), (30, 0, 9), (30, 0, 8), (30, 0, 5), (30, 0, 2), (30, 0, 1)], 69, 3325) :=
  (nR_itc X _ _ [13, 21, 30, 38, 45, 53, 61, 69, 77, 85, 93, 101, 109, 117, 129, 136, 143, 152, 173, 195, 217, 239, 261] 7 _ _ _ _).trans rfl
set_option maxRecDepth 100000 in
theorem sm16 (d : Nat) (M : MM) (w : Int64) : nR X (callN X d) hX7_init 129 [vR 30 0] [] (M, w, true, false, [(30, 0, 45), (30, 0, 41), (30, 0, 40), (30, 0, 39), (30, 0, 38), (30, 0, 35), (30, 0, 29), (30, 0, 28), (30, 0, 11), (30, 0, 10), (30, 0, 9), (30, 0, 8), (30, 0, 5), (30, 0, 2), (30, 0, 1)], 69, 3325) = nR X (callN X d) hX7_init 136 [vR 30 0] [] ((nZ M 46 0), w, true, false, [(30, 0, 46), (30, 0, 45), (30, 0, 41), (30, 0, 40), (30, 0, 39), (30, 0, 38), (30, 0, 35), (30, 0, 29), (30, 0, 28), (30, 0, 11), (30, 0, 10), (30, 0, 9), (30, 0, 8), (30, 0, 5), (30, 0, 2), (30, 0, 1)], 70, 3329) :=
  (nR_itc X _ _ [13, 21, 30, 38, 45, 53, 61, 69, 77, 85, 93, 101, 109, 117, 129, 136, 143, 152, 173, 195, 217, 239, 261] 4 _ _ _ _).trans rfl
set_option maxRecDepth 100000 in
theorem sm17 (d : Nat) (M : MM) (w : Int64) : nR X (callN X d) hX7_init 136 [vR 30 0] [] (M, w, true, false, [(30, 0, 46), (30, 0, 45), (30, 0, 41), (30, 0, 40), (30, 0, 39), (30, 0, 38), (30, 0, 35), (30, 0, 29), (30, 0, 28), (30, 0, 11), (30, 0, 10), (30, 0, 9), (30, 0, 8), (30, 0, 5), (30, 0, 2), (30, 0, 1)], 70, 3329) = nR X (callN X d) hX7_init 143 [vR 30 0] [] ((nZ M 47 0), w, true, false, [(30, 0, 47), (30, 0, 46), (30, 0, 45), (30, 0, 41), (30, 0, 40), (30, 0, 39), (30, 0, 38), (30, 0, 35), (30, 0, 29), (30, 0, 28), (30, 0, 11), (30, 0, 10), (30, 0, 9), (30, 0, 8), (30, 0, 5), (30, 0, 2), (30, 0, 1)], 71, 3333) :=
  (nR_itc X _ _ [13, 21, 30, 38, 45, 53, 61, 69, 77, 85, 93, 101, 109, 117, 129, 136, 143, 152, 173, 195, 217, 239, 261] 4 _ _ _ _).trans rfl
set_option maxRecDepth 100000 in
theorem sm18 (d : Nat) (M : MM) (w : Int64) : nR X (callN X d) hX7_init 143 [vR 30 0] [] (M, w, true, false, [(30, 0, 47), (30, 0, 46), (30, 0, 45), (30, 0, 41), (30, 0, 40), (30, 0, 39), (30, 0, 38), (30, 0, 35), (30, 0, 29), (30, 0, 28), (30, 0, 11), (30, 0, 10), (30, 0, 9), (30, 0, 8), (30, 0, 5), (30, 0, 2), (30, 0, 1)], 71, 3333) = nR X (callN X d) hX7_init 152 [vR 30 0] [] ((nZ M 48 0), w, true, true, [], 72, 3493) :=
  (nR_itc X _ _ [13, 21, 30, 38, 45, 53, 61, 69, 77, 85, 93, 101, 109, 117, 129, 136, 143, 152, 173, 195, 217, 239, 261] 4 _ _ _ _).trans rfl
set_option maxRecDepth 100000 in
theorem sm19 (d : Nat) (M : MM) (w : Int64) : nR X (callN X d) hX7_init 152 [vR 30 0] [] (M, w, true, true, [], 72, 3493) = nBnd (callN X d 114 [vR 30 0, vI (0 : Int32), vI (116 : Int32), vI (97 : Int32), vI (107 : Int32), vI (101 : Int32), vI (115 : Int32), vI (32 : Int32), vI (103 : Int32), vI (114 : Int32)] (M, w, true, true, [], 72, 3493)) (fun v s2 => nR X (callN X d) hX7_init 173 [vR 30 0] (v.toList ++ []) s2) :=
  (nR_itc X _ _ [13, 21, 30, 38, 45, 53, 61, 69, 77, 85, 93, 101, 109, 117, 129, 136, 143, 152, 173, 195, 217, 239, 261] 11 _ _ _ _).trans rfl
set_option maxRecDepth 100000 in
theorem sm20 (d : Nat) (M : MM) (w : Int64) : nR X (callN X d) hX7_init 173 [vR 30 0] [] (M, w, true, true, [], 72, 3493) = nBnd (callN X d 114 [vR 30 0, vI (8 : Int32), vI (97 : Int32), vI (105 : Int32), vI (110 : Int32), vI (115 : Int32), vI (32 : Int32), vI (59 : Int32), vI (32 : Int32), vI (107 : Int32)] (M, w, true, true, [], 72, 3493)) (fun v s2 => nR X (callN X d) hX7_init 195 [vR 30 0] (v.toList ++ []) s2) :=
  (nR_itc X _ _ [13, 21, 30, 38, 45, 53, 61, 69, 77, 85, 93, 101, 109, 117, 129, 136, 143, 152, 173, 195, 217, 239, 261] 11 _ _ _ _).trans rfl
set_option maxRecDepth 100000 in
theorem sm21 (d : Nat) (M : MM) (w : Int64) : nR X (callN X d) hX7_init 195 [vR 30 0] [] (M, w, true, true, [], 72, 3493) = nBnd (callN X d 114 [vR 30 0, vI (16 : Int32), vI (101 : Int32), vI (101 : Int32), vI (112 : Int32), vI (115 : Int32), vI (32 : Int32), vI (53 : Int32), vI (48 : Int32), vI (32 : Int32)] (M, w, true, true, [], 72, 3493)) (fun v s2 => nR X (callN X d) hX7_init 217 [vR 30 0] (v.toList ++ []) s2) :=
  (nR_itc X _ _ [13, 21, 30, 38, 45, 53, 61, 69, 77, 85, 93, 101, 109, 117, 129, 136, 143, 152, 173, 195, 217, 239, 261] 11 _ _ _ _).trans rfl
set_option maxRecDepth 100000 in
theorem sm22 (d : Nat) (M : MM) (w : Int64) : nR X (callN X d) hX7_init 217 [vR 30 0] [] (M, w, true, true, [], 72, 3493) = nBnd (callN X d 114 [vR 30 0, vI (24 : Int32), vI (59 : Int32), vI (32 : Int32), vI (115 : Int32), vI (117 : Int32), vI (114 : Int32), vI (101 : Int32), vI (32 : Int32), vI (103 : Int32)] (M, w, true, true, [], 72, 3493)) (fun v s2 => nR X (callN X d) hX7_init 239 [vR 30 0] (v.toList ++ []) s2) :=
  (nR_itc X _ _ [13, 21, 30, 38, 45, 53, 61, 69, 77, 85, 93, 101, 109, 117, 129, 136, 143, 152, 173, 195, 217, 239, 261] 11 _ _ _ _).trans rfl
set_option maxRecDepth 100000 in
theorem sm23 (d : Nat) (M : MM) (w : Int64) : nR X (callN X d) hX7_init 239 [vR 30 0] [] (M, w, true, true, [], 72, 3493) = nBnd (callN X d 114 [vR 30 0, vI (32 : Int32), vI (114 : Int32), vI (97 : Int32), vI (105 : Int32), vI (110 : Int32), vI (115 : Int32), vI (32 : Int32), vI (59 : Int32), vI (32 : Int32)] (M, w, true, true, [], 72, 3493)) (fun v s2 => nR X (callN X d) hX7_init 261 [vR 30 0] (v.toList ++ []) s2) :=
  (nR_itc X _ _ [13, 21, 30, 38, 45, 53, 61, 69, 77, 85, 93, 101, 109, 117, 129, 136, 143, 152, 173, 195, 217, 239, 261] 11 _ _ _ _).trans rfl
set_option maxRecDepth 100000 in
theorem sm24 (d : Nat) (M : MM) (w : Int64) : nR X (callN X d) hX7_init 261 [vR 30 0] [] (M, w, true, true, [], 72, 3493) = some (none, ((nSt (nSt M 32 0 ((0 : Int32)).toNatClampNeg (40 : Int32)) 30 0 3 (1 : Int32)), w, true, true, [], 72, 3493)) :=
  (nR_itc X _ _ [13, 21, 30, 38, 45, 53, 61, 69, 77, 85, 93, 101, 109, 117, 129, 136, 143, 152, 173, 195, 217, 239, 261] 9 _ _ _ _).trans rfl
set_option maxRecDepth 100000 in
theorem sl3 (d : Nat) (M : MM) (w : Int64) : nR X (callN X d) hL_law 15 [vR 70 0, vR 2 0, vX, vX] [vR 30 0] (M, w, true, true, [], 72, 3493) = nR X (callN X d) hL_law 18 [vR 70 0, vR 2 0, vR 30 0, vI (0 : Int32)] [] (M, w, true, true, [], 72, 3493) :=
  (nR_itc X _ _ [7, 15, 18, 183, 202, 221, 235, 254, 268, 292, 311, 325, 334, 343, 347, 361, 370, 389, 403, 417, 426, 450, 469, 488, 502, 526, 545, 570, 589, 613, 632, 656, 675, 704, 728, 758, 782, 811, 835, 859, 878, 902, 921, 955, 984, 994, 998, 1007, 1011, 1025, 1034, 1058, 1077, 1101, 1120, 1154, 1183, 1212, 1236, 1255, 1269] 3 _ _ _ _).trans rfl
end
