/-! the world as numbers: people, day, rule, coasts, shoes, kinds, numbers, days out -/
abbrev GW : Type := Nat × Nat × Nat × (Nat → Nat) × (Nat → Nat) × (Nat → Nat) × (Nat → Nat) × (Nat → Nat)
abbrev gP (g : GW) : Nat := g.1
abbrev gD (g : GW) : Nat := g.2.1
abbrev gR (g : GW) : Nat := g.2.2.1
abbrev gCo (g : GW) : Nat → Nat := g.2.2.2.1
abbrev gSh (g : GW) : Nat → Nat := g.2.2.2.2.1
abbrev gKd (g : GW) : Nat → Nat := g.2.2.2.2.2.1
abbrev gNu (g : GW) : Nat → Nat := g.2.2.2.2.2.2.1
abbrev gOu (g : GW) : Nat → Nat := g.2.2.2.2.2.2.2
def WC (M : MM) (a : Nat) (g : GW) : Prop := M 3 a 0 = nI (gD g) ∧ M 3 a 1 = nI (gR g) ∧ M 3 a 2 = nI (gP g) ∧ (∀ j, j < 36 → M 4 a j = nI (gCo g j)) ∧ (∀ j, j < 30 → M 5 a j = nI (gSh g j)) ∧ (∀ j, j < 5 → M 6 a j = nI (gKd g j)) ∧ (∀ j, j < 5 → M 7 a j = nI (gNu g j)) ∧ ∀ j, j < 5 → M 8 a j = nI (gOu g j)
def WM (M : MM) (g : GW) : Prop := M 30 0 7 = nI (gD g) ∧ M 30 0 4 = nI (gR g) ∧ M 30 0 12 = nI (gP g) ∧ (∀ j, j < 36 → M 34 0 j = nI (gCo g j)) ∧ (∀ j, j < 30 → M 37 0 j = nI (gSh g j)) ∧ (∀ j, j < gP g → M 35 0 j = nI (gKd g j)) ∧ ∀ j, j < 5 → M 36 0 (2 * j) = nI (gNu g j) ∧ M 36 0 (2 * j + 1) = nI (gOu g j)
/-- behind the people all shoes are empty, nobody is out -/
def ZG (g : GW) : Prop := (∀ j, gP g * 6 ≤ j → gSh g j = 0) ∧ ∀ j, gP g ≤ j → gOu g j = 0
def WB (g : GW) : Prop := (gP g ≤ 5 ∧ ZG g) ∧ gD g ≤ 999 ∧ (∀ j, gCo g j ≤ 99) ∧ (∀ j, gSh g j ≤ 9999) ∧ (∀ j, gKd g j ≤ 5) ∧ (∀ j, gNu g j ≤ 9) ∧ ∀ j, gOu g j ≤ 9999
theorem WC.fr {M M' : MM} {a : Nat} {g : GW} (h : WC M a g) (hf : ∀ k i j, 3 ≤ k → k ≤ 8 → M' k i j = M k i j) : WC M' a g :=
  ⟨(hf 3 a 0 (by omega) (by omega)).trans h.1, (hf 3 a 1 (by omega) (by omega)).trans h.2.1, (hf 3 a 2 (by omega) (by omega)).trans h.2.2.1, fun j hj => (hf 4 a j (by omega) (by omega)).trans (h.2.2.2.1 j hj), fun j hj => (hf 5 a j (by omega) (by omega)).trans (h.2.2.2.2.1 j hj), fun j hj => (hf 6 a j (by omega) (by omega)).trans (h.2.2.2.2.2.1 j hj), fun j hj => (hf 7 a j (by omega) (by omega)).trans (h.2.2.2.2.2.2.1 j hj), fun j hj => (hf 8 a j (by omega) (by omega)).trans (h.2.2.2.2.2.2.2 j hj)⟩
theorem WM.fr {M M' : MM} {g : GW} (h : WM M g) (hf : ∀ k i j, (k = 30 ∧ (j = 4 ∨ j = 7 ∨ j = 12)) ∨ (34 ≤ k ∧ k ≤ 37) → M' k i j = M k i j) : WM M' g :=
  ⟨(hf 30 0 7 (by omega)).trans h.1, (hf 30 0 4 (by omega)).trans h.2.1, (hf 30 0 12 (by omega)).trans h.2.2.1, fun j hj => (hf 34 0 j (by omega)).trans (h.2.2.2.1 j hj), fun j hj => (hf 37 0 j (by omega)).trans (h.2.2.2.2.1 j hj), fun j hj => (hf 35 0 j (by omega)).trans (h.2.2.2.2.2.1 j hj), fun j hj => ⟨(hf 36 0 _ (by omega)).trans (h.2.2.2.2.2.2 j hj).1, (hf 36 0 _ (by omega)).trans (h.2.2.2.2.2.2 j hj).2⟩⟩
/-! sums -/
def sumI (f : Nat → Int32) : Nat → Int32
  | 0 => 0
  | n + 1 => sumI f n + f n
def sumN (f : Nat → Nat) : Nat → Nat
  | 0 => 0
  | n + 1 => sumN f n + f n
theorem sumI_nI {f : Nat → Int32} {h : Nat → Nat} : ∀ n, (∀ j, j < n → f j = nI (h j)) → sumI f n = nI (sumN h n)
  | 0, _ => rfl
  | n + 1, hj => by
    show sumI f n + f n = nI (sumN h n + h n)
    rw [sumI_nI n (fun j q => hj j (by omega)), hj n (by omega), nI_add]
theorem sumN_le {h : Nat → Nat} {m : Nat} : ∀ n, (∀ j, j < n → h j ≤ m) → sumN h n ≤ n * m
  | 0, _ => by show 0 ≤ _; omega
  | n + 1, hj => by
    have := sumN_le n (fun j q => hj j (by omega))
    have := hj n (by omega)
    show sumN h n + h n ≤ (n + 1) * m
    rw [Nat.succ_mul]
    omega
theorem sumN_congr {f h : Nat → Nat} : ∀ n, (∀ j, j < n → f j = h j) → sumN f n = sumN h n
  | 0, _ => rfl
  | n + 1, hj => by
    show sumN f n + f n = sumN h n + h n
    rw [sumN_congr n (fun j q => hj j (by omega)), hj n (by omega)]
section
variable (X : Nat × (Nat → Int32))
theorem sX6_sum4 (d : Nat) (i1 : Nat) {M : MM} (w : Int64) (fm : Bool) (l : List (Nat × Nat × Nat)) (t u : Nat) {f n : Nat} (h : f + n ≤ 36) : callN X (d + 1) 109 [vR 4 i1, vI (nI f), vI (nI n)] (M, w, true, fm, l, t, u) = some (some (vI (sumI (fun j => M 4 i1 (f + j)) n)), (M, w, true, fm, l, t, u)) := by
  have loop : ∀ m i, i + m = n → nR X (callN X d) hX6_sum 5 [vR 4 i1, vI (nI f), vI (nI n), vI (sumI (fun j => M 4 i1 (f + j)) i), vI (nI i)] [] (M, w, true, fm, l, t, u) = some (some (vI (sumI (fun j => M 4 i1 (f + j)) n)), (M, w, true, fm, l, t, u)) := by
    intro m
    induction m with
    | zero =>
      intro i hi
      rw [bX6_sum4_5, if_pos (nI_le (by omega) (by omega)), show i = n by omega]
    | succ m ih =>
      intro i hi
      rw [bX6_sum4_5, if_neg (nI_ge (by omega) (by omega)), nI_add, in_nI (by omega) (by omega), cond_true, nI_clamp (by omega), show nI i + (1 : Int32) = nI (i + 1) from nI_add i 1]
      exact ih (i + 1) (by omega)
  rw [aX6_sum4]
  exact loop n 0 (Nat.zero_add n)
theorem sX6_sum5 (d : Nat) (i1 : Nat) {M : MM} (w : Int64) (fm : Bool) (l : List (Nat × Nat × Nat)) (t u : Nat) {f n : Nat} (h : f + n ≤ 30) : callN X (d + 1) 109 [vR 5 i1, vI (nI f), vI (nI n)] (M, w, true, fm, l, t, u) = some (some (vI (sumI (fun j => M 5 i1 (f + j)) n)), (M, w, true, fm, l, t, u)) := by
  have loop : ∀ m i, i + m = n → nR X (callN X d) hX6_sum 5 [vR 5 i1, vI (nI f), vI (nI n), vI (sumI (fun j => M 5 i1 (f + j)) i), vI (nI i)] [] (M, w, true, fm, l, t, u) = some (some (vI (sumI (fun j => M 5 i1 (f + j)) n)), (M, w, true, fm, l, t, u)) := by
    intro m
    induction m with
    | zero =>
      intro i hi
      rw [bX6_sum5_5, if_pos (nI_le (by omega) (by omega)), show i = n by omega]
    | succ m ih =>
      intro i hi
      rw [bX6_sum5_5, if_neg (nI_ge (by omega) (by omega)), nI_add, in_nI (by omega) (by omega), cond_true, nI_clamp (by omega), show nI i + (1 : Int32) = nI (i + 1) from nI_add i 1]
      exact ih (i + 1) (by omega)
  rw [aX6_sum5]
  exact loop n 0 (Nat.zero_add n)
theorem sX6_sum19 (d : Nat) (i1 : Nat) {M : MM} (w : Int64) (fm : Bool) (l : List (Nat × Nat × Nat)) (t u : Nat) {f n : Nat} (h : f + n ≤ 40) : callN X (d + 1) 109 [vR 19 i1, vI (nI f), vI (nI n)] (M, w, true, fm, l, t, u) = some (some (vI (sumI (fun j => M 19 i1 (f + j)) n)), (M, w, true, fm, l, t, u)) := by
  have loop : ∀ m i, i + m = n → nR X (callN X d) hX6_sum 5 [vR 19 i1, vI (nI f), vI (nI n), vI (sumI (fun j => M 19 i1 (f + j)) i), vI (nI i)] [] (M, w, true, fm, l, t, u) = some (some (vI (sumI (fun j => M 19 i1 (f + j)) n)), (M, w, true, fm, l, t, u)) := by
    intro m
    induction m with
    | zero =>
      intro i hi
      rw [bX6_sum19_5, if_pos (nI_le (by omega) (by omega)), show i = n by omega]
    | succ m ih =>
      intro i hi
      rw [bX6_sum19_5, if_neg (nI_ge (by omega) (by omega)), nI_add, in_nI (by omega) (by omega), cond_true, nI_clamp (by omega), show nI i + (1 : Int32) = nI (i + 1) from nI_add i 1]
      exact ih (i + 1) (by omega)
  rw [aX6_sum19]
  exact loop n 0 (Nat.zero_add n)
theorem sX6_sum27 (d : Nat) (i1 : Nat) {M : MM} (w : Int64) (fm : Bool) (l : List (Nat × Nat × Nat)) (t u : Nat) {f n : Nat} (h : f + n ≤ 6) : callN X (d + 1) 109 [vR 27 i1, vI (nI f), vI (nI n)] (M, w, true, fm, l, t, u) = some (some (vI (sumI (fun j => M 27 i1 (f + j)) n)), (M, w, true, fm, l, t, u)) := by
  have loop : ∀ m i, i + m = n → nR X (callN X d) hX6_sum 5 [vR 27 i1, vI (nI f), vI (nI n), vI (sumI (fun j => M 27 i1 (f + j)) i), vI (nI i)] [] (M, w, true, fm, l, t, u) = some (some (vI (sumI (fun j => M 27 i1 (f + j)) n)), (M, w, true, fm, l, t, u)) := by
    intro m
    induction m with
    | zero =>
      intro i hi
      rw [bX6_sum27_5, if_pos (nI_le (by omega) (by omega)), show i = n by omega]
    | succ m ih =>
      intro i hi
      rw [bX6_sum27_5, if_neg (nI_ge (by omega) (by omega)), nI_add, in_nI (by omega) (by omega), cond_true, nI_clamp (by omega), show nI i + (1 : Int32) = nI (i + 1) from nI_add i 1]
      exact ih (i + 1) (by omega)
  rw [aX6_sum27]
  exact loop n 0 (Nat.zero_add n)
theorem sX5_allInShoe (d : Nat) (a : Nat) {M : MM} (w : Int64) (fm : Bool) (l : List (Nat × Nat × Nat)) (t u : Nat) {g : GW} {o : Nat} (h : WC M a g) (ho : o < 5) : callN X (d + 2) 45 [vR 3 a, vI (nI o)] (M, w, true, fm, l, t, u) = some (some (vI (nI (sumN (fun j => gSh g (o * 6 + j)) 6))), (M, w, true, fm, l, t, u)) := by
  show callN X (d + 1 + 1) 45 _ _ = _
  rw [aX5_allInShoe, li6, pk_mul, sX6_sum5 X d a w fm l t u (by omega), bnd_s, tl_s, bX5_allInShoe_13, sumI_nI 6 (h := fun j => gSh g (o * 6 + j)) (fun j hj => h.2.2.2.2.1 _ (by omega))]
theorem sX5_allOnCoast (d : Nat) (a : Nat) {M : MM} (w : Int64) (fm : Bool) (l : List (Nat × Nat × Nat)) (t u : Nat) {g : GW} {c : Nat} (h : WC M a g) (hc : c < 6) : callN X (d + 2) 44 [vR 3 a, vI (nI c)] (M, w, true, fm, l, t, u) = some (some (vI (nI (sumN (fun j => gCo g (c * 6 + j)) 6))), (M, w, true, fm, l, t, u)) := by
  show callN X (d + 1 + 1) 44 _ _ = _
  rw [aX5_allOnCoast, li6, pk_mul, sX6_sum4 X d a w fm l t u (by omega), bnd_s, tl_s, bX5_allOnCoast_13, sumI_nI 6 (h := fun j => gCo g (c * 6 + j)) (fun j hj => h.2.2.2.1 _ (by omega))]
theorem sX7_shoeOf (d : Nat) {M : MM} (w : Int64) (l : List (Nat × Nat × Nat)) (t u : Nat) {g : GW} {o : Nat} (h : WM M g) (ho : o < 5) : callN X (d + 1) 125 [vR 30 0, vI (nI o)] (M, w, true, true, l, t, u) = some (some (vI (nI (sumN (fun j => gSh g (o * 6 + j)) 6))), (M, w, true, true, l, t, u)) := by
  have loop : ∀ m i, i + m = 6 → nR X (callN X d) hX7_shoeOf 4 [vR 30 0, vI (nI o), vI (nI (sumN (fun j => gSh g (o * 6 + j)) i)), vI (nI i)] [] (M, w, true, true, l, t, u) = some (some (vI (nI (sumN (fun j => gSh g (o * 6 + j)) 6))), (M, w, true, true, l, t, u)) := by
    intro m
    induction m with
    | zero =>
      intro i hi
      rw [bX7_shoeOf_4, show i = 6 by omega, li6, if_pos (nI_le (by omega) (by omega))]
    | succ m ih =>
      intro i hi
      rw [bX7_shoeOf_4, li6, if_neg (nI_ge (by omega) (by omega)), pk_mul, nI_add, in_nI (by omega) (by omega), cond_true, nI_clamp (by omega), h.2.2.2.2.1 _ (by omega), show nI i + (1 : Int32) = nI (i + 1) from nI_add i 1, nI_add, Nat.mul_comm 6 o]
      exact ih (i + 1) (by omega)
  rw [aX7_shoeOf]
  exact loop 6 0 rfl
theorem sX7_coastOf (d : Nat) {M : MM} (w : Int64) (l : List (Nat × Nat × Nat)) (t u : Nat) {g : GW} {o : Nat} (h : WM M g) (ho : o < 6) : callN X (d + 1) 126 [vR 30 0, vI (nI o)] (M, w, true, true, l, t, u) = some (some (vI (nI (sumN (fun j => gCo g (o * 6 + j)) 6))), (M, w, true, true, l, t, u)) := by
  have loop : ∀ m i, i + m = 6 → nR X (callN X d) hX7_coastOf 4 [vR 30 0, vI (nI o), vI (nI (sumN (fun j => gCo g (o * 6 + j)) i)), vI (nI i)] [] (M, w, true, true, l, t, u) = some (some (vI (nI (sumN (fun j => gCo g (o * 6 + j)) 6))), (M, w, true, true, l, t, u)) := by
    intro m
    induction m with
    | zero =>
      intro i hi
      rw [bX7_coastOf_4, show i = 6 by omega, li6, if_pos (nI_le (by omega) (by omega))]
    | succ m ih =>
      intro i hi
      rw [bX7_coastOf_4, li6, if_neg (nI_ge (by omega) (by omega)), pk_mul, nI_add, in_nI (by omega) (by omega), cond_true, nI_clamp (by omega), h.2.2.2.1 _ (by omega), show nI i + (1 : Int32) = nI (i + 1) from nI_add i 1, nI_add, Nat.mul_comm 6 o]
      exact ih (i + 1) (by omega)
  rw [aX7_coastOf]
  exact loop 6 0 rfl
end
