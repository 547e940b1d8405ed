/-! a small machine: values, memory, shapes -/
abbrev AV : Type := Int32 ⊕ (Int64 ⊕ (Nat × Nat))
def vI (x : Int32) : AV := .inl x
def vL (x : Int64) : AV := .inr (.inl x)
def vR (k i : Nat) : AV := .inr (.inr (k, i))
def vX : AV := vR 0 0
abbrev MM : Type := Nat → Nat → Nat → Int32
abbrev AL : Type := Bool × Bool × List (Nat × Nat × Nat) × Nat × Nat
abbrev Mem : Type := MM × Int64 × AL
abbrev Res : Type := Option AV × Mem
abbrev En : Type := Instr × List Nat × Int32 × Int64 × List (Int32 × Nat)
abbrev Hd : Type := List (Nat × En) × Nat × Bool × Nat
abbrev Cal : Type := Nat → List AV → Mem → Option Res
abbrev Kon : Type := Nat → List AV → List AV → Mem → Option Res
/-- a kind's class (1 .. 7), 0: no object -/
def nKc (k : Nat) : Nat := match k with
  | 2 => 6 | 3 => 5 | 9 => 2 | 14 => 4 | 18 => 3 | 20 => 1 | 30 => 7 | _ => 0
/-- a kind's length, where it is an array -/
def nAl (k : Nat) : Nat := match k with
  | 4 => 36 | 5 => 30 | 6 => 5 | 7 => 5 | 8 => 5 | 10 => 160 | 11 => 160 | 12 => 4 | 13 => 6 | 15 => 160 | 16 => 4 | 17 => 4 | 19 => 40
  | 21 => 6 | 22 => 6 | 23 => 6 | 24 => 6 | 25 => 160 | 26 => 36 | 27 => 6
  | 31 => 960 | 32 => 6 | 33 => 160 | 34 => 36 | 35 => 5 | 36 => 10 | 37 => 30 | 38 => 6 | 39 => 36 | 40 => 6 | 41 => 6 | 42 => 36 | 43 => 10 | 44 => 30 | 45 => 4 | 46 => 4 | 47 => 4 | 48 => 160
  | 60 => 6 | _ => 0
/-- 1: ints, 2: booleans, 3: references; 0: no array -/
def nAk (k : Nat) : Nat := match k with
  | 4 => 1 | 5 => 1 | 6 => 1 | 7 => 1 | 8 => 1 | 10 => 1 | 11 => 1 | 12 => 1 | 13 => 3 | 15 => 1 | 16 => 1 | 17 => 3 | 19 => 1
  | 21 => 1 | 22 => 1 | 23 => 1 | 24 => 1 | 25 => 1 | 26 => 1 | 27 => 1
  | 31 => 1 | 32 => 1 | 33 => 1 | 34 => 1 | 35 => 1 | 36 => 1 | 37 => 1 | 38 => 1 | 39 => 1 | 40 => 1 | 41 => 1 | 42 => 1 | 43 => 1 | 44 => 1 | 45 => 2 | 46 => 1 | 47 => 1 | 48 => 1
  | 60 => 1 | _ => 0
/-- where a reference at place j of a kind leads -/
def nTgM (j : Nat) : Nat := match j with
  | 1 => 31 | 2 => 32 | 5 => 33 | 8 => 34 | 9 => 35 | 10 => 36 | 11 => 37 | 28 => 38 | 29 => 39 | 35 => 40 | 38 => 41 | 39 => 42 | 40 => 43 | 41 => 44 | 45 => 45 | 46 => 46 | 47 => 47 | 48 => 48 | _ => 0
def nTgO (j : Nat) : Nat × Nat := match j with
  | 0 => (3, 0) | 1 => (3, 1) | 3 => (9, 0) | 4 => (13, 0) | 6 => (17, 0) | 7 => (20, 0) | 8 => (24, 0) | 9 => (25, 0) | 10 => (26, 0) | 11 => (27, 0) | _ => (0, 0)
def nTgR (j : Nat) : Nat := match j with
  | 0 => 10 | 2 => 11 | 3 => 12 | _ => 0
def nTg (k i j : Nat) : Nat × Nat := match k with
  | 2 => nTgO j | 3 => (j + 1, i) | 9 => (nTgR j, 0) | 13 => (14, j) | 14 => (15 + j, i) | 17 => (18, j) | 18 => (19, i) | 20 => (16 + j, 0) | 30 => (nTgM j, 0) | _ => (0, 0)
/-- field types: 0 int, 1 boolean, 2 long, 3 reference -/
def nFt (c j : Nat) : Nat := match c with
  | 1 => (match j with | 5 => 3 | 6 => 3 | 7 => 3 | _ => 0)
  | 2 => (match j with | 0 => 3 | 2 => 3 | 3 => 3 | _ => 0)
  | 3 => (match j with | 2 => 3 | _ => 0)
  | 4 => 3
  | 5 => (match j with | 0 => 0 | 1 => 0 | 2 => 0 | _ => 3)
  | 6 => (match j with | 2 => 1 | 5 => 0 | _ => 3)
  | _ => (match j with | 24 => 2 | 26 => 1 | 1 => 3 | 2 => 3 | 5 => 3 | 8 => 3 | 9 => 3 | 10 => 3 | 11 => 3 | 28 => 3 | 29 => 3 | 35 => 3 | 38 => 3 | 39 => 3 | 40 => 3 | 41 => 3 | 45 => 3 | 46 => 3 | 47 => 3 | 48 => 3 | _ => 0)
/-- how many fields -/
def nNf (c : Nat) : Nat := match c with
  | 1 => 8 | 2 => 9 | 3 => 3 | 4 => 2 | 5 => 8 | 6 => 12 | 7 => 49 | _ => 0
/-- cells by the order in which they are made -/
def nIdL : List (Nat × Nat) := [(2, 0), (3, 0), (4, 0), (5, 0), (6, 0), (7, 0), (8, 0), (3, 1), (4, 1), (5, 1), (6, 1), (7, 1), (8, 1), (9, 0), (10, 0), (11, 0), (12, 0), (13, 0), (17, 0), (20, 0), (21, 0), (22, 0), (23, 0), (24, 0), (25, 0), (26, 0), (27, 0),
  (14, 0), (15, 0), (16, 0), (14, 1), (15, 1), (16, 1), (14, 2), (15, 2), (16, 2), (14, 3), (15, 3), (16, 3), (14, 4), (15, 4), (16, 4), (14, 5), (15, 5), (16, 5), (18, 0), (19, 0), (18, 1), (19, 1), (18, 2), (19, 2), (18, 3), (19, 3),
  (30, 0), (31, 0), (32, 0), (33, 0), (34, 0), (35, 0), (36, 0), (37, 0), (38, 0), (39, 0), (40, 0), (41, 0), (42, 0), (43, 0), (44, 0), (45, 0), (46, 0), (47, 0), (48, 0)]
def nIdAt (n : Nat) : Nat × Nat := if n < 72 then nIdL.getD n (0, 0) else (60, n - 72)
def nOb (k : Nat) : Nat := match k with
  | 2 => 0 | 3 => 1 | 4 => 2 | 5 => 3 | 6 => 4 | 7 => 5 | 8 => 6 | 9 => 13 | 10 => 14 | 11 => 15 | 12 => 16 | 13 => 17 | 17 => 18 | 20 => 19 | 21 => 20 | 22 => 21 | 23 => 22 | 24 => 23 | 25 => 24 | 26 => 25 | 27 => 26 | 14 => 27 | 15 => 28 | 16 => 29 | 18 => 45 | 19 => 46
  | 30 => 53 | 31 => 54 | 32 => 55 | 33 => 56 | 34 => 57 | 35 => 58 | 36 => 59 | 37 => 60 | 38 => 61 | 39 => 62 | 40 => 63 | 41 => 64 | 42 => 65 | 43 => 66 | 44 => 67 | 45 => 68 | 46 => 69 | 47 => 70 | 48 => 71 | 60 => 72 | _ => 0
def nOs (k : Nat) : Nat := match k with
  | 3 => 6 | 4 => 6 | 5 => 6 | 6 => 6 | 7 => 6 | 8 => 6 | 14 => 3 | 15 => 3 | 16 => 3 | 18 => 2 | 19 => 2 | 60 => 1 | _ => 0
def nKn (k : Nat) : Nat := match k with
  | 2 => 1 | 3 => 2 | 4 => 2 | 5 => 2 | 6 => 2 | 7 => 2 | 8 => 2 | 9 => 1 | 10 => 1 | 11 => 1 | 12 => 1 | 13 => 1 | 17 => 1 | 20 => 1 | 21 => 1 | 22 => 1 | 23 => 1 | 24 => 1 | 25 => 1 | 26 => 1 | 27 => 1 | 14 => 6 | 15 => 6 | 16 => 6 | 18 => 4 | 19 => 4
  | 30 => 1 | 31 => 1 | 32 => 1 | 33 => 1 | 34 => 1 | 35 => 1 | 36 => 1 | 37 => 1 | 38 => 1 | 39 => 1 | 40 => 1 | 41 => 1 | 42 => 1 | 43 => 1 | 44 => 1 | 45 => 1 | 46 => 1 | 47 => 1 | 48 => 1 | _ => 0
def nOff (k i : Nat) : Nat := nOb k + nOs k * i
def nOkId (k i : Nat) : Bool := if k = 60 then true else decide (i < nKn k)
/-- is the reference at place j of (k, i) set -/
def nRok (A : AL) (k i j : Nat) : Bool := (if k < 30 then A.1 else A.2.1) || A.2.2.1.contains (k, i, j)
/-- all references of the one's cells, of the other's -/
def nAllC : List (Nat × Nat × Nat) := [(17, 0, 3), (2, 0, 0), (2, 0, 1), (2, 0, 3), (2, 0, 4), (2, 0, 6), (2, 0, 7), (2, 0, 8), (2, 0, 9), (2, 0, 10), (2, 0, 11), (3, 0, 3), (3, 0, 4), (3, 0, 5), (3, 0, 6), (3, 0, 7), (3, 1, 3), (3, 1, 4), (3, 1, 5), (3, 1, 6), (3, 1, 7), (9, 0, 0), (9, 0, 2), (9, 0, 3), (20, 0, 5), (20, 0, 6), (20, 0, 7),
  (13, 0, 0), (13, 0, 1), (13, 0, 2), (13, 0, 3), (13, 0, 4), (13, 0, 5), (14, 0, 0), (14, 0, 1), (14, 1, 0), (14, 1, 1), (14, 2, 0), (14, 2, 1), (14, 3, 0), (14, 3, 1), (14, 4, 0), (14, 4, 1), (14, 5, 0), (14, 5, 1), (17, 0, 0), (17, 0, 1), (17, 0, 2), (18, 0, 2), (18, 1, 2), (18, 2, 2), (18, 3, 2)]
def nAllM : List (Nat × Nat × Nat) := [(30, 0, 48), (30, 0, 1), (30, 0, 2), (30, 0, 5), (30, 0, 8), (30, 0, 9), (30, 0, 10), (30, 0, 11), (30, 0, 28), (30, 0, 29), (30, 0, 35), (30, 0, 38), (30, 0, 39), (30, 0, 40), (30, 0, 41), (30, 0, 45), (30, 0, 46), (30, 0, 47)]
/-- one more is set; once all are, that is noted and the list is empty -/
def nRset (A : AL) (k i j : Nat) : AL :=
  let l := (k, i, j) :: A.2.2.1
  cond (nAllC.all l.contains) (true, A.2.1, l.filter (fun q => Nat.ble 30 q.1), A.2.2.2) (cond (nAllM.all l.contains) (A.1, true, l.filter (fun q => Nat.blt q.1 30), A.2.2.2) (A.1, A.2.1, l, A.2.2.2))
def nSt (M : MM) (k i j : Nat) (v : Int32) : MM := fun a b c => if a = k ∧ b = i ∧ c = j then v else M a b c
def nZ (M : MM) (k i : Nat) : MM := fun a b c => if a = k ∧ b = i then 0 else M a b c
def nIn (x : Int32) (n : Nat) : Bool := decide (¬ (x < 0 ∨ n ≤ x.toNatClampNeg))
def nIsL : AV → Bool
  | .inr (.inl _) => true
  | _ => false
def nCat (v : AV) : Nat := cond (nIsL v) 2 1
def nGt : List AV → Nat → AV
  | [], _ => vX
  | a :: _, 0 => a
  | _ :: l, n + 1 => nGt l n
def nPt : List AV → Nat → AV → List AV
  | [], _, _ => []
  | _ :: l, 0, v => v :: l
  | a :: l, n + 1, v => a :: nPt l n v
def nLbf (ls : List AV) (i : Nat) : Bool := match i with
  | 0 => false
  | n + 1 => nIsL (nGt ls n)
def nCsum : List AV → Nat
  | [] => 0
  | v :: l => nCat v + nCsum l
def nIsb (x : Int32) : Bool := x == 0 || x == 1
def nBnd (r : Option Res) (K : Option AV → Mem → Option Res) : Option Res := match r with
  | some (v, s) => K v s
  | none => none
def nSw (K : Nat → Option Res) (dflt : Nat) (x : Int32) : List (Int32 × Nat) → Option Res
  | [] => K dflt
  | (v, t) :: r => if x = v then K t else nSw K dflt x r
/-- lengths and letters of the text constants -/
def nStrL : List (List Nat) := [[116, 97, 107, 101, 115, 32, 103, 114, 97, 105, 110, 115, 32, 59, 32, 107, 101, 101, 112, 115, 32, 53, 48, 32, 59, 32, 115, 117, 114, 101, 32, 103, 114, 97, 105, 110, 115, 32, 59], [103, 114, 97, 105, 110, 115], [109, 97, 114, 107], [110, 117, 109, 98, 101, 114], [100, 97, 121], [99, 111, 97, 115, 116], [115, 104, 111, 101], [116, 97, 107, 101, 115], [107, 101, 101, 112, 115], [115, 117, 114, 101], [111, 114], [97, 110, 100], [110, 111, 116]]
def nSlen (i : Nat) : Nat := (nStrL.getD i []).length
def nSch (i j : Nat) : Int32 := Int32.ofNat ((nStrL.getD i []).getD j 0)
def nCpy (M : MM) (k i sp k2 i2 dp n : Nat) : MM := fun a b c => if a = k2 ∧ b = i2 ∧ dp ≤ c ∧ c < dp + n then M k i (sp + (c - dp)) else M a b c
def nAx (l : List Nat) (i : Nat) : Nat := l.getD i 0
def nLcmp (x y : Int64) : Int32 := lg_cmp x y
/-- locals at a method's start -/
def nLay : List AV → List AV
  | [] => []
  | v :: l => cond (nIsL v) (v :: vX :: nLay l) (v :: nLay l)
def nPad : Nat → List AV → List AV
  | 0, _ => []
  | n + 1, [] => vX :: nPad n []
  | n + 1, a :: l => a :: nPad n l
section
variable (X : Nat × (Nat → Int32)) (cal : Cal)
def pLoad (K : Kon) (pc len : Nat) (ls st : List AV) (s : Mem) (want : Nat) (i : Nat) : Option Res := match nGt ls i with
  | .inl x => if want = 0 then K (pc + len) ls (vI x :: st) s else none
  | .inr (.inl x) => if want = 1 then K (pc + len) ls (vL x :: st) s else none
  | .inr (.inr (k, j)) => if want = 2 ∧ k ≠ 0 then K (pc + len) ls (vR k j :: st) s else none
def pStore (K : Kon) (pc len : Nat) (ls st : List AV) (s : Mem) (want : Nat) (i : Nat) : Option Res := match st with
  | .inl x :: r => if want = 0 then cond (Nat.blt i ls.length) (cond (nLbf ls i) none (K (pc + len) (nPt ls i (vI x)) r s)) none else none
  | .inr (.inl x) :: r => if want = 1 then cond (Nat.blt (i + 1) ls.length) (cond (nLbf ls i) none (K (pc + len) (nPt (nPt ls i (vL x)) (i + 1) vX) r s)) none else none
  | .inr (.inr (k, j)) :: r => if want = 2 ∧ k ≠ 0 then cond (Nat.blt i ls.length) (cond (nLbf ls i) none (K (pc + len) (nPt ls i (vR k j)) r s)) none else none
  | [] => none
def pI1 (K : Kon) (pc : Nat) (ls st : List AV) (s : Mem) (f : Int32 → AV) : Option Res := match st with
  | .inl x :: r => K (pc + 1) ls (f x :: r) s
  | _ => none
def pI2 (K : Kon) (pc : Nat) (ls st : List AV) (s : Mem) (f : Int32 → Int32 → Int32) : Option Res := match st with
  | .inl y :: .inl x :: r => K (pc + 1) ls (vI (f x y) :: r) s
  | _ => none
def pD2 (K : Kon) (pc : Nat) (ls st : List AV) (s : Mem) (f : Int32 → Int32 → Int32) : Option Res := match st with
  | .inl y :: .inl x :: r => if y = 0 then none else K (pc + 1) ls (vI (f x y) :: r) s
  | _ => none
def pL2 (K : Kon) (pc : Nat) (ls st : List AV) (s : Mem) (f : Int64 → Int64 → AV) : Option Res := match st with
  | .inr (.inl y) :: .inr (.inl x) :: r => K (pc + 1) ls (f x y :: r) s
  | _ => none
def pLD (K : Kon) (pc : Nat) (ls st : List AV) (s : Mem) (f : Int64 → Int64 → Int64) : Option Res := match st with
  | .inr (.inl y) :: .inr (.inl x) :: r => if y = 0 then none else K (pc + 1) ls (vL (f x y) :: r) s
  | _ => none
def pIf (K : Kon) (pc tgt : Nat) (ls st : List AV) (s : Mem) (c : ClassFile.Cond) : Option Res := match st with
  | .inl x :: r => (match c with
    | .eq => if x = 0 then K tgt ls r s else K (pc + 3) ls r s
    | .ne => if x = 0 then K (pc + 3) ls r s else K tgt ls r s
    | .lt => if x < 0 then K tgt ls r s else K (pc + 3) ls r s
    | .ge => if 0 ≤ x then K tgt ls r s else K (pc + 3) ls r s
    | .gt => if 0 < x then K tgt ls r s else K (pc + 3) ls r s
    | .le => if x ≤ 0 then K tgt ls r s else K (pc + 3) ls r s)
  | _ => none
def pCmp (K : Kon) (pc tgt : Nat) (ls st : List AV) (s : Mem) (c : ClassFile.Cond) : Option Res := match st with
  | .inl y :: .inl x :: r => (match c with
    | .eq => if x = y then K tgt ls r s else K (pc + 3) ls r s
    | .ne => if x = y then K (pc + 3) ls r s else K tgt ls r s
    | .lt => if x < y then K tgt ls r s else K (pc + 3) ls r s
    | .ge => if y ≤ x then K tgt ls r s else K (pc + 3) ls r s
    | .gt => if y < x then K tgt ls r s else K (pc + 3) ls r s
    | .le => if x ≤ y then K tgt ls r s else K (pc + 3) ls r s)
  | _ => none
def pGet (K : Kon) (pc : Nat) (ls st : List AV) (s : Mem) (c j : Nat) : Option Res := match st with
  | .inr (.inr (k, i)) :: r => cond (nKc k == c && Nat.blt j (nNf c)) (match nFt c j with
    | 2 => K (pc + 3) ls (vL s.2.1 :: r) s
    | 3 => cond (nRok s.2.2 k i j) (K (pc + 3) ls (vR (nTg k i j).1 (nTg k i j).2 :: r) s) none
    | _ => K (pc + 3) ls (vI (s.1 k i j) :: r) s) none
  | _ => none
def pPut (own : Nat) (ini : Bool) (K : Kon) (pc : Nat) (ls st : List AV) (s : Mem) (c j : Nat) : Option Res := match st with
  | .inl x :: .inr (.inr (k, i)) :: r => cond (nKc k == c && Nat.blt j (nNf c)) (match nFt c j with
    | 0 => K (pc + 3) ls r (nSt s.1 k i j x, s.2)
    | 1 => cond (nIsb x) (K (pc + 3) ls r (nSt s.1 k i j x, s.2)) none
    | _ => none) none
  | .inr (.inl x) :: .inr (.inr (k, i)) :: r => cond (nKc k == c && Nat.blt j (nNf c)) (match nFt c j with
    | 2 => K (pc + 3) ls r (s.1, x, s.2.2)
    | _ => none) none
  | .inr (.inr (k2, i2)) :: .inr (.inr (k, i)) :: r => cond (nKc k == c && Nat.blt j (nNf c)) (match nFt c j with
    | 3 => cond (k2 == (nTg k i j).1 && (i2 == (nTg k i j).2 && (ini && own == c))) (K (pc + 3) ls r (s.1, s.2.1, nRset s.2.2 k i j)) none
    | _ => none) none
  | _ => none
def pIald (K : Kon) (pc : Nat) (ls st : List AV) (s : Mem) : Option Res := match st with
  | .inl x :: .inr (.inr (k, i)) :: r =>
    if k = 70 then cond (nIn x X.1) (K (pc + 1) ls (vI (X.2 x.toNatClampNeg) :: r) s) none
    else cond (nAk k == 1) (cond (nIn x (nAl k)) (K (pc + 1) ls (vI (s.1 k i x.toNatClampNeg) :: r) s) none) none
  | _ => none
def pIast (K : Kon) (pc : Nat) (ls st : List AV) (s : Mem) : Option Res := match st with
  | .inl v :: .inl x :: .inr (.inr (k, i)) :: r => cond (nAk k == 1) (cond (nIn x (nAl k)) (K (pc + 1) ls r (nSt s.1 k i x.toNatClampNeg v, s.2)) none) none
  | _ => none
def pZald (K : Kon) (pc : Nat) (ls st : List AV) (s : Mem) : Option Res := match st with
  | .inl x :: .inr (.inr (k, i)) :: r => cond (nAk k == 2) (cond (nIn x (nAl k)) (K (pc + 1) ls (vI (s.1 k i x.toNatClampNeg) :: r) s) none) none
  | _ => none
def pZast (K : Kon) (pc : Nat) (ls st : List AV) (s : Mem) : Option Res := match st with
  | .inl v :: .inl x :: .inr (.inr (k, i)) :: r => cond (nAk k == 2 && nIsb v) (cond (nIn x (nAl k)) (K (pc + 1) ls r (nSt s.1 k i x.toNatClampNeg v, s.2)) none) none
  | _ => none
def pAald (K : Kon) (pc : Nat) (ls st : List AV) (s : Mem) : Option Res := match st with
  | .inl x :: .inr (.inr (k, i)) :: r => cond (nAk k == 3) (cond (nIn x (nAl k)) (cond (nRok s.2.2 k i x.toNatClampNeg) (K (pc + 1) ls (vR (nTg k i x.toNatClampNeg).1 (nTg k i x.toNatClampNeg).2 :: r) s) none) none) none
  | _ => none
def pAast (K : Kon) (pc : Nat) (ls st : List AV) (s : Mem) : Option Res := match st with
  | .inr (.inr (k2, i2)) :: .inl x :: .inr (.inr (k, i)) :: r => cond (nAk k == 3) (cond (nIn x (nAl k)) (cond (k2 == (nTg k i x.toNatClampNeg).1 && i2 == (nTg k i x.toNatClampNeg).2) (K (pc + 1) ls r (s.1, s.2.1, nRset s.2.2 k i x.toNatClampNeg)) none) none) none
  | _ => none
def pLen (K : Kon) (pc : Nat) (ls st : List AV) (s : Mem) : Option Res := match st with
  | .inr (.inr (k, i)) :: r => if k = 70 then K (pc + 1) ls (vI (Int32.ofNat X.1) :: r) s else cond (nAk k == 0) none (K (pc + 1) ls (vI (Int32.ofNat (nAl k)) :: r) s)
  | _ => none
/-- a new cell of kind k, at place i: k's class or array is as asked -/
def nMk (s : Mem) (n : Nat) : Mem := (nZ s.1 (nIdAt s.2.2.2.2.2.1).1 (nIdAt s.2.2.2.2.2.1).2, cond ((nIdAt s.2.2.2.2.2.1).1 == 30) 0 s.2.1, s.2.2.1, s.2.2.2.1, s.2.2.2.2.1, s.2.2.2.2.2.1 + 1, s.2.2.2.2.2.2 + n)
def pNew (K : Kon) (pc : Nat) (ls st : List AV) (s : Mem) (c : Nat) : Option Res :=
  cond (nKc (nIdAt s.2.2.2.2.2.1).1 == c && Nat.blt 0 c) (K (pc + 3) ls (vR (nIdAt s.2.2.2.2.2.1).1 (nIdAt s.2.2.2.2.2.1).2 :: st) (nMk s (nNf c))) none
def pNewa (K : Kon) (pc len : Nat) (ls st : List AV) (s : Mem) (w : Nat) : Option Res := match st with
  | .inl x :: r => cond (nAk (nIdAt s.2.2.2.2.2.1).1 == w && x == Int32.ofNat (nAl (nIdAt s.2.2.2.2.2.1).1)) (K (pc + len) ls (vR (nIdAt s.2.2.2.2.2.1).1 (nIdAt s.2.2.2.2.2.1).2 :: r) (nMk s (nAl (nIdAt s.2.2.2.2.2.1).1))) none
  | _ => none
/-- rows of a class's objects: their kind -/
def nAnk (c : Nat) : Nat := match c with
  | 4 => 13 | 3 => 17 | _ => 0
/-- own methods: y's number, how many arguments, y's class (0: static) -/
def pCall (K : Kon) (pc : Nat) (ls st : List AV) (s : Mem) (y n c : Nat) : Option Res :=
  cond (Nat.ble (nCsum (st.drop n)) 8) (match c with
    | 0 => cond (Nat.ble n st.length) (nBnd (cal y (st.take n).reverse s) (fun v s2 => K (pc + 3) ls (v.toList ++ st.drop n) s2)) none
    | _ => (match st.drop n with
      | .inr (.inr (k, i)) :: r => cond (nKc k == c) (nBnd (cal y (vR k i :: (st.take n).reverse) s) (fun v s2 => K (pc + 3) ls (v.toList ++ r) s2)) none
      | _ => none)) none
/-- the host's: 1 min, 2 max, 3 abs, 4 arraycopy, 5 Object(), 6 length, 7 charAt -/
def pHost (K : Kon) (pc : Nat) (ls st : List AV) (s : Mem) (h : Nat) : Option Res :=
  cond (Nat.ble (nCsum st) 9) (match h with
  | 1 => (match st with
    | .inl y :: .inl x :: r => K (pc + 3) ls (vI (if y < x then y else x) :: r) s
    | _ => none)
  | 2 => (match st with
    | .inl y :: .inl x :: r => K (pc + 3) ls (vI (if x < y then y else x) :: r) s
    | _ => none)
  | 3 => (match st with
    | .inl x :: r => K (pc + 3) ls (vI (if 0 ≤ x then x else 0 - x) :: r) s
    | _ => none)
  | 4 => (match st with
    | .inl n :: .inl dp :: .inr (.inr (k2, i2)) :: .inl sp :: .inr (.inr (k, i)) :: r =>
      cond (nAk k == 1 && nAk k2 == 1) (cond (decide (¬ sp < 0 ∧ ¬ dp < 0 ∧ ¬ n < 0 ∧ sp.toNatClampNeg + n.toNatClampNeg ≤ nAl k ∧ dp.toNatClampNeg + n.toNatClampNeg ≤ nAl k2))
        (K (pc + 3) ls r (nCpy s.1 k i sp.toNatClampNeg k2 i2 dp.toNatClampNeg n.toNatClampNeg, s.2)) none) none
    | _ => none)
  | 5 => (match st with
    | .inr (.inr (k, _)) :: r => if k = 0 then none else K (pc + 3) ls r s
    | _ => none)
  | 6 => (match st with
    | .inr (.inr (1, i)) :: r => cond (Nat.blt i 13) (K (pc + 3) ls (vI (Int32.ofNat (nSlen i)) :: r) s) none
    | _ => none)
  | 7 => (match st with
    | .inl x :: .inr (.inr (1, i)) :: r => cond (Nat.blt i 13 && nIn x (nSlen i)) (K (pc + 3) ls (vI (nSch i x.toNatClampNeg) :: r) s) none
    | _ => none)
  | _ => none) none
def pRet (rt want : Nat) (st : List AV) (s : Mem) : Option Res := match st with
  | [] => cond (rt == 0 && want == 0) (some (none, s)) none
  | [.inl x] => cond (want == 1) (match rt with
    | 1 => some (some (vI x), s)
    | 2 => cond (nIsb x) (some (some (vI x), s)) none
    | _ => none) none
  | [.inr (.inl x)] => cond (rt == 3 && want == 2) (some (some (vL x), s)) none
  | [.inr (.inr (k, i))] => cond (rt == 4 && (want == 3 && Nat.blt 0 k)) (some (some (vR k i), s)) none
  | _ => none
def nStepI (own : Nat) (ini : Bool) (rt : Nat) (e : En) (pc : Nat) (ls st : List AV) (s : Mem) (K : Kon) : Option Res := match e with
  | (ins, a, c, cL, sw) => match ins with
    | .iconst _ => K (pc + 1) ls (vI c :: st) s
    | .bipush _ => K (pc + 2) ls (vI c :: st) s
    | .sipush _ => K (pc + 3) ls (vI c :: st) s
    | .ldc _ => (match nAx a 0 with
      | 1 => K (pc + 2) ls (vI c :: st) s
      | _ => K (pc + 2) ls (vR 1 (nAx a 1) :: st) s)
    | .ldc_w _ => K (pc + 3) ls (vI c :: st) s
    | .lconst _ => K (pc + 1) ls (vL cL :: st) s
    | .ldc2_w _ => K (pc + 3) ls (vL cL :: st) s
    | .iload_n _ => pLoad K pc 1 ls st s 0 (nAx a 0)
    | .iload _ => pLoad K pc 2 ls st s 0 (nAx a 0)
    | .lload_n _ => pLoad K pc 1 ls st s 1 (nAx a 0)
    | .lload _ => pLoad K pc 2 ls st s 1 (nAx a 0)
    | .aload_n _ => pLoad K pc 1 ls st s 2 (nAx a 0)
    | .aload _ => pLoad K pc 2 ls st s 2 (nAx a 0)
    | .istore_n _ => pStore K pc 1 ls st s 0 (nAx a 0)
    | .istore _ => pStore K pc 2 ls st s 0 (nAx a 0)
    | .lstore _ => pStore K pc 2 ls st s 1 (nAx a 0)
    | .astore_n _ => pStore K pc 1 ls st s 2 (nAx a 0)
    | .astore _ => pStore K pc 2 ls st s 2 (nAx a 0)
    | .iinc _ _ => (match nGt ls (nAx a 0) with
      | .inl x => cond (Nat.blt (nAx a 0) ls.length) (cond (nLbf ls (nAx a 0)) none (K (pc + 3) (nPt ls (nAx a 0) (vI (x + c))) st s)) none
      | _ => none)
    | .iadd => pI2 K pc ls st s (fun x y => x + y)
    | .isub => pI2 K pc ls st s (fun x y => x - y)
    | .imul => pI2 K pc ls st s (fun x y => x * y)
    | .iand => pI2 K pc ls st s (fun x y => x &&& y)
    | .ior => pI2 K pc ls st s (fun x y => x ||| y)
    | .ishl => pI2 K pc ls st s (fun x y => x <<< (y &&& 31))
    | .ishr => pI2 K pc ls st s (fun x y => x >>> (y &&& 31))
    | .iushr => pI2 K pc ls st s (fun x y => (x.toUInt32 >>> (y.toUInt32 &&& Int32.toUInt32 31)).toInt32)
    | .idiv => pD2 K pc ls st s (fun x y => x / y)
    | .irem => pD2 K pc ls st s (fun x y => x - x / y * y)
    | .ineg => pI1 K pc ls st s (fun x => vI (-x))
    | .i2l => pI1 K pc ls st s (fun x => vL x.toInt64)
    | .i2b => pI1 K pc ls st s (fun x => vI x.toInt8.toInt32)
    | .i2s => pI1 K pc ls st s (fun x => vI x.toInt16.toInt32)
    | .l2i => (match st with
      | .inr (.inl x) :: r => K (pc + 1) ls (vI x.toInt32 :: r) s
      | _ => none)
    | .ladd => pL2 K pc ls st s (fun x y => vL (x + y))
    | .lsub => pL2 K pc ls st s (fun x y => vL (x - y))
    | .lmul => pL2 K pc ls st s (fun x y => vL (x * y))
    | .lcmp => pL2 K pc ls st s (fun x y => vI (nLcmp x y))
    | .ldiv => pLD K pc ls st s (fun x y => x / y)
    | .lrem => pLD K pc ls st s (fun x y => x - x / y * y)
    | .dup => (match st with
      | v :: r => cond (nIsL v) none (K (pc + 1) ls (v :: v :: r) s)
      | _ => none)
    | .dup2 => (match st with
      | v :: w :: r => cond (nIsL v || nIsL w) none (K (pc + 1) ls (v :: w :: v :: w :: r) s)
      | _ => none)
    | .pop => (match st with
      | v :: r => cond (nIsL v) none (K (pc + 1) ls r s)
      | _ => none)
    | .goto _ => K (nAx a 0) ls st s
    | .ifCond q _ => pIf K pc (nAx a 0) ls st s q
    | .if_icmp q _ => pCmp K pc (nAx a 0) ls st s q
    | .tableswitch _ _ _ _ => (match st with
      | .inl x :: r => nSw (fun t => K t ls r s) (nAx a 0) x sw
      | _ => none)
    | .lookupswitch _ _ => (match st with
      | .inl x :: r => nSw (fun t => K t ls r s) (nAx a 0) x sw
      | _ => none)
    | .getfield _ => pGet K pc ls st s (nAx a 0) (nAx a 1)
    | .putfield _ => pPut own ini K pc ls st s (nAx a 0) (nAx a 1)
    | .iaload => pIald X K pc ls st s
    | .iastore => pIast K pc ls st s
    | .baload => pZald K pc ls st s
    | .bastore => pZast K pc ls st s
    | .aaload => pAald K pc ls st s
    | .aastore => pAast K pc ls st s
    | .arraylength => pLen X K pc ls st s
    | .new _ => pNew K pc ls st s (nAx a 0)
    | .newarray _ => pNewa K pc 2 ls st s (nAx a 0)
    | .anewarray _ => cond (nAnk (nAx a 0) == (nIdAt s.2.2.2.2.2.1).1) (pNewa K pc 3 ls st s 3) none
    | .invokevirtual _ => (match nAx a 0 with
      | 0 => pCall cal K pc ls st s (nAx a 1) (nAx a 2) (nAx a 3)
      | _ => pHost K pc ls st s (nAx a 1))
    | .invokespecial _ => (match nAx a 0 with
      | 0 => pCall cal K pc ls st s (nAx a 1) (nAx a 2) (nAx a 3)
      | _ => pHost K pc ls st s (nAx a 1))
    | .invokestatic _ => (match nAx a 0 with
      | 0 => pCall cal K pc ls st s (nAx a 1) (nAx a 2) 0
      | _ => pHost K pc ls st s (nAx a 1))
    | .ireturn => pRet rt 1 st s
    | .lreturn => pRet rt 2 st s
    | .areturn => pRet rt 3 st s
    | .return_ => pRet rt 0 st s
    | _ => none
def nLk : List (Nat × En) → Nat → Option En
  | [], _ => none
  | (p, e) :: t, pc => cond (Nat.beq p pc) (some e) (nLk t pc)
def nStep (h : Hd) (pc : Nat) (ls st : List AV) (s : Mem) (K : Kon) : Option Res := match nLk h.1 pc with
  | some e => nStepI X cal h.2.1 h.2.2.1 h.2.2.2 e pc ls st s K
  | none => none
def nRun (h : Hd) : Nat → Kon
  | 0 => fun _ _ _ _ => none
  | n + 1 => fun pc ls st s => nStep X cal h pc ls st s (nRun h n)
def nIter (h : Hd) (K : Kon) : Nat → Kon
  | 0 => K
  | n + 1 => fun pc ls st s => nStep X cal h pc ls st s (nIter h K n)
noncomputable def nR (h : Hd) : Kon := fun pc ls st s => @dite _ (∃ n r, nRun X cal h n pc ls st s = some r) (Classical.propDecidable _) (fun q => some q.choose_spec.choose) (fun _ => none)
end
