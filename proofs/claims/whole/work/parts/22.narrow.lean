/-! the law's premises on text constants, by their places -/
def sFl : List Cond := flatC (Cond.and given_1 narrow_1)
def tmJ (i : Nat) : Term := match strO[i]? with
  | some q => .string q.1 q.2.1
  | none => .arg 0
def jEx (i : Nat) : Cond := Cond.exactly (tmJ i) "java/lang/String"
def jCo (i : Nat) : Cond := Cond.eq (.field (tmJ i) "java/lang/String" "coder" "B") (.int 0)
def jAr (i : Nat) : Cond := Cond.arrayOf (.field (tmJ i) "java/lang/String" "value" "[B") .byte
def jLe (i : Nat) : Cond := Cond.eq (.length (.field (tmJ i) "java/lang/String" "value" "[B")) (.int (Int32.ofNat (strN.getD i 0)))
def jEl (i j : Nat) : Cond := Cond.eq (.elem (.field (tmJ i) "java/lang/String" "value" "[B") (.int (Int32.ofNat j))) (.int ((strB.getD i []).getD j 0))
def jNe (i j : Nat) : Cond := Cond.not (Cond.eq (tmJ i) (tmJ j))
theorem at_in {w : Cond} (k : Nat) (h : sFl[k]? = some w) : w ∈ sFl := List.mem_of_getElem? h
def jxL : List (Nat) := [0, 1, 2, 3, 4, 5, 6, 7, 8, 9, 10, 11, 12]
theorem jxL_in : ∀ q ∈ jxL, jEx q ∈ sFl := by
  unfold jxL
  refine List.forall_mem_cons.mpr ⟨at_in 23 rfl, ?_⟩
  refine List.forall_mem_cons.mpr ⟨at_in 66 rfl, ?_⟩
  refine List.forall_mem_cons.mpr ⟨at_in 77 rfl, ?_⟩
  refine List.forall_mem_cons.mpr ⟨at_in 87 rfl, ?_⟩
  refine List.forall_mem_cons.mpr ⟨at_in 100 rfl, ?_⟩
  refine List.forall_mem_cons.mpr ⟨at_in 111 rfl, ?_⟩
  refine List.forall_mem_cons.mpr ⟨at_in 125 rfl, ?_⟩
  refine List.forall_mem_cons.mpr ⟨at_in 139 rfl, ?_⟩
  refine List.forall_mem_cons.mpr ⟨at_in 155 rfl, ?_⟩
  refine List.forall_mem_cons.mpr ⟨at_in 172 rfl, ?_⟩
  refine List.forall_mem_cons.mpr ⟨at_in 189 rfl, ?_⟩
  refine List.forall_mem_cons.mpr ⟨at_in 205 rfl, ?_⟩
  refine List.forall_mem_cons.mpr ⟨at_in 223 rfl, ?_⟩
  exact fun _ h => absurd h List.not_mem_nil
def jcL : List (Nat) := [0, 1, 2, 3, 4, 5, 6, 7, 8, 9, 10, 11, 12]
theorem jcL_in : ∀ q ∈ jcL, jCo q ∈ sFl := by
  unfold jcL
  refine List.forall_mem_cons.mpr ⟨at_in 24 rfl, ?_⟩
  refine List.forall_mem_cons.mpr ⟨at_in 67 rfl, ?_⟩
  refine List.forall_mem_cons.mpr ⟨at_in 78 rfl, ?_⟩
  refine List.forall_mem_cons.mpr ⟨at_in 88 rfl, ?_⟩
  refine List.forall_mem_cons.mpr ⟨at_in 101 rfl, ?_⟩
  refine List.forall_mem_cons.mpr ⟨at_in 112 rfl, ?_⟩
  refine List.forall_mem_cons.mpr ⟨at_in 126 rfl, ?_⟩
  refine List.forall_mem_cons.mpr ⟨at_in 140 rfl, ?_⟩
  refine List.forall_mem_cons.mpr ⟨at_in 156 rfl, ?_⟩
  refine List.forall_mem_cons.mpr ⟨at_in 173 rfl, ?_⟩
  refine List.forall_mem_cons.mpr ⟨at_in 190 rfl, ?_⟩
  refine List.forall_mem_cons.mpr ⟨at_in 206 rfl, ?_⟩
  refine List.forall_mem_cons.mpr ⟨at_in 224 rfl, ?_⟩
  exact fun _ h => absurd h List.not_mem_nil
def jaL : List (Nat) := [0, 1, 2, 3, 4, 5, 6, 7, 8, 9, 10, 11, 12]
theorem jaL_in : ∀ q ∈ jaL, jAr q ∈ sFl := by
  unfold jaL
  refine List.forall_mem_cons.mpr ⟨at_in 25 rfl, ?_⟩
  refine List.forall_mem_cons.mpr ⟨at_in 68 rfl, ?_⟩
  refine List.forall_mem_cons.mpr ⟨at_in 79 rfl, ?_⟩
  refine List.forall_mem_cons.mpr ⟨at_in 89 rfl, ?_⟩
  refine List.forall_mem_cons.mpr ⟨at_in 102 rfl, ?_⟩
  refine List.forall_mem_cons.mpr ⟨at_in 113 rfl, ?_⟩
  refine List.forall_mem_cons.mpr ⟨at_in 127 rfl, ?_⟩
  refine List.forall_mem_cons.mpr ⟨at_in 141 rfl, ?_⟩
  refine List.forall_mem_cons.mpr ⟨at_in 157 rfl, ?_⟩
  refine List.forall_mem_cons.mpr ⟨at_in 174 rfl, ?_⟩
  refine List.forall_mem_cons.mpr ⟨at_in 191 rfl, ?_⟩
  refine List.forall_mem_cons.mpr ⟨at_in 207 rfl, ?_⟩
  refine List.forall_mem_cons.mpr ⟨at_in 225 rfl, ?_⟩
  exact fun _ h => absurd h List.not_mem_nil
def jlL : List (Nat) := [0, 1, 2, 3, 4, 5, 6, 7, 8, 9, 10, 11, 12]
theorem jlL_in : ∀ q ∈ jlL, jLe q ∈ sFl := by
  unfold jlL
  refine List.forall_mem_cons.mpr ⟨at_in 26 rfl, ?_⟩
  refine List.forall_mem_cons.mpr ⟨at_in 69 rfl, ?_⟩
  refine List.forall_mem_cons.mpr ⟨at_in 80 rfl, ?_⟩
  refine List.forall_mem_cons.mpr ⟨at_in 90 rfl, ?_⟩
  refine List.forall_mem_cons.mpr ⟨at_in 103 rfl, ?_⟩
  refine List.forall_mem_cons.mpr ⟨at_in 114 rfl, ?_⟩
  refine List.forall_mem_cons.mpr ⟨at_in 128 rfl, ?_⟩
  refine List.forall_mem_cons.mpr ⟨at_in 142 rfl, ?_⟩
  refine List.forall_mem_cons.mpr ⟨at_in 158 rfl, ?_⟩
  refine List.forall_mem_cons.mpr ⟨at_in 175 rfl, ?_⟩
  refine List.forall_mem_cons.mpr ⟨at_in 192 rfl, ?_⟩
  refine List.forall_mem_cons.mpr ⟨at_in 208 rfl, ?_⟩
  refine List.forall_mem_cons.mpr ⟨at_in 226 rfl, ?_⟩
  exact fun _ h => absurd h List.not_mem_nil
def jeL : List (Nat × Nat) := [(0, 0), (0, 1), (0, 2), (0, 3), (0, 4), (0, 5), (0, 6), (0, 7), (0, 8), (0, 9), (0, 10), (0, 11), (0, 12), (0, 13), (0, 14), (0, 15), (0, 16), (0, 17), (0, 18), (0, 19), (0, 20), (0, 21), (0, 22), (0, 23), (0, 24), (0, 25), (0, 26), (0, 27), (0, 28), (0, 29), (0, 30), (0, 31), (0, 32), (0, 33), (0, 34), (0, 35), (0, 36), (0, 37), (0, 38), (1, 0), (1, 1), (1, 2), (1, 3), (1, 4), (1, 5), (2, 0), (2, 1), (2, 2), (2, 3), (3, 0), (3, 1), (3, 2), (3, 3), (3, 4), (3, 5), (4, 0), (4, 1), (4, 2), (5, 0), (5, 1), (5, 2), (5, 3), (5, 4), (6, 0), (6, 1), (6, 2), (6, 3), (7, 0), (7, 1), (7, 2), (7, 3), (7, 4), (8, 0), (8, 1), (8, 2), (8, 3), (8, 4), (9, 0), (9, 1), (9, 2), (9, 3), (10, 0), (10, 1), (11, 0), (11, 1), (11, 2), (12, 0), (12, 1), (12, 2)]
theorem jeL_in : ∀ q ∈ jeL, jEl q.1 q.2 ∈ sFl := by
  unfold jeL
  refine List.forall_mem_cons.mpr ⟨at_in 27 rfl, ?_⟩
  refine List.forall_mem_cons.mpr ⟨at_in 28 rfl, ?_⟩
  refine List.forall_mem_cons.mpr ⟨at_in 29 rfl, ?_⟩
  refine List.forall_mem_cons.mpr ⟨at_in 30 rfl, ?_⟩
  refine List.forall_mem_cons.mpr ⟨at_in 31 rfl, ?_⟩
  refine List.forall_mem_cons.mpr ⟨at_in 32 rfl, ?_⟩
  refine List.forall_mem_cons.mpr ⟨at_in 33 rfl, ?_⟩
  refine List.forall_mem_cons.mpr ⟨at_in 34 rfl, ?_⟩
  refine List.forall_mem_cons.mpr ⟨at_in 35 rfl, ?_⟩
  refine List.forall_mem_cons.mpr ⟨at_in 36 rfl, ?_⟩
  refine List.forall_mem_cons.mpr ⟨at_in 37 rfl, ?_⟩
  refine List.forall_mem_cons.mpr ⟨at_in 38 rfl, ?_⟩
  refine List.forall_mem_cons.mpr ⟨at_in 39 rfl, ?_⟩
  refine List.forall_mem_cons.mpr ⟨at_in 40 rfl, ?_⟩
  refine List.forall_mem_cons.mpr ⟨at_in 41 rfl, ?_⟩
  refine List.forall_mem_cons.mpr ⟨at_in 42 rfl, ?_⟩
  refine List.forall_mem_cons.mpr ⟨at_in 43 rfl, ?_⟩
  refine List.forall_mem_cons.mpr ⟨at_in 44 rfl, ?_⟩
  refine List.forall_mem_cons.mpr ⟨at_in 45 rfl, ?_⟩
  refine List.forall_mem_cons.mpr ⟨at_in 46 rfl, ?_⟩
  refine List.forall_mem_cons.mpr ⟨at_in 47 rfl, ?_⟩
  refine List.forall_mem_cons.mpr ⟨at_in 48 rfl, ?_⟩
  refine List.forall_mem_cons.mpr ⟨at_in 49 rfl, ?_⟩
  refine List.forall_mem_cons.mpr ⟨at_in 50 rfl, ?_⟩
  refine List.forall_mem_cons.mpr ⟨at_in 51 rfl, ?_⟩
  refine List.forall_mem_cons.mpr ⟨at_in 52 rfl, ?_⟩
  refine List.forall_mem_cons.mpr ⟨at_in 53 rfl, ?_⟩
  refine List.forall_mem_cons.mpr ⟨at_in 54 rfl, ?_⟩
  refine List.forall_mem_cons.mpr ⟨at_in 55 rfl, ?_⟩
  refine List.forall_mem_cons.mpr ⟨at_in 56 rfl, ?_⟩
  refine List.forall_mem_cons.mpr ⟨at_in 57 rfl, ?_⟩
  refine List.forall_mem_cons.mpr ⟨at_in 58 rfl, ?_⟩
  refine List.forall_mem_cons.mpr ⟨at_in 59 rfl, ?_⟩
  refine List.forall_mem_cons.mpr ⟨at_in 60 rfl, ?_⟩
  refine List.forall_mem_cons.mpr ⟨at_in 61 rfl, ?_⟩
  refine List.forall_mem_cons.mpr ⟨at_in 62 rfl, ?_⟩
  refine List.forall_mem_cons.mpr ⟨at_in 63 rfl, ?_⟩
  refine List.forall_mem_cons.mpr ⟨at_in 64 rfl, ?_⟩
  refine List.forall_mem_cons.mpr ⟨at_in 65 rfl, ?_⟩
  refine List.forall_mem_cons.mpr ⟨at_in 70 rfl, ?_⟩
  refine List.forall_mem_cons.mpr ⟨at_in 71 rfl, ?_⟩
  refine List.forall_mem_cons.mpr ⟨at_in 72 rfl, ?_⟩
  refine List.forall_mem_cons.mpr ⟨at_in 73 rfl, ?_⟩
  refine List.forall_mem_cons.mpr ⟨at_in 74 rfl, ?_⟩
  refine List.forall_mem_cons.mpr ⟨at_in 75 rfl, ?_⟩
  refine List.forall_mem_cons.mpr ⟨at_in 81 rfl, ?_⟩
  refine List.forall_mem_cons.mpr ⟨at_in 82 rfl, ?_⟩
  refine List.forall_mem_cons.mpr ⟨at_in 83 rfl, ?_⟩
  refine List.forall_mem_cons.mpr ⟨at_in 84 rfl, ?_⟩
  refine List.forall_mem_cons.mpr ⟨at_in 91 rfl, ?_⟩
  refine List.forall_mem_cons.mpr ⟨at_in 92 rfl, ?_⟩
  refine List.forall_mem_cons.mpr ⟨at_in 93 rfl, ?_⟩
  refine List.forall_mem_cons.mpr ⟨at_in 94 rfl, ?_⟩
  refine List.forall_mem_cons.mpr ⟨at_in 95 rfl, ?_⟩
  refine List.forall_mem_cons.mpr ⟨at_in 96 rfl, ?_⟩
  refine List.forall_mem_cons.mpr ⟨at_in 104 rfl, ?_⟩
  refine List.forall_mem_cons.mpr ⟨at_in 105 rfl, ?_⟩
  refine List.forall_mem_cons.mpr ⟨at_in 106 rfl, ?_⟩
  refine List.forall_mem_cons.mpr ⟨at_in 115 rfl, ?_⟩
  refine List.forall_mem_cons.mpr ⟨at_in 116 rfl, ?_⟩
  refine List.forall_mem_cons.mpr ⟨at_in 117 rfl, ?_⟩
  refine List.forall_mem_cons.mpr ⟨at_in 118 rfl, ?_⟩
  refine List.forall_mem_cons.mpr ⟨at_in 119 rfl, ?_⟩
  refine List.forall_mem_cons.mpr ⟨at_in 129 rfl, ?_⟩
  refine List.forall_mem_cons.mpr ⟨at_in 130 rfl, ?_⟩
  refine List.forall_mem_cons.mpr ⟨at_in 131 rfl, ?_⟩
  refine List.forall_mem_cons.mpr ⟨at_in 132 rfl, ?_⟩
  refine List.forall_mem_cons.mpr ⟨at_in 143 rfl, ?_⟩
  refine List.forall_mem_cons.mpr ⟨at_in 144 rfl, ?_⟩
  refine List.forall_mem_cons.mpr ⟨at_in 145 rfl, ?_⟩
  refine List.forall_mem_cons.mpr ⟨at_in 146 rfl, ?_⟩
  refine List.forall_mem_cons.mpr ⟨at_in 147 rfl, ?_⟩
  refine List.forall_mem_cons.mpr ⟨at_in 159 rfl, ?_⟩
  refine List.forall_mem_cons.mpr ⟨at_in 160 rfl, ?_⟩
  refine List.forall_mem_cons.mpr ⟨at_in 161 rfl, ?_⟩
  refine List.forall_mem_cons.mpr ⟨at_in 162 rfl, ?_⟩
  refine List.forall_mem_cons.mpr ⟨at_in 163 rfl, ?_⟩
  refine List.forall_mem_cons.mpr ⟨at_in 176 rfl, ?_⟩
  refine List.forall_mem_cons.mpr ⟨at_in 177 rfl, ?_⟩
  refine List.forall_mem_cons.mpr ⟨at_in 178 rfl, ?_⟩
  refine List.forall_mem_cons.mpr ⟨at_in 179 rfl, ?_⟩
  refine List.forall_mem_cons.mpr ⟨at_in 193 rfl, ?_⟩
  refine List.forall_mem_cons.mpr ⟨at_in 194 rfl, ?_⟩
  refine List.forall_mem_cons.mpr ⟨at_in 209 rfl, ?_⟩
  refine List.forall_mem_cons.mpr ⟨at_in 210 rfl, ?_⟩
  refine List.forall_mem_cons.mpr ⟨at_in 211 rfl, ?_⟩
  refine List.forall_mem_cons.mpr ⟨at_in 227 rfl, ?_⟩
  refine List.forall_mem_cons.mpr ⟨at_in 228 rfl, ?_⟩
  refine List.forall_mem_cons.mpr ⟨at_in 229 rfl, ?_⟩
  exact fun _ h => absurd h List.not_mem_nil
def jnL : List (Nat × Nat) := [(0, 1), (0, 2), (1, 2), (0, 3), (1, 3), (2, 3), (0, 4), (1, 4), (2, 4), (3, 4), (0, 5), (1, 5), (2, 5), (3, 5), (4, 5), (0, 6), (1, 6), (2, 6), (3, 6), (4, 6), (5, 6), (0, 7), (1, 7), (2, 7), (3, 7), (4, 7), (5, 7), (6, 7), (0, 8), (1, 8), (2, 8), (3, 8), (4, 8), (5, 8), (6, 8), (7, 8), (0, 9), (1, 9), (2, 9), (3, 9), (4, 9), (5, 9), (6, 9), (7, 9), (8, 9), (0, 10), (1, 10), (2, 10), (3, 10), (4, 10), (5, 10), (6, 10), (7, 10), (8, 10), (9, 10), (0, 11), (1, 11), (2, 11), (3, 11), (4, 11), (5, 11), (6, 11), (7, 11), (8, 11), (9, 11), (10, 11), (0, 12), (1, 12), (2, 12), (3, 12), (4, 12), (5, 12), (6, 12), (7, 12), (8, 12), (9, 12), (10, 12), (11, 12)]
theorem jnL_in : ∀ q ∈ jnL, jNe q.1 q.2 ∈ sFl := by
  unfold jnL
  refine List.forall_mem_cons.mpr ⟨at_in 76 rfl, ?_⟩
  refine List.forall_mem_cons.mpr ⟨at_in 85 rfl, ?_⟩
  refine List.forall_mem_cons.mpr ⟨at_in 86 rfl, ?_⟩
  refine List.forall_mem_cons.mpr ⟨at_in 97 rfl, ?_⟩
  refine List.forall_mem_cons.mpr ⟨at_in 98 rfl, ?_⟩
  refine List.forall_mem_cons.mpr ⟨at_in 99 rfl, ?_⟩
  refine List.forall_mem_cons.mpr ⟨at_in 107 rfl, ?_⟩
  refine List.forall_mem_cons.mpr ⟨at_in 108 rfl, ?_⟩
  refine List.forall_mem_cons.mpr ⟨at_in 109 rfl, ?_⟩
  refine List.forall_mem_cons.mpr ⟨at_in 110 rfl, ?_⟩
  refine List.forall_mem_cons.mpr ⟨at_in 120 rfl, ?_⟩
  refine List.forall_mem_cons.mpr ⟨at_in 121 rfl, ?_⟩
  refine List.forall_mem_cons.mpr ⟨at_in 122 rfl, ?_⟩
  refine List.forall_mem_cons.mpr ⟨at_in 123 rfl, ?_⟩
  refine List.forall_mem_cons.mpr ⟨at_in 124 rfl, ?_⟩
  refine List.forall_mem_cons.mpr ⟨at_in 133 rfl, ?_⟩
  refine List.forall_mem_cons.mpr ⟨at_in 134 rfl, ?_⟩
  refine List.forall_mem_cons.mpr ⟨at_in 135 rfl, ?_⟩
  refine List.forall_mem_cons.mpr ⟨at_in 136 rfl, ?_⟩
  refine List.forall_mem_cons.mpr ⟨at_in 137 rfl, ?_⟩
  refine List.forall_mem_cons.mpr ⟨at_in 138 rfl, ?_⟩
  refine List.forall_mem_cons.mpr ⟨at_in 148 rfl, ?_⟩
  refine List.forall_mem_cons.mpr ⟨at_in 149 rfl, ?_⟩
  refine List.forall_mem_cons.mpr ⟨at_in 150 rfl, ?_⟩
  refine List.forall_mem_cons.mpr ⟨at_in 151 rfl, ?_⟩
  refine List.forall_mem_cons.mpr ⟨at_in 152 rfl, ?_⟩
  refine List.forall_mem_cons.mpr ⟨at_in 153 rfl, ?_⟩
  refine List.forall_mem_cons.mpr ⟨at_in 154 rfl, ?_⟩
  refine List.forall_mem_cons.mpr ⟨at_in 164 rfl, ?_⟩
  refine List.forall_mem_cons.mpr ⟨at_in 165 rfl, ?_⟩
  refine List.forall_mem_cons.mpr ⟨at_in 166 rfl, ?_⟩
  refine List.forall_mem_cons.mpr ⟨at_in 167 rfl, ?_⟩
  refine List.forall_mem_cons.mpr ⟨at_in 168 rfl, ?_⟩
  refine List.forall_mem_cons.mpr ⟨at_in 169 rfl, ?_⟩
  refine List.forall_mem_cons.mpr ⟨at_in 170 rfl, ?_⟩
  refine List.forall_mem_cons.mpr ⟨at_in 171 rfl, ?_⟩
  refine List.forall_mem_cons.mpr ⟨at_in 180 rfl, ?_⟩
  refine List.forall_mem_cons.mpr ⟨at_in 181 rfl, ?_⟩
  refine List.forall_mem_cons.mpr ⟨at_in 182 rfl, ?_⟩
  refine List.forall_mem_cons.mpr ⟨at_in 183 rfl, ?_⟩
  refine List.forall_mem_cons.mpr ⟨at_in 184 rfl, ?_⟩
  refine List.forall_mem_cons.mpr ⟨at_in 185 rfl, ?_⟩
  refine List.forall_mem_cons.mpr ⟨at_in 186 rfl, ?_⟩
  refine List.forall_mem_cons.mpr ⟨at_in 187 rfl, ?_⟩
  refine List.forall_mem_cons.mpr ⟨at_in 188 rfl, ?_⟩
  refine List.forall_mem_cons.mpr ⟨at_in 195 rfl, ?_⟩
  refine List.forall_mem_cons.mpr ⟨at_in 196 rfl, ?_⟩
  refine List.forall_mem_cons.mpr ⟨at_in 197 rfl, ?_⟩
  refine List.forall_mem_cons.mpr ⟨at_in 198 rfl, ?_⟩
  refine List.forall_mem_cons.mpr ⟨at_in 199 rfl, ?_⟩
  refine List.forall_mem_cons.mpr ⟨at_in 200 rfl, ?_⟩
  refine List.forall_mem_cons.mpr ⟨at_in 201 rfl, ?_⟩
  refine List.forall_mem_cons.mpr ⟨at_in 202 rfl, ?_⟩
  refine List.forall_mem_cons.mpr ⟨at_in 203 rfl, ?_⟩
  refine List.forall_mem_cons.mpr ⟨at_in 204 rfl, ?_⟩
  refine List.forall_mem_cons.mpr ⟨at_in 212 rfl, ?_⟩
  refine List.forall_mem_cons.mpr ⟨at_in 213 rfl, ?_⟩
  refine List.forall_mem_cons.mpr ⟨at_in 214 rfl, ?_⟩
  refine List.forall_mem_cons.mpr ⟨at_in 215 rfl, ?_⟩
  refine List.forall_mem_cons.mpr ⟨at_in 216 rfl, ?_⟩
  refine List.forall_mem_cons.mpr ⟨at_in 217 rfl, ?_⟩
  refine List.forall_mem_cons.mpr ⟨at_in 218 rfl, ?_⟩
  refine List.forall_mem_cons.mpr ⟨at_in 219 rfl, ?_⟩
  refine List.forall_mem_cons.mpr ⟨at_in 220 rfl, ?_⟩
  refine List.forall_mem_cons.mpr ⟨at_in 221 rfl, ?_⟩
  refine List.forall_mem_cons.mpr ⟨at_in 222 rfl, ?_⟩
  refine List.forall_mem_cons.mpr ⟨at_in 230 rfl, ?_⟩
  refine List.forall_mem_cons.mpr ⟨at_in 231 rfl, ?_⟩
  refine List.forall_mem_cons.mpr ⟨at_in 232 rfl, ?_⟩
  refine List.forall_mem_cons.mpr ⟨at_in 233 rfl, ?_⟩
  refine List.forall_mem_cons.mpr ⟨at_in 234 rfl, ?_⟩
  refine List.forall_mem_cons.mpr ⟨at_in 235 rfl, ?_⟩
  refine List.forall_mem_cons.mpr ⟨at_in 236 rfl, ?_⟩
  refine List.forall_mem_cons.mpr ⟨at_in 237 rfl, ?_⟩
  refine List.forall_mem_cons.mpr ⟨at_in 238 rfl, ?_⟩
  refine List.forall_mem_cons.mpr ⟨at_in 239 rfl, ?_⟩
  refine List.forall_mem_cons.mpr ⟨at_in 240 rfl, ?_⟩
  refine List.forall_mem_cons.mpr ⟨at_in 241 rfl, ?_⟩
  exact fun _ h => absurd h List.not_mem_nil
theorem jEx_in : ∀ i, i < 13 → jEx i ∈ sFl := fun i hi => jxL_in i ((show ∀ i, i < 13 → i ∈ jxL by decide +kernel) i hi)
theorem jCo_in : ∀ i, i < 13 → jCo i ∈ sFl := fun i hi => jcL_in i ((show ∀ i, i < 13 → i ∈ jcL by decide +kernel) i hi)
theorem jAr_in : ∀ i, i < 13 → jAr i ∈ sFl := fun i hi => jaL_in i ((show ∀ i, i < 13 → i ∈ jaL by decide +kernel) i hi)
theorem jLe_in : ∀ i, i < 13 → jLe i ∈ sFl := fun i hi => jlL_in i ((show ∀ i, i < 13 → i ∈ jlL by decide +kernel) i hi)
theorem jEl_in : ∀ i, i < 13 → ∀ j, j < strN.getD i 0 → jEl i j ∈ sFl := fun i hi j hj => jeL_in (i, j) ((show ∀ i, i < 13 → ∀ j, j < strN.getD i 0 → (i, j) ∈ jeL by decide +kernel) i hi j hj)
theorem jn_has : (List.range 13).all (fun i => (List.range 13).all (fun j => i == j || (jnL.contains (i, j) || jnL.contains (j, i)))) = true := by decide +kernel
theorem jNe_in : ∀ i, i < 13 → ∀ j, j < 13 → i ≠ j → (jNe i j ∈ sFl ∨ jNe j i ∈ sFl) := by
  intro i hi j hj hn
  have h := List.all_eq_true.mp (List.all_eq_true.mp jn_has i (List.mem_range.mpr hi)) j (List.mem_range.mpr hj)
  rw [Bool.or_eq_true, Bool.or_eq_true, beq_iff_eq, List.contains_iff_mem, List.contains_iff_mem] at h
  rcases h with h | h | h
  · exact absurd h hn
  · exact Or.inl (jnL_in (i, j) h)
  · exact Or.inr (jnL_in (j, i) h)
theorem jCs_in : Cond.eq (.static "java/lang/String" "COMPACT_STRINGS" "Z") (.int 1) ∈ sFl := at_in 4 rfl
theorem jQ_in : Cond.isRef (.static "jdk/internal/util/Preconditions" "SIOOBE_FORMATTER" "Ljava/util/function/BiFunction;") ∈ sFl := at_in 5 rfl
