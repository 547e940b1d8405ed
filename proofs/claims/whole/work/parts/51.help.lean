/-! questions, in both classes; what a call does -/
theorem if_in {α : Type} {a c : Int32} {n : Nat} (hc : c.toInt = n) (A B : α) : (if a < 0 then A else if c ≤ a then A else B) = cond (nIn a n) B A := by
  rw [nIn_eq]
  have h0 : (0 : Int32).toInt = 0 := rfl
  by_cases c0 : a < 0
  · rw [if_pos c0, decide_eq_false (fun q => by rw [Int32.lt_iff_toInt_lt] at c0; omega)]
    rfl
  · rw [if_neg c0]
    rw [Int32.lt_iff_toInt_lt] at c0
    by_cases c1 : c ≤ a
    · rw [if_pos c1]
      rw [Int32.le_iff_toInt_le] at c1
      rw [decide_eq_false (by omega)]
      rfl
    · rw [if_neg c1]
      rw [Int32.le_iff_toInt_le] at c1
      rw [decide_eq_true (by omega)]
      rfl
theorem if_in2 {α : Type} {a c : Int32} {n : Nat} (hc : c.toInt + 1 = n) (A B : α) : (if a < 0 then A else if a ≤ c then B else A) = cond (nIn a n) B A := by
  rw [nIn_eq]
  have h0 : (0 : Int32).toInt = 0 := rfl
  by_cases c0 : a < 0
  · rw [if_pos c0, decide_eq_false (fun q => by rw [Int32.lt_iff_toInt_lt] at c0; omega)]
    rfl
  · rw [if_neg c0]
    rw [Int32.lt_iff_toInt_lt] at c0
    by_cases c1 : a ≤ c
    · rw [if_pos c1]
      rw [Int32.le_iff_toInt_le] at c1
      rw [decide_eq_true (by omega)]
      rfl
    · rw [if_neg c1]
      rw [Int32.le_iff_toInt_le] at c1
      rw [decide_eq_false (by omega)]
      rfl
theorem if_in3 {α : Type} {a c : Int32} {n : Nat} (hc : c.toInt = n) (A B : α) : (if a < 0 then A else if a < c then B else A) = cond (nIn a n) B A := by
  rw [nIn_eq]
  have h0 : (0 : Int32).toInt = 0 := rfl
  by_cases c0 : a < 0
  · rw [if_pos c0, decide_eq_false (fun q => by rw [Int32.lt_iff_toInt_lt] at c0; omega)]
    rfl
  · rw [if_neg c0]
    rw [Int32.lt_iff_toInt_lt] at c0
    by_cases c1 : a < c
    · rw [if_pos c1]
      rw [Int32.lt_iff_toInt_lt] at c1
      rw [decide_eq_true (by omega)]
      rfl
    · rw [if_neg c1]
      rw [Int32.lt_iff_toInt_lt] at c1
      rw [decide_eq_false (by omega)]
      rfl
theorem if_in4 {α : Type} {a c : Int32} {n : Nat} (hc : c.toInt + 1 = n) (A B : α) : (if a < 0 then A else if c < a then A else B) = cond (nIn a n) B A := by
  rw [nIn_eq]
  have h0 : (0 : Int32).toInt = 0 := rfl
  by_cases c0 : a < 0
  · rw [if_pos c0, decide_eq_false (fun q => by rw [Int32.lt_iff_toInt_lt] at c0; omega)]
    rfl
  · rw [if_neg c0]
    rw [Int32.lt_iff_toInt_lt] at c0
    by_cases c1 : c < a
    · rw [if_pos c1]
      rw [Int32.lt_iff_toInt_lt] at c1
      rw [decide_eq_false (by omega)]
      rfl
    · rw [if_neg c1]
      rw [Int32.lt_iff_toInt_lt] at c1
      rw [decide_eq_true (by omega)]
      rfl
/-- a question's answer, asked for 0 -/
theorem if_b {α : Type} (b : Bool) (A B : α) : (if cond b (1 : Int32) 0 = 0 then A else B) = cond b B A := by cases b <;> rfl
theorem cond_some (b : Bool) (x y : Int32) (S : Mem) : cond b (some (some (vI x), S)) (some (some (vI y), S)) = some (some (vI (cond b x y)), S) := by cases b <;> rfl
theorem nin_t {j n : Nat} (h : j < n) (hn : n < 2 ^ 31 := by omega) : nIn (nI j) n = true := in_nI h hn
theorem nin_ge {j n : Nat} (h : n ≤ j) (hj : j < 2 ^ 31) : nIn (nI j) n = false := by
  rw [nIn_eq, decide_eq_false]
  rw [nI_toInt hj]
  omega
section
variable (X : Nat × (Nat → Int32))
theorem cMark (d : Nat) (a : Int32) (M : MM) (w : Int64) (fm : Bool) (l : List (Nat × Nat × Nat)) (t u : Nat) : callN X (d + 1) 81 [vI a] (M, w, true, fm, l, t, u) = some (some (vI (cond (nIn a 6) 1 0)), (M, w, true, fm, l, t, u)) := by
  rw [aX6_isMark, if_in (n := 6) rfl, cond_some]
theorem cCoast (d : Nat) (a : Int32) (M : MM) (w : Int64) (fm : Bool) (l : List (Nat × Nat × Nat)) (t u : Nat) : callN X (d + 1) 80 [vI a] (M, w, true, fm, l, t, u) = some (some (vI (cond (nIn a 6) 1 0)), (M, w, true, fm, l, t, u)) := by
  rw [aX6_isCoast, if_in (n := 6) rfl, cond_some]
theorem cSheet (d : Nat) (a : Int32) (M : MM) (w : Int64) (fm : Bool) (l : List (Nat × Nat × Nat)) (t u : Nat) : callN X (d + 1) 83 [vI a] (M, w, true, fm, l, t, u) = some (some (vI (cond (nIn a 4) 1 0)), (M, w, true, fm, l, t, u)) := by
  rw [aX6_isSheet, if_in (n := 4) rfl, cond_some]
theorem cSort (d : Nat) (a : Int32) (M : MM) (w : Int64) (fm : Bool) (l : List (Nat × Nat × Nat)) (t u : Nat) : callN X (d + 1) 29 [vI a] (M, w, true, fm, l, t, u) = some (some (vI (cond (nIn a 3) 1 0)), (M, w, true, fm, l, t, u)) := by
  rw [aX3_isSort, if_in4 (n := 3) rfl, cond_some]
theorem cPart (d : Nat) (a : Int32) (M : MM) (w : Int64) (fm : Bool) (l : List (Nat × Nat × Nat)) (t u : Nat) : callN X (d + 1) 82 [vI a] (M, w, true, fm, l, t, u) = some (some (vI (cond (nIn a 2) 1 0)), (M, w, true, fm, l, t, u)) := by
  rw [aX6_isPart]
  by_cases c0 : a = 0
  · rw [if_pos c0, c0]
    rfl
  rw [if_neg c0]
  by_cases c1 : a = 1
  · rw [if_pos c1, c1]
    rfl
  rw [if_neg c1]
  cases h : nIn a 2
  · rfl
  · obtain ⟨j, hj, rfl⟩ := in_ex h (by omega)
    rcases j with _ | _ | j
    · exact absurd rfl c0
    · exact absurd rfl c1
    · omega
theorem cHas (d : Nat) (a : Int32) {M : MM} (w : Int64) (fm : Bool) (l : List (Nat × Nat × Nat)) (t u : Nat) {g : GW} (h : WC M 0 g) (hB : gP g ≤ 5) : callN X (d + 1) 41 [vR 3 0, vI a] (M, w, true, fm, l, t, u) = some (some (vI (cond (nIn a (gP g)) 1 0)), (M, w, true, fm, l, t, u)) := sX5_has X d 0 a M w fm l t u h.2.2.1 (by omega)
def twoB (a b : Int32) (n : Nat) : Bool := nIn a n && (nIn b n && decide (a ≠ b))
theorem cTwo (d : Nat) (a b : Int32) {M : MM} (w : Int64) (fm : Bool) (l : List (Nat × Nat × Nat)) (t u : Nat) {g : GW} (h : WC M 0 g) (hB : gP g ≤ 5) : callN X (d + 2) 84 [vR 2 0, vI a, vI b] (M, w, true, fm, l, t, u) = some (some (vI (cond (twoB a b (gP g)) 1 0)), (M, w, true, fm, l, t, u)) := by
  rw [show d + 2 = d + 1 + 1 from rfl, aX6_areTwo, cHas X d a w fm l t u h hB, bnd_s, tl_s, bX6_areTwo_8, if_b]
  unfold twoB
  cases nIn a (gP g)
  · rfl
  simp only [cond_true, Bool.true_and]
  rw [cHas X d b w fm l t u h hB, bnd_s, tl_s, bX6_areTwo_19, if_b]
  cases nIn b (gP g)
  · rfl
  simp only [cond_true, Bool.true_and]
  by_cases c : a = b
  · rw [if_pos c, decide_eq_false (fun q => q c)]
    rfl
  · rw [if_neg c, decide_eq_true c]
    rfl
theorem mIn (d : Nat) (a : Int32) {c : Int64} {n : Nat} (hc : c.toInt + 1 = n) (M : MM) (w : Int64) (l : List (Nat × Nat × Nat)) (t u : Nat) : callN X (d + 1) 111 [vL a.toInt64, vL 0, vL c] (M, w, true, true, l, t, u) = some (some (vI (cond (nIn a n) 1 0)), (M, w, true, true, l, t, u)) := by
  rw [sX7_in, in64 rfl hc]
  rfl
theorem mCoast (d : Nat) (a : Int32) (M : MM) (w : Int64) (l : List (Nat × Nat × Nat)) (t u : Nat) : callN X (d + 2) 116 [vI a] (M, w, true, true, l, t, u) = some (some (vI (cond (nIn a 6) 1 0)), (M, w, true, true, l, t, u)) := sX7_isCoast X d a M w l t u
theorem mMark (d : Nat) (a : Int32) (M : MM) (w : Int64) (l : List (Nat × Nat × Nat)) (t u : Nat) : callN X (d + 2) 117 [vI a] (M, w, true, true, l, t, u) = some (some (vI (cond (nIn a 6) 1 0)), (M, w, true, true, l, t, u)) := by
  rw [show d + 2 = d + 1 + 1 from rfl, aX7_isMark, mIn X d a (n := 6) rfl, bnd_s, tl_s, bX7_isMark_9, isb_c, cond_true]
theorem mSheet (d : Nat) (a : Int32) (M : MM) (w : Int64) (l : List (Nat × Nat × Nat)) (t u : Nat) : callN X (d + 2) 186 [vI a] (M, w, true, true, l, t, u) = some (some (vI (cond (nIn a 4) 1 0)), (M, w, true, true, l, t, u)) := by
  rw [show d + 2 = d + 1 + 1 from rfl, aX7_isSheet, mIn X d a (n := 4) rfl, bnd_s, tl_s, bX7_isSheet_9, isb_c, cond_true]
theorem mOne (d : Nat) (a : Int32) {M : MM} (w : Int64) (l : List (Nat × Nat × Nat)) (t u : Nat) {g : GW} (h : WM M g) (hB : gP g ≤ 5) : callN X (d + 2) 115 [vR 30 0, vI a] (M, w, true, true, l, t, u) = some (some (vI (cond (nIn a (gP g)) 1 0)), (M, w, true, true, l, t, u)) := sX7_isOne X d a M w l t u h.2.2.1 (by omega)
theorem mTwo (d : Nat) (a b : Int32) {M : MM} (w : Int64) (l : List (Nat × Nat × Nat)) (t u : Nat) {g : GW} (h : WM M g) (hB : gP g ≤ 5) : callN X (d + 3) 156 [vR 30 0, vI a, vI b] (M, w, true, true, l, t, u) = some (some (vI (cond (twoB a b (gP g)) 1 0)), (M, w, true, true, l, t, u)) := by
  rw [show d + 3 = d + 2 + 1 from rfl, aX7_areTwo, mOne X d a w l t u h hB, bnd_s, tl_s, bX7_areTwo_5, if_b]
  unfold twoB
  cases nIn a (gP g)
  · rfl
  simp only [cond_true, Bool.true_and]
  rw [mOne X d b w l t u h hB, bnd_s, tl_s, bX7_areTwo_13, if_b]
  cases nIn b (gP g)
  · rfl
  simp only [cond_true, Bool.true_and]
  by_cases c : a = b
  · rw [if_pos c, decide_eq_false (fun q => q c)]
    rfl
  · rw [if_neg c, decide_eq_true c]
    rfl
/-! what a call does, to either -/
def CSp (y : Nat) (as : List AV) (v : AV) (s s2 : GS) : Prop := ∀ (d : Nat) (M : MM) (w : Int64) (t u : Nat), SC M s → ∃ M2, callN X (d + 200) y (vR 2 0 :: as) (M, w, true, true, [], t, u) = some (some v, (M2, w, true, true, [], t, u)) ∧ SC M2 s2 ∧ ∀ k i j, 30 ≤ k → M2 k i j = M k i j
def MSp (y : Nat) (as : List AV) (v : AV) (s s2 : GS) : Prop := ∀ (d : Nat) (M : MM) (w : Int64) (t u : Nat), SM M s → ∃ (M2 : MM) (w2 : Int64) (t2 u2 : Nat), callN X (d + 200) y (vR 30 0 :: as) (M, w, true, true, [], t, u) = some (some v, (M2, w2, true, true, [], t2, u2)) ∧ SM M2 s2 ∧ (∀ k i j, k < 30 → M2 k i j = M k i j) ∧ t2 = t ∧ u2 = u
def Stq (y ym : Nat) (as : List AV) : Prop := ∀ s, SB s → ∃ (v : AV) (s2 : GS), CSp X y as v s s2 ∧ MSp X ym as v s s2 ∧ SB s2
theorem CSp.q {y : Nat} {as : List AV} {v : AV} {s : GS} (h : ∀ (d : Nat) (M : MM) (w : Int64) (t u : Nat), SC M s → ∃ M2, callN X (d + 200) y (vR 2 0 :: as) (M, w, true, true, [], t, u) = some (some v, (M2, w, true, true, [], t, u)) ∧ ∀ k i j, (k < 20 ∨ 30 ≤ k) → M2 k i j = M k i j) : CSp X y as v s s := fun d M w t u hS => by
  obtain ⟨M2, h1, h2⟩ := h d M w t u hS
  exact ⟨M2, h1, hS.fr (fun k i j q => h2 k i j (Or.inl q)), fun k i j q => h2 k i j (Or.inr q)⟩
theorem MSp.q {y : Nat} {as : List AV} {v : AV} {s : GS} (h : ∀ (d : Nat) (M : MM) (w : Int64) (t u : Nat), SM M s → ∃ (M2 : MM) (w2 : Int64) (t2 u2 : Nat), callN X (d + 200) y (vR 30 0 :: as) (M, w, true, true, [], t, u) = some (some v, (M2, w2, true, true, [], t2, u2)) ∧ fM M M2 ∧ (∀ k i j, k < 30 → M2 k i j = M k i j) ∧ t2 = t ∧ u2 = u) : MSp X y as v s s := fun d M w t u hS => by
  obtain ⟨M2, w2, t2, u2, h1, h2, h3, h4⟩ := h d M w t u hS
  exact ⟨M2, w2, t2, u2, h1, hS.fr h2, h3, h4⟩
/-- nothing is changed at all -/
theorem CSp.n {y : Nat} {as : List AV} {v : AV} {s : GS} (h : ∀ (d : Nat) (M : MM) (w : Int64) (t u : Nat), SC M s → callN X (d + 200) y (vR 2 0 :: as) (M, w, true, true, [], t, u) = some (some v, (M, w, true, true, [], t, u))) : CSp X y as v s s := fun d M w t u hS => ⟨M, h d M w t u hS, hS, fun _ _ _ _ => rfl⟩
theorem MSp.n {y : Nat} {as : List AV} {v : AV} {s : GS} (h : ∀ (d : Nat) (M : MM) (w : Int64) (t u : Nat), SM M s → callN X (d + 200) y (vR 30 0 :: as) (M, w, true, true, [], t, u) = some (some v, (M, w, true, true, [], t, u))) : MSp X y as v s s := fun d M w t u hS => ⟨M, w, t, u, h d M w t u hS, hS, fun _ _ _ _ => rfl, by omega, by omega⟩
/-- scratch alone is changed -/
theorem CSp.t {y : Nat} {as : List AV} {v : AV} {s : GS} (h : ∀ (d : Nat) (M : MM) (w : Int64) (t u : Nat), SC M s → ∃ M2, callN X (d + 200) y (vR 2 0 :: as) (M, w, true, true, [], t, u) = some (some v, (M2, w, true, true, [], t, u)) ∧ fr245 M M2) : CSp X y as v s s := CSp.q X (fun d M w t u hS => by
  obtain ⟨M2, h1, h2⟩ := h d M w t u hS
  exact ⟨M2, h1, fun k i j q => h2 k i j (by omega) (by omega)⟩)
theorem MSp.t {y : Nat} {as : List AV} {v : AV} {s : GS} (h : ∀ (d : Nat) (M : MM) (w : Int64) (t u : Nat), SM M s → ∃ (M2 : MM) (w2 : Int64), callN X (d + 200) y (vR 30 0 :: as) (M, w, true, true, [], t, u) = some (some v, (M2, w2, true, true, [], t, u)) ∧ frS M M2) : MSp X y as v s s := MSp.q X (fun d M w t u hS => by
  obtain ⟨M2, w2, h1, h2⟩ := h d M w t u hS
  exact ⟨M2, w2, t, u, h1, h2.M, fun k i j q => h2 k i j (by omega), by omega, by omega⟩)
end
