/-! plain facts on numbers, on the small memory -/
def bV (b : Bool) : AV := vI (cond b 1 0)
theorem nIn_eq (a : Int32) (n : Nat) : nIn a n = decide (0 ≤ a.toInt ∧ a.toInt < n) := by
  unfold nIn
  rw [decide_eq_decide, Int32.lt_iff_toInt_lt, ← Int32.toNat_toInt]
  have : (0 : Int32).toInt = 0 := rfl
  omega
theorem lcmp_lt (a b : Int64) : nLcmp a b < 0 ↔ a < b := by
  unfold nLcmp lg_cmp
  rw [Int64.lt_iff_toInt_lt]
  by_cases h : a > b
  · rw [if_pos h]
    have h2 := Int64.lt_iff_toInt_lt.mp h
    constructor
    · intro q; exact absurd q (by decide)
    · intro q; omega
  · rw [if_neg h]
    by_cases h3 : a = b
    · rw [if_pos h3, h3]
      constructor
      · intro q; exact absurd q (by decide)
      · intro q; omega
    · rw [if_neg h3]
      constructor
      · intro _
        have h4 : ¬ b.toInt < a.toInt := fun q => h (Int64.lt_iff_toInt_lt.mpr q)
        have h5 : a.toInt ≠ b.toInt := fun q => h3 (Int64.toInt_inj.mp q)
        omega
      · intro _; decide
theorem lcmp_gt (a b : Int64) : 0 < nLcmp a b ↔ b < a := by
  unfold nLcmp lg_cmp
  by_cases h : a > b
  · rw [if_pos h]
    exact ⟨fun _ => h, fun _ => by decide⟩
  · rw [if_neg h]
    constructor
    · intro q
      by_cases h3 : a = b
      · rw [if_pos h3] at q; exact absurd q (by decide)
      · rw [if_neg h3] at q; exact absurd q (by decide)
    · intro q; exact absurd q h
theorem lcmp_eq (a b : Int64) : nLcmp a b = 0 ↔ a = b := by
  unfold nLcmp lg_cmp
  by_cases h : a > b
  · rw [if_pos h]
    constructor
    · intro q; exact absurd q (by decide)
    · intro q; exact absurd (Int64.lt_iff_toInt_lt.mp h) (by rw [q]; omega)
  · rw [if_neg h]
    by_cases h3 : a = b
    · rw [if_pos h3]; exact ⟨fun _ => h3, fun _ => rfl⟩
    · rw [if_neg h3]
      constructor
      · intro q; exact absurd q (by decide)
      · intro q; exact absurd q h3
/-- a number between 0 and a bound, as the model asks it -/
theorem in64 {a : Int32} {b c : Int64} {n : Nat} (hb : b.toInt = 0) (hc : c.toInt + 1 = n) : decide (b ≤ a.toInt64 ∧ a.toInt64 ≤ c) = nIn a n := by
  rw [nIn_eq, decide_eq_decide, Int64.le_iff_toInt_le, Int64.le_iff_toInt_le, Int32.toInt_toInt64, hb]
  omega
theorem in64m {a x : Int32} {b : Int64} {n : Nat} (hb : b.toInt = 0) (hx : x = nI n) (hn : n < 2 ^ 31) : decide (b ≤ a.toInt64 ∧ a.toInt64 ≤ (x - 1).toInt64) = nIn a n := by
  refine in64 hb ?_
  rw [Int32.toInt_toInt64, hx]
  rcases n with _ | n
  · rfl
  · rw [nI_pred, nI_toInt (by omega)]
    omega
theorem in_ex {a : Int32} {n : Nat} (h : nIn a n = true) (hn : n < 2 ^ 31) : ∃ j : Nat, j < n ∧ a = nI j := by
  rw [nIn_eq, decide_eq_true_eq] at h
  obtain ⟨j, hj, rfl⟩ := nI_of (x := a) (by rw [Int32.lt_iff_toInt_lt]; have : (0 : Int32).toInt = 0 := rfl; omega)
  rw [nI_toInt hj] at h
  exact ⟨j, by omega, rfl⟩
theorem in_nI {j n : Nat} (h : j < n) (hn : n < 2 ^ 31) : nIn (nI j) n = true := by
  rw [nIn_eq, decide_eq_true_eq, nI_toInt (by omega)]
  omega
theorem bV0 (b : Bool) : (cond b (1 : Int32) 0 = 0) = (b = false) := by cases b <;> simp
theorem isb_c (b : Bool) : nIsb (cond b (1 : Int32) 0) = true := by cases b <;> rfl
theorem nst_ne {M : MM} {k i j a b c : Nat} {v : Int32} (h : ¬ a = k) : nSt M k i j v a b c = M a b c := if_neg (fun q => h q.1)
theorem st_app (M : MM) (k i j a b c : Nat) (v : Int32) : nSt M k i j v a b c = if a = k ∧ b = i ∧ c = j then v else M a b c := rfl
theorem cpy_app (M : MM) (k i sp k2 i2 dp n a b c : Nat) : nCpy M k i sp k2 i2 dp n a b c = if a = k2 ∧ b = i2 ∧ dp ≤ c ∧ c < dp + n then M k i (sp + (c - dp)) else M a b c := rfl
section
variable (X : Nat × (Nat → Int32))
theorem sX7_in (d : Nat) (a b c : Int64) (M : MM) (w : Int64) (l : List (Nat × Nat × Nat)) (t u : Nat) : callN X (d + 1) 111 [vL a, vL b, vL c] (M, w, true, true, l, t, u) = some (some (bV (decide (b ≤ a ∧ a ≤ c))), (M, w, true, true, l, t, u)) := by
  rw [aX7_in]
  simp only [lcmp_lt, lcmp_gt]
  by_cases h : a < b
  · rw [if_pos h, decide_eq_false (fun q => Int64.not_le.mpr h q.1)]
    rfl
  · rw [if_neg h]
    by_cases h2 : c < a
    · rw [if_pos h2, decide_eq_false (fun q => Int64.not_le.mpr h2 q.2)]
      rfl
    · rw [if_neg h2, decide_eq_true ⟨Int64.not_lt.mp h, Int64.not_lt.mp h2⟩]
      rfl
theorem sX7_isOne (d : Nat) (a : Int32) {P : Nat} (M : MM) (w : Int64) (l : List (Nat × Nat × Nat)) (t u : Nat) (hP : M 30 0 12 = nI P) (hl : P < 2 ^ 31) : callN X (d + 2) 115 [vR 30 0, vI a] (M, w, true, true, l, t, u) = some (some (bV (nIn a P)), (M, w, true, true, l, t, u)) := by
  simp only [aX7_isOne, sX7_in, bnd_s, tl_s, bX7_isOne_13, bV, isb_c, cond_true]
  rw [in64m rfl hP hl]
theorem sX7_isCoast (d : Nat) (a : Int32) (M : MM) (w : Int64) (l : List (Nat × Nat × Nat)) (t u : Nat) : callN X (d + 2) 116 [vI a] (M, w, true, true, l, t, u) = some (some (bV (nIn a 6)), (M, w, true, true, l, t, u)) := by
  simp only [aX7_isCoast, sX7_in, bnd_s, tl_s, bX7_isCoast_9, bV, isb_c, cond_true]
  rw [in64 (n := 6) rfl rfl]
theorem sX5_has (d : Nat) (i : Nat) (a : Int32) {P : Nat} (M : MM) (w : Int64) (fm : Bool) (l : List (Nat × Nat × Nat)) (t u : Nat) (hP : M 3 i 2 = nI P) (hl : P < 2 ^ 31) : callN X (d + 1) 41 [vR 3 i, vI a] (M, w, true, fm, l, t, u) = some (some (bV (nIn a P)), (M, w, true, fm, l, t, u)) := by
  rw [aX5_has, hP, nIn_eq]
  simp only [Int32.lt_iff_toInt_lt, Int32.le_iff_toInt_le, nI_toInt hl]
  have : (0 : Int32).toInt = 0 := rfl
  by_cases h : a.toInt < (0 : Int32).toInt
  · rw [if_pos h, decide_eq_false (by omega)]; rfl
  · rw [if_neg h]
    by_cases h2 : (P : Int) ≤ a.toInt
    · rw [if_pos h2, decide_eq_false (by omega)]; rfl
    · rw [if_neg h2, decide_eq_true (by omega)]; rfl
end
