/-! told, set -/
def isPl (a : Int32) (n : Nat) : Bool := nIn a (10 * n) && decide (a.toNatClampNeg % 10 < 6)
def plN (j : Nat) : Nat := j / 10 * 6 + j % 10
def okOf (k : Nat) (a : Int32) (P : Nat) : Bool := if k = 1 then isPl a 6 else if k = 3 then isPl a P else if k = 0 then true else if k = 7 then nIn a 6 else nIn a P
def tVal (g : GW) (k j : Nat) : Nat := if k = 0 then gD g else if k = 1 then gCo g (plN j) else if k = 2 then gNu g j else if k = 3 then gSh g (plN j) else if k = 4 then gKd g j else if k = 5 then gOu g j else if k = 6 then sumN (fun i => gSh g (j * 6 + i)) 6 else sumN (fun i => gCo g (j * 6 + i)) 6
theorem isPl_ex {a : Int32} {n : Nat} (h : isPl a n = true) (hn : n ≤ 6) : ∃ j : Nat, j < 10 * n ∧ j % 10 < 6 ∧ a = nI j := by
  unfold isPl at h
  rw [Bool.and_eq_true] at h
  obtain ⟨j, hj, rfl⟩ := in_ex h.1 (by omega)
  rw [nI_clamp (by omega), decide_eq_true_eq] at h
  exact ⟨j, hj, h.2, rfl⟩
theorem plN_lt {j n : Nat} (h : j < 10 * n) (h2 : j % 10 < 6) : plN j < 6 * n := by
  unfold plN
  omega
theorem ne_of_nin {a : Int32} {n : Nat} (h : nIn a n = false) (hn : n < 2 ^ 31) : ∀ k, k < n → ¬ a = nI k := fun k hk q => by
  rw [q, in_nI hk hn] at h
  cases h
section
variable (X : Nat × (Nat → Int32))
theorem cPlace (d : Nat) (a c : Int32) {n : Nat} (hn : n ≤ 6) (hc : c = nI n) (M : MM) (w : Int64) (fm : Bool) (l : List (Nat × Nat × Nat)) (t u : Nat) : callN X (d + 1) 85 [vI a, vI c] (M, w, true, fm, l, t, u) = some (some (vI (cond (isPl a n) 1 0)), (M, w, true, fm, l, t, u)) := by
  subst hc
  rw [aX6_isPlace]
  unfold isPl
  by_cases c0 : a < 0
  · rw [if_pos c0]
    have : nIn a (10 * n) = false := by
      rw [nIn_eq, decide_eq_false]
      intro q
      rw [Int32.lt_iff_toInt_lt] at c0
      have h0 : (0 : Int32).toInt = 0 := rfl
      omega
    rw [this]
    rfl
  rw [if_neg c0, if_neg (show ¬ (10 : Int32) = 0 by decide)]
  obtain ⟨j, hj, rfl⟩ := nI_of c0
  rw [if_neg (show ¬ (10 : Int32) = 0 by decide), li10, li6, pk_rem (by omega) (by omega) (by omega), pk_div (by omega) (by omega) (by omega), nI_clamp hj]
  simp (disch := omega) only [nI_leI]
  by_cases c1 : n ≤ j / 10
  · rw [if_pos c1, nin_ge (by omega) hj]
    rfl
  rw [if_neg c1, nin_t (by omega)]
  by_cases c2 : 6 ≤ j % 10
  · rw [if_pos c2, decide_eq_false (by omega)]
    rfl
  · rw [if_neg c2, decide_eq_true (by omega)]
    rfl
theorem cPlOf (d : Nat) {j : Nat} (hj : j < 2 ^ 31) (M : MM) (w : Int64) (fm : Bool) (l : List (Nat × Nat × Nat)) (t u : Nat) : callN X (d + 1) 86 [vI (nI j)] (M, w, true, fm, l, t, u) = some (some (vI (nI (plN j))), (M, w, true, fm, l, t, u)) := by
  rw [aX6_placeOf, if_neg (by decide), if_neg (by decide), li10, li6, pk_rem hj (by omega) (by omega), pk_div hj (by omega) (by omega), pk_mul, nI_add]
  rfl
theorem mPlOf (d : Nat) {j : Nat} (hj : j < 2 ^ 31) (M : MM) (w : Int64) (l : List (Nat × Nat × Nat)) (t u : Nat) : callN X (d + 1) 120 [vI (nI j)] (M, w, true, true, l, t, u) = some (some (vI (nI (plN j))), (M, w, true, true, l, t, u)) := by
  rw [aX7_placeOf, if_neg (by decide), if_neg (by decide), li10, li6, pk_rem hj (by omega) (by omega), pk_div hj (by omega) (by omega), pk_mul, nI_add, Nat.mul_comm 6]
  rfl
theorem mIsOf (d : Nat) {k : Nat} (a : Int32) {M : MM} (w : Int64) (l : List (Nat × Nat × Nat)) (t u : Nat) {g : GW} (h : WM M g) (hB : gP g ≤ 5) (hk : k < 8) : callN X (d + 3) 118 [vR 30 0, vI (nI k), vI a] (M, w, true, true, l, t, u) = some (some (vI (cond (okOf k a (gP g)) 1 0)), (M, w, true, true, l, t, u)) := by
  have pl : ∀ n, n ≤ 6 → (k = 1 ∧ n = 6) ∨ (k = 3 ∧ n = gP g) → nBnd (callN X (d + 2) 111 [vL a.toInt64, vL (0 : Int64), vL (55 : Int64)] (M, w, true, true, l, t, u)) (fun v s2 => nR X (callN X (d + 2)) hX7_isOf 19 [vR 30 0, vI (nI k), vI a] (v.toList ++ []) s2) = some (some (vI (cond (isPl a n) 1 0)), (M, w, true, true, l, t, u)) := by
    intro n hn hkn
    rw [mIn X (d + 1) a (n := 56) rfl, bnd_s, tl_s, bX7_isOf_19, if_b]
    unfold isPl
    cases c0 : nIn a 56
    · have : (nIn a (10 * n) && decide (a.toNatClampNeg % 10 < 6)) = false := by
        cases c1 : nIn a (10 * n)
        · rfl
        · obtain ⟨j, hj, rfl⟩ := in_ex c1 (by omega)
          rw [nI_clamp (by omega), Bool.true_and, decide_eq_false]
          intro q
          have := ne_of_nin c0 (by omega) j (by omega)
          exact this rfl
      rw [this]
      rfl
    obtain ⟨j, hj, rfl⟩ := in_ex c0 (by omega)
    simp only [cond_true]
    rw [if_neg (by decide), li10, pk_rem (by omega) (by omega) (by omega), mMark X d (nI (j % 10)), bnd_s, tl_s, bX7_isOf_29, if_b, nI_clamp (by omega)]
    by_cases c2 : j % 10 < 6
    · rw [nin_t c2, decide_eq_true c2, Bool.and_true]
      simp only [cond_true]
      rw [li1]
      simp (disch := omega) only [nI_eq]
      rcases hkn with ⟨rfl, rfl⟩ | ⟨rfl, rfl⟩
      · rw [if_pos rfl, nin_t (by omega)]
        rfl
      · rw [if_neg (by omega), if_neg (by decide), li10, pk_div (by omega) (by omega) (by omega), mOne X d (nI (j / 10)) w l t u h hB, bnd_s, tl_s, bX7_isOf_45, if_b]
        by_cases c3 : j / 10 < gP g
        · rw [nin_t c3, nin_t (by omega)]
          rfl
        · rw [nin_ge (by omega) (by omega), nin_ge (by omega) (by omega)]
          rfl
    · rw [nin_ge (by omega) (by omega), decide_eq_false c2, Bool.and_false]
      rfl
  rw [show d + 3 = d + 2 + 1 from rfl, aX7_isOf, li1, li3, li7]
  have e0 : (nI k = 0) = (k = 0) := by rw [li0]; exact propext (nI_eq (by omega) (by omega))
  simp (disch := omega) only [nI_eq, e0]
  unfold okOf
  by_cases c1 : k = 1
  · rw [if_pos c1, if_pos c1]
    exact pl 6 (by omega) (Or.inl ⟨c1, rfl⟩)
  rw [if_neg c1, if_neg c1]
  by_cases c3 : k = 3
  · rw [if_pos c3, if_pos c3]
    exact pl (gP g) (by omega) (Or.inr ⟨c3, rfl⟩)
  rw [if_neg c3, if_neg c3]
  by_cases c0 : k = 0
  · rw [if_pos c0, if_pos c0]
    rfl
  rw [if_neg c0, if_neg c0]
  by_cases c7 : k = 7
  · rw [if_pos c7, if_pos c7, mCoast, bnd_s, tl_s, bX7_isOf_68, if_b]
    cases nIn a 6 <;> rfl
  rw [if_neg c7, if_neg c7, mOne X d a w l t u h hB, bnd_s, tl_s, bX7_isOf_79, if_b]
  cases nIn a (gP g) <;> rfl
theorem cTold (d : Nat) {k : Nat} (a : Int32) {M : MM} (w : Int64) (fm : Bool) (l : List (Nat × Nat × Nat)) (t u : Nat) {g : GW} (h : WC M 0 g) (hB : gP g ≤ 5) (hk : k < 8) : callN X (d + 4) 53 [vR 2 0, vI a, vI (nI k)] (M, w, true, fm, l, t, u) = some (some (vI (cond (okOf k a (gP g)) (nI (tVal g k a.toNatClampNeg)) (-2))), (M, w, true, fm, l, t, u)) := by
  rw [show d + 4 = d + 3 + 1 from rfl, aX6_told, li1, li2, li3, li4, li5, li6, li7]
  have e0 : (nI k = 0) = (k = 0) := by rw [li0]; exact propext (nI_eq (by omega) (by omega))
  simp (disch := omega) only [nI_eq, e0]
  unfold okOf tVal
  by_cases c0 : k = 0
  · rw [if_pos c0, if_neg (show ¬ k = 1 by omega), if_neg (show ¬ k = 3 by omega), if_pos c0, if_pos c0, h.1]
    rfl
  rw [if_neg c0, if_neg c0, if_neg c0]
  by_cases c1 : k = 1
  · rw [if_pos c1, if_pos c1, if_pos c1, cPlace X (d + 2) a (nI 6) (n := 6) (by omega) rfl, bnd_s, tl_s, bX6_told_62, if_b]
    cases c : isPl a 6
    · rfl
    obtain ⟨j, hj, hj2, rfl⟩ := isPl_ex c (by omega)
    have hp := plN_lt hj hj2
    simp only [cond_true]
    rw [cPlOf X (d + 2) (show j < 2 ^ 31 by omega), bnd_s, tl_s, bX6_told_76, nin_t hp, cond_true, nI_clamp (by omega), nI_clamp (by omega), h.2.2.2.1 _ hp]
  rw [if_neg c1, if_neg c1, if_neg c1]
  by_cases c2 : k = 2
  · rw [if_pos c2, if_neg (show ¬ k = 3 by omega), if_neg (show ¬ k = 7 by omega), if_pos c2, cHas X (d + 2) a w fm l t u h hB, bnd_s, tl_s, bX6_told_91, if_b]
    cases c : nIn a (gP g)
    · rfl
    obtain ⟨j, hj, rfl⟩ := in_ex c (by omega)
    simp only [cond_true]
    rw [nin_t (show j < 5 by omega), cond_true, nI_clamp (by omega), h.2.2.2.2.2.2.1 j (by omega)]
  rw [if_neg c2, if_neg c2]
  by_cases c3 : k = 3
  · rw [if_pos c3, if_pos c3, if_pos c3, h.2.2.1, cPlace X (d + 2) a (nI (gP g)) (n := gP g) (by omega) rfl, bnd_s, tl_s, bX6_told_120, if_b]
    cases c : isPl a (gP g)
    · rfl
    obtain ⟨j, hj, hj2, rfl⟩ := isPl_ex c (by omega)
    have hp := plN_lt hj hj2
    simp only [cond_true]
    rw [cPlOf X (d + 2) (show j < 2 ^ 31 by omega), bnd_s, tl_s, bX6_told_134, nin_t (show plN j < 30 by omega), cond_true, nI_clamp (by omega), nI_clamp (by omega), h.2.2.2.2.1 _ (by omega)]
  rw [if_neg c3, if_neg c3, if_neg c3]
  by_cases c4 : k = 4
  · rw [if_pos c4, if_neg (show ¬ k = 7 by omega), if_pos c4, cHas X (d + 2) a w fm l t u h hB, bnd_s, tl_s, bX6_told_149, if_b]
    cases c : nIn a (gP g)
    · rfl
    obtain ⟨j, hj, rfl⟩ := in_ex c (by omega)
    simp only [cond_true]
    rw [nin_t (show j < 5 by omega), cond_true, nI_clamp (by omega), h.2.2.2.2.2.1 j (by omega)]
  rw [if_neg c4, if_neg c4]
  by_cases c5 : k = 5
  · rw [if_pos c5, if_neg (show ¬ k = 7 by omega), if_pos c5, cHas X (d + 2) a w fm l t u h hB, bnd_s, tl_s, bX6_told_175, if_b]
    cases c : nIn a (gP g)
    · rfl
    obtain ⟨j, hj, rfl⟩ := in_ex c (by omega)
    simp only [cond_true]
    rw [nin_t (show j < 5 by omega), cond_true, nI_clamp (by omega), h.2.2.2.2.2.2.2 j (by omega)]
  rw [if_neg c5, if_neg c5]
  by_cases c6 : k = 6
  · rw [if_pos c6, if_neg (show ¬ k = 7 by omega), if_pos c6, cHas X (d + 2) a w fm l t u h hB, bnd_s, tl_s, bX6_told_201, if_b]
    cases c : nIn a (gP g)
    · rfl
    obtain ⟨j, hj, rfl⟩ := in_ex c (by omega)
    simp only [cond_true]
    rw [sX5_allInShoe X (d + 1) 0 w fm l t u h (by omega), bnd_s, tl_s, bX6_told_212, nI_clamp (by omega)]
  rw [if_neg c6, if_neg c6]
  have c7 : k = 7 := by omega
  rw [if_pos c7, if_pos c7, cCoast, bnd_s, tl_s, bX6_told_222, if_b]
  cases c : nIn a 6
  · rfl
  obtain ⟨j, hj, rfl⟩ := in_ex c (by omega)
  simp only [cond_true]
  rw [sX5_allOnCoast X (d + 1) 0 w fm l t u h (by omega), bnd_s, tl_s, bX6_told_233, nI_clamp (by omega)]
theorem mTold (d : Nat) {k : Nat} (a : Int32) {M : MM} (w : Int64) (l : List (Nat × Nat × Nat)) (t u : Nat) {g : GW} (h : WM M g) (hB : gP g ≤ 5) (hk : k < 8) : callN X (d + 4) 124 [vR 30 0, vI a, vI (nI k)] (M, w, true, true, l, t, u) = some (some (vI (cond (okOf k a (gP g)) (nI (tVal g k a.toNatClampNeg)) (-2))), (M, w, true, true, l, t, u)) := by
  rw [show d + 4 = d + 3 + 1 from rfl, aX7_told, mIn X (d + 2) (nI k) (n := 8) rfl, nin_t hk, bnd_s, tl_s, bX7_told_9, if_b]
  simp only [cond_true]
  rw [mIsOf X d a w l t u h hB hk, bnd_s, tl_s, bX7_told_18, if_b]
  cases c : okOf k a (gP g)
  · rfl
  simp only [cond_true]
  have hk8 : k = 0 ∨ k = 1 ∨ k = 2 ∨ k = 3 ∨ k = 4 ∨ k = 5 ∨ k = 6 ∨ k = 7 := by omega
  rcases hk8 with rfl | rfl | rfl | rfl | rfl | rfl | rfl | rfl
  · rw [if_neg (by decide), if_pos (by decide), h.1]
    rfl
  · obtain ⟨j, hj, hj2, rfl⟩ := isPl_ex (a := a) (n := 6) c (by omega)
    have hp := plN_lt hj hj2
    rw [if_neg (by decide), if_neg (by decide), if_pos (by decide), mPlOf X (d + 2) (show j < 2 ^ 31 by omega), bnd_s, tl_s, bX7_told_53, nin_t hp, cond_true, nI_clamp (by omega), nI_clamp (by omega), h.2.2.2.1 _ hp]
    rfl
  · obtain ⟨j, hj, rfl⟩ := in_ex (a := a) (n := gP g) c (by omega)
    rw [if_neg (by decide), if_neg (by decide), if_neg (by decide), if_pos (by decide), li2, pk_mul, nin_t (show 2 * j < 10 by omega), cond_true, nI_clamp (by omega), nI_clamp (by omega), (h.2.2.2.2.2.2 j (by omega)).1]
    rfl
  · obtain ⟨j, hj, hj2, rfl⟩ := isPl_ex (a := a) (n := gP g) c (by omega)
    have hp := plN_lt hj hj2
    rw [if_neg (by decide), if_neg (by decide), if_neg (by decide), if_neg (by decide), mPlOf X (d + 2) (show j < 2 ^ 31 by omega), bnd_s, tl_s, bX7_told_81, nin_t (show plN j < 30 by omega), cond_true, nI_clamp (by omega), nI_clamp (by omega), h.2.2.2.2.1 _ (by omega)]
    rfl
  · obtain ⟨j, hj, rfl⟩ := in_ex (a := a) (n := gP g) c (by omega)
    rw [if_pos (by decide), if_pos (by decide), nin_t (show j < 5 by omega), cond_true, bX7_told_134, nI_clamp (by omega), h.2.2.2.2.2.1 j hj]
    rfl
  · obtain ⟨j, hj, rfl⟩ := in_ex (a := a) (n := gP g) c (by omega)
    rw [if_pos (by decide), if_neg (by decide), if_pos (by decide), li1, li2, pk_mul, nI_add, nin_t (show 2 * j + 1 < 10 by omega), cond_true, bX7_told_134, nI_clamp (by omega), nI_clamp (by omega), (h.2.2.2.2.2.2 j (by omega)).2]
    rfl
  · obtain ⟨j, hj, rfl⟩ := in_ex (a := a) (n := gP g) c (by omega)
    rw [if_pos (by decide), if_neg (by decide), if_neg (by decide), if_pos (by decide), sX7_shoeOf X (d + 2) w l t u h (by omega), bnd_s, tl_s, bX7_told_126, bX7_told_134, nI_clamp (by omega)]
    rfl
  · obtain ⟨j, hj, rfl⟩ := in_ex (a := a) (n := 6) c (by omega)
    rw [if_pos (by decide), if_neg (by decide), if_neg (by decide), if_neg (by decide), sX7_coastOf X (d + 2) w l t u h (by omega), bnd_s, tl_s, bX7_told_134, nI_clamp (by omega)]
    rfl
theorem q_told (a k : Int32) : Stq X 53 124 [vI a, vI k] := fun s hB => by
  have hP := hB.1.2.2.2.2.2
  cases c : nIn k 8
  · have hne := ne_of_nin c (by omega)
    refine ⟨vI (-2), s, CSp.n X (fun d M w t u h => ?_), MSp.n X (fun d M w t u h => ?_), hB⟩
    · rw [show d + 200 = d + 199 + 1 from rfl, aX6_told, if_neg (show ¬ k = (0 : Int32) from hne 0 (by omega)), if_neg (show ¬ k = (1 : Int32) from hne 1 (by omega)), if_neg (show ¬ k = (2 : Int32) from hne 2 (by omega)), if_neg (show ¬ k = (3 : Int32) from hne 3 (by omega)), if_neg (show ¬ k = (4 : Int32) from hne 4 (by omega)), if_neg (show ¬ k = (5 : Int32) from hne 5 (by omega)), if_neg (show ¬ k = (6 : Int32) from hne 6 (by omega)), if_neg (show ¬ k = (7 : Int32) from hne 7 (by omega))]
    · rw [show d + 200 = d + 199 + 1 from rfl, aX7_told, mIn X (d + 198) k (n := 8) rfl, c, bnd_s, tl_s, bX7_told_9, if_b]
      rfl
  · obtain ⟨k, hk, rfl⟩ := in_ex c (by omega)
    exact ⟨_, s, CSp.n X (fun d M w t u h => cTold X (d + 196) a w true [] t u h.1 hP hk), MSp.n X (fun d M w t u h => mTold X (d + 196) a w [] t u h.1 hP hk), hB⟩
end
