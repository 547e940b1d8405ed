/-! copy -/
theorem sub_toInt {a b : Nat} (ha : a < 2 ^ 31) (hb : b < 2 ^ 31) : (nI a - nI b).toInt = (a : Int) - b := by
  rw [Int32.toInt_sub, nI_toInt ha, nI_toInt hb, Int.bmod_eq_of_le (by omega) (by omega)]
def rnB (z : Nat) (i n : Int32) : Bool := decide (0 ≤ i.toInt ∧ 0 ≤ n.toInt ∧ i.toInt + n.toInt ≤ z)
theorem rnB_ex {z : Nat} {i n : Int32} (h : rnB z i n = true) (hz : z < 2 ^ 31) : ∃ a b : Nat, a + b ≤ z ∧ i = nI a ∧ n = nI b := by
  unfold rnB at h
  rw [decide_eq_true_eq] at h
  have h0 : (0 : Int32).toInt = 0 := rfl
  obtain ⟨a, ha, rfl⟩ := nI_of (x := i) (by rw [Int32.lt_iff_toInt_lt]; omega)
  obtain ⟨b, hb, rfl⟩ := nI_of (x := n) (by rw [Int32.lt_iff_toInt_lt]; omega)
  rw [nI_toInt ha, nI_toInt hb] at h
  exact ⟨a, b, by omega, rfl, rfl⟩
theorem rnB_t {z a b : Nat} (h : a + b ≤ z) (hz : z < 2 ^ 31) : rnB z (nI a) (nI b) = true := by
  unfold rnB
  rw [decide_eq_true_eq, nI_toInt (by omega), nI_toInt (by omega)]
  omega
def cpR (f g : Nat → Int32) (i j n : Nat) : Nat → Int32 := fun c => if j ≤ c ∧ c < j + n then f (i + (c - j)) else g c
section
variable (X : Nat × (Nat → Int32))
theorem cRun (d : Nat) {r z : Nat} (i n : Int32) {M : MM} (w : Int64) (t u : Nat) (hz : M 18 r 1 = nI z) (hl : z < 2 ^ 31) : callN X (d + 1) 32 [vR 18 r, vI i, vI n] (M, w, true, true, [], t, u) = some (some (vI (cond (rnB z i n) 1 0)), (M, w, true, true, [], t, u)) := by
  have h0 : (0 : Int32).toInt = 0 := rfl
  rw [aX3_hasRun, hz]
  unfold rnB
  by_cases c1 : i < 0
  · rw [if_pos c1, decide_eq_false (fun q => by rw [Int32.lt_iff_toInt_lt] at c1; omega)]
    rfl
  rw [if_neg c1]
  by_cases c2 : n < 0
  · rw [if_pos c2, decide_eq_false (fun q => by rw [Int32.lt_iff_toInt_lt] at c2; omega)]
    rfl
  rw [if_neg c2]
  obtain ⟨a, ha, rfl⟩ := nI_of c1
  obtain ⟨b, hb, rfl⟩ := nI_of c2
  rw [nI_toInt ha, nI_toInt hb]
  by_cases c3 : z < a
  · rw [if_pos (nI_lt c3 ha), decide_eq_false (by omega)]
    rfl
  rw [if_neg (nI_nlt (by omega) hl), pk_sub (by omega)]
  by_cases c4 : z - a < b
  · rw [if_pos (nI_lt c4 hb), decide_eq_false (by omega)]
    rfl
  · rw [if_neg (nI_nlt (by omega) (by omega)), decide_eq_true (by omega)]
    rfl
/-- the model's test of both runs -/
theorem mRuns {α : Type} {z z2 : Nat} (i j n : Int32) (hz : z ≤ 40) (hz2 : z2 ≤ 40) (A B : α) : (if n < 0 then A else if i < 0 then A else if j < 0 then A else if nI z - n < i then A else if j ≤ nI z2 - n then B else A) = cond (rnB z i n && rnB z2 j n) B A := by
  have h0 : (0 : Int32).toInt = 0 := rfl
  unfold rnB
  by_cases c1 : n < 0
  · rw [if_pos c1, decide_eq_false (fun q => by rw [Int32.lt_iff_toInt_lt] at c1; omega)]
    rfl
  rw [if_neg c1]
  by_cases c2 : i < 0
  · rw [if_pos c2, decide_eq_false (fun q => by rw [Int32.lt_iff_toInt_lt] at c2; omega)]
    rfl
  rw [if_neg c2]
  by_cases c3 : j < 0
  · rw [if_pos c3, decide_eq_false (p := 0 ≤ j.toInt ∧ 0 ≤ n.toInt ∧ j.toInt + n.toInt ≤ z2) (fun q => by rw [Int32.lt_iff_toInt_lt] at c3; omega), Bool.and_false]
    rfl
  rw [if_neg c3]
  obtain ⟨b, hb, rfl⟩ := nI_of c1
  obtain ⟨a, ha, rfl⟩ := nI_of c2
  obtain ⟨e, he, rfl⟩ := nI_of c3
  have s1 := sub_toInt (a := z) (b := b) (by omega) hb
  have s2 := sub_toInt (a := z2) (b := b) (by omega) hb
  by_cases c4 : nI z - nI b < nI a
  · rw [if_pos c4]
    rw [Int32.lt_iff_toInt_lt, s1, nI_toInt ha] at c4
    rw [decide_eq_false (p := 0 ≤ (nI a).toInt ∧ 0 ≤ (nI b).toInt ∧ (nI a).toInt + (nI b).toInt ≤ z) (by rw [nI_toInt ha, nI_toInt hb]; omega)]
    rfl
  · rw [if_neg c4]
    rw [Int32.lt_iff_toInt_lt, s1, nI_toInt ha] at c4
    rw [decide_eq_true (p := 0 ≤ (nI a).toInt ∧ 0 ≤ (nI b).toInt ∧ (nI a).toInt + (nI b).toInt ≤ z) (by rw [nI_toInt ha, nI_toInt hb]; omega)]
    by_cases c5 : nI e ≤ nI z2 - nI b
    · rw [if_pos c5]
      rw [Int32.le_iff_toInt_le, s2, nI_toInt he] at c5
      rw [decide_eq_true (p := 0 ≤ (nI e).toInt ∧ 0 ≤ (nI b).toInt ∧ (nI e).toInt + (nI b).toInt ≤ z2) (by rw [nI_toInt he, nI_toInt hb]; omega)]
      rfl
    · rw [if_neg c5]
      rw [Int32.le_iff_toInt_le, s2, nI_toInt he] at c5
      rw [decide_eq_false (p := 0 ≤ (nI e).toInt ∧ 0 ≤ (nI b).toInt ∧ (nI e).toInt + (nI b).toInt ≤ z2) (by rw [nI_toInt he, nI_toInt hb]; omega)]
      rfl
theorem mCopy (d : Nat) {i o a e n : Nat} (M : MM) (w : Int64) (t u : Nat) (hi : i < 4) (ho : o < 4) (ha : a + n ≤ 40) (he : e + n ≤ 40) : ∃ M2, (if nI i = nI o then if nI e ≤ nI a then nR X (callN X d) hX7_copy 121 [vR 30 0, vI (nI i), vI (nI a), vI (nI o), vI (nI e), vI (nI n), vI 0, vI 0, vX] [] (M, w, true, true, [], t, u) else nR X (callN X d) hX7_copy 121 [vR 30 0, vI (nI i), vI (nI a), vI (nI o), vI (nI e), vI (nI n), vI 1, vI 0, vX] [] (M, w, true, true, [], t, u) else nR X (callN X d) hX7_copy 121 [vR 30 0, vI (nI i), vI (nI a), vI (nI o), vI (nI e), vI (nI n), vI 0, vI 0, vX] [] (M, w, true, true, [], t, u)) = some (some (vI (nI n)), (M2, w, true, true, [], t, u)) ∧ (∀ c, e ≤ c → c < e + n → M2 48 0 (40 * o + c) = M 48 0 (40 * i + (a + (c - e)))) ∧ ∀ k x j, ¬ (k = 48 ∧ 40 * o + e ≤ j ∧ j < 40 * o + e + n) → M2 k x j = M k x j := by
  have up : ∀ (m q : Nat) (Mi : MM) (x8 : AV), (i = o → e ≤ a) → q + m = n → (∀ c, e ≤ c → c < e + q → Mi 48 0 (40 * o + c) = M 48 0 (40 * i + (a + (c - e)))) → (∀ k x j, ¬ (k = 48 ∧ 40 * o + e ≤ j ∧ j < 40 * o + e + q) → Mi k x j = M k x j) → ∃ M2, nR X (callN X d) hX7_copy 121 [vR 30 0, vI (nI i), vI (nI a), vI (nI o), vI (nI e), vI (nI n), vI 0, vI (nI q), x8] [] (Mi, w, true, true, [], t, u) = some (some (vI (nI n)), (M2, w, true, true, [], t, u)) ∧ (∀ c, e ≤ c → c < e + n → M2 48 0 (40 * o + c) = M 48 0 (40 * i + (a + (c - e)))) ∧ ∀ k x j, ¬ (k = 48 ∧ 40 * o + e ≤ j ∧ j < 40 * o + e + n) → M2 k x j = M k x j := by
    intro m
    induction m with
    | zero =>
      intro q Mi x8 hio hq h1 h2
      have hq : q = n := hq
      subst hq
      rw [bX7_copy_121, if_pos (nI_le (Nat.le_refl _) (by omega))]
      exact ⟨Mi, rfl, h1, h2⟩
    | succ m ih =>
      intro q Mi x8 hio hq h1 h2
      rw [bX7_copy_121, if_neg (nI_ge (by omega) (by omega)), if_pos rfl, li40, pk_mul, pk_mul, nI_add, nI_add, nI_add, nI_add, nin_t (show 40 * i + a + q < 160 by omega), nin_t (show 40 * o + e + q < 160 by omega), cond_tt rfl, cond_tt rfl, nI_clamp (by omega), nI_clamp (by omega), nI_1, h2 48 0 (40 * i + a + q) (by omega)]
      refine ih (q + 1) _ _ hio (by omega) (fun c hc1 hc2 => ?_) (fun k x j z => (nst_fr (by omega)).trans (h2 k x j (by omega)))
      by_cases cc : c = e + q
      · rw [cc, show 40 * o + (e + q) = 40 * o + e + q by omega, nst_self, show 40 * i + (a + (e + q - e)) = 40 * i + a + q by omega]
      · rw [nst_j (by omega)]
        exact h1 c hc1 (by omega)
  have dn : ∀ (m q : Nat) (Mi : MM) (x8 : AV), (i = o ∧ a < e) → q + m = n → (∀ c, e + (n - q) ≤ c → c < e + n → Mi 48 0 (40 * o + c) = M 48 0 (40 * i + (a + (c - e)))) → (∀ k x j, ¬ (k = 48 ∧ 40 * o + (e + (n - q)) ≤ j ∧ j < 40 * o + e + n) → Mi k x j = M k x j) → ∃ M2, nR X (callN X d) hX7_copy 121 [vR 30 0, vI (nI i), vI (nI a), vI (nI o), vI (nI e), vI (nI n), vI 1, vI (nI q), x8] [] (Mi, w, true, true, [], t, u) = some (some (vI (nI n)), (M2, w, true, true, [], t, u)) ∧ (∀ c, e ≤ c → c < e + n → M2 48 0 (40 * o + c) = M 48 0 (40 * i + (a + (c - e)))) ∧ ∀ k x j, ¬ (k = 48 ∧ 40 * o + e ≤ j ∧ j < 40 * o + e + n) → M2 k x j = M k x j := by
    intro m
    induction m with
    | zero =>
      intro q Mi x8 hio hq h1 h2
      have hq : q = n := hq
      subst hq
      rw [bX7_copy_121, if_pos (nI_le (Nat.le_refl _) (by omega))]
      exact ⟨Mi, rfl, fun c z1 z2 => h1 c (by omega) z2, fun k x j z => h2 k x j (by omega)⟩
    | succ m ih =>
      intro q Mi x8 hio hq h1 h2
      obtain ⟨p, rfl⟩ : ∃ p, n = p + 1 + q := ⟨m, by omega⟩
      have e1 : nI (p + 1 + q) - 1 - nI q = nI p := by
        rw [show p + 1 + q = (p + q) + 1 by omega, nI_pred, pk_sub (by omega), show p + q - q = p by omega]
      rw [bX7_copy_121, if_neg (nI_ge (by omega) (by omega)), if_neg (by decide), e1, li40, pk_mul, pk_mul, nI_add, nI_add, nI_add, nI_add, nin_t (show 40 * i + a + p < 160 by omega), nin_t (show 40 * o + e + p < 160 by omega), cond_tt rfl, cond_tt rfl, nI_clamp (by omega), nI_clamp (by omega), nI_1, h2 48 0 (40 * i + a + p) (by omega)]
      refine ih (q + 1) _ _ hio (by omega) (fun c hc1 hc2 => ?_) (fun k x j z => (nst_fr (by omega)).trans (h2 k x j (by omega)))
      by_cases cc : c = e + p
      · rw [cc, show 40 * o + (e + p) = 40 * o + e + p by omega, nst_self, show 40 * i + (a + (e + p - e)) = 40 * i + a + p by omega]
      · rw [nst_j (by omega)]
        exact h1 c (by omega) hc2
  by_cases c : i = o
  · rw [if_pos (congrArg nI c)]
    by_cases c2 : e ≤ a
    · rw [if_pos (nI_le c2 (by omega))]
      exact up n 0 M vX (fun _ => c2) (Nat.zero_add _) (fun c z1 z2 => by omega) (fun _ _ _ _ => rfl)
    · rw [if_neg (nI_ge (by omega) (by omega))]
      exact dn n 0 M vX ⟨c, by omega⟩ (Nat.zero_add _) (fun c z1 z2 => by omega) (fun _ _ _ _ => rfl)
  · rw [if_neg (fun z => c ((nI_eq (by omega) (by omega)).mp z))]
    exact up n 0 M vX (fun q => absurd q c) (Nat.zero_add _) (fun c z1 z2 => by omega) (fun _ _ _ _ => rfl)
theorem q_copy (a i b j n : Int32) : Stq X 77 189 [vI a, vI i, vI b, vI j, vI n] := fun s hB => by
  cases c1 : nIn a 4
  · refine q_bad X hB (vI (-2)) (fun d M w t u h => ?_) (fun d M w t u h => ?_)
    · rw [show d + 200 = d + 199 + 1 from rfl, aX6_copy, cSheet, c1, bnd_s, tl_s, bX6_copy_4, if_b]
      rfl
    · rw [show d + 200 = d + 199 + 1 from rfl, aX7_copy, mSheet, c1, bnd_s, tl_s, bX7_copy_4, if_b]
      rfl
  cases c2 : nIn b 4
  · refine q_bad X hB (vI (-2)) (fun d M w t u h => ?_) (fun d M w t u h => ?_)
    · rw [show d + 200 = d + 199 + 1 from rfl, aX6_copy, cSheet, c1, bnd_s, tl_s, bX6_copy_4, if_b, cond_tt rfl, cSheet, c2, bnd_s, tl_s, bX6_copy_11, if_b]
      rfl
    · rw [show d + 200 = d + 199 + 1 from rfl, aX7_copy, mSheet, c1, bnd_s, tl_s, bX7_copy_4, if_b, cond_tt rfl, mSheet, c2, bnd_s, tl_s, bX7_copy_11, if_b]
      rfl
  obtain ⟨p, hp, rfl⟩ := in_ex c1 (by omega)
  obtain ⟨o, ho, rfl⟩ := in_ex c2 (by omega)
  have hbp := hB.2.2.2.2 p hp
  have hbo := hB.2.2.2.2 o ho
  have hc : ∀ (d : Nat) (M : MM) (w : Int64) (t u : Nat), SC M s → callN X (d + 200) 77 [vR 2 0, vI (nI p), vI i, vI (nI o), vI j, vI n] (M, w, true, true, [], t, u) = cond (sH s p).1 (cond (sH s o).1 (nR X (callN X (d + 199)) hX6_copy 46 [vR 2 0, vI (nI p), vI i, vI (nI o), vI j, vI n, vR 18 p, vR 18 o] [vI 0] (M, w, true, true, [], t, u)) (some (some (vI (-11)), (M, w, true, true, [], t, u)))) (some (some (vI (-11)), (M, w, true, true, [], t, u))) := by
    intro d M w t u h
    rw [show d + 200 = d + 199 + 1 from rfl, aX6_copy, cSheet, c1, bnd_s, tl_s, bX6_copy_4, if_b, cond_tt rfl, cSheet, c2, bnd_s, tl_s, bX6_copy_11, if_b, cond_tt rfl, c1, cond_tt rfl, c2, cond_tt rfl, nI_clamp (by omega), nI_clamp (by omega), cMiss X (d + 198) w t u (h.2.2.2.2 p hp) (fun q => (hbp q).1), bnd_s, tl_s, bX6_copy_38]
    cases (sH s p).1
    · rfl
    simp only [cond_true]
    rw [if_pos trivial, cMiss X (d + 198) w t u (h.2.2.2.2 o ho) (fun q => (hbo q).1), bnd_s, tl_s]
    cases (sH s o).1
    · rw [bX6_copy_46]
      rfl
    · rfl
  have hm : ∀ (d : Nat) (M : MM) (w : Int64) (t u : Nat), SM M s → callN X (d + 200) 189 [vR 30 0, vI (nI p), vI i, vI (nI o), vI j, vI n] (M, w, true, true, [], t, u) = nR X (callN X (d + 199)) hX7_copy 11 [vR 30 0, vI (nI p), vI i, vI (nI o), vI j, vI n, vX, vX, vX] [vI 1] (M, w, true, true, [], t, u) := by
    intro d M w t u h
    rw [show d + 200 = d + 199 + 1 from rfl, aX7_copy, mSheet, c1, bnd_s, tl_s, bX7_copy_4, if_b, cond_tt rfl, mSheet, c2, bnd_s, tl_s]
    rfl
  cases c3 : (sH s p).1
  · refine q_bad X hB (vI (-11)) (fun d M w t u h => by rw [hc d M w t u h, c3]; rfl) (fun d M w t u h => ?_)
    rw [hm d M w t u h, bX7_copy_11, if_neg (by decide), c1, cond_tt rfl, nI_clamp (by omega), (h.2.2.2.2 p hp).1, c3]
    rfl
  cases c4 : (sH s o).1
  · refine q_bad X hB (vI (-11)) (fun d M w t u h => by rw [hc d M w t u h, c3, c4]; rfl) (fun d M w t u h => ?_)
    rw [hm d M w t u h, bX7_copy_11, if_neg (by decide), c1, cond_tt rfl, nI_clamp (by omega), (h.2.2.2.2 p hp).1, c3, if_b, cond_tt rfl, c2, cond_tt rfl, nI_clamp (by omega), (h.2.2.2.2 o ho).1, c4]
    rfl
  have hbp := hbp c3
  have hbo := hbo c4
  have hm2 : ∀ (d : Nat) (M : MM) (w : Int64) (t u : Nat), SM M s → callN X (d + 200) 189 [vR 30 0, vI (nI p), vI i, vI (nI o), vI j, vI n] (M, w, true, true, [], t, u) = if nI (sH s p).2.1 = nI (sH s o).2.1 then cond (rnB (sH s p).2.2.1 i n && rnB (sH s o).2.2.1 j n) (if nI p = nI o then if j ≤ i then nR X (callN X (d + 199)) hX7_copy 121 [vR 30 0, vI (nI p), vI i, vI (nI o), vI j, vI n, vI 0, vI 0, vX] [] (M, w, true, true, [], t, u) else nR X (callN X (d + 199)) hX7_copy 121 [vR 30 0, vI (nI p), vI i, vI (nI o), vI j, vI n, vI 1, vI 0, vX] [] (M, w, true, true, [], t, u) else nR X (callN X (d + 199)) hX7_copy 121 [vR 30 0, vI (nI p), vI i, vI (nI o), vI j, vI n, vI 0, vI 0, vX] [] (M, w, true, true, [], t, u)) (some (some (vI (-12)), (M, w, true, true, [], t, u))) else some (some (vI (-13)), (M, w, true, true, [], t, u)) := by
    intro d M w t u h
    have h9 := (h.2.2.2.2 p hp).2 c3
    have h8 := (h.2.2.2.2 o ho).2 c4
    rw [hm d M w t u h, bX7_copy_11, if_neg (by decide), c1, cond_tt rfl, nI_clamp (show p < 2 ^ 31 by omega), (h.2.2.2.2 p hp).1, c3, if_b, cond_tt rfl, c2, cond_tt rfl, nI_clamp (show o < 2 ^ 31 by omega), (h.2.2.2.2 o ho).1, c4, if_b, cond_tt rfl, cond_tt rfl, cond_tt rfl, cond_tt rfl, cond_tt rfl, h9.1, h8.1, h9.2.1, h8.2.1, mRuns i j n hbp.2 hbo.2]
  by_cases c5 : (sH s p).2.1 = (sH s o).2.1
  rotate_left
  · have hne : ¬ nI (sH s p).2.1 = nI (sH s o).2.1 := fun q => c5 ((nI_eq (by omega) (by omega)).mp q)
    refine q_bad X hB (vI (-13)) (fun d M w t u h => ?_) (fun d M w t u h => ?_)
    · rw [hc d M w t u h, c3, c4, cond_tt rfl, cond_tt rfl, bX6_copy_46, if_pos rfl, ((h.2.2.2.2 p hp).2 c3).1, ((h.2.2.2.2 o ho).2 c4).1, if_neg hne]
    · rw [hm2 d M w t u h, if_neg hne]
  have hc2 : ∀ (d : Nat) (M : MM) (w : Int64) (t u : Nat), SC M s → callN X (d + 200) 77 [vR 2 0, vI (nI p), vI i, vI (nI o), vI j, vI n] (M, w, true, true, [], t, u) = cond (rnB (sH s p).2.2.1 i n) (cond (rnB (sH s o).2.2.1 j n) (cond (decide (¬ i < 0 ∧ ¬ j < 0 ∧ ¬ n < 0 ∧ i.toNatClampNeg + n.toNatClampNeg ≤ 40 ∧ j.toNatClampNeg + n.toNatClampNeg ≤ 40)) (some (some (vI n), (nCpy M 19 p i.toNatClampNeg 19 o j.toNatClampNeg n.toNatClampNeg, w, true, true, [], t, u))) none) (some (some (vI (-12)), (M, w, true, true, [], t, u)))) (some (some (vI (-12)), (M, w, true, true, [], t, u))) := by
    intro d M w t u h
    have h9 := (h.2.2.2.2 p hp).2 c3
    have h8 := (h.2.2.2.2 o ho).2 c4
    rw [hc d M w t u h, c3, c4, cond_tt rfl, cond_tt rfl, bX6_copy_46, if_pos rfl, h9.1, h8.1, if_pos (congrArg nI c5), cRun X (d + 198) i n w t u h9.2.1 (by omega), bnd_s, tl_s, bX6_copy_76, if_b, cRun X (d + 198) j n w t u h8.2.1 (by omega), bnd_s, tl_s, bX6_copy_88, if_b]
  cases c6 : rnB (sH s p).2.2.1 i n && rnB (sH s o).2.2.1 j n
  · refine q_bad X hB (vI (-12)) (fun d M w t u h => ?_) (fun d M w t u h => ?_)
    · rw [hc2 d M w t u h]
      revert c6
      cases rnB (sH s p).2.2.1 i n
      · intro _; rfl
      cases rnB (sH s o).2.2.1 j n
      · intro _; rfl
      intro q; cases q
    · rw [hm2 d M w t u h, if_pos (congrArg nI c5), c6]
      rfl
  rw [Bool.and_eq_true] at c6
  obtain ⟨x, y, hxy, rfl, rfl⟩ := rnB_ex c6.1 (by omega)
  obtain ⟨z, y2, hzy, rfl, hyy⟩ := rnB_ex c6.2 (by omega)
  have hb30 : y2 < 2 ^ 31 := by omega
  have : y = y2 := (nI_eq (by omega) hb30).mp hyy
  subst this
  refine ⟨vI (nI y), setH s o (true, (sH s o).2.1, (sH s o).2.2.1, cpR (sH s p).2.2.2 (sH s o).2.2.2 x z y), fun d M w t u h => ?_, fun d M w t u h => ?_, hB.h o (fun _ => hbo)⟩
  · have h9 := (h.2.2.2.2 p hp).2 c3
    have h8 := (h.2.2.2.2 o ho).2 c4
    refine ⟨nCpy M 19 p x 19 o z y, ?_, h.h ⟨fun q => (by cases q), fun _ => ⟨(cpy_ne (by omega)).trans h8.1, (cpy_ne (by omega)).trans h8.2.1, fun c hc => ?_⟩⟩ (fun k a j _ q => cpy_ne (by omega)), fun k a j q => cpy_ne (by omega)⟩
    · rw [hc2 d M w t u h, c6.1, c6.2, cond_tt rfl, cond_tt rfl, nI_clamp (by omega), nI_clamp (by omega), nI_clamp (by omega), decide_eq_true ⟨nI_pos (by omega), nI_pos (by omega), nI_pos (by omega), by omega, by omega⟩, cond_tt rfl]
    · show _ = cpR (sH s p).2.2.2 (sH s o).2.2.2 x z y c
      unfold cpR
      by_cases cc : z ≤ c ∧ c < z + y
      · rw [cpy_in cc, if_pos cc]
        exact h9.2.2 _ (by omega)
      · rw [cpy_ne (by omega), if_neg cc]
        exact h8.2.2 c hc
  · have h9 := (h.2.2.2.2 p hp).2 c3
    have h8 := (h.2.2.2.2 o ho).2 c4
    obtain ⟨M2, e1, e2, e3⟩ := mCopy X (d + 199) (i := p) (o := o) (a := x) (e := z) (n := y) M w t u hp ho (by omega) (by omega)
    refine ⟨M2, w, t, u, ?_, h.h hB ⟨(e3 45 0 o (by omega)).trans ((h.2.2.2.2 o ho).1.trans (by rw [c4])), fun _ => ⟨(e3 46 0 o (by omega)).trans h8.1, (e3 47 0 o (by omega)).trans h8.2.1, fun c hc => ?_⟩⟩ (fun k a j q1 q2 q3 q4 q5 q6 => e3 k a j (by omega)), fun k a j q => e3 k a j (by omega), by omega, by omega⟩
    · rw [hm2 d M w t u h, if_pos (congrArg nI c5), c6.1, c6.2]
      exact e1
    · show _ = cpR (sH s p).2.2.2 (sH s o).2.2.2 x z y c
      unfold cpR
      by_cases cc : z ≤ c ∧ c < z + y
      · rw [e2 c cc.1 cc.2, if_pos cc]
        exact h9.2.2 _ (by omega)
      · rw [e3 48 0 _ (by omega), if_neg cc]
        exact h8.2.2 c hc
end
