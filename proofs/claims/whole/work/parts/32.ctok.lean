/-! the class's tokens -/
def RdC (M : MM) (b : Nat → Nat) (n : Nat) : Prop := M 9 0 1 = nI n ∧ n ≤ 160 ∧ (∀ j, j < n → M 10 0 j = nI (b j)) ∧ ∀ j, b j < 256
def fr9 (M M' : MM) : Prop := ∀ k i j, ¬ (k = 9 ∧ 5 ≤ j) → M' k i j = M k i j
theorem fr9.refl (M : MM) : fr9 M M := fun _ _ _ _ => rfl
theorem fr9.trans {M M' M2 : MM} (h : fr9 M M') (h2 : fr9 M' M2) : fr9 M M2 := fun k i j q => (h2 k i j q).trans (h k i j q)
theorem nst_fr {M : MM} {k i j a b c : Nat} {v : Int32} (h : ¬ (a = k ∧ c = j)) : nSt M k i j v a b c = M a b c := if_neg (fun q => h ⟨q.1, q.2.2⟩)
theorem nst_self (M : MM) (k i j : Nat) (v : Int32) : nSt M k i j v k i j = v := if_pos ⟨rfl, rfl, rfl⟩
theorem nst_j {M : MM} {k i j c : Nat} {v : Int32} (h : ¬ c = j) : nSt M k i j v k i c = M k i c := if_neg (fun q => h q.2.2)
theorem fr9.st {M M' : MM} (h : fr9 M M') {j : Nat} (hj : 5 ≤ j) (v : Int32) : fr9 M (nSt M' 9 0 j v) := fun k i c q => (nst_fr (fun z => q ⟨z.1, by omega⟩)).trans (h k i c q)
theorem RdC.fr {M M' : MM} {b : Nat → Nat} {n : Nat} (h : RdC M b n) (hf : fr9 M M') : RdC M' b n := ⟨(hf 9 0 1 (by omega)).trans h.1, h.2.1, fun j hj => (hf 10 0 j (by omega)).trans (h.2.2.1 j hj), h.2.2.2⟩
section
variable (X : Nat × (Nat → Int32))
theorem sX2_isIn (d : Nat) {M : MM} (w : Int64) (fm : Bool) (l : List (Nat × Nat × Nat)) (t u : Nat) {b : Nat → Nat} {n p lo hi : Nat} {a2 a3 : Int32} (h : RdC M b n) (hp : p ≤ n) (h2 : a2 = nI lo) (h3 : a3 = nI hi) (hlo : lo < 256) (hhi : hi < 256) :
    callN X (d + 1) 24 [vR 9 0, vI (nI p), vI a2, vI a3] (M, w, true, fm, l, t, u) = some (some (bV (Nat.blt p n && (Nat.ble lo (b p) && Nat.ble (b p) hi))), (M, w, true, fm, l, t, u)) := by
  obtain ⟨c1, c2, c3, c4⟩ := h
  rw [aX2_isIn, c1, h2, h3]
  rcases Nat.lt_or_ge p n with q | q
  · have hb := c4 p
    rw [if_neg (nI_ge q (by omega)), in_nI (by omega) (by omega), cond_true, nI_clamp (by omega), c3 p q, blt_t q]
    rcases Nat.lt_or_ge (b p) lo with z | z
    · rw [if_pos (nI_lt z (by omega)), ble_f z]; rfl
    · rw [if_neg (nI_nlt z (by omega)), ble_t z]
      rcases Nat.lt_or_ge hi (b p) with y | y
      · rw [if_pos (nI_lt y (by omega)), ble_f y]; rfl
      · rw [if_neg (nI_nlt y (by omega)), ble_t y]; rfl
  · rw [if_pos (nI_le q (by omega)), blt_f q]; rfl
theorem sX2_isSign (d : Nat) {M : MM} (w : Int64) (fm : Bool) (l : List (Nat × Nat × Nat)) (t u : Nat) {x : Nat} (hx : x < 256) : callN X (d + 1) 25 [vI (nI x)] (M, w, true, fm, l, t, u) = some (some (bV (isSg x)), (M, w, true, fm, l, t, u)) := by
  rw [aX2_isSign, show (40 : Int32) = nI 40 from rfl, show (43 : Int32) = nI 43 from rfl, show (45 : Int32) = nI 45 from rfl, show (59 : Int32) = nI 59 from rfl, show (61 : Int32) = nI 61 from rfl]
  simp (disch := omega) only [nI_ltI, nI_leI, nI_eq]
  unfold isSg
  by_cases h1 : x < 40
  · rw [if_pos h1, ble_f h1]
    by_cases h2 : x = 45
    · omega
    · rw [if_neg h2, if_pos (by omega), show (x == 45) = false from by simpa using h2, ble_f (show x < 59 by omega)]; rfl
  · rw [if_neg h1, ble_t (show 40 ≤ x by omega)]
    by_cases h2 : x ≤ 43
    · rw [if_pos h2, ble_t h2]; rfl
    · rw [if_neg h2, ble_f (show 43 < x by omega)]
      by_cases h3 : x = 45
      · rw [if_pos h3, show (x == 45) = true from by simpa using h3]; rfl
      · rw [if_neg h3, show (x == 45) = false from by simpa using h3]
        by_cases h4 : x < 59
        · rw [if_pos h4, ble_f h4]; rfl
        · rw [if_neg h4, ble_t (show 59 ≤ x by omega)]
          by_cases h5 : 61 < x
          · rw [if_pos h5, ble_f h5]; rfl
          · rw [if_neg h5, ble_t (show x ≤ 61 by omega)]; rfl
theorem sX2_wordOf (d : Nat) {M : MM} (w : Int64) (fm : Bool) (l : List (Nat × Nat × Nat)) (t u : Nat) {k : Nat} (hk : k < 12) : callN X (d + 1) 27 [vI (nI k)] (M, w, true, fm, l, t, u) = some (some (vR 1 (k + 1)), (M, w, true, fm, l, t, u)) := by
  rw [aX2_wordOf]
  have : k = 0 ∨ k = 1 ∨ k = 2 ∨ k = 3 ∨ k = 4 ∨ k = 5 ∨ k = 6 ∨ k = 7 ∨ k = 8 ∨ k = 9 ∨ k = 10 ∨ k = 11 := by omega
  rcases this with rfl | rfl | rfl | rfl | rfl | rfl | rfl | rfl | rfl | rfl | rfl | rfl <;> rfl
theorem slen_eq (k : Nat) : nSlen (k + 1) = (wLt k).length := rfl
theorem sch_eq (k j : Nat) : nSch (k + 1) j = nI ((wLt k).getD j 0) := rfl
theorem wLt_lt : ∀ k, k < 12 → (wLt k).length < 7 ∧ ∀ j, j < 7 → (wLt k).getD j 0 < 256 := by decide +kernel
theorem sX2_isToken (d : Nat) {M : MM} (w : Int64) (fm : Bool) (l : List (Nat × Nat × Nat)) (t u : Nat) {b : Nat → Nat} {n q e k : Nat} (h : RdC M b n) (hk : k < 12) (hqe : q ≤ e) (he : e ≤ n) (h5 : M 9 0 5 = nI e) (h7 : M 9 0 7 = nI q) :
    callN X (d + 1) 26 [vR 9 0, vR 1 (k + 1)] (M, w, true, fm, l, t, u) = some (some (bV (mtW b q e k)), (M, w, true, fm, l, t, u)) := by
  obtain ⟨c1, c2, c3, c4⟩ := h
  obtain ⟨w1, w2⟩ := wLt_lt k hk
  have hb13 : Nat.blt (k + 1) 13 = true := blt_t (by omega)
  rw [aX2_isToken, hb13, cond_true, h5, h7, pk_sub hqe, slen_eq, show Int32.ofNat (wLt k).length = nI (wLt k).length from rfl]
  simp (disch := omega) only [nI_eq]
  unfold mtW
  by_cases hl : (wLt k).length = e - q
  · rw [if_pos hl, show (e == q + (wLt k).length) = true from by rw [beq_iff_eq]; omega, Bool.true_and]
    have loop : ∀ m j, j + m = (wLt k).length → nR X (callN X d) hX2_isToken 20 [vR 9 0, vR 1 (k + 1), vI (nI j)] [] (M, w, true, fm, l, t, u) = some (some (bV ((List.range m).all (fun i => b (q + (j + i)) == (wLt k).getD (j + i) 0))), (M, w, true, fm, l, t, u)) := by
      intro m
      induction m with
      | zero =>
        intro j hj
        rw [bX2_isToken_20, hb13, cond_true, slen_eq, show Int32.ofNat (wLt k).length = nI (wLt k).length from rfl, if_pos (nI_le (by omega) (by omega))]
        rfl
      | succ m ih =>
        intro j hj
        rw [bX2_isToken_20, hb13, cond_true, slen_eq, show Int32.ofNat (wLt k).length = nI (wLt k).length from rfl, if_neg (nI_ge (by omega) (by omega)), in_nI (by omega) (by omega), Bool.and_self, cond_true, h7, nI_add, in_nI (by omega) (by omega), cond_true, nI_clamp (by omega), nI_clamp (by omega), c3 (q + j) (by omega), sch_eq]
        have hb := c4 (q + j)
        have hw := w2 j (by omega)
        simp (disch := omega) only [nI_eq]
        have hs : (List.range (m + 1)).all (fun i => b (q + (j + i)) == (wLt k).getD (j + i) 0) = ((b (q + j) == (wLt k).getD j 0) && (List.range m).all (fun i => b (q + (j + 1 + i)) == (wLt k).getD (j + 1 + i) 0)) := by
          rw [List.range_succ_eq_map, List.all_cons, List.all_map]
          rw [show ((fun i => b (q + (j + i)) == (wLt k).getD (j + i) 0) ∘ Nat.succ) = (fun i => b (q + (j + 1 + i)) == (wLt k).getD (j + 1 + i) 0) from funext fun i => by
            show (b (q + (j + (i + 1))) == (wLt k).getD (j + (i + 1)) 0) = _
            rw [show j + (i + 1) = j + 1 + i by omega]]
          rfl
        rw [hs]
        by_cases hc : (wLt k).getD j 0 = b (q + j)
        · rw [if_pos hc, show (b (q + j) == (wLt k).getD j 0) = true from by rw [beq_iff_eq]; exact hc.symm, Bool.true_and, show nI j + (1 : Int32) = nI (j + 1) from nI_add j 1]
          exact ih (j + 1) (by omega)
        · rw [if_neg hc, show (b (q + j) == (wLt k).getD j 0) = false from by rw [beq_eq_false_iff_ne]; exact fun z => hc z.symm, Bool.false_and]
          rfl
    rw [show (0 : Int32) = nI 0 from rfl, loop (wLt k).length 0 (by omega)]
    simp only [Nat.zero_add]
  · rw [if_neg hl, show (e == q + (wLt k).length) = false from by rw [beq_eq_false_iff_ne]; omega, Bool.false_and]
    rfl
/-- what next() leaves -/
def TokC (M : MM) (b : Nat → Nat) (n p : Nat) : Prop := M 9 0 5 = nI (te b n p) ∧ M 9 0 6 = nI (tk b n p) ∧ M 9 0 7 = nI (tq b n p) ∧ (tk b n p = 2 ∨ tk b n p = 3 → M 9 0 8 = nI (tv b n p))
theorem sX2_nextWord (d : Nat) (w : Int64) (fm : Bool) (l : List (Nat × Nat × Nat)) (t u : Nat) {b : Nat → Nat} {n q : Nat} {M : MM} (h : RdC M b n) (hq : q < n) (h5 : M 9 0 5 = nI q) (h7 : M 9 0 7 = nI q) :
    ∃ M', callN X (d + 2) 22 [vR 9 0] (M, w, true, fm, l, t, u) = some (none, (M', w, true, fm, l, t, u)) ∧ fr9 M M' ∧ M' 9 0 5 = nI (sk isLe b n q) ∧ M' 9 0 7 = nI q ∧ M' 9 0 6 = nI (tW (wdI b q (sk isLe b n q))) ∧ (wdI b q (sk isLe b n q) < 6 → M' 9 0 8 = nI (wdI b q (sk isLe b n q))) := by
  have s1 : ∀ p, p ≤ n → ∀ M : MM, RdC M b n → M 9 0 5 = nI p → M 9 0 7 = nI q → ∃ M', nR X (callN X (d + 1)) hX2_nextWord 0 [vR 9 0, vX, vX] [] (M, w, true, fm, l, t, u) = nR X (callN X (d + 1)) hX2_nextWord 44 [vR 9 0, vI (12 : Int32), vI (0 : Int32)] [] (M', w, true, fm, l, t, u) ∧ fr9 M M' ∧ M' 9 0 5 = nI (sk isLe b n p) ∧ M' 9 0 7 = nI q := by
    intro p
    refine sk_ind (P := isLe) (b := b) (n := n) (C := fun p => p ≤ n → ∀ M : MM, RdC M b n → M 9 0 5 = nI p → M 9 0 7 = nI q → ∃ M', nR X (callN X (d + 1)) hX2_nextWord 0 [vR 9 0, vX, vX] [] (M, w, true, fm, l, t, u) = nR X (callN X (d + 1)) hX2_nextWord 44 [vR 9 0, vI (12 : Int32), vI (0 : Int32)] [] (M', w, true, fm, l, t, u) ∧ fr9 M M' ∧ M' 9 0 5 = nI (sk isLe b n p) ∧ M' 9 0 7 = nI q) ?_ ?_ p
    · intro p hs hp M h h5 h7
      refine ⟨M, ?_, fr9.refl M, by rw [sk_stop hs]; exact h5, h7⟩
      have hn := h.2.1
      rw [bX2_nextWord_0, h.1, h5]
      rcases Nat.lt_or_ge p n with z | z
      · rw [if_neg (nI_ge z (by omega)), sX2_isIn X d w fm l t u h hp (show (97 : Int32) = nI 97 from rfl) (show (122 : Int32) = nI 122 from rfl) (by omega) (by omega), bnd_s, tl_s]
        have hs2 : (Nat.blt p n && (Nat.ble 97 (b p) && Nat.ble (b p) 122)) = false := hs
        rw [hs2]
        show nR X (callN X (d + 1)) hX2_nextWord 23 [vR 9 0, vX, vX] [vI 0] _ = _
        rw [bX2_nextWord_23, if_pos rfl]
      · rw [if_pos (nI_le z (by omega))]
    · intro p hp hs ih _ M h h5 h7
      have hn := h.2.1
      have hf : fr9 M (nSt M 9 0 5 (nI (p + 1))) := (fr9.refl M).st (by omega) _
      obtain ⟨M', e1, e2, e3, e4⟩ := ih (by omega) (nSt M 9 0 5 (nI (p + 1))) (h.fr hf) (nst_self _ _ _ _ _) ((nst_j (by omega)).trans h7)
      refine ⟨M', ?_, hf.trans e2, by rw [sk_step hs]; exact e3, e4⟩
      rw [← e1, bX2_nextWord_0, h.1, h5, if_neg (nI_ge hp (by omega)), sX2_isIn X d w fm l t u h (Nat.le_of_lt hp) (show (97 : Int32) = nI 97 from rfl) (show (122 : Int32) = nI 122 from rfl) (by omega) (by omega), bnd_s, tl_s]
      have hs2 : (Nat.blt p n && (Nat.ble 97 (b p) && Nat.ble (b p) 122)) = true := hs
      rw [hs2]
      show nR X (callN X (d + 1)) hX2_nextWord 23 [vR 9 0, vX, vX] [vI 1] _ = _
      rw [bX2_nextWord_23, if_neg (by decide), h5, show nI p + (1 : Int32) = nI (p + 1) from nI_add p 1]
  obtain ⟨M1, e1, e2, e3, e4⟩ := s1 q (Nat.le_of_lt hq) M h h5 h7
  have he := sk_le isLe b n q (Nat.le_of_lt hq)
  have hqe := sk_ge isLe b n q
  revert e3 he hqe
  generalize sk isLe b n q = e
  intro e3 he hqe
  have h1 := h.fr e2
  have hn := h.2.1
  have s2 : ∀ m k, k + m = 12 → nR X (callN X (d + 1)) hX2_nextWord 44 [vR 9 0, vI (nI (wdF b q e k)), vI (nI k)] [] (M1, w, true, fm, l, t, u) = nR X (callN X (d + 1)) hX2_nextWord 44 [vR 9 0, vI (nI (wdF b q e 12)), vI (nI 12)] [] (M1, w, true, fm, l, t, u) := by
    intro m
    induction m with
    | zero =>
      intro k hk
      rw [show k = 12 by omega]
    | succ m ih =>
      intro k hk
      rw [← ih (k + 1) (by omega), bX2_nextWord_44, show (12 : Int32) = nI 12 from rfl, if_neg (nI_ge (a := k) (b := 12) (by omega) (by omega)), sX2_wordOf X d w fm l t u (by omega), bnd_s, tl_s, bX2_nextWord_55, sX2_isToken X d w fm l t u h1 (by omega) hqe he e3 e4, bnd_s, tl_s]
      show nR X (callN X (d + 1)) hX2_nextWord 58 _ [bV (mtW b q e k)] _ = _
      unfold bV
      rw [bX2_nextWord_58, show nI k + (1 : Int32) = nI (k + 1) from nI_add k 1]
      show _ = nR X (callN X (d + 1)) hX2_nextWord 44 [vR 9 0, vI (nI (cond (mtW b q e k) k (wdF b q e k))), vI (nI (k + 1))] [] _
      cases mtW b q e k
      · exact if_pos rfl
      · exact if_neg (by decide)
  have hstart : callN X (d + 2) 22 [vR 9 0] (M, w, true, fm, l, t, u) = nR X (callN X (d + 1)) hX2_nextWord 0 [vR 9 0, vX, vX] [] (M, w, true, fm, l, t, u) := rfl
  have hw := wd_le b q e
  have hrun : callN X (d + 2) 22 [vR 9 0] (M, w, true, fm, l, t, u) = nR X (callN X (d + 1)) hX2_nextWord 44 [vR 9 0, vI (nI (wdI b q e)), vI (nI 12)] [] (M1, w, true, fm, l, t, u) := by
    rw [hstart, e1]
    exact s2 12 0 rfl
  revert hrun hw
  generalize wdI b q e = k
  intro hw hrun
  rw [bX2_nextWord_44, show (12 : Int32) = nI 12 from rfl, if_pos (nI_le (a := 12) (b := 12) (by omega) (by omega)), show (6 : Int32) = nI 6 from rfl] at hrun
  simp (disch := omega) only [nI_leI] at hrun
  unfold tW
  by_cases c1 : 6 ≤ k
  · rw [if_pos c1] at hrun
    by_cases c2 : 12 ≤ k
    · rw [if_pos c2] at hrun
      refine ⟨_, hrun, e2.st (by omega) _, (nst_j (by omega)).trans e3, (nst_j (by omega)).trans e4, ?_, fun h => by omega⟩
      rw [nst_self, if_neg (by omega), if_neg (by omega)]
      rfl
    · rw [if_neg c2, show (4 : Int32) = nI 4 from rfl, nI_add, pk_sub (by omega)] at hrun
      refine ⟨_, hrun, e2.st (by omega) _, (nst_j (by omega)).trans e3, (nst_j (by omega)).trans e4, ?_, fun h => by omega⟩
      rw [nst_self, if_neg (by omega), if_pos (by omega)]
      exact congrArg nI (by omega)
  · rw [if_neg c1] at hrun
    refine ⟨_, hrun, (e2.st (by omega) _).st (by omega) _, ((nst_j (by omega)).trans (nst_j (by omega))).trans e3, ((nst_j (by omega)).trans (nst_j (by omega))).trans e4, ?_, fun _ => nst_self _ _ _ _ _⟩
    rw [nst_j (by omega), nst_self, if_pos (by omega)]
    rfl
end
