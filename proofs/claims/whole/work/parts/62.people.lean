/-! people by a sheet -/
def ppR (row : Nat → Int32) (z f : Nat) : Nat → Nat → Nat → GS → Int32 × GS
  | 0, _, c, s => (nI c, s)
  | m + 1, i, c, s => if f + 2 * i + 2 ≤ z then ppR row z f m (i + 1) (if pAns s (row (f + 2 * i)) (row (f + 2 * i + 1)) < 0 then c else c + 1) (pNx s (row (f + 2 * i)) (row (f + 2 * i + 1))) else (-12, s)
theorem pNx_H (s : GS) (a b : Int32) : (pNx s a b).2 = s.2 := by
  unfold pNx
  cases pOk a b
  · rfl
  show (if gP (sW s) = 5 then s else (pG (sW s) a.toNatClampNeg b.toNatClampNeg, s.2)).2 = s.2
  split <;> rfl
theorem ppR_SB {row : Nat → Int32} {z f : Nat} : ∀ (m i c : Nat) (s : GS), SB s → SB (ppR row z f m i c s).2
  | 0, _, _, _, h => h
  | m + 1, i, c, s, h => by
    show SB (if f + 2 * i + 2 ≤ z then ppR row z f m (i + 1) (if pAns s (row (f + 2 * i)) (row (f + 2 * i + 1)) < 0 then c else c + 1) (pNx s (row (f + 2 * i)) (row (f + 2 * i + 1))) else (-12, s)).2
    split
    · exact ppR_SB m _ _ _ (pNx_SB h _ _)
    · exact h
section
variable (X : Nat × (Nat → Int32))
theorem cPpl (d : Nat) {p k z f n : Nat} {row : Nat → Int32} (w : Int64) (t u : Nat) (hp : p < 4) (hz : z ≤ 40) (hf : f ≤ 40) (hn : n ≤ 5) : ∀ (m i c : Nat) (s : GS) (M : MM) (x8 : AV), i + m = n → SC M s → SB s → sH s p = (true, k, z, row) → ∃ M2, nR X (callN X (d + 4)) hX6_people 65 [vR 2 0, vI (nI p), vI (nI k), vI (nI f), vI (nI n), vR 18 p, vI (nI c), vI (nI i), x8] [] (M, w, true, true, [], t, u) = some (some (vI (ppR row z f m i c s).1), (M2, w, true, true, [], t, u)) ∧ SC M2 (ppR row z f m i c s).2 ∧ ∀ k i j, 30 ≤ k → M2 k i j = M k i j := by
  intro m
  induction m with
  | zero =>
    intro i c s M x8 hi hS hB hH
    have hi : i = n := hi
    subst hi
    rw [bX6_people_65, if_pos (nI_le (Nat.le_refl _) (by omega))]
    exact ⟨M, rfl, hS, fun _ _ _ _ => rfl⟩
  | succ m ih =>
    intro i c s M x8 hi hS hB hH
    have h9 := hS.2.2.2.2 p hp
    rw [hH] at h9
    have h9 := h9.2 rfl
    have hz1 : M 18 p 1 = nI z := h9.2.1
    have hrow : ∀ j, j < z → M 19 p j = row j := h9.2.2
    rw [bX6_people_65, if_neg (nI_ge (by omega) (by omega)), li2, pk_mul, nI_add, cRun X (d + 3) (nI (f + 2 * i)) (nI 2) w t u hz1 (by omega), bnd_s, tl_s, bX6_people_88, if_b]
    show ∃ M2, _ = some (some (vI (if f + 2 * i + 2 ≤ z then ppR row z f m (i + 1) (if pAns s (row (f + 2 * i)) (row (f + 2 * i + 1)) < 0 then c else c + 1) (pNx s (row (f + 2 * i)) (row (f + 2 * i + 1))) else (-12, s)).1), _) ∧ SC M2 (if f + 2 * i + 2 ≤ z then ppR row z f m (i + 1) (if pAns s (row (f + 2 * i)) (row (f + 2 * i + 1)) < 0 then c else c + 1) (pNx s (row (f + 2 * i)) (row (f + 2 * i + 1))) else (-12, s)).2 ∧ _
    by_cases cz : f + 2 * i + 2 ≤ z
    · rw [if_pos cz, rnB_t cz (by omega), cond_tt rfl, nin_t (show f + 2 * i < 40 by omega), cond_tt rfl, nI_1, nin_t (show f + 2 * i + 1 < 40 by omega), cond_tt rfl, nI_clamp (by omega), nI_clamp (by omega), hrow _ (by omega), hrow _ (by omega)]
      obtain ⟨M1, e1, e2, e3⟩ := cPerson X (d + 1) (row (f + 2 * i)) (row (f + 2 * i + 1)) w t u hS hB
      have e1 : callN X (d + 4) 52 [vR 2 0, vI (row (f + 2 * i)), vI (row (f + 2 * i + 1))] (M, w, true, true, [], t, u) = some (some (vI (pAns s (row (f + 2 * i)) (row (f + 2 * i + 1)))), (M1, w, true, true, [], t, u)) := e1
      rw [e1, bnd_s, tl_s, bX6_people_116]
      have hH2 : sH (pNx s (row (f + 2 * i)) (row (f + 2 * i + 1))) p = (true, k, z, row) := by
        show (pNx s (row (f + 2 * i)) (row (f + 2 * i + 1))).2.2.2.2 p = _
        rw [pNx_H]
        exact hH
      have hB2 := pNx_SB hB (row (f + 2 * i)) (row (f + 2 * i + 1))
      by_cases cn : pAns s (row (f + 2 * i)) (row (f + 2 * i + 1)) < 0
      · rw [if_pos cn, if_pos cn, nI_1]
        obtain ⟨M2, g1, g2, g3⟩ := ih (i + 1) c _ M1 (vI (nI (f + 2 * i))) (by omega) e2 hB2 hH2
        exact ⟨M2, g1, g2, fun k i j q => (g3 k i j q).trans (e3 k i j (by omega))⟩
      · rw [if_neg cn, if_neg cn, nI_1, nI_1]
        obtain ⟨M2, g1, g2, g3⟩ := ih (i + 1) (c + 1) _ M1 (vI (nI (f + 2 * i))) (by omega) e2 hB2 hH2
        exact ⟨M2, g1, g2, fun k i j q => (g3 k i j q).trans (e3 k i j (by omega))⟩
    · rw [if_neg cz]
      have hr : rnB z (nI (f + 2 * i)) (nI 2) = false := by
        unfold rnB
        rw [decide_eq_false]
        rw [nI_toInt (by omega), nI_toInt (by omega)]
        omega
      rw [hr]
      exact ⟨M, rfl, hS, fun _ _ _ _ => rfl⟩
theorem mPpl (d : Nat) {p k z f n : Nat} {row : Nat → Int32} (w : Int64) (t u : Nat) (hp : p < 4) (hz : z ≤ 40) (hf : f ≤ 40) (hn : n ≤ 5) : ∀ (m i c : Nat) (s : GS) (M : MM) (x7 : AV), i + m = n → SM M s → SB s → sH s p = (true, k, z, row) → ∃ M2, nR X (callN X (d + 4)) hX7_people 75 [vR 30 0, vI (nI p), vI (nI k), vI (nI f), vI (nI n), vI (nI c), vI (nI i), x7] [] (M, w, true, true, [], t, u) = some (some (vI (ppR row z f m i c s).1), (M2, w, true, true, [], t, u)) ∧ SM M2 (ppR row z f m i c s).2 ∧ ∀ k i j, k < 30 → M2 k i j = M k i j := by
  intro m
  induction m with
  | zero =>
    intro i c s M x7 hi hS hB hH
    have hi : i = n := hi
    subst hi
    rw [bX7_people_75, if_pos (nI_le (Nat.le_refl _) (by omega))]
    exact ⟨M, rfl, hS, fun _ _ _ _ => rfl⟩
  | succ m ih =>
    intro i c s M x7 hi hS hB hH
    have h9 := hS.2.2.2.2 p hp
    rw [hH] at h9
    have h9 := h9.2 rfl
    have hz1 : M 47 0 p = nI z := h9.2.1
    have hrow : ∀ j, j < z → M 48 0 (40 * p + j) = row j := h9.2.2
    rw [bX7_people_75, if_neg (nI_ge (by omega) (by omega)), if_neg (nI_pos (by omega)), nin_t hp, cond_tt rfl, nI_clamp (show p < 2 ^ 31 by omega), hz1, li2, pk_mul]
    have hle : (nI f ≤ nI z - nI (2 * i) - nI 2) = (f + 2 * i + 2 ≤ z) := by
      have e1 : (nI z - nI (2 * i) - nI 2).toInt = (z : Int) - (2 * i : Nat) - 2 := by
        rw [Int32.toInt_sub, sub_toInt (by omega) (by omega), nI_toInt (by omega), Int.bmod_eq_of_le (by omega) (by omega)]
        rfl
      rw [Int32.le_iff_toInt_le, e1, nI_toInt (by omega)]
      apply propext
      omega
    simp only [hle]
    show ∃ M2, _ = some (some (vI (if f + 2 * i + 2 ≤ z then ppR row z f m (i + 1) (if pAns s (row (f + 2 * i)) (row (f + 2 * i + 1)) < 0 then c else c + 1) (pNx s (row (f + 2 * i)) (row (f + 2 * i + 1))) else (-12, s)).1), _) ∧ SM M2 (if f + 2 * i + 2 ≤ z then ppR row z f m (i + 1) (if pAns s (row (f + 2 * i)) (row (f + 2 * i + 1)) < 0 then c else c + 1) (pNx s (row (f + 2 * i)) (row (f + 2 * i + 1))) else (-12, s)).2 ∧ _
    by_cases cz : f + 2 * i + 2 ≤ z
    · rw [if_pos cz, if_pos cz, li40, pk_mul, nI_add, nI_add, nI_1, nin_t (show 40 * p + f + 2 * i < 160 by omega), nin_t (show 40 * p + f + 2 * i + 1 < 160 by omega), cond_tt rfl, cond_tt rfl, nI_clamp (by omega), nI_clamp (by omega), show 40 * p + f + 2 * i + 1 = 40 * p + (f + 2 * i + 1) by omega, show 40 * p + f + 2 * i = 40 * p + (f + 2 * i) by omega, hrow _ (by omega), hrow _ (by omega)]
      obtain ⟨M1, e1, e2, e3⟩ := mPerson X (d + 1) (row (f + 2 * i)) (row (f + 2 * i + 1)) w t u hS hB
      have e1 : callN X (d + 4) 123 [vR 30 0, vI (row (f + 2 * i)), vI (row (f + 2 * i + 1))] (M, w, true, true, [], t, u) = some (some (vI (pAns s (row (f + 2 * i)) (row (f + 2 * i + 1)))), (M1, w, true, true, [], t, u)) := e1
      rw [e1, bnd_s]
      show ∃ M2, nR X (callN X (d + 4)) hX7_people 141 [vR 30 0, vI (nI p), vI (nI k), vI (nI f), vI (nI n), vI (nI c), vI (nI i), vI (nI (40 * p + (f + 2 * i)))] [vI (pAns s (row (f + 2 * i)) (row (f + 2 * i + 1))), vI (nI c)] _ = _ ∧ _
      rw [bX7_people_141, Int32.add_zero]
      have hH2 : sH (pNx s (row (f + 2 * i)) (row (f + 2 * i + 1))) p = (true, k, z, row) := by
        show (pNx s (row (f + 2 * i)) (row (f + 2 * i + 1))).2.2.2.2 p = _
        rw [pNx_H]
        exact hH
      have hB2 := pNx_SB hB (row (f + 2 * i)) (row (f + 2 * i + 1))
      by_cases cn : pAns s (row (f + 2 * i)) (row (f + 2 * i + 1)) < 0
      · rw [if_pos cn, if_pos cn, nI_1]
        obtain ⟨M2, g1, g2, g3⟩ := ih (i + 1) c _ M1 (vI (nI (40 * p + (f + 2 * i)))) (by omega) e2 hB2 hH2
        exact ⟨M2, g1, g2, fun k i j q => (g3 k i j q).trans (e3 k i j (by omega) (by omega))⟩
      · rw [if_neg cn, if_neg cn, nI_1, nI_1]
        obtain ⟨M2, g1, g2, g3⟩ := ih (i + 1) (c + 1) _ M1 (vI (nI (40 * p + (f + 2 * i)))) (by omega) e2 hB2 hH2
        exact ⟨M2, g1, g2, fun k i j q => (g3 k i j q).trans (e3 k i j (by omega) (by omega))⟩
    · rw [if_neg cz, if_neg cz]
      exact ⟨M, rfl, hS, fun _ _ _ _ => rfl⟩
theorem q_people (a k f n : Int32) : Stq X 78 190 [vI a, vI k, vI f, vI n] := fun s hB => by
  cases c1 : nIn a 4
  · refine q_bad X hB (vI (-2)) (fun d M w t u h => ?_) (fun d M w t u h => ?_)
    · rw [show d + 200 = d + 199 + 1 from rfl, aX6_people, cSheet, c1, bnd_s, tl_s, bX6_people_4, if_b]
      rfl
    · rw [show d + 200 = d + 199 + 1 from rfl, aX7_people, mSheet, c1, bnd_s, tl_s, bX7_people_4, if_b]
      rfl
  cases c2 : nIn k 3
  · refine q_bad X hB (vI (-2)) (fun d M w t u h => ?_) (fun d M w t u h => ?_)
    · rw [show d + 200 = d + 199 + 1 from rfl, aX6_people, cSheet, c1, bnd_s, tl_s, bX6_people_4, if_b, cond_tt rfl, cSort, c2, bnd_s, tl_s, bX6_people_11, if_b]
      rfl
    · rw [show d + 200 = d + 199 + 1 from rfl, aX7_people, mSheet, c1, bnd_s, tl_s, bX7_people_4, if_b, cond_tt rfl, mIn X (d + 198) k (n := 3) rfl, c2, bnd_s, tl_s, bX7_people_16, if_b]
      rfl
  cases c3 : nIn n 6
  · refine q_bad X hB (vI (-2)) (fun d M w t u h => ?_) (fun d M w t u h => ?_)
    · rw [show d + 200 = d + 199 + 1 from rfl, aX6_people, cSheet, c1, bnd_s, tl_s, bX6_people_4, if_b, cond_tt rfl, cSort, c2, bnd_s, tl_s, bX6_people_11, if_b, cond_tt rfl, if_in2 (n := 6) rfl, c3]
      rfl
    · rw [show d + 200 = d + 199 + 1 from rfl, aX7_people, mSheet, c1, bnd_s, tl_s, bX7_people_4, if_b, cond_tt rfl, mIn X (d + 198) k (n := 3) rfl, c2, bnd_s, tl_s, bX7_people_16, if_b, cond_tt rfl, mIn X (d + 198) n (n := 6) rfl, c3, bnd_s, tl_s, bX7_people_29, if_b]
      rfl
  obtain ⟨p, hp, rfl⟩ := in_ex c1 (by omega)
  obtain ⟨k, hk, rfl⟩ := in_ex c2 (by omega)
  obtain ⟨n, hn, rfl⟩ := in_ex c3 (by omega)
  have hbp := hB.2.2.2.2 p hp
  have hc : ∀ (d : Nat) (M : MM) (w : Int64) (t u : Nat), SC M s → callN X (d + 200) 78 [vR 2 0, vI (nI p), vI (nI k), vI f, vI (nI n)] (M, w, true, true, [], t, u) = cond (sH s p).1 (nR X (callN X (d + 199)) hX6_people 41 [vR 2 0, vI (nI p), vI (nI k), vI f, vI (nI n), vR 18 p, vX, vX, vX] [vI 0] (M, w, true, true, [], t, u)) (some (some (vI (-11)), (M, w, true, true, [], t, u))) := by
    intro d M w t u h
    rw [show d + 200 = d + 199 + 1 from rfl, aX6_people, cSheet, c1, bnd_s, tl_s, bX6_people_4, if_b, cond_tt rfl, cSort, c2, bnd_s, tl_s, bX6_people_11, if_b, cond_tt rfl, if_in2 (n := 6) rfl, c3, cond_tt rfl, c1, cond_tt rfl, nI_clamp (by omega), cMiss X (d + 198) w t u (h.2.2.2.2 p hp) (fun q => (hbp q).1), bnd_s, tl_s]
    cases (sH s p).1
    · rw [bX6_people_41]
      rfl
    · rfl
  have hm : ∀ (d : Nat) (M : MM) (w : Int64) (t u : Nat), SM M s → callN X (d + 200) 190 [vR 30 0, vI (nI p), vI (nI k), vI f, vI (nI n)] (M, w, true, true, [], t, u) = cond (sH s p).1 (if M 46 0 p = nI k then nR X (callN X (d + 199)) hX7_people 75 [vR 30 0, vI (nI p), vI (nI k), vI f, vI (nI n), vI 0, vI 0, vX] [] (M, w, true, true, [], t, u) else some (some (vI (-13)), (M, w, true, true, [], t, u))) (some (some (vI (-11)), (M, w, true, true, [], t, u))) := by
    intro d M w t u h
    rw [show d + 200 = d + 199 + 1 from rfl, aX7_people, mSheet, c1, bnd_s, tl_s, bX7_people_4, if_b, cond_tt rfl, mIn X (d + 198) (nI k) (n := 3) rfl, c2, bnd_s, tl_s, bX7_people_16, if_b, cond_tt rfl, mIn X (d + 198) (nI n) (n := 6) rfl, c3, bnd_s, tl_s, bX7_people_29, if_b, cond_tt rfl, c1, cond_tt rfl, nI_clamp (by omega), (h.2.2.2.2 p hp).1]
    cases (sH s p).1 <;> rfl
  cases c4 : (sH s p).1
  · exact q_bad X hB (vI (-11)) (fun d M w t u h => by rw [hc d M w t u h, c4]; rfl) (fun d M w t u h => by rw [hm d M w t u h, c4]; rfl)
  have hbp := hbp c4
  by_cases c5 : (sH s p).2.1 = k
  rotate_left
  · have hne : ¬ nI (sH s p).2.1 = nI k := fun q => c5 ((nI_eq (by omega) (by omega)).mp q)
    refine q_bad X hB (vI (-13)) (fun d M w t u h => ?_) (fun d M w t u h => ?_)
    · rw [hc d M w t u h, c4, cond_tt rfl, bX6_people_41, if_pos rfl, ((h.2.2.2.2 p hp).2 c4).1, if_neg hne]
    · rw [hm d M w t u h, c4, cond_tt rfl, ((h.2.2.2.2 p hp).2 c4).1, if_neg hne]
  have hc2 : ∀ (d : Nat) (M : MM) (w : Int64) (t u : Nat), SC M s → callN X (d + 200) 78 [vR 2 0, vI (nI p), vI (nI k), vI f, vI (nI n)] (M, w, true, true, [], t, u) = nR X (callN X (d + 199)) hX6_people 65 [vR 2 0, vI (nI p), vI (nI k), vI f, vI (nI n), vR 18 p, vI 0, vI 0, vX] [] (M, w, true, true, [], t, u) := by
    intro d M w t u h
    rw [hc d M w t u h, c4, cond_tt rfl, bX6_people_41, if_pos rfl, ((h.2.2.2.2 p hp).2 c4).1, if_pos (congrArg nI c5)]
  have hm2 : ∀ (d : Nat) (M : MM) (w : Int64) (t u : Nat), SM M s → callN X (d + 200) 190 [vR 30 0, vI (nI p), vI (nI k), vI f, vI (nI n)] (M, w, true, true, [], t, u) = nR X (callN X (d + 199)) hX7_people 75 [vR 30 0, vI (nI p), vI (nI k), vI f, vI (nI n), vI 0, vI 0, vX] [] (M, w, true, true, [], t, u) := by
    intro d M w t u h
    rw [hm d M w t u h, c4, cond_tt rfl, ((h.2.2.2.2 p hp).2 c4).1, if_pos (congrArg nI c5)]
  rcases n with _ | n
  · refine q_bad X hB (vI 0) (fun d M w t u h => ?_) (fun d M w t u h => ?_)
    · rw [hc2 d M w t u h, bX6_people_65]
      rfl
    · rw [hm2 d M w t u h, bX7_people_75]
      rfl
  have hz0 : (0 : Int32).toInt = 0 := rfl
  by_cases cf : 0 ≤ f.toInt ∧ f.toInt ≤ 40
  · obtain ⟨f, hf, rfl⟩ := nI_of (x := f) (by rw [Int32.lt_iff_toInt_lt]; omega)
    rw [nI_toInt hf] at cf
    have hH : sH s p = (true, k, (sH s p).2.2.1, (sH s p).2.2.2) := by
      rw [← c4, ← c5]
    refine ⟨vI (ppR (sH s p).2.2.2 (sH s p).2.2.1 f (n + 1) 0 0 s).1, (ppR (sH s p).2.2.2 (sH s p).2.2.1 f (n + 1) 0 0 s).2, fun d M w t u h => ?_, fun d M w t u h => ?_, ppR_SB _ _ _ _ hB⟩
    · obtain ⟨M2, e1, e2, e3⟩ := cPpl X (d + 195) (f := f) w t u hp hbp.2 (by omega) (show n + 1 ≤ 5 by omega) (n + 1) 0 0 s M vX (Nat.zero_add _) h hB hH
      exact ⟨M2, (hc2 d M w t u h).trans e1, e2, e3⟩
    · obtain ⟨M2, e1, e2, e3⟩ := mPpl X (d + 195) (f := f) w t u hp hbp.2 (by omega) (show n + 1 ≤ 5 by omega) (n + 1) 0 0 s M vX (Nat.zero_add _) h hB hH
      exact ⟨M2, w, t, u, (hm2 d M w t u h).trans e1, e2, e3, by omega, by omega⟩
  · refine q_bad X hB (vI (-12)) (fun d M w t u h => ?_) (fun d M w t u h => ?_)
    · have hr : rnB (sH s p).2.2.1 f 2 = false := by
        unfold rnB
        rw [decide_eq_false]
        have e2 : (2 : Int32).toInt = 2 := rfl
        omega
      rw [hc2 d M w t u h, bX6_people_65, if_neg (show ¬ nI (n + 1) ≤ 0 from nI_nle (by omega) (by omega)), show f + 2 * 0 = f from by rw [Int32.mul_zero, Int32.add_zero], cRun X (d + 198) f 2 w t u ((h.2.2.2.2 p hp).2 c4).2.1 (by omega), hr, bnd_s, tl_s, bX6_people_88]
      rfl
    · rw [hm2 d M w t u h, bX7_people_75, if_neg (show ¬ nI (n + 1) ≤ 0 from nI_nle (by omega) (by omega))]
      by_cases cf0 : f < 0
      · rw [if_pos cf0]
      rw [if_neg cf0, c1, cond_tt rfl, nI_clamp (by omega), ((h.2.2.2.2 p hp).2 c4).2.1, show (2 : Int32) * 0 = nI 0 from rfl, show (2 : Int32) = nI 2 from rfl, if_neg (fun q => ?_)]
      rw [Int32.lt_iff_toInt_lt] at cf0
      have e1 : (nI (sH s p).2.2.1 - nI 0 - nI 2).toInt = ((sH s p).2.2.1 : Int) - 2 := by
        rw [Int32.toInt_sub, sub_toInt (by omega) (by omega), nI_toInt (by omega), Int.bmod_eq_of_le (by omega) (by omega)]
        rw [Int.ofNat_zero, Int.sub_zero]
        rfl
      rw [Int32.le_iff_toInt_le, e1] at q
      omega
end
