/-! the class's next() -/
section
variable (X : Nat × (Nat → Int32))
theorem sX2_nextNumber (d : Nat) (w : Int64) (fm : Bool) (l : List (Nat × Nat × Nat)) (t u : Nat) {b : Nat → Nat} {n q : Nat} {M : MM} (h : RdC M b n) (hq : q < n) (h5 : M 9 0 5 = nI q) (h7 : M 9 0 7 = nI q) :
    ∃ M', callN X (d + 2) 23 [vR 9 0] (M, w, true, fm, l, t, u) = some (none, (M', w, true, fm, l, t, u)) ∧ fr9 M M' ∧ M' 9 0 5 = nI (sk isDi b n q) ∧ M' 9 0 7 = nI q ∧ M' 9 0 6 = nI (if sk isDi b n q - q ≤ 4 then 2 else 1) ∧ M' 9 0 8 = nI (dvF b q (sk isDi b n q - q)) := by
  have fin : ∀ (p : Nat) (M2 : MM), q ≤ p → p ≤ n → fr9 M M2 → M2 9 0 5 = nI p → M2 9 0 7 = nI q → M2 9 0 8 = nI (dvF b q (p - q)) → p = sk isDi b n p →
      ∃ M', (if M2 9 0 5 - M2 9 0 7 ≤ (4 : Int32) then some ((none : Option AV), (nSt M2 9 0 6 (2 : Int32), w, true, fm, l, t, u)) else some (none, (nSt M2 9 0 6 (1 : Int32), w, true, fm, l, t, u))) = some (none, (M', w, true, fm, l, t, u)) ∧ fr9 M M' ∧ M' 9 0 5 = nI p ∧ M' 9 0 7 = nI q ∧ M' 9 0 6 = nI (if p - q ≤ 4 then 2 else 1) ∧ M' 9 0 8 = nI (dvF b q (p - q)) := by
    intro p M2 hqp hpn hf e5 e7 e8 hp
    have hn := h.2.1
    rw [e5, e7, pk_sub hqp, show (4 : Int32) = nI 4 from rfl]
    simp (disch := omega) only [nI_leI]
    by_cases c : p - q ≤ 4
    · rw [if_pos c]
      exact ⟨_, rfl, hf.st (by omega) _, (nst_j (by omega)).trans e5, (nst_j (by omega)).trans e7, by rw [nst_self, if_pos c]; rfl, (nst_j (by omega)).trans e8⟩
    · rw [if_neg c]
      exact ⟨_, rfl, hf.st (by omega) _, (nst_j (by omega)).trans e5, (nst_j (by omega)).trans e7, by rw [nst_self, if_neg c]; rfl, (nst_j (by omega)).trans e8⟩
  have s1 : ∀ p, q ≤ p → p ≤ n → ∀ M2 : MM, fr9 M M2 → M2 9 0 5 = nI p → M2 9 0 7 = nI q → M2 9 0 8 = nI (dvF b q (p - q)) →
      ∃ M', nR X (callN X (d + 1)) hX2_nextNumber 5 [vR 9 0] [] (M2, w, true, fm, l, t, u) = some (none, (M', w, true, fm, l, t, u)) ∧ fr9 M M' ∧ M' 9 0 5 = nI (sk isDi b n p) ∧ M' 9 0 7 = nI q ∧ M' 9 0 6 = nI (if sk isDi b n p - q ≤ 4 then 2 else 1) ∧ M' 9 0 8 = nI (dvF b q (sk isDi b n p - q)) := by
    intro p
    refine sk_ind (P := isDi) (b := b) (n := n) (C := fun p => q ≤ p → p ≤ n → ∀ M2 : MM, fr9 M M2 → M2 9 0 5 = nI p → M2 9 0 7 = nI q → M2 9 0 8 = nI (dvF b q (p - q)) →
      ∃ M', nR X (callN X (d + 1)) hX2_nextNumber 5 [vR 9 0] [] (M2, w, true, fm, l, t, u) = some (none, (M', w, true, fm, l, t, u)) ∧ fr9 M M' ∧ M' 9 0 5 = nI (sk isDi b n p) ∧ M' 9 0 7 = nI q ∧ M' 9 0 6 = nI (if sk isDi b n p - q ≤ 4 then 2 else 1) ∧ M' 9 0 8 = nI (dvF b q (sk isDi b n p - q))) ?_ ?_ p
    · intro p hs hqp hp M2 hf e5 e7 e8
      have h2 := h.fr hf
      have hn := h.2.1
      rw [sk_stop hs]
      have hfin := fin p M2 hqp hp hf e5 e7 e8 (sk_stop hs).symm
      rw [e5, e7] at hfin
      rw [bX2_nextNumber_5, h2.1, e5, e7]
      rcases Nat.lt_or_ge p n with z | z
      · rw [if_neg (nI_ge z (by omega)), sX2_isIn X d w fm l t u h2 hp (show (48 : Int32) = nI 48 from rfl) (show (57 : Int32) = nI 57 from rfl) (by omega) (by omega), bnd_s, tl_s]
        have hs2 : (Nat.blt p n && (Nat.ble 48 (b p) && Nat.ble (b p) 57)) = false := hs
        rw [hs2]
        show ∃ M', nR X (callN X (d + 1)) hX2_nextNumber 28 [vR 9 0] [vI 0] _ = _ ∧ _
        rw [bX2_nextNumber_28, if_pos rfl, e5, e7]
        exact hfin
      · rw [if_pos (nI_le z (by omega))]
        exact hfin
    · intro p hp hs ih hqp _ M2 hf e5 e7 e8
      have h2 := h.fr hf
      have hn := h.2.1
      have hb := h.2.2.2 p
      have hs2 : (Nat.blt p n && (Nat.ble 48 (b p) && Nat.ble (b p) 57)) = true := hs
      have hge : 48 ≤ b p := by
        rw [Bool.and_eq_true, Bool.and_eq_true] at hs2
        exact Nat.ble_eq.mp hs2.2.1
      rw [bX2_nextNumber_5, h2.1, e5, if_neg (nI_ge hp (by omega)), sX2_isIn X d w fm l t u h2 (Nat.le_of_lt hp) (show (48 : Int32) = nI 48 from rfl) (show (57 : Int32) = nI 57 from rfl) (by omega) (by omega), bnd_s, tl_s, hs2]
      show ∃ M', nR X (callN X (d + 1)) hX2_nextNumber 28 [vR 9 0] [vI 1] _ = _ ∧ _
      rw [bX2_nextNumber_28, if_neg (by decide), e5, in_nI (by omega) (by omega), cond_true, nI_clamp (by omega), h2.2.2.1 p hp, e8, show (10 : Int32) = nI 10 from rfl, show (48 : Int32) = nI 48 from rfl, pk_mul, nI_add, pk_sub (by omega), nst_j (by omega), e5, show nI p + (1 : Int32) = nI (p + 1) from nI_add p 1]
      have hdv : dvF b q (p - q) * 10 + b p - 48 = dvF b q (p + 1 - q) := by
        rw [show p + 1 - q = (p - q) + 1 by omega]
        show _ = dvF b q (p - q) * 10 + b (q + (p - q)) - 48
        rw [show q + (p - q) = p by omega]
      rw [hdv]
      have := ih (by omega) (by omega) (nSt (nSt M2 9 0 8 (nI (dvF b q (p + 1 - q)))) 9 0 5 (nI (p + 1))) ((hf.st (by omega) _).st (by omega) _) (nst_self _ _ _ _ _) (((nst_j (by omega)).trans (nst_j (by omega))).trans e7) ((nst_j (by omega)).trans (nst_self _ _ _ _ _))
      rw [sk_step hs]
      exact this
  have hst : callN X (d + 2) 23 [vR 9 0] (M, w, true, fm, l, t, u) = nR X (callN X (d + 1)) hX2_nextNumber 5 [vR 9 0] [] (nSt M 9 0 8 (0 : Int32), w, true, fm, l, t, u) := by
    show nR X (callN X (d + 1)) hX2_nextNumber 0 [vR 9 0] [] (M, w, true, fm, l, t, u) = _
    rw [bX2_nextNumber_0]
  rw [hst]
  refine s1 q (Nat.le_refl _) (Nat.le_of_lt hq) _ ((fr9.refl M).st (by omega) _) ((nst_j (by omega)).trans h5) ((nst_j (by omega)).trans h7) ?_
  rw [nst_self, Nat.sub_self]
  rfl
theorem sX2_next (d : Nat) (w : Int64) (fm : Bool) (l : List (Nat × Nat × Nat)) (t u : Nat) {b : Nat → Nat} {n p : Nat} {M : MM} (h : RdC M b n) (hp : p ≤ n) (h5 : M 9 0 5 = nI p) :
    ∃ M', callN X (d + 3) 21 [vR 9 0] (M, w, true, fm, l, t, u) = some (none, (M', w, true, fm, l, t, u)) ∧ fr9 M M' ∧ TokC M' b n p := by
  have hn := h.2.1
  have s1 : ∀ p, p ≤ n → ∀ M2 : MM, fr9 M M2 → M2 9 0 5 = nI p → ∃ M', nR X (callN X (d + 2)) hX2_next 0 [vR 9 0] [] (M2, w, true, fm, l, t, u) = nR X (callN X (d + 2)) hX2_next 0 [vR 9 0] [] (M', w, true, fm, l, t, u) ∧ fr9 M M' ∧ M' 9 0 5 = nI (tq b n p) := by
    intro p
    refine sk_ind (P := isSp) (b := b) (n := n) (C := fun p => p ≤ n → ∀ M2 : MM, fr9 M M2 → M2 9 0 5 = nI p → ∃ M', nR X (callN X (d + 2)) hX2_next 0 [vR 9 0] [] (M2, w, true, fm, l, t, u) = nR X (callN X (d + 2)) hX2_next 0 [vR 9 0] [] (M', w, true, fm, l, t, u) ∧ fr9 M M' ∧ M' 9 0 5 = nI (tq b n p)) ?_ ?_ p
    · intro p hs hp M2 hf e5
      exact ⟨M2, rfl, hf, by rw [e5]; exact congrArg nI (sk_stop hs).symm⟩
    · intro p hp hs ih _ M2 hf e5
      have h2 := h.fr hf
      have hb := h.2.2.2 p
      obtain ⟨M', e1, e2, e3⟩ := ih (by omega) (nSt M2 9 0 5 (nI (p + 1))) (hf.st (by omega) _) (nst_self _ _ _ _ _)
      refine ⟨M', ?_, e2, by rw [e3]; exact congrArg nI (sk_step hs).symm⟩
      rw [← e1, bX2_next_0, h2.1, e5, if_neg (nI_ge hp (by omega)), in_nI (by omega) (by omega), cond_true, nI_clamp (by omega), h2.2.2.1 p hp, cond_true, show nI p + (1 : Int32) = nI (p + 1) from nI_add p 1]
      have hs2 : (b p == 32 || b p == 10) = true := by
        rw [Bool.and_eq_true] at hs
        exact hs.2
      rw [Bool.or_eq_true, beq_iff_eq, beq_iff_eq] at hs2
      rcases hs2 with hs2 | hs2
      · rw [hs2, if_pos (show nI 32 = (32 : Int32) from rfl)]
      · rw [hs2, if_neg (by decide), if_pos (show nI 10 = (10 : Int32) from rfl)]
  obtain ⟨M1, e1, e2, e3⟩ := s1 p hp M (fr9.refl M) h5
  have hst : callN X (d + 3) 21 [vR 9 0] (M, w, true, fm, l, t, u) = nR X (callN X (d + 2)) hX2_next 0 [vR 9 0] [] (M, w, true, fm, l, t, u) := rfl
  rw [hst, e1]
  have h1 := h.fr e2
  have hql := tq_le (b := b) hp
  have hsp : (Nat.blt (tq b n p) n && isSp (b (tq b n p))) = false := sk_end isSp b n p
  unfold TokC tv tk te
  revert e3 hql hsp
  generalize tq b n p = q
  intro e3 hql hsp
  have hb := h.2.2.2 q
  have e7 : fr9 M (nSt M1 9 0 7 (nI q)) := e2.st (by omega) _
  have e73 : nSt M1 9 0 7 (nI q) 9 0 5 = nI q := (nst_j (by omega)).trans e3
  have e77 : nSt M1 9 0 7 (nI q) 9 0 7 = nI q := nst_self _ _ _ _ _
  have h7 := h.fr e7
  rcases Nat.lt_or_ge q n with z | z
  · rw [ble_f z]
    simp only [cond_false]
    have hnsp : isSp (b q) = false := by
      rw [blt_t z, Bool.true_and] at hsp
      exact hsp
    unfold isSp at hnsp
    rw [Bool.or_eq_false_iff, beq_eq_false_iff_ne, beq_eq_false_iff_ne] at hnsp
    have hgo : nR X (callN X (d + 2)) hX2_next 0 [vR 9 0] [] (M1, w, true, fm, l, t, u) = nR X (callN X (d + 2)) hX2_next 91 [vR 9 0] [bV (isLe (b q))] (nSt M1 9 0 7 (nI q), w, true, fm, l, t, u) := by
      rw [bX2_next_0, h1.1, e3, if_neg (nI_ge z (by omega)), in_nI (by omega) (by omega), cond_true, nI_clamp (by omega), h1.2.2.1 q z, show (32 : Int32) = nI 32 from rfl, show (10 : Int32) = nI 10 from rfl, e73, h7.1, if_pos (nI_lt z (by omega))]
      simp (disch := omega) only [nI_eq]
      rw [if_neg hnsp.1, cond_true, if_neg hnsp.2, sX2_isIn X (d + 1) w fm l t u h7 hql (show (97 : Int32) = nI 97 from rfl) (show (122 : Int32) = nI 122 from rfl) (by omega) (by omega), bnd_s, tl_s, blt_t z, Bool.true_and]
      rfl
    rw [hgo]
    cases hle : isLe (b q)
    · simp only [cond_false]
      have hgo2 : nR X (callN X (d + 2)) hX2_next 91 [vR 9 0] [bV false] (nSt M1 9 0 7 (nI q), w, true, fm, l, t, u) = nR X (callN X (d + 2)) hX2_next 113 [vR 9 0] [bV (isDi (b q))] (nSt M1 9 0 7 (nI q), w, true, fm, l, t, u) := by
        show nR X (callN X (d + 2)) hX2_next 91 [vR 9 0] [vI 0] _ = _
        rw [bX2_next_91, if_pos rfl, e73, sX2_isIn X (d + 1) w fm l t u h7 hql (show (48 : Int32) = nI 48 from rfl) (show (57 : Int32) = nI 57 from rfl) (by omega) (by omega), bnd_s, tl_s, blt_t z, Bool.true_and]
        rfl
      rw [hgo2]
      cases hdi : isDi (b q)
      · simp only [cond_false]
        have hgo3 : nR X (callN X (d + 2)) hX2_next 113 [vR 9 0] [bV false] (nSt M1 9 0 7 (nI q), w, true, fm, l, t, u) = nR X (callN X (d + 2)) hX2_next 136 [vR 9 0] [bV (isSg (b q)), vR 9 0] (nSt M1 9 0 7 (nI q), w, true, fm, l, t, u) := by
          show nR X (callN X (d + 2)) hX2_next 113 [vR 9 0] [vI 0] _ = _
          rw [bX2_next_113, if_pos rfl, e73, in_nI (by omega) (by omega), cond_true, nI_clamp (by omega), h7.2.2.1 q z, sX2_isSign X (d + 1) w fm l t u hb, bnd_s, tl_s]
        rw [hgo3]
        cases hsg : isSg (b q)
        · show ∃ M', nR X (callN X (d + 2)) hX2_next 136 [vR 9 0] [vI 0, vR 9 0] _ = _ ∧ _
          rw [bX2_next_136, if_pos rfl]
          refine ⟨_, rfl, (e7.st (by omega) _).st (by omega) _, ?_, (nst_j (by omega)).trans (nst_self _ _ _ _ _), ((nst_j (by omega)).trans (nst_j (by omega))).trans e77, fun hh => ?_⟩
          · rw [nst_self, nst_j (by omega), e73]
            exact nI_add q 1
          · have hh : (1 : Nat) = 2 ∨ (1 : Nat) = 3 := hh
            omega
        · show ∃ M', nR X (callN X (d + 2)) hX2_next 136 [vR 9 0] [vI 1, vR 9 0] _ = _ ∧ _
          rw [bX2_next_136, if_neg (by decide), e73, in_nI (by omega) (by omega), cond_true, nI_clamp (by omega), h7.2.2.1 q z]
          refine ⟨_, rfl, (e7.st (by omega) _).st (by omega) _, ?_, (nst_j (by omega)).trans (nst_self _ _ _ _ _), ((nst_j (by omega)).trans (nst_j (by omega))).trans e77, fun hh => ?_⟩
          · rw [nst_self, nst_j (by omega), e73]
            exact nI_add q 1
          · have hh : b q = 2 ∨ b q = 3 := hh
            unfold isSg at hsg
            exfalso
            rcases hh with hh | hh <;> rw [hh] at hsg <;> exact absurd hsg (by decide)
      · simp only [cond_true]
        show ∃ M', nR X (callN X (d + 2)) hX2_next 113 [vR 9 0] [vI 1] _ = _ ∧ _
        obtain ⟨M2, f1, f2, f3, f4, f5, f6⟩ := sX2_nextNumber X d w fm l t u h7 z e73 e77
        rw [bX2_next_113, if_neg (by decide), f1, bnd_s, tl_n, bX2_next_120]
        exact ⟨M2, rfl, e7.trans f2, f3, f5, f4, fun _ => f6⟩
    · simp only [cond_true]
      show ∃ M', nR X (callN X (d + 2)) hX2_next 91 [vR 9 0] [vI 1] _ = _ ∧ _
      obtain ⟨M2, f1, f2, f3, f4, f5, f6⟩ := sX2_nextWord X d w fm l t u h7 z e73 e77
      rw [bX2_next_91, if_neg (by decide), f1, bnd_s, tl_n, bX2_next_98]
      refine ⟨M2, rfl, e7.trans f2, f3, f5, f4, fun hh => ?_⟩
      refine f6 ?_
      have hw := wd_le b q (sk isLe b n q)
      unfold tW at hh
      rcases Nat.lt_or_ge (wdI b q (sk isLe b n q)) 6 with c | c
      · exact c
      · rw [if_neg (by omega)] at hh
        by_cases c2 : wdI b q (sk isLe b n q) < 12
        · rw [if_pos c2] at hh; omega
        · rw [if_neg c2] at hh; omega
  · rw [ble_t z]
    simp only [cond_true]
    have hq : q = n := by omega
    rw [bX2_next_0, h1.1, e3, if_pos (nI_le z (by omega)), e73, h7.1, if_neg (nI_nlt z (by omega))]
    exact ⟨_, rfl, e7.st (by omega) _, (nst_j (by omega)).trans e73, nst_self _ _ _ _ _, (nst_j (by omega)).trans e77, fun hh => by have hh : (0 : Nat) = 2 ∨ (0 : Nat) = 3 := hh; omega⟩
end
