section
variable (X : Nat × (Nat → Int32))
theorem sX7_next (d : Nat) (w : Int64) (l : List (Nat × Nat × Nat)) (t u : Nat) {M : MM} {b : Nat → Nat} {n f p : Nat} (h : RdM M b n f) (hp : p ≤ n) (h21 : M 30 0 21 = nI p) :
    ∃ (M' : MM) (w' : Int64), callN X (d + 2) 129 [vR 30 0] (M, w, true, true, l, t, u) = some (none, (M', w', true, true, l, t, u)) ∧ frM M M' ∧ TokM M' w' b n p := by
  have hn := h.2.2.1
  obtain ⟨M1, e1, e2, e3, e4⟩ := mnext_sp X d l t u w h hp h21
  have hst : callN X (d + 2) 129 [vR 30 0] (M, w, true, true, l, t, u) = nR X (callN X (d + 1)) hX7_next 0 [vR 30 0, vX, vX] [] (M, w, true, true, l, t, u) := rfl
  rw [hst, e1]
  have hql := tq_le (b := b) hp
  unfold TokM tv kM te
  revert e3 e4 hql
  generalize tq b n p = q
  intro e3 e4 hql
  have h1 := h.fr e2
  have hb := h.2.2.2.2.2 q
  rcases Nat.lt_or_ge q n with z | z
  · have hba : bA b n q = nI (b q) := if_pos z
    have e5 : frM M (nSt M1 30 0 22 (4 : Int32)) := e2.st (by omega) _
    rw [ble_f z]
    simp only [cond_false]
    rw [bX7_next_55, hba, if_pos (nI_pos' (by omega)), ← hba, sX7_in, bnd_s, tl_s, inB h.2.2.2.2.2 n q (lo := 97) (hi := 122) rfl rfl (by omega), blt_t z, Bool.true_and]
    show ∃ (M' : MM) (w' : Int64), nR X (callN X (d + 1)) hX7_next 92 [vR 30 0, vI (bA b n q), vX] [bV (isLe (b q))] _ = _ ∧ _
    cases hle : isLe (b q)
    · simp only [cond_false]
      have hgo2 : nR X (callN X (d + 1)) hX7_next 92 [vR 30 0, vI (bA b n q), vX] [bV false] (nSt M1 30 0 22 (4 : Int32), w, true, true, l, t, u) = nR X (callN X (d + 1)) hX7_next 145 [vR 30 0, vI (bA b n q), vX] [bV (isDi (b q))] (nSt M1 30 0 22 (4 : Int32), w, true, true, l, t, u) := by
        show nR X (callN X (d + 1)) hX7_next 92 _ [vI 0] _ = _
        rw [bX7_next_92, if_pos rfl, sX7_in, bnd_s, tl_s, inB h.2.2.2.2.2 n q (lo := 48) (hi := 57) rfl rfl (by omega), blt_t z, Bool.true_and]
        rfl
      rw [hgo2]
      cases hdi : isDi (b q)
      · simp only [cond_false]
        show ∃ (M' : MM) (w' : Int64), nR X (callN X (d + 1)) hX7_next 145 _ [vI 0] _ = _ ∧ _
        rw [bX7_next_145, if_pos rfl, hba, li40, li41, li59, li43, li45, li42, li60, li61]
        simp (disch := omega) only [nI_eq]
        have hsign : isSg (b q) = true → ∃ (M' : MM) (w' : Int64), some ((none : Option AV), (nSt (nSt (nSt M1 30 0 22 (4 : Int32)) 30 0 22 (3 : Int32)) 30 0 21 (nSt (nSt M1 30 0 22 (4 : Int32)) 30 0 22 (3 : Int32) 30 0 21 + 1), (nI (b q)).toInt64, true, true, l, t, u)) = some (none, (M', w', true, true, l, t, u)) ∧ frM M M' ∧ M' 30 0 23 = nI q ∧ M' 30 0 22 = nI (cond (isSg (b q)) 3 4) ∧ (cond (isSg (b q)) 3 4 ≠ 4 → M' 30 0 21 = nI (q + 1)) ∧ (cond (isSg (b q)) 3 4 = 2 → w' = lN (dvF b q (q + 1 - q))) ∧ (cond (isSg (b q)) 3 4 = 3 → w' = lN (b q)) := by
          intro hsg
          rw [hsg]
          refine ⟨_, _, rfl, (e5.st (by omega) _).st (by omega) _, ?_, ?_, fun _ => ?_, fun hh => ?_, fun _ => nI_l (by omega)⟩
          · exact (nst_j (by omega)).trans ((nst_j (by omega)).trans ((nst_j (by omega)).trans e4))
          · exact (nst_j (by omega)).trans (nst_self _ _ _ _ _)
          · rw [nst_self, nst_j (by omega), nst_j (by omega), e3]
            exact nI_add q 1
          · have hh : (3 : Nat) = 2 := hh
            omega
        by_cases c1 : b q = 40
        · rw [if_pos c1]; exact hsign (by rw [c1]; rfl)
        rw [if_neg c1]
        by_cases c2 : b q = 41
        · rw [if_pos c2]; exact hsign (by rw [c2]; rfl)
        rw [if_neg c2]
        by_cases c3 : b q = 59
        · rw [if_pos c3]; exact hsign (by rw [c3]; rfl)
        rw [if_neg c3]
        by_cases c4 : b q = 43
        · rw [if_pos c4]; exact hsign (by rw [c4]; rfl)
        rw [if_neg c4]
        by_cases c5 : b q = 45
        · rw [if_pos c5]; exact hsign (by rw [c5]; rfl)
        rw [if_neg c5]
        by_cases c6 : b q = 42
        · rw [if_pos c6]; exact hsign (by rw [c6]; rfl)
        rw [if_neg c6]
        by_cases c7 : b q = 60
        · rw [if_pos c7]; exact hsign (by rw [c7]; rfl)
        rw [if_neg c7]
        by_cases c8 : b q = 61
        · rw [if_pos c8]; exact hsign (by rw [c8]; rfl)
        rw [if_neg c8]
        have hsg : isSg (b q) = false := by
          rw [Bool.eq_false_iff]
          intro hh
          unfold isSg at hh
          simp only [Bool.or_eq_true, Bool.and_eq_true, Nat.ble_eq, beq_iff_eq] at hh
          omega
        rw [hsg]
        refine ⟨_, _, rfl, e5, (nst_j (by omega)).trans e4, nst_self _ _ _ _ _, fun hh => ?_, fun hh => ?_, fun hh => ?_⟩
        · exact absurd rfl hh
        · have hh : (4 : Nat) = 2 := hh
          omega
        · have hh : (4 : Nat) = 3 := hh
          omega
      · simp only [cond_true]
        show ∃ (M' : MM) (w' : Int64), nR X (callN X (d + 1)) hX7_next 145 _ [vI 1] _ = _ ∧ _
        rw [bX7_next_145, if_neg (by decide)]
        have e6 : frM M (nSt (nSt M1 30 0 22 (4 : Int32)) 30 0 22 (2 : Int32)) := e5.st (by omega) _
        obtain ⟨M2, w2, f1, f2, f3, f4, -, -, -, f5, f6⟩ := mnext_num X d l t u (bA b n q) (h.fr e6) hql ((nst_j (by omega)).trans ((nst_j (by omega)).trans e3))
        refine ⟨M2, w2, f1, e6.trans f2, f4.trans ((nst_j (by omega)).trans ((nst_j (by omega)).trans e4)), f5, fun _ => f3, fun hh => ?_, fun hh => ?_⟩
        · refine f6 ?_
          by_cases c : sk isDi b n q - q ≤ 4
          · exact c
          · rw [if_neg c] at hh; omega
        · by_cases c : sk isDi b n q - q ≤ 4
          · rw [if_pos c] at hh; omega
          · rw [if_neg c] at hh; omega
    · simp only [cond_true]
      show ∃ (M' : MM) (w' : Int64), nR X (callN X (d + 1)) hX7_next 92 _ [vI 1] _ = _ ∧ _
      rw [bX7_next_92, if_neg (by decide)]
      have e6 : frM M (nSt (nSt M1 30 0 22 (4 : Int32)) 30 0 22 (1 : Int32)) := e5.st (by omega) _
      obtain ⟨M2, f1, f2⟩ := mnext_word X d l t u w (bA b n q) (h.fr e6) hql ((nst_j (by omega)).trans ((nst_j (by omega)).trans e3))
      subst f2
      exact ⟨_, w, f1, e6.st (by omega) _, (nst_j (by omega)).trans ((nst_j (by omega)).trans ((nst_j (by omega)).trans e4)), (nst_j (by omega)).trans (nst_self _ _ _ _ _), fun _ => nst_self _ _ _ _ _, fun hh => absurd hh (by omega), fun hh => absurd hh (by omega)⟩
  · rw [ble_t z]
    simp only [cond_true]
    have hq : q = n := by omega
    have hba : bA b n q = -1 := if_neg (by omega)
    rw [bX7_next_55, hba, if_neg (by decide)]
    have h20 : nSt (nSt M1 30 0 22 (4 : Int32)) 30 0 22 (0 : Int32) 30 0 20 = nI q := by rw [hq]; exact (nst_j (by omega)).trans ((nst_j (by omega)).trans h1.2.1)
    refine ⟨_, w, rfl, ((e2.st (by omega) _).st (by omega) _).st (by omega) _, ?_, ?_, fun _ => ?_, fun hh => absurd hh (by omega), fun hh => absurd hh (by omega)⟩
    · rw [nst_self]; exact h20
    · exact (nst_j (by omega)).trans (nst_self _ _ _ _ _)
    · exact (nst_j (by omega)).trans ((nst_j (by omega)).trans ((nst_j (by omega)).trans e3))
/-- the model's questions on the token at hand -/
theorem kM_sg {b : Nat → Nat} (hb : ∀ j, b j < 256) {n p s : Nat} (hs : 40 ≤ s) : (kM b n p = 3 ∧ b (tq b n p) = s) ↔ tk b n p = s := by
  unfold kM tk
  cases Nat.ble n (tq b n p)
  · simp only [cond_false]
    cases isLe (b (tq b n p))
    · simp only [cond_false]
      cases isDi (b (tq b n p))
      · simp only [cond_false]
        cases isSg (b (tq b n p))
        · simp only [cond_false]
          constructor
          · intro q; omega
          · intro q; omega
        · simp only [cond_true]
          exact ⟨fun q => q.2, fun q => ⟨trivial, q⟩⟩
      · simp only [cond_true]
        by_cases c : te b n p - tq b n p ≤ 4
        · simp only [if_pos c]
          constructor
          · intro q; omega
          · intro q; omega
        · simp only [if_neg c]
          constructor
          · intro q; omega
          · intro q; omega
    · simp only [cond_true]
      have := wd_le b (tq b n p) (te b n p)
      unfold tW
      constructor
      · intro q; omega
      · intro q
        exfalso
        by_cases c : wdI b (tq b n p) (te b n p) < 6
        · rw [if_pos c] at q; omega
        · rw [if_neg c] at q
          by_cases c2 : wdI b (tq b n p) (te b n p) < 12
          · rw [if_pos c2] at q; omega
          · rw [if_neg c2] at q; omega
  · simp only [cond_true]
    constructor
    · intro q; omega
    · intro q; omega
theorem kM_1 {b : Nat → Nat} {n p : Nat} (h : kM b n p = 1) : tq b n p < n ∧ isLe (b (tq b n p)) = true ∧ tk b n p = tW (wdI b (tq b n p) (te b n p)) ∧ tv b n p = wdI b (tq b n p) (te b n p) := by
  unfold kM at h
  unfold tk tv
  cases c1 : Nat.ble n (tq b n p)
  · rw [c1] at h
    simp only [cond_false] at h ⊢
    have hlt : tq b n p < n := by
      rcases Nat.lt_or_ge (tq b n p) n with q | q
      · exact q
      · rw [ble_t q] at c1; cases c1
    cases c2 : isLe (b (tq b n p))
    · rw [c2] at h
      simp only [cond_false] at h
      cases c3 : isDi (b (tq b n p))
      · rw [c3] at h
        simp only [cond_false] at h
        cases c4 : isSg (b (tq b n p)) <;> rw [c4] at h <;> cases h
      · rw [c3] at h
        simp only [cond_true] at h
        by_cases c : te b n p - tq b n p ≤ 4
        · rw [if_pos c] at h; omega
        · rw [if_neg c] at h; omega
    · exact ⟨hlt, rfl, rfl, rfl⟩
  · rw [c1] at h
    cases h
theorem tk_kM {b : Nat → Nat} (hb : ∀ j, b j < 256) {n p : Nat} : (tk b n p = 0 ↔ kM b n p = 0) ∧ (tk b n p = 2 ↔ kM b n p = 2) ∧ ((3 ≤ tk b n p ∧ tk b n p < 10) → kM b n p = 1) := by
  unfold kM tk
  cases Nat.ble n (tq b n p)
  · simp only [cond_false]
    cases isLe (b (tq b n p))
    · simp only [cond_false]
      cases isDi (b (tq b n p))
      · simp only [cond_false]
        cases c4 : isSg (b (tq b n p))
        · simp only [cond_false]
          exact ⟨⟨fun q => by omega, fun q => by omega⟩, ⟨fun q => by omega, fun q => by omega⟩, fun q => by omega⟩
        · simp only [cond_true]
          have : 40 ≤ b (tq b n p) := by
            unfold isSg at c4
            simp only [Bool.or_eq_true, Bool.and_eq_true, Nat.ble_eq, beq_iff_eq] at c4
            omega
          exact ⟨⟨fun q => by omega, fun q => by omega⟩, ⟨fun q => by omega, fun q => by omega⟩, fun q => by omega⟩
      · simp only [cond_true]
        by_cases c : te b n p - tq b n p ≤ 4
        · simp only [if_pos c]
          refine ⟨?_, ?_, ?_⟩ <;> first | trivial | omega | (constructor <;> intro q <;> omega) | (intro q; omega)
        · simp only [if_neg c]
          exact ⟨⟨fun q => by omega, fun q => by omega⟩, ⟨fun q => by omega, fun q => by omega⟩, fun q => by omega⟩
    · simp only [cond_true]
      have := wd_le b (tq b n p) (te b n p)
      have h3 : tW (wdI b (tq b n p) (te b n p)) = 1 ∨ 3 ≤ tW (wdI b (tq b n p) (te b n p)) := by
        unfold tW
        by_cases c : wdI b (tq b n p) (te b n p) < 6
        · rw [if_pos c]; omega
        · rw [if_neg c]
          by_cases c2 : wdI b (tq b n p) (te b n p) < 12
          · rw [if_pos c2]; omega
          · rw [if_neg c2]; omega
      exact ⟨⟨fun q => by omega, fun q => by omega⟩, ⟨fun q => by omega, fun q => by omega⟩, fun _ => trivial⟩
  · simp only [cond_true]
    refine ⟨?_, ?_, ?_⟩ <;> first | trivial | omega | (constructor <;> intro q <;> omega) | (intro q; omega)
theorem kM_lt (b : Nat → Nat) (n p : Nat) : kM b n p ≤ 4 := by
  unfold kM
  cases Nat.ble n (tq b n p)
  · simp only [cond_false]
    cases isLe (b (tq b n p))
    · simp only [cond_false]
      cases isDi (b (tq b n p))
      · simp only [cond_false]
        cases isSg (b (tq b n p)) <;> decide
      · simp only [cond_true]
        by_cases c : te b n p - tq b n p ≤ 4
        · rw [if_pos c]; omega
        · rw [if_neg c]; omega
    · show 1 ≤ 4; omega
  · show 0 ≤ 4; omega
theorem sX7_isSign (d : Nat) {w : Int64} (l : List (Nat × Nat × Nat)) (t u : Nat) {M : MM} {b : Nat → Nat} {n f p s : Nat} (h : RdM M b n f) (hT : TokM M w b n p) (hb : M 30 0 26 = 0) (hs : 40 ≤ s) (hs2 : s < 256) : callN X (d + 1) 133 [vR 30 0, vI (nI s)] (M, w, true, true, l, t, u) = some (some (bV (Nat.beq (tk b n p) s)), (M, w, true, true, l, t, u)) := by
  have h6 := h.2.2.2.2.2
  have hk := kM_lt b n p
  have hbq := h6 (tq b n p)
  have hsg := kM_sg (n := n) (p := p) (s := s) h6 hs
  rw [aX7_isSign, hb, if_pos rfl, hT.2.1, li3]
  simp (disch := omega) only [nI_eq]
  by_cases c : kM b n p = 3
  · rw [if_pos c, nI_l (by omega), hT.2.2.2.2 c]
    by_cases c2 : b (tq b n p) = s
    · rw [c2, beq_t (hsg.mp ⟨c, c2⟩), if_pos ((lcmp_eq _ _).mpr rfl)]
      rfl
    · rw [if_neg (fun q => c2 ((pk_lEQ (by omega) (by omega)).mp ((lcmp_eq _ _).mp q))), beq_f (fun q => c2 (hsg.mpr q).2)]
      rfl
  · rw [if_neg c, beq_f (fun q => c (hsg.mpr q).1)]
    rfl
theorem sX7_isSignB (d : Nat) {w : Int64} (l : List (Nat × Nat × Nat)) (t u : Nat) {M : MM} (x : Int32) (hb : M 30 0 26 = 1) : callN X (d + 1) 133 [vR 30 0, vI x] (M, w, true, true, l, t, u) = some (some (bV false), (M, w, true, true, l, t, u)) := by
  rw [aX7_isSign, hb, if_neg (by decide)]
  rfl
end
