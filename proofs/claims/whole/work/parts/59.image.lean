/-! image, back -/
theorem nst_o {M : MM} {k i j a b c : Nat} {v : Int32} (h : ¬ (a = k ∧ b = i ∧ c = j)) : nSt M k i j v a b c = M a b c := if_neg h
theorem cpy_0 {M : MM} {k i k2 i2 n c : Nat} (h : c < n) : nCpy M k i 0 k2 i2 0 n k2 i2 c = M k i c := by
  rw [cpy_in (by omega), Nat.zero_add, Nat.sub_zero]
def becM (M : MM) (i0 i1 : Nat) : MM := nCpy (nCpy (nCpy (nCpy (nCpy (nSt (nSt (nSt M 3 i0 0 (M 3 i1 0)) 3 i0 1 (M 3 i1 1)) 3 i0 2 (M 3 i1 2)) 4 i1 0 4 i0 0 36) 5 i1 0 5 i0 0 30) 6 i1 0 6 i0 0 5) 7 i1 0 7 i0 0 5) 8 i1 0 8 i0 0 5
theorem bec_fr (M : MM) (i0 i1 : Nat) : ∀ k i j, ¬ (3 ≤ k ∧ k ≤ 8 ∧ i = i0) → becM M i0 i1 k i j = M k i j := fun k i j q =>
  (cpy_ne (by omega)).trans ((cpy_ne (by omega)).trans ((cpy_ne (by omega)).trans ((cpy_ne (by omega)).trans ((cpy_ne (by omega)).trans ((nst_o (by omega)).trans ((nst_o (by omega)).trans (nst_o (by omega))))))))
theorem bec_w {M : MM} {i0 i1 : Nat} {g : GW} (h : WC M i1 g) (hne : i0 ≠ i1) : WC (becM M i0 i1) i0 g := by
  obtain ⟨a1, a2, a3, a4, a5, a6, a7, a8⟩ := h
  refine ⟨?_, ?_, ?_, fun j hj => ?_, fun j hj => ?_, fun j hj => ?_, fun j hj => ?_, fun j hj => ?_⟩
  · exact (cpy_ne (by omega)).trans ((cpy_ne (by omega)).trans ((cpy_ne (by omega)).trans ((cpy_ne (by omega)).trans ((cpy_ne (by omega)).trans ((nst_j (by omega)).trans ((nst_j (by omega)).trans ((nst_self _ _ _ _ _).trans a1)))))))
  · exact (cpy_ne (by omega)).trans ((cpy_ne (by omega)).trans ((cpy_ne (by omega)).trans ((cpy_ne (by omega)).trans ((cpy_ne (by omega)).trans ((nst_j (by omega)).trans ((nst_self _ _ _ _ _).trans a2))))))
  · exact (cpy_ne (by omega)).trans ((cpy_ne (by omega)).trans ((cpy_ne (by omega)).trans ((cpy_ne (by omega)).trans ((cpy_ne (by omega)).trans ((nst_self _ _ _ _ _).trans a3)))))
  · exact (cpy_ne (by omega)).trans ((cpy_ne (by omega)).trans ((cpy_ne (by omega)).trans ((cpy_ne (by omega)).trans ((cpy_0 hj).trans ((nst_o (by omega)).trans ((nst_o (by omega)).trans ((nst_o (by omega)).trans (a4 j hj))))))))
  · exact (cpy_ne (by omega)).trans ((cpy_ne (by omega)).trans ((cpy_ne (by omega)).trans ((cpy_0 hj).trans ((cpy_ne (by omega)).trans ((nst_o (by omega)).trans ((nst_o (by omega)).trans ((nst_o (by omega)).trans (a5 j hj))))))))
  · exact (cpy_ne (by omega)).trans ((cpy_ne (by omega)).trans ((cpy_0 hj).trans ((cpy_ne (by omega)).trans ((cpy_ne (by omega)).trans ((nst_o (by omega)).trans ((nst_o (by omega)).trans ((nst_o (by omega)).trans (a6 j hj))))))))
  · exact (cpy_ne (by omega)).trans ((cpy_0 hj).trans ((cpy_ne (by omega)).trans ((cpy_ne (by omega)).trans ((cpy_ne (by omega)).trans ((nst_o (by omega)).trans ((nst_o (by omega)).trans ((nst_o (by omega)).trans (a7 j hj))))))))
  · exact (cpy_0 hj).trans ((cpy_ne (by omega)).trans ((cpy_ne (by omega)).trans ((cpy_ne (by omega)).trans ((cpy_ne (by omega)).trans ((nst_o (by omega)).trans ((nst_o (by omega)).trans ((nst_o (by omega)).trans (a8 j hj))))))))
section
variable (X : Nat × (Nat → Int32))
theorem cBec (d : Nat) {i0 i1 : Nat} (M : MM) (w : Int64) (fm : Bool) (l : List (Nat × Nat × Nat)) (t u : Nat) (hne : i0 ≠ i1) : callN X (d + 1) 43 [vR 3 i0, vR 3 i1] (M, w, true, fm, l, t, u) = some (none, (becM M i0 i1, w, true, fm, l, t, u)) := by
  rw [aX5_becomes, nst_o (show ¬ (3 = 3 ∧ i1 = i0 ∧ 1 = 0) by omega), nst_o (show ¬ (3 = 3 ∧ i1 = i0 ∧ 2 = 1) by omega), nst_o (show ¬ (3 = 3 ∧ i1 = i0 ∧ 2 = 0) by omega)]
  rfl
theorem m_image_2 (d : Nat) (M : MM) (w : Int64) (t u : Nat) : ∃ M2, nR X (callN X d) hX7_image 2 [vR 30 0, vI 0] [] (M, w, true, true, [], t, u) = nR X (callN X d) hX7_image 2 [vR 30 0, vI (nI 36)] [] (M2, w, true, true, [], t, u) ∧ (∀ j, j < 36 → M2 42 0 j = M 34 0 j) ∧ ∀ k i j, k ≠ 42 → M2 k i j = M k i j := by
  have loop : ∀ (m i : Nat) (Mi : MM), i + m = 36 → (∀ j, j < i → Mi 42 0 j = M 34 0 j) → (∀ k a j, k ≠ 42 → Mi k a j = M k a j) → ∃ M2, nR X (callN X d) hX7_image 2 [vR 30 0, vI (nI i)] [] (Mi, w, true, true, [], t, u) = nR X (callN X d) hX7_image 2 [vR 30 0, vI (nI 36)] [] (M2, w, true, true, [], t, u) ∧ (∀ j, j < 36 → M2 42 0 j = M 34 0 j) ∧ ∀ k a j, k ≠ 42 → M2 k a j = M k a j := by
    intro m
    induction m with
    | zero =>
      intro i Mi hi h1 h2
      have hi : i = 36 := hi
      subst hi
      exact ⟨Mi, rfl, h1, h2⟩
    | succ m ih =>
      intro i Mi hi h1 h2
      rw [bX7_image_2, show (36 : Int32) = nI 36 from rfl, if_neg (nI_ge (by omega) (by omega)), nin_t (show i < 36 by omega), cond_tt rfl, cond_tt rfl, nI_clamp (by omega), nI_1, h2 34 0 i (by omega)]
      refine ih (i + 1) _ (by omega) (fun j hj => ?_) (fun k a j q => (nst_fr (by omega)).trans (h2 k a j q))
      by_cases c : j = i
      · rw [c, nst_self]
      · rw [nst_j c]
        exact h1 j (by omega)
  exact loop 36 0 M (Nat.zero_add _) (fun j q => by omega) (fun _ _ _ _ => rfl)
theorem m_image_28 (d : Nat) (M : MM) (w : Int64) (t u : Nat) : ∃ M2, nR X (callN X d) hX7_image 28 [vR 30 0, vI 0] [] (M, w, true, true, [], t, u) = nR X (callN X d) hX7_image 28 [vR 30 0, vI (nI 10)] [] (M2, w, true, true, [], t, u) ∧ (∀ j, j < 10 → M2 43 0 j = M 36 0 j) ∧ ∀ k i j, k ≠ 43 → M2 k i j = M k i j := by
  have loop : ∀ (m i : Nat) (Mi : MM), i + m = 10 → (∀ j, j < i → Mi 43 0 j = M 36 0 j) → (∀ k a j, k ≠ 43 → Mi k a j = M k a j) → ∃ M2, nR X (callN X d) hX7_image 28 [vR 30 0, vI (nI i)] [] (Mi, w, true, true, [], t, u) = nR X (callN X d) hX7_image 28 [vR 30 0, vI (nI 10)] [] (M2, w, true, true, [], t, u) ∧ (∀ j, j < 10 → M2 43 0 j = M 36 0 j) ∧ ∀ k a j, k ≠ 43 → M2 k a j = M k a j := by
    intro m
    induction m with
    | zero =>
      intro i Mi hi h1 h2
      have hi : i = 10 := hi
      subst hi
      exact ⟨Mi, rfl, h1, h2⟩
    | succ m ih =>
      intro i Mi hi h1 h2
      rw [bX7_image_28, show (10 : Int32) = nI 10 from rfl, if_neg (nI_ge (by omega) (by omega)), nin_t (show i < 10 by omega), cond_tt rfl, cond_tt rfl, nI_clamp (by omega), nI_1, h2 36 0 i (by omega)]
      refine ih (i + 1) _ (by omega) (fun j hj => ?_) (fun k a j q => (nst_fr (by omega)).trans (h2 k a j q))
      by_cases c : j = i
      · rw [c, nst_self]
      · rw [nst_j c]
        exact h1 j (by omega)
  exact loop 10 0 M (Nat.zero_add _) (fun j q => by omega) (fun _ _ _ _ => rfl)
theorem m_image_54 (d : Nat) (M : MM) (w : Int64) (t u : Nat) : ∃ M2, nR X (callN X d) hX7_image 54 [vR 30 0, vI 0] [] (M, w, true, true, [], t, u) = nR X (callN X d) hX7_image 54 [vR 30 0, vI (nI 30)] [] (M2, w, true, true, [], t, u) ∧ (∀ j, j < 30 → M2 44 0 j = M 37 0 j) ∧ ∀ k i j, k ≠ 44 → M2 k i j = M k i j := by
  have loop : ∀ (m i : Nat) (Mi : MM), i + m = 30 → (∀ j, j < i → Mi 44 0 j = M 37 0 j) → (∀ k a j, k ≠ 44 → Mi k a j = M k a j) → ∃ M2, nR X (callN X d) hX7_image 54 [vR 30 0, vI (nI i)] [] (Mi, w, true, true, [], t, u) = nR X (callN X d) hX7_image 54 [vR 30 0, vI (nI 30)] [] (M2, w, true, true, [], t, u) ∧ (∀ j, j < 30 → M2 44 0 j = M 37 0 j) ∧ ∀ k a j, k ≠ 44 → M2 k a j = M k a j := by
    intro m
    induction m with
    | zero =>
      intro i Mi hi h1 h2
      have hi : i = 30 := hi
      subst hi
      exact ⟨Mi, rfl, h1, h2⟩
    | succ m ih =>
      intro i Mi hi h1 h2
      rw [bX7_image_54, show (30 : Int32) = nI 30 from rfl, if_neg (nI_ge (by omega) (by omega)), nin_t (show i < 30 by omega), cond_tt rfl, cond_tt rfl, nI_clamp (by omega), nI_1, h2 37 0 i (by omega)]
      refine ih (i + 1) _ (by omega) (fun j hj => ?_) (fun k a j q => (nst_fr (by omega)).trans (h2 k a j q))
      by_cases c : j = i
      · rw [c, nst_self]
      · rw [nst_j c]
        exact h1 j (by omega)
  exact loop 30 0 M (Nat.zero_add _) (fun j q => by omega) (fun _ _ _ _ => rfl)
theorem m_back_13 (d : Nat) (M : MM) (w : Int64) (t u : Nat) : ∃ M2, nR X (callN X d) hX7_back 13 [vR 30 0, vI 0] [] (M, w, true, true, [], t, u) = nR X (callN X d) hX7_back 13 [vR 30 0, vI (nI 36)] [] (M2, w, true, true, [], t, u) ∧ (∀ j, j < 36 → M2 34 0 j = M 42 0 j) ∧ ∀ k i j, k ≠ 34 → M2 k i j = M k i j := by
  have loop : ∀ (m i : Nat) (Mi : MM), i + m = 36 → (∀ j, j < i → Mi 34 0 j = M 42 0 j) → (∀ k a j, k ≠ 34 → Mi k a j = M k a j) → ∃ M2, nR X (callN X d) hX7_back 13 [vR 30 0, vI (nI i)] [] (Mi, w, true, true, [], t, u) = nR X (callN X d) hX7_back 13 [vR 30 0, vI (nI 36)] [] (M2, w, true, true, [], t, u) ∧ (∀ j, j < 36 → M2 34 0 j = M 42 0 j) ∧ ∀ k a j, k ≠ 34 → M2 k a j = M k a j := by
    intro m
    induction m with
    | zero =>
      intro i Mi hi h1 h2
      have hi : i = 36 := hi
      subst hi
      exact ⟨Mi, rfl, h1, h2⟩
    | succ m ih =>
      intro i Mi hi h1 h2
      rw [bX7_back_13, show (36 : Int32) = nI 36 from rfl, if_neg (nI_ge (by omega) (by omega)), nin_t (show i < 36 by omega), cond_tt rfl, cond_tt rfl, nI_clamp (by omega), nI_1, h2 42 0 i (by omega)]
      refine ih (i + 1) _ (by omega) (fun j hj => ?_) (fun k a j q => (nst_fr (by omega)).trans (h2 k a j q))
      by_cases c : j = i
      · rw [c, nst_self]
      · rw [nst_j c]
        exact h1 j (by omega)
  exact loop 36 0 M (Nat.zero_add _) (fun j q => by omega) (fun _ _ _ _ => rfl)
theorem m_back_39 (d : Nat) (M : MM) (w : Int64) (t u : Nat) : ∃ M2, nR X (callN X d) hX7_back 39 [vR 30 0, vI 0] [] (M, w, true, true, [], t, u) = nR X (callN X d) hX7_back 39 [vR 30 0, vI (nI 10)] [] (M2, w, true, true, [], t, u) ∧ (∀ j, j < 10 → M2 36 0 j = M 43 0 j) ∧ ∀ k i j, k ≠ 36 → M2 k i j = M k i j := by
  have loop : ∀ (m i : Nat) (Mi : MM), i + m = 10 → (∀ j, j < i → Mi 36 0 j = M 43 0 j) → (∀ k a j, k ≠ 36 → Mi k a j = M k a j) → ∃ M2, nR X (callN X d) hX7_back 39 [vR 30 0, vI (nI i)] [] (Mi, w, true, true, [], t, u) = nR X (callN X d) hX7_back 39 [vR 30 0, vI (nI 10)] [] (M2, w, true, true, [], t, u) ∧ (∀ j, j < 10 → M2 36 0 j = M 43 0 j) ∧ ∀ k a j, k ≠ 36 → M2 k a j = M k a j := by
    intro m
    induction m with
    | zero =>
      intro i Mi hi h1 h2
      have hi : i = 10 := hi
      subst hi
      exact ⟨Mi, rfl, h1, h2⟩
    | succ m ih =>
      intro i Mi hi h1 h2
      rw [bX7_back_39, show (10 : Int32) = nI 10 from rfl, if_neg (nI_ge (by omega) (by omega)), nin_t (show i < 10 by omega), cond_tt rfl, cond_tt rfl, nI_clamp (by omega), nI_1, h2 43 0 i (by omega)]
      refine ih (i + 1) _ (by omega) (fun j hj => ?_) (fun k a j q => (nst_fr (by omega)).trans (h2 k a j q))
      by_cases c : j = i
      · rw [c, nst_self]
      · rw [nst_j c]
        exact h1 j (by omega)
  exact loop 10 0 M (Nat.zero_add _) (fun j q => by omega) (fun _ _ _ _ => rfl)
theorem m_back_65 (d : Nat) (M : MM) (w : Int64) (t u : Nat) : ∃ M2, nR X (callN X d) hX7_back 65 [vR 30 0, vI 0] [] (M, w, true, true, [], t, u) = nR X (callN X d) hX7_back 65 [vR 30 0, vI (nI 30)] [] (M2, w, true, true, [], t, u) ∧ (∀ j, j < 30 → M2 37 0 j = M 44 0 j) ∧ ∀ k i j, k ≠ 37 → M2 k i j = M k i j := by
  have loop : ∀ (m i : Nat) (Mi : MM), i + m = 30 → (∀ j, j < i → Mi 37 0 j = M 44 0 j) → (∀ k a j, k ≠ 37 → Mi k a j = M k a j) → ∃ M2, nR X (callN X d) hX7_back 65 [vR 30 0, vI (nI i)] [] (Mi, w, true, true, [], t, u) = nR X (callN X d) hX7_back 65 [vR 30 0, vI (nI 30)] [] (M2, w, true, true, [], t, u) ∧ (∀ j, j < 30 → M2 37 0 j = M 44 0 j) ∧ ∀ k a j, k ≠ 37 → M2 k a j = M k a j := by
    intro m
    induction m with
    | zero =>
      intro i Mi hi h1 h2
      have hi : i = 30 := hi
      subst hi
      exact ⟨Mi, rfl, h1, h2⟩
    | succ m ih =>
      intro i Mi hi h1 h2
      rw [bX7_back_65, show (30 : Int32) = nI 30 from rfl, if_neg (nI_ge (by omega) (by omega)), nin_t (show i < 30 by omega), cond_tt rfl, cond_tt rfl, nI_clamp (by omega), nI_1, h2 44 0 i (by omega)]
      refine ih (i + 1) _ (by omega) (fun j hj => ?_) (fun k a j q => (nst_fr (by omega)).trans (h2 k a j q))
      by_cases c : j = i
      · rw [c, nst_self]
      · rw [nst_j c]
        exact h1 j (by omega)
  exact loop 30 0 M (Nat.zero_add _) (fun j q => by omega) (fun _ _ _ _ => rfl)
theorem q_image : Stq X 72 183 [] := fun s hB => by
  refine ⟨vI (nI (gP (sW s))), (sW s, (true, sW s), s.2.2), fun d M w t u h => ⟨nSt (becM M 1 0) 2 0 2 1, ?_, ⟨?_, ⟨⟨nst_self _ _ _ _ _, (nst_fr (by omega)).trans ((bec_fr M 1 0 _ _ _ (by omega)).trans h.2.1.1.2)⟩, fun _ => ?_⟩, ?_, ?_, fun i hi => ?_⟩, fun k i j q => (nst_fr (by omega)).trans (bec_fr M 1 0 k i j (by omega))⟩, fun d M w t u h => ?_, hB.1, hB.2.1, fun _ => ⟨hB.2.1, hB.1.1, Nat.le_refl _, fun _ _ => rfl⟩, hB.2.2.2.1, hB.2.2.2.2⟩
  · rw [show d + 200 = d + 199 + 1 from rfl, aX6_image, cBec X (d + 198) M w true [] t u (by omega), bnd_s, tl_n, bX6_image_11, nst_fr (by omega), bec_fr M 1 0 3 0 2 (by omega), h.1.2.2.1]
  · obtain ⟨a1, a2, a3, a4, a5, a6, a7, a8⟩ := h.1
    exact ⟨((nst_fr (by omega)).trans (bec_fr M 1 0 _ _ _ (by omega))).trans a1, ((nst_fr (by omega)).trans (bec_fr M 1 0 _ _ _ (by omega))).trans a2, ((nst_fr (by omega)).trans (bec_fr M 1 0 _ _ _ (by omega))).trans a3, fun j hj => ((nst_fr (by omega)).trans (bec_fr M 1 0 _ _ _ (by omega))).trans (a4 j hj), fun j hj => ((nst_fr (by omega)).trans (bec_fr M 1 0 _ _ _ (by omega))).trans (a5 j hj), fun j hj => ((nst_fr (by omega)).trans (bec_fr M 1 0 _ _ _ (by omega))).trans (a6 j hj), fun j hj => ((nst_fr (by omega)).trans (bec_fr M 1 0 _ _ _ (by omega))).trans (a7 j hj), fun j hj => ((nst_fr (by omega)).trans (bec_fr M 1 0 _ _ _ (by omega))).trans (a8 j hj)⟩
  · exact (bec_w h.1 (by omega)).fr (fun k i j q q2 => nst_fr (by omega))
  · exact h.2.2.1.fr (fun k i j q => (nst_fr (by omega)).trans (bec_fr M 1 0 k i j (by omega)))
  · exact h.2.2.2.1.fr (fun k i j q => (nst_fr (by omega)).trans (bec_fr M 1 0 k i j (by omega)))
  · exact (h.2.2.2.2 i hi).fr (fun k i j q => (nst_fr (by omega)).trans (bec_fr M 1 0 k i j (by omega)))
  · obtain ⟨M1, a1, a2, a3⟩ := m_image_2 X (d + 199) M w t u
    obtain ⟨M2, b1, b2, b3⟩ := m_image_28 X (d + 199) M1 w t u
    obtain ⟨M3, c1, c2, c3⟩ := m_image_54 X (d + 199) M2 w t u
    have hall : ∀ k i j, ¬ (42 ≤ k ∧ k ≤ 44) → M3 k i j = M k i j := fun k i j q => (c3 k i j (by omega)).trans ((b3 k i j (by omega)).trans (a3 k i j (by omega)))
    have h12 : M3 30 0 12 = nI (gP (sW s)) := (hall 30 0 12 (by omega)).trans h.1.2.2.1
    have h7 : M3 30 0 7 = nI (gD (sW s)) := (hall 30 0 7 (by omega)).trans h.1.1
    have h4 : M3 30 0 4 = nI (gR (sW s)) := (hall 30 0 4 (by omega)).trans h.1.2.1
    refine ⟨nSt (nSt (nSt M3 30 0 42 (nI (gP (sW s)))) 30 0 43 (nI (gD (sW s)))) 30 0 44 (nI (gR (sW s))), w, t, u, ?_, ⟨?_, ⟨fun q => (by cases q), fun _ => ⟨?_, ?_, nst_self _ _ _ _ _, fun j hj => ?_, fun j hj => ⟨?_, ?_⟩, fun j hj => ?_⟩⟩, ?_, ?_, fun i hi => ?_⟩, fun k i j q => (nst_fr (by omega)).trans ((nst_fr (by omega)).trans ((nst_fr (by omega)).trans (hall k i j (by omega)))), by omega, by omega⟩
    · rw [show d + 200 = d + 199 + 1 from rfl, aX7_image, a1, bX7_image_2, if_pos (by decide), b1, bX7_image_28, if_pos (by decide), c1, bX7_image_54, if_pos (by decide), nst_j (show ¬ 7 = 42 by omega), nst_j (show ¬ 4 = 43 by omega), nst_j (show ¬ 4 = 42 by omega), h12, h7, h4, nst_j (by omega), nst_j (by omega), nst_j (by omega), h12]
    · exact h.1.fr (fun k i j q => (nst_fr (by omega)).trans ((nst_fr (by omega)).trans ((nst_fr (by omega)).trans (hall k i j (by omega)))))
    · exact (nst_j (by omega)).trans ((nst_j (by omega)).trans (nst_self _ _ _ _ _))
    · exact (nst_j (by omega)).trans (nst_self _ _ _ _ _)
    · exact (nst_fr (by omega)).trans ((nst_fr (by omega)).trans ((nst_fr (by omega)).trans ((c3 42 0 j (by omega)).trans ((b3 42 0 j (by omega)).trans ((a2 j hj).trans (h.1.2.2.2.1 j hj))))))
    · exact (nst_fr (by omega)).trans ((nst_fr (by omega)).trans ((nst_fr (by omega)).trans ((c3 43 0 _ (by omega)).trans ((b2 _ (by omega)).trans ((a3 36 0 _ (by omega)).trans (h.1.2.2.2.2.2.2 j hj).1)))))
    · exact (nst_fr (by omega)).trans ((nst_fr (by omega)).trans ((nst_fr (by omega)).trans ((c3 43 0 _ (by omega)).trans ((b2 _ (by omega)).trans ((a3 36 0 _ (by omega)).trans (h.1.2.2.2.2.2.2 j hj).2)))))
    · exact (nst_fr (by omega)).trans ((nst_fr (by omega)).trans ((nst_fr (by omega)).trans ((c2 j hj).trans ((b3 37 0 j (by omega)).trans ((a3 37 0 j (by omega)).trans (h.1.2.2.2.2.1 j hj))))))
    · exact h.2.2.1.fr (fun k i j q => (nst_fr (by omega)).trans ((nst_fr (by omega)).trans ((nst_fr (by omega)).trans (hall k i j (by omega)))))
    · exact h.2.2.2.1.fr (fun k i j q => (nst_fr (by omega)).trans ((nst_fr (by omega)).trans ((nst_fr (by omega)).trans (hall k i j (by omega)))))
    · exact (h.2.2.2.2 i hi).fr (fun k i j q q2 => (nst_fr (by omega)).trans ((nst_fr (by omega)).trans ((nst_fr (by omega)).trans (hall k i j (by omega)))))
theorem q_back : Stq X 73 184 [] := fun s hB => by
  cases ck : sK s
  · refine q_bad X hB (vI (-3)) (fun d M w t u h => ?_) (fun d M w t u h => ?_)
    · have h2 := h.2.1.1.1
      rw [ck] at h2
      rw [show d + 200 = d + 199 + 1 from rfl, aX6_back, h2]
      rfl
    · rw [show d + 200 = d + 199 + 1 from rfl, aX7_back, h.2.1.1 ck, if_pos rfl]
  have hI := hB.2.2.1 ck
  refine ⟨vI (nI (gP (sI s))), (sI s, s.2), fun d M w t u h => ⟨becM M 0 1, ?_, h.w (bec_w (h.2.1.2 ck) (by omega)) (fun k i j _ q => bec_fr M 0 1 k i j q), fun k i j q => bec_fr M 0 1 k i j (by omega)⟩, fun d M w t u h => ?_, hB.w hI.1 hI.2.1 (fun _ => ⟨Nat.le_refl _, fun _ _ => rfl⟩)⟩
  · have h2 := h.2.1.1.1
    rw [ck] at h2
    have h2 : M 2 0 2 = 1 := h2
    have e9 : becM M 0 1 3 0 2 = nI (gP (sI s)) := (bec_w (h.2.1.2 ck) (by omega)).2.2.1
    rw [show d + 200 = d + 199 + 1 from rfl, aX6_back, h2, if_neg (by decide), cBec X (d + 198) M w true [] t u (by omega), bnd_s, tl_n, bX6_back_21, e9]
  · obtain ⟨i1, i2, i3, i4, i5, i6⟩ := h.2.1.2 ck
    obtain ⟨M1, a1, a2, a3⟩ := m_back_13 X (d + 199) M w t u
    obtain ⟨M2, b1, b2, b3⟩ := m_back_39 X (d + 199) M1 w t u
    obtain ⟨M3, c1, c2, c3⟩ := m_back_65 X (d + 199) M2 w t u
    have hall : ∀ k i j, k ≠ 34 → k ≠ 36 → k ≠ 37 → M3 k i j = M k i j := fun k i j q q2 q3 => (c3 k i j q3).trans ((b3 k i j q2).trans (a3 k i j q))
    have h42 : M3 30 0 42 = nI (gP (sI s)) := (hall 30 0 42 (by omega) (by omega) (by omega)).trans i1
    have h43 : M3 30 0 43 = nI (gD (sI s)) := (hall 30 0 43 (by omega) (by omega) (by omega)).trans i2
    have h44 : M3 30 0 44 = nI (gR (sI s)) := (hall 30 0 44 (by omega) (by omega) (by omega)).trans i3
    have hne : ¬ nI (gP (sI s)) = -1 := fun z => by
      have e1 : (-1 : Int32).toInt = -1 := rfl
      have := hI.1.1.1
      rw [← z, nI_toInt (by omega)] at e1
      omega
    refine ⟨nSt (nSt (nSt M3 30 0 12 (nI (gP (sI s)))) 30 0 7 (nI (gD (sI s)))) 30 0 4 (nI (gR (sI s))), w, t, u, ?_, h.w (g := sI s) ⟨?_, nst_self _ _ _ _ _, ?_, fun j hj => ?_, fun j hj => ?_, fun j hj => ?_, fun j hj => ⟨?_, ?_⟩⟩ (fun k i j q1 q2 q3 q4 => (nst_fr (by omega)).trans ((nst_fr (by omega)).trans ((nst_fr (by omega)).trans (hall k i j (by omega) (by omega) (by omega))))), fun k i j q => (nst_fr (by omega)).trans ((nst_fr (by omega)).trans ((nst_fr (by omega)).trans (hall k i j (by omega) (by omega) (by omega)))), by omega, by omega⟩
    · rw [show d + 200 = d + 199 + 1 from rfl, aX7_back, i1, if_neg hne, a1, bX7_back_13, if_pos (by decide), b1, bX7_back_39, if_pos (by decide), c1, bX7_back_65, if_pos (by decide), nst_j (show ¬ 43 = 12 by omega), nst_j (show ¬ 44 = 7 by omega), nst_j (show ¬ 44 = 12 by omega), h42, h43, h44, nst_j (by omega), nst_j (by omega), nst_self]
    · exact (nst_j (by omega)).trans (nst_self _ _ _ _ _)
    · exact (nst_j (by omega)).trans ((nst_j (by omega)).trans (nst_self _ _ _ _ _))
    · exact (nst_fr (by omega)).trans ((nst_fr (by omega)).trans ((nst_fr (by omega)).trans ((c3 34 0 j (by omega)).trans ((b3 34 0 j (by omega)).trans ((a2 j hj).trans (i4 j hj))))))
    · exact (nst_fr (by omega)).trans ((nst_fr (by omega)).trans ((nst_fr (by omega)).trans ((c2 j hj).trans ((b3 44 0 j (by omega)).trans ((a3 44 0 j (by omega)).trans (i6 j hj))))))
    · rw [hI.2.2.2 j hj]
      exact (nst_fr (by omega)).trans ((nst_fr (by omega)).trans ((nst_fr (by omega)).trans ((hall 35 0 j (by omega) (by omega) (by omega)).trans (h.1.2.2.2.2.2.1 j (by have := hI.2.2.1; omega)))))
    · exact (nst_fr (by omega)).trans ((nst_fr (by omega)).trans ((nst_fr (by omega)).trans ((c3 36 0 _ (by omega)).trans ((b2 _ (by omega)).trans ((a3 43 0 _ (by omega)).trans (i5 j hj).1)))))
    · exact (nst_fr (by omega)).trans ((nst_fr (by omega)).trans ((nst_fr (by omega)).trans ((c3 36 0 _ (by omega)).trans ((b2 _ (by omega)).trans ((a3 43 0 _ (by omega)).trans (i5 j hj).2)))))
end
