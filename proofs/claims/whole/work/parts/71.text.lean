/-! text -/
def upX (f : Nat → GT) (i : Nat) (v : GT) : Nat → GT := fun j => if j = i then v else f j
def txS (s : GS) : GS := if sN s = 6 then s else cond (pTx (sT s).1 (sT s).2).1 (s.1, s.2.1, ((sT s).1, 0), (sN s + 1, upX (sX s) (sN s) (sT s)), s.2.2.2.2) (s.1, s.2.1, ((sT s).1, 0), (sN s, sX s), s.2.2.2.2)
def txV (s : GS) : Int32 := if sN s = 6 then -4 else cond (pTx (sT s).1 (sT s).2).1 (nI (sN s)) (-100 - nI (tq (sT s).1 (sT s).2 (pTx (sT s).1 (sT s).2).2.2.2.2))
theorem txS_SB {s : GS} (hB : SB s) : SB (txS s) := by
  unfold txS
  by_cases c : sN s = 6
  · rw [if_pos c]
    exact hB
  rw [if_neg c]
  have hN := hB.1.2.1
  have hT := hB.2.2.2.1
  have ht : (((sT s).1, 0) : GT).2 ≤ 160 ∧ ∀ j, (((sT s).1, 0) : GT).1 j < 256 := ⟨Nat.zero_le _, hT.2⟩
  cases e : (pTx (sT s).1 (sT s).2).1
  · exact ⟨hB.1, hB.2.1, hB.2.2.1, ht, hB.2.2.2.2⟩
  · refine ⟨⟨Nat.lt_succ_of_lt hB.1.1, by show sN s + 1 ≤ 6; omega, fun j hj => ?_, hB.1.2.2.2⟩, hB.2.1, fun q => ⟨(hB.2.2.1 q).1, Nat.lt_succ_of_lt (hB.2.2.1 q).2.1, (hB.2.2.1 q).2.2⟩, ht, hB.2.2.2.2⟩
    show TxG (upX (sX s) (sN s) (sT s) j).1 (upX (sX s) (sN s) (sT s) j).2
    have hj : j < sN s + 1 := hj
    unfold upX
    by_cases y : j = sN s
    · rw [if_pos y]
      exact ⟨hT.1, hT.2, e⟩
    · rw [if_neg y]
      exact hB.1.2.2.1 j (by omega)
theorem pTx_pos {b : Nat → Nat} {n : Nat} (hb : ∀ j, b j < 256) : tq b n (pTx b n).2.2.2.2 ≤ n := by
  apply tq_le
  unfold pTx
  have hg0 := pPart_good (b := b) (n := n) (i := 0) (Nat.zero_le n)
  revert hg0
  generalize pPart b n 0 0 = r0
  obtain ⟨ok0, c0, p0⟩ := r0
  intro hg0
  have hp0 : p0 ≤ n := hg0.1
  cases ok0
  · exact hp0
  simp only [cond_true]
  have hg1 := pPart_good (b := b) (n := n) (i := 1) hp0
  revert hg1
  generalize pPart b n 1 p0 = r1
  obtain ⟨ok1, c1, p1⟩ := r1
  intro hg1
  have hp1 : p1 ≤ n := hg1.1
  cases ok1
  · exact hp1
  simp only [cond_true]
  have hg2 := pPart_good (b := b) (n := n) (i := 2) hp1
  revert hg2
  generalize pPart b n 2 p1 = r2
  obtain ⟨ok2, c2, p2⟩ := r2
  intro hg2
  have hp2 : p2 ≤ n := hg2.1
  cases ok2
  · exact hp2
  · exact hp2
section
variable (X : Nat × (Nat → Int32))
theorem q_text : Stq X 56 144 [] := fun s hB => by
  have hN := hB.1.2.1
  obtain ⟨hT1, hT2⟩ := hB.2.2.2.1
  refine ⟨vI (txV s), txS s, fun d M w t u h => ?_, fun d M w t u h => ?_, txS_SB hB⟩
  · unfold txV txS
    by_cases c : sN s = 6
    · rw [if_pos c, if_pos c]
      refine ⟨M, ?_, h, fun _ _ _ _ => rfl⟩
      rw [show d + 200 = d + 199 + 1 from rfl, aX6_text, h.2.2.2.1.1, c, if_neg (by decide)]
    rw [if_neg c, if_neg c]
    have hR : RdC M (sT s).1 (sT s).2 := ⟨h.2.2.1.1, hT1, h.2.2.1.2, hT2⟩
    obtain ⟨M1, e1, e2, e3⟩ := sX2_read X w true [] t u (d + 112) hR
    have e1 : callN X (d + 199) 14 [vR 9 0] (M, w, true, true, [], t, u) = some (some (vI (cond (pTx (sT s).1 (sT s).2).1 (-1) (nI (tq (sT s).1 (sT s).2 (pTx (sT s).1 (sT s).2).2.2.2.2)))), (M1, w, true, true, [], t, u)) := e1
    have hfr : ∀ k a j, ¬ (k = 9 ∧ 4 ≤ j) → k ≠ 11 → ¬ (k = 12 ∧ 0 < j) → M1 k a j = M k a j := fun k a j q1 q2 q3 => e2 k a j q1 (by omega) (by omega)
    have h25 : M1 2 0 5 = nI (sN s) := (hfr 2 0 5 (by omega) (by omega) (by omega)).trans h.2.2.2.1.1
    have hrun : callN X (d + 200) 56 [vR 2 0] (M, w, true, true, [], t, u) = nR X (callN X (d + 199)) hX6_text 19 [vR 2 0, vX] [vI (cond (pTx (sT s).1 (sT s).2).1 (-1) (nI (tq (sT s).1 (sT s).2 (pTx (sT s).1 (sT s).2).2.2.2.2)))] (M1, w, true, true, [], t, u) := by
      rw [show d + 200 = d + 199 + 1 from rfl, aX6_text, h.2.2.2.1.1, if_pos (show nI (sN s) < 6 from nI_lt (b := 6) (by omega) (by omega)), e1, bnd_s]
      rfl
    rw [hrun]
    have htq : tq (sT s).1 (sT s).2 (pTx (sT s).1 (sT s).2).2.2.2.2 < 2 ^ 31 := by
      have := pTx_pos (n := (sT s).2) hT2
      omega
    revert e3
    cases e : (pTx (sT s).1 (sT s).2).1
    · intro _
      refine ⟨nSt M1 9 0 1 0, ?_, ⟨?_, ?_, ?_, ?_, fun i hi => ?_⟩, fun k i j q => (nst_fr (by omega)).trans (hfr k i j (by omega) (by omega) (by omega))⟩
      · rw [bX6_text_19]
        simp only [cond_false]
        rw [if_neg (nw_ne htq)]
      · exact h.1.fr (fun k i j _ _ => (nst_fr (by omega)).trans (hfr k i j (by omega) (by omega) (by omega)))
      · exact h.2.1.fr (fun k i j _ => (nst_fr (by omega)).trans (hfr k i j (by omega) (by omega) (by omega)))
      · exact ⟨nst_self _ _ _ _ _, fun j hj => absurd hj (Nat.not_lt_zero j)⟩
      · exact h.2.2.2.1.fr (fun k i j _ => (nst_fr (by omega)).trans (hfr k i j (by omega) (by omega) (by omega)))
      · exact (h.2.2.2.2 i hi).fr (fun k i j _ => (nst_fr (by omega)).trans (hfr k i j (by omega) (by omega) (by omega)))
    · intro e3
      obtain ⟨⟨f1, f2, f3⟩, f4⟩ := e3 rfl
      have hG : TxG (sT s).1 (sT s).2 := ⟨hT1, hT2, e⟩
      have hlen := pTx_len e
      have hcode : ∀ j, j < (((pTx (sT s).1 (sT s).2).2.1 ++ (pTx (sT s).1 (sT s).2).2.2.1) ++ (pTx (sT s).1 (sT s).2).2.2.2.1).length → j < 160 := fun j hj => by omega
      have h120 : M1 12 0 0 = 0 := (hfr 12 0 0 (by omega) (by omega) (by omega)).trans h.2.1.1.2
      refine ⟨nSt (nCpy (nCpy (nSt M1 9 0 1 0) 11 0 0 15 (sN s) 0 160) 12 0 0 16 (sN s) 0 4) 2 0 5 (nI (sN s + 1)), ?_, ⟨?_, ?_, ?_, ?_, fun i hi => ?_⟩, fun k i j q => (nst_fr (by omega)).trans ((cpy_ne (by omega)).trans ((cpy_ne (by omega)).trans ((nst_fr (by omega)).trans (hfr k i j (by omega) (by omega) (by omega)))))⟩
      · rw [bX6_text_19]
        simp only [cond_true]
        rw [if_pos trivial, nst_fr (by omega), h25, nin_t (show sN s < 6 by omega), cond_tt rfl, nI_clamp (by omega), show d + 199 = d + 198 + 1 from rfl, aX4_becomes, bnd_s, tl_n, bX6_text_64, nst_self, show (0 : Int32).toNatClampNeg = 0 from rfl, show (160 : Int32).toNatClampNeg = 160 from rfl, show (4 : Int32).toNatClampNeg = 4 from rfl, cpy_ne (by omega), cpy_ne (by omega), nst_fr (by omega), h25, nI_1, nI_pred]
      · exact h.1.fr (fun k i j _ _ => (nst_fr (by omega)).trans ((cpy_ne (by omega)).trans ((cpy_ne (by omega)).trans ((nst_fr (by omega)).trans (hfr k i j (by omega) (by omega) (by omega))))))
      · exact h.2.1.fr (fun k i j _ => (nst_fr (by omega)).trans ((cpy_ne (by omega)).trans ((cpy_ne (by omega)).trans ((nst_fr (by omega)).trans (hfr k i j (by omega) (by omega) (by omega))))))
      · exact ⟨(nst_fr (by omega)).trans ((cpy_ne (by omega)).trans ((cpy_ne (by omega)).trans (nst_self _ _ _ _ _))), fun j hj => absurd hj (Nat.not_lt_zero j)⟩
      · refine ⟨nst_self _ _ _ _ _, fun j hj => ?_⟩
        have hj : j < sN s + 1 := hj
        show TxC _ j (pTx (upX (sX s) (sN s) (sT s) j).1 (upX (sX s) (sN s) (sT s) j).2)
        unfold upX
        by_cases y : j = sN s
        · rw [if_pos y, y]
          refine ⟨?_, ?_, ?_, ?_, fun q hq => ?_⟩
          · exact (nst_fr (by omega)).trans ((cpy_0 (by omega)).trans ((cpy_ne (by omega)).trans ((nst_fr (by omega)).trans h120)))
          · exact (nst_fr (by omega)).trans ((cpy_0 (by omega)).trans ((cpy_ne (by omega)).trans ((nst_fr (by omega)).trans f1)))
          · exact (nst_fr (by omega)).trans ((cpy_0 (by omega)).trans ((cpy_ne (by omega)).trans ((nst_fr (by omega)).trans f2)))
          · exact (nst_fr (by omega)).trans ((cpy_0 (by omega)).trans ((cpy_ne (by omega)).trans ((nst_fr (by omega)).trans f3)))
          · exact (nst_fr (by omega)).trans ((cpy_ne (by omega)).trans ((cpy_0 (hcode q hq)).trans ((nst_fr (by omega)).trans (f4 q hq))))
        · rw [if_neg y]
          obtain ⟨g0, g1, g2, g3, g4⟩ := h.2.2.2.1.2 j (by omega)
          refine ⟨?_, ?_, ?_, ?_, fun q hq => ?_⟩
          · exact (nst_fr (by omega)).trans ((cpy_ne (by omega)).trans ((cpy_ne (by omega)).trans ((nst_fr (by omega)).trans ((hfr _ _ _ (by omega) (by omega) (by omega)).trans g0))))
          · exact (nst_fr (by omega)).trans ((cpy_ne (by omega)).trans ((cpy_ne (by omega)).trans ((nst_fr (by omega)).trans ((hfr _ _ _ (by omega) (by omega) (by omega)).trans g1))))
          · exact (nst_fr (by omega)).trans ((cpy_ne (by omega)).trans ((cpy_ne (by omega)).trans ((nst_fr (by omega)).trans ((hfr _ _ _ (by omega) (by omega) (by omega)).trans g2))))
          · exact (nst_fr (by omega)).trans ((cpy_ne (by omega)).trans ((cpy_ne (by omega)).trans ((nst_fr (by omega)).trans ((hfr _ _ _ (by omega) (by omega) (by omega)).trans g3))))
          · exact (nst_fr (by omega)).trans ((cpy_ne (by omega)).trans ((cpy_ne (by omega)).trans ((nst_fr (by omega)).trans ((hfr _ _ _ (by omega) (by omega) (by omega)).trans (g4 q hq)))))
      · exact (h.2.2.2.2 i hi).fr (fun k i j _ => (nst_fr (by omega)).trans ((cpy_ne (by omega)).trans ((cpy_ne (by omega)).trans ((nst_fr (by omega)).trans (hfr k i j (by omega) (by omega) (by omega))))))
  · unfold txV txS
    by_cases c : sN s = 6
    · rw [if_pos c, if_pos c]
      refine ⟨M, w, t, u, ?_, h, fun _ _ _ _ => rfl, by omega, by omega⟩
      rw [show d + 200 = d + 199 + 1 from rfl, aX7_text, h.2.2.2.1.1, c, if_pos (by decide)]
    rw [if_neg c, if_neg c]
    have loop : ∀ (m i : Nat) (Mi : MM), i + m = (sT s).2 → (∀ j, j < i → Mi 31 0 (160 * sN s + j) = nI ((sT s).1 j)) → (∀ k a j, ¬ (k = 31 ∧ 160 * sN s ≤ j ∧ j < 160 * sN s + 160) → Mi k a j = M k a j) → ∃ M2, nR X (callN X (d + 199)) hX7_text 14 [vR 30 0, vI (nI i)] [] (Mi, w, true, true, [], t, u) = nR X (callN X (d + 199)) hX7_text 14 [vR 30 0, vI (nI (sT s).2)] [] (M2, w, true, true, [], t, u) ∧ (∀ j, j < (sT s).2 → M2 31 0 (160 * sN s + j) = nI ((sT s).1 j)) ∧ ∀ k a j, ¬ (k = 31 ∧ 160 * sN s ≤ j ∧ j < 160 * sN s + 160) → M2 k a j = M k a j := by
      intro m
      induction m with
      | zero =>
        intro i Mi hi h1 h2
        have hi : i = (sT s).2 := hi
        rw [hi]
        rw [hi] at h1
        exact ⟨Mi, rfl, h1, h2⟩
      | succ m ih =>
        intro i Mi hi h1 h2
        have g6 : Mi 30 0 6 = nI (sT s).2 := (h2 30 0 6 (by omega)).trans h.2.2.1.1
        have g3 : Mi 30 0 3 = nI (sN s) := (h2 30 0 3 (by omega)).trans h.2.2.2.1.1
        have g33 : Mi 33 0 i = nI ((sT s).1 i) := (h2 33 0 i (by omega)).trans (h.2.2.1.2 i (by omega))
        rw [bX7_text_14, g6, if_neg (nI_ge (by omega) (by omega)), nin_t (show i < 160 by omega), cond_tt rfl, g3, li160, pk_mul, nI_add, nin_t (show 160 * sN s + i < 960 by omega), cond_tt rfl, nI_clamp (by omega), nI_clamp (by omega), g33, nI_1]
        refine ih (i + 1) _ (by omega) (fun j hj => ?_) (fun k a j q => (nst_fr (by omega)).trans (h2 k a j q))
        by_cases y : j = i
        · rw [y, nst_self]
        · rw [nst_j (by omega)]
          exact h1 j (by omega)
    obtain ⟨M1, a1, a2, a3⟩ := loop (sT s).2 0 M (Nat.zero_add _) (fun j q => absurd q (Nat.not_lt_zero j)) (fun _ _ _ _ => rfl)
    have g6 : M1 30 0 6 = nI (sT s).2 := (a3 30 0 6 (by omega)).trans h.2.2.1.1
    have g3 : M1 30 0 3 = nI (sN s) := (a3 30 0 3 (by omega)).trans h.2.2.2.1.1
    obtain ⟨M2, w2, v, b1, b2, b3, b4⟩ := sX7_read X (M := nSt (nSt M1 32 0 (sN s) (nI (sT s).2)) 30 0 6 0) (b := (sT s).1) (n := (sT s).2) (tx := sN s) 0 w [] t u (d + 148) (by omega) ((nst_fr (by omega)).trans (nst_self _ _ _ _ _)) hT1 (fun j hj => (nst_fr (by omega)).trans ((nst_fr (by omega)).trans (a2 j hj))) hT2
    have b1 : callN X (d + 199) 143 [vR 30 0, vI (nI (sN s)), vI 0] (nSt (nSt M1 32 0 (sN s) (nI (sT s).2)) 30 0 6 0, w, true, true, [], t, u) = some (some (vI v), (M2, w2, true, true, [], t, u)) := b1
    have hfr : ∀ k a j, ¬ (k = 31 ∧ 160 * sN s ≤ j ∧ j < 160 * sN s + 160) → ¬ (k = 32 ∧ j = sN s) → ¬ (k = 30 ∧ (j = 6 ∨ (19 ≤ j ∧ j ≤ 27))) → M2 k a j = M k a j := fun k a j q1 q2 q3 => (b2 k a j (by omega)).trans ((nst_fr (by omega)).trans ((nst_fr (by omega)).trans (a3 k a j q1)))
    have hrun : callN X (d + 200) 144 [vR 30 0] (M, w, true, true, [], t, u) = nR X (callN X (d + 199)) hX7_text 76 [vR 30 0, vI (nI (sT s).2)] [vI v] (M2, w2, true, true, [], t, u) := by
      have a1 : nR X (callN X (d + 199)) hX7_text 14 [vR 30 0, vI 0] [] (M, w, true, true, [], t, u) = _ := a1
      rw [show d + 200 = d + 199 + 1 from rfl, aX7_text, h.2.2.2.1.1, if_neg (show ¬ nI (sN s) = 6 from fun q => c ((nI_eq (b := 6) (by omega) (by omega)).mp q)), a1, bX7_text_14, g6, if_pos (nI_le (Nat.le_refl _) (by omega)), g3, nin_t (show sN s < 6 by omega), cond_tt rfl, nI_clamp (by omega), nst_j (by omega), nst_fr (by omega), g3, b1, bnd_s]
      rfl
    have m3 : M2 30 0 3 = nI (sN s) := (hfr 30 0 3 (by omega) (by omega) (by omega)).trans h.2.2.2.1.1
    have m6 : M2 30 0 6 = nI 0 := (b2 30 0 6 (by omega)).trans (nst_self _ _ _ _ _)
    have hX : ∀ j, j < sN s → TxM M2 j (sX s j).1 (sX s j).2 := fun j hj => by
      have h9 := h.2.2.2.1.2 j hj
      have hl := (hB.1.2.2.1 j hj).1
      exact ⟨(hfr 32 0 j (by omega) (by omega) (by omega)).trans h9.1, fun q hq => (hfr 31 0 _ (by omega) (by omega) (by omega)).trans (h9.2 q hq)⟩
    have hW : WM M2 (sW s) := h.1.fr (fun k i j q => hfr k i j (by omega) (by omega) (by omega))
    have hI : IM M2 (sK s) (sI s) := h.2.1.fr (fun k i j q => hfr k i j (by omega) (by omega) (by omega))
    have hH : ∀ i, i < 4 → HM M2 i (sH s i) := fun i hi => (h.2.2.2.2 i hi).fr (fun k i j q q2 => hfr k i j (by omega) (by omega) (by omega))
    rw [hrun, bX7_text_76]
    revert b3 b4
    cases e : (pTx (sT s).1 (sT s).2).1
    · intro _ b4
      obtain ⟨f1, f2⟩ := b4 rfl
      rw [f1, if_neg (by decide), f2]
      exact ⟨M2, w2, t, u, rfl, ⟨hW, hI, ⟨m6, fun j hj => absurd hj (Nat.not_lt_zero j)⟩, ⟨m3, hX⟩, hH⟩, fun k i j q => hfr k i j (by omega) (by omega) (by omega), by omega, by omega⟩
    · intro b3 _
      obtain ⟨f1, -⟩ := b3 rfl
      rw [f1, if_pos rfl, nst_self, m3, nI_1, nI_pred]
      refine ⟨nSt M2 30 0 3 (nI (sN s + 1)), w2, t, u, rfl, ⟨hW.fr (fun k i j q => nst_fr (by omega)), hI.fr (fun k i j q => nst_fr (by omega)), ⟨(nst_j (by omega)).trans m6, fun j hj => absurd hj (Nat.not_lt_zero j)⟩, ⟨nst_self _ _ _ _ _, fun j hj => ?_⟩, fun i hi => (hH i hi).fr (fun k i j q q2 => nst_fr (by omega))⟩, fun k i j q => (nst_fr (by omega)).trans (hfr k i j (by omega) (by omega) (by omega)), by omega, by omega⟩
      have hj : j < sN s + 1 := hj
      show TxM _ j (upX (sX s) (sN s) (sT s) j).1 (upX (sX s) (sN s) (sT s) j).2
      unfold upX
      by_cases y : j = sN s
      · rw [if_pos y, y]
        exact ⟨(nst_fr (by omega)).trans ((b2 32 0 (sN s) (by omega)).trans ((nst_fr (by omega)).trans (nst_self _ _ _ _ _))), fun q hq => (nst_fr (by omega)).trans ((b2 31 0 _ (by omega)).trans ((nst_fr (by omega)).trans ((nst_fr (by omega)).trans (a2 q hq))))⟩
      · rw [if_neg y]
        exact (hX j (by omega)).fr (fun k i j q => nst_fr (by omega))
end
