/-! the three parts of a text -/
def pPart (b : Nat → Nat) (n i p : Nat) : PR := if tk b n p = 4 + i then pThen (pP b n 41 0 0 (te b n p)) (fun c p2 => if tk b n p2 = 59 then (true, c, te b n p2) else (false, [], p2)) else (false, [], p)
abbrev TxR : Type := Bool × List Int32 × List Int32 × List Int32 × Nat
def pTx (b : Nat → Nat) (n : Nat) : TxR :=
  cond (pPart b n 0 0).1 (cond (pPart b n 1 (pPart b n 0 0).2.2).1 (cond (pPart b n 2 (pPart b n 1 (pPart b n 0 0).2.2).2.2).1
    (Nat.beq (tk b n (pPart b n 2 (pPart b n 1 (pPart b n 0 0).2.2).2.2).2.2) 0, (pPart b n 0 0).2.1, (pPart b n 1 (pPart b n 0 0).2.2).2.1, (pPart b n 2 (pPart b n 1 (pPart b n 0 0).2.2).2.2).2.1, (pPart b n 2 (pPart b n 1 (pPart b n 0 0).2.2).2.2).2.2)
    (false, [], [], [], (pPart b n 2 (pPart b n 1 (pPart b n 0 0).2.2).2.2).2.2)) (false, [], [], [], (pPart b n 1 (pPart b n 0 0).2.2).2.2)) (false, [], [], [], (pPart b n 0 0).2.2)
theorem pPart_good {b : Nat → Nat} {n i p : Nat} (h : p ≤ n) : pGood b n p (pPart b n i p) := by
  unfold pPart
  by_cases c : tk b n p = 4 + i
  · rw [if_pos c]
    have hp := te_p (b := b) (n := n) (p := p) (by omega)
    have hr := pP_good b n 41 0 0 (te b n p) (te_le h)
    refine good_then hr (Nat.le_of_lt hp) (fun hok => ?_)
    have h3 := hr.2.1
    have h4 := (hr.2.2 hok).2
    by_cases c6 : tk b n (pP b n 41 0 0 (te b n p)).2.2 = 59
    · rw [if_pos c6]
      have hp2 := te_p (b := b) (n := n) (p := (pP b n 41 0 0 (te b n p)).2.2) (by omega)
      refine ⟨te_le hr.1, ?_, fun _ => ⟨?_, ?_⟩⟩
      · show p ≤ te b n (pP b n 41 0 0 (te b n p)).2.2; omega
      · show p < te b n (pP b n 41 0 0 (te b n p)).2.2; omega
      · show p + (pP b n 41 0 0 (te b n p)).2.1.length ≤ te b n (pP b n 41 0 0 (te b n p)).2.2; omega
    · rw [if_neg c6]
      exact good_f hr.1 (by omega)
  · rw [if_neg c]
    exact good_f h (Nat.le_refl _)
def frT (M M' : MM) (s i : Nat) : Prop := ∀ k a j, ¬ (k = 9 ∧ 4 ≤ j) → ¬ (k = 11 ∧ s ≤ j) → ¬ (k = 12 ∧ i < j ∧ j < 4) → M' k a j = M k a j
theorem frP.T {M M' : MM} {s : Nat} (h : frP M M' s) (i : Nat) : frT M M' s i := fun k a j q q2 _ => h k a j q q2
theorem frT.trans {M M' M2 : MM} {s s' i i' : Nat} (h : frT M M' s i) (h2 : frT M' M2 s' i') (hs : s ≤ s') (hi : i ≤ i') : frT M M2 s i := fun k a j q q2 q3 => (h2 k a j q (fun z => q2 ⟨z.1, by omega⟩) (fun z => q3 ⟨z.1, by omega⟩)).trans (h k a j q q2 q3)
theorem RdC.frT {M M' : MM} {b : Nat → Nat} {n s i : Nat} (h : RdC M b n) (hf : frT M M' s i) : RdC M' b n := ⟨(hf 9 0 1 (by omega) (by omega) (by omega)).trans h.1, h.2.1, fun j hj => (hf 10 0 j (by omega) (by omega) (by omega)).trans (h.2.2.1 j hj), h.2.2.2⟩
section
variable (X : Nat × (Nat → Int32))
theorem cls_part {b : Nat → Nat} {n i p s : Nat} {M : MM} {w : Int64} {fm : Bool} {l : List (Nat × Nat × Nat)} {t u e : Nat} (hi : i < 3) (hR : RdC M b n) (hT : TokC M b n p) (hp : p ≤ n) (hs : s ≤ p) (h4 : M 9 0 4 = nI s) :
    ∃ M', nR X (callN X (e + 86)) hX2_read 16 [vR 9 0, vI (nI i)] [] (M, w, true, fm, l, t, u) = cond (pPart b n i p).1 (nR X (callN X (e + 86)) hX2_read 16 [vR 9 0, vI (nI (i + 1))] [] (M', w, true, fm, l, t, u)) (some (some (vI (nI (tq b n (pPart b n i p).2.2))), (M', w, true, fm, l, t, u))) ∧
      frT M M' s i ∧ ((pPart b n i p).1 = true → TokC M' b n (pPart b n i p).2.2 ∧ M' 9 0 4 = nI (s + (pPart b n i p).2.1.length) ∧ M' 12 0 (i + 1) = nI (s + (pPart b n i p).2.1.length) ∧ (∀ j, j < (pPart b n i p).2.1.length → M' 11 0 (s + j) = (pPart b n i p).2.1.getD j 0) ∧ ∀ j, j ≠ i + 1 → M' 12 0 j = M 12 0 j) := by
  have hn := hR.2.1
  have htk := tk_lt hR.2.2.2 n p
  unfold pPart
  rw [bX2_read_16, li3, if_neg (nI_ge hi (by omega)), hT.2.1, li4, nI_add]
  simp (disch := omega) only [nI_eq]
  by_cases c : tk b n p = 4 + i
  · rw [if_pos c]
    simp only [if_pos c]
    obtain ⟨M2, f1, f2, f3⟩ := sX2_next X (e + 83) w fm l t u hR (te_le hp) hT.1
    have hpe := te_p (b := b) (n := n) (p := p) (by omega)
    obtain ⟨M3, g1, g2⟩ := (cls_all X b n 41).1 0 0 (te b n p) s M2 w fm l t u e (by omega) (by omega) (by decide) (te_le hp) (by omega) (hR.fr f2) f3 ((f2 9 0 4 (by omega)).trans h4)
    have g1 : callN X (e + 86) 15 [vR 9 0, vI (0 : Int32), vI (0 : Int32)] (M2, w, true, fm, l, t, u) = some (some (bV (pP b n 41 0 0 (te b n p)).1), (M3, w, true, fm, l, t, u)) := g1
    rw [f1, bnd_s, tl_n, bX2_read_40, g1, bnd_s, tl_s]
    have hgood := pP_good b n 41 0 0 (te b n p) (te_le hp)
    have hseq := (PostC.id hT h4).seq f2 g2
    revert hgood hseq
    generalize pP b n 41 0 0 (te b n p) = r
    obtain ⟨ok, c2, p2⟩ := r
    intro hgood hseq
    cases ok
    · refine ⟨M3, ?_, hseq.1.T i, fun q => by cases q⟩
      have h7 : M3 9 0 7 = nI (tq b n p2) := hseq.2.1
      show nR X (callN X (e + 86)) hX2_read 46 _ [vI 0] _ = _
      rw [bX2_read_46, if_pos rfl, h7]
      rfl
    · have hseq : PostC M M3 b n s (true, c2, p2) := hseq
      have a1 : p2 ≤ n := hgood.1
      have hT3 : TokC M3 b n p2 := (hseq.2.2 rfl).1
      have htk2 := tk_lt hR.2.2.2 n p2
      have hr : nR X (callN X (e + 86)) hX2_read 46 [vR 9 0, vI (nI i)] [bV (true, c2, p2).1] (M3, w, true, fm, l, t, u) = if tk b n p2 = 59 then nBnd (callN X (e + 86) 21 [vR 9 0] (M3, w, true, fm, l, t, u)) (fun v s2 => nR X (callN X (e + 86)) hX2_read 67 [vR 9 0, vI (nI i)] (v.toList ++ []) s2) else some (some (vI (nI (tq b n p2))), (M3, w, true, fm, l, t, u)) := by
        show nR X (callN X (e + 86)) hX2_read 46 _ [vI 1] _ = _
        rw [bX2_read_46, if_neg (by decide), hT3.2.1, hT3.2.2.1, li59]
        simp (disch := omega) only [nI_eq]
      rw [hr, pThen_t rfl]
      show ∃ M', _ = cond (if tk b n p2 = 59 then (true, c2, te b n p2) else (false, [], p2)).1 _ (some (some (vI (nI (tq b n (if tk b n p2 = 59 then (true, c2, te b n p2) else (false, [], p2)).2.2))), _)) ∧ _ ∧ ((if tk b n p2 = 59 then (true, c2, te b n p2) else (false, [], p2)).1 = true → _)
      by_cases c7 : tk b n p2 = 59
      · simp only [if_pos c7]
        obtain ⟨M4, k1, k2, k3⟩ := sX2_next X (e + 83) w fm l t u (hR.frP hseq.1) (te_le a1) hT3.1
        have h44 : M4 9 0 4 = nI (s + c2.length) := (k2 9 0 4 (by omega)).trans (hseq.2.2 rfl).2.1
        rw [k1, bnd_s, tl_n, bX2_read_67, show nI i + (1 : Int32) = nI (i + 1) from nI_add i 1, in_nI (by omega) (by omega), cond_true, nI_clamp (by omega), h44]
        refine ⟨_, rfl, ?_, fun _ => ⟨?_, ?_, nst_self _ _ _ _ _, fun j hj => ?_, fun j hj => ?_⟩⟩
        · intro k a j q q2 q3
          rw [nst_fr (fun z => q3 ⟨z.1, by omega, by omega⟩), k2 k a j (fun z => q ⟨z.1, by omega⟩)]
          exact hseq.1 k a j q q2
        · exact ⟨(nst_fr (by omega)).trans k3.1, (nst_fr (by omega)).trans k3.2.1, (nst_fr (by omega)).trans k3.2.2.1, fun q => (nst_fr (by omega)).trans (k3.2.2.2 q)⟩
        · exact (nst_fr (by omega)).trans h44
        · rw [nst_fr (by omega), k2 11 0 (s + j) (by omega)]
          exact (hseq.2.2 rfl).2.2 j hj
        · rw [nst_j hj, k2 12 0 j (by omega)]
          exact hseq.1 12 0 j (by omega) (by omega)
      · simp only [if_neg c7]
        exact ⟨M3, rfl, hseq.1.T i, fun q => by cases q⟩
  · rw [if_neg c]
    simp only [if_neg c]
    rw [hT.2.2.1]
    exact ⟨M, rfl, (frP.refl M s).T i, fun q => by cases q⟩
theorem sX2_read {b : Nat → Nat} {n : Nat} {M : MM} (w : Int64) (fm : Bool) (l : List (Nat × Nat × Nat)) (t u e : Nat) (hR : RdC M b n) :
    ∃ M', callN X (e + 87) 14 [vR 9 0] (M, w, true, fm, l, t, u) = some (some (vI (cond (pTx b n).1 (-1) (nI (tq b n (pTx b n).2.2.2.2)))), (M', w, true, fm, l, t, u)) ∧ frT M M' 0 0 ∧
      ((pTx b n).1 = true → (M' 12 0 1 = nI (pTx b n).2.1.length ∧ M' 12 0 2 = nI ((pTx b n).2.1 ++ (pTx b n).2.2.1).length ∧ M' 12 0 3 = nI (((pTx b n).2.1 ++ (pTx b n).2.2.1) ++ (pTx b n).2.2.2.1).length) ∧
        ∀ j, j < (((pTx b n).2.1 ++ (pTx b n).2.2.1) ++ (pTx b n).2.2.2.1).length → M' 11 0 j = (((pTx b n).2.1 ++ (pTx b n).2.2.1) ++ (pTx b n).2.2.2.1).getD j 0) := by
  have f00 : frT M (nSt (nSt M 9 0 4 (0 : Int32)) 9 0 5 (0 : Int32)) 0 0 := fun k a j q _ _ => (nst_fr (fun z => q ⟨z.1, by omega⟩)).trans (nst_fr (fun z => q ⟨z.1, by omega⟩))
  obtain ⟨M1, g1, g2, g3⟩ := sX2_next X (e + 83) w fm l t u (hR.frT f00) (Nat.zero_le n) (nst_self _ _ _ _ _)
  have g4 : M1 9 0 4 = nI 0 := (g2 9 0 4 (by omega)).trans ((nst_j (by omega)).trans (nst_self _ _ _ _ _))
  have hst : callN X (e + 87) 14 [vR 9 0] (M, w, true, fm, l, t, u) = nR X (callN X (e + 86)) hX2_read 16 [vR 9 0, vI (nI 0)] [] (M1, w, true, fm, l, t, u) := by
    rw [show e + 87 = (e + 86) + 1 by omega, aX2_read, g1, bnd_s, tl_n, bX2_read_14]
    rfl
  rw [hst]
  have f01 : frT M M1 0 0 := f00.trans ((g2.P 0).T 0) (Nat.le_refl _) (Nat.le_refl _)
  have hR1 := hR.frT f01
  have hn := hR.2.1
  unfold pTx
  obtain ⟨M2, a1, a2, a3⟩ := cls_part X (w := w) (fm := fm) (l := l) (t := t) (u := u) (e := e) (i := 0) (by omega) hR1 g3 (Nat.zero_le n) (Nat.le_refl 0) g4
  rw [a1]
  have hg0 := pPart_good (b := b) (n := n) (i := 0) (Nat.zero_le n)
  revert a2 a3 hg0
  generalize pPart b n 0 0 = r0
  obtain ⟨ok0, c0, p0⟩ := r0
  intro a2 a3 hg0
  cases ok0
  · exact ⟨M2, rfl, f01.trans a2 (Nat.le_refl _) (Nat.le_refl _), fun q => by cases q⟩
  obtain ⟨a3, a4, a5, a6, a7⟩ := a3 rfl
  have a3 : TokC M2 b n p0 := a3
  have a4 : M2 9 0 4 = nI (0 + c0.length) := a4
  have hp0 : p0 ≤ n := hg0.1
  have hl0 : 0 + c0.length ≤ p0 := (hg0.2.2 rfl).2
  have f02 := f01.trans a2 (Nat.le_refl _) (Nat.le_refl _)
  simp only [cond_true]
  obtain ⟨M3, b1, b2, b3⟩ := cls_part X (w := w) (fm := fm) (l := l) (t := t) (u := u) (e := e) (i := 1) (by omega) (hR.frT f02) a3 hp0 hl0 a4
  rw [b1]
  have hg1 := pPart_good (b := b) (n := n) (i := 1) hp0
  revert b2 b3 hg1
  generalize pPart b n 1 p0 = r1
  obtain ⟨ok1, c1, p1⟩ := r1
  intro b2 b3 hg1
  cases ok1
  · exact ⟨M3, rfl, f02.trans b2 (Nat.zero_le _) (Nat.zero_le _), fun q => by cases q⟩
  obtain ⟨b3, b4, b5, b6, b7⟩ := b3 rfl
  have b3 : TokC M3 b n p1 := b3
  have b4 : M3 9 0 4 = nI (0 + c0.length + c1.length) := b4
  have hp1 : p1 ≤ n := hg1.1
  have hl1 : 0 + c0.length + c1.length ≤ p1 := by
    have : p0 + c1.length ≤ p1 := (hg1.2.2 rfl).2
    omega
  have f03 := f02.trans b2 (Nat.zero_le _) (Nat.zero_le _)
  simp only [cond_true]
  obtain ⟨M4, d1, d2, d3⟩ := cls_part X (w := w) (fm := fm) (l := l) (t := t) (u := u) (e := e) (i := 2) (by omega) (hR.frT f03) b3 hp1 hl1 b4
  rw [d1]
  have hg2 := pPart_good (b := b) (n := n) (i := 2) hp1
  revert d2 d3 hg2
  generalize pPart b n 2 p1 = r2
  obtain ⟨ok2, c2, p2⟩ := r2
  intro d2 d3 hg2
  cases ok2
  · exact ⟨M4, rfl, f03.trans d2 (Nat.zero_le _) (Nat.zero_le _), fun q => by cases q⟩
  obtain ⟨d3, d4, d5, d6, d7⟩ := d3 rfl
  have d3 : TokC M4 b n p2 := d3
  have f04 := f03.trans d2 (Nat.zero_le _) (Nat.zero_le _)
  simp only [cond_true]
  have htk := tk_lt hR.2.2.2 n p2
  refine ⟨M4, ?_, f04, fun _ => ⟨⟨?_, ?_, ?_⟩, fun j hj => ?_⟩⟩
  · rw [bX2_read_16, if_pos (by decide), d3.2.1, d3.2.2.1, li0]
    simp (disch := omega) only [nI_eq]
    by_cases c : tk b n p2 = 0
    · rw [if_pos c, beq_t c]
      rfl
    · rw [if_neg c, beq_f c]
      rfl
  · rw [d7 1 (by omega), b7 1 (by omega), a5]
    exact congrArg nI (Nat.zero_add _)
  · rw [d7 2 (by omega), b5]
    exact congrArg nI (by simp)
  · rw [d5]
    exact congrArg nI (by show 0 + c0.length + c1.length + c2.length = ((c0 ++ c1) ++ c2).length; simp only [List.length_append]; omega)
  · have hlen : ((c0 ++ c1) ++ c2).length = c0.length + c1.length + c2.length := by simp only [List.length_append]
    have hj : j < ((c0 ++ c1) ++ c2).length := hj
    rw [hlen] at hj
    show M4 11 0 j = ((c0 ++ c1) ++ c2).getD j 0
    by_cases z : j < c0.length + c1.length
    · rw [getD_l (by rw [List.length_append]; exact z), d2 11 0 j (by omega) (by omega) (by omega)]
      by_cases z2 : j < c0.length
      · rw [getD_l z2, b2 11 0 j (by omega) (by omega) (by omega)]
        have := a6 j z2
        rw [Nat.zero_add] at this
        exact this
      · rw [getD_r (by omega)]
        have := b6 (j - c0.length) (by show j - c0.length < c1.length; omega)
        rw [show 0 + c0.length + (j - c0.length) = j by omega] at this
        exact this
    · rw [getD_r (by rw [List.length_append]; omega), List.length_append]
      have := d6 (j - (c0.length + c1.length)) (by show j - (c0.length + c1.length) < c2.length; omega)
      rw [show 0 + c0.length + c1.length + (j - (c0.length + c1.length)) = j by omega] at this
      exact this
end
