/-! the class reads a text -/
theorem li0 : (0 : Int32) = nI 0 := rfl
theorem li1 : (1 : Int32) = nI 1 := rfl
theorem li2 : (2 : Int32) = nI 2 := rfl
theorem li3 : (3 : Int32) = nI 3 := rfl
theorem li4 : (4 : Int32) = nI 4 := rfl
theorem li5 : (5 : Int32) = nI 5 := rfl
theorem li6 : (6 : Int32) = nI 6 := rfl
theorem li7 : (7 : Int32) = nI 7 := rfl
theorem li8 : (8 : Int32) = nI 8 := rfl
theorem li9 : (9 : Int32) = nI 9 := rfl
theorem li10 : (10 : Int32) = nI 10 := rfl
theorem li40 : (40 : Int32) = nI 40 := rfl
theorem li41 : (41 : Int32) = nI 41 := rfl
theorem li42 : (42 : Int32) = nI 42 := rfl
theorem li43 : (43 : Int32) = nI 43 := rfl
theorem li45 : (45 : Int32) = nI 45 := rfl
theorem li59 : (59 : Int32) = nI 59 := rfl
theorem li60 : (60 : Int32) = nI 60 := rfl
theorem li61 : (61 : Int32) = nI 61 := rfl
theorem li160 : (160 : Int32) = nI 160 := rfl
theorem tk_lt {b : Nat → Nat} (hb : ∀ j, b j < 256) (n p : Nat) : tk b n p < 256 := by
  unfold tk
  cases Nat.ble n (tq b n p)
  · rw [cond_false]
    cases isLe (b (tq b n p))
    · rw [cond_false]
      cases isDi (b (tq b n p))
      · rw [cond_false]
        cases isSg (b (tq b n p))
        · show 1 < 256; omega
        · exact hb _
      · rw [cond_true]
        by_cases c : te b n p - tq b n p ≤ 4
        · rw [if_pos c]; omega
        · rw [if_neg c]; omega
    · rw [cond_true]
      have := wd_le b (tq b n p) (te b n p)
      unfold tW
      by_cases c : wdI b (tq b n p) (te b n p) < 6
      · rw [if_pos c]; omega
      · rw [if_neg c]
        by_cases c2 : wdI b (tq b n p) (te b n p) < 12
        · rw [if_pos c2]; omega
        · rw [if_neg c2]; omega
  · show 0 < 256; omega
def frP (M M' : MM) (s : Nat) : Prop := ∀ k i j, ¬ (k = 9 ∧ 4 ≤ j) → ¬ (k = 11 ∧ s ≤ j) → M' k i j = M k i j
theorem frP.refl (M : MM) (s : Nat) : frP M M s := fun _ _ _ _ _ => rfl
theorem frP.trans {M M' M2 : MM} {s s' : Nat} (h : frP M M' s) (h2 : frP M' M2 s') (hs : s ≤ s') : frP M M2 s := fun k i j q q2 => (h2 k i j q (fun z => q2 ⟨z.1, by omega⟩)).trans (h k i j q q2)
theorem fr9.P {M M' : MM} (h : fr9 M M') (s : Nat) : frP M M' s := fun k i j q _ => h k i j (fun z => q ⟨z.1, by omega⟩)
theorem RdC.frP {M M' : MM} {b : Nat → Nat} {n s : Nat} (h : RdC M b n) (hf : frP M M' s) : RdC M' b n := ⟨(hf 9 0 1 (by omega) (by omega)).trans h.1, h.2.1, fun j hj => (hf 10 0 j (by omega) (by omega)).trans (h.2.2.1 j hj), h.2.2.2⟩
def PostC (M M' : MM) (b : Nat → Nat) (n s : Nat) (r : PR) : Prop := frP M M' s ∧ M' 9 0 7 = nI (tq b n r.2.2) ∧ (r.1 = true → TokC M' b n r.2.2 ∧ M' 9 0 4 = nI (s + r.2.1.length) ∧ ∀ j, j < r.2.1.length → M' 11 0 (s + j) = r.2.1.getD j 0)
def putM (M : MM) (s : Nat) (x : Int32) : MM := nSt (nSt M 11 0 s x) 9 0 4 (nI (s + 1))
theorem putM_fr (M : MM) (s : Nat) (x : Int32) : frP M (putM M s x) s := fun k i j q q2 => (nst_fr (fun z => q ⟨z.1, by omega⟩)).trans (nst_fr (fun z => q2 ⟨z.1, by omega⟩))
theorem putM_5 (M : MM) (s : Nat) (x : Int32) {j : Nat} (h : 5 ≤ j) : putM M s x 9 0 j = M 9 0 j := (nst_j (by omega)).trans (nst_fr (by omega))
theorem putM_Tok {M : MM} {b : Nat → Nat} {n p : Nat} (h : TokC M b n p) (s : Nat) (x : Int32) : TokC (putM M s x) b n p := ⟨(putM_5 _ _ _ (by omega)).trans h.1, (putM_5 _ _ _ (by omega)).trans h.2.1, (putM_5 _ _ _ (by omega)).trans h.2.2.1, fun q => (putM_5 _ _ _ (by omega)).trans (h.2.2.2 q)⟩
theorem putM_s (M : MM) (s : Nat) (x : Int32) : putM M s x 11 0 s = x := (nst_fr (by omega)).trans (nst_self _ _ _ _ _)
theorem putM_n (M : MM) (s : Nat) (x : Int32) {j : Nat} (h : j ≠ s) : putM M s x 11 0 j = M 11 0 j := (nst_fr (by omega)).trans (nst_j h)
theorem getD_l {c c2 : List Int32} {j : Nat} (h : j < c.length) : (c ++ c2).getD j 0 = c.getD j 0 := by
  simp [List.getD, List.getElem?_append_left h]
theorem getD_r {c c2 : List Int32} {j : Nat} (h : c.length ≤ j) : (c ++ c2).getD j 0 = c2.getD (j - c.length) 0 := by
  simp [List.getD, List.getElem?_append_right h]
theorem PostC.put {M M1 : MM} {b : Nat → Nat} {n s p : Nat} {c : List Int32} (h : PostC M M1 b n s (true, c, p)) (x : Int32) : PostC M (putM M1 (s + c.length) x) b n s (true, c ++ [x], p) := by
  obtain ⟨h1, h2, h3⟩ := h
  obtain ⟨h4, h5, h6⟩ := h3 rfl
  refine ⟨h1.trans (putM_fr _ _ _) (by omega), (putM_5 _ _ _ (by omega)).trans h2, fun _ => ⟨putM_Tok h4 _ _, ?_, fun j hj => ?_⟩⟩
  · show nSt _ 9 0 4 _ 9 0 4 = _
    rw [nst_self, List.length_append, List.length_singleton]
    rfl
  · have hj : j < (c ++ [x]).length := hj
    rw [List.length_append, List.length_singleton] at hj
    show _ = (c ++ [x]).getD j 0
    by_cases hc : j < c.length
    · rw [getD_l hc, putM_n _ _ _ (by omega)]
      exact h6 j hc
    · have : j = c.length := by omega
      subst this
      rw [getD_r (Nat.le_refl _), Nat.sub_self, putM_s]
      rfl
theorem PostC.seq {M M1 M1' M2 : MM} {b : Nat → Nat} {n s p : Nat} {c : List Int32} {r : PR} (h : PostC M M1 b n s (true, c, p)) (hf : fr9 M1 M1') (h2 : PostC M1' M2 b n (s + c.length) r) : PostC M M2 b n s (pApp c r) := by
  obtain ⟨a1, a2, a3⟩ := h
  obtain ⟨a4, a5, a6⟩ := a3 rfl
  obtain ⟨b1, b2, b3⟩ := h2
  have hfr := (a1.trans (hf.P s) (Nat.le_refl s)).trans b1 (by omega)
  refine ⟨hfr, b2, fun hok => ?_⟩
  obtain ⟨b4, b5, b6⟩ := b3 hok
  refine ⟨b4, ?_, fun j hj => ?_⟩
  · show M2 9 0 4 = nI (s + (c ++ r.2.1).length)
    rw [List.length_append, ← Nat.add_assoc]
    exact b5
  · have hj : j < (c ++ r.2.1).length := hj
    rw [List.length_append] at hj
    show M2 11 0 (s + j) = (c ++ r.2.1).getD j 0
    by_cases hc : j < c.length
    · rw [getD_l hc, b1 11 0 (s + j) (by omega) (by omega), hf 11 0 (s + j) (by omega)]
      exact a6 j hc
    · rw [getD_r (by omega), show s + j = s + c.length + (j - c.length) by omega]
      exact b6 _ (by omega)
theorem PostC.f {M M' : MM} {b : Nat → Nat} {n s p : Nat} {r : PR} (h : PostC M M' b n s r) (hp : r.2.2 = p) : PostC M M' b n s (false, [], p) := ⟨h.1, by rw [← hp]; exact h.2.1, fun q => by cases q⟩
theorem PostC.id {M : MM} {b : Nat → Nat} {n s p : Nat} (h : TokC M b n p) (hs : M 9 0 4 = nI s) : PostC M M b n s (true, [], p) := ⟨frP.refl M s, h.2.2.1, fun _ => ⟨h, hs, fun j hj => by cases hj⟩⟩
def lvI (x : Nat) : Int32 := if lvT x = 9 then -1 else nI (lvT x)
theorem lvI_eq {x lv : Nat} (h : lv < 5) : lvI x = nI lv ↔ lvT x = lv := by
  unfold lvI
  by_cases c : lvT x = 9
  · rw [if_pos c, c]
    constructor
    · intro q
      exfalso
      have : lv = 0 ∨ lv = 1 ∨ lv = 2 ∨ lv = 3 ∨ lv = 4 := by omega
      rcases this with rfl | rfl | rfl | rfl | rfl <;> exact absurd q (by decide)
    · intro q; omega
  · rw [if_neg c]
    have : lvT x ≤ 9 := by unfold lvT; (repeat' split) <;> omega
    exact nI_eq (by omega) (by omega)
section
variable (X : Nat × (Nat → Int32))
theorem sX2_put (d : Nat) (w : Int64) (fm : Bool) (l : List (Nat × Nat × Nat)) (t u : Nat) {M : MM} {s : Nat} (x : Int32) (hs : s < 160) (h4 : M 9 0 4 = nI s) : callN X (d + 1) 20 [vR 9 0, vI x] (M, w, true, fm, l, t, u) = some (none, (putM M s x, w, true, fm, l, t, u)) := by
  rw [aX2_put, h4, li160, if_neg (nI_ge hs (by omega)), in_nI hs (by omega), cond_true, nI_clamp (by omega), nst_fr (by omega), h4]
  rw [show nI s + (1 : Int32) = nI (s + 1) from nI_add s 1]
  rfl
theorem sX2_levelOf (d : Nat) (w : Int64) (fm : Bool) (l : List (Nat × Nat × Nat)) (t u : Nat) {M : MM} {x : Nat} (hx : x < 256) : callN X (d + 1) 18 [vI (nI x)] (M, w, true, fm, l, t, u) = some (some (vI (lvI x)), (M, w, true, fm, l, t, u)) := by
  rw [aX2_levelOf, li7, li8, li42, li43, li45, li60, li61]
  simp (disch := omega) only [nI_eq]
  unfold lvI lvT
  by_cases c1 : x = 7
  · rw [if_pos c1, if_pos c1]; rfl
  rw [if_neg c1, if_neg c1]
  by_cases c2 : x = 8
  · rw [if_pos c2, if_pos c2]; rfl
  simp only [if_neg c2]
  by_cases c3 : x = 42
  · rw [if_pos c3, if_pos c3]; rfl
  simp only [if_neg c3]
  by_cases c4 : x = 43
  · rw [if_pos c4, if_pos c4]; rfl
  rw [if_neg c4, if_neg c4]
  by_cases c5 : x = 45
  · rw [if_pos c5, if_pos c5]; rfl
  rw [if_neg c5, if_neg c5]
  by_cases c6 : x = 60
  · rw [if_pos c6, if_pos c6]; rfl
  rw [if_neg c6, if_neg c6]
  by_cases c7 : x = 61
  · rw [if_pos c7, if_pos c7]; rfl
  rw [if_neg c7, if_neg c7]
  rfl
theorem sX2_stepOf (d : Nat) (w : Int64) (fm : Bool) (l : List (Nat × Nat × Nat)) (t u : Nat) {M : MM} {x : Nat} (hx : x < 256) : callN X (d + 1) 19 [vI (nI x)] (M, w, true, fm, l, t, u) = some (some (vI (stT x)), (M, w, true, fm, l, t, u)) := by
  rw [aX2_stepOf, li7, li8, li43, li45, li60, li61]
  simp (disch := omega) only [nI_eq]
  unfold stT
  by_cases c1 : x = 7
  · rw [if_pos c1, if_pos c1]
  rw [if_neg c1, if_neg c1]
  by_cases c2 : x = 8
  · rw [if_pos c2, if_pos c2]
  rw [if_neg c2, if_neg c2]
  by_cases c4 : x = 43
  · rw [if_pos c4, if_pos c4]
  rw [if_neg c4, if_neg c4]
  by_cases c5 : x = 45
  · rw [if_pos c5, if_pos c5]
  rw [if_neg c5, if_neg c5]
  by_cases c6 : x = 60
  · rw [if_pos c6, if_pos c6]
  rw [if_neg c6, if_neg c6]
  by_cases c7 : x = 61
  · rw [if_pos c7, if_pos c7]
  rw [if_neg c7, if_neg c7]
def ClsL (b : Nat → Nat) (n d : Nat) : Prop := ∀ (lv o p s : Nat) (M : MM) (w : Int64) (fm : Bool) (l : List (Nat × Nat × Nat)) (t u e : Nat), lv ≤ 5 → o ≤ 5 → dN lv o ≤ d → p ≤ n → s ≤ p → RdC M b n → TokC M b n p → M 9 0 4 = nI s →
  ∃ M', callN X (e + 2 * d + 4) 15 [vR 9 0, vI (nI lv), vI (nI o)] (M, w, true, fm, l, t, u) = some (some (bV (pP b n d lv o p).1), (M', w, true, fm, l, t, u)) ∧ PostC M M' b n s (pP b n d lv o p)
def ClsO (b : Nat → Nat) (n d : Nat) : Prop := ∀ (o p s : Nat) (M : MM) (w : Int64) (fm : Bool) (l : List (Nat × Nat × Nat)) (t u e : Nat), o ≤ 5 → dN 5 o ≤ d → p ≤ n → s ≤ p → RdC M b n → TokC M b n p → M 9 0 4 = nI s →
  ∃ M', callN X (e + 2 * d + 3) 17 [vR 9 0, vI (nI o)] (M, w, true, fm, l, t, u) = some (some (bV (pP b n d 5 o p).1), (M', w, true, fm, l, t, u)) ∧ PostC M M' b n s (pP b n d 5 o p)
theorem cls_one {b : Nat → Nat} {n d : Nat} (ihL : ClsL X b n d) (ihO : ClsO X b n d) : ClsO X b n (d + 1) := by
  intro o p s M w fm l t u e ho hd hp hs hR hT h4
  have hn := hR.2.1
  have htk := tk_lt hR.2.2.2 n p
  have hst : callN X (e + 2 * (d + 1) + 3) 17 [vR 9 0, vI (nI o)] (M, w, true, fm, l, t, u) = callN X ((e + 2 * d + 4) + 1) 17 [vR 9 0, vI (nI o)] (M, w, true, fm, l, t, u) := by
    rw [show e + 2 * (d + 1) + 3 = (e + 2 * d + 4) + 1 by omega]
  rw [hst, aX2_readOne, hT.2.1]
  unfold pP
  rw [ble_t (Nat.le_refl 5), cond_true, li2, li3, li45, li40, li5]
  simp (disch := omega) only [nI_eq, nI_ltI]
  -- after a put, a next
  have hput : ∀ x : Int32, s < 160 → tk b n p ≠ 0 → ∃ M', nBnd (callN X (e + 2 * d + 4) 20 [vR 9 0, vI x] (M, w, true, fm, l, t, u)) (fun v s2 => nR X (callN X (e + 2 * d + 4)) hX2_readOne 37 [vR 9 0, vI (nI o), vI (nI (tk b n p))] (v.toList ++ []) s2) = some (some (bV true), (M', w, true, fm, l, t, u)) ∧ PostC M M' b n s (true, [x], te b n p) := by
    intro x hs2 hk
    have hP := (PostC.id hT h4).put x
    have hP : PostC M (putM M s x) b n s (true, [x], p) := hP
    have hR2 := hR.frP hP.1
    obtain ⟨M2, f1, f2, f3⟩ := sX2_next X (e + 2 * d + 1) w fm l t u hR2 (te_le hp) (hP.2.2 rfl).1.1
    rw [sX2_put X (e + 2 * d + 3) w fm l t u x hs2 h4, bnd_s, tl_n, bX2_readOne_37, f1, bnd_s, tl_n, bX2_readOne_41]
    refine ⟨M2, rfl, hP.1.trans (f2.P s) (Nat.le_refl s), f3.2.2.1, fun _ => ⟨f3, ?_, fun j hj => ?_⟩⟩
    · rw [f2 9 0 4 (by omega)]
      exact (hP.2.2 rfl).2.1
    · rw [f2 11 0 (s + j) (by omega)]
      exact (hP.2.2 rfl).2.2 j hj
  by_cases c2 : tk b n p = 2
  · simp only [if_pos c2]
    rw [hT.2.2.2 (Or.inl c2)]
    have := te_gt (tk_end (b := b) (n := n) (p := p) (by omega))
    have := te_le (b := b) hp
    have := tq_ge b n p
    exact hput _ (by omega) (by omega)
  simp only [if_neg c2]
  by_cases c3 : tk b n p = 3
  · simp only [if_pos c3]
    rw [hT.2.2.2 (Or.inr c3)]
    have := te_gt (tk_end (b := b) (n := n) (p := p) (by omega))
    have := te_le (b := b) hp
    have := tq_ge b n p
    exact hput _ (by omega) (by omega)
  simp only [if_neg c3]
  by_cases c4 : tk b n p = 45
  · simp only [if_pos c4]
    by_cases c5 : o < 5
    · rw [if_pos c5, ble_f c5, cond_false]
      obtain ⟨M2, f1, f2, f3⟩ := sX2_next X (e + 2 * d + 1) w fm l t u hR (te_le hp) hT.1
      have hR2 := hR.fr f2
      rw [f1, bnd_s, tl_n, bX2_readOne_66, li45, if_pos (congrArg nI c4), show nI o + (1 : Int32) = nI (o + 1) from nI_add o 1]
      have hpe := te_p (b := b) (n := n) (p := p) (by omega)
      obtain ⟨M3, g1, g2⟩ := ihO (o + 1) (te b n p) s M2 w fm l t u (e + 1) (by omega) (by unfold dN at hd ⊢; omega) (te_le hp) (by omega) hR2 f3 ((f2 9 0 4 (by omega)).trans h4)
      have g1 : callN X (e + 2 * d + 4) 17 [vR 9 0, vI (nI (o + 1))] (M2, w, true, fm, l, t, u) = some (some (bV (pP b n d 5 (o + 1) (te b n p)).1), (M3, w, true, fm, l, t, u)) := by
        rw [show e + 2 * d + 4 = e + 1 + 2 * d + 3 by omega]; exact g1
      rw [g1, bnd_s, tl_s]
      have hgood := pP_good b n d 5 (o + 1) (te b n p) (te_le hp)
      have hseq := (PostC.id hT h4).seq f2 g2
      revert hgood hseq
      generalize pP b n d 5 (o + 1) (te b n p) = r
      obtain ⟨ok, c, p2⟩ := r
      intro hgood hseq
      cases ok
      · show ∃ M', nR X (callN X (e + 2 * d + 4)) hX2_readOne 79 _ [vI 0] _ = _ ∧ _
        rw [bX2_readOne_79, if_pos rfl]
        exact ⟨M3, rfl, hseq.f rfl⟩
      · show ∃ M', nR X (callN X (e + 2 * d + 4)) hX2_readOne 79 _ [vI 1] _ = _ ∧ _
        obtain ⟨a1, a2, a3⟩ := hgood
        have a3 := a3 rfl
        have a32 : te b n p + c.length ≤ p2 := a3.2
        have a1 : p2 ≤ n := a1
        have hseq : PostC M M3 b n s (true, c, p2) := hseq
        rw [bX2_readOne_79, if_neg (by decide), sX2_put X (e + 2 * d + 3) w fm l t u (-8) (s := s + c.length) (by omega) (hseq.2.2 rfl).2.1, bnd_s, tl_n, bX2_readOne_90]
        exact ⟨_, rfl, hseq.put _⟩
    · rw [if_neg c5, ble_t (Nat.le_of_not_lt c5), cond_true]
      exact ⟨M, rfl, (PostC.id hT h4).f rfl⟩
  simp only [if_neg c4]
  by_cases c5 : tk b n p = 40
  · simp only [if_pos c5]
    by_cases c6 : o < 5
    · rw [if_pos c6, ble_f c6, cond_false]
      obtain ⟨M2, f1, f2, f3⟩ := sX2_next X (e + 2 * d + 1) w fm l t u hR (te_le hp) hT.1
      have hR2 := hR.fr f2
      rw [f1, bnd_s, tl_n, bX2_readOne_66, li45, if_neg (by rw [c5]; decide), show nI o + (1 : Int32) = nI (o + 1) from nI_add o 1]
      have hpe := te_p (b := b) (n := n) (p := p) (by omega)
      obtain ⟨M3, g1, g2⟩ := ihL 0 (o + 1) (te b n p) s M2 w fm l t u e (by omega) (by omega) (by unfold dN at hd ⊢; omega) (te_le hp) (by omega) hR2 f3 ((f2 9 0 4 (by omega)).trans h4)
      have g1 : callN X (e + 2 * d + 4) 15 [vR 9 0, vI (0 : Int32), vI (nI (o + 1))] (M2, w, true, fm, l, t, u) = some (some (bV (pP b n d 0 (o + 1) (te b n p)).1), (M3, w, true, fm, l, t, u)) := g1
      rw [g1, bnd_s, tl_s]
      have hgood := pP_good b n d 0 (o + 1) (te b n p) (te_le hp)
      have hseq := (PostC.id hT h4).seq f2 g2
      revert hgood hseq
      generalize pP b n d 0 (o + 1) (te b n p) = r
      obtain ⟨ok, c, p2⟩ := r
      intro hgood hseq
      cases ok
      · show ∃ M', nR X (callN X (e + 2 * d + 4)) hX2_readOne 100 _ [vI 0] _ = _ ∧ _
        rw [bX2_readOne_100, if_pos rfl]
        exact ⟨M3, rfl, hseq.f rfl⟩
      · show ∃ M', nR X (callN X (e + 2 * d + 4)) hX2_readOne 100 _ [vI 1] _ = _ ∧ _
        have hseq : PostC M M3 b n s (true, c, p2) := hseq
        have a1 : p2 ≤ n := hgood.1
        have hT3 := (hseq.2.2 rfl).1
        have htk2 := tk_lt hR.2.2.2 n p2
        rw [bX2_readOne_100, if_neg (by decide), hT3.2.1, li41]
        simp (disch := omega) only [nI_eq]
        show ∃ M', _ ∧ PostC M M' b n s (if tk b n p2 = 41 then (true, c, te b n p2) else (false, [], p2))
        by_cases c7 : tk b n p2 = 41
        · rw [if_pos c7, pThen_t rfl]
          show ∃ M', _ ∧ PostC M M' b n s (if tk b n p2 = 41 then (true, c, te b n p2) else (false, [], p2))
          rw [if_pos c7]
          obtain ⟨M4, k1, k2, k3⟩ := sX2_next X (e + 2 * d + 1) w fm l t u (hR.frP hseq.1) (te_le a1) hT3.1
          rw [k1, bnd_s, tl_n, bX2_readOne_118]
          refine ⟨M4, rfl, hseq.1.trans (k2.P s) (Nat.le_refl s), k3.2.2.1, fun _ => ⟨k3, ?_, fun j hj => ?_⟩⟩
          · rw [k2 9 0 4 (by omega)]
            exact (hseq.2.2 rfl).2.1
          · rw [k2 11 0 (s + j) (by omega)]
            exact (hseq.2.2 rfl).2.2 j hj
        · rw [if_neg c7, pThen_t rfl]
          show ∃ M', _ ∧ PostC M M' b n s (if tk b n p2 = 41 then (true, c, te b n p2) else (false, [], p2))
          rw [if_neg c7]
          exact ⟨M3, rfl, hseq.f rfl⟩
    · rw [if_neg c6, ble_t (Nat.le_of_not_lt c6), cond_true]
      exact ⟨M, rfl, (PostC.id hT h4).f rfl⟩
  simp only [if_neg c5]
  exact ⟨M, rfl, (PostC.id hT h4).f rfl⟩
end
