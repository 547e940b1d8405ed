section
variable (X : Nat × (Nat → Int32))
/-- one operator and its operand, run up to the step that is laid down -/
theorem cls_iter {b : Nat → Nat} {n d lv o s : Nat} {M0 : MM} {w : Int64} {fm : Bool} {l : List (Nat × Nat × Nat)} {t u e : Nat} (ihL : ClsL X b n d) (hlv : lv < 5) (ho : o ≤ 5) (hd : dN (lv + 1) o ≤ d) (hR0 : RdC M0 b n)
    {i c p : _} {most : Int32} {M : MM} {x5 : AV} (hm : ¬ most ≤ i) (hP : PostC M0 M b n s (true, c, p)) (hs : s + c.length ≤ p) (hp : p ≤ n) (hl : lvT (tk b n p) = lv) :
      ∃ M', PostC M0 M' b n s (pThen (pP b n d (lv + 1) o (te b n p)) (fun c2 p2 => (true, c ++ (c2 ++ [stT (tk b n p)]), p2))) ∧
        nR X (callN X (e + 2 * d + 5)) hX2_readLevel 60 [vR 9 0, vI (nI lv), vI (nI o), vI most, vI i, x5] [] (M, w, true, fm, l, t, u) = cond (pP b n d (lv + 1) o (te b n p)).1
          (nR X (callN X (e + 2 * d + 5)) hX2_readLevel 60 [vR 9 0, vI (nI lv), vI (nI o), vI most, vI (i + 1), vI (stT (tk b n p))] [] (M', w, true, fm, l, t, u)) (some (some (bV false), (M', w, true, fm, l, t, u))) := by
  have hR := hR0.frP hP.1
  have hn := hR.2.1
  have hT : TokC M b n p := (hP.2.2 rfl).1
  have h4 : M 9 0 4 = nI (s + c.length) := (hP.2.2 rfl).2.1
  have htk := tk_lt hR.2.2.2 n p
  have hk0 := lvT_0 hl hlv
  have hpe := te_p hk0
  obtain ⟨M2, f1, f2, f3⟩ := sX2_next X (e + 2 * d + 2) w fm l t u hR (te_le hp) hT.1
  obtain ⟨M3, g1, g2⟩ := ihL (lv + 1) o (te b n p) (s + c.length) M2 w fm l t u (e + 1) (by omega) ho hd (te_le hp) (by omega) (hR.fr f2) f3 ((f2 9 0 4 (by omega)).trans h4)
  have g1 : callN X (e + 2 * d + 5) 15 [vR 9 0, vI (nI (lv + 1)), vI (nI o)] (M2, w, true, fm, l, t, u) = some (some (bV (pP b n d (lv + 1) o (te b n p)).1), (M3, w, true, fm, l, t, u)) := by
    rw [show e + 2 * d + 5 = e + 1 + 2 * d + 4 by omega]; exact g1
  have hgood := pP_good b n d (lv + 1) o (te b n p) (te_le hp)
  have hrun : nR X (callN X (e + 2 * d + 5)) hX2_readLevel 60 [vR 9 0, vI (nI lv), vI (nI o), vI most, vI i, x5] [] (M, w, true, fm, l, t, u) = nR X (callN X (e + 2 * d + 5)) hX2_readLevel 98 [vR 9 0, vI (nI lv), vI (nI o), vI most, vI i, vI (stT (tk b n p))] [bV (pP b n d (lv + 1) o (te b n p)).1] (M3, w, true, fm, l, t, u) := by
    rw [bX2_readLevel_60, if_neg hm, hT.2.1, sX2_levelOf X (e + 2 * d + 4) w fm l t u htk, bnd_s, tl_s, bX2_readLevel_73, if_pos ((lvI_eq hlv).mpr hl), hT.2.1, sX2_stepOf X (e + 2 * d + 4) w fm l t u htk, bnd_s, tl_s, bX2_readLevel_84, f1, bnd_s, tl_n, bX2_readLevel_90, show nI lv + (1 : Int32) = nI (lv + 1) from nI_add lv 1, g1, bnd_s, tl_s]
  rw [hrun]
  have hseq := hP.seq f2 g2
  revert hgood hseq
  generalize pP b n d (lv + 1) o (te b n p) = r
  obtain ⟨ok, c2, p2⟩ := r
  intro hgood hseq
  cases ok
  · refine ⟨M3, hseq.f rfl, ?_⟩
    show nR X (callN X (e + 2 * d + 5)) hX2_readLevel 98 _ [vI 0] _ = _
    rw [bX2_readLevel_98, if_pos rfl]
    rfl
  · have hseq : PostC M0 M3 b n s (true, c ++ c2, p2) := hseq
    have a1 : p2 ≤ n := hgood.1
    have a2 : te b n p + c2.length ≤ p2 := (hgood.2.2 rfl).2
    have hput := hseq.put (stT (tk b n p))
    rw [List.append_assoc] at hput
    refine ⟨_, hput, ?_⟩
    show nR X (callN X (e + 2 * d + 5)) hX2_readLevel 98 _ [vI 1] _ = _
    rw [bX2_readLevel_98, if_neg (by decide), sX2_put X (e + 2 * d + 4) w fm l t u (stT (tk b n p)) (s := s + (c ++ c2).length) (by rw [List.length_append]; omega) (hseq.2.2 rfl).2.1, bnd_s, tl_n, bX2_readLevel_109]
    rfl
theorem cls_loop {b : Nat → Nat} {n d lv o s : Nat} {M0 : MM} {w : Int64} {fm : Bool} {l : List (Nat × Nat × Nat)} {t u e : Nat} (ihL : ClsL X b n d) (hlv : lv < 5) (hlv2 : lv ≠ 2) (ho : o ≤ 5) (hd : dN (lv + 1) o ≤ d) (hR0 : RdC M0 b n) :
    ∀ k i c p (M : MM) (x5 : AV), i + k = 160 → PostC M0 M b n s (true, c, p) → s + c.length ≤ p → p ≤ n →
      ∃ M', nR X (callN X (e + 2 * d + 5)) hX2_readLevel 60 [vR 9 0, vI (nI lv), vI (nI o), vI (nI 160), vI (nI i), x5] [] (M, w, true, fm, l, t, u) = some (some (bV (pL b n (pP b n d (lv + 1) o) lv k c p).1), (M', w, true, fm, l, t, u)) ∧ PostC M0 M' b n s (pL b n (pP b n d (lv + 1) o) lv k c p) := by
  intro k
  induction k with
  | zero =>
    intro i c p M x5 hi hP hs hp
    rw [bX2_readLevel_60, if_pos (nI_le (by omega) (by omega))]
    exact ⟨M, rfl, hP⟩
  | succ k ih =>
    intro i c p M x5 hi hP hs hp
    have hR := hR0.frP hP.1
    have hT : TokC M b n p := (hP.2.2 rfl).1
    have htk := tk_lt hR.2.2.2 n p
    unfold pL
    by_cases hl : lvT (tk b n p) = lv
    · have hgood := pP_good b n d (lv + 1) o (te b n p) (te_le hp)
      obtain ⟨M', h1, h2⟩ := cls_iter X (w := w) (fm := fm) (l := l) (t := t) (u := u) (e := e) (x5 := x5) ihL hlv ho hd hR0 (nI_ge (show i < 160 by omega) (by omega)) hP hs hp hl
      rw [h2, beq_t hl, cond_true, beq_f hlv2]
      have hpe := te_p (lvT_0 hl hlv)
      revert hgood h1
      generalize pP b n d (lv + 1) o (te b n p) = r
      obtain ⟨ok, c2, p2⟩ := r
      intro hgood h1
      cases ok
      · exact ⟨M', rfl, h1⟩
      · have h1 : PostC M0 M' b n s (true, c ++ (c2 ++ [stT (tk b n p)]), p2) := h1
        have a1 : p2 ≤ n := hgood.1
        have a2 : te b n p + c2.length ≤ p2 := (hgood.2.2 rfl).2
        have h3 := ih (i + 1) (c ++ (c2 ++ [stT (tk b n p)])) p2 M' (vI (stT (tk b n p))) (by omega) h1 (by simp only [List.length_append, List.length_singleton]; omega) a1
        rw [show nI (i + 1) = nI i + 1 from (nI_add i 1).symm] at h3
        exact h3
    · rw [bX2_readLevel_60, if_neg (nI_ge (by omega) (by omega)), hT.2.1, sX2_levelOf X (e + 2 * d + 4) w fm l t u htk, bnd_s, tl_s, bX2_readLevel_73, if_neg (fun q => hl ((lvI_eq hlv).mp q)), beq_f hl, cond_false]
      exact ⟨M, rfl, hP⟩
theorem cls_lev {b : Nat → Nat} {n d : Nat} (ihL : ClsL X b n d) (ihO1 : ClsO X b n (d + 1)) : ClsL X b n (d + 1) := by
  intro lv o p s M w fm l t u e hlv ho hd hp hs hR hT h4
  have hn := hR.2.1
  have htk := tk_lt hR.2.2.2 n p
  have hst : callN X (e + 2 * (d + 1) + 4) 15 [vR 9 0, vI (nI lv), vI (nI o)] (M, w, true, fm, l, t, u) = callN X ((e + 2 * d + 5) + 1) 15 [vR 9 0, vI (nI lv), vI (nI o)] (M, w, true, fm, l, t, u) := by
    rw [show e + 2 * (d + 1) + 4 = (e + 2 * d + 5) + 1 by omega]
  rw [hst, aX2_readLevel, li5]
  rcases Nat.lt_or_ge lv 5 with h5 | h5
  · rw [if_pos (nI_lt h5 (by omega))]
    unfold pP
    rw [ble_f h5, cond_false, hT.2.1, li2, li9]
    simp (disch := omega) only [nI_eq]
    -- the first operand, then the loop
    have hgo : (Nat.beq lv 2 && Nat.beq (tk b n p) 9) = false → ∃ M', nBnd (callN X (e + 2 * d + 5) 15 [vR 9 0, vI (nI lv + 1), vI (nI o)] (M, w, true, fm, l, t, u)) (fun v s2 => nR X (callN X (e + 2 * d + 5)) hX2_readLevel 39 [vR 9 0, vI (nI lv), vI (nI o), vX, vX, vX] (v.toList ++ []) s2) = some (some (bV (pThen (pP b n d (lv + 1) o p) (fun c p2 => pL b n (pP b n d (lv + 1) o) lv 160 c p2)).1), (M', w, true, fm, l, t, u)) ∧ PostC M M' b n s (pThen (pP b n d (lv + 1) o p) (fun c p2 => pL b n (pP b n d (lv + 1) o) lv 160 c p2)) := by
      intro hno
      have hdl : dN (lv + 1) o ≤ d := by unfold dN at hd ⊢; omega
      obtain ⟨M3, g1, g2⟩ := ihL (lv + 1) o p s M w fm l t u (e + 1) (by omega) ho hdl hp hs hR hT h4
      have g1 : callN X (e + 2 * d + 5) 15 [vR 9 0, vI (nI (lv + 1)), vI (nI o)] (M, w, true, fm, l, t, u) = some (some (bV (pP b n d (lv + 1) o p).1), (M3, w, true, fm, l, t, u)) := by
        rw [show e + 2 * d + 5 = e + 1 + 2 * d + 4 by omega]; exact g1
      rw [show nI lv + (1 : Int32) = nI (lv + 1) from nI_add lv 1, g1, bnd_s, tl_s]
      have hgood := pP_good b n d (lv + 1) o p hp
      revert hgood g2
      generalize pP b n d (lv + 1) o p = r
      obtain ⟨ok, c, p2⟩ := r
      intro g2 hgood
      cases ok
      · show ∃ M', nR X (callN X (e + 2 * d + 5)) hX2_readLevel 39 _ [vI 0] _ = _ ∧ _
        rw [bX2_readLevel_39, if_pos rfl]
        exact ⟨M3, rfl, g2.f rfl⟩
      · show ∃ M', nR X (callN X (e + 2 * d + 5)) hX2_readLevel 39 _ [vI 1] _ = _ ∧ _
        have a1 : p2 ≤ n := hgood.1
        have a2 : p + c.length ≤ p2 := (hgood.2.2 rfl).2
        rw [bX2_readLevel_39, if_neg (by decide), li2]
        simp (disch := omega) only [nI_eq]
        by_cases c2 : lv = 2
        · rw [if_pos c2]
          rw [pThen_t rfl]
          show ∃ M', _ ∧ PostC M M' b n s (pL b n (pP b n d (lv + 1) o) lv (159 + 1) c p2)
          show ∃ M', _ = some (some (bV (pL b n (pP b n d (lv + 1) o) lv (159 + 1) c p2).1), _) ∧ _
          have hR3 := hR.frP g2.1
          have hT3 : TokC M3 b n p2 := (g2.2.2 rfl).1
          have htk3 := tk_lt hR.2.2.2 n p2
          unfold pL
          by_cases hl : lvT (tk b n p2) = lv
          · obtain ⟨M', h1, h2⟩ := cls_iter X (w := w) (fm := fm) (l := l) (t := t) (u := u) (e := e) (x5 := vX) (i := 0) (most := 1) ihL h5 ho hdl hR (by decide) g2 (by omega) a1 hl
            rw [h2, beq_t hl, cond_true, beq_t c2]
            revert h1
            generalize pP b n d (lv + 1) o (te b n p2) = r
            obtain ⟨ok, c2, p2⟩ := r
            intro h1
            cases ok
            · exact ⟨M', rfl, h1⟩
            · refine ⟨M', ?_, h1⟩
              rw [cond_true, bX2_readLevel_60, if_pos (by decide)]
              rfl
          · rw [bX2_readLevel_60, if_neg (by decide), hT3.2.1, sX2_levelOf X (e + 2 * d + 4) w fm l t u htk3, bnd_s, tl_s, bX2_readLevel_73, if_neg (fun q => hl ((lvI_eq h5).mp q)), beq_f hl, cond_false]
            exact ⟨M3, rfl, g2⟩
        · rw [if_neg c2]
          exact cls_loop X ihL h5 c2 ho hdl hR 160 0 c p2 M3 vX rfl g2 (by show s + c.length ≤ p2; omega) a1
    by_cases c2 : lv = 2
    · rw [if_pos c2]
      by_cases c9 : tk b n p = 9
      · rw [if_pos c9, beq_t c2, beq_t c9, Bool.and_self, cond_true]
        have hst2 : callN X (e + 2 * d + 5) 16 [vR 9 0, vI (nI o)] (M, w, true, fm, l, t, u) = callN X ((e + 2 * d + 4) + 1) 16 [vR 9 0, vI (nI o)] (M, w, true, fm, l, t, u) := rfl
        rw [hst2, aX2_readNot, li5]
        simp (disch := omega) only [nI_ltI]
        by_cases c5 : o < 5
        · rw [if_pos c5, ble_f c5, cond_false]
          obtain ⟨M2, f1, f2, f3⟩ := sX2_next X (e + 2 * d + 1) w fm l t u hR (te_le hp) hT.1
          have hR2 := hR.fr f2
          have hpe := te_p (b := b) (n := n) (p := p) (by omega)
          obtain ⟨M3, g1, g2⟩ := ihL 2 (o + 1) (te b n p) s M2 w fm l t u e (by omega) (by omega) (by subst c2; unfold dN at hd ⊢; omega) (te_le hp) (by omega) hR2 f3 ((f2 9 0 4 (by omega)).trans h4)
          have g1 : callN X (e + 2 * d + 4) 15 [vR 9 0, vI (2 : Int32), vI (nI (o + 1))] (M2, w, true, fm, l, t, u) = some (some (bV (pP b n d 2 (o + 1) (te b n p)).1), (M3, w, true, fm, l, t, u)) := g1
          rw [f1, bnd_s, tl_n, bX2_readNot_11, show nI o + (1 : Int32) = nI (o + 1) from nI_add o 1, g1, bnd_s, tl_s]
          have hgood := pP_good b n d 2 (o + 1) (te b n p) (te_le hp)
          have hseq := (PostC.id hT h4).seq f2 g2
          revert hgood hseq
          generalize pP b n d 2 (o + 1) (te b n p) = r
          obtain ⟨ok, c, p2⟩ := r
          intro hgood hseq
          cases ok
          · have hr : nR X (callN X (e + 2 * d + 4)) hX2_readNot 19 [vR 9 0, vI (nI o)] [bV (false, c, p2).1] (M3, w, true, fm, l, t, u) = some (some (vI (0 : Int32)), (M3, w, true, fm, l, t, u)) := by
              show nR X (callN X (e + 2 * d + 4)) hX2_readNot 19 _ [vI 0] _ = _
              rw [bX2_readNot_19, if_pos rfl]
            rw [hr, bnd_s, tl_s, bX2_readLevel_30]
            exact ⟨M3, rfl, hseq.f rfl⟩
          · have a1 : p2 ≤ n := hgood.1
            have a2 : te b n p + c.length ≤ p2 := (hgood.2.2 rfl).2
            have hseq : PostC M M3 b n s (true, c, p2) := hseq
            have hr : nR X (callN X (e + 2 * d + 4)) hX2_readNot 19 [vR 9 0, vI (nI o)] [bV (true, c, p2).1] (M3, w, true, fm, l, t, u) = some (some (vI (1 : Int32)), (putM M3 (s + c.length) (-7), w, true, fm, l, t, u)) := by
              show nR X (callN X (e + 2 * d + 4)) hX2_readNot 19 _ [vI 1] _ = _
              rw [bX2_readNot_19, if_neg (by decide), sX2_put X (e + 2 * d + 3) w fm l t u (-7) (s := s + c.length) (by omega) (hseq.2.2 rfl).2.1, bnd_s, tl_n, bX2_readNot_30]
            rw [hr, bnd_s, tl_s, bX2_readLevel_30]
            exact ⟨_, rfl, hseq.put _⟩
        · rw [if_neg c5, ble_t (Nat.le_of_not_lt c5), cond_true, bnd_s, tl_s, bX2_readLevel_30]
          exact ⟨M, rfl, (PostC.id hT h4).f rfl⟩
      · rw [if_neg c9, beq_f c9, Bool.and_false, cond_false]
        exact hgo (by rw [beq_f c9, Bool.and_false])
    · rw [if_neg c2, beq_f c2, Bool.false_and, cond_false]
      exact hgo (by rw [beq_f c2, Bool.false_and])
  · have e5 : lv = 5 := by omega
    subst e5
    rw [if_neg (by decide)]
    obtain ⟨M', g1, g2⟩ := ihO1 o p s M w fm l t u e ho hd hp hs hR hT h4
    have g1 : callN X (e + 2 * d + 5) 17 [vR 9 0, vI (nI o)] (M, w, true, fm, l, t, u) = some (some (bV (pP b n (d + 1) 5 o p).1), (M', w, true, fm, l, t, u)) := by
      rw [show e + 2 * d + 5 = e + 2 * (d + 1) + 3 by omega]; exact g1
    rw [g1, bnd_s, tl_s]
    unfold bV
    rw [bX2_readLevel_10, isb_c, cond_true]
    exact ⟨M', rfl, g2⟩
theorem cls_all (b : Nat → Nat) (n : Nat) : ∀ d, ClsL X b n d ∧ ClsO X b n d
  | 0 => ⟨fun lv o p s M w fm l t u e hlv ho hd => by unfold dN at hd; omega, fun o p s M w fm l t u e ho hd => by unfold dN at hd; omega⟩
  | d + 1 => by
    obtain ⟨h1, h2⟩ := cls_all b n d
    have h3 := cls_one X h1 h2
    exact ⟨cls_lev X h1 h3, h3⟩
end
