/-! fit, share -/
theorem ftB_f {row : Nat → Int32} {s : GS} {o i : Nat} : ∀ n k, k < n → nI (pkN s o i k) ≠ row k → ftB row s o i n = false
  | 0, k, h, _ => by omega
  | n + 1, k, h, h2 => by
    show (ftB row s o i n && decide (nI (pkN s o i n) = row n)) = false
    by_cases c : k = n
    · subst c
      rw [decide_eq_false h2, Bool.and_false]
    · rw [ftB_f n k (by omega) h2]
      rfl
theorem shD_dg (s : GS) (o i mk : Nat) : shD s o (dg i) mk = pkN s o i mk := rfl
theorem dg_0 {c : Nat} (hc : c < 6) : dg 0 c = 0 := by
  unfold dg
  rw [Nat.zero_div]
theorem pk_0 (s : GS) (o mk : Nat) : pkN s o 0 mk = 0 := by
  show 0 + dg 0 0 * tkS s o 0 mk + dg 0 1 * tkS s o 1 mk + dg 0 2 * tkS s o 2 mk + dg 0 3 * tkS s o 3 mk + dg 0 4 * tkS s o 4 mk + dg 0 5 * tkS s o 5 mk = 0
  rw [dg_0 (show 0 < 6 by omega), dg_0 (show 1 < 6 by omega), dg_0 (show 2 < 6 by omega), dg_0 (show 3 < 6 by omega), dg_0 (show 4 < 6 by omega), dg_0 (show 5 < 6 by omega)]
  omega
def FM (M : MM) (f : FS) : Prop := M 30 0 30 = nI f.1 ∧ M 30 0 31 = f.2.1 ∧ M 30 0 32 = f.2.2.1 ∧ M 30 0 33 = nI (if f.1 = 0 then 63 else f.2.2.2.1) ∧ M 30 0 34 = nI f.2.2.2.2.1 ∧ ∀ c, c < 6 → M 40 0 c = nI (f.2.2.2.2.2 c)
def frF (M M' : MM) : Prop := ∀ k i j, k ≠ 40 → ¬ (k = 30 ∧ 30 ≤ j ∧ j ≤ 34) → M' k i j = M k i j
theorem frF.M {M M' : MM} (h : frF M M') : fM M M' := fun k i j _ _ q q2 => h k i j (by omega) (by omega)
theorem btN_bit (i : Nat) : ∀ n c, (btN i n).testBit c = (decide (c < n) && decide (dg i c ≠ 0))
  | 0, c => by
    show (0 : Nat).testBit c = _
    rw [Nat.zero_testBit, decide_eq_false (by omega)]
    rfl
  | n + 1, c => by
    show (if dg i n = 0 then btN i n else btN i n ||| 2 ^ n).testBit c = _
    by_cases z : dg i n = 0
    · rw [if_pos z, btN_bit i n c]
      by_cases y : c = n
      · rw [y, decide_eq_false (show ¬ n < n by omega), decide_eq_true (show n < n + 1 by omega), decide_eq_false (show ¬ dg i n ≠ 0 from fun q => q z)]
        rfl
      · by_cases y2 : c < n
        · rw [decide_eq_true y2, decide_eq_true (show c < n + 1 by omega)]
        · rw [decide_eq_false y2, decide_eq_false (show ¬ c < n + 1 by omega)]
    · rw [if_neg z, Nat.testBit_or, btN_bit i n c, Nat.testBit_two_pow]
      by_cases y : c = n
      · rw [y, decide_eq_true (show n = n from rfl), decide_eq_true (show n < n + 1 by omega), decide_eq_true (show dg i n ≠ 0 from z), Bool.or_true]
        rfl
      · rw [decide_eq_false (show ¬ n = c from fun q => y q.symm), Bool.or_false]
        by_cases y2 : c < n
        · rw [decide_eq_true y2, decide_eq_true (show c < n + 1 by omega)]
        · rw [decide_eq_false y2, decide_eq_false (show ¬ c < n + 1 by omega)]
theorem btN_lt (i : Nat) : ∀ n, btN i n < 2 ^ n
  | 0 => by show 0 < 1; omega
  | n + 1 => by
    have ih := btN_lt i n
    show (if dg i n = 0 then btN i n else btN i n ||| 2 ^ n) < 2 ^ (n + 1)
    have h2 : 2 ^ n < 2 ^ (n + 1) := by rw [Nat.pow_succ]; omega
    split
    · omega
    · exact Nat.or_lt_two_pow (by omega) h2
theorem btN_at {i c : Nat} (hc : c < 6) : btN i 6 / 2 ^ c % 2 = if dg i c = 0 then 0 else 1 := by
  have h := btN_bit i 6 c
  rw [Nat.testBit_eq_decide_div_mod_eq, decide_eq_true hc, Bool.true_and] at h
  have h2 : btN i 6 / 2 ^ c % 2 < 2 := Nat.mod_lt _ (by omega)
  by_cases z : dg i c = 0
  · rw [if_pos z]
    rw [decide_eq_false (show ¬ dg i c ≠ 0 from fun q => q z), decide_eq_false_iff_not] at h
    omega
  · rw [if_neg z]
    rw [decide_eq_true (show dg i c ≠ 0 from z), decide_eq_true_eq] at h
    exact h
theorem FT_n (row : Nat → Int32) (s : GS) (o : Nat) : ∀ i, (FT row s o i).1 = 0 ↔ (FT row s o i).2.2.1 = -1
  | 0 => ⟨fun _ => rfl, fun _ => rfl⟩
  | i + 1 => by
    have ih := FT_n row s o i
    show (cond (ftB row s o i 6) (upS (FT row s o i) i) (FT row s o i)).1 = 0 ↔ (cond (ftB row s o i 6) (upS (FT row s o i) i) (FT row s o i)).2.2.1 = -1
    cases ftB row s o i 6
    · exact ih
    · have hl : sumN (dg i) 6 ≤ 6 * 3 := sumN_le 6 (fun c _ => by have := dg_lt i c; omega)
      constructor
      · intro q
        exact absurd q (Nat.succ_ne_zero _)
      · intro q
        have q : (if (FT row s o i).1 = 0 then nI (sumN (dg i) 6) else if (FT row s o i).2.2.1 ≤ nI (sumN (dg i) 6) then (FT row s o i).2.2.1 else nI (sumN (dg i) 6)) = -1 := q
        by_cases c : (FT row s o i).1 = 0
        · rw [if_pos c] at q
          exact absurd q (nw_ne (by omega))
        · rw [if_neg c] at q
          by_cases c2 : (FT row s o i).2.2.1 ≤ nI (sumN (dg i) 6)
          · rw [if_pos c2] at q
            exact absurd (ih.mpr q) c
          · rw [if_neg c2] at q
            exact absurd q (nw_ne (by omega))
section
variable (X : Nat × (Nat → Int32))
theorem cInShoe (d : Nat) {M : MM} (w : Int64) (t u : Nat) {s : GS} {o i p : Nat} {row : Nat → Int32} (hD : ∀ mk, mk < 6 → M 23 0 mk = nI (pkN s o i mk)) (hr : ∀ k, k < 6 → M 19 p k = row k) : callN X (d + 1) 3 [vR 20 0, vR 19 p] (M, w, true, true, [], t, u) = some (some (vI (cond (ftB row s o i 6) 1 0)), (M, w, true, true, [], t, u)) := by
  have loop : ∀ m k, k + m = 6 → ftB row s o i k = true → nR X (callN X d) hX0_isInShoe 2 [vR 20 0, vR 19 p, vI (nI k)] [] (M, w, true, true, [], t, u) = some (some (vI (cond (ftB row s o i 6) 1 0)), (M, w, true, true, [], t, u)) := by
    intro m
    induction m with
    | zero =>
      intro k hk h
      have hk : k = 6 := hk
      subst hk
      rw [bX0_isInShoe_2, if_pos (by decide), h]
      rfl
    | succ m ih =>
      intro k hk h
      rw [bX0_isInShoe_2, li6, if_neg (nI_ge (by omega) (by omega)), nin_t (show k < 6 by omega), nin_t (show k < 40 by omega), cond_tt rfl, cond_tt rfl, nI_clamp (by omega), hD k (by omega), hr k (by omega), nI_1]
      by_cases c : nI (pkN s o i k) = row k
      · rw [if_pos c]
        refine ih (k + 1) (by omega) ?_
        show (ftB row s o i k && decide (nI (pkN s o i k) = row k)) = true
        rw [h, decide_eq_true c]
        rfl
      · rw [if_neg c, ftB_f 6 k (by omega) c]
        rfl
  rw [aX0_isInShoe]
  exact loop 6 0 rfl rfl
theorem cClear (d : Nat) (M : MM) (w : Int64) (t u : Nat) (row : Nat → Int32) (s : GS) (o : Nat) : ∃ M2, callN X (d + 1) 2 [vR 20 0] (M, w, true, true, [], t, u) = some (none, (M2, w, true, true, [], t, u)) ∧ FC M2 (FT row s o 0) ∧ DyC M2 s o (dg 0) ∧ ∀ k a j, ¬ (20 ≤ k ∧ k ≤ 23) → M2 k a j = M k a j := by
  have l1 : ∀ (m c : Nat) (Mi : MM), c + m = 6 → (∀ q, q < c → Mi 21 0 q = 0 ∧ Mi 22 0 q = 0) → (∀ k a j, k ≠ 21 → k ≠ 22 → Mi k a j = (nSt (nSt (nSt (nSt (nSt M 20 0 0 0) 20 0 1 (-1)) 20 0 2 (-1)) 20 0 3 0) 20 0 4 0) k a j) → ∃ M2, nR X (callN X d) hX0_clear 27 [vR 20 0, vI (nI c)] [] (Mi, w, true, true, [], t, u) = nR X (callN X d) hX0_clear 27 [vR 20 0, vI (nI 6)] [] (M2, w, true, true, [], t, u) ∧ (∀ q, q < 6 → M2 21 0 q = 0 ∧ M2 22 0 q = 0) ∧ (∀ k a j, k ≠ 21 → k ≠ 22 → M2 k a j = (nSt (nSt (nSt (nSt (nSt M 20 0 0 0) 20 0 1 (-1)) 20 0 2 (-1)) 20 0 3 0) 20 0 4 0) k a j) := by
    intro m
    induction m with
    | zero =>
      intro c Mi hc h1 h2
      have hc : c = 6 := hc
      subst hc
      exact ⟨Mi, rfl, h1, h2⟩
    | succ m ih =>
      intro c Mi hc h1 h2
      rw [bX0_clear_27, li6, if_neg (nI_ge (by omega) (by omega)), nin_t (show c < 6 by omega), cond_tt rfl, cond_tt rfl, nI_clamp (by omega), nI_1]
      refine ih (c + 1) _ (by omega) (fun q hq => ?_) (fun k a j q q2 => (nst_ne q2).trans ((nst_ne q).trans (h2 k a j q q2)))
      by_cases y : q = c
      · rw [y, nst_self, nst_fr (by omega), nst_self]
        exact ⟨rfl, rfl⟩
      · rw [nst_j y, nst_fr (by omega), nst_j y, nst_fr (by omega)]
        exact h1 q (by omega)
  have l2 : ∀ (m c : Nat) (Mi : MM), c + m = 6 → (∀ q, q < c → Mi 23 0 q = 0) → ∃ M2, nR X (callN X d) hX0_clear 55 [vR 20 0, vI (nI c)] [] (Mi, w, true, true, [], t, u) = some (none, (M2, w, true, true, [], t, u)) ∧ (∀ q, q < 6 → M2 23 0 q = 0) ∧ (∀ k a j, k ≠ 23 → M2 k a j = Mi k a j) := by
    intro m
    induction m with
    | zero =>
      intro c Mi hc h1
      have hc : c = 6 := hc
      subst hc
      rw [bX0_clear_55, if_pos (by decide)]
      exact ⟨Mi, rfl, h1, fun _ _ _ _ => rfl⟩
    | succ m ih =>
      intro c Mi hc h1
      rw [bX0_clear_55, li6, if_neg (nI_ge (by omega) (by omega)), nin_t (show c < 6 by omega), cond_tt rfl, nI_clamp (by omega), nI_1]
      obtain ⟨M2, e1, e2, e3⟩ := ih (c + 1) (nSt Mi 23 0 c 0) (by omega) (fun q hq => by
        by_cases y : q = c
        · rw [y, nst_self]
        · rw [nst_j y]
          exact h1 q (by omega))
      exact ⟨M2, e1, e2, fun k a j q => (e3 k a j q).trans (nst_ne q)⟩
  obtain ⟨M1, a1, a2, a3⟩ := l1 6 0 _ rfl (fun q h => by omega) (fun _ _ _ _ _ => rfl)
  obtain ⟨M2, b1, b2, b3⟩ := l2 6 0 M1 rfl (fun q h => by omega)
  refine ⟨M2, ?_, ⟨?_, ?_, ?_, ?_, ?_, fun c hc => ?_⟩, ⟨fun c hc => ?_, fun mk hmk => ?_⟩, fun k a j q => ?_⟩
  · have a1 : nR X (callN X d) hX0_clear 27 [vR 20 0, vI 0] [] _ = _ := a1
    have b1 : nR X (callN X d) hX0_clear 55 [vR 20 0, vI 0] [] _ = _ := b1
    rw [aX0_clear, a1, bX0_clear_27, if_pos (by decide), b1]
  · rw [b3 20 0 0 (by omega), a3 20 0 0 (by omega) (by omega), nst_j (by omega), nst_j (by omega), nst_j (by omega), nst_j (by omega), nst_self]
    rfl
  · rw [b3 20 0 1 (by omega), a3 20 0 1 (by omega) (by omega), nst_j (by omega), nst_j (by omega), nst_j (by omega), nst_self]
    rfl
  · rw [b3 20 0 2 (by omega), a3 20 0 2 (by omega) (by omega), nst_j (by omega), nst_j (by omega), nst_self]
    rfl
  · rw [b3 20 0 3 (by omega), a3 20 0 3 (by omega) (by omega), nst_j (by omega), nst_self]
    rfl
  · rw [b3 20 0 4 (by omega), a3 20 0 4 (by omega) (by omega), nst_self]
    rfl
  · rw [b3 21 0 c (by omega), (a2 c hc).1]
    rfl
  · rw [b3 22 0 c (by omega), (a2 c hc).2, dg_0 hc]
    rfl
  · rw [b2 mk hmk, shD_dg, pk_0]
    rfl
  · rw [b3 k a j (by omega), a3 k a j (by omega) (by omega), nst_fr (by omega), nst_fr (by omega), nst_fr (by omega), nst_fr (by omega), nst_fr (by omega)]
theorem cSearch (d : Nat) {M : MM} (w : Int64) (t u : Nat) {s : GS} {o p : Nat} {row : Nat → Int32} (hT : TkC M s o) (hr : ∀ k, k < 6 → M 19 p k = row k) : ∃ M2, callN X (d + 4) 1 [vR 20 0, vR 26 0, vR 19 p] (M, w, true, true, [], t, u) = some (none, (M2, w, true, true, [], t, u)) ∧ FC M2 (FT row s o 4096) ∧ ∀ k a j, ¬ (20 ≤ k ∧ k ≤ 23) → M2 k a j = M k a j := by
  have loop : ∀ (m i : Nat) (Mi : MM), i + m = 4096 → FC Mi (FT row s o i) → DyC Mi s o (dg i) → (∀ k a j, ¬ (20 ≤ k ∧ k ≤ 23) → Mi k a j = M k a j) → ∃ M2, nR X (callN X (d + 3)) hX0_search 6 [vR 20 0, vR 26 0, vR 19 p, vI (nI i)] [] (Mi, w, true, true, [], t, u) = some (none, (M2, w, true, true, [], t, u)) ∧ FC M2 (FT row s o 4096) ∧ ∀ k a j, ¬ (20 ≤ k ∧ k ≤ 23) → M2 k a j = M k a j := by
    intro m
    induction m with
    | zero =>
      intro i Mi hi h1 h2 h3
      have hi : i = 4096 := hi
      subst hi
      rw [bX0_search_6, if_pos (by decide)]
      exact ⟨Mi, rfl, h1, h3⟩
    | succ m ih =>
      intro i Mi hi h1 h2 h3
      have hTi : TkC Mi s o := fun c mk q q2 => (h3 26 0 _ (by omega)).trans (hT c mk q q2)
      have hri : ∀ k, k < 6 → Mi 19 p k = row k := fun k hk => (h3 19 p k (by omega)).trans (hr k hk)
      have hle := (FT_le row s o i).1
      rw [bX0_search_6, show (4096 : Int32) = nI 4096 from rfl, if_neg (nI_ge (by omega) (by omega)), cInShoe X (d + 2) w t u h2.2 hri, bnd_s, tl_s, bX0_search_18, if_b]
      have key : ∀ M1 : MM, FC M1 (FT row s o (i + 1)) → DyC M1 s o (dg i) → (∀ k a j, ¬ (20 ≤ k ∧ k ≤ 23) → M1 k a j = M k a j) → ∃ M2, nR X (callN X (d + 3)) hX0_search 25 [vR 20 0, vR 26 0, vR 19 p, vI (nI i)] [] (M1, w, true, true, [], t, u) = some (none, (M2, w, true, true, [], t, u)) ∧ FC M2 (FT row s o 4096) ∧ ∀ k a j, ¬ (20 ≤ k ∧ k ≤ 23) → M2 k a j = M k a j := by
        intro M1 g1 g2 g3
        have hT1 : TkC M1 s o := fun c mk q q2 => (g3 26 0 _ (by omega)).trans (hT c mk q q2)
        obtain ⟨M2, e1, e2, e3⟩ := cStepOn X (d + 1) w t u hT1 g2
        rw [bX0_search_25, e1, bnd_s, tl_n, bX0_search_30, nI_1]
        refine ih (i + 1) M2 (by omega) ?_ e2 (fun k a j q => (e3 k a j (by omega) (by omega)).trans (g3 k a j q))
        exact ⟨(e3 20 0 0 (by omega) (by omega)).trans g1.1, (e3 20 0 1 (by omega) (by omega)).trans g1.2.1, (e3 20 0 2 (by omega) (by omega)).trans g1.2.2.1, (e3 20 0 3 (by omega) (by omega)).trans g1.2.2.2.1, (e3 20 0 4 (by omega) (by omega)).trans g1.2.2.2.2.1, fun c hc => (e3 21 0 c (by omega) (by omega)).trans (g1.2.2.2.2.2 c hc)⟩
      have hFT : FT row s o (i + 1) = cond (ftB row s o i 6) (upS (FT row s o i) i) (FT row s o i) := rfl
      cases cb : ftB row s o i 6
      · rw [cb] at hFT
        exact key Mi (by rw [hFT]; exact h1) h2 h3
      · rw [cb] at hFT
        obtain ⟨M1, e1, e2, e3⟩ := cFound X (d + 2) w t u (i := i) h1 h2.1 (by omega)
        show ∃ M2, nBnd (callN X (d + 3) 4 [vR 20 0] (Mi, w, true, true, [], t, u)) _ = _ ∧ _
        rw [e1, bnd_s, tl_n]
        exact key M1 (by rw [hFT]; exact e2) ⟨fun c hc => (e3 22 0 c (by omega)).trans (h2.1 c hc), fun mk hmk => (e3 23 0 mk (by omega)).trans (h2.2 mk hmk)⟩ (fun k a j q => (e3 k a j (by omega)).trans (h3 k a j q))
  obtain ⟨M1, a1, a2, a3, a4⟩ := cClear X (d + 2) M w t u row s o
  obtain ⟨M2, b1, b2, b3⟩ := loop 4096 0 M1 rfl a2 a3 a4
  refine ⟨M2, ?_, b2, b3⟩
  rw [show d + 4 = d + 3 + 1 from rfl, aX0_search, a1, bnd_s, tl_n, bX0_search_4]
  exact b1
theorem cFits (d : Nat) {M : MM} (w : Int64) (t u : Nat) {s : GS} {o p : Nat} (h : SC M s) (hB : SB s) (ho : o < 5) (hp : p < 4) : ∃ M2, callN X (d + 6) 98 [vR 2 0, vR 18 p, vI (nI o)] (M, w, true, true, [], t, u) = some (some (vI (cond (sH s p).1 (if (sH s p).2.2.1 = 6 then 0 else -2) (-11))), (M2, w, true, true, [], t, u)) ∧ ((sH s p).1 = true → (sH s p).2.2.1 = 6 → FC M2 (FT (sH s p).2.2.2 s o 4096)) ∧ ∀ k a j, (k < 20 ∨ 30 ≤ k) → M2 k a j = M k a j := by
  have hb := hB.2.2.2.2 p hp
  have h9 := h.2.2.2.2 p hp
  rw [show d + 6 = d + 5 + 1 from rfl, aX6_findFits, cMiss X (d + 4) w t u h9 (fun q => (hb q).1), bnd_s, tl_s, bX6_findFits_4]
  cases c : (sH s p).1
  · exact ⟨M, rfl, (fun q => by cases q), fun _ _ _ _ => rfl⟩
  have h9 := h9.2 c
  have hb := hb c
  rw [if_pos (show cond true (0 : Int32) 1 = 0 from rfl), h9.2.1, li6]
  simp (disch := omega) only [nI_eq]
  by_cases c6 : (sH s p).2.2.1 = 6
  · rw [if_pos c6]
    obtain ⟨M1, e1, e2, e3⟩ := cTables X d w t u h hB.1 ho
    obtain ⟨M2, f1, f2, f3⟩ := cSearch X (d + 1) w t u (p := p) (row := (sH s p).2.2.2) e2 (fun k hk => (e3 19 p k (by omega) (by omega) (by omega)).trans (h9.2.2 k (by omega)))
    refine ⟨M2, ?_, fun _ _ => f2, fun k a j q => (f3 k a j (by omega)).trans (e3 k a j (by omega) (by omega) (by omega))⟩
    rw [e1, bnd_s, tl_n, bX6_findFits_27, f1, bnd_s, tl_n, bX6_findFits_42]
    show _ = some (some (vI (if (sH s p).2.2.1 = 6 then 0 else -2)), _)
    rw [if_pos c6]
  · rw [if_neg c6]
    refine ⟨M, ?_, fun _ q => absurd q c6, fun _ _ _ _ => rfl⟩
    show _ = some (some (vI (if (sH s p).2.2.1 = 6 then 0 else -2)), _)
    rw [if_neg c6]
theorem mFitsB (d : Nat) {M : MM} (w : Int64) (t u : Nat) {s : GS} {o i p : Nat} {row : Nat → Int32} (hT : TkM M s o) (hi : i < 4096) (hp : p < 4) (hr : ∀ k, k < 6 → M 48 0 (40 * p + k) = row k) : callN X (d + 3) 168 [vR 30 0, vI (nI p), vI (nI i)] (M, w, true, true, [], t, u) = some (some (vI (cond (ftB row s o i 6) 1 0)), (M, w, true, true, [], t, u)) := by
  have loop : ∀ m k, k + m = 6 → ftB row s o i k = true → nR X (callN X (d + 2)) hX7_fits 2 [vR 30 0, vI (nI p), vI (nI i), vI (nI k)] [] (M, w, true, true, [], t, u) = some (some (vI (cond (ftB row s o i 6) 1 0)), (M, w, true, true, [], t, u)) := by
    intro m
    induction m with
    | zero =>
      intro k hk h
      have hk : k = 6 := hk
      subst hk
      rw [bX7_fits_2, if_pos (by decide), h]
      rfl
    | succ m ih =>
      intro k hk h
      rw [bX7_fits_2, li6, if_neg (nI_ge (by omega) (by omega)), mPacked X d w t u hT hi (show k < 6 by omega), bnd_s, tl_s, bX7_fits_14, li40, pk_mul, nI_add, nin_t (show 40 * p + k < 160 by omega), cond_tt rfl, nI_clamp (by omega), hr k (by omega), nI_1]
      by_cases c : nI (pkN s o i k) = row k
      · rw [if_pos c]
        refine ih (k + 1) (by omega) ?_
        show (ftB row s o i k && decide (nI (pkN s o i k) = row k)) = true
        rw [h, decide_eq_true c]
        rfl
      · rw [if_neg c, ftB_f 6 k (by omega) c]
        rfl
  rw [show d + 3 = d + 2 + 1 from rfl, aX7_fits]
  exact loop 6 0 rfl rfl
theorem mLen (d : Nat) {i : Nat} (M : MM) (w : Int64) (t u : Nat) (hi : i < 4096) : callN X (d + 2) 169 [vI (nI i)] (M, w, true, true, [], t, u) = some (some (vI (nI (sumN (dg i) 6))), (M, w, true, true, [], t, u)) := by
  have loop : ∀ m c, c + m = 6 → nR X (callN X (d + 1)) hX7_lengthOf 4 [vI (nI i), vI (nI (sumN (dg i) c)), vI (nI c)] [] (M, w, true, true, [], t, u) = some (some (vI (nI (sumN (dg i) 6))), (M, w, true, true, [], t, u)) := by
    intro m
    induction m with
    | zero =>
      intro c hc
      have hc : c = 6 := hc
      subst hc
      rw [bX7_lengthOf_4, if_pos (by decide)]
    | succ m ih =>
      intro c hc
      rw [bX7_lengthOf_4, li6, if_neg (nI_ge (by omega) (by omega)), mDays X d M w t u hi (show c < 6 by omega), bnd_s]
      show nR X (callN X (d + 1)) hX7_lengthOf 16 _ [vI (nI (dg i c)), vI (nI (sumN (dg i) c))] _ = _
      rw [bX7_lengthOf_16, nI_add, nI_1]
      exact ih (c + 1) (by omega)
  rw [show d + 2 = d + 1 + 1 from rfl, aX7_lengthOf]
  exact loop 6 0 rfl
theorem mNum (d : Nat) {i : Nat} (M : MM) (w : Int64) (t u : Nat) (hi : i < 4096) : callN X (d + 2) 165 [vI (nI i)] (M, w, true, true, [], t, u) = some (some (vI (nI (nbN i 6))), (M, w, true, true, [], t, u)) := by
  have loop : ∀ m c, c + m = 6 → nR X (callN X (d + 1)) hX7_digitsOf 4 [vI (nI i), vI (nI (nbN i c)), vI (nI c)] [] (M, w, true, true, [], t, u) = some (some (vI (nI (nbN i 6))), (M, w, true, true, [], t, u)) := by
    intro m
    induction m with
    | zero =>
      intro c hc
      have hc : c = 6 := hc
      subst hc
      rw [bX7_digitsOf_4, if_pos (by decide)]
    | succ m ih =>
      intro c hc
      rw [bX7_digitsOf_4, li6, if_neg (nI_ge (by omega) (by omega)), mDays X d M w t u hi (show c < 6 by omega), bnd_s]
      show nR X (callN X (d + 1)) hX7_digitsOf 19 _ [vI (nI (dg i c)), vI (10 * nI (nbN i c))] _ = _
      rw [bX7_digitsOf_19, li10, pk_mul, nI_add, nI_1, Nat.mul_comm 10]
      exact ih (c + 1) (by omega)
  rw [show d + 2 = d + 1 + 1 from rfl, aX7_digitsOf]
  exact loop 6 0 rfl
theorem mCoasts (d : Nat) {i : Nat} (M : MM) (w : Int64) (t u : Nat) (hi : i < 4096) : callN X (d + 2) 170 [vI (nI i)] (M, w, true, true, [], t, u) = some (some (vI (nI (btN i 6))), (M, w, true, true, [], t, u)) := by
  have loop : ∀ m c, c + m = 6 → nR X (callN X (d + 1)) hX7_coastsOf 4 [vI (nI i), vI (nI (btN i c)), vI (nI c)] [] (M, w, true, true, [], t, u) = some (some (vI (nI (btN i 6))), (M, w, true, true, [], t, u)) := by
    intro m
    induction m with
    | zero =>
      intro c hc
      have hc : c = 6 := hc
      subst hc
      rw [bX7_coastsOf_4, if_pos (by decide)]
    | succ m ih =>
      intro c hc
      have hd4 := dg_lt i c
      have e7 : btN i (c + 1) = if dg i c = 0 then btN i c else btN i c ||| 2 ^ c := rfl
      rw [bX7_coastsOf_4, li6, if_neg (nI_ge (by omega) (by omega)), mDays X d M w t u hi (show c < 6 by omega), bnd_s]
      show nR X (callN X (d + 1)) hX7_coastsOf 16 _ [vI (nI (dg i c)), vI (nI (btN i c))] _ = _
      rw [bX7_coastsOf_16, bit_nI c (by omega), bit_0 c (by omega), nI_or, nI_or, nI_1, Nat.or_zero]
      have := ih (c + 1) (by omega)
      rw [e7] at this
      by_cases z : dg i c = 0
      · rw [if_pos z] at this
        rw [if_pos (show nI (dg i c) ≤ 0 by rw [z]; decide)]
        exact this
      · rw [if_neg z] at this
        rw [if_neg (nI_nle (by omega) (by omega))]
        exact this
  rw [show d + 2 = d + 1 + 1 from rfl, aX7_coastsOf]
  exact loop 6 0 rfl
theorem mFound (d : Nat) {M : MM} (w : Int64) (t u : Nat) {i p : Nat} {o : Int32} {x4 x5 : AV} {f : FS} (hF : FM M f) (hn : f.1 < 2 ^ 30) (hfd : f.1 = 0 ↔ f.2.2.1 = -1) (hi : i < 4096) : ∃ (M2 : MM) (x6 x7 : Int32), nBnd (callN X (d + 3) 170 [vI (nI i)] (M, w, true, true, [], t, u)) (fun v s2 => nR X (callN X (d + 3)) hX7_looks 74 [vR 30 0, vI (nI p), vI o, vI (nI i), x4, x5] (v.toList ++ []) s2) = nR X (callN X (d + 3)) hX7_looks 54 [vR 30 0, vI (nI p), vI o, vI (nI (i + 1)), vI x6, vI x7] [] (M2, w, true, true, [], t, u) ∧ FM M2 (upS f i) ∧ frF M M2 := by
  obtain ⟨a0, a1, a2, a3, a4, a5⟩ := hF
  have hbl := btN_lt i 6
  rw [mCoasts X (d + 1) M w t u hi, bnd_s]
  show ∃ (M2 : MM) (x6 x7 : Int32), nR X (callN X (d + 3)) hX7_looks 74 [vR 30 0, vI (nI p), vI o, vI (nI i), x4, x5] [vI (nI (btN i 6))] _ = _ ∧ _
  rw [bX7_looks_74, nst_j (show ¬ 33 = 30 by omega), a3, a0, nI_1, nI_and2, nst_j (show ¬ 34 = 33 by omega), nst_j (show ¬ 34 = 30 by omega), a4, nI_or]
  have loop : ∀ (m c : Nat) (Mi : MM), c + m = 6 → (∀ q, q < 6 → Mi 40 0 q = nI (f.2.2.2.2.2 q + (if q < c then (if dg i q = 0 then 0 else 1) else 0))) → (∀ k a j, k ≠ 40 → Mi k a j = (nSt (nSt (nSt M 30 0 30 (nI (f.1 + 1))) 30 0 33 (nI ((if f.1 = 0 then 63 else f.2.2.2.1) &&& btN i 6))) 30 0 34 (nI (f.2.2.2.2.1 ||| btN i 6))) k a j) →
      ∃ M2, nR X (callN X (d + 3)) hX7_looks 111 [vR 30 0, vI (nI p), vI o, vI (nI i), vI (nI (btN i 6)), vI (nI c)] [] (Mi, w, true, true, [], t, u) = nR X (callN X (d + 3)) hX7_looks 111 [vR 30 0, vI (nI p), vI o, vI (nI i), vI (nI (btN i 6)), vI (nI 6)] [] (M2, w, true, true, [], t, u) ∧ (∀ q, q < 6 → M2 40 0 q = nI (f.2.2.2.2.2 q + (if dg i q = 0 then 0 else 1))) ∧ (∀ k a j, k ≠ 40 → M2 k a j = (nSt (nSt (nSt M 30 0 30 (nI (f.1 + 1))) 30 0 33 (nI ((if f.1 = 0 then 63 else f.2.2.2.1) &&& btN i 6))) 30 0 34 (nI (f.2.2.2.2.1 ||| btN i 6))) k a j) := by
    intro m
    induction m with
    | zero =>
      intro c Mi hc h1 h2
      have hc : c = 6 := hc
      subst hc
      exact ⟨Mi, rfl, fun q hq => (h1 q hq).trans (by rw [if_pos hq]), h2⟩
    | succ m ih =>
      intro c Mi hc h1 h2
      have hsh : nI (btN i 6) >>> (nI c &&& 31) = nI (btN i 6 / 2 ^ c) := by
        have : c = 0 ∨ c = 1 ∨ c = 2 ∨ c = 3 ∨ c = 4 ∨ c = 5 := by omega
        rcases this with rfl | rfl | rfl | rfl | rfl | rfl <;> exact nI_shr (by omega) (by decide)
      have hle := Nat.div_le_self (btN i 6) (2 ^ c)
      rw [bX7_looks_111, li6, if_neg (nI_ge (by omega) (by omega)), nin_t (show c < 6 by omega), cond_tt rfl, cond_tt rfl, nI_clamp (by omega), hsh, pk_and _ 1 (by decide), pk_tn (by omega), show 2 ^ 1 = 2 from rfl, btN_at (by omega), h1 c (by omega), if_neg (Nat.lt_irrefl c), Nat.add_zero, nI_add, nI_1]
      refine ih (c + 1) _ (by omega) (fun q hq => ?_) (fun k a j q => (nst_ne q).trans (h2 k a j q))
      by_cases y : q = c
      · rw [y, nst_self, if_pos (show c < c + 1 by omega)]
        first | rfl | rw [Nat.add_zero]
      · rw [nst_j y, h1 q hq]
        by_cases y2 : q < c
        · rw [if_pos y2, if_pos (show q < c + 1 by omega)]
        · rw [if_neg y2, if_neg (show ¬ q < c + 1 by omega)]
  obtain ⟨M1, e1, e2, e3⟩ := loop 6 0 _ rfl (fun q hq => by
    rw [if_neg (Nat.not_lt_zero q), nst_fr (by omega), nst_fr (by omega), nst_fr (by omega), a5 q hq, Nat.add_zero]) (fun _ _ _ _ => rfl)
  have e1 : nR X (callN X (d + 3)) hX7_looks 111 [vR 30 0, vI (nI p), vI o, vI (nI i), vI (nI (btN i 6)), vI 0] [] _ = _ := e1
  have b30 : M1 30 0 30 = nI (f.1 + 1) := by rw [e3 30 0 30 (by omega), nst_j (by omega), nst_j (by omega), nst_self]
  have b31 : M1 30 0 31 = f.2.1 := by rw [e3 30 0 31 (by omega), nst_j (by omega), nst_j (by omega), nst_j (by omega), a1]
  have b32 : M1 30 0 32 = f.2.2.1 := by rw [e3 30 0 32 (by omega), nst_j (by omega), nst_j (by omega), nst_j (by omega), a2]
  have b33 : M1 30 0 33 = nI (if f.1 = 0 then btN i 6 else f.2.2.2.1 &&& btN i 6) := by
    rw [e3 30 0 33 (by omega), nst_j (by omega), nst_self]
    by_cases c : f.1 = 0
    · rw [if_pos c, if_pos c]
      have h63 : 63 &&& btN i 6 = btN i 6 := by
        rw [Nat.and_comm, show 63 = 2 ^ 6 - 1 from rfl, Nat.and_two_pow_sub_one_eq_mod, Nat.mod_eq_of_lt hbl]
      rw [h63]
    · rw [if_neg c, if_neg c]
  have b34 : M1 30 0 34 = nI (f.2.2.2.2.1 ||| btN i 6) := by rw [e3 30 0 34 (by omega), nst_self]
  have hfr : frF M M1 := fun k a j q q2 => by rw [e3 k a j q, nst_fr (by omega), nst_fr (by omega), nst_fr (by omega)]
  have h33 : (if (upS f i).1 = 0 then 63 else (upS f i).2.2.2.1) = if f.1 = 0 then btN i 6 else f.2.2.2.1 &&& btN i 6 := if_neg (Nat.succ_ne_zero _)
  have rep : ∃ M2, nR X (callN X (d + 3)) hX7_looks 165 [vR 30 0, vI (nI p), vI o, vI (nI i), vI (nI (btN i 6)), vI (nI 6)] [vI (nI (sumN (dg i) 6)), vR 30 0] (M1, w, true, true, [], t, u) = nR X (callN X (d + 3)) hX7_looks 54 [vR 30 0, vI (nI p), vI o, vI (nI (i + 1)), vI (nI (btN i 6)), vI (nI 6)] [] (M2, w, true, true, [], t, u) ∧ M2 = nSt (nSt M1 30 0 32 (nI (sumN (dg i) 6))) 30 0 31 (nI (nbN i 6)) := by
    rw [bX7_looks_165, mNum X (d + 1) _ w t u hi, bnd_s]
    show ∃ M2, nR X (callN X (d + 3)) hX7_looks 173 [vR 30 0, vI (nI p), vI o, vI (nI i), vI (nI (btN i 6)), vI (nI 6)] [vI (nI (nbN i 6)), vR 30 0] _ = _ ∧ _
    rw [bX7_looks_173, nI_1]
    exact ⟨_, rfl, rfl⟩
  rw [e1, bX7_looks_111, if_pos (by decide), mLen X (d + 1) M1 w t u hi, bnd_s, bnd_s, b32]
  by_cases c : f.1 = 0
  · rw [if_pos (hfd.mp c)]
    obtain ⟨M2, g1, rfl⟩ := rep
    refine ⟨_, _, _, g1, ⟨?_, ?_, ?_, ?_, ?_, fun q hq => ?_⟩, fun k a j q q2 => (nst_fr (by omega)).trans ((nst_fr (by omega)).trans (hfr k a j q q2))⟩
    · exact (nst_j (by omega)).trans ((nst_j (by omega)).trans b30)
    · show _ = if f.1 = 0 then nI (nbN i 6) else _
      rw [if_pos c, nst_self]
    · show _ = if f.1 = 0 then nI (sumN (dg i) 6) else _
      rw [if_pos c, nst_j (by omega), nst_self]
    · rw [h33]
      exact (nst_j (by omega)).trans ((nst_j (by omega)).trans b33)
    · exact (nst_j (by omega)).trans ((nst_j (by omega)).trans b34)
    · exact (nst_fr (by omega)).trans ((nst_fr (by omega)).trans (e2 q hq))
  · rw [if_neg (fun q => c (hfd.mpr q)), tl_s, bX7_looks_153, b32]
    by_cases c2 : f.2.2.1 ≤ nI (sumN (dg i) 6)
    · rw [if_pos c2, nI_1]
      refine ⟨M1, _, _, rfl, ⟨b30, ?_, ?_, ?_, b34, e2⟩, hfr⟩
      · show _ = if f.1 = 0 then nI (nbN i 6) else if f.2.2.1 ≤ nI (sumN (dg i) 6) then f.2.1 else _
        rw [if_neg c, if_pos c2, b31]
      · show _ = if f.1 = 0 then nI (sumN (dg i) 6) else if f.2.2.1 ≤ nI (sumN (dg i) 6) then f.2.2.1 else _
        rw [if_neg c, if_pos c2, b32]
      · rw [h33]
        exact b33
    · rw [if_neg c2, mLen X (d + 1) M1 w t u hi, bnd_s]
      obtain ⟨M2, g1, rfl⟩ := rep
      refine ⟨_, _, _, g1, ⟨?_, ?_, ?_, ?_, ?_, fun q hq => ?_⟩, fun k a j q q2 => (nst_fr (by omega)).trans ((nst_fr (by omega)).trans (hfr k a j q q2))⟩
      · exact (nst_j (by omega)).trans ((nst_j (by omega)).trans b30)
      · show _ = if f.1 = 0 then nI (nbN i 6) else if f.2.2.1 ≤ nI (sumN (dg i) 6) then f.2.1 else nI (nbN i 6)
        rw [if_neg c, if_neg c2, nst_self]
      · show _ = if f.1 = 0 then nI (sumN (dg i) 6) else if f.2.2.1 ≤ nI (sumN (dg i) 6) then f.2.2.1 else nI (sumN (dg i) 6)
        rw [if_neg c, if_neg c2, nst_j (by omega), nst_self]
      · rw [h33]
        exact (nst_j (by omega)).trans ((nst_j (by omega)).trans b33)
      · exact (nst_j (by omega)).trans ((nst_j (by omega)).trans b34)
      · exact (nst_fr (by omega)).trans ((nst_fr (by omega)).trans (e2 q hq))
theorem mLooks (d : Nat) {M : MM} (w : Int64) (t u : Nat) {s : GS} {o p : Nat} (h : SM M s) (hB : SB s) (ho : o < gP (sW s)) (hp : p < 4) (hth : (sH s p).1 = true) (h6 : (sH s p).2.2.1 = 6) : ∃ (M2 : MM) (w2 : Int64), callN X (d + 56) 171 [vR 30 0, vI (nI p), vI (nI o)] (M, w, true, true, [], t, u) = some (none, (M2, w2, true, true, [], t, u)) ∧ (M2 30 0 30 = nI (FT (sH s p).2.2.2 s o 4096).1 ∧ M2 30 0 31 = (FT (sH s p).2.2.2 s o 4096).2.1 ∧ M2 30 0 32 = (FT (sH s p).2.2.2 s o 4096).2.2.1 ∧ M2 30 0 33 = nI (if (FT (sH s p).2.2.2 s o 4096).1 = 0 then 0 else (FT (sH s p).2.2.2 s o 4096).2.2.2.1) ∧ M2 30 0 34 = nI (FT (sH s p).2.2.2 s o 4096).2.2.2.2.1 ∧ ∀ c, c < 6 → M2 40 0 c = nI ((FT (sH s p).2.2.2 s o 4096).2.2.2.2.2 c)) ∧ fM M M2 ∧ ∀ k i j, k < 30 → M2 k i j = M k i j := by
  obtain ⟨M1, w1, e1, e2, e3⟩ := mTables X d w t u h hB.1 ho
  have h9 := (h.2.2.2.2 p hp).2 hth
  have hrow : ∀ k, k < 6 → M1 48 0 (40 * p + k) = (sH s p).2.2.2 k := fun k hk => (e3 48 0 _ (by omega) (by omega)).trans (h9.2.2 k (by omega))
  have l1 : ∀ (m c : Nat) (Mi : MM), c + m = 6 → (∀ q, q < c → Mi 40 0 q = 0) → ∃ M2, nR X (callN X (d + 55)) hX7_looks 33 [vR 30 0, vI (nI p), vI (nI o), vI (nI c), vX, vX] [] (Mi, w1, true, true, [], t, u) = nR X (callN X (d + 55)) hX7_looks 54 [vR 30 0, vI (nI p), vI (nI o), vI (nI 0), vX, vX] [] (M2, w1, true, true, [], t, u) ∧ (∀ q, q < 6 → M2 40 0 q = 0) ∧ (∀ k a j, k ≠ 40 → M2 k a j = Mi k a j) := by
    intro m
    induction m with
    | zero =>
      intro c Mi hc h1
      have hc : c = 6 := hc
      subst hc
      rw [bX7_looks_33, if_pos (by decide)]
      exact ⟨Mi, rfl, h1, fun _ _ _ _ => rfl⟩
    | succ m ih =>
      intro c Mi hc h1
      rw [bX7_looks_33, li6, if_neg (nI_ge (by omega) (by omega)), nin_t (show c < 6 by omega), cond_tt rfl, nI_clamp (by omega), nI_1]
      obtain ⟨M2, g1, g2, g3⟩ := ih (c + 1) (nSt Mi 40 0 c 0) (by omega) (fun q hq => by
        by_cases y : q = c
        · rw [y, nst_self]
        · rw [nst_j y]
          exact h1 q (by omega))
      exact ⟨M2, g1, g2, fun k a j q => (g3 k a j q).trans (nst_ne q)⟩
  have loop : ∀ (m i : Nat) (Mi : MM) (x4 x5 : AV), i + m = 4096 → FM Mi (FT (sH s p).2.2.2 s o i) → frF M1 Mi → ∃ (M2 : MM) (x6 x7 : AV), nR X (callN X (d + 55)) hX7_looks 54 [vR 30 0, vI (nI p), vI (nI o), vI (nI i), x4, x5] [] (Mi, w1, true, true, [], t, u) = nR X (callN X (d + 55)) hX7_looks 54 [vR 30 0, vI (nI p), vI (nI o), vI (nI 4096), x6, x7] [] (M2, w1, true, true, [], t, u) ∧ FM M2 (FT (sH s p).2.2.2 s o 4096) ∧ frF M1 M2 := by
    intro m
    induction m with
    | zero =>
      intro i Mi x4 x5 hi h1 h2
      have hi : i = 4096 := hi
      subst hi
      exact ⟨Mi, x4, x5, rfl, h1, h2⟩
    | succ m ih =>
      intro i Mi x4 x5 hi h1 h2
      have hTi : TkM Mi s o := fun c mk q q2 => (h2 39 0 _ (by omega) (by omega)).trans (e2 c mk q q2)
      have hle := (FT_le (sH s p).2.2.2 s o i).1
      have hFT : FT (sH s p).2.2.2 s o (i + 1) = cond (ftB (sH s p).2.2.2 s o i 6) (upS (FT (sH s p).2.2.2 s o i) i) (FT (sH s p).2.2.2 s o i) := rfl
      rw [bX7_looks_54, show (4096 : Int32) = nI 4096 from rfl, if_neg (nI_ge (by omega) (by omega)), mFitsB X (d + 52) w1 t u (row := (sH s p).2.2.2) hTi (show i < 4096 by omega) hp (fun k hk => (h2 48 0 _ (by omega) (by omega)).trans (hrow k hk)), bnd_s, tl_s, bX7_looks_67, if_b]
      cases cb : ftB (sH s p).2.2.2 s o i 6
      · rw [cb] at hFT
        show ∃ M2 x6 x7, nR X (callN X (d + 55)) hX7_looks 54 [vR 30 0, vI (nI p), vI (nI o), vI (nI i + 1), x4, x5] [] _ = _ ∧ _
        rw [nI_1]
        exact ih (i + 1) Mi x4 x5 (by omega) (by rw [hFT]; exact h1) h2
      · rw [cb] at hFT
        obtain ⟨M2, x6, x7, g1, g2, g3⟩ := mFound X (d + 52) w1 t u (p := p) (o := nI o) (x4 := x4) (x5 := x5) h1 (by omega) (FT_n _ s o i) (show i < 4096 by omega)
        show ∃ M2 x6 x7, nBnd (callN X (d + 55) 170 [vI (nI i)] (Mi, w1, true, true, [], t, u)) _ = _ ∧ _
        rw [g1]
        exact ih (i + 1) M2 _ _ (by omega) (by rw [hFT]; exact g2) (fun k a j q q2 => (g3 k a j q q2).trans (h2 k a j q q2))
  obtain ⟨M2, a1, a2, a3⟩ := l1 6 0 (nSt (nSt (nSt (nSt (nSt M1 30 0 30 0) 30 0 31 (-1)) 30 0 32 (-1)) 30 0 33 63) 30 0 34 0) rfl (fun q hq => by omega)
  have hf12 : frF M1 M2 := fun k a j q q2 => (a3 k a j q).trans ((nst_fr (by omega)).trans ((nst_fr (by omega)).trans ((nst_fr (by omega)).trans ((nst_fr (by omega)).trans (nst_fr (by omega))))))
  obtain ⟨M3, x4, x5, b1, b2, b3⟩ := loop 4096 0 M2 vX vX rfl ⟨by rw [a3 30 0 30 (by omega), nst_j (by omega), nst_j (by omega), nst_j (by omega), nst_j (by omega), nst_self]; rfl, by rw [a3 30 0 31 (by omega), nst_j (by omega), nst_j (by omega), nst_j (by omega), nst_self]; rfl, by rw [a3 30 0 32 (by omega), nst_j (by omega), nst_j (by omega), nst_self]; rfl, by rw [a3 30 0 33 (by omega), nst_j (by omega), nst_self]; rfl, by rw [a3 30 0 34 (by omega), nst_self]; rfl, fun c hc => (a2 c hc)⟩ hf12
  obtain ⟨c0, c1, c2, c3, c4, c5⟩ := b2
  have hle := (FT_le (sH s p).2.2.2 s o 4096).1
  have hend : callN X (d + 56) 171 [vR 30 0, vI (nI p), vI (nI o)] (M, w, true, true, [], t, u) = some (none, (nSt M3 30 0 33 (nI (if (FT (sH s p).2.2.2 s o 4096).1 = 0 then 0 else (FT (sH s p).2.2.2 s o 4096).2.2.2.1)), w1, true, true, [], t, u)) := by
    have a1 : nR X (callN X (d + 55)) hX7_looks 33 [vR 30 0, vI (nI p), vI (nI o), vI 0, vX, vX] [] _ = _ := a1
    rw [show d + 56 = d + 55 + 1 from rfl, aX7_looks, e1, bnd_s, tl_n, bX7_looks_5, a1, b1, bX7_looks_54, if_pos (by decide), c0]
    by_cases c : (FT (sH s p).2.2.2 s o 4096).1 = 0
    · rw [if_pos (nz0 c), if_pos c]
      rfl
    · rw [if_neg (nI_ne0 (by omega) (by omega)), c3, if_neg c, if_neg c]
  refine ⟨_, w1, hend, ⟨(nst_j (by omega)).trans c0, (nst_j (by omega)).trans c1, (nst_j (by omega)).trans c2, nst_self _ _ _ _ _, (nst_j (by omega)).trans c4, fun c hc => (nst_fr (by omega)).trans (c5 c hc)⟩, fun k i j q1 q2 q3 q4 => ?_, fun k i j q => ?_⟩
  · exact (nst_fr (by omega)).trans ((b3 k i j (by omega) (by omega)).trans (e3 k i j (by omega) (by omega)))
  · exact (nst_fr (by omega)).trans ((b3 k i j (by omega) (by omega)).trans (e3 k i j (by omega) (by omega)))
theorem FT_mu (row : Nat → Int32) (s : GS) (o : Nat) : ∀ i, (FT row s o i).1 = 0 → (FT row s o i).2.2.2.1 = 0
  | 0, _ => rfl
  | i + 1, h => by
    revert h
    show (cond (ftB row s o i 6) (upS (FT row s o i) i) (FT row s o i)).1 = 0 → (cond (ftB row s o i 6) (upS (FT row s o i) i) (FT row s o i)).2.2.2.1 = 0
    cases ftB row s o i 6
    · exact FT_mu row s o i
    · intro q
      exact absurd q (Nat.succ_ne_zero _)
theorem q_fit (i a k : Int32) : Stq X 65 172 [vI i, vI a, vI k] := fun s hB => by
  have hP := hB.1.2.2.2.2.2
  cases c0 : nIn i 4
  · refine q_bad X hB (vI (-2)) (fun d M w t u h => ?_) (fun d M w t u h => ?_)
    · rw [show d + 200 = d + 199 + 1 from rfl, aX6_fit, cSheet, c0, bnd_s, tl_s, bX6_fit_4, if_b]
      rfl
    · rw [show d + 200 = d + 199 + 1 from rfl, aX7_fit, mSheet, c0, bnd_s, tl_s, bX7_fit_4, if_b]
      rfl
  cases c1 : nIn a (gP (sW s))
  · refine q_bad X hB (vI (-2)) (fun d M w t u h => ?_) (fun d M w t u h => ?_)
    · rw [show d + 200 = d + 199 + 1 from rfl, aX6_fit, cSheet, c0, bnd_s, tl_s, bX6_fit_4, if_b, cond_tt rfl, cHas X (d + 198) a w true [] t u h.1 hP, c1, bnd_s, tl_s, bX6_fit_15, if_b]
      rfl
    · rw [show d + 200 = d + 199 + 1 from rfl, aX7_fit, mSheet, c0, bnd_s, tl_s, bX7_fit_4, if_b, cond_tt rfl, mOne X (d + 197) a w [] t u h.1 hP, c1, bnd_s, tl_s, bX7_fit_12, if_b]
      rfl
  cases c2 : nIn k 5
  · refine q_bad X hB (vI (-2)) (fun d M w t u h => ?_) (fun d M w t u h => ?_)
    · rw [show d + 200 = d + 199 + 1 from rfl, aX6_fit, cSheet, c0, bnd_s, tl_s, bX6_fit_4, if_b, cond_tt rfl, cHas X (d + 198) a w true [] t u h.1 hP, c1, bnd_s, tl_s, bX6_fit_15, if_b, cond_tt rfl, if_in2 (n := 5) rfl, c2]
      rfl
    · rw [show d + 200 = d + 199 + 1 from rfl, aX7_fit, mSheet, c0, bnd_s, tl_s, bX7_fit_4, if_b, cond_tt rfl, mOne X (d + 197) a w [] t u h.1 hP, c1, bnd_s, tl_s, bX7_fit_12, if_b, cond_tt rfl, mIn X (d + 198) k (n := 5) rfl, c2, bnd_s, tl_s, bX7_fit_24, if_b]
      rfl
  obtain ⟨p, hp, rfl⟩ := in_ex c0 (by omega)
  obtain ⟨o, ho, rfl⟩ := in_ex c1 (by omega)
  obtain ⟨k, hk, rfl⟩ := in_ex c2 (by omega)
  have hbp := hB.2.2.2.2 p hp
  have hc : ∀ (d : Nat) (M : MM) (w : Int64) (t u : Nat), SC M s → callN X (d + 200) 65 [vR 2 0, vI (nI p), vI (nI o), vI (nI k)] (M, w, true, true, [], t, u) = nBnd (callN X (d + 199) 98 [vR 2 0, vR 18 p, vI (nI o)] (M, w, true, true, [], t, u)) (fun v s2 => nR X (callN X (d + 199)) hX6_fit 41 [vR 2 0, vI (nI p), vI (nI o), vI (nI k), vX] (v.toList ++ []) s2) := by
    intro d M w t u h
    rw [show d + 200 = d + 199 + 1 from rfl, aX6_fit, cSheet, c0, bnd_s, tl_s, bX6_fit_4, if_b, cond_tt rfl, cHas X (d + 198) (nI o) w true [] t u h.1 hP, c1, bnd_s, tl_s, bX6_fit_15, if_b, cond_tt rfl, if_in2 (n := 5) rfl, c2, cond_tt rfl, c0, cond_tt rfl, nI_clamp (show p < 2 ^ 31 by omega)]
  have hm : ∀ (d : Nat) (M : MM) (w : Int64) (t u : Nat), SM M s → callN X (d + 200) 172 [vR 30 0, vI (nI p), vI (nI o), vI (nI k)] (M, w, true, true, [], t, u) = cond (sH s p).1 (if M 47 0 p = 6 then nBnd (callN X (d + 199) 171 [vR 30 0, vI (nI p), vI (nI o)] (M, w, true, true, [], t, u)) (fun v s2 => nR X (callN X (d + 199)) hX7_fit 62 [vR 30 0, vI (nI p), vI (nI o), vI (nI k)] (v.toList ++ []) s2) else some (some (vI (-2)), (M, w, true, true, [], t, u))) (some (some (vI (-11)), (M, w, true, true, [], t, u))) := by
    intro d M w t u h
    rw [show d + 200 = d + 199 + 1 from rfl, aX7_fit, mSheet, c0, bnd_s, tl_s, bX7_fit_4, if_b, cond_tt rfl, mOne X (d + 197) (nI o) w [] t u h.1 hP, c1, bnd_s, tl_s, bX7_fit_12, if_b, cond_tt rfl, mIn X (d + 198) (nI k) (n := 5) rfl, c2, bnd_s, tl_s, bX7_fit_24, if_b, cond_tt rfl, c0, cond_tt rfl, cond_tt rfl, nI_clamp (show p < 2 ^ 31 by omega), (h.2.2.2.2 p hp).1, if_b]
  cases c3 : (sH s p).1
  · refine ⟨vI (-11), s, CSp.q X (fun d M w t u h => ?_), MSp.n X (fun d M w t u h => by rw [hm d M w t u h, c3]; rfl), hB⟩
    obtain ⟨M2, e1, e2, e3⟩ := cFits X (d + 193) w t u h hB (show o < 5 by omega) hp
    refine ⟨M2, ?_, e3⟩
    rw [hc d M w t u h, e1, c3, bnd_s, tl_s, bX6_fit_41]
    rfl
  have hbp := hbp c3
  by_cases c6 : (sH s p).2.2.1 = 6
  rotate_left
  · refine ⟨vI (-2), s, CSp.q X (fun d M w t u h => ?_), MSp.n X (fun d M w t u h => ?_), hB⟩
    · obtain ⟨M2, e1, e2, e3⟩ := cFits X (d + 193) w t u h hB (show o < 5 by omega) hp
      refine ⟨M2, ?_, e3⟩
      rw [hc d M w t u h, e1, c3, cond_tt rfl, if_neg c6, bnd_s, tl_s, bX6_fit_41, if_neg (by decide)]
    · rw [hm d M w t u h, c3, cond_tt rfl, ((h.2.2.2.2 p hp).2 c3).2.1, if_neg (show ¬ nI (sH s p).2.2.1 = 6 from fun q => c6 ((nI_eq (b := 6) (by omega) (by omega)).mp q))]
  refine ⟨vI (if nI k = 0 then nI (FT (sH s p).2.2.2 s o 4096).1 else if nI k = 1 then (FT (sH s p).2.2.2 s o 4096).2.1 else if nI k = 2 then (FT (sH s p).2.2.2 s o 4096).2.2.1 else if nI k = 3 then nI (FT (sH s p).2.2.2 s o 4096).2.2.2.1 else nI (FT (sH s p).2.2.2 s o 4096).2.2.2.2.1), s, CSp.q X (fun d M w t u h => ?_), MSp.q X (fun d M w t u h => ?_), hB⟩
  · obtain ⟨M2, e1, e2, e3⟩ := cFits X (d + 193) w t u h hB (show o < 5 by omega) hp
    obtain ⟨f0, f1, f2, f3, f4, -⟩ := e2 c3 c6
    refine ⟨M2, ?_, e3⟩
    rw [hc d M w t u h, e1, c3, cond_tt rfl, if_pos c6, bnd_s, tl_s, bX6_fit_41, if_pos rfl, f0, f1, f2, f3, f4]
    by_cases k0 : nI k = 0
    · rw [if_pos k0, if_pos k0]
    rw [if_neg k0, if_neg k0]
    by_cases k1 : nI k = 1
    · rw [if_pos k1, if_pos k1]
    rw [if_neg k1, if_neg k1]
    by_cases k2 : nI k = 2
    · rw [if_pos k2, if_pos k2]
    rw [if_neg k2, if_neg k2]
    by_cases k3 : nI k = 3
    · rw [if_pos k3, if_pos k3]
    rw [if_neg k3, if_neg k3]
  · obtain ⟨M2, w2, e1, ⟨f0, f1, f2, f3, f4, -⟩, e2, e3⟩ := mLooks X (d + 143) w t u h hB ho hp c3 c6
    have hmu : (if (FT (sH s p).2.2.2 s o 4096).1 = 0 then 0 else (FT (sH s p).2.2.2 s o 4096).2.2.2.1) = (FT (sH s p).2.2.2 s o 4096).2.2.2.1 := by
      by_cases z : (FT (sH s p).2.2.2 s o 4096).1 = 0
      · rw [if_pos z, FT_mu _ s o 4096 z]
      · rw [if_neg z]
    refine ⟨M2, w2, t, u, ?_, e2, e3, by omega, by omega⟩
    rw [hm d M w t u h, c3, cond_tt rfl, ((h.2.2.2.2 p hp).2 c3).2.1, if_pos (show nI (sH s p).2.2.1 = 6 by rw [c6]; rfl), e1, bnd_s, tl_n, bX7_fit_62, f0, f1, f2, f3, f4, hmu]
    by_cases k0 : nI k = 0
    · rw [if_pos k0, if_pos k0]
    rw [if_neg k0, if_neg k0]
    by_cases k1 : nI k = 1
    · rw [if_pos k1, if_pos k1]
    rw [if_neg k1, if_neg k1]
    by_cases k2 : nI k = 2
    · rw [if_pos k2, if_pos k2]
    rw [if_neg k2, if_neg k2]
    by_cases k3 : nI k = 3
    · rw [if_pos k3, if_pos k3]
    rw [if_neg k3, if_neg k3]
theorem q_share (i a c e : Int32) : Stq X 66 173 [vI i, vI a, vI c, vI e] := fun s hB => by
  have hP := hB.1.2.2.2.2.2
  cases c0 : nIn i 4
  · refine q_bad X hB (vL (-4611686018427387904)) (fun d M w t u h => ?_) (fun d M w t u h => ?_)
    · rw [show d + 200 = d + 199 + 1 from rfl, aX6_share, cSheet, c0, bnd_s, tl_s, bX6_share_4, if_b]
      rfl
    · rw [show d + 200 = d + 199 + 1 from rfl, aX7_share, mSheet, c0, bnd_s, tl_s, bX7_share_4, if_b]
      rfl
  cases c1 : nIn a (gP (sW s))
  · refine q_bad X hB (vL (-4611686018427387904)) (fun d M w t u h => ?_) (fun d M w t u h => ?_)
    · rw [show d + 200 = d + 199 + 1 from rfl, aX6_share, cSheet, c0, bnd_s, tl_s, bX6_share_4, if_b, cond_tt rfl, cHas X (d + 198) a w true [] t u h.1 hP, c1, bnd_s, tl_s, bX6_share_15, if_b]
      rfl
    · rw [show d + 200 = d + 199 + 1 from rfl, aX7_share, mSheet, c0, bnd_s, tl_s, bX7_share_4, if_b, cond_tt rfl, mOne X (d + 197) a w [] t u h.1 hP, c1, bnd_s, tl_s, bX7_share_12, if_b]
      rfl
  obtain ⟨p, hp, rfl⟩ := in_ex c0 (by omega)
  obtain ⟨o, ho, rfl⟩ := in_ex c1 (by omega)
  have hbp := hB.2.2.2.2 p hp
  have hc : ∀ (d : Nat) (M : MM) (w : Int64) (t u : Nat), SC M s → callN X (d + 200) 66 [vR 2 0, vI (nI p), vI (nI o), vI c, vI e] (M, w, true, true, [], t, u) = cond (nIn c 6) (cond (nIn e 2) (nBnd (callN X (d + 199) 98 [vR 2 0, vR 18 p, vI (nI o)] (M, w, true, true, [], t, u)) (fun v s2 => nR X (callN X (d + 199)) hX6_share 48 [vR 2 0, vI (nI p), vI (nI o), vI c, vI e] (v.toList ++ []) s2)) (some (some (vL (-4611686018427387904)), (M, w, true, true, [], t, u)))) (some (some (vL (-4611686018427387904)), (M, w, true, true, [], t, u))) := by
    intro d M w t u h
    rw [show d + 200 = d + 199 + 1 from rfl, aX6_share, cSheet, c0, bnd_s, tl_s, bX6_share_4, if_b, cond_tt rfl, cHas X (d + 198) (nI o) w true [] t u h.1 hP, c1, bnd_s, tl_s, bX6_share_15, if_b, cond_tt rfl, cCoast, bnd_s, tl_s, bX6_share_22, if_b, cPart, bnd_s, tl_s, bX6_share_30, if_b, c0, cond_tt rfl, nI_clamp (show p < 2 ^ 31 by omega)]
  have hm : ∀ (d : Nat) (M : MM) (w : Int64) (t u : Nat), SM M s → callN X (d + 200) 173 [vR 30 0, vI (nI p), vI (nI o), vI c, vI e] (M, w, true, true, [], t, u) = cond (sH s p).1 (if M 47 0 p = 6 then cond (nIn c 6) (cond (nIn e 2) (nBnd (callN X (d + 199) 171 [vR 30 0, vI (nI p), vI (nI o)] (M, w, true, true, [], t, u)) (fun v s2 => nR X (callN X (d + 199)) hX7_share 63 [vR 30 0, vI (nI p), vI (nI o), vI c, vI e] (v.toList ++ []) s2)) (some (some (vL (-4611686018427387904)), (M, w, true, true, [], t, u)))) (some (some (vL (-4611686018427387904)), (M, w, true, true, [], t, u))) else some (some (vL (-4611686018427387904)), (M, w, true, true, [], t, u))) (some (some (vL (-4611686018427387904)), (M, w, true, true, [], t, u))) := by
    intro d M w t u h
    rw [show d + 200 = d + 199 + 1 from rfl, aX7_share, mSheet, c0, bnd_s, tl_s, bX7_share_4, if_b, cond_tt rfl, mOne X (d + 197) (nI o) w [] t u h.1 hP, c1, bnd_s, tl_s, bX7_share_12, if_b, cond_tt rfl, c0, cond_tt rfl, cond_tt rfl, nI_clamp (show p < 2 ^ 31 by omega), (h.2.2.2.2 p hp).1, if_b, mCoast, bnd_s, tl_s, bX7_share_39, if_b, mIn X (d + 198) e (n := 2) rfl, bnd_s, tl_s, bX7_share_50, if_b]
  cases c2 : nIn c 6
  · refine q_bad X hB (vL (-4611686018427387904)) (fun d M w t u h => by rw [hc d M w t u h, c2]; rfl) (fun d M w t u h => ?_)
    rw [hm d M w t u h, c2, cond_ff rfl]
    cases (sH s p).1
    · rfl
    · rw [cond_tt rfl]
      by_cases z : M 47 0 p = 6
      · rw [if_pos z]
      · rw [if_neg z]
  cases c3 : nIn e 2
  · refine q_bad X hB (vL (-4611686018427387904)) (fun d M w t u h => by rw [hc d M w t u h, c2, c3]; rfl) (fun d M w t u h => ?_)
    rw [hm d M w t u h, c2, c3, cond_tt rfl, cond_ff rfl]
    cases (sH s p).1
    · rfl
    · rw [cond_tt rfl]
      by_cases z : M 47 0 p = 6
      · rw [if_pos z]
      · rw [if_neg z]
  rw [c2, c3] at hc hm
  cases c4 : (sH s p).1
  · refine ⟨vL (-4611686018427387904), s, CSp.q X (fun d M w t u h => ?_), MSp.n X (fun d M w t u h => by rw [hm d M w t u h, c4]; rfl), hB⟩
    obtain ⟨M2, e1, e2, e3⟩ := cFits X (d + 193) w t u h hB (show o < 5 by omega) hp
    refine ⟨M2, ?_, e3⟩
    rw [hc d M w t u h, cond_tt rfl, cond_tt rfl, e1, c4, bnd_s, tl_s, bX6_share_48]
    rfl
  have hbp := hbp c4
  by_cases c6 : (sH s p).2.2.1 = 6
  rotate_left
  · refine ⟨vL (-4611686018427387904), s, CSp.q X (fun d M w t u h => ?_), MSp.n X (fun d M w t u h => ?_), hB⟩
    · obtain ⟨M2, e1, e2, e3⟩ := cFits X (d + 193) w t u h hB (show o < 5 by omega) hp
      refine ⟨M2, ?_, e3⟩
      rw [hc d M w t u h, cond_tt rfl, cond_tt rfl, e1, c4, cond_tt rfl, if_neg c6, bnd_s, tl_s, bX6_share_48, if_neg (by decide)]
    · rw [hm d M w t u h, c4, cond_tt rfl, ((h.2.2.2.2 p hp).2 c4).2.1, if_neg (show ¬ nI (sH s p).2.2.1 = 6 from fun q => c6 ((nI_eq (b := 6) (by omega) (by omega)).mp q))]
  obtain ⟨c, hc6, rfl⟩ := in_ex c2 (by omega)
  obtain ⟨e, he2, rfl⟩ := in_ex c3 (by omega)
  have hle := FT_le (sH s p).2.2.2 s o 4096
  have hle2 := hle.2 c
  refine ⟨vL (lwN ((FT (sH s p).2.2.2 s o 4096).2.2.2.2.2 c) (FT (sH s p).2.2.2 s o 4096).1 e), s, CSp.q X (fun d M w t u h => ?_), MSp.q X (fun d M w t u h => ?_), hB⟩
  · obtain ⟨M2, e1, e2, e3⟩ := cFits X (d + 193) w t u h hB (show o < 5 by omega) hp
    obtain ⟨f0, f1, f2, f3, f4, f5⟩ := e2 c4 c6
    refine ⟨M2, ?_, e3⟩
    rw [hc d M w t u h, cond_tt rfl, cond_tt rfl, e1, c4, cond_tt rfl, if_pos c6, bnd_s, tl_s, bX6_share_48, if_pos rfl, c2, cond_tt rfl, nI_clamp (show c < 2 ^ 31 by omega), f0, f5 c hc6, cLow X (d + 198) M2 w true [] t u (by omega) (by omega) he2, bnd_s, tl_s, bX6_share_76]
  · obtain ⟨M2, w2, e1, ⟨f0, f1, f2, f3, f4, f5⟩, e2, e3⟩ := mLooks X (d + 143) w t u h hB ho hp c4 c6
    refine ⟨M2, w2, t, u, ?_, e2, e3, by omega, by omega⟩
    rw [hm d M w t u h, c4, cond_tt rfl, ((h.2.2.2.2 p hp).2 c4).2.1, if_pos (show nI (sH s p).2.2.1 = 6 by rw [c6]; rfl), cond_tt rfl, cond_tt rfl, e1, bnd_s, tl_n, bX7_share_63, f0]
    by_cases z : (FT (sH s p).2.2.2 s o 4096).1 = 0
    · rw [if_pos (nz0 z), bX7_share_93]
      unfold lwN
      rw [if_pos z]
    · rw [if_neg (nI_ne0 (by omega) (by omega)), c2, cond_tt rfl, nI_clamp (show c < 2 ^ 31 by omega), f5 c hc6, nI_l (by omega), nI_l (by omega), mLow X (d + 198) M2 w2 [] t u (by omega) (by omega) he2 z, bnd_s, tl_s, bX7_share_93]
end
