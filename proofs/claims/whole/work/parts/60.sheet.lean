/-! sheet, cell -/
def upH (f : Nat → GH) (i : Nat) (h : GH) : Nat → GH := fun j => if j = i then h else f j
def setH (s : GS) (i : Nat) (h : GH) : GS := (s.1, s.2.1, s.2.2.1, s.2.2.2.1, upH (sH s) i h)
theorem SC.h {M M' : MM} {s : GS} {i : Nat} {g : GH} (h : SC M s) (h2 : HC M' i g) (hf : ∀ k a j, k < 20 → ¬ ((k = 18 ∨ k = 19) ∧ a = i) → M' k a j = M k a j) : SC M' (setH s i g) :=
  ⟨h.1.fr (fun k a j _ _ => hf k a j (by omega) (by omega)), h.2.1.fr (fun k a j _ => hf k a j (by omega) (by omega)), h.2.2.1.fr (fun k a j _ => hf k a j (by omega) (by omega)), h.2.2.2.1.fr (fun k a j _ => hf k a j (by omega) (by omega)), fun a ha => by
    show HC M' a (upH (sH s) i g a)
    unfold upH
    by_cases c : a = i
    · rw [if_pos c, c]
      exact h2
    · rw [if_neg c]
      have h9 := h.2.2.2.2 a ha
      exact ⟨fun q => (hf 18 a 0 (by omega) (by omega)).trans (h9.1 q), fun q => ⟨(hf 18 a 0 (by omega) (by omega)).trans (h9.2 q).1, (hf 18 a 1 (by omega) (by omega)).trans (h9.2 q).2.1, fun j hj => (hf 19 a j (by omega) (by omega)).trans ((h9.2 q).2.2 j hj)⟩⟩⟩
theorem SM.h {M M' : MM} {s : GS} {i : Nat} {g : GH} (h : SM M s) (hB : SB s) (h2 : HM M' i g) (hf : ∀ k a j, 30 ≤ k → k ≤ 48 → ¬ (38 ≤ k ∧ k ≤ 41) → ¬ (k = 30 ∧ 13 ≤ j ∧ j ≤ 41) → ¬ (45 ≤ k ∧ k ≤ 47 ∧ j = i) → ¬ (k = 48 ∧ 40 * i ≤ j ∧ j < 40 * i + 40) → M' k a j = M k a j) : SM M' (setH s i g) :=
  ⟨h.1.fr (fun k a j _ => hf k a j (by omega) (by omega) (by omega) (by omega) (by omega) (by omega)), h.2.1.fr (fun k a j _ => hf k a j (by omega) (by omega) (by omega) (by omega) (by omega) (by omega)), h.2.2.1.fr (fun k a j _ => hf k a j (by omega) (by omega) (by omega) (by omega) (by omega) (by omega)), h.2.2.2.1.fr (fun k a j _ => hf k a j (by omega) (by omega) (by omega) (by omega) (by omega) (by omega)), fun a ha => by
    show HM M' a (upH (sH s) i g a)
    unfold upH
    by_cases c : a = i
    · rw [if_pos c, c]
      exact h2
    · rw [if_neg c]
      have h9 := h.2.2.2.2 a ha
      have hb := hB.2.2.2.2 a ha
      refine ⟨(hf 45 0 a (by omega) (by omega) (by omega) (by omega) (by omega) (by omega)).trans h9.1, fun q => ⟨(hf 46 0 a (by omega) (by omega) (by omega) (by omega) (by omega) (by omega)).trans (h9.2 q).1, (hf 47 0 a (by omega) (by omega) (by omega) (by omega) (by omega) (by omega)).trans (h9.2 q).2.1, fun j hj => (hf 48 0 _ (by omega) (by omega) (by omega) (by omega) (by omega) ?_).trans ((h9.2 q).2.2 j hj)⟩⟩
      have := (hb q).2
      omega⟩
theorem SB.h {s : GS} (hB : SB s) (i : Nat) {g : GH} (hg : g.1 = true → g.2.1 ≤ 2 ∧ g.2.2.1 ≤ 40) : SB (setH s i g) :=
  ⟨hB.1, hB.2.1, hB.2.2.1, hB.2.2.2.1, fun a ha => by
    show (upH (sH s) i g a).1 = true → (upH (sH s) i g a).2.1 ≤ 2 ∧ (upH (sH s) i g a).2.2.1 ≤ 40
    unfold upH
    by_cases c : a = i
    · rw [if_pos c]
      exact hg
    · rw [if_neg c]
      exact hB.2.2.2.2 a ha⟩
def putV (k : Nat) (v : Int32) : Int32 := if k = 0 then v.toInt8.toInt32 else if k = 1 then v.toInt16.toInt32 else v
section
variable (X : Nat × (Nat → Int32))
theorem cBecS (d : Nat) (i : Nat) (a1 a2 : Int32) (M : MM) (w : Int64) (t u : Nat) : ∃ M2, callN X (d + 1) 33 [vR 18 i, vI a1, vI a2] (M, w, true, true, [], t, u) = some (none, (M2, w, true, true, [], t, u)) ∧ M2 18 i 0 = a1 ∧ M2 18 i 1 = a2 ∧ (∀ j, j < 40 → M2 19 i j = 0) ∧ ∀ k a j, ¬ ((k = 18 ∨ k = 19) ∧ a = i) → M2 k a j = M k a j := by
  have loop : ∀ (m n : Nat) (Mi : MM), n + m = 40 → Mi 18 i 0 = a1 → Mi 18 i 1 = a2 → (∀ j, j < n → Mi 19 i j = 0) → (∀ k a j, ¬ ((k = 18 ∨ k = 19) ∧ a = i) → Mi k a j = M k a j) → ∃ M2, nR X (callN X d) hX3_becomes 12 [vR 18 i, vI a1, vI a2, vI (nI n)] [] (Mi, w, true, true, [], t, u) = some (none, (M2, w, true, true, [], t, u)) ∧ M2 18 i 0 = a1 ∧ M2 18 i 1 = a2 ∧ (∀ j, j < 40 → M2 19 i j = 0) ∧ ∀ k a j, ¬ ((k = 18 ∨ k = 19) ∧ a = i) → M2 k a j = M k a j := by
    intro m
    induction m with
    | zero =>
      intro n Mi hn h1 h2 h3 h4
      have hn : n = 40 := hn
      subst hn
      rw [bX3_becomes_12, if_pos (by decide)]
      exact ⟨Mi, rfl, h1, h2, h3, h4⟩
    | succ m ih =>
      intro n Mi hn h1 h2 h3 h4
      rw [bX3_becomes_12, li40, if_neg (nI_ge (by omega) (by omega)), nin_t (show n < 40 by omega), cond_tt rfl, nI_clamp (by omega), nI_1]
      refine ih (n + 1) _ (by omega) ((nst_fr (by omega)).trans h1) ((nst_fr (by omega)).trans h2) (fun j hj => ?_) (fun k a j q => (nst_o (by omega)).trans (h4 k a j q))
      by_cases c : j = n
      · rw [c, nst_self]
      · rw [nst_j c]
        exact h3 j (by omega)
  rw [aX3_becomes]
  exact loop 40 0 _ rfl ((nst_j (by omega)).trans (nst_self _ _ _ _ _)) (nst_self _ _ _ _ _) (fun j q => by omega) (fun k a j q => (nst_o (by omega)).trans (nst_o (by omega)))
theorem mBecS (d : Nat) {i k n : Nat} (hi : i < 4) (hk : k < 3) (hn : n ≤ 40) (M : MM) (w : Int64) (t u : Nat) : ∃ M2, callN X (d + 3) 187 [vR 30 0, vI (nI i), vI (nI k), vI (nI n)] (M, w, true, true, [], t, u) = some (some (vI 1), (M2, w, true, true, [], t, u)) ∧ HM M2 i (true, k, n, fun _ => 0) ∧ ∀ a b j, ¬ (45 ≤ a ∧ a ≤ 47 ∧ j = i) → ¬ (a = 48 ∧ 40 * i ≤ j ∧ j < 40 * i + 40) → M2 a b j = M a b j := by
  have loop : ∀ (m p : Nat) (Mi : MM), p + m = n → Mi 45 0 i = 1 → Mi 46 0 i = nI k → Mi 47 0 i = nI n → (∀ j, j < p → Mi 48 0 (40 * i + j) = 0) → (∀ a b j, ¬ (45 ≤ a ∧ a ≤ 47 ∧ j = i) → ¬ (a = 48 ∧ 40 * i ≤ j ∧ j < 40 * i + 40) → Mi a b j = M a b j) → ∃ M2, nR X (callN X (d + 2)) hX7_sheet 77 [vR 30 0, vI (nI i), vI (nI k), vI (nI n), vI (nI p)] [] (Mi, w, true, true, [], t, u) = some (some (vI 1), (M2, w, true, true, [], t, u)) ∧ HM M2 i (true, k, n, fun _ => 0) ∧ ∀ a b j, ¬ (45 ≤ a ∧ a ≤ 47 ∧ j = i) → ¬ (a = 48 ∧ 40 * i ≤ j ∧ j < 40 * i + 40) → M2 a b j = M a b j := by
    intro m
    induction m with
    | zero =>
      intro p Mi hp h1 h2 h3 h4 h5
      have hp : p = n := hp
      subst hp
      rw [bX7_sheet_77, if_pos (nI_le (Nat.le_refl _) (by omega))]
      exact ⟨Mi, rfl, ⟨h1, fun _ => ⟨h2, h3, h4⟩⟩, h5⟩
    | succ m ih =>
      intro p Mi hp h1 h2 h3 h4 h5
      rw [bX7_sheet_77, if_neg (nI_ge (by omega) (by omega)), if_neg (nI_pos (by omega)), li40, pk_mul, nI_add, nin_t (show 40 * i + p < 160 by omega), cond_tt rfl, nI_clamp (by omega), nI_1]
      refine ih (p + 1) _ (by omega) ((nst_fr (by omega)).trans h1) ((nst_fr (by omega)).trans h2) ((nst_fr (by omega)).trans h3) (fun j hj => ?_) (fun a b j q q2 => (nst_fr (by omega)).trans (h5 a b j q q2))
      by_cases c : j = p
      · rw [c, nst_self]
      · rw [nst_j (by omega)]
        exact h4 j (by omega)
  have hin : decide ((-1 : Int64) ≤ (nI k).toInt64 ∧ (nI k).toInt64 ≤ 2) = true := by
    have : k = 0 ∨ k = 1 ∨ k = 2 := by omega
    rcases this with rfl | rfl | rfl <;> decide
  obtain ⟨M2, e1, e2, e3⟩ := loop n 0 (nSt (nSt (nSt M 45 0 i 1) 46 0 i (nI k)) 47 0 i (nI n)) (Nat.zero_add _) ((nst_fr (by omega)).trans ((nst_fr (by omega)).trans (nst_self _ _ _ _ _))) ((nst_fr (by omega)).trans (nst_self _ _ _ _ _)) (nst_self _ _ _ _ _) (fun j q => by omega) (fun a b j q q2 => (nst_fr (by omega)).trans ((nst_fr (by omega)).trans (nst_fr (by omega))))
  refine ⟨M2, ?_, e2, e3⟩
  have e1 : nR X (callN X (d + 2)) hX7_sheet 77 [vR 30 0, vI (nI i), vI (nI k), vI (nI n), vI 0] [] (nSt (nSt (nSt M 45 0 i 1) 46 0 i (nI k)) 47 0 i (nI n), w, true, true, [], t, u) = _ := e1
  rw [show d + 3 = d + 2 + 1 from rfl, aX7_sheet, mSheet X d (nI i), nin_t hi, bnd_s, tl_s, bX7_sheet_4, if_b, cond_tt rfl, sX7_in X (d + 1), hin, bnd_s, tl_s, bV, bX7_sheet_18, if_b, cond_tt rfl, if_neg (nI_pos (show k < 2 ^ 31 by omega)), if_pos (show nI n ≤ 40 from nI_le (b := 40) hn (by omega)), if_neg (nI_pos (show k < 2 ^ 31 by omega)), if_pos (show (0 : Int32) ≤ nI n from nI_le (Nat.zero_le n) (by omega)), if_neg (nI_pos (show k < 2 ^ 31 by omega)), nin_t hi, cond_tt rfl, cond_tt rfl, cond_tt rfl, nI_clamp (show i < 2 ^ 31 by omega), e1]
theorem q_sheet (a k n : Int32) : Stq X 75 187 [vI a, vI k, vI n] := fun s hB => by
  cases c1 : nIn a 4
  · refine q_bad X hB (vI (-2)) (fun d M w t u h => ?_) (fun d M w t u h => ?_)
    · rw [show d + 200 = d + 199 + 1 from rfl, aX6_sheet, cSheet, c1, bnd_s, tl_s, bX6_sheet_4, if_b]
      rfl
    · rw [show d + 200 = d + 199 + 1 from rfl, aX7_sheet, mSheet, c1, bnd_s, tl_s, bX7_sheet_4, if_b]
      rfl
  obtain ⟨i, hi, rfl⟩ := in_ex c1 (by omega)
  by_cases km : k = -1
  · subst km
    refine ⟨vI 1, setH s i (false, 0, 0, fun _ => 0), fun d M w t u h => ?_, fun d M w t u h => ?_, hB.h i (fun q => by cases q)⟩
    · obtain ⟨M2, e1, e2, e3, e4, e5⟩ := cBecS X (d + 198) i (-1) 0 M w t u
      refine ⟨M2, ?_, h.h ⟨fun _ => e2, fun q => by cases q⟩ (fun k a j _ q => e5 k a j q), fun k a j q => e5 k a j (by omega)⟩
      rw [show d + 200 = d + 199 + 1 from rfl, aX6_sheet, cSheet, c1, bnd_s, tl_s, bX6_sheet_4, if_b, cond_tt rfl, if_pos rfl, if_pos rfl, c1, cond_tt rfl, nI_clamp (by omega), e1, bnd_s, tl_n, bX6_sheet_38]
    · refine ⟨nSt (nSt (nSt M 45 0 i 0) 46 0 i (-1)) 47 0 i n, w, t, u, ?_, h.h hB ⟨(nst_fr (by omega)).trans ((nst_fr (by omega)).trans (nst_self _ _ _ _ _)), fun q => by cases q⟩ (fun k a j q1 q2 q3 q4 q5 q6 => (nst_fr (by omega)).trans ((nst_fr (by omega)).trans (nst_fr (by omega)))), fun k a j q => (nst_fr (by omega)).trans ((nst_fr (by omega)).trans (nst_fr (by omega))), by omega, by omega⟩
      rw [show d + 200 = d + 199 + 1 from rfl, aX7_sheet, mSheet, c1, bnd_s, tl_s, bX7_sheet_4, if_b, cond_tt rfl, sX7_in X (d + 198), show decide ((-1 : Int64) ≤ (-1 : Int32).toInt64 ∧ (-1 : Int32).toInt64 ≤ 2) = true by decide, bnd_s, tl_s, bV, bX7_sheet_18, if_b, cond_tt rfl, if_pos (show (-1 : Int32) < 0 by decide), if_pos (show (-1 : Int32) < 0 by decide), if_pos (show (-1 : Int32) < 0 by decide), c1, cond_tt rfl, cond_tt rfl, cond_tt rfl, nI_clamp (by omega), bX7_sheet_77, if_pos (show (-1 : Int32) < 0 by decide)]
      by_cases cn : n ≤ 0
      · rw [if_pos cn]
      · rw [if_neg cn]
  cases c2 : nIn k 3
  · refine q_bad X hB (vI (-2)) (fun d M w t u h => ?_) (fun d M w t u h => ?_)
    · rw [show d + 200 = d + 199 + 1 from rfl, aX6_sheet, cSheet, c1, bnd_s, tl_s, bX6_sheet_4, if_b, cond_tt rfl, if_neg km, cSort, c2, bnd_s, tl_s, bX6_sheet_16, if_b]
      rfl
    · have hin : decide ((-1 : Int64) ≤ k.toInt64 ∧ k.toInt64 ≤ 2) = false := by
        rw [decide_eq_false]
        intro q
        rw [Int64.le_iff_toInt_le, Int64.le_iff_toInt_le, Int32.toInt_toInt64] at q
        have e1 : (-1 : Int64).toInt = -1 := rfl
        have e2 : (2 : Int64).toInt = 2 := rfl
        rw [nIn_eq, decide_eq_false_iff_not] at c2
        have e3 : k.toInt ≠ -1 := fun z => km (Int32.toInt_inj.mp z)
        omega
      rw [show d + 200 = d + 199 + 1 from rfl, aX7_sheet, mSheet, c1, bnd_s, tl_s, bX7_sheet_4, if_b, cond_tt rfl, sX7_in X (d + 198), hin, bnd_s, tl_s, bV, bX7_sheet_18, if_b]
      rfl
  obtain ⟨k, hk, rfl⟩ := in_ex c2 (by omega)
  have hin : decide ((-1 : Int64) ≤ (nI k).toInt64 ∧ (nI k).toInt64 ≤ 2) = true := by
    have : k = 0 ∨ k = 1 ∨ k = 2 := by omega
    rcases this with rfl | rfl | rfl <;> decide
  by_cases n40 : n ≤ 40
  · by_cases n0 : (0 : Int32) ≤ n
    · obtain ⟨x, hx, rfl⟩ := nI_of (x := n) (fun q => by
        rw [Int32.lt_iff_toInt_lt] at q
        rw [Int32.le_iff_toInt_le] at n0
        omega)
      have hx40 : x ≤ 40 := (nI_leI (b := 40) hx (by omega)).mp n40
      refine ⟨vI 1, setH s i (true, k, x, fun _ => 0), fun d M w t u h => ?_, fun d M w t u h => ?_, hB.h i (fun _ => ⟨by show k ≤ 2; omega, hx40⟩)⟩
      · obtain ⟨M2, e1, e2, e3, e4, e5⟩ := cBecS X (d + 198) i (nI k) (nI x) M w t u
        refine ⟨M2, ?_, h.h ⟨fun q => (by cases q), fun _ => ⟨e2, e3, fun j hj => e4 j (Nat.lt_of_lt_of_le hj hx40)⟩⟩ (fun k a j _ q => e5 k a j q), fun k a j q => e5 k a j (by omega)⟩
        rw [show d + 200 = d + 199 + 1 from rfl, aX6_sheet, cSheet, c1, bnd_s, tl_s, bX6_sheet_4, if_b, cond_tt rfl, if_neg km, cSort, c2, bnd_s, tl_s, bX6_sheet_16, if_b, cond_tt rfl, if_neg km, if_pos n40, if_pos n0, c1, cond_tt rfl, nI_clamp (show i < 2 ^ 31 by omega), e1, bnd_s, tl_n, bX6_sheet_67]
      · obtain ⟨M2, e1, e2, e3⟩ := mBecS X (d + 197) hi hk hx40 M w t u
        exact ⟨M2, w, t, u, e1, h.h hB e2 (fun k a j q1 q2 q3 q4 q5 q6 => e3 k a j q5 q6), fun k a j q => e3 k a j (by omega) (by omega), by omega, by omega⟩
    · refine q_bad X hB (vI (-14)) (fun d M w t u h => ?_) (fun d M w t u h => ?_)
      · rw [show d + 200 = d + 199 + 1 from rfl, aX6_sheet, cSheet, c1, bnd_s, tl_s, bX6_sheet_4, if_b, cond_tt rfl, if_neg km, cSort, c2, bnd_s, tl_s, bX6_sheet_16, if_b, cond_tt rfl, if_neg km, if_pos n40, if_neg n0]
      · rw [show d + 200 = d + 199 + 1 from rfl, aX7_sheet, mSheet, c1, bnd_s, tl_s, bX7_sheet_4, if_b, cond_tt rfl, sX7_in X (d + 198), hin, bnd_s, tl_s, bV, bX7_sheet_18, if_b, cond_tt rfl, if_neg (nI_pos (show k < 2 ^ 31 by omega)), if_pos n40, if_neg (nI_pos (show k < 2 ^ 31 by omega)), if_neg n0]
  · refine q_bad X hB (vI (-2)) (fun d M w t u h => ?_) (fun d M w t u h => ?_)
    · rw [show d + 200 = d + 199 + 1 from rfl, aX6_sheet, cSheet, c1, bnd_s, tl_s, bX6_sheet_4, if_b, cond_tt rfl, if_neg km, cSort, c2, bnd_s, tl_s, bX6_sheet_16, if_b, cond_tt rfl, if_neg km, if_neg n40]
    · rw [show d + 200 = d + 199 + 1 from rfl, aX7_sheet, mSheet, c1, bnd_s, tl_s, bX7_sheet_4, if_b, cond_tt rfl, sX7_in X (d + 198), hin, bnd_s, tl_s, bV, bX7_sheet_18, if_b, cond_tt rfl, if_neg (nI_pos (show k < 2 ^ 31 by omega)), if_neg n40]
theorem cMiss (d : Nat) {i : Nat} {g : GH} {M : MM} (w : Int64) (t u : Nat) (h : HC M i g) (hg : g.1 = true → g.2.1 ≤ 2) : callN X (d + 1) 30 [vR 18 i] (M, w, true, true, [], t, u) = some (some (vI (cond g.1 0 1)), (M, w, true, true, [], t, u)) := by
  rw [aX3_isMissing]
  cases c : g.1
  · rw [h.1 c, if_pos rfl]
    rfl
  · have := hg c
    rw [(h.2 c).1, if_neg (fun z => by
      have e1 : (-1 : Int32).toInt = -1 := rfl
      rw [← z, nI_toInt (by omega)] at e1
      omega)]
    rfl
theorem q_cell (a n v : Int32) : Stq X 76 188 [vI a, vI n, vI v] := fun s hB => by
  cases c1 : nIn a 4
  · refine q_bad X hB (vI (-2)) (fun d M w t u h => ?_) (fun d M w t u h => ?_)
    · rw [show d + 200 = d + 199 + 1 from rfl, aX6_cell, cSheet, c1, bnd_s, tl_s, bX6_cell_4, if_b]
      rfl
    · rw [show d + 200 = d + 199 + 1 from rfl, aX7_cell, mSheet, c1, bnd_s, tl_s, bX7_cell_4, if_b]
      rfl
  obtain ⟨i, hi, rfl⟩ := in_ex c1 (by omega)
  have hb := hB.2.2.2.2 i hi
  cases c2 : (sH s i).1
  · refine q_bad X hB (vI (-11)) (fun d M w t u h => ?_) (fun d M w t u h => ?_)
    · rw [show d + 200 = d + 199 + 1 from rfl, aX6_cell, cSheet, c1, bnd_s, tl_s, bX6_cell_4, if_b, cond_tt rfl, c1, cond_tt rfl, nI_clamp (by omega), cMiss X (d + 198) w t u (h.2.2.2.2 i hi) (fun q => (hb q).1), c2, bnd_s, tl_s, bX6_cell_23]
      rfl
    · rw [show d + 200 = d + 199 + 1 from rfl, aX7_cell, mSheet, c1, bnd_s, tl_s, bX7_cell_4, if_b, cond_tt rfl, c1, cond_tt rfl, nI_clamp (by omega), (h.2.2.2.2 i hi).1, c2]
      rfl
  have hb := hb c2
  have hc : ∀ (d : Nat) (M : MM) (w : Int64) (t u : Nat), SC M s → callN X (d + 200) 76 [vR 2 0, vI (nI i), vI n, vI v] (M, w, true, true, [], t, u) = cond (nIn n (sH s i).2.2.1) (nBnd (callN X (d + 199) 34 [vR 18 i, vI n, vI v] (M, w, true, true, [], t, u)) (fun v2 s2 => nR X (callN X (d + 199)) hX6_cell 48 [vR 2 0, vI (nI i), vI n, vI v, vR 18 i] (v2.toList ++ []) s2)) (some (some (vI (-12)), (M, w, true, true, [], t, u))) := by
    intro d M w t u h
    have h9 := (h.2.2.2.2 i hi).2 c2
    rw [show d + 200 = d + 199 + 1 from rfl, aX6_cell, cSheet, c1, bnd_s, tl_s, bX6_cell_4, if_b, cond_tt rfl, c1, cond_tt rfl, nI_clamp (by omega), cMiss X (d + 198) w t u (h.2.2.2.2 i hi) (fun q => hb.1), c2, bnd_s, tl_s, bX6_cell_23, cond_tt rfl, if_pos rfl, show d + 199 = d + 198 + 1 from rfl, aX3_has, h9.2.1, if_in (n := (sH s i).2.2.1) (nI_toInt (by omega)), cond_some, bnd_s, tl_s, bX6_cell_35, if_b]
  have hm : ∀ (d : Nat) (M : MM) (w : Int64) (t u : Nat), SM M s → callN X (d + 200) 188 [vR 30 0, vI (nI i), vI n, vI v] (M, w, true, true, [], t, u) = cond (nIn n (sH s i).2.2.1) (nR X (callN X (d + 199)) hX7_cell 37 [vR 30 0, vI (nI i), vI n, vI v] [vI 1] (M, w, true, true, [], t, u)) (some (some (vI (-12)), (M, w, true, true, [], t, u))) := by
    intro d M w t u h
    have h9 := (h.2.2.2.2 i hi).2 c2
    rw [show d + 200 = d + 199 + 1 from rfl, aX7_cell, mSheet, c1, bnd_s, tl_s, bX7_cell_4, if_b, cond_tt rfl, c1, cond_tt rfl, nI_clamp (by omega), (h.2.2.2.2 i hi).1, c2, cond_tt rfl, if_neg (by decide), cond_tt rfl, h9.2.1, sX7_in X (d + 198), in64m (n := (sH s i).2.2.1) rfl rfl (by omega), bnd_s, tl_s, bV]
    cases c3 : nIn n (sH s i).2.2.1
    · rw [bX7_cell_37]
      rfl
    · rfl
  cases c3 : nIn n (sH s i).2.2.1
  · exact q_bad X hB (vI (-12)) (fun d M w t u h => by rw [hc d M w t u h, c3]; rfl) (fun d M w t u h => by rw [hm d M w t u h, c3]; rfl)
  obtain ⟨x, hx, rfl⟩ := in_ex c3 (by omega)
  have hcase : (sH s i).2.1 = 0 ∨ (sH s i).2.1 = 1 ∨ (sH s i).2.1 = 2 := by omega
  refine ⟨vI 1, setH s i (true, (sH s i).2.1, (sH s i).2.2.1, fun j => if j = x then putV (sH s i).2.1 v else (sH s i).2.2.2 j), fun d M w t u h => ?_, fun d M w t u h => ?_, hB.h i (fun _ => hb)⟩
  · have h9 := (h.2.2.2.2 i hi).2 c2
    refine ⟨nSt M 19 i x (putV (sH s i).2.1 v), ?_, h.h ⟨fun q => (by cases q), fun _ => ⟨(nst_fr (by omega)).trans h9.1, (nst_fr (by omega)).trans h9.2.1, fun j hj => ?_⟩⟩ (fun k a j _ q => nst_o (by omega)), fun k a j q => nst_fr (by omega)⟩
    · rw [hc d M w t u h, c3, cond_tt rfl, show d + 199 = d + 198 + 1 from rfl, aX3_put, h9.1, nin_t (show x < 40 by omega), cond_tt rfl, cond_tt rfl, cond_tt rfl, nI_clamp (by omega)]
      unfold putV
      rcases hcase with e | e | e
      · rw [e, if_pos (by decide), bnd_s, tl_n, bX6_cell_48, if_pos rfl]
      · rw [e, if_neg (by decide), if_pos (by decide), bnd_s, tl_n, bX6_cell_48, if_neg (by omega), if_pos rfl]
      · rw [e, if_neg (by decide), if_neg (by decide), bnd_s, tl_n, bX6_cell_48, if_neg (by omega), if_neg (by omega)]
    · show _ = if j = x then putV (sH s i).2.1 v else (sH s i).2.2.2 j
      by_cases c : j = x
      · rw [c, nst_self, if_pos rfl]
      · rw [nst_j c, if_neg c]
        exact h9.2.2 j hj
  · have h9 := (h.2.2.2.2 i hi).2 c2
    refine ⟨nSt M 48 0 (40 * i + x) (putV (sH s i).2.1 v), w, t, u, ?_, h.h hB ⟨(nst_fr (by omega)).trans ((h.2.2.2.2 i hi).1.trans (by rw [c2])), fun _ => ⟨(nst_fr (by omega)).trans h9.1, (nst_fr (by omega)).trans h9.2.1, fun j hj => ?_⟩⟩ (fun k a j q1 q2 q3 q4 q5 q6 => nst_fr (by omega)), fun k a j q => nst_fr (by omega), by omega, by omega⟩
    · rw [hm d M w t u h, c3, cond_tt rfl, bX7_cell_37, if_neg (by decide), c1, cond_tt rfl, cond_tt rfl, nI_clamp (show i < 2 ^ 31 by omega), h9.1, li40, pk_mul, nI_add, nin_t (show 40 * i + x < 160 by omega), cond_tt rfl, cond_tt rfl, cond_tt rfl, nI_clamp (by omega)]
      unfold putV
      rcases hcase with e | e | e
      · rw [e, if_pos (by decide), if_pos rfl]
      · rw [e, if_neg (by decide), if_pos (by decide), if_neg (by omega), if_pos rfl]
      · rw [e, if_neg (by decide), if_neg (by decide), if_neg (by omega), if_neg (by omega)]
    · show _ = if j = x then putV (sH s i).2.1 v else (sH s i).2.2.2 j
      by_cases c : j = x
      · rw [c, nst_self, if_pos rfl]
      · rw [nst_j (by omega), if_neg c]
        exact h9.2.2 j hj
end
