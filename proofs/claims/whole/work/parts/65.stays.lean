/-! stays, pack -/
def okS (a : Int32) : Bool := nIn a 333334 && okG a.toNatClampNeg 6 0
theorem okS_ex {a : Int32} (h : okS a = true) : ∃ x : Nat, x < 333334 ∧ a = nI x ∧ ∀ k, k < 6 → dD x k ≤ 3 := by
  unfold okS at h
  rw [Bool.and_eq_true] at h
  obtain ⟨x, hx, rfl⟩ := in_ex h.1 (by omega)
  rw [nI_clamp (by omega)] at h
  exact ⟨x, hx, rfl, fun k hk => okG_le 6 0 h.2 k (by omega) (by omega)⟩
theorem wy_lt {x : Nat} (h : ∀ k, k < 6 → dD x k ≤ 3) : wyF x 6 < 4096 := wyF_lt h 6 (Nat.le_refl _)
theorem nw_ne {x : Nat} (h : x < 2 ^ 31) : ¬ nI x = -1 := fun z => by
  have e1 : (-1 : Int32).toInt = -1 := rfl
  rw [← z, nI_toInt h] at e1
  omega
def skH (s : GS) (i k : Nat) (row : Nat → Int32) : GS := setH s i (true, k, 6, row)
def rwF (f : Nat → Nat) (k : Nat) : Nat → Int32 := fun j => if j < k then nI (f j) else 0
theorem rwF_0 (f : Nat → Nat) (j : Nat) : rwF f 0 j = 0 := if_neg (Nat.not_lt_zero j)
theorem rwF_s (f : Nat → Nat) (k : Nat) (g : Nat → Nat) (h : g k = f k) : (fun j => if j = k then nI (g k) else rwF f k j) = rwF f (k + 1) := funext fun j => by
  unfold rwF
  by_cases c : j = k
  · rw [if_pos c, c, if_pos (by omega), h]
  · rw [if_neg c]
    by_cases c2 : j < k
    · rw [if_pos c2, if_pos (by omega)]
    · rw [if_neg c2, if_neg (by omega)]
theorem upH_up (f : Nat → GH) (i : Nat) (a b : GH) : upH (upH f i a) i b = upH f i b := funext fun j => by
  unfold upH
  by_cases c : j = i
  · rw [if_pos c, if_pos c]
  · rw [if_neg c, if_neg c, if_neg c]
theorem setH_set (s : GS) (i : Nat) (a b : GH) : setH (setH s i a) i b = setH s i b := by
  show (s.1, s.2.1, s.2.2.1, s.2.2.2.1, upH (upH (sH s) i a) i b) = (s.1, s.2.1, s.2.2.1, s.2.2.2.1, upH (sH s) i b)
  rw [upH_up]
theorem setH_at (s : GS) (i : Nat) (a : GH) : sH (setH s i a) i = a := if_pos rfl
section
variable (X : Nat × (Nat → Int32))
theorem cByStays (d : Nat) {M : MM} (w : Int64) (t u : Nat) {s : GS} {o x mk : Nat} (h : SC M s) (hB : TB s) (ho : o < 5) (hx : x < 333334) (hd : ∀ k, k < 6 → dD x k ≤ 3) (hm : mk < 6) : ∃ M2, callN X (d + 6) 97 [vR 2 0, vI (nI o), vI (nI x), vI (nI mk)] (M, w, true, true, [], t, u) = some (some (vI (nI (pkN s o (wyF x 6) mk))), (M2, w, true, true, [], t, u)) ∧ fr245 M M2 := by
  have hend : sumN (fun k => dD x k * tkS s o (5 - k) mk) 6 = pkN s o (wyF x 6) mk := by
    show 0 + dD x 0 * tkS s o 5 mk + dD x 1 * tkS s o 4 mk + dD x 2 * tkS s o 3 mk + dD x 3 * tkS s o 2 mk + dD x 4 * tkS s o 1 mk + dD x 5 * tkS s o 0 mk = 0 + dg (wyF x 6) 0 * tkS s o 0 mk + dg (wyF x 6) 1 * tkS s o 1 mk + dg (wyF x 6) 2 * tkS s o 2 mk + dg (wyF x 6) 3 * tkS s o 3 mk + dg (wyF x 6) 4 * tkS s o 4 mk + dg (wyF x 6) 5 * tkS s o 5 mk
    rw [wy_dg hd (show 0 < 6 by omega), wy_dg hd (show 1 < 6 by omega), wy_dg hd (show 2 < 6 by omega), wy_dg hd (show 3 < 6 by omega), wy_dg hd (show 4 < 6 by omega), wy_dg hd (show 5 < 6 by omega)]
    show _ = 0 + dD x 5 * tkS s o 0 mk + dD x 4 * tkS s o 1 mk + dD x 3 * tkS s o 2 mk + dD x 2 * tkS s o 3 mk + dD x 1 * tkS s o 4 mk + dD x 0 * tkS s o 5 mk
    omega
  have loop : ∀ (m i : Nat) (Mi : MM), i + m = 6 → fr245 M Mi → ∃ M2, nR X (callN X (d + 5)) hX6_takesByStays 9 [vR 2 0, vI (nI o), vI (nI x), vI (nI mk), vI (nI (sumN (fun k => dD x k * tkS s o (5 - k) mk) i)), vI (nI (x / 10 ^ i)), vI (5 - nI i)] [] (Mi, w, true, true, [], t, u) = some (some (vI (nI (pkN s o (wyF x 6) mk))), (M2, w, true, true, [], t, u)) ∧ fr245 M M2 := by
    intro m
    induction m with
    | zero =>
      intro i Mi hi hf
      have hi : i = 6 := hi
      subst hi
      rw [bX6_takesByStays_9, if_pos (by decide), hend]
      exact ⟨Mi, rfl, hf⟩
    | succ m ih =>
      intro i Mi hi hf
      have hle := Nat.div_le_self x (10 ^ i)
      obtain ⟨M1, e1, e2⟩ := cTakes X d w true [] t u (o := o) (c := 5 - i) (mk := mk) (h.fr hf.C) hB ho (by omega) hm
      have e5 : (5 : Int32) - nI i = nI (5 - i) := by rw [li5, pk_sub (by omega)]
      have e6 : nI (5 - i) + -1 = 5 - nI (i + 1) := by
        have e1 : i = 0 ∨ i = 1 ∨ i = 2 ∨ i = 3 ∨ i = 4 ∨ i = 5 := by omega
        rcases e1 with rfl | rfl | rfl | rfl | rfl | rfl <;> decide
      rw [e5, bX6_takesByStays_9, if_neg (nI_pos (by omega)), if_neg (by decide), e1, bnd_s]
      show ∃ M2, nR X (callN X (d + 5)) hX6_takesByStays 29 _ [vI (nI (tkS s o (5 - i) mk)), vI (nI (x / 10 ^ i) - nI (x / 10 ^ i) / 10 * 10), vI (nI (sumN (fun k => dD x k * tkS s o (5 - k) mk) i))] _ = _ ∧ _
      rw [bX6_takesByStays_29, if_neg (by decide), li10, pk_rem (by omega) (by omega) (by omega), pk_div (by omega) (by omega) (by omega), pk_mul, nI_add, e6]
      have := ih (i + 1) M1 (by omega) (hf.trans e2)
      rw [Nat.pow_succ, ← Nat.div_div_eq_div_mul] at this
      exact this
  have := loop 6 0 M rfl (fr245.refl M)
  rw [Nat.pow_zero, Nat.div_one] at this
  rw [show d + 6 = d + 5 + 1 from rfl, aX6_takesByStays]
  exact this
theorem q_stays (a x m : Int32) : Stq X 63 166 [vI a, vI x, vI m] := fun s hB => by
  have hP := hB.1.2.2.2.2.2
  have hway : ∀ (d : Nat) (M : MM) (w : Int64) (t u : Nat), callN X (d + 200) 166 [vR 30 0, vI a, vI x, vI m] (M, w, true, true, [], t, u) = nBnd (callN X (d + 199) 115 [vR 30 0, vI a] (M, w, true, true, [], t, u)) (fun v s2 => nR X (callN X (d + 199)) hX7_stays 11 [vR 30 0, vI a, vI x, vI m, vI (cond (okS x) (nI (wyF x.toNatClampNeg 6)) (-1))] (v.toList ++ []) s2) := by
    intro d M w t u
    rw [show d + 200 = d + 199 + 1 from rfl, aX7_stays, mWay X (d + 197), bnd_s, tl_s, bX7_stays_4]
    rfl
  cases c1 : nIn a (gP (sW s))
  · refine q_bad X hB (vI (-2)) (fun d M w t u h => ?_) (fun d M w t u h => ?_)
    · rw [show d + 200 = d + 199 + 1 from rfl, aX6_stays, cHas X (d + 198) a w true [] t u h.1 hP, c1, bnd_s, tl_s, bX6_stays_8, if_b]
      rfl
    · rw [hway, mOne X (d + 197) a w [] t u h.1 hP, c1, bnd_s, tl_s, bX7_stays_11, if_b]
      rfl
  have hc : ∀ (d : Nat) (M : MM) (w : Int64) (t u : Nat), SC M s → callN X (d + 200) 63 [vR 2 0, vI a, vI x, vI m] (M, w, true, true, [], t, u) = cond (okS x) (cond (nIn m 6) (nBnd (callN X (d + 199) 97 [vR 2 0, vI a, vI x, vI m] (M, w, true, true, [], t, u)) (fun v s2 => nR X (callN X (d + 199)) hX6_stays 35 [vR 2 0, vI a, vI x, vI m] (v.toList ++ []) s2)) (some (some (vI (-2)), (M, w, true, true, [], t, u)))) (some (some (vI (-2)), (M, w, true, true, [], t, u))) := by
    intro d M w t u h
    rw [show d + 200 = d + 199 + 1 from rfl, aX6_stays, cHas X (d + 198) a w true [] t u h.1 hP, c1, bnd_s, tl_s, bX6_stays_8, if_b, cond_tt rfl, cAreSt X (d + 198), bnd_s, tl_s, bX6_stays_15, if_b, cMark, bnd_s, tl_s, bX6_stays_22, if_b]
    rfl
  cases c2 : okS x
  · refine q_bad X hB (vI (-2)) (fun d M w t u h => by rw [hc d M w t u h, c2]; rfl) (fun d M w t u h => ?_)
    rw [hway, c2, mOne X (d + 197) a w [] t u h.1 hP, c1, bnd_s, tl_s, bX7_stays_11, if_b, cond_tt rfl]
    rfl
  obtain ⟨x, hx, rfl, hd⟩ := okS_ex c2
  have hwl := wy_lt hd
  have hm : ∀ (d : Nat) (M : MM) (w : Int64) (t u : Nat), SM M s → callN X (d + 200) 166 [vR 30 0, vI a, vI (nI x), vI m] (M, w, true, true, [], t, u) = cond (nIn m 6) (nBnd (callN X (d + 199) 161 [vR 30 0, vI a] (M, w, true, true, [], t, u)) (fun v s2 => nR X (callN X (d + 199)) hX7_stays 35 [vR 30 0, vI a, vI (nI x), vI m, vI (nI (wyF x 6))] (v.toList ++ []) s2)) (some (some (vI (-2)), (M, w, true, true, [], t, u))) := by
    intro d M w t u h
    rw [hway, c2, cond_tt rfl, nI_clamp (by omega), mOne X (d + 197) a w [] t u h.1 hP, c1, bnd_s, tl_s, bX7_stays_11, if_b, cond_tt rfl, if_neg (nw_ne (by omega)), mMark, bnd_s, tl_s, bX7_stays_24, if_b]
  cases c3 : nIn m 6
  · exact q_bad X hB (vI (-2)) (fun d M w t u h => by rw [hc d M w t u h, c2, c3]; rfl) (fun d M w t u h => by rw [hm d M w t u h, c3]; rfl)
  obtain ⟨o, ho, rfl⟩ := in_ex c1 (by omega)
  obtain ⟨m, hm6, rfl⟩ := in_ex c3 (by omega)
  refine ⟨vI (nI (pkN s o (wyF x 6) m)), s, CSp.t X (fun d M w t u h => ?_), MSp.q X (fun d M w t u h => ?_), hB⟩
  · obtain ⟨M2, e1, e2⟩ := cByStays X (d + 193) w t u h hB.1 (show o < 5 by omega) hx hd hm6
    refine ⟨M2, ?_, e2⟩
    rw [hc d M w t u h, c2, c3, cond_tt rfl, cond_tt rfl, e1, bnd_s, tl_s, bX6_stays_35]
  · obtain ⟨M2, w2, e1, e2, e3⟩ := mTables X (d + 144) w t u h hB.1 ho
    refine ⟨M2, w2, t, u, ?_, e3.M, fun k i j q => e3 k i j (by omega) (by omega), by omega, by omega⟩
    rw [hm d M w t u h, c3, cond_tt rfl, e1, bnd_s, tl_n, bX7_stays_35, mPacked X (d + 197) w2 t u e2 hwl hm6, bnd_s, tl_s, bX7_stays_42]
theorem q_pack (i a x : Int32) : Stq X 64 167 [vI i, vI a, vI x] := fun s hB => by
  have hP := hB.1.2.2.2.2.2
  have hway : ∀ (d : Nat) (M : MM) (w : Int64) (t u : Nat), callN X (d + 200) 167 [vR 30 0, vI i, vI a, vI x] (M, w, true, true, [], t, u) = nBnd (callN X (d + 199) 186 [vI i] (M, w, true, true, [], t, u)) (fun v s2 => nR X (callN X (d + 199)) hX7_pack 10 [vR 30 0, vI i, vI a, vI x, vI (cond (okS x) (nI (wyF x.toNatClampNeg 6)) (-1)), vX, vX] (v.toList ++ []) s2) := by
    intro d M w t u
    rw [show d + 200 = d + 199 + 1 from rfl, aX7_pack, mWay X (d + 197), bnd_s, tl_s, bX7_pack_4]
    rfl
  cases c0 : nIn i 4
  · refine q_bad X hB (vI (-2)) (fun d M w t u h => ?_) (fun d M w t u h => ?_)
    · rw [show d + 200 = d + 199 + 1 from rfl, aX6_pack, cSheet, c0, bnd_s, tl_s, bX6_pack_4, if_b]
      rfl
    · rw [hway, mSheet, c0, bnd_s, tl_s, bX7_pack_10, if_b]
      rfl
  cases c1 : nIn a (gP (sW s))
  · refine q_bad X hB (vI (-2)) (fun d M w t u h => ?_) (fun d M w t u h => ?_)
    · rw [show d + 200 = d + 199 + 1 from rfl, aX6_pack, cSheet, c0, bnd_s, tl_s, bX6_pack_4, if_b, cond_tt rfl, cHas X (d + 198) a w true [] t u h.1 hP, c1, bnd_s, tl_s, bX6_pack_15, if_b]
      rfl
    · rw [hway, mSheet, c0, bnd_s, tl_s, bX7_pack_10, if_b, cond_tt rfl, mOne X (d + 197) a w [] t u h.1 hP, c1, bnd_s, tl_s, bX7_pack_18, if_b]
      rfl
  cases c2 : okS x
  · refine q_bad X hB (vI (-2)) (fun d M w t u h => ?_) (fun d M w t u h => ?_)
    · rw [show d + 200 = d + 199 + 1 from rfl, aX6_pack, cSheet, c0, bnd_s, tl_s, bX6_pack_4, if_b, cond_tt rfl, cHas X (d + 198) a w true [] t u h.1 hP, c1, bnd_s, tl_s, bX6_pack_15, if_b, cond_tt rfl, cAreSt X (d + 198), bnd_s, tl_s, bX6_pack_22, if_b]
      show cond (okS x) _ _ = _
      rw [c2]
      rfl
    · rw [hway, c2, mSheet, c0, bnd_s, tl_s, bX7_pack_10, if_b, cond_tt rfl, mOne X (d + 197) a w [] t u h.1 hP, c1, bnd_s, tl_s, bX7_pack_18, if_b, cond_tt rfl]
      rfl
  obtain ⟨x, hx, rfl, hd⟩ := okS_ex c2
  have hwl := wy_lt hd
  obtain ⟨i, hi, rfl⟩ := in_ex c0 (by omega)
  obtain ⟨o, ho, rfl⟩ := in_ex c1 (by omega)
  have ho5 : o < 5 := by omega
  refine ⟨vI (nI (sumN (fun k => pkN s o (wyF x 6) k) 6)), setH s i (true, 2, 6, rwF (fun k => pkN s o (wyF x 6) k) 6), fun d M w t u h => ?_, fun d M w t u h => ?_, hB.h i (fun _ => ⟨Nat.le_refl _, by show 6 ≤ 40; omega⟩)⟩
  · have loop : ∀ (m k : Nat) (Mi : MM), k + m = 6 → SC Mi (setH s i (true, 2, 6, rwF (fun k => pkN s o (wyF x 6) k) k)) → (∀ k i j, 30 ≤ k → Mi k i j = M k i j) → ∃ M2, nR X (callN X (d + 199)) hX6_pack 47 [vR 2 0, vI (nI i), vI (nI o), vI (nI x), vR 18 i, vI (nI k)] [] (Mi, w, true, true, [], t, u) = some (some (vI (nI (sumN (fun k => pkN s o (wyF x 6) k) 6))), (M2, w, true, true, [], t, u)) ∧ SC M2 (setH s i (true, 2, 6, rwF (fun k => pkN s o (wyF x 6) k) 6)) ∧ ∀ k i j, 30 ≤ k → M2 k i j = M k i j := by
      intro m
      induction m with
      | zero =>
        intro k Mi hk hS hf
        have hk : k = 6 := hk
        subst hk
        refine ⟨Mi, ?_, hS, hf⟩
        have h9 := hS.2.2.2.2 i hi
        rw [setH_at] at h9
        have h9 := h9.2 rfl
        have h91 : Mi 18 i 1 = nI 6 := h9.2.1
        have hsum := sX6_sum19 X (d + 197) i (M := Mi) w true [] t u (f := 0) (n := 6) (by omega)
        have hsum : callN X (d + 198) 109 [vR 19 i, vI 0, vI (nI 6)] (Mi, w, true, true, [], t, u) = _ := hsum
        rw [bX6_pack_47, if_pos (by decide), show d + 199 = d + 198 + 1 from rfl, aX3_all, h91, hsum, bnd_s, tl_s, bX3_all_12, bnd_s, tl_s, bX6_pack_80, sumI_nI (h := fun k => pkN s o (wyF x 6) k) 6 (fun j hj => by
          rw [Nat.zero_add]
          refine (h9.2.2 j hj).trans ?_
          show rwF _ 6 j = _
          unfold rwF
          rw [if_pos hj])]
      | succ m ih =>
        intro k Mi hk hS hf
        obtain ⟨M1, e1, e2⟩ := cByStays X (d + 193) w t u (mk := k) hS hB.1 ho5 hx hd (by omega)
        have e1 : callN X (d + 199) 97 [vR 2 0, vI (nI o), vI (nI x), vI (nI k)] (Mi, w, true, true, [], t, u) = some (some (vI (nI (pkN s o (wyF x 6) k))), (M1, w, true, true, [], t, u)) := e1
        have hS1 := hS.fr e2.C
        have h9 := hS1.2.2.2.2 i hi
        rw [setH_at] at h9
        have h9 := h9.2 rfl
        have h90 : M1 18 i 0 = nI 2 := h9.1
        rw [bX6_pack_47, li6, if_neg (nI_ge (by omega) (by omega)), e1, bnd_s]
        show ∃ M2, nR X (callN X (d + 199)) hX6_pack 66 _ [vI (nI (pkN s o (wyF x 6) k)), vI (nI k), vR 18 i] _ = _ ∧ _
        rw [bX6_pack_66, show callN X (d + 199) 34 = callN X (d + 198 + 1) 34 from rfl, aX3_put, h90, if_neg (by decide), if_neg (by decide), nin_t (show k < 40 by omega), cond_tt rfl, nI_clamp (by omega), bnd_s, tl_n, bX6_pack_69, nI_1]
        refine ih (k + 1) _ (by omega) ?_ (fun a b j q => (nst_fr (by omega)).trans ((e2 a b j (by omega) (by omega)).trans (hf a b j q)))
        have hS2 := hS1.h (M' := nSt M1 19 i k (nI (pkN s o (wyF x 6) k))) (i := i) (g := (true, 2, 6, rwF (fun k => pkN s o (wyF x 6) k) (k + 1))) ⟨fun q => (by cases q), fun _ => ⟨(nst_fr (by omega)).trans h9.1, (nst_fr (by omega)).trans h9.2.1, fun j hj => ?_⟩⟩ (fun a b j _ q => nst_o (by omega))
        · rw [setH_set] at hS2
          exact hS2
        · have h92 : ∀ j, j < 6 → M1 19 i j = rwF (fun k => pkN s o (wyF x 6) k) k j := h9.2.2
          show nSt M1 19 i k (nI (pkN s o (wyF x 6) k)) 19 i j = rwF (fun k => pkN s o (wyF x 6) k) (k + 1) j
          rw [← rwF_s (fun k => pkN s o (wyF x 6) k) k (fun k => pkN s o (wyF x 6) k) rfl]
          show _ = if j = k then _ else _
          by_cases cj : j = k
          · rw [cj, nst_self, if_pos rfl]
          · rw [nst_j cj, if_neg cj]
            exact h92 j hj
    obtain ⟨M1, e1, e2, e3, e4, e5⟩ := cBecS X (d + 198) i 2 6 M w t u
    have hS1 : SC M1 (setH s i (true, 2, 6, rwF (fun k => pkN s o (wyF x 6) k) 0)) := h.h ⟨fun q => (by cases q), fun _ => ⟨e2, e3, fun j hj => (e4 j (Nat.lt_of_lt_of_le hj (by show 6 ≤ 40; omega))).trans (rwF_0 (fun k => pkN s o (wyF x 6) k) j).symm⟩⟩ (fun k a j _ q => e5 k a j q)
    obtain ⟨M2, f1, f2, f3⟩ := loop 6 0 M1 rfl hS1 (fun k i2 j q => e5 k i2 j (by omega))
    refine ⟨M2, ?_, f2, f3⟩
    have f1 : nR X (callN X (d + 199)) hX6_pack 47 [vR 2 0, vI (nI i), vI (nI o), vI (nI x), vR 18 i, vI 0] [] (M1, w, true, true, [], t, u) = _ := f1
    rw [show d + 200 = d + 199 + 1 from rfl, aX6_pack, cSheet, c0, bnd_s, tl_s, bX6_pack_4, if_b, cond_tt rfl, cHas X (d + 198) (nI o) w true [] t u h.1 hP, c1, bnd_s, tl_s, bX6_pack_15, if_b, cond_tt rfl, cAreSt X (d + 198), bnd_s, tl_s, bX6_pack_22, if_b]
    show cond (okS (nI x)) _ _ = _
    rw [c2, cond_tt rfl, c0, cond_tt rfl, nI_clamp (show i < 2 ^ 31 by omega), e1, bnd_s, tl_n, bX6_pack_44]
    exact f1
  · obtain ⟨M1, w1, e1, e2, e3⟩ := mTables X (d + 144) w t u h hB.1 ho
    have hS1 := h.fr e3.M
    obtain ⟨M2, f1, f2, f3⟩ := mBecS X (d + 196) (i := i) (k := 2) (n := 6) hi (by omega) (by omega) M1 w1 t u
    have f1 : callN X (d + 199) 187 [vR 30 0, vI (nI i), vI 2, vI 6] (M1, w1, true, true, [], t, u) = _ := f1
    have loop : ∀ (m k : Nat) (Mi : MM), k + m = 6 → TkM Mi s o → HM Mi i (true, 2, 6, rwF (fun k => pkN s o (wyF x 6) k) k) → (∀ a b j, ¬ (45 ≤ a ∧ a ≤ 47 ∧ j = i) → ¬ (a = 48 ∧ 40 * i ≤ j ∧ j < 40 * i + 40) → Mi a b j = M1 a b j) → ∃ M2, nR X (callN X (d + 199)) hX7_pack 50 [vR 30 0, vI (nI i), vI (nI o), vI (nI x), vI (nI (wyF x 6)), vI (nI (sumN (fun k => pkN s o (wyF x 6) k) k)), vI (nI k)] [] (Mi, w1, true, true, [], t, u) = some (some (vI (nI (sumN (fun k => pkN s o (wyF x 6) k) 6))), (M2, w1, true, true, [], t, u)) ∧ HM M2 i (true, 2, 6, rwF (fun k => pkN s o (wyF x 6) k) 6) ∧ ∀ a b j, ¬ (45 ≤ a ∧ a ≤ 47 ∧ j = i) → ¬ (a = 48 ∧ 40 * i ≤ j ∧ j < 40 * i + 40) → M2 a b j = M1 a b j := by
      intro m
      induction m with
      | zero =>
        intro k Mi hk hT hH hf
        have hk : k = 6 := hk
        subst hk
        rw [bX7_pack_50, if_pos (by decide)]
        exact ⟨Mi, rfl, hH, hf⟩
      | succ m ih =>
        intro k Mi hk hT hH hf
        have hT2 : TkM (nSt Mi 48 0 (40 * i + k) (nI (pkN s o (wyF x 6) k))) s o := fun c mk h1 h2 => (nst_fr (by omega)).trans (hT c mk h1 h2)
        rw [bX7_pack_50, li6, if_neg (nI_ge (by omega) (by omega)), mPacked X (d + 197) w1 t u hT hwl (show k < 6 by omega), bnd_s]
        show ∃ M2, nR X (callN X (d + 199)) hX7_pack 76 _ [vI (nI (pkN s o (wyF x 6) k)), vI (40 * nI i + nI k), vR 48 0] _ = _ ∧ _
        rw [bX7_pack_76, li40, pk_mul, nI_add, nin_t (show 40 * i + k < 160 by omega), cond_tt rfl, nI_clamp (by omega), mPacked X (d + 197) w1 t u hT2 hwl (show k < 6 by omega), bnd_s]
        show ∃ M2, nR X (callN X (d + 199)) hX7_pack 87 _ [vI (nI (pkN s o (wyF x 6) k)), vI (nI (sumN (fun k => pkN s o (wyF x 6) k) k))] _ = _ ∧ _
        rw [bX7_pack_87, nI_add, nI_1]
        refine ih (k + 1) _ (by omega) hT2 ⟨(nst_fr (by omega)).trans hH.1, fun _ => ⟨(nst_fr (by omega)).trans (hH.2 rfl).1, (nst_fr (by omega)).trans (hH.2 rfl).2.1, fun j hj => ?_⟩⟩ (fun a b j q q2 => (nst_fr (by omega)).trans (hf a b j q q2))
        have h92 : ∀ j, j < 6 → Mi 48 0 (40 * i + j) = rwF (fun k => pkN s o (wyF x 6) k) k j := (hH.2 rfl).2.2
        show nSt Mi 48 0 (40 * i + k) (nI (pkN s o (wyF x 6) k)) 48 0 (40 * i + j) = rwF (fun k => pkN s o (wyF x 6) k) (k + 1) j
        rw [← rwF_s (fun k => pkN s o (wyF x 6) k) k (fun k => pkN s o (wyF x 6) k) rfl]
        show _ = if j = k then _ else _
        by_cases cj : j = k
        · rw [cj, nst_self, if_pos rfl]
        · rw [nst_j (by omega), if_neg cj]
          exact h92 j hj
    have hT2 : TkM M2 s o := fun c mk h1 h2 => (f3 39 0 _ (by omega) (by omega)).trans (e2 c mk h1 h2)
    obtain ⟨M3, g1, g2, g3⟩ := loop 6 0 M2 rfl hT2 ⟨f2.1, fun _ => ⟨(f2.2 rfl).1, (f2.2 rfl).2.1, fun j hj => ((f2.2 rfl).2.2 j hj).trans (rwF_0 (fun k => pkN s o (wyF x 6) k) j).symm⟩⟩ f3
    refine ⟨M3, w1, t, u, ?_, hS1.h hB g2 (fun k a j q1 q2 q3 q4 q5 q6 => g3 k a j q5 q6), fun k a j q => (g3 k a j (by omega) (by omega)).trans (e3 k a j (by omega) (by omega)), by omega, by omega⟩
    have g1 : nR X (callN X (d + 199)) hX7_pack 50 [vR 30 0, vI (nI i), vI (nI o), vI (nI x), vI (nI (wyF x 6)), vI 0, vI 0] [] (M2, w1, true, true, [], t, u) = _ := g1
    rw [hway, c2, cond_tt rfl, nI_clamp (by omega), mSheet, c0, bnd_s, tl_s, bX7_pack_10, if_b, cond_tt rfl, mOne X (d + 197) (nI o) w [] t u h.1 hP, c1, bnd_s, tl_s, bX7_pack_18, if_b, cond_tt rfl, if_neg (nw_ne (by omega)), e1, bnd_s, tl_n, bX7_pack_35, f1, bnd_s, tl_s, bX7_pack_43]
    exact g1
end
