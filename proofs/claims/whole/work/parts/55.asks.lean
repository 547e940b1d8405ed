/-! asks, force, feed, taken, person -/
theorem cond_ff {α : Type} {b : Bool} {A B : α} (h : b = false) : cond b A B = B := by rw [h]; rfl
theorem cond_tt {α : Type} {b : Bool} {A B : α} (h : b = true) : cond b A B = A := by rw [h]; rfl
section
variable (X : Nat × (Nat → Int32))
theorem q_bad {y ym : Nat} {as : List AV} {s : GS} (hB : SB s) (v : AV) (h1 : ∀ (d : Nat) (M : MM) (w : Int64) (t u : Nat), SC M s → callN X (d + 200) y (vR 2 0 :: as) (M, w, true, true, [], t, u) = some (some v, (M, w, true, true, [], t, u))) (h2 : ∀ (d : Nat) (M : MM) (w : Int64) (t u : Nat), SM M s → callN X (d + 200) ym (vR 30 0 :: as) (M, w, true, true, [], t, u) = some (some v, (M, w, true, true, [], t, u))) : ∃ (v2 : AV) (s2 : GS), CSp X y as v2 s s2 ∧ MSp X ym as v2 s s2 ∧ SB s2 := ⟨v, s, CSp.n X h1, MSp.n X h2, hB⟩
theorem q_asks (a m k : Int32) : Stq X 54 150 [vI a, vI m, vI k] := fun s hB => by
  have hP := hB.1.2.2.2.2.2
  cases c1 : nIn a (gP (sW s))
  · refine q_bad X hB (vI (-2)) (fun d M w t u h => ?_) (fun d M w t u h => ?_)
    · rw [show d + 200 = d + 199 + 1 from rfl, aX6_asks, cHas X (d + 198) a w true [] t u h.1 hP, c1, bnd_s, tl_s, bX6_asks_8, if_b]
      rfl
    · rw [show d + 200 = d + 199 + 1 from rfl, aX7_asks, mOne X (d + 197) a w [] t u h.1 hP, c1, bnd_s, tl_s, bX7_asks_5, if_b]
      rfl
  cases c2 : nIn m 6
  · refine q_bad X hB (vI (-2)) (fun d M w t u h => ?_) (fun d M w t u h => ?_)
    · rw [show d + 200 = d + 199 + 1 from rfl, aX6_asks, cHas X (d + 198) a w true [] t u h.1 hP, c1, bnd_s, tl_s, bX6_asks_8, if_b, cond_tt rfl, cMark, c2, bnd_s, tl_s, bX6_asks_15, if_b]
      rfl
    · rw [show d + 200 = d + 199 + 1 from rfl, aX7_asks, mOne X (d + 197) a w [] t u h.1 hP, c1, bnd_s, tl_s, bX7_asks_5, if_b, cond_tt rfl, mMark, c2, bnd_s, tl_s, bX7_asks_12, if_b]
      rfl
  cases c3 : nIn k 8
  · refine q_bad X hB (vI (-2)) (fun d M w t u h => ?_) (fun d M w t u h => ?_)
    · rw [show d + 200 = d + 199 + 1 from rfl, aX6_asks, cHas X (d + 198) a w true [] t u h.1 hP, c1, bnd_s, tl_s, bX6_asks_8, if_b, cond_tt rfl, cMark, c2, bnd_s, tl_s, bX6_asks_15, if_b, cond_tt rfl, if_in2 (n := 8) rfl, c3]
      rfl
    · rw [show d + 200 = d + 199 + 1 from rfl, aX7_asks, mOne X (d + 197) a w [] t u h.1 hP, c1, bnd_s, tl_s, bX7_asks_5, if_b, cond_tt rfl, mMark, c2, bnd_s, tl_s, bX7_asks_12, if_b, cond_tt rfl, mIn X (d + 198) k (n := 8) rfl, c3, bnd_s, tl_s, bX7_asks_24, if_b]
      rfl
  have hc : ∀ (d : Nat) (M : MM) (w : Int64) (t u : Nat), SC M s → callN X (d + 200) 54 [vR 2 0, vI a, vI m, vI k] (M, w, true, true, [], t, u) = if k = 6 then nBnd (callN X (d + 199) 93 [vR 2 0, vI a, vI m] (M, w, true, true, [], t, u)) (fun v s2 => nR X (callN X (d + 199)) hX6_asks 43 [vR 2 0, vI a, vI m, vI k] (v.toList ++ []) s2) else if k = 7 then nBnd (callN X (d + 199) 94 [vR 2 0, vI a, vI a, vI m] (M, w, true, true, [], t, u)) (fun v s2 => nR X (callN X (d + 199)) hX6_asks 57 [vR 2 0, vI a, vI m, vI k] (v.toList ++ []) s2) else nBnd (callN X (d + 199) 92 [vR 2 0, vI a, vI k, vI m] (M, w, true, true, [], t, u)) (fun v s2 => nR X (callN X (d + 199)) hX6_asks 67 [vR 2 0, vI a, vI m, vI k] (v.toList ++ []) s2) := by
    intro d M w t u h
    rw [show d + 200 = d + 199 + 1 from rfl, aX6_asks, cHas X (d + 198) a w true [] t u h.1 hP, c1, bnd_s, tl_s, bX6_asks_8, if_b, cond_tt rfl, cMark, c2, bnd_s, tl_s, bX6_asks_15, if_b, cond_tt rfl, if_in2 (n := 8) rfl, c3, cond_tt rfl]
  have hm : ∀ (d : Nat) (M : MM) (w : Int64) (t u : Nat), SM M s → callN X (d + 200) 150 [vR 30 0, vI a, vI m, vI k] (M, w, true, true, [], t, u) = if 6 ≤ k then if k = 6 then nBnd (callN X (d + 199) 148 [vR 30 0, vI a, vI m] (M, w, true, true, [], t, u)) (fun v s2 => nR X (callN X (d + 199)) hX7_asks 58 [vR 30 0, vI a, vI m, vI k] (v.toList ++ []) s2) else nBnd (callN X (d + 199) 149 [vR 30 0, vI a, vI m, vI a] (M, w, true, true, [], t, u)) (fun v s2 => nR X (callN X (d + 199)) hX7_asks 68 [vR 30 0, vI a, vI m, vI k] (v.toList ++ []) s2) else nBnd (callN X (d + 199) 147 [vR 30 0, vI a, vI m, vI k] (M, w, true, true, [], t, u)) (fun v s2 => nR X (callN X (d + 199)) hX7_asks 43 [vR 30 0, vI a, vI m, vI k] (v.toList ++ []) s2) := by
    intro d M w t u h
    rw [show d + 200 = d + 199 + 1 from rfl, aX7_asks, mOne X (d + 197) a w [] t u h.1 hP, c1, bnd_s, tl_s, bX7_asks_5, if_b, cond_tt rfl, mMark, c2, bnd_s, tl_s, bX7_asks_12, if_b, cond_tt rfl, mIn X (d + 198) k (n := 8) rfl, c3, bnd_s, tl_s, bX7_asks_24, if_b, cond_tt rfl]
  obtain ⟨o, ho, rfl⟩ := in_ex c1 (by omega)
  obtain ⟨mk, hmk, rfl⟩ := in_ex c2 (by omega)
  obtain ⟨k, hk, rfl⟩ := in_ex c3 (by omega)
  rw [li6, li7] at hc
  rw [li6] at hm
  simp (disch := omega) only [nI_eq, nI_leI] at hc hm
  by_cases k6 : k = 6
  · refine ⟨vI (nI (kpS s o mk)), s, CSp.t X (fun d M w t u h => ?_), MSp.t X (fun d M w t u h => ?_), hB⟩
    · obtain ⟨M2, e1, e2⟩ := cKeeps X (d + 195) w true [] t u h hB.1 hB.2.1.2.2.2.1 (show o < 5 by omega) hmk
      refine ⟨M2, ?_, e2⟩
      rw [hc d M w t u h, if_pos k6, e1, bnd_s, tl_s, bX6_asks_43]
    · obtain ⟨M2, w2, e1, e2⟩ := mKeeps X (d + 145) w [] t u h hB.1 hB.2.1.2.2.2.1 ho hmk
      refine ⟨M2, w2, ?_, e2⟩
      rw [hm d M w t u h, if_pos (by omega), if_pos k6, e1, bnd_s, tl_s, bX7_asks_58, bX7_asks_68]
  by_cases k7 : k = 7
  · refine ⟨vI (nI (suS s o o mk)), s, CSp.t X (fun d M w t u h => ?_), MSp.t X (fun d M w t u h => ?_), hB⟩
    · obtain ⟨M2, e1, e2⟩ := cSure X (d + 195) w true [] t u h hB.1 (show o < 5 by omega) (show o < 5 by omega) hmk
      refine ⟨M2, ?_, e2⟩
      rw [hc d M w t u h, if_neg k6, if_pos k7, e1, bnd_s, tl_s, bX6_asks_57, bX6_asks_67]
    · obtain ⟨M2, w2, e1, e2⟩ := mSure X (d + 145) w [] t u h hB.1 ho (show o < 5 by omega) hmk
      refine ⟨M2, w2, ?_, e2⟩
      rw [hm d M w t u h, if_pos (by omega), if_neg k6, e1, bnd_s, tl_s, bX7_asks_68]
  · refine ⟨vI (nI (tkS s o k mk)), s, CSp.t X (fun d M w t u h => ?_), MSp.t X (fun d M w t u h => ?_), hB⟩
    · obtain ⟨M2, e1, e2⟩ := cTakes X (d + 194) w true [] t u h hB.1 (show o < 5 by omega) (show k < 6 by omega) hmk
      refine ⟨M2, ?_, e2⟩
      rw [hc d M w t u h, if_neg k6, if_neg k7, e1, bnd_s, tl_s, bX6_asks_67]
    · obtain ⟨M2, w2, e1, e2⟩ := mTakes X (d + 145) w [] t u h hB.1 ho (show k < 6 by omega) hmk
      refine ⟨M2, w2, ?_, e2⟩
      rw [hm d M w t u h, if_neg (by omega), e1, bnd_s, tl_s, bX7_asks_43, bX7_asks_68]
theorem q_force (a : Int32) : Stq X 57 145 [vI a] := fun s hB => by
  have hN : sN s ≤ 6 := hB.1.2.1
  have h1 : ∀ (d : Nat) (M : MM) (w : Int64) (t u : Nat), SC M s → callN X (d + 200) 57 [vR 2 0, vI a] (M, w, true, true, [], t, u) = cond (nIn a (sN s)) (some (some (vI (nI (gR (sW s)))), (nSt M 3 0 1 a, w, true, true, [], t, u))) (some (some (vI (-2)), (M, w, true, true, [], t, u))) := by
    intro d M w t u h
    rw [show d + 200 = d + 199 + 1 from rfl, aX6_force, h.2.2.2.1.1, if_in3 (n := sN s) (nI_toInt (by omega)), h.1.2.1]
  have h2 : ∀ (d : Nat) (M : MM) (w : Int64) (t u : Nat), SM M s → callN X (d + 200) 145 [vR 30 0, vI a] (M, w, true, true, [], t, u) = cond (nIn a (sN s)) (some (some (vI (nI (gR (sW s)))), (nSt M 30 0 4 a, w, true, true, [], t, u))) (some (some (vI (-2)), (M, w, true, true, [], t, u))) := by
    intro d M w t u h
    have h0 : 0 < sN s := Nat.lt_of_le_of_lt (Nat.zero_le _) hB.1.1
    rw [show d + 200 = d + 199 + 1 from rfl, aX7_force, h.2.2.2.1.1, mIn X (d + 198) a (n := sN s) (by
      rw [Int32.toInt_toInt64, show sN s = (sN s - 1) + 1 by omega, nI_pred, nI_toInt (by omega)]
      omega), bnd_s, tl_s, bX7_force_13, if_b, h.1.2.1]
  cases c : nIn a (sN s)
  · exact q_bad X hB (vI (-2)) (fun d M w t u h => by rw [h1 d M w t u h, c]; rfl) (fun d M w t u h => by rw [h2 d M w t u h, c]; rfl)
  rw [c] at h1 h2
  obtain ⟨x, hx, rfl⟩ := in_ex c (by omega)
  obtain ⟨b1, b2, b3, b4, b5, b6, b7⟩ := hB.2.1
  refine ⟨vI (nI (gR (sW s))), ((gP (sW s), gD (sW s), x, gCo (sW s), gSh (sW s), gKd (sW s), gNu (sW s), gOu (sW s)), s.2), fun d M w t u h => ⟨_, h1 d M w t u h, h.w (h.1.rule x) (fun k i j _ q => if_neg (by omega)), fun k i j q => nst_fr (by omega)⟩, fun d M w t u h => ⟨_, w, t, u, h2 d M w t u h, h.w (h.1.rule x) (fun k i j q1 q2 q3 q4 => nst_fr (by omega)), fun k i j q => nst_fr (by omega), by omega, by omega⟩, ?_⟩
  exact hB.w0 ⟨b1, b2, b3, b4, b5, b6, b7⟩ hx rfl rfl
theorem q_feed (a : Int32) : Stq X 55 127 [vI a] := fun s hB => by
  obtain ⟨hn, hb⟩ := hB.2.2.2.1
  cases c : nIn a 256
  · refine q_bad X hB (vI (-2)) (fun d M w t u h => ?_) (fun d M w t u h => ?_)
    · rw [show d + 200 = d + 199 + 1 from rfl, aX6_feed, if_in2 (n := 256) rfl, c]
      rfl
    · rw [show d + 200 = d + 199 + 1 from rfl, aX7_feed, mIn X (d + 198) a (n := 256) rfl, c, bnd_s, tl_s, bX7_feed_9, if_b]
      rfl
  by_cases hf : (sT s).2 = 160
  · refine q_bad X hB (vI (-4)) (fun d M w t u h => ?_) (fun d M w t u h => ?_)
    · rw [show d + 200 = d + 199 + 1 from rfl, aX6_feed, if_in2 (n := 256) rfl, c, cond_tt rfl, show d + 199 = d + 198 + 1 from rfl, aX2_add, h.2.2.1.1, hf, if_neg (by decide), bnd_s, tl_s, bX6_feed_22]
    · rw [show d + 200 = d + 199 + 1 from rfl, aX7_feed, mIn X (d + 198) a (n := 256) rfl, c, bnd_s, tl_s, bX7_feed_9, if_b, cond_tt rfl, h.2.2.1.1, hf, if_pos (by decide)]
  obtain ⟨x, hx, rfl⟩ := in_ex c (by omega)
  refine ⟨vI (nI ((sT s).2 + 1)), (s.1, s.2.1, (upF (sT s).1 (sT s).2 x, (sT s).2 + 1), s.2.2.2), fun d M w t u h => ⟨nSt (nSt M 10 0 (sT s).2 (nI x)) 9 0 1 (nI ((sT s).2 + 1)), ?_, ⟨h.1.fr (fun k i j _ _ => (nst_fr (by omega)).trans (nst_fr (by omega))), h.2.1.fr (fun k i j _ => (nst_fr (by omega)).trans (nst_fr (by omega))), ⟨nst_self _ _ _ _ _, fun j hj => ?_⟩, h.2.2.2.1.fr (fun k i j _ => (nst_fr (by omega)).trans (nst_fr (by omega))), fun i hi => (h.2.2.2.2 i hi).fr (fun k i j _ => (nst_fr (by omega)).trans (nst_fr (by omega)))⟩, fun k i j q => (nst_fr (by omega)).trans (nst_fr (by omega))⟩, fun d M w t u h => ⟨nSt (nSt M 33 0 (sT s).2 (nI x)) 30 0 6 (nI ((sT s).2 + 1)), w, t, u, ?_, ⟨h.1.fr (fun k i j _ => (nst_fr (by omega)).trans (nst_fr (by omega))), h.2.1.fr (fun k i j _ => (nst_fr (by omega)).trans (nst_fr (by omega))), ⟨nst_self _ _ _ _ _, fun j hj => ?_⟩, h.2.2.2.1.fr (fun k i j _ => (nst_fr (by omega)).trans (nst_fr (by omega))), fun i hi => (h.2.2.2.2 i hi).fr (fun k i j _ _ => (nst_fr (by omega)).trans (nst_fr (by omega)))⟩, fun k i j q => (nst_fr (by omega)).trans (nst_fr (by omega)), by omega, by omega⟩, ⟨hB.1, hB.2.1, hB.2.2.1, ⟨?_, fun j => ?_⟩, hB.2.2.2.2⟩⟩
  · rw [show d + 200 = d + 199 + 1 from rfl, aX6_feed, if_in2 (n := 256) rfl, c, cond_tt rfl, show d + 199 = d + 198 + 1 from rfl, aX2_add, h.2.2.1.1, li160, if_pos (nI_lt (by omega) (by omega)), nin_t (by omega), cond_tt rfl, nst_self, nst_fr (by omega), h.2.2.1.1, nI_1, bnd_s, tl_s, bX6_feed_22, nI_clamp (by omega)]
  · refine (nst_fr (by omega)).trans ?_
    show nSt M 10 0 (sT s).2 (nI x) 10 0 j = nI (upF (sT s).1 (sT s).2 x j)
    unfold upF
    by_cases cj : j = (sT s).2
    · rw [cj, nst_self, if_pos rfl]
    · rw [nst_j cj, if_neg cj]
      exact h.2.2.1.2 j (by have : j < (sT s).2 + 1 := hj; omega)
  · rw [show d + 200 = d + 199 + 1 from rfl, aX7_feed, mIn X (d + 198) (nI x) (n := 256) rfl, c, bnd_s, tl_s, bX7_feed_9, if_b, cond_tt rfl, h.2.2.1.1, li160, if_neg (fun q => hf ((nI_eq (by omega) (by omega)).mp q)), nin_t (by omega), cond_tt rfl, nst_self, nst_fr (by omega), h.2.2.1.1, nI_1, nI_clamp (by omega)]
  · refine (nst_fr (by omega)).trans ?_
    show nSt M 33 0 (sT s).2 (nI x) 33 0 j = nI (upF (sT s).1 (sT s).2 x j)
    unfold upF
    by_cases cj : j = (sT s).2
    · rw [cj, nst_self, if_pos rfl]
    · rw [nst_j cj, if_neg cj]
      exact h.2.2.1.2 j (by have : j < (sT s).2 + 1 := hj; omega)
  · show (sT s).2 + 1 ≤ 160
    omega
  · show upF (sT s).1 (sT s).2 x j < 256
    unfold upF
    split
    · exact hx
    · exact hb j
end
