/-! stay, shake -/
def shW (s : GS) (f : Nat → Nat) : GS := ((gP (sW s), gD (sW s), gR (sW s), gCo (sW s), f, gKd (sW s), gNu (sW s), gOu (sW s)), s.2)
def stF (s : GS) (o c : Nat) : Nat → Nat := fun mk => min (gSh (sW s) (o * 6 + mk) + tkS s o c mk) 9999
def stG (s : GS) (o c : Nat) : GW := (gP (sW s), gD (sW s) + 1, gR (sW s), gCo (sW s), flF (gSh (sW s)) (o * 6) 6 (stF s o c), gKd (sW s), gNu (sW s), upF (gOu (sW s)) o (min (gOu (sW s) o + 1) 9999))
def kpG (s : GS) (o : Nat) : GW := (gP (sW s), gD (sW s), gR (sW s), gCo (sW s), flF (gSh (sW s)) (o * 6) 6 (fun mk => kpS s o mk), gKd (sW s), gNu (sW s), gOu (sW s))
theorem stG_Z {s : GS} {o c : Nat} (h : gP (sW s) ≤ 5 ∧ ZG (sW s)) (ho : o < gP (sW s)) : gP (stG s o c) ≤ 5 ∧ ZG (stG s o c) := by
  refine ⟨h.1, fun j hj => ?_, fun j hj => ?_⟩
  · have hj : gP (sW s) * 6 ≤ j := hj
    exact (flF_out (Or.inr (by omega))).trans (h.2.1 j hj)
  · have hj : gP (sW s) ≤ j := hj
    show upF (gOu (sW s)) o _ j = 0
    unfold upF
    rw [if_neg (by omega)]
    exact h.2.2 j hj
theorem kpG_Z {s : GS} {o : Nat} (h : gP (sW s) ≤ 5 ∧ ZG (sW s)) (ho : o < gP (sW s)) : gP (kpG s o) ≤ 5 ∧ ZG (kpG s o) := by
  refine ⟨h.1, fun j hj => ?_, h.2.2⟩
  have hj : gP (sW s) * 6 ≤ j := hj
  exact (flF_out (Or.inr (by omega))).trans (h.2.1 j hj)
theorem min_if {y m : Nat} (hy : y < 2 ^ 31) (hm : m < 2 ^ 31) : (if nI m < nI y then nI m else nI y) = nI (min y m) := by
  simp only [nI_ltI hm hy]
  by_cases c : m < y
  · rw [if_pos c, Nat.min_eq_right (by omega)]
  · rw [if_neg c, Nat.min_eq_left (by omega)]
theorem SC.sh {M : MM} {s : GS} (h : SC M s) (i v : Nat) : SC (nSt M 5 0 i (nI v)) (shW s (upF (gSh (sW s)) i v)) := h.w (h.1.sh i v) (fun _ _ _ _ q => if_neg (by omega))
theorem SM.sh {M : MM} {s : GS} (h : SM M s) (i v : Nat) : SM (nSt M 37 0 i (nI v)) (shW s (upF (gSh (sW s)) i v)) := h.w (h.1.sh i v) (fun _ _ _ _ _ q _ => if_neg (by omega))
theorem cpy_ne {M : MM} {k i sp k2 i2 dp n a b c : Nat} (h : ¬ (a = k2 ∧ b = i2 ∧ dp ≤ c ∧ c < dp + n)) : nCpy M k i sp k2 i2 dp n a b c = M a b c := if_neg h
theorem cpy_in {M : MM} {k i sp k2 i2 dp n c : Nat} (h : dp ≤ c ∧ c < dp + n) : nCpy M k i sp k2 i2 dp n k2 i2 c = M k i (sp + (c - dp)) := if_pos ⟨rfl, rfl, h.1, h.2⟩
section
variable (X : Nat × (Nat → Int32))
theorem cStay (d : Nat) {M : MM} (w : Int64) (t u : Nat) {s : GS} {o c : Nat} (h : SC M s) (hB : SB s) (ho : o < gP (sW s)) (hc : c < 6) (hd : gD (sW s) < 999) :
    ∃ M2, callN X (d + 7) 58 [vR 2 0, vI (nI o), vI (nI c)] (M, w, true, true, [], t, u) = some (some (vI (nI (shS (stG s o c, s.2) o))), (M2, w, true, true, [], t, u)) ∧ SC M2 (stG s o c, s.2) ∧ ∀ k i j, 30 ≤ k → M2 k i j = M k i j := by
  have hP := hB.1.2.2.2.2.2
  have ho5 : o < 5 := by omega
  have hsh := hB.2.1.2.2.2.1
  have hou := hB.2.1.2.2.2.2.2.2 o
  have loop : ∀ (m i : Nat) (Mi : MM) (x4 : AV), i + m = 6 → SC Mi (shW s (flF (gSh (sW s)) (o * 6) i (stF s o c))) → (∀ k i j, 30 ≤ k → Mi k i j = M k i j) →
      ∃ M2, nR X (callN X (d + 6)) hX6_stay 39 [vR 2 0, vI (nI o), vI (nI c), vI (nI i), x4] [] (Mi, w, true, true, [], t, u) = some (some (vI (nI (shS (stG s o c, s.2) o))), (M2, w, true, true, [], t, u)) ∧ SC M2 (stG s o c, s.2) ∧ ∀ k i j, 30 ≤ k → M2 k i j = M k i j := by
    intro m
    induction m with
    | zero =>
      intro i Mi x4 hi hS hf
      have hi : i = 6 := hi
      subst hi
      have h8 : Mi 8 0 o = nI (gOu (sW s) o) := hS.1.2.2.2.2.2.2.2 o ho5
      have h3 : Mi 3 0 0 = nI (gD (sW s)) := hS.1.1
      have hS2 : SC (nSt (nSt Mi 8 0 o (nI (min (gOu (sW s) o + 1) 9999))) 3 0 0 (nI (gD (sW s) + 1))) (stG s o c, s.2) := hS.w ((hS.1.ou o (min (gOu (sW s) o + 1) 9999)).day (gD (sW s) + 1)) (fun _ _ _ _ q => (if_neg (by omega)).trans (if_neg (by omega)))
      refine ⟨_, ?_, hS2, fun k i j q => (nst_fr (by omega)).trans ((nst_fr (by omega)).trans (hf k i j q))⟩
      rw [bX6_stay_39, if_pos (by decide), nin_t ho5, cond_tt rfl, cond_tt rfl, nI_clamp (by omega), h8, nI_1, show (9999 : Int32) = nI 9999 from rfl, min_if (by omega) (by omega), nst_fr (by omega), h3, nI_1, sX5_allInShoe X (d + 4) 0 w true [] t u hS2.1 ho5, bnd_s, tl_s, bX6_stay_140]
      rfl
    | succ m ih =>
      intro i Mi x4 hi hS hf
      obtain ⟨M1, e1, e2⟩ := cTakes X (d + 1) w true [] t u (o := o) (c := c) (mk := i) hS hB.1 ho5 hc (by omega)
      have e1 : callN X (d + 6) 92 [vR 2 0, vI (nI o), vI (nI c), vI (nI i)] (Mi, w, true, true, [], t, u) = some (some (vI (nI (tkS s o c i))), (M1, w, true, true, [], t, u)) := e1
      have htk := tkS_le s o c i
      have hs1 := hsh (o * 6 + i)
      have h5 : Mi 5 0 (o * 6 + i) = nI (gSh (sW s) (o * 6 + i)) := (hS.1.2.2.2.2.1 _ (by omega)).trans (congrArg nI (flF_out (Or.inr (Nat.le_refl _))))
      rw [bX6_stay_39, li6, if_neg (nI_ge (by omega) (by omega)), pk_mul, nI_add, nin_t (show o * 6 + i < 30 by omega), cond_tt rfl, nI_clamp (by omega), h5, e1, bnd_s, tl_s, bX6_stay_79, nin_t (show o * 6 + i < 30 by omega), cond_tt rfl, nI_clamp (by omega), nI_add, show (9999 : Int32) = nI 9999 from rfl, min_if (by omega) (by omega), nI_1]
      have hS1 := (hS.fr e2.C).sh (o * 6 + i) (stF s o c i)
      have e9 : upF (flF (gSh (sW s)) (o * 6) i (stF s o c)) (o * 6 + i) (stF s o c i) = flF (gSh (sW s)) (o * 6) (i + 1) (stF s o c) := flF_s _ _ _ _
      have hS1 : SC (nSt M1 5 0 (o * 6 + i) (nI (stF s o c i))) (shW s (upF (flF (gSh (sW s)) (o * 6) i (stF s o c)) (o * 6 + i) (stF s o c i))) := hS1
      rw [e9] at hS1
      exact ih (i + 1) _ _ (by omega) hS1 (fun k i2 j q => (nst_fr (by omega)).trans ((e2 k i2 j (by omega) (by omega)).trans (hf k i2 j q)))
  have h0 : SC M (shW s (flF (gSh (sW s)) (o * 6) 0 (stF s o c))) := by rw [flF_0]; exact h
  obtain ⟨M2, e1, e2, e3⟩ := loop 6 0 M vX rfl h0 (fun _ _ _ _ => rfl)
  refine ⟨M2, ?_, e2, e3⟩
  rw [show d + 7 = d + 6 + 1 from rfl, aX6_stay, cHas X (d + 5) (nI o) w true [] t u h.1 hP, nin_t ho, bnd_s, tl_s, bX6_stay_8, if_b, cond_tt rfl, cCoast, nin_t hc, bnd_s, tl_s, bX6_stay_15, if_b, cond_tt rfl, h.1.1, if_pos (show nI (gD (sW s)) < 999 from nI_lt (b := 999) hd (by omega))]
  exact e1
theorem mStays1 (d : Nat) {M : MM} (w : Int64) (l : List (Nat × Nat × Nat)) (t u : Nat) {s : GS} {o c : Nat} (h : SM M s) (hB : TB s) (hsh : ∀ j, gSh (sW s) j ≤ 9999) (hou : ∀ j, gOu (sW s) j ≤ 9999) (ho : o < gP (sW s)) (hc : c < 6) :
    ∃ (M2 : MM) (w2 : Int64), callN X (d + 56) 151 [vR 30 0, vI (nI o), vI (nI c)] (M, w, true, true, l, t, u) = some (none, (M2, w2, true, true, l, t, u)) ∧ SM M2 (stG s o c, s.2) ∧ ∀ k i j, ¬ (36 ≤ k ∧ k ≤ 37) → ¬ (k = 30 ∧ (j = 7 ∨ (13 ≤ j ∧ j ≤ 27))) → M2 k i j = M k i j := by
  have hP := hB.2.2.2.2.2
  have ho5 : o < 5 := by omega
  have hou := hou o
  have loop : ∀ (m i : Nat) (Mi : MM) (wi : Int64), i + m = 6 → SM Mi (shW s (flF (gSh (sW s)) (o * 6) i (stF s o c))) → (∀ k i j, ¬ (36 ≤ k ∧ k ≤ 37) → ¬ (k = 30 ∧ (j = 7 ∨ (13 ≤ j ∧ j ≤ 27))) → Mi k i j = M k i j) →
      ∃ (M2 : MM) (w2 : Int64), nR X (callN X (d + 55)) hX7_stays1 2 [vR 30 0, vI (nI o), vI (nI c), vI (nI i)] [] (Mi, wi, true, true, l, t, u) = some (none, (M2, w2, true, true, l, t, u)) ∧ SM M2 (stG s o c, s.2) ∧ ∀ k i j, ¬ (36 ≤ k ∧ k ≤ 37) → ¬ (k = 30 ∧ (j = 7 ∨ (13 ≤ j ∧ j ≤ 27))) → M2 k i j = M k i j := by
    intro m
    induction m with
    | zero =>
      intro i Mi wi hi hS hf
      have hi : i = 6 := hi
      subst hi
      have h8 : Mi 36 0 (2 * o + 1) = nI (gOu (sW s) o) := (hS.1.2.2.2.2.2.2 o ho5).2
      have h3 : Mi 30 0 7 = nI (gD (sW s)) := hS.1.1
      have hS2 : SM (nSt (nSt Mi 36 0 (2 * o + 1) (nI (min (gOu (sW s) o + 1) 9999))) 30 0 7 (nI (gD (sW s) + 1))) (stG s o c, s.2) := hS.w ((hS.1.ou o (min (gOu (sW s) o + 1) 9999)).day (gD (sW s) + 1)) (fun _ _ _ _ _ q q2 => (if_neg (by omega)).trans (if_neg (by omega)))
      refine ⟨_, wi, ?_, hS2, fun k i j q q2 => (nst_fr (by omega)).trans ((nst_fr (by omega)).trans (hf k i j q q2))⟩
      rw [bX7_stays1_2, if_pos (by decide), li2, pk_mul, nI_1, nin_t (show 2 * o + 1 < 10 by omega), cond_tt rfl, nI_clamp (by omega), h8, nI_1, sX7_within X (d + 54) wi l t u _ (m := 9999) (x := 9999) (by omega) rfl, clN_nI (by omega), bnd_s, tl_s, bX7_stays1_79, nin_t (show 2 * o + 1 < 10 by omega), cond_tt rfl, nI_clamp (by omega), nst_fr (by omega), h3, nI_1]
    | succ m ih =>
      intro i Mi wi hi hS hf
      obtain ⟨M1, w1, e1, e2⟩ := mTakes X (d + 1) wi l t u (o := o) (c := c) (mk := i) hS hB ho hc (by omega)
      have e1 : callN X (d + 55) 147 [vR 30 0, vI (nI o), vI (nI i), vI (nI c)] (Mi, wi, true, true, l, t, u) = some (some (vI (nI (tkS s o c i))), (M1, w1, true, true, l, t, u)) := e1
      have htk := tkS_le s o c i
      have hs1 := hsh (o * 6 + i)
      have h5 : Mi 37 0 (o * 6 + i) = nI (gSh (sW s) (o * 6 + i)) := (hS.1.2.2.2.2.1 _ (by omega)).trans (congrArg nI (flF_out (Or.inr (Nat.le_refl _))))
      rw [bX7_stays1_2, li6, if_neg (nI_ge (by omega) (by omega)), pk_mul, nI_add, Nat.mul_comm 6 o, nin_t (show o * 6 + i < 30 by omega), cond_tt rfl, nI_clamp (by omega), h5, e1, bnd_s, tl_s, bX7_stays1_36, nI_add, sX7_within X (d + 54) w1 l t u _ (m := 9999) (x := 9999) (by omega) rfl, clN_nI (by omega), bnd_s, tl_s, bX7_stays1_44, nin_t (show o * 6 + i < 30 by omega), cond_tt rfl, nI_clamp (by omega), nI_1]
      have e9 : upF (flF (gSh (sW s)) (o * 6) i (stF s o c)) (o * 6 + i) (stF s o c i) = flF (gSh (sW s)) (o * 6) (i + 1) (stF s o c) := flF_s _ _ _ _
      have hS1 : SM (nSt M1 37 0 (o * 6 + i) (nI (stF s o c i))) (shW s (upF (flF (gSh (sW s)) (o * 6) i (stF s o c)) (o * 6 + i) (stF s o c i))) := (hS.fr e2.M).sh (o * 6 + i) (stF s o c i)
      rw [e9] at hS1
      exact ih (i + 1) _ _ (by omega) hS1 (fun k i2 j q q2 => (nst_fr (by omega)).trans ((e2 k i2 j (by omega)).trans (hf k i2 j q q2)))
  have h0 : SM M (shW s (flF (gSh (sW s)) (o * 6) 0 (stF s o c))) := by rw [flF_0]; exact h
  obtain ⟨M2, w2, e1, e2, e3⟩ := loop 6 0 M w rfl h0 (fun _ _ _ _ _ => rfl)
  refine ⟨M2, w2, ?_, e2, e3⟩
  rw [show d + 56 = d + 55 + 1 from rfl, aX7_stays1]
  exact e1
theorem q_stay (a c : Int32) : Stq X 58 152 [vI a, vI c] := fun s hB => by
  have hP := hB.1.2.2.2.2.2
  have hd9 := hB.2.1.2.1
  cases c1 : nIn a (gP (sW s))
  · refine q_bad X hB (vI (-2)) (fun d M w t u h => ?_) (fun d M w t u h => ?_)
    · rw [show d + 200 = d + 199 + 1 from rfl, aX6_stay, cHas X (d + 198) a w true [] t u h.1 hP, c1, bnd_s, tl_s, bX6_stay_8, if_b]
      rfl
    · rw [show d + 200 = d + 199 + 1 from rfl, aX7_stay, mOne X (d + 197) a w [] t u h.1 hP, c1, bnd_s, tl_s, bX7_stay_5, if_b]
      rfl
  cases c2 : nIn c 6
  · refine q_bad X hB (vI (-2)) (fun d M w t u h => ?_) (fun d M w t u h => ?_)
    · rw [show d + 200 = d + 199 + 1 from rfl, aX6_stay, cHas X (d + 198) a w true [] t u h.1 hP, c1, bnd_s, tl_s, bX6_stay_8, if_b, cond_tt rfl, cCoast, c2, bnd_s, tl_s, bX6_stay_15, if_b]
      rfl
    · rw [show d + 200 = d + 199 + 1 from rfl, aX7_stay, mOne X (d + 197) a w [] t u h.1 hP, c1, bnd_s, tl_s, bX7_stay_5, if_b, cond_tt rfl, mCoast, c2, bnd_s, tl_s, bX7_stay_12, if_b]
      rfl
  by_cases c3 : gD (sW s) = 999
  · refine q_bad X hB (vI (-3)) (fun d M w t u h => ?_) (fun d M w t u h => ?_)
    · rw [show d + 200 = d + 199 + 1 from rfl, aX6_stay, cHas X (d + 198) a w true [] t u h.1 hP, c1, bnd_s, tl_s, bX6_stay_8, if_b, cond_tt rfl, cCoast, c2, bnd_s, tl_s, bX6_stay_15, if_b, cond_tt rfl, h.1.1, c3, if_neg (by decide)]
    · rw [show d + 200 = d + 199 + 1 from rfl, aX7_stay, mOne X (d + 197) a w [] t u h.1 hP, c1, bnd_s, tl_s, bX7_stay_5, if_b, cond_tt rfl, mCoast, c2, bnd_s, tl_s, bX7_stay_12, if_b, cond_tt rfl, h.1.1, c3, if_pos (by decide)]
  obtain ⟨o, ho, rfl⟩ := in_ex c1 (by omega)
  obtain ⟨c, hc, rfl⟩ := in_ex c2 (by omega)
  obtain ⟨b1, b2, b3, b4, b5, b6, b7⟩ := hB.2.1
  refine ⟨_, (stG s o c, s.2), fun d M w t u h => cStay X (d + 193) w t u h hB ho hc (by omega), fun d M w t u h => ?_, hB.w0 ⟨stG_Z b1 ho, by show gD (sW s) + 1 ≤ 999; omega, b3, flF_le b4 (fun _ => Nat.min_le_right _ _), b5, b6, upF_le b7 (Nat.min_le_right _ _)⟩ hB.1.1 rfl rfl⟩
  obtain ⟨M2, w2, e1, e2, e3⟩ := mStays1 X (d + 143) w [] t u h hB.1 b4 b7 ho hc
  refine ⟨M2, w2, t, u, ?_, e2, fun k i j q => e3 k i j (by omega) (by omega), by omega, by omega⟩
  rw [show d + 200 = d + 199 + 1 from rfl, aX7_stay, mOne X (d + 197) (nI o) w [] t u h.1 hP, c1, bnd_s, tl_s, bX7_stay_5, if_b, cond_tt rfl, mCoast, c2, bnd_s, tl_s, bX7_stay_12, if_b, cond_tt rfl, h.1.1, if_neg (show ¬ nI (gD (sW s)) = 999 from fun q => c3 ((nI_eq (b := 999) (by omega) (by omega)).mp q)), e1, bnd_s, tl_n, bX7_stay_37, sX7_shoeOf X (d + 198) w2 [] t u e2.1 (by omega), bnd_s, tl_s, bX7_stay_42]
  rfl
theorem q_shake (a : Int32) : Stq X 59 153 [vI a] := fun s hB => by
  have hP := hB.1.2.2.2.2.2
  have hsh := hB.2.1.2.2.2.1
  cases c1 : nIn a (gP (sW s))
  · refine q_bad X hB (vI (-2)) (fun d M w t u h => ?_) (fun d M w t u h => ?_)
    · rw [show d + 200 = d + 199 + 1 from rfl, aX6_shake, cHas X (d + 198) a w true [] t u h.1 hP, c1, bnd_s, tl_s, bX6_shake_8, if_b]
      rfl
    · rw [show d + 200 = d + 199 + 1 from rfl, aX7_shake, mOne X (d + 197) a w [] t u h.1 hP, c1, bnd_s, tl_s, bX7_shake_5, if_b]
      rfl
  obtain ⟨o, ho, rfl⟩ := in_ex c1 (by omega)
  have ho5 : o < 5 := by omega
  obtain ⟨b1, b2, b3, b4, b5, b6, b7⟩ := hB.2.1
  refine ⟨vI (nI (shS s o) - nI (shS (kpG s o, s.2) o)), (kpG s o, s.2), fun d M w t u h => ?_, fun d M w t u h => ?_, hB.w0 ⟨kpG_Z b1 ho, b2, b3, flF_le b4 (fun mk => Nat.le_trans (kpS_le s o mk) (b4 _)), b5, b6, b7⟩ hB.1.1 rfl rfl⟩
  · have loop : ∀ (m i : Nat) (Mi : MM), i + m = 6 → (∀ j, j < i → Mi 27 0 j = nI (kpS s o j)) → (∀ k i j, (k < 20 ∨ 28 ≤ k) → Mi k i j = M k i j) →
        ∃ M1, nR X (callN X (d + 199)) hX6_shake 25 [vR 2 0, vI (nI o), vI (nI (shS s o)), vI (nI i)] [] (Mi, w, true, true, [], t, u) = nR X (callN X (d + 199)) hX6_shake 25 [vR 2 0, vI (nI o), vI (nI (shS s o)), vI (nI 6)] [] (M1, w, true, true, [], t, u) ∧ (∀ j, j < 6 → M1 27 0 j = nI (kpS s o j)) ∧ ∀ k i j, (k < 20 ∨ 28 ≤ k) → M1 k i j = M k i j := by
      intro m
      induction m with
      | zero =>
        intro i Mi hi hk hf
        have hi : i = 6 := hi
        subst hi
        exact ⟨Mi, rfl, hk, hf⟩
      | succ m ih =>
        intro i Mi hi hk hf
        obtain ⟨M1, e1, e2⟩ := cKeeps X (d + 195) w true [] t u (o := o) (mk := i) (h.fr (fun k i j q => hf k i j (Or.inl q))) hB.1 hsh ho5 (by omega)
        rw [bX6_shake_25, li6, if_neg (nI_ge (by omega) (by omega)), e1, bnd_s]
        show ∃ M9, nR X (callN X (d + 199)) hX6_shake 42 [vR 2 0, vI (nI o), vI (nI (shS s o)), vI (nI i)] [vI (nI (kpS s o i)), vI (nI i), vR 27 0] _ = _ ∧ _
        rw [bX6_shake_42, nin_t (show i < 6 by omega), cond_tt rfl, nI_clamp (by omega), nI_1]
        refine ih (i + 1) _ (by omega) (fun j hj => ?_) (fun k i2 j q => (nst_fr (by omega)).trans ((e2 k i2 j (by omega) (by omega)).trans (hf k i2 j q)))
        by_cases cj : j = i
        · rw [cj, nst_self]
        · rw [nst_j cj, e2 27 0 j (by omega) (by omega)]
          exact hk j (by omega)
    obtain ⟨M1, e1, e2, e3⟩ := loop 6 0 M rfl (fun j q => by omega) (fun _ _ _ _ => rfl)
    have hS1 : SC M1 s := h.fr (fun k i j q => e3 k i j (Or.inl q))
    have hW : WC (nCpy M1 27 0 0 5 0 (o * 6) 6) 0 (kpG s o) := by
      obtain ⟨a1, a2, a3, a4, a5, a6, a7, a8⟩ := hS1.1
      refine ⟨(cpy_ne (by omega)).trans a1, (cpy_ne (by omega)).trans a2, (cpy_ne (by omega)).trans a3, fun j hj => (cpy_ne (by omega)).trans (a4 j hj), fun j hj => ?_, fun j hj => (cpy_ne (by omega)).trans (a6 j hj), fun j hj => (cpy_ne (by omega)).trans (a7 j hj), fun j hj => (cpy_ne (by omega)).trans (a8 j hj)⟩
      show _ = nI (flF (gSh (sW s)) (o * 6) 6 (fun mk => kpS s o mk) j)
      by_cases cj : o * 6 ≤ j ∧ j < o * 6 + 6
      · rw [cpy_in cj, Nat.zero_add, e2 _ (by omega), flF, if_pos cj]
      · rw [cpy_ne (by omega), flF, if_neg cj]
        exact a5 j hj
    refine ⟨nCpy M1 27 0 0 5 0 (o * 6) 6, ?_, hS1.w hW (fun k i j _ q => cpy_ne (by omega)), fun k i j q => (cpy_ne (by omega)).trans (e3 k i j (by omega))⟩
    have e1 : nR X (callN X (d + 199)) hX6_shake 25 [vR 2 0, vI (nI o), vI (nI (shS s o)), vI 0] [] (M, w, true, true, [], t, u) = nR X (callN X (d + 199)) hX6_shake 25 [vR 2 0, vI (nI o), vI (nI (shS s o)), vI 6] [] (M1, w, true, true, [], t, u) := e1
    rw [show d + 200 = d + 199 + 1 from rfl, aX6_shake, cHas X (d + 198) (nI o) w true [] t u h.1 hP, c1, bnd_s, tl_s, bX6_shake_8, if_b, cond_tt rfl, sX5_allInShoe X (d + 197) 0 w true [] t u h.1 ho5, bnd_s, tl_s, bX6_shake_22]
    show nR X (callN X (d + 199)) hX6_shake 25 [vR 2 0, vI (nI o), vI (nI (shS s o)), vI 0] [] _ = _
    rw [e1, bX6_shake_25, if_pos (by decide), li6, pk_mul, nI_clamp (show o * 6 < 2 ^ 31 by omega), nI_clamp (show 6 < 2 ^ 31 by omega), show (0 : Int32).toNatClampNeg = 0 from rfl, decide_eq_true ⟨by decide, nI_pos (by omega), nI_pos (by omega), by omega, by omega⟩, cond_tt rfl, sX5_allInShoe X (d + 197) 0 w true [] t u hW ho5, bnd_s]
    show nR X (callN X (d + 199)) hX6_shake 79 [vR 2 0, vI (nI o), vI (nI (shS s o)), vI (nI 6)] [vI (nI (shS (kpG s o, s.2) o)), vI (nI (shS s o))] _ = _
    rw [bX6_shake_79]
  · have loop : ∀ (m i : Nat) (Mi : MM) (wi : Int64), i + m = 6 → (∀ j, j < i → Mi 38 0 j = nI (kpS s o j)) → (∀ k i j, k ≠ 38 → ¬ (k = 30 ∧ 13 ≤ j ∧ j ≤ 27) → Mi k i j = M k i j) →
        ∃ (M1 : MM) (w1 : Int64), nR X (callN X (d + 199)) hX7_shake 19 [vR 30 0, vI (nI o), vI (nI (shS s o)), vI (nI i)] [] (Mi, wi, true, true, [], t, u) = nR X (callN X (d + 199)) hX7_shake 19 [vR 30 0, vI (nI o), vI (nI (shS s o)), vI (nI 6)] [] (M1, w1, true, true, [], t, u) ∧ (∀ j, j < 6 → M1 38 0 j = nI (kpS s o j)) ∧ ∀ k i j, k ≠ 38 → ¬ (k = 30 ∧ 13 ≤ j ∧ j ≤ 27) → M1 k i j = M k i j := by
      intro m
      induction m with
      | zero =>
        intro i Mi wi hi hk hf
        have hi : i = 6 := hi
        subst hi
        exact ⟨Mi, wi, rfl, hk, hf⟩
      | succ m ih =>
        intro i Mi wi hi hk hf
        obtain ⟨M1, w1, e1, e2⟩ := mKeeps X (d + 145) wi [] t u (o := o) (mk := i) (h.fr (fun k i j _ _ q q2 => hf k i j (by omega) (by omega))) hB.1 hsh ho (by omega)
        rw [bX7_shake_19, li6, if_neg (nI_ge (by omega) (by omega)), e1, bnd_s]
        show ∃ (M9 : MM) (w9 : Int64), nR X (callN X (d + 199)) hX7_shake 36 [vR 30 0, vI (nI o), vI (nI (shS s o)), vI (nI i)] [vI (nI (kpS s o i)), vI (nI i), vR 38 0] _ = _ ∧ _
        rw [bX7_shake_36, nin_t (show i < 6 by omega), cond_tt rfl, nI_clamp (by omega), nI_1]
        refine ih (i + 1) _ w1 (by omega) (fun j hj => ?_) (fun k i2 j q q2 => (nst_fr (by omega)).trans ((e2 k i2 j (by omega)).trans (hf k i2 j q q2)))
        by_cases cj : j = i
        · rw [cj, nst_self]
        · rw [nst_j cj, e2 38 0 j (by omega)]
          exact hk j (by omega)
    obtain ⟨M1, w1, e1, e2, e3⟩ := loop 6 0 M w rfl (fun j q => by omega) (fun _ _ _ _ _ => rfl)
    have hS1 : SM M1 s := h.fr (fun k i j _ _ q q2 => e3 k i j (by omega) (by omega))
    have loop2 : ∀ (m i : Nat) (Mi : MM), i + m = 6 → SM Mi (shW s (flF (gSh (sW s)) (o * 6) i (fun mk => kpS s o mk))) → (∀ j, j < 6 → Mi 38 0 j = nI (kpS s o j)) → (∀ k i j, ¬ (37 ≤ k ∧ k ≤ 38) → ¬ (k = 30 ∧ 13 ≤ j ∧ j ≤ 27) → Mi k i j = M k i j) →
        ∃ M2, nR X (callN X (d + 199)) hX7_shake 45 [vR 30 0, vI (nI o), vI (nI (shS s o)), vI (nI i)] [] (Mi, w1, true, true, [], t, u) = some (some (vI (nI (shS s o) - nI (shS (kpG s o, s.2) o))), (M2, w1, true, true, [], t, u)) ∧ SM M2 (kpG s o, s.2) ∧ ∀ k i j, ¬ (37 ≤ k ∧ k ≤ 38) → ¬ (k = 30 ∧ 13 ≤ j ∧ j ≤ 27) → M2 k i j = M k i j := by
      intro m
      induction m with
      | zero =>
        intro i Mi hi hS hk hf
        have hi : i = 6 := hi
        subst hi
        refine ⟨Mi, ?_, hS, hf⟩
        rw [bX7_shake_45, if_pos (by decide), sX7_shoeOf X (d + 198) w1 [] t u hS.1 ho5, bnd_s]
        show nR X (callN X (d + 199)) hX7_shake 80 [vR 30 0, vI (nI o), vI (nI (shS s o)), vI (nI 6)] [vI (nI (shS (kpG s o, s.2) o)), vI (nI (shS s o))] _ = _
        rw [bX7_shake_80]
      | succ m ih =>
        intro i Mi hi hS hk hf
        rw [bX7_shake_45, li6, if_neg (nI_ge (by omega) (by omega)), nin_t (show i < 6 by omega), cond_tt rfl, pk_mul, nI_add, Nat.mul_comm 6 o, nin_t (show o * 6 + i < 30 by omega), cond_tt rfl, nI_clamp (by omega), nI_clamp (by omega), hk i (by omega), nI_1]
        have hS1 := hS.sh (o * 6 + i) (kpS s o i)
        have e9 : upF (flF (gSh (sW s)) (o * 6) i (fun mk => kpS s o mk)) (o * 6 + i) (kpS s o i) = flF (gSh (sW s)) (o * 6) (i + 1) (fun mk => kpS s o mk) := flF_s (gSh (sW s)) (o * 6) i (fun mk => kpS s o mk)
        have hS1 : SM (nSt Mi 37 0 (o * 6 + i) (nI (kpS s o i))) (shW s (upF (flF (gSh (sW s)) (o * 6) i (fun mk => kpS s o mk)) (o * 6 + i) (kpS s o i))) := hS1
        rw [e9] at hS1
        exact ih (i + 1) _ (by omega) hS1 (fun j hj => (nst_fr (by omega)).trans (hk j hj)) (fun k i2 j q q2 => (nst_fr (by omega)).trans (hf k i2 j q q2))
    obtain ⟨M2, f1, f2, f3⟩ := loop2 6 0 M1 rfl (by rw [flF_0]; exact hS1) e2 (fun k i j q q2 => e3 k i j (by omega) q2)
    refine ⟨M2, w1, t, u, ?_, f2, fun k i j q => f3 k i j (by omega) (by omega), by omega, by omega⟩
    have e1 : nR X (callN X (d + 199)) hX7_shake 19 [vR 30 0, vI (nI o), vI (nI (shS s o)), vI 0] [] (M, w, true, true, [], t, u) = nR X (callN X (d + 199)) hX7_shake 19 [vR 30 0, vI (nI o), vI (nI (shS s o)), vI 6] [] (M1, w1, true, true, [], t, u) := e1
    have f1 : nR X (callN X (d + 199)) hX7_shake 45 [vR 30 0, vI (nI o), vI (nI (shS s o)), vI 0] [] (M1, w1, true, true, [], t, u) = _ := f1
    rw [show d + 200 = d + 199 + 1 from rfl, aX7_shake, mOne X (d + 197) (nI o) w [] t u h.1 hP, c1, bnd_s, tl_s, bX7_shake_5, if_b, cond_tt rfl, sX7_shoeOf X (d + 198) w [] t u h.1 ho5, bnd_s, tl_s, bX7_shake_16]
    show nR X (callN X (d + 199)) hX7_shake 19 [vR 30 0, vI (nI o), vI (nI (shS s o)), vI 0] [] _ = _
    rw [e1, bX7_shake_19, if_pos (by decide), f1]
end
