/-! taken, person -/
def uN (kd k : Nat) : Bool := Nat.beq kd k || (Nat.beq k 0 || ((Nat.beq kd 3 && Nat.beq k 1) || (Nat.beq kd 4 && Nat.beq k 2)))
def pG (g : GW) (kd nu : Nat) : GW := (gP g + 1, gD g, gR g, gCo g, flF (gSh g) (gP g * 6) 6 (fun _ => 0), upF (gKd g) (gP g) kd, upF (gNu g) (gP g) nu, upF (gOu g) (gP g) 0)
def pOk (a b : Int32) : Bool := nIn a 6 && nIn b 10
def pAns (s : GS) (a b : Int32) : Int32 := cond (pOk a b) (if gP (sW s) = 5 then -4 else nI (gP (sW s))) (-2)
def pNx (s : GS) (a b : Int32) : GS := cond (pOk a b) (if gP (sW s) = 5 then s else (pG (sW s) a.toNatClampNeg b.toNatClampNeg, s.2)) s
theorem pG_Z {g : GW} (h : ZG g) (kd nu : Nat) : pG g kd nu = (gP g + 1, gD g, gR g, gCo g, gSh g, upF (gKd g) (gP g) kd, upF (gNu g) (gP g) nu, gOu g) := by
  have e1 : flF (gSh g) (gP g * 6) 6 (fun _ => 0) = gSh g := funext fun j => by
    unfold flF
    by_cases c : gP g * 6 ≤ j ∧ j < gP g * 6 + 6
    · rw [if_pos c]
      exact (h.1 j c.1).symm
    · rw [if_neg c]
  have e2 : upF (gOu g) (gP g) 0 = gOu g := funext fun j => by
    unfold upF
    by_cases c : j = gP g
    · rw [if_pos c]
      exact (h.2 j (by omega)).symm
    · rw [if_neg c]
  unfold pG
  rw [e1, e2]
theorem pNx_SB {s : GS} (hB : SB s) (a b : Int32) : SB (pNx s a b) := by
  unfold pNx pOk
  cases c1 : nIn a 6
  · exact hB
  cases c2 : nIn b 10
  · exact hB
  obtain ⟨kd, hkd, rfl⟩ := in_ex c1 (by omega)
  obtain ⟨nu, hnu, rfl⟩ := in_ex c2 (by omega)
  obtain ⟨b1, b2, b3, b4, b5, b6, b7⟩ := hB.2.1
  show SB (if gP (sW s) = 5 then s else (pG (sW s) (nI kd).toNatClampNeg (nI nu).toNatClampNeg, s.2))
  rw [nI_clamp (by omega), nI_clamp (by omega)]
  by_cases c : gP (sW s) = 5
  · rw [if_pos c]
    exact hB
  · rw [if_neg c]
    have hz : ∀ j, (gP (sW s) + 1) * 6 ≤ j → flF (gSh (sW s)) (gP (sW s) * 6) 6 (fun _ => 0) j = 0 := fun j hj => (flF_out (Or.inr (by omega))).trans (b1.2.1 j (by omega))
    have hzo : ∀ j, gP (sW s) + 1 ≤ j → upF (gOu (sW s)) (gP (sW s)) 0 j = 0 := fun j hj => by
      unfold upF
      rw [if_neg (by omega)]
      exact b1.2.2 j (by omega)
    refine hB.w ⟨⟨by show gP (sW s) + 1 ≤ 5; omega, fun j hj => hz j hj, fun j hj => hzo j hj⟩, b2, b3, flF_le (h := fun _ => 0) b4 (fun _ => Nat.zero_le _), upF_le b5 (by omega), upF_le b6 (by omega), upF_le b7 (by omega)⟩ hB.1.1 (fun q => ?_)
    have h9 := hB.2.2.1 q
    refine ⟨Nat.le_succ_of_le h9.2.2.1, fun j hj => ?_⟩
    show gKd (sI s) j = upF (gKd (sW s)) (gP (sW s)) kd j
    unfold upF
    rw [if_neg (by omega)]
    exact h9.2.2.2 j hj
section
variable (X : Nat × (Nat → Int32))
theorem cUnder (d : Nat) {kd k : Nat} (h1 : kd < 6) (h2 : k < 6) (M : MM) (w : Int64) (fm : Bool) (l : List (Nat × Nat × Nat)) (t u : Nat) : callN X (d + 1) 11 [vI (nI kd), vI (nI k)] (M, w, true, fm, l, t, u) = some (some (vI (cond (uN kd k) 1 0)), (M, w, true, fm, l, t, u)) := by
  rw [aX1_isUnder]
  have e1 : kd = 0 ∨ kd = 1 ∨ kd = 2 ∨ kd = 3 ∨ kd = 4 ∨ kd = 5 := by omega
  have e2 : k = 0 ∨ k = 1 ∨ k = 2 ∨ k = 3 ∨ k = 4 ∨ k = 5 := by omega
  rcases e1 with rfl | rfl | rfl | rfl | rfl | rfl <;> rcases e2 with rfl | rfl | rfl | rfl | rfl | rfl <;> rfl
theorem mTaken (d : Nat) {kd k o : Nat} (h1 : kd < 6) (h2 : k < 6) (ho : o < 5) (M : MM) (w : Int64) (l : List (Nat × Nat × Nat)) (t u : Nat) : nR X (callN X (d + 1)) hX7_taken 33 [vR 30 0, vI (nI o), vI (nI k), vI (nI kd)] [] (M, w, true, true, l, t, u) = some (some (vI (cond (uN kd k) (M 36 0 (2 * o)) (-13))), (M, w, true, true, l, t, u)) := by
  have hm1 : nR X (callN X (d + 1)) hX7_taken 33 [vR 30 0, vI (nI o), vI (nI k), vI (-1)] [] (M, w, true, true, l, t, u) = some (some (vI (-13)), (M, w, true, true, l, t, u)) := by
    rw [bX7_taken_33, if_pos rfl]
    rw [if_neg (fun q => ?_)]
    have e1 : (-1 : Int32).toInt = -1 := rfl
    rw [q, nI_toInt (by omega)] at e1
    omega
  have hst : ∀ (x : Nat) (y : Int32), x < 6 → callN X (d + 1) 191 [vI (nI x)] (M, w, true, true, l, t, u) = some (some (vI y), (M, w, true, true, l, t, u)) → nR X (callN X (d + 1)) hX7_taken 33 [vR 30 0, vI (nI o), vI (nI k), vI (nI x)] [] (M, w, true, true, l, t, u) = if x = k then some (some (vI (M 36 0 (2 * o))), (M, w, true, true, l, t, u)) else nR X (callN X (d + 1)) hX7_taken 33 [vR 30 0, vI (nI o), vI (nI k), vI y] [] (M, w, true, true, l, t, u) := by
    intro x y hx hy
    have hn1 : ¬ nI x = -1 := fun q => by
      have e1 : (-1 : Int32).toInt = -1 := rfl
      rw [← q, nI_toInt (by omega)] at e1
      omega
    rw [bX7_taken_33, if_neg hn1, li2, pk_mul, nin_t (show 2 * o < 10 by omega), cond_tt rfl, nI_clamp (by omega)]
    simp (disch := omega) only [nI_eq]
    by_cases c : x = k
    · rw [if_pos c, if_pos c, if_pos c]
    · rw [if_neg c, if_neg c, hy, bnd_s, tl_s, bX7_taken_47]
  have h0 : nR X (callN X (d + 1)) hX7_taken 33 [vR 30 0, vI (nI o), vI (nI k), vI 0] [] (M, w, true, true, l, t, u) = some (some (vI (if k = 0 then M 36 0 (2 * o) else -13)), (M, w, true, true, l, t, u)) := by
    have := hst 0 (-1) (by omega) (by rw [aX7_over]; rfl)
    refine this.trans ?_
    by_cases c : 0 = k
    · rw [if_pos c, if_pos c.symm]
    · rw [if_neg c, if_neg (fun q => c q.symm), hm1]
  have hx0 : ∀ x : Nat, x < 6 → callN X (d + 1) 191 [vI (nI x)] (M, w, true, true, l, t, u) = some (some (vI 0), (M, w, true, true, l, t, u)) → nR X (callN X (d + 1)) hX7_taken 33 [vR 30 0, vI (nI o), vI (nI k), vI (nI x)] [] (M, w, true, true, l, t, u) = some (some (vI (if x = k then M 36 0 (2 * o) else if k = 0 then M 36 0 (2 * o) else -13)), (M, w, true, true, l, t, u)) := by
    intro x hx hy
    refine (hst x 0 hx hy).trans ?_
    by_cases c : x = k
    · rw [if_pos c, if_pos c]
    · rw [if_neg c, if_neg c, h0]
  have h1' := hx0 1 (by omega) (by rw [aX7_over]; rfl)
  have h2' := hx0 2 (by omega) (by rw [aX7_over]; rfl)
  have h5' := hx0 5 (by omega) (by rw [aX7_over]; rfl)
  have h3' := hst 3 (nI 1) (by omega) (by rw [aX7_over]; rfl)
  have h4' := hst 4 (nI 2) (by omega) (by rw [aX7_over]; rfl)
  rw [h1'] at h3'
  rw [h2'] at h4'
  have e1 : kd = 0 ∨ kd = 1 ∨ kd = 2 ∨ kd = 3 ∨ kd = 4 ∨ kd = 5 := by omega
  have e2 : k = 0 ∨ k = 1 ∨ k = 2 ∨ k = 3 ∨ k = 4 ∨ k = 5 := by omega
  rcases e1 with rfl | rfl | rfl | rfl | rfl | rfl
  · refine Eq.trans h0 ?_
    clear h0 hx0 hst h1' h2' h3' h4' h5' hm1
    rcases e2 with rfl | rfl | rfl | rfl | rfl | rfl <;> rfl
  · refine h1'.trans ?_
    clear h0 hx0 hst h1' h2' h3' h4' h5' hm1
    rcases e2 with rfl | rfl | rfl | rfl | rfl | rfl <;> rfl
  · refine h2'.trans ?_
    clear h0 hx0 hst h1' h2' h3' h4' h5' hm1
    rcases e2 with rfl | rfl | rfl | rfl | rfl | rfl <;> rfl
  · refine h3'.trans ?_
    clear h0 hx0 hst h1' h2' h3' h4' h5' hm1
    rcases e2 with rfl | rfl | rfl | rfl | rfl | rfl <;> rfl
  · refine h4'.trans ?_
    clear h0 hx0 hst h1' h2' h3' h4' h5' hm1
    rcases e2 with rfl | rfl | rfl | rfl | rfl | rfl <;> rfl
  · refine h5'.trans ?_
    clear h0 hx0 hst h1' h2' h3' h4' h5' hm1
    rcases e2 with rfl | rfl | rfl | rfl | rfl | rfl <;> rfl
theorem q_taken (a k : Int32) : Stq X 79 192 [vI a, vI k] := fun s hB => by
  have hP := hB.1.2.2.2.2.2
  cases c1 : nIn k 6
  · refine q_bad X hB (vI (-2)) (fun d M w t u h => ?_) (fun d M w t u h => ?_)
    · rw [show d + 200 = d + 199 + 1 from rfl, aX6_taken, if_in3 (n := 6) rfl, c1]
      rfl
    · rw [show d + 200 = d + 199 + 1 from rfl, aX7_taken, mIn X (d + 198) k (n := 6) rfl, c1, bnd_s, tl_s, bX7_taken_9, if_b]
      rfl
  cases c2 : nIn a (gP (sW s))
  · refine q_bad X hB (vI (-11)) (fun d M w t u h => ?_) (fun d M w t u h => ?_)
    · rw [show d + 200 = d + 199 + 1 from rfl, aX6_taken, if_in3 (n := 6) rfl, c1, cond_tt rfl, cHas X (d + 198) a w true [] t u h.1 hP, c2, bnd_s, tl_s, bX6_taken_21, if_b]
      rfl
    · rw [show d + 200 = d + 199 + 1 from rfl, aX7_taken, mIn X (d + 198) k (n := 6) rfl, c1, bnd_s, tl_s, bX7_taken_9, if_b, cond_tt rfl, mOne X (d + 197) a w [] t u h.1 hP, c2, bnd_s, tl_s, bX7_taken_20, if_b]
      rfl
  obtain ⟨k, hk, rfl⟩ := in_ex c1 (by omega)
  obtain ⟨o, ho, rfl⟩ := in_ex c2 (by omega)
  have hkd := hB.1.2.2.2.1 o
  refine q_bad X hB (vI (cond (uN (gKd (sW s) o) k) (nI (gNu (sW s) o)) (-13))) (fun d M w t u h => ?_) (fun d M w t u h => ?_)
  · rw [show d + 200 = d + 199 + 1 from rfl, aX6_taken, if_in3 (n := 6) rfl, c1, cond_tt rfl, cHas X (d + 198) (nI o) w true [] t u h.1 hP, c2, bnd_s, tl_s, bX6_taken_21, if_b, cond_tt rfl, nin_t (show o < 5 by omega), cond_tt rfl, nI_clamp (by omega), h.1.2.2.2.2.2.1 o (by omega), cUnder X (d + 198) (by omega) hk, bnd_s, tl_s, bX6_taken_40, if_b, nin_t (show o < 5 by omega), cond_tt rfl, nI_clamp (by omega), h.1.2.2.2.2.2.2.1 o (by omega)]
    cases uN (gKd (sW s) o) k <;> rfl
  · rw [show d + 200 = d + 199 + 1 from rfl, aX7_taken, mIn X (d + 198) (nI k) (n := 6) rfl, c1, bnd_s, tl_s, bX7_taken_9, if_b, cond_tt rfl, mOne X (d + 197) (nI o) w [] t u h.1 hP, c2, bnd_s, tl_s, bX7_taken_20, if_b, cond_tt rfl, nin_t (show o < 5 by omega), cond_tt rfl, nI_clamp (by omega), h.1.2.2.2.2.2.1 o ho, mTaken X (d + 198) (by omega) hk (by omega), (h.1.2.2.2.2.2.2 o (by omega)).1]
theorem cPerson (d : Nat) (a b : Int32) {M : MM} (w : Int64) (t u : Nat) {s : GS} (h : SC M s) (hB : SB s) : ∃ M2, callN X (d + 3) 52 [vR 2 0, vI a, vI b] (M, w, true, true, [], t, u) = some (some (vI (pAns s a b)), (M2, w, true, true, [], t, u)) ∧ SC M2 (pNx s a b) ∧ ∀ k i j, ¬ (3 ≤ k ∧ k ≤ 8 ∧ i = 0) → M2 k i j = M k i j := by
  have hP := hB.1.2.2.2.2.2
  have hrun : callN X (d + 3) 52 [vR 2 0, vI a, vI b] (M, w, true, true, [], t, u) = cond (nIn a 6) (cond (nIn b 10) (nBnd (callN X (d + 2) 42 [vR 3 0, vI a, vI b] (M, w, true, true, [], t, u)) (fun v s2 => nR X (callN X (d + 2)) hX6_person 32 [vR 2 0, vI a, vI b] (v.toList ++ []) s2)) (some (some (vI (-2)), (M, w, true, true, [], t, u)))) (some (some (vI (-2)), (M, w, true, true, [], t, u))) := by
    rw [show d + 3 = d + 2 + 1 from rfl, aX6_person, if_in3 (a := b) (n := 10) rfl, if_in (n := 6) rfl]
  rw [hrun]
  unfold pAns pNx pOk
  cases c1 : nIn a 6
  · exact ⟨M, rfl, h, fun _ _ _ _ => rfl⟩
  cases c2 : nIn b 10
  · exact ⟨M, rfl, h, fun _ _ _ _ => rfl⟩
  obtain ⟨kd, hkd, rfl⟩ := in_ex c1 (by omega)
  obtain ⟨nu, hnu, rfl⟩ := in_ex c2 (by omega)
  simp only [cond_true, Bool.and_self]
  rw [nI_clamp (show kd < 2 ^ 31 by omega), nI_clamp (show nu < 2 ^ 31 by omega)]
  by_cases c5 : gP (sW s) = 5
  · rw [if_pos c5, if_pos c5]
    refine ⟨M, ?_, h, fun _ _ _ _ => rfl⟩
    rw [show d + 2 = d + 1 + 1 from rfl, aX5_comes, h.1.2.2.1, c5, if_neg (by decide), bnd_s, tl_s, bX6_person_32]
  rw [if_neg c5, if_neg c5]
  have hpg := pG_Z hB.2.1.1.2 kd nu
  have hW : WC (nSt (nSt (nSt M 6 0 (gP (sW s)) (nI kd)) 7 0 (gP (sW s)) (nI nu)) 3 0 2 (nI (gP (sW s) + 1))) 0 (pG (sW s) kd nu) := by
    rw [hpg]
    exact ((h.1.kd (gP (sW s)) kd).nu (gP (sW s)) nu).ppl (gP (sW s) + 1)
  refine ⟨_, ?_, h.w hW (fun k i j _ q => (if_neg (by omega)).trans ((if_neg (by omega)).trans (if_neg (by omega)))), fun k i j q => (if_neg (by omega)).trans ((if_neg (by omega)).trans (if_neg (by omega)))⟩
  rw [show d + 2 = d + 1 + 1 from rfl, aX5_comes, nst_ne (show ¬ 3 = 7 by omega), nst_ne (show ¬ 3 = 6 by omega), h.1.2.2.1, li5, if_pos (nI_lt (by omega) (by omega)), nin_t (show gP (sW s) < 5 by omega), cond_tt rfl, cond_tt rfl, nI_clamp (by omega), nI_1, bnd_s, tl_s, bX6_person_32]
theorem mPerson (d : Nat) (a b : Int32) {M : MM} (w : Int64) (t u : Nat) {s : GS} (h : SM M s) (hB : SB s) : ∃ M2, callN X (d + 3) 123 [vR 30 0, vI a, vI b] (M, w, true, true, [], t, u) = some (some (vI (pAns s a b)), (M2, w, true, true, [], t, u)) ∧ SM M2 (pNx s a b) ∧ ∀ k i j, ¬ (34 ≤ k ∧ k ≤ 37) → ¬ (k = 30 ∧ j = 12) → M2 k i j = M k i j := by
  have hP := hB.1.2.2.2.2.2
  unfold pAns pNx pOk
  cases c1 : nIn a 6
  · refine ⟨M, ?_, h, fun _ _ _ _ _ => rfl⟩
    rw [show d + 3 = d + 2 + 1 from rfl, aX7_person, mIn X (d + 1) a (n := 6) rfl, c1, bnd_s, tl_s, bX7_person_9, if_b]
    rfl
  cases c2 : nIn b 10
  · refine ⟨M, ?_, h, fun _ _ _ _ _ => rfl⟩
    rw [show d + 3 = d + 2 + 1 from rfl, aX7_person, mIn X (d + 1) a (n := 6) rfl, c1, bnd_s, tl_s, bX7_person_9, if_b, cond_tt rfl, mIn X (d + 1) b (n := 10) rfl, c2, bnd_s, tl_s, bX7_person_21, if_b]
    rfl
  obtain ⟨kd, hkd, rfl⟩ := in_ex c1 (by omega)
  obtain ⟨nu, hnu, rfl⟩ := in_ex c2 (by omega)
  simp only [cond_true, Bool.and_self]
  rw [nI_clamp (show kd < 2 ^ 31 by omega), nI_clamp (show nu < 2 ^ 31 by omega)]
  by_cases c5 : gP (sW s) = 5
  · rw [if_pos c5, if_pos c5]
    refine ⟨M, ?_, h, fun _ _ _ _ _ => rfl⟩
    rw [show d + 3 = d + 2 + 1 from rfl, aX7_person, mIn X (d + 1) (nI kd) (n := 6) rfl, c1, bnd_s, tl_s, bX7_person_9, if_b, cond_tt rfl, mIn X (d + 1) (nI nu) (n := 10) rfl, c2, bnd_s, tl_s, bX7_person_21, if_b, cond_tt rfl, h.1.2.2.1, c5, if_pos (by decide)]
  rw [if_neg c5, if_neg c5]
  have loop : ∀ (m i : Nat) (Mi : MM), i + m = 6 → WM Mi (gP (sW s), gD (sW s), gR (sW s), gCo (sW s), flF (gSh (sW s)) (gP (sW s) * 6) i (fun _ => 0), upF (gKd (sW s)) (gP (sW s)) kd, upF (gNu (sW s)) (gP (sW s)) nu, upF (gOu (sW s)) (gP (sW s)) 0) → Mi 35 0 (gP (sW s)) = nI kd → (∀ k i j, ¬ (34 ≤ k ∧ k ≤ 37) → ¬ (k = 30 ∧ j = 12) → Mi k i j = M k i j) →
      ∃ M2, nR X (callN X (d + 2)) hX7_person 76 [vR 30 0, vI (nI kd), vI (nI nu), vI (nI i)] [] (Mi, w, true, true, [], t, u) = some (some (vI (nI (gP (sW s)))), (M2, w, true, true, [], t, u)) ∧ WM M2 (pG (sW s) kd nu) ∧ ∀ k i j, ¬ (34 ≤ k ∧ k ≤ 37) → ¬ (k = 30 ∧ j = 12) → M2 k i j = M k i j := by
    intro m
    induction m with
    | zero =>
      intro i Mi hi hW h35 hf
      have hi : i = 6 := hi
      subst hi
      rw [bX7_person_76, if_pos (by decide), nst_self, hW.2.2.1, nI_1, nI_pred]
      refine ⟨_, rfl, ⟨(nst_j (by omega)).trans hW.1, (nst_j (by omega)).trans hW.2.1, nst_self _ _ _ _ _, fun j hj => (nst_fr (by omega)).trans (hW.2.2.2.1 j hj), fun j hj => (nst_fr (by omega)).trans (hW.2.2.2.2.1 j hj), fun j hj => (nst_fr (by omega)).trans ?_, fun j hj => ⟨(nst_fr (by omega)).trans (hW.2.2.2.2.2.2 j hj).1, (nst_fr (by omega)).trans (hW.2.2.2.2.2.2 j hj).2⟩⟩, fun k i j q q2 => (nst_fr (by omega)).trans (hf k i j q q2)⟩
      have hj : j < gP (sW s) + 1 := hj
      by_cases cj : j = gP (sW s)
      · rw [cj, h35]
        show nI kd = nI (upF (gKd (sW s)) (gP (sW s)) kd (gP (sW s)))
        unfold upF
        rw [if_pos rfl]
      · exact hW.2.2.2.2.2.1 j (show j < gP (sW s) by omega)
    | succ m ih =>
      intro i Mi hi hW h35 hf
      have hW12 : Mi 30 0 12 = nI (gP (sW s)) := hW.2.2.1
      rw [bX7_person_76, li6, if_neg (nI_ge (by omega) (by omega)), hW12, pk_mul, nI_add, nin_t (show 6 * gP (sW s) + i < 30 by omega), cond_tt rfl, nI_clamp (by omega), nI_1]
      refine ih (i + 1) _ (by omega) ?_ ((nst_fr (by omega)).trans h35) (fun k i2 j q q2 => (nst_fr (by omega)).trans (hf k i2 j q q2))
      have h9 := hW.sh (gP (sW s) * 6 + i) 0
      rw [show upF (gSh (gP (sW s), gD (sW s), gR (sW s), gCo (sW s), flF (gSh (sW s)) (gP (sW s) * 6) i (fun _ => 0), upF (gKd (sW s)) (gP (sW s)) kd, upF (gNu (sW s)) (gP (sW s)) nu, upF (gOu (sW s)) (gP (sW s)) 0)) (gP (sW s) * 6 + i) 0 = flF (gSh (sW s)) (gP (sW s) * 6) (i + 1) (fun _ => 0) from flF_s (gSh (sW s)) (gP (sW s) * 6) i (fun _ => 0), Nat.mul_comm (gP (sW s)) 6] at h9
      rw [Nat.mul_comm (gP (sW s)) 6]
      exact h9
  have h0 := ((h.1.kd (gP (sW s)) kd).nu (gP (sW s)) nu).ou (gP (sW s)) 0
  have h0 : WM (nSt (nSt (nSt M 35 0 (gP (sW s)) (nI kd)) 36 0 (2 * gP (sW s)) (nI nu)) 36 0 (2 * gP (sW s) + 1) 0) (gP (sW s), gD (sW s), gR (sW s), gCo (sW s), gSh (sW s), upF (gKd (sW s)) (gP (sW s)) kd, upF (gNu (sW s)) (gP (sW s)) nu, upF (gOu (sW s)) (gP (sW s)) 0) := h0
  rw [← flF_0 (gSh (sW s)) (gP (sW s) * 6) (fun _ => 0)] at h0
  obtain ⟨M2, e1, e2, e3⟩ := loop 6 0 _ rfl h0 ((nst_fr (by omega)).trans ((nst_fr (by omega)).trans (nst_self _ _ _ _ _))) (fun k i j q q2 => (nst_fr (by omega)).trans ((nst_fr (by omega)).trans (nst_fr (by omega))))
  refine ⟨M2, ?_, h.w e2 (fun k i j _ _ q q2 => e3 k i j (by omega) (by omega)), e3⟩
  have e1 : nR X (callN X (d + 2)) hX7_person 76 [vR 30 0, vI (nI kd), vI (nI nu), vI 0] [] (nSt (nSt (nSt M 35 0 (gP (sW s)) (nI kd)) 36 0 (2 * gP (sW s)) (nI nu)) 36 0 (2 * gP (sW s) + 1) 0, w, true, true, [], t, u) = _ := e1
  rw [show d + 3 = d + 2 + 1 from rfl, aX7_person, mIn X (d + 1) (nI kd) (n := 6) rfl, c1, bnd_s, tl_s, bX7_person_9, if_b, cond_tt rfl, mIn X (d + 1) (nI nu) (n := 10) rfl, c2, bnd_s, tl_s, bX7_person_21, if_b, cond_tt rfl, h.1.2.2.1, nI_clamp (by omega), nst_fr (by omega), nst_fr (by omega), nst_fr (by omega), h.1.2.2.1, li5, if_neg (fun q => c5 ((nI_eq (by omega) (by omega)).mp q)), li2, pk_mul, li1, nI_add, nin_t (show gP (sW s) < 5 by omega), nin_t (show 2 * gP (sW s) < 10 by omega), nin_t (show 2 * gP (sW s) + 1 < 10 by omega), cond_tt rfl, cond_tt rfl, cond_tt rfl, nI_clamp (by omega), nI_clamp (by omega), e1]
theorem q_person (a b : Int32) : Stq X 52 123 [vI a, vI b] := fun s hB => ⟨_, pNx s a b, fun d M w t u h => by
  obtain ⟨M2, e1, e2, e3⟩ := cPerson X (d + 197) a b w t u h hB
  exact ⟨M2, e1, e2, fun k i j q => e3 k i j (by omega)⟩, fun d M w t u h => by
  obtain ⟨M2, e1, e2, e3⟩ := mPerson X (d + 197) a b w t u h hB
  exact ⟨M2, w, t, u, e1, e2, fun k i j q => e3 k i j (by omega) (by omega), by omega, by omega⟩, pNx_SB hB a b⟩
end
