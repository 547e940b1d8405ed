/-! set -/
def mostN (k : Nat) : Nat := if k = 0 then 999 else if k = 1 then 99 else if k = 2 then 9 else 9999
def setG (g : GW) (k j v : Nat) : GW := if k = 0 then (gP g, v, gR g, gCo g, gSh g, gKd g, gNu g, gOu g) else if k = 1 then (gP g, gD g, gR g, upF (gCo g) (plN j) v, gSh g, gKd g, gNu g, gOu g) else if k = 2 then (gP g, gD g, gR g, gCo g, gSh g, gKd g, upF (gNu g) j v, gOu g) else if k = 3 then (gP g, gD g, gR g, gCo g, upF (gSh g) (plN j) v, gKd g, gNu g, gOu g) else if k = 4 then (gP g, gD g, gR g, gCo g, gSh g, upF (gKd g) j v, gNu g, gOu g) else (gP g, gD g, v, gCo g, gSh g, gKd g, gNu g, gOu g)
def layM (M : MM) (k j : Nat) (x : Int32) : MM := if k = 0 then nSt M 30 0 7 x else if k = 1 then nSt M 34 0 (plN j) x else if k = 2 then nSt M 36 0 (2 * j) x else if k = 3 then nSt M 37 0 (plN j) x else if k = 4 then nSt M 35 0 j x else nSt M 30 0 4 x
def setM (M : MM) (k j : Nat) (x : Int32) : MM := if k = 0 then nSt M 3 0 0 x else if k = 1 then nSt M 4 0 (plN j) x else if k = 2 then nSt M 7 0 j x else nSt M 5 0 (plN j) x
theorem layM_w {M : MM} {g : GW} (h : WM M g) (k j v : Nat) : WM (layM M k j (nI v)) (setG g k j v) := by
  unfold layM setG
  split
  · exact h.day v
  split
  · exact h.co _ v
  split
  · exact h.nu _ v
  split
  · exact h.sh _ v
  split
  · exact h.kd _ v
  exact h.rule v
theorem setM_w {M : MM} {g : GW} (h : WC M 0 g) {k : Nat} (hk : k < 4) (j v : Nat) : WC (setM M k j (nI v)) 0 (setG g k j v) := by
  unfold setM setG
  split
  · exact h.day v
  split
  · exact h.co _ v
  split
  · exact h.nu _ v
  rw [if_pos (show k = 3 by omega)]
  exact h.sh _ v
theorem layM_fr (M : MM) (k j : Nat) (x : Int32) : ∀ a b c, ¬ (34 ≤ a ∧ a ≤ 37) → ¬ (a = 30 ∧ (c = 4 ∨ c = 7)) → layM M k j x a b c = M a b c := by
  intro a b c q1 q2
  unfold layM
  split
  · exact nst_fr (by omega)
  split
  · exact nst_fr (by omega)
  split
  · exact nst_fr (by omega)
  split
  · exact nst_fr (by omega)
  split
  · exact nst_fr (by omega)
  exact nst_fr (by omega)
theorem setM_fr (M : MM) (k j : Nat) (x : Int32) : ∀ a b c, ¬ (3 ≤ a ∧ a ≤ 8 ∧ b = 0) → setM M k j x a b c = M a b c := by
  intro a b c q1
  unfold setM
  split
  · exact if_neg (by omega)
  split
  · exact if_neg (by omega)
  split
  · exact if_neg (by omega)
  exact if_neg (by omega)
theorem WB_set {g : GW} (h : WB g) {k v : Nat} (hk : k < 4) (j : Nat) (hv : v ≤ mostN k) (hj : k = 3 → plN j < gP g * 6) : WB (setG g k j v) := by
  obtain ⟨h1, h2, h3, h4, h5, h6, h7⟩ := h
  have : k = 0 ∨ k = 1 ∨ k = 2 ∨ k = 3 := by omega
  rcases this with rfl | rfl | rfl | rfl
  · exact ⟨h1, hv, h3, h4, h5, h6, h7⟩
  · exact ⟨h1, h2, upF_le h3 hv, h4, h5, h6, h7⟩
  · exact ⟨h1, h2, h3, h4, h5, upF_le h6 hv, h7⟩
  · refine ⟨⟨h1.1, fun i hi => ?_, h1.2.2⟩, h2, h3, upF_le h4 hv, h5, h6, h7⟩
    have hi : gP g * 6 ≤ i := hi
    have hj := hj rfl
    show upF (gSh g) (plN j) v i = 0
    unfold upF
    rw [if_neg (by omega)]
    exact h1.2.1 i hi
theorem setG_st {g : GW} {k : Nat} (hk : k < 4) (j v : Nat) : gP (setG g k j v) = gP g ∧ gR (setG g k j v) = gR g ∧ gKd (setG g k j v) = gKd g := by
  have : k = 0 ∨ k = 1 ∨ k = 2 ∨ k = 3 := by omega
  rcases this with rfl | rfl | rfl | rfl <;> exact ⟨rfl, rfl, rfl⟩
theorem mostN_le (k : Nat) : mostN k ≤ 9999 := by
  unfold mostN
  split
  · omega
  split
  · omega
  split <;> omega
section
variable (X : Nat × (Nat → Int32))
theorem cMost (d : Nat) {k : Nat} (hk : k < 8) (M : MM) (w : Int64) (fm : Bool) (l : List (Nat × Nat × Nat)) (t u : Nat) : callN X (d + 1) 87 [vI (nI k)] (M, w, true, fm, l, t, u) = some (some (vI (nI (mostN k))), (M, w, true, fm, l, t, u)) := by
  rw [aX6_mostOf, li0, li1, li2]
  simp (disch := omega) only [nI_eq]
  unfold mostN
  by_cases c0 : k = 0
  · rw [if_pos c0, if_pos c0]; rfl
  rw [if_neg c0, if_neg c0]
  by_cases c1 : k = 1
  · rw [if_pos c1, if_pos c1]; rfl
  rw [if_neg c1, if_neg c1]
  by_cases c2 : k = 2
  · rw [if_pos c2, if_pos c2]; rfl
  rw [if_neg c2, if_neg c2]; rfl
theorem mMost (d : Nat) {k : Nat} (hk : k < 8) (M : MM) (w : Int64) (l : List (Nat × Nat × Nat)) (t u : Nat) : callN X (d + 1) 119 [vI (nI k)] (M, w, true, true, l, t, u) = some (some (vI (nI (mostN k))), (M, w, true, true, l, t, u)) := by
  rw [aX7_mostOf, li0, li1, li2]
  simp (disch := omega) only [nI_eq]
  unfold mostN
  by_cases c0 : k = 0
  · rw [if_pos c0, if_pos c0]; rfl
  rw [if_neg c0, if_neg c0]
  by_cases c1 : k = 1
  · rw [if_pos c1, if_pos c1]; rfl
  rw [if_neg c1, if_neg c1]
  by_cases c2 : k = 2
  · rw [if_pos c2, if_pos c2]; rfl
  rw [if_neg c2, if_neg c2]; rfl
theorem mLays (d : Nat) {k P : Nat} {a x : Int32} {M : MM} (w : Int64) (l : List (Nat × Nat × Nat)) (t u : Nat) (hP : P ≤ 5) (hk : k < 6) (hok : okOf k a P = true) : callN X (d + 2) 122 [vR 30 0, vI (nI k), vI a, vI x] (M, w, true, true, l, t, u) = some (none, (layM M k a.toNatClampNeg x, w, true, true, l, t, u)) := by
  rw [show d + 2 = d + 1 + 1 from rfl, aX7_lays]
  have hk8 : k = 0 ∨ k = 1 ∨ k = 2 ∨ k = 3 ∨ k = 4 ∨ k = 5 := by omega
  rcases hk8 with rfl | rfl | rfl | rfl | rfl | rfl
  · rw [if_pos (by decide)]
    rfl
  · obtain ⟨j, hj, hj2, rfl⟩ := isPl_ex (a := a) (n := 6) hok (by omega)
    have hp := plN_lt hj hj2
    rw [if_neg (by decide), if_pos (by decide), mPlOf X d (show j < 2 ^ 31 by omega), bnd_s, tl_s, bX7_lays_25, nin_t hp, cond_true, nI_clamp (by omega), nI_clamp (by omega)]
    rfl
  · obtain ⟨j, hj, rfl⟩ := in_ex (a := a) (n := P) hok (by omega)
    rw [if_neg (by decide), if_neg (by decide), if_pos (by decide), li2, pk_mul, nin_t (show 2 * j < 10 by omega), cond_true, nI_clamp (by omega), nI_clamp (by omega)]
    rfl
  · obtain ⟨j, hj, hj2, rfl⟩ := isPl_ex (a := a) (n := P) hok (by omega)
    have hp := plN_lt hj hj2
    rw [if_neg (by decide), if_neg (by decide), if_neg (by decide), if_pos (by decide), mPlOf X d (show j < 2 ^ 31 by omega), bnd_s, tl_s, bX7_lays_60, nin_t (show plN j < 30 by omega), cond_true, nI_clamp (by omega), nI_clamp (by omega)]
    rfl
  · obtain ⟨j, hj, rfl⟩ := in_ex (a := a) (n := P) hok (by omega)
    rw [if_neg (by decide), if_neg (by decide), if_neg (by decide), if_neg (by decide), if_pos (by decide), nin_t (show j < 5 by omega), cond_true, nI_clamp (by omega)]
    rfl
  · rw [if_neg (by decide), if_neg (by decide), if_neg (by decide), if_neg (by decide), if_neg (by decide)]
    rfl
theorem tVal_lt {g : GW} (h : WB g) (k j : Nat) : tVal g k j < 2 ^ 30 := by
  obtain ⟨h1, h2, h3, h4, h5, h6, h7⟩ := h
  have s1 := sumN_le (h := fun i => gSh g (j * 6 + i)) (m := 9999) 6 (fun i _ => h4 _)
  have s2 := sumN_le (h := fun i => gCo g (j * 6 + i)) (m := 99) 6 (fun i _ => h3 _)
  have e3 := h3 (plN j)
  have e4 := h4 (plN j)
  have e5 := h5 j
  have e6 := h6 j
  have e7 := h7 j
  unfold tVal
  split
  · omega
  split
  · omega
  split
  · omega
  split
  · omega
  split
  · omega
  split
  · omega
  split <;> omega
theorem q_set (k a v : Int32) : Stq X 51 121 [vI k, vI a, vI v] := fun s hB => by
  have hP := hB.1.2.2.2.2.2
  have bad : (∀ (d : Nat) (M : MM) (w : Int64) (t u : Nat), SC M s → callN X (d + 200) 51 [vR 2 0, vI k, vI a, vI v] (M, w, true, true, [], t, u) = some (some (vI (-2)), (M, w, true, true, [], t, u))) → (∀ (d : Nat) (M : MM) (w : Int64) (t u : Nat), SM M s → callN X (d + 200) 121 [vR 30 0, vI k, vI a, vI v] (M, w, true, true, [], t, u) = some (some (vI (-2)), (M, w, true, true, [], t, u))) → ∃ (v2 : AV) (s2 : GS), CSp X 51 [vI k, vI a, vI v] v2 s s2 ∧ MSp X 121 [vI k, vI a, vI v] v2 s s2 ∧ SB s2 := fun h1 h2 => ⟨_, s, CSp.n X h1, MSp.n X h2, hB⟩
  cases c : nIn k 4
  · refine bad (fun d M w t u h => ?_) (fun d M w t u h => ?_)
    · rw [show d + 200 = d + 199 + 1 from rfl, aX6_set, if_in2 (n := 4) rfl, c]
      rfl
    · rw [show d + 200 = d + 199 + 1 from rfl, aX7_set, mIn X (d + 198) k (n := 4) rfl, c, bnd_s, tl_s, bX7_set_9, if_b]
      rfl
  obtain ⟨k, hk, rfl⟩ := in_ex c (by omega)
  have hc1 : ∀ (d : Nat) (M : MM) (w : Int64) (t u : Nat), SC M s → callN X (d + 200) 51 [vR 2 0, vI (nI k), vI a, vI v] (M, w, true, true, [], t, u) = if (cond (okOf k a (gP (sW s))) (nI (tVal (sW s) k a.toNatClampNeg)) (-2)) = -2 then some (some (vI (-2)), (M, w, true, true, [], t, u)) else if v < 0 then some (some (vI (-2)), (M, w, true, true, [], t, u)) else nR X (callN X (d + 199)) hX6_set 36 [vR 2 0, vI (nI k), vI a, vI v, vI (cond (okOf k a (gP (sW s))) (nI (tVal (sW s) k a.toNatClampNeg)) (-2))] [vI (nI (mostN k)), vI v] (M, w, true, true, [], t, u) := by
    intro d M w t u h
    rw [show d + 200 = d + 199 + 1 from rfl, aX6_set, if_in2 (n := 4) rfl, c, cond_true, cTold X (d + 195) a w true [] t u h.1 hP (by omega), bnd_s, tl_s, bX6_set_18, cMost X (d + 198) (by omega), bnd_s]
    rfl
  have hm1 : ∀ (d : Nat) (M : MM) (w : Int64) (t u : Nat), SM M s → callN X (d + 200) 121 [vR 30 0, vI (nI k), vI a, vI v] (M, w, true, true, [], t, u) = cond (okOf k a (gP (sW s))) (cond (nIn v (mostN k + 1)) (nR X (callN X (d + 199)) hX7_set 44 [vR 30 0, vI (nI k), vI a, vI v, vX] [vI (nI (tVal (sW s) k a.toNatClampNeg))] (M, w, true, true, [], t, u)) (some (some (vI (-2)), (M, w, true, true, [], t, u)))) (some (some (vI (-2)), (M, w, true, true, [], t, u))) := by
    intro d M w t u h
    rw [show d + 200 = d + 199 + 1 from rfl, aX7_set, mIn X (d + 198) (nI k) (n := 4) rfl, c, bnd_s, tl_s, bX7_set_9, if_b]
    simp only [cond_true]
    rw [mIsOf X (d + 196) a w [] t u h.1 hP (by omega), bnd_s, tl_s, bX7_set_18, if_b]
    cases c2 : okOf k a (gP (sW s))
    · rfl
    simp only [cond_true]
    have hmo := mostN_le k
    rw [mMost X (d + 198) (by omega), bnd_s]
    show nR X (callN X (d + 199)) hX7_set 28 [vR 30 0, vI (nI k), vI a, vI v, vX] [vI (nI (mostN k)), vL 0, vL v.toInt64] _ = _
    rw [bX7_set_28, mIn X (d + 198) v (n := mostN k + 1) (by rw [Int32.toInt_toInt64, nI_toInt (by omega)]; omega), bnd_s, tl_s, bX7_set_32, if_b]
    cases c3 : nIn v (mostN k + 1)
    · rfl
    simp only [cond_true]
    rw [mTold X (d + 195) a w [] t u h.1 hP (by omega), bnd_s, tl_s, c2]
    rfl
  cases c2 : okOf k a (gP (sW s))
  · refine bad (fun d M w t u h => ?_) (fun d M w t u h => ?_)
    · rw [hc1 d M w t u h, c2]
      rfl
    · rw [hm1 d M w t u h, c2]
      rfl
  rw [c2] at hc1 hm1
  simp only [cond_true] at hc1 hm1
  have hne : ¬ nI (tVal (sW s) k a.toNatClampNeg) = -2 := fun q => by
    have h9 := tVal_lt hB.2.1 k a.toNatClampNeg
    have := nI_toInt (n := tVal (sW s) k a.toNatClampNeg) (by omega)
    rw [q] at this
    have e2 : (-2 : Int32).toInt = -2 := rfl
    omega
  have hmo := mostN_le k
  cases c3 : nIn v (mostN k + 1)
  · refine bad (fun d M w t u h => ?_) (fun d M w t u h => ?_)
    · rw [hc1 d M w t u h, if_neg hne]
      by_cases c4 : v < 0
      · rw [if_pos c4]
      rw [if_neg c4, bX6_set_36]
      obtain ⟨x, hx, rfl⟩ := nI_of c4
      rw [if_neg (fun q => ?_)]
      rw [nI_leI (by omega) (by omega)] at q
      rw [nin_t (by omega)] at c3
      cases c3
    · rw [hm1 d M w t u h, c3]
      rfl
  obtain ⟨x, hx, rfl⟩ := in_ex c3 (by omega)
  have hst := setG_st (g := sW s) hk a.toNatClampNeg x
  have hj3 : k = 3 → plN a.toNatClampNeg < gP (sW s) * 6 := fun q => by
    subst q
    obtain ⟨j, hj, hj2, rfl⟩ := isPl_ex (a := a) (n := gP (sW s)) c2 (by omega)
    have hp := plN_lt hj hj2
    rw [nI_clamp (show j < 2 ^ 31 by omega)]
    omega
  have hB2 : SB (setG (sW s) k a.toNatClampNeg x, s.2) := hB.w0 (WB_set hB.2.1 hk _ (by omega) hj3) (by rw [hst.2.1]; exact hB.1.1) hst.1 hst.2.2
  refine ⟨vI (nI (tVal (sW s) k a.toNatClampNeg)), (setG (sW s) k a.toNatClampNeg x, s.2), fun d M w t u h => ⟨setM M k a.toNatClampNeg (nI x), ?_, h.w (setM_w h.1 hk _ _) (fun p i j _ q => setM_fr _ _ _ _ _ _ _ q), fun p i j q => setM_fr _ _ _ _ _ _ _ (by omega)⟩, fun d M w t u h => ⟨layM M k a.toNatClampNeg (nI x), w, t, u, ?_, h.w (layM_w h.1 _ _ _) (fun p i j q1 q2 q3 q4 => layM_fr _ _ _ _ _ _ _ (by omega) (by omega)), fun p i j q => layM_fr _ _ _ _ _ _ _ (by omega) (by omega), by omega, by omega⟩, hB2⟩
  · rw [hc1 d M w t u h, if_neg hne, if_neg (nI_pos (by omega)), bX6_set_36, if_pos (nI_le (by omega) (by omega))]
    have hk8 : k = 0 ∨ k = 1 ∨ k = 2 ∨ k = 3 := by omega
    rcases hk8 with rfl | rfl | rfl | rfl
    · rw [if_pos (by decide)]
      rfl
    · obtain ⟨j, hj, hj2, rfl⟩ := isPl_ex (a := a) (n := 6) c2 (by omega)
      have hp := plN_lt hj hj2
      rw [if_neg (by decide), if_pos (by decide), cPlOf X (d + 198) (show j < 2 ^ 31 by omega), bnd_s, tl_s, bX6_set_90, nin_t hp, cond_true, nI_clamp (show plN j < 2 ^ 31 by omega), nI_clamp (show j < 2 ^ 31 by omega)]
      rfl
    · obtain ⟨j, hj, rfl⟩ := in_ex (a := a) (n := gP (sW s)) c2 (by omega)
      rw [if_neg (by decide), if_neg (by decide), if_pos (by decide), nin_t (show j < 5 by omega), cond_true]
      rfl
    · obtain ⟨j, hj, hj2, rfl⟩ := isPl_ex (a := a) (n := gP (sW s)) c2 (by omega)
      have hp := plN_lt hj hj2
      rw [if_neg (by decide), if_neg (by decide), if_neg (by decide), cPlOf X (d + 198) (show j < 2 ^ 31 by omega), bnd_s, tl_s, bX6_set_119, nin_t (show plN j < 30 by omega), cond_true, nI_clamp (show plN j < 2 ^ 31 by omega), nI_clamp (show j < 2 ^ 31 by omega)]
      rfl
  · rw [hm1 d M w t u h, c3, cond_true, bX7_set_44, mLays X (d + 197) w [] t u hP (by omega) c2, bnd_s, tl_n, bX7_set_53]
end
