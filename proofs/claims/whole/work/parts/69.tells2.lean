/-! tells: the model tries one after another, from the last, and lays all back -/
theorem setG_set {g : GW} {k o a b : Nat} (hk : k = 0 ∨ k = 2 ∨ k = 4 ∨ k = 5) : setG (setG g k o a) k o b = setG g k o b := by
  rcases hk with rfl | rfl | rfl | rfl
  · rfl
  · show (gP g, gD g, gR g, gCo g, gSh g, gKd g, upF (upF (gNu g) o a) o b, gOu g) = (gP g, gD g, gR g, gCo g, gSh g, gKd g, upF (gNu g) o b, gOu g)
    rw [upF_up]
  · show (gP g, gD g, gR g, gCo g, gSh g, upF (upF (gKd g) o a) o b, gNu g, gOu g) = (gP g, gD g, gR g, gCo g, gSh g, upF (gKd g) o b, gNu g, gOu g)
    rw [upF_up]
  · rfl
def wasV (g : GW) (k o : Nat) : Nat := if k = 0 then gD g else if k = 2 then gNu g o else if k = 4 then gKd g o else gR g
theorem setG_was {g : GW} {k o : Nat} (hk : k = 0 ∨ k = 2 ∨ k = 4 ∨ k = 5) : setG g k o (wasV g k o) = g := by
  rcases hk with rfl | rfl | rfl | rfl
  · rfl
  · show (gP g, gD g, gR g, gCo g, gSh g, gKd g, upF (gNu g) o (gNu g o), gOu g) = g
    rw [upF_id]
  · show (gP g, gD g, gR g, gCo g, gSh g, upF (gKd g) o (gKd g o), gNu g, gOu g) = g
    rw [upF_id]
  · rfl
theorem va_TB {s : GS} {k o v : Nat} (hB : TB s) (h : (k = 0) ∨ (k = 2 ∧ v ≤ 9) ∨ (k = 4 ∧ v ≤ 5) ∨ (k = 5 ∧ v < sN s)) : TB (vaS s k o v) := by
  rcases h with rfl | ⟨rfl, h⟩ | ⟨rfl, h⟩ | ⟨rfl, h⟩
  · exact hB
  · exact ⟨hB.1, hB.2.1, hB.2.2.1, hB.2.2.2.1, upF_le hB.2.2.2.2.1 h, hB.2.2.2.2.2⟩
  · exact ⟨hB.1, hB.2.1, hB.2.2.1, upF_le hB.2.2.2.1 h, hB.2.2.2.2.1, hB.2.2.2.2.2⟩
  · exact ⟨h, hB.2.1, hB.2.2.1, hB.2.2.2.1, hB.2.2.2.2.1, hB.2.2.2.2.2⟩
theorem vaS_P (s : GS) {k : Nat} (hk : k = 0 ∨ k = 2 ∨ k = 4 ∨ k = 5) (o v : Nat) : gP (sW (vaS s k o v)) = gP (sW s) := by
  rcases hk with rfl | rfl | rfl | rfl <;> rfl
/-- what the model has gathered, from v on up to n -/
def gB (ok : Nat → Bool) : Nat → Nat → Nat
  | 0, _ => 0
  | m + 1, v => cond (ok v) (gB ok m (v + 1) ||| (if v < 10 then 2 ^ v else 0)) (gB ok m (v + 1))
def gC (ok : Nat → Bool) : Nat → Nat → Nat
  | 0, _ => 0
  | m + 1, v => cond (ok v) (gC ok m (v + 1) + 1) (gC ok m (v + 1))
theorem gC_all (ok : Nat → Bool) : ∀ m v, gC ok m v + cN ok v = cN ok (v + m)
  | 0, v => by
    show 0 + cN ok v = cN ok v
    omega
  | m + 1, v => by
    have h1 := gC_all ok m (v + 1)
    have h2 : cN ok (v + 1) = cN ok v + cond (ok v) 1 0 := rfl
    show cond (ok v) (gC ok m (v + 1) + 1) (gC ok m (v + 1)) + cN ok v = cN ok (v + (m + 1))
    rw [show v + (m + 1) = v + 1 + m by omega, ← h1, h2]
    cases ok v
    · show gC ok m (v + 1) + cN ok v = gC ok m (v + 1) + (cN ok v + 0)
      omega
    · show gC ok m (v + 1) + 1 + cN ok v = gC ok m (v + 1) + (cN ok v + 1)
      omega
theorem gB_all (ok : Nat → Bool) : ∀ m v, v + m ≤ 10 → gB ok m v ||| bN ok v = bN ok (v + m)
  | 0, v, _ => Nat.zero_or _
  | m + 1, v, h => by
    have h1 := gB_all ok m (v + 1) (by omega)
    have h2 : bN ok (v + 1) = cond (ok v) (bN ok v ||| 2 ^ v) (bN ok v) := rfl
    show cond (ok v) (gB ok m (v + 1) ||| (if v < 10 then 2 ^ v else 0)) (gB ok m (v + 1)) ||| bN ok v = bN ok (v + (m + 1))
    rw [show v + (m + 1) = v + 1 + m by omega, ← h1, h2, if_pos (show v < 10 by omega)]
    cases ok v
    · rfl
    · show (gB ok m (v + 1) ||| 2 ^ v) ||| bN ok v = gB ok m (v + 1) ||| (bN ok v ||| 2 ^ v)
      rw [Nat.or_assoc, Nat.or_comm (2 ^ v)]
section
variable (X : Nat × (Nat → Int32))
theorem mTellsLoop (d : Nat) {M0 : MM} (w0 : Int64) (t u : Nat) {s : GS} {p o c k n what : Nat} {x7 : Int32} (h0 : SM M0 s) (hB : TB s) (ho : o < gP (sW s)) (hp : p < 4) (hc : c < 6) (hth : (sH s p).1 = true) (h6 : (sH s p).2.2.1 ≤ 6) (hk : k = 0 ∨ k = 2 ∨ k = 4 ∨ k = 5) (hn : n ≤ 100) (hbd : ∀ v, v < n → (k = 0) ∨ (k = 2 ∧ v ≤ 9) ∨ (k = 4 ∧ v ≤ 5) ∨ (k = 5 ∧ v < sN s)) :
    ∃ (M2 : MM) (w2 : Int64), nR X (callN X (d + 56)) hX7_tells 206 [vR 30 0, vI (nI p), vI (nI o), vI (nI c), vI (nI what), vI (nI k), vI (nI (wasV (sW s) k o)), vI x7, vI 0, vI 0, vI (-1), vI (nI n - 1)] [] (M0, w0, true, true, [], t, u) = some (some (vI (if nI what = 3 then nI (cN (okY s p o c k) n) else if nI what = 4 then lF (okY s p o c k) n 0 else nI (gB (okY s p o c k) n 0))), (M2, w2, true, true, [], t, u)) ∧ SM M2 s ∧ ∀ a b j, a < 30 → M2 a b j = M0 a b j := by
  have hP := hB.2.2.2.2.2
  have hok : okOf k (nI o) (gP (sW s)) = true := by
    rcases hk with rfl | rfl | rfl | rfl
    · rfl
    · exact nin_t ho
    · exact nin_t ho
    · exact nin_t ho
  have loop : ∀ (v m : Nat) (Mi : MM) (wi : Int64) (a : Nat), v + m = n → SM Mi (vaS s k o a) → (∀ a b j, a < 30 → Mi a b j = M0 a b j) → ∃ (M2 : MM) (w2 : Int64), nR X (callN X (d + 56)) hX7_tells 206 [vR 30 0, vI (nI p), vI (nI o), vI (nI c), vI (nI what), vI (nI k), vI (nI (wasV (sW s) k o)), vI x7, vI (nI (gB (okY s p o c k) m v)), vI (nI (gC (okY s p o c k) m v)), vI (lF (okY s p o c k) m v), vI (nI v - 1)] [] (Mi, wi, true, true, [], t, u) = some (some (vI (if nI what = 3 then nI (cN (okY s p o c k) n) else if nI what = 4 then lF (okY s p o c k) n 0 else nI (gB (okY s p o c k) n 0))), (M2, w2, true, true, [], t, u)) ∧ SM M2 s ∧ ∀ a b j, a < 30 → M2 a b j = M0 a b j := by
    intro v
    induction v with
    | zero =>
      intro m Mi wi a hm hS hf
      have hm : m = n := by omega
      subst hm
      have hS2 : SM (layM Mi k (nI o).toNatClampNeg (nI (wasV (sW s) k o))) s := by
        rw [nI_clamp (by omega)]
        have h9 := layM_w hS.1 k o (wasV (sW s) k o)
        rw [show sW (vaS s k o a) = setG (sW s) k o a from rfl, setG_set hk, setG_was hk] at h9
        have h8 := hS.w h9 (fun a b j q1 q2 q3 q4 => layM_fr _ _ _ _ _ _ _ (by omega) (by omega))
        exact h8
      refine ⟨_, wi, ?_, hS2, fun a b j q => (layM_fr _ _ _ _ _ _ _ (by omega) (by omega)).trans (hf a b j q)⟩
      have h9 := gC_all (okY s p o c k) m 0
      have h9 : gC (okY s p o c k) m 0 = cN (okY s p o c k) m := by
        rw [Nat.zero_add] at h9
        exact h9
      rw [bX7_tells_206, if_pos (show nI 0 - 1 < 0 by decide), mLays X (d + 54) wi [] t u hP (by omega) hok, bnd_s, tl_n, bX7_tells_273, h9]
      by_cases c3 : nI what = 3
      · rw [if_pos c3, if_pos c3]
      rw [if_neg c3, if_neg c3]
      by_cases c4 : nI what = 4
      · rw [if_pos c4, if_pos c4]
      rw [if_neg c4, if_neg c4]
    | succ v ih =>
      intro m Mi wi a hm hS hf
      have hS2 : SM (layM Mi k (nI o).toNatClampNeg (nI v)) (vaS s k o v) := by
        rw [nI_clamp (by omega)]
        have h9 := layM_w hS.1 k o v
        rw [show sW (vaS s k o a) = setG (sW s) k o a from rfl, setG_set hk] at h9
        exact hS.w h9 (fun a b j q1 q2 q3 q4 => layM_fr _ _ _ _ _ _ _ (by omega) (by omega))
      have hTB := va_TB (o := o) hB (hbd v (by omega))
      obtain ⟨M1, w1, e1, e2⟩ := mFo X (d + 1) wi t u (p := p) (o := o) (c := c) hS2 hTB (by rw [vaS_P s hk]; exact ho) hp hc hth h6
      have e1 : callN X (d + 56) 176 [vR 30 0, vI (nI p), vI (nI o), vI (nI c)] (layM Mi k (nI o).toNatClampNeg (nI v), wi, true, true, [], t, u) = _ := e1
      have hdec : nI v + -1 = nI v - 1 := by rw [Int32.sub_eq_add_neg]
      rw [nI_pred, bX7_tells_206, if_neg (nI_pos (by omega)), mLays X (d + 54) wi [] t u hP (by omega) hok, bnd_s, tl_n, bX7_tells_220, e1, bnd_s, tl_s, bX7_tells_227, hdec, nI_1, Int32.or_zero]
      have hih := ih (m + 1) M1 w1 v (by omega) (hS2.fr e2.M) (fun a b j q => (e2 a b j (by omega)).trans ((layM_fr _ _ _ _ _ _ _ (by omega) (by omega)).trans (hf a b j q)))
      have g1 : gB (okY s p o c k) (m + 1) v = cond (okY s p o c k v) (gB (okY s p o c k) m (v + 1) ||| (if v < 10 then 2 ^ v else 0)) (gB (okY s p o c k) m (v + 1)) := rfl
      have g2 : gC (okY s p o c k) (m + 1) v = cond (okY s p o c k v) (gC (okY s p o c k) m (v + 1) + 1) (gC (okY s p o c k) m (v + 1)) := rfl
      have g3 : lF (okY s p o c k) (m + 1) v = cond (okY s p o c k v) (nI v) (lF (okY s p o c k) m (v + 1)) := rfl
      rw [g1, g2, g3] at hih
      by_cases z : foS (vaS s k o v) p o c = -1
      · have hz : okY s p o c k v = true := decide_eq_true z
        rw [hz] at hih
        rw [if_pos z]
        by_cases z2 : v < 10
        · rw [if_neg (show ¬ (10 : Int32) ≤ nI v from nI_ge (b := 10) z2 (by omega)), bit_nI2 v z2, nI_or]
          rw [if_pos z2] at hih
          exact hih
        · rw [if_pos (show (10 : Int32) ≤ nI v from nI_le (a := 10) (by omega) (by omega))]
          rw [if_neg z2, Nat.or_zero] at hih
          exact hih
      · have hz : okY s p o c k v = false := decide_eq_false z
        rw [hz] at hih
        rw [if_neg z]
        exact hih
  have hS0 : SM M0 (vaS s k o (wasV (sW s) k o)) := by
    have : vaS s k o (wasV (sW s) k o) = s := by
      show (setG (sW s) k o (wasV (sW s) k o), s.2) = s
      rw [setG_was hk]
    rw [this]
    exact h0
  exact loop n 0 M0 w0 (wasV (sW s) k o) (Nat.add_zero _) hS0 (fun _ _ _ _ => rfl)
theorem q_tells (i a c k : Int32) : Stq X 68 178 [vI i, vI a, vI c, vI k] := fun s hB => by
  have hP := hB.1.2.2.2.2.2
  cases c0 : nIn i 4
  · refine q_bad X hB (vI (-2)) (fun d M w t u h => ?_) (fun d M w t u h => ?_)
    · rw [show d + 200 = d + 199 + 1 from rfl, aX6_tells, cSheet, c0, bnd_s, tl_s, bX6_tells_4, if_b]
      rfl
    · rw [show d + 200 = d + 199 + 1 from rfl, aX7_tells, mSheet, c0, bnd_s, tl_s, bX7_tells_4, if_b]
      rfl
  cases c1 : nIn a (gP (sW s))
  · refine q_bad X hB (vI (-2)) (fun d M w t u h => ?_) (fun d M w t u h => ?_)
    · rw [show d + 200 = d + 199 + 1 from rfl, aX6_tells, cSheet, c0, bnd_s, tl_s, bX6_tells_4, if_b, cond_tt rfl, cHas X (d + 198) a w true [] t u h.1 hP, c1, bnd_s, tl_s, bX6_tells_15, if_b]
      rfl
    · rw [show d + 200 = d + 199 + 1 from rfl, aX7_tells, mSheet, c0, bnd_s, tl_s, bX7_tells_4, if_b, cond_tt rfl, mOne X (d + 197) a w [] t u h.1 hP, c1, bnd_s, tl_s, bX7_tells_12, if_b]
      rfl
  cases c2 : nIn c 6
  · refine q_bad X hB (vI (-2)) (fun d M w t u h => ?_) (fun d M w t u h => ?_)
    · rw [show d + 200 = d + 199 + 1 from rfl, aX6_tells, cSheet, c0, bnd_s, tl_s, bX6_tells_4, if_b, cond_tt rfl, cHas X (d + 198) a w true [] t u h.1 hP, c1, bnd_s, tl_s, bX6_tells_15, if_b, cond_tt rfl, cCoast, c2, bnd_s, tl_s, bX6_tells_22, if_b]
      rfl
    · rw [show d + 200 = d + 199 + 1 from rfl, aX7_tells, mSheet, c0, bnd_s, tl_s, bX7_tells_4, if_b, cond_tt rfl, mOne X (d + 197) a w [] t u h.1 hP, c1, bnd_s, tl_s, bX7_tells_12, if_b, cond_tt rfl, mCoast, c2, bnd_s, tl_s, bX7_tells_19, if_b]
      rfl
  cases c3 : nIn k 7
  · refine q_bad X hB (vI (-2)) (fun d M w t u h => ?_) (fun d M w t u h => ?_)
    · rw [show d + 200 = d + 199 + 1 from rfl, aX6_tells, cSheet, c0, bnd_s, tl_s, bX6_tells_4, if_b, cond_tt rfl, cHas X (d + 198) a w true [] t u h.1 hP, c1, bnd_s, tl_s, bX6_tells_15, if_b, cond_tt rfl, cCoast, c2, bnd_s, tl_s, bX6_tells_22, if_b, cond_tt rfl, if_in2 (n := 7) rfl, c3]
      rfl
    · rw [show d + 200 = d + 199 + 1 from rfl, aX7_tells, mSheet, c0, bnd_s, tl_s, bX7_tells_4, if_b, cond_tt rfl, mOne X (d + 197) a w [] t u h.1 hP, c1, bnd_s, tl_s, bX7_tells_12, if_b, cond_tt rfl, mCoast, c2, bnd_s, tl_s, bX7_tells_19, if_b, cond_tt rfl, mIn X (d + 198) k (n := 7) rfl, c3, bnd_s, tl_s, bX7_tells_32, if_b]
      rfl
  obtain ⟨p, hp, rfl⟩ := in_ex c0 (by omega)
  obtain ⟨o, ho, rfl⟩ := in_ex c1 (by omega)
  obtain ⟨c, hc6, rfl⟩ := in_ex c2 (by omega)
  obtain ⟨k, hk7, rfl⟩ := in_ex c3 (by omega)
  have ho5 : o < 5 := by omega
  have hbp := hB.2.2.2.2 p hp
  have hN : sN s ≤ 6 := hB.1.2.1
  have hc : ∀ (d : Nat) (M : MM) (w : Int64) (t u : Nat), SC M s → callN X (d + 200) 68 [vR 2 0, vI (nI p), vI (nI o), vI (nI c), vI (nI k)] (M, w, true, true, [], t, u) = cond (sH s p).1 (nR X (callN X (d + 199)) hX6_tells 53 [vR 2 0, vI (nI p), vI (nI o), vI (nI c), vI (nI k), vR 18 p] [vI 0] (M, w, true, true, [], t, u)) (some (some (vI (-11)), (M, w, true, true, [], t, u))) := by
    intro d M w t u h
    rw [show d + 200 = d + 199 + 1 from rfl, aX6_tells, cSheet, c0, bnd_s, tl_s, bX6_tells_4, if_b, cond_tt rfl, cHas X (d + 198) (nI o) w true [] t u h.1 hP, c1, bnd_s, tl_s, bX6_tells_15, if_b, cond_tt rfl, cCoast, c2, bnd_s, tl_s, bX6_tells_22, if_b, cond_tt rfl, if_in2 (n := 7) rfl, c3, cond_tt rfl, c0, cond_tt rfl, nI_clamp (show p < 2 ^ 31 by omega), cMiss X (d + 198) w t u (h.2.2.2.2 p hp) (fun q => (hbp q).1), bnd_s, tl_s]
    cases (sH s p).1
    · rw [bX6_tells_53]
      rfl
    · rfl
  have hm : ∀ (d : Nat) (M : MM) (w : Int64) (t u : Nat), SM M s → callN X (d + 200) 178 [vR 30 0, vI (nI p), vI (nI o), vI (nI c), vI (nI k)] (M, w, true, true, [], t, u) = nR X (callN X (d + 199)) hX7_tells 32 [vR 30 0, vI (nI p), vI (nI o), vI (nI c), vI (nI k), vX, vX, vX, vX, vX, vX, vX] [vI 1] (M, w, true, true, [], t, u) := by
    intro d M w t u h
    rw [show d + 200 = d + 199 + 1 from rfl, aX7_tells, mSheet, c0, bnd_s, tl_s, bX7_tells_4, if_b, cond_tt rfl, mOne X (d + 197) (nI o) w [] t u h.1 hP, c1, bnd_s, tl_s, bX7_tells_12, if_b, cond_tt rfl, mCoast, c2, bnd_s, tl_s, bX7_tells_19, if_b, cond_tt rfl, mIn X (d + 198) (nI k) (n := 7) rfl, c3, bnd_s, tl_s]
    rfl
  cases c4 : (sH s p).1
  · refine q_bad X hB (vI (-11)) (fun d M w t u h => by rw [hc d M w t u h, c4]; rfl) (fun d M w t u h => ?_)
    rw [hm d M w t u h, bX7_tells_32, if_neg (by decide), c0, cond_tt rfl, nI_clamp (by omega), (h.2.2.2.2 p hp).1, c4]
    rfl
  have hbp := hbp c4
  by_cases c6 : (sH s p).2.2.1 ≤ 6
  rotate_left
  · have hne : ¬ nI (sH s p).2.2.1 ≤ 6 := fun q => c6 ((nI_leI (b := 6) (by omega) (by omega)).mp q)
    refine q_bad X hB (vI (-2)) (fun d M w t u h => ?_) (fun d M w t u h => ?_)
    · rw [hc d M w t u h, c4, cond_tt rfl, bX6_tells_53, if_pos rfl, ((h.2.2.2.2 p hp).2 c4).2.1, if_neg hne]
    · rw [hm d M w t u h, bX7_tells_32, if_neg (by decide), c0, cond_tt rfl, cond_tt rfl, nI_clamp (by omega), (h.2.2.2.2 p hp).1, c4, if_b, cond_tt rfl, ((h.2.2.2.2 p hp).2 c4).2.1, if_neg hne]
  have hle6 : nI (sH s p).2.2.1 ≤ 6 := nI_le (b := 6) c6 (by omega)
  have hc2 : ∀ (d : Nat) (M : MM) (w : Int64) (t u : Nat), SC M s → callN X (d + 200) 68 [vR 2 0, vI (nI p), vI (nI o), vI (nI c), vI (nI k)] (M, w, true, true, [], t, u) = if nI k = 1 then nBnd (callN X (d + 199) 106 [vR 2 0, vR 18 p, vI (nI o), vI (nI c), vI 1, vI 6] (M, w, true, true, [], t, u)) (fun v s2 => nR X (callN X (d + 199)) hX6_tells 123 [vR 2 0, vI (nI p), vI (nI o), vI (nI c), vI (nI k), vR 18 p] (v.toList ++ []) s2) else if nI k = 2 then nBnd (callN X (d + 199) 106 [vR 2 0, vR 18 p, vI (nI o), vI (nI c), vI 2, vI 10] (M, w, true, true, [], t, u)) (fun v s2 => nR X (callN X (d + 199)) hX6_tells 135 [vR 2 0, vI (nI p), vI (nI o), vI (nI c), vI (nI k), vR 18 p] (v.toList ++ []) s2) else if nI k = 3 then nBnd (callN X (d + 199) 107 [vR 2 0, vR 18 p, vI (nI o), vI (nI c)] (M, w, true, true, [], t, u)) (fun v s2 => nR X (callN X (d + 199)) hX6_tells 144 [vR 2 0, vI (nI p), vI (nI o), vI (nI c), vI (nI k), vR 18 p] (v.toList ++ []) s2) else if nI k = 4 then nBnd (callN X (d + 199) 108 [vR 2 0, vR 18 p, vI (nI o), vI (nI c)] (M, w, true, true, [], t, u)) (fun v s2 => nR X (callN X (d + 199)) hX6_tells 153 [vR 2 0, vI (nI p), vI (nI o), vI (nI c), vI (nI k), vR 18 p] (v.toList ++ []) s2) else if nI k = 5 then nBnd (callN X (d + 199) 106 [vR 2 0, vR 18 p, vI (nI o), vI (nI c), vI 5, vI 6] (M, w, true, true, [], t, u)) (fun v s2 => nR X (callN X (d + 199)) hX6_tells 165 [vR 2 0, vI (nI p), vI (nI o), vI (nI c), vI (nI k), vR 18 p] (v.toList ++ []) s2) else if nI k = 6 then nBnd (callN X (d + 199) 106 [vR 2 0, vR 18 p, vI (nI o), vI (nI c), vI 6, vI (nI (sN s))] (M, w, true, true, [], t, u)) (fun v s2 => nR X (callN X (d + 199)) hX6_tells 180 [vR 2 0, vI (nI p), vI (nI o), vI (nI c), vI (nI k), vR 18 p] (v.toList ++ []) s2) else nBnd (callN X (d + 199) 105 [vR 2 0, vR 18 p, vI (nI o), vI (nI c), vI 0, vI 0] (M, w, true, true, [], t, u)) (fun v s2 => nR X (callN X (d + 199)) hX6_tells 191 [vR 2 0, vI (nI p), vI (nI o), vI (nI c), vI (nI k), vR 18 p] (v.toList ++ []) s2) := by
    intro d M w t u h
    rw [hc d M w t u h, c4, cond_tt rfl, bX6_tells_53, if_pos rfl, ((h.2.2.2.2 p hp).2 c4).2.1, if_pos hle6, h.2.2.2.1.1]
  have hm2 : ∀ (d : Nat) (M : MM) (w : Int64) (t u : Nat), SM M s → (k = 1 ∨ k = 2 ∨ k = 3 ∨ k = 4 ∨ k = 6) → ∃ x7 : Int32, callN X (d + 200) 178 [vR 30 0, vI (nI p), vI (nI o), vI (nI c), vI (nI k)] (M, w, true, true, [], t, u) = nR X (callN X (d + 199)) hX7_tells 206 [vR 30 0, vI (nI p), vI (nI o), vI (nI c), vI (nI k), vI (nI (if k = 1 then 4 else if k = 2 then 2 else if k = 6 then 5 else 0)), vI (nI (wasV (sW s) (if k = 1 then 4 else if k = 2 then 2 else if k = 6 then 5 else 0) o)), vI x7, vI 0, vI 0, vI (-1), vI (nI (if k = 1 then 6 else if k = 2 then 10 else if k = 6 then sN s else 100) - 1)] [] (M, w, true, true, [], t, u) := by
    intro d M w t u h hkk
    have h45 : M 45 0 p = 1 := (h.2.2.2.2 p hp).1.trans (by rw [c4]; rfl)
    have h47 : M 47 0 p = nI (sH s p).2.2.1 := ((h.2.2.2.2 p hp).2 c4).2.1
    have ok4 : okOf 4 (nI o) (gP (sW s)) = true := nin_t ho
    have ok2 : okOf 2 (nI o) (gP (sW s)) = true := nin_t ho
    have ok0 : okOf 0 (nI o) (gP (sW s)) = true := rfl
    have t4 := mTold X (d + 195) (k := 4) (nI o) w [] t u h.1 hP (by omega)
    have t2 := mTold X (d + 195) (k := 2) (nI o) w [] t u h.1 hP (by omega)
    have t0 := mTold X (d + 195) (k := 0) (nI o) w [] t u h.1 hP (by omega)
    rw [ok4, cond_tt rfl, nI_clamp (by omega)] at t4
    rw [ok2, cond_tt rfl, nI_clamp (by omega)] at t2
    rw [ok0, cond_tt rfl, nI_clamp (by omega)] at t0
    have t4 : callN X (d + 199) 124 [vR 30 0, vI (nI o), vI 4] (M, w, true, true, [], t, u) = some (some (vI (nI (gKd (sW s) o))), (M, w, true, true, [], t, u)) := t4
    have t2 : callN X (d + 199) 124 [vR 30 0, vI (nI o), vI 2] (M, w, true, true, [], t, u) = some (some (vI (nI (gNu (sW s) o))), (M, w, true, true, [], t, u)) := t2
    have t0 : callN X (d + 199) 124 [vR 30 0, vI (nI o), vI 0] (M, w, true, true, [], t, u) = some (some (vI (nI (gD (sW s)))), (M, w, true, true, [], t, u)) := t0
    rw [hm d M w t u h, bX7_tells_32, if_neg (by decide), c0, cond_tt rfl, cond_tt rfl, nI_clamp (by omega), h45, if_neg (by decide), h47, if_pos hle6]
    rcases hkk with rfl | rfl | rfl | rfl | rfl
    · rw [if_neg (by decide), if_neg (by decide), if_pos (by decide), if_neg (by decide), t4, bnd_s, tl_s, bX7_tells_151, if_neg (by decide), if_pos (by decide)]
      refine ⟨5, ?_⟩
      have e : nI (if (1 : Nat) = 1 then 6 else if (1 : Nat) = 2 then 10 else if (1 : Nat) = 6 then sN s else 100) - 1 = (5 : Int32) := by
        show nI 6 - 1 = (5 : Int32)
        decide
      rw [e]
      rfl
    · rw [if_neg (by decide), if_neg (by decide), if_neg (by decide), if_pos (by decide), if_neg (by decide), t2, bnd_s, tl_s, bX7_tells_151, if_neg (by decide), if_neg (by decide), if_pos (by decide)]
      refine ⟨9, ?_⟩
      have e : nI (if (2 : Nat) = 1 then 6 else if (2 : Nat) = 2 then 10 else if (2 : Nat) = 6 then sN s else 100) - 1 = (9 : Int32) := by
        show nI 10 - 1 = (9 : Int32)
        decide
      rw [e]
      rfl
    · rw [if_neg (by decide), if_neg (by decide), if_neg (by decide), if_neg (by decide), if_neg (by decide), if_neg (by decide), t0, bnd_s, tl_s, bX7_tells_151, if_neg (by decide), if_neg (by decide), if_neg (by decide)]
      refine ⟨99, ?_⟩
      have e : nI (if (3 : Nat) = 1 then 6 else if (3 : Nat) = 2 then 10 else if (3 : Nat) = 6 then sN s else 100) - 1 = (99 : Int32) := by
        show nI 100 - 1 = (99 : Int32)
        decide
      rw [e]
      rfl
    · rw [if_neg (by decide), if_neg (by decide), if_neg (by decide), if_neg (by decide), if_neg (by decide), if_neg (by decide), t0, bnd_s, tl_s, bX7_tells_151, if_neg (by decide), if_neg (by decide), if_neg (by decide)]
      refine ⟨99, ?_⟩
      have e : nI (if (4 : Nat) = 1 then 6 else if (4 : Nat) = 2 then 10 else if (4 : Nat) = 6 then sN s else 100) - 1 = (99 : Int32) := by
        show nI 100 - 1 = (99 : Int32)
        decide
      rw [e]
      rfl
    · rw [if_neg (by decide), if_neg (by decide), if_neg (by decide), if_neg (by decide), if_pos (by decide), if_pos (by decide), bX7_tells_151, if_pos (by decide), h.1.2.1, h.2.2.2.1.1]
      exact ⟨nI (sN s) - 1, rfl⟩
  have hk8 : k = 0 ∨ k = 1 ∨ k = 2 ∨ k = 3 ∨ k = 4 ∨ k = 5 ∨ k = 6 := by omega
  rcases hk8 with rfl | rfl | rfl | rfl | rfl | rfl | rfl
  · refine ⟨vI (foS s p o c), s, CSp.t X (fun d M w t u h => ?_), MSp.t X (fun d M w t u h => ?_), hB⟩
    · obtain ⟨M2, e1, e2⟩ := cFo X (d + 194) w t u (p := p) (va := 0) (v := 0) (Or.inl ⟨rfl, rfl, rfl, rfl⟩) h hB.1 ho5 hp hc6 c4 c6
      have e1 : callN X (d + 199) 105 [vR 2 0, vR 18 p, vI (nI o), vI (nI c), vI 0, vI 0] (M, w, true, true, [], t, u) = _ := e1
      refine ⟨M2, ?_, e2⟩
      rw [hc2 d M w t u h, if_neg (by decide), if_neg (by decide), if_neg (by decide), if_neg (by decide), if_neg (by decide), if_neg (by decide), e1, bnd_s, tl_s, bX6_tells_191]
    · obtain ⟨M2, w2, e1, e2⟩ := mFo X (d + 144) w t u (p := p) (c := c) h hB.1 ho hp hc6 c4 c6
      refine ⟨M2, w2, ?_, e2⟩
      rw [hm d M w t u h, bX7_tells_32, if_neg (by decide), c0, cond_tt rfl, cond_tt rfl, nI_clamp (by omega), (h.2.2.2.2 p hp).1, c4, if_b, cond_tt rfl, ((h.2.2.2.2 p hp).2 c4).2.1, if_pos hle6, if_pos (by decide), if_pos (by decide), e1, bnd_s, tl_s, bX7_tells_87, bX7_tells_96]
  · refine ⟨vI (nI (bN (okY s p o c 4) 6)), s, CSp.t X (fun d M w t u h => ?_), fun d M w t u h => ?_, hB⟩
    · obtain ⟨M2, e1, e2⟩ := cBits X (d + 193) w t u (p := p) (va := 1) (n := 6) (S2 := fun v => vaS s 4 o v) (C2 := fun _ => c) (fun v hv => Or.inr (Or.inl ⟨rfl, by omega, rfl, rfl⟩)) (by omega) h hB.1 ho5 hp hc6 c4 c6
      have e1 : callN X (d + 199) 106 [vR 2 0, vR 18 p, vI (nI o), vI (nI c), vI 1, vI 6] (M, w, true, true, [], t, u) = _ := e1
      refine ⟨M2, ?_, e2⟩
      rw [hc2 d M w t u h, if_pos (by decide), e1, bnd_s, tl_s, bX6_tells_123]
      rfl
    · obtain ⟨x7, g1⟩ := hm2 d M w t u h (by omega)
      obtain ⟨M2, w2, e1, e2, e3⟩ := mTellsLoop X (d + 143) w t u (p := p) (c := c) (k := 4) (n := 6) (what := 1) (x7 := x7) h hB.1 ho hp hc6 c4 c6 (by omega) (by omega) (fun v hv => by omega)
      refine ⟨M2, w2, t, u, ?_, e2, e3, by omega, by omega⟩
      refine g1.trans (e1.trans ?_)
      have g9 := gB_all (okY s p o c 4) 6 0 (by omega)
      have g9 : gB (okY s p o c 4) 6 0 = bN (okY s p o c 4) 6 := (Nat.or_zero _).symm.trans g9
      rw [if_neg (by decide), if_neg (by decide), g9]
  · refine ⟨vI (nI (bN (okY s p o c 2) 10)), s, CSp.t X (fun d M w t u h => ?_), fun d M w t u h => ?_, hB⟩
    · obtain ⟨M2, e1, e2⟩ := cBits X (d + 193) w t u (p := p) (va := 2) (n := 10) (S2 := fun v => vaS s 2 o v) (C2 := fun _ => c) (fun v hv => Or.inr (Or.inr (Or.inl ⟨rfl, by omega, rfl, rfl⟩))) (by omega) h hB.1 ho5 hp hc6 c4 c6
      have e1 : callN X (d + 199) 106 [vR 2 0, vR 18 p, vI (nI o), vI (nI c), vI 2, vI 10] (M, w, true, true, [], t, u) = _ := e1
      refine ⟨M2, ?_, e2⟩
      rw [hc2 d M w t u h, if_neg (by decide), if_pos (by decide), e1, bnd_s, tl_s, bX6_tells_135]
      rfl
    · obtain ⟨x7, g1⟩ := hm2 d M w t u h (by omega)
      obtain ⟨M2, w2, e1, e2, e3⟩ := mTellsLoop X (d + 143) w t u (p := p) (c := c) (k := 2) (n := 10) (what := 2) (x7 := x7) h hB.1 ho hp hc6 c4 c6 (by omega) (by omega) (fun v hv => by omega)
      refine ⟨M2, w2, t, u, ?_, e2, e3, by omega, by omega⟩
      refine g1.trans (e1.trans ?_)
      have g9 := gB_all (okY s p o c 2) 10 0 (by omega)
      have g9 : gB (okY s p o c 2) 10 0 = bN (okY s p o c 2) 10 := (Nat.or_zero _).symm.trans g9
      rw [if_neg (by decide), if_neg (by decide), g9]
  · refine ⟨vI (nI (cN (okY s p o c 0) 100)), s, CSp.t X (fun d M w t u h => ?_), fun d M w t u h => ?_, hB⟩
    · obtain ⟨M2, e1, e2⟩ := cDays X (d + 193) w t u (p := p) (c := c) h hB.1 ho5 hp hc6 c4 c6
      refine ⟨M2, ?_, e2⟩
      rw [hc2 d M w t u h, if_neg (by decide), if_neg (by decide), if_pos (by decide), e1, bnd_s, tl_s, bX6_tells_144]
    · obtain ⟨x7, g1⟩ := hm2 d M w t u h (by omega)
      obtain ⟨M2, w2, e1, e2, e3⟩ := mTellsLoop X (d + 143) w t u (p := p) (c := c) (k := 0) (n := 100) (what := 3) (x7 := x7) h hB.1 ho hp hc6 c4 c6 (by omega) (by omega) (fun v hv => Or.inl rfl)
      refine ⟨M2, w2, t, u, ?_, e2, e3, by omega, by omega⟩
      refine g1.trans (e1.trans ?_)
      rw [if_pos (by decide)]
  · refine ⟨vI (lF (okY s p o c 0) 100 0), s, CSp.t X (fun d M w t u h => ?_), fun d M w t u h => ?_, hB⟩
    · obtain ⟨M2, e1, e2⟩ := cLeast X (d + 193) w t u (p := p) (c := c) h hB.1 ho5 hp hc6 c4 c6
      refine ⟨M2, ?_, e2⟩
      rw [hc2 d M w t u h, if_neg (by decide), if_neg (by decide), if_neg (by decide), if_pos (by decide), e1, bnd_s, tl_s, bX6_tells_153]
    · obtain ⟨x7, g1⟩ := hm2 d M w t u h (by omega)
      obtain ⟨M2, w2, e1, e2, e3⟩ := mTellsLoop X (d + 143) w t u (p := p) (c := c) (k := 0) (n := 100) (what := 4) (x7 := x7) h hB.1 ho hp hc6 c4 c6 (by omega) (by omega) (fun v hv => Or.inl rfl)
      refine ⟨M2, w2, t, u, ?_, e2, e3, by omega, by omega⟩
      refine g1.trans (e1.trans ?_)
      rw [if_neg (by decide), if_pos (by decide)]
  · refine ⟨vI (nI (bN (okZ s p o) 6)), s, CSp.t X (fun d M w t u h => ?_), MSp.t X (fun d M w t u h => ?_), hB⟩
    · obtain ⟨M2, e1, e2⟩ := cBits X (d + 193) w t u (p := p) (c := c) (va := 5) (n := 6) (S2 := fun _ => s) (C2 := fun v => v) (fun v hv => Or.inr (Or.inr (Or.inr (Or.inr (Or.inl ⟨rfl, hv, rfl, rfl⟩))))) (by omega) h hB.1 ho5 hp hc6 c4 c6
      have e1 : callN X (d + 199) 106 [vR 2 0, vR 18 p, vI (nI o), vI (nI c), vI 5, vI 6] (M, w, true, true, [], t, u) = _ := e1
      refine ⟨M2, ?_, e2⟩
      rw [hc2 d M w t u h, if_neg (by decide), if_neg (by decide), if_neg (by decide), if_neg (by decide), if_pos (by decide), e1, bnd_s, tl_s, bX6_tells_165]
      rfl
    · obtain ⟨M2, w2, e1, e2⟩ := mCoastSet X (d + 143) w t u (p := p) h hB.1 ho hp c4 c6
      refine ⟨M2, w2, ?_, e2⟩
      rw [hm d M w t u h, bX7_tells_32, if_neg (by decide), c0, cond_tt rfl, cond_tt rfl, nI_clamp (by omega), (h.2.2.2.2 p hp).1, c4, if_b, cond_tt rfl, ((h.2.2.2.2 p hp).2 c4).2.1, if_pos hle6, if_neg (by decide), if_pos (by decide), if_neg (by decide), e1, bnd_s, tl_s, bX7_tells_96]
  · refine ⟨vI (nI (bN (okY s p o c 5) (sN s))), s, CSp.t X (fun d M w t u h => ?_), fun d M w t u h => ?_, hB⟩
    · obtain ⟨M2, e1, e2⟩ := cBits X (d + 193) w t u (p := p) (va := 6) (n := sN s) (S2 := fun v => vaS s 5 o v) (C2 := fun _ => c) (fun v hv => Or.inr (Or.inr (Or.inr (Or.inr (Or.inr ⟨rfl, hv, rfl, rfl⟩))))) (by omega) h hB.1 ho5 hp hc6 c4 c6
      have e1 : callN X (d + 199) 106 [vR 2 0, vR 18 p, vI (nI o), vI (nI c), vI 6, vI (nI (sN s))] (M, w, true, true, [], t, u) = _ := e1
      refine ⟨M2, ?_, e2⟩
      rw [hc2 d M w t u h, if_neg (by decide), if_neg (by decide), if_neg (by decide), if_neg (by decide), if_neg (by decide), if_pos (by decide), e1, bnd_s, tl_s, bX6_tells_180]
      rfl
    · obtain ⟨x7, g1⟩ := hm2 d M w t u h (by omega)
      obtain ⟨M2, w2, e1, e2, e3⟩ := mTellsLoop X (d + 143) w t u (p := p) (c := c) (k := 5) (n := sN s) (what := 6) (x7 := x7) h hB.1 ho hp hc6 c4 c6 (by omega) (by omega) (fun v hv => Or.inr (Or.inr (Or.inr ⟨rfl, hv⟩)))
      refine ⟨M2, w2, t, u, ?_, e2, e3, by omega, by omega⟩
      refine g1.trans (e1.trans ?_)
      have g9 := gB_all (okY s p o c 5) (sN s) 0 (by omega)
      have g9 : gB (okY s p o c 5) (sN s) 0 = bN (okY s p o c 5) (sN s) := (Nat.or_zero _).symm.trans (g9.trans (by rw [Nat.zero_add]))
      rw [if_neg (by decide), if_neg (by decide), g9]
end
