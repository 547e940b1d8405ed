/-! in lowest terms; mean -/
theorem nz0 {n : Nat} (h : n = 0) : nI n = 0 := by
  rw [h]
  rfl
theorem lN_div {a d : Nat} (ha : a < 2 ^ 31) (h0 : 0 < d) (hd : d < 2 ^ 31) : lN a / lN d = lN (a / d) := by
  apply Int64.toInt_inj.mp
  have hle := Nat.div_le_self a d
  rw [lg_ldiv_nonneg (by rw [lN_toInt ha]; omega) (by rw [lN_toInt hd]; omega), lN_toInt ha, lN_toInt hd, lN_toInt (by omega)]
  first | rfl | exact (Int.natCast_ediv _ _).symm
theorem lN_rem {a d : Nat} (ha : a < 2 ^ 31) (h0 : 0 < d) (hd : d < 2 ^ 31) : lN a - lN a / lN d * lN d = lN (a % d) := by
  rw [lN_div ha h0 hd, lN_mul, lN_sub (Nat.div_mul_le_self a d)]
  exact congrArg lN (by have := Nat.div_add_mod' a d; omega)
theorem gcd_st (p q : Nat) : Nat.gcd p q = Nat.gcd q (p % q) := by
  rw [Nat.gcd_comm p q, Nat.gcd_rec, Nat.gcd_comm]
def lwN (a b p : Nat) : Int64 := if b = 0 then -4611686018427387904 else lN ((if p = 0 then a else b) / Nat.gcd a b)
section
variable (X : Nat × (Nat → Int32))
theorem cLow (d : Nat) {a b p : Nat} (M : MM) (w : Int64) (fm : Bool) (l : List (Nat × Nat × Nat)) (t u : Nat) (ha : a < 65536) (hb : b < 65536) (hp : p < 2) : callN X (d + 1) 110 [vI (nI a), vI (nI b), vI (nI p)] (M, w, true, fm, l, t, u) = some (some (vL (lwN a b p)), (M, w, true, fm, l, t, u)) := by
  have e0 : ∀ n, n < 2 ^ 31 → (nI n = 0) = (n = 0) := fun n hn => by rw [li0]; exact propext (nI_eq hn (by omega))
  have fin : ∀ g : Nat, g = Nat.gcd a b → (if nI b = 0 then some (some (vL (-4611686018427387904 : Int64)), ((M, w, true, fm, l, t, u) : Mem)) else if nI g = 0 then some (some (vL (-4611686018427387904 : Int64)), (M, w, true, fm, l, t, u)) else if nI p = 0 then if nI g = 0 then none else some (some (vL ((nI a / nI g)).toInt64), (M, w, true, fm, l, t, u)) else if nI g = 0 then none else some (some (vL ((nI b / nI g)).toInt64), (M, w, true, fm, l, t, u))) = some (some (vL (lwN a b p)), (M, w, true, fm, l, t, u)) := by
    intro g hg
    unfold lwN
    by_cases cb : b = 0
    · rw [if_pos (nz0 cb), if_pos cb]
    have hg0 : 0 < g := by rw [hg]; exact Nat.gcd_pos_of_pos_right a (by omega)
    have hgb : g ≤ b := by rw [hg]; exact Nat.gcd_le_right a (by omega)
    have h1 : a / g ≤ a := Nat.div_le_self a g
    have h2 : b / g ≤ b := Nat.div_le_self b g
    rw [if_neg (nI_ne0 (by omega) (by omega)), if_neg (nI_ne0 hg0 (by omega)), if_neg cb, if_neg (nI_ne0 hg0 (by omega)), if_neg (nI_ne0 hg0 (by omega)), pk_div (by omega) hg0 (by omega), pk_div (by omega) hg0 (by omega), nI_l (by omega), nI_l (by omega), ← hg]
    simp only [e0 p (by omega)]
    by_cases cp : p = 0
    · rw [if_pos cp, if_pos cp]
    · rw [if_neg cp, if_neg cp]
  have loop : ∀ (k dv rs i : Nat) (x6 : AV), rs < 2 ^ k → k ≤ 16 → dv < 65536 → rs < 65536 → i + 2 * k < 100 → Nat.gcd dv rs = Nat.gcd a b → nR X (callN X d) hX6_lowestTerms 8 [vI (nI a), vI (nI b), vI (nI p), vI (nI dv), vI (nI rs), vI (nI i), x6] [] (M, w, true, fm, l, t, u) = some (some (vL (lwN a b p)), (M, w, true, fm, l, t, u)) := by
    intro k
    induction k with
    | zero =>
      intro dv rs i x6 h1 hk h2 h2' h3 h4
      have : rs = 0 := by omega
      subst this
      rw [Nat.gcd_zero_right] at h4
      rw [bX6_lowestTerms_8, show (100 : Int32) = nI 100 from rfl, if_neg (nI_ge (by omega) (by omega)), if_pos (show nI 0 = 0 from rfl)]
      exact fin dv h4
    | succ k ih =>
      intro dv rs i x6 h1 hk h2 h2' h3 h4
      rw [bX6_lowestTerms_8, show (100 : Int32) = nI 100 from rfl, if_neg (nI_ge (by omega) (by omega))]
      by_cases c : rs = 0
      · rw [if_pos (nz0 c)]
        rw [c, Nat.gcd_zero_right] at h4
        exact fin dv h4
      have hm1 : dv % rs < rs := Nat.mod_lt _ (by omega)
      rw [if_neg (nI_ne0 (by omega) (by omega)), if_neg (nI_ne0 (by omega) (by omega)), pk_rem (by omega) (by omega) (by omega), nI_1]
      rw [gcd_st] at h4
      rw [bX6_lowestTerms_8, show (100 : Int32) = nI 100 from rfl, if_neg (nI_ge (by omega) (by omega))]
      by_cases c2 : dv % rs = 0
      · rw [if_pos (nz0 c2)]
        rw [c2, Nat.gcd_zero_right] at h4
        exact fin rs h4
      have hm2 : rs % (dv % rs) < dv % rs := Nat.mod_lt _ (by omega)
      have hhalf : 2 * (rs % (dv % rs)) < rs := by
        have h9 := Nat.div_add_mod rs (dv % rs)
        have h8 : 1 ≤ rs / (dv % rs) := by
          rw [Nat.le_div_iff_mul_le (by omega)]
          omega
        have h7 : dv % rs ≤ dv % rs * (rs / (dv % rs)) := Nat.le_mul_of_pos_right _ h8
        omega
      rw [if_neg (nI_ne0 (by omega) (by omega)), if_neg (nI_ne0 (by omega) (by omega)), pk_rem (by omega) (by omega) (by omega), nI_1]
      rw [gcd_st] at h4
      rw [Nat.pow_succ] at h1
      exact ih (dv % rs) (rs % (dv % rs)) (i + 1 + 1) _ (by omega) (by omega) (by omega) (by omega) (by omega) h4
  rw [aX6_lowestTerms]
  exact loop 16 b a 0 vX ha (Nat.le_refl _) hb ha (by omega) (Nat.gcd_comm b a)
theorem mLow (d : Nat) {a b p : Nat} (M : MM) (w : Int64) (l : List (Nat × Nat × Nat)) (t u : Nat) (ha : a < 65536) (hb : b < 65536) (hp : p < 2) (hb0 : b ≠ 0) : callN X (d + 1) 159 [vL (lN a), vL (lN b), vI (nI p)] (M, w, true, true, l, t, u) = some (some (vL (lwN a b p)), (M, w, true, true, l, t, u)) := by
  have e0 : ∀ n, n < 2 ^ 31 → (nI n = 0) = (n = 0) := fun n hn => by rw [li0]; exact propext (nI_eq hn (by omega))
  have l0 : ∀ n, n < 2 ^ 31 → (lN n = 0) = (n = 0) := fun n hn => by rw [show (0 : Int64) = lN 0 from rfl]; exact propext (lN_eq hn (by omega))
  have loop : ∀ (k q x : Nat) (x9 : AV), q < k → q < 65536 → x < 65536 → Nat.gcd x q = Nat.gcd a b → nR X (callN X d) hX7_lowest 6 [vL (lN a), vX, vL (lN b), vX, vI (nI p), vL (lN x), vX, vL (lN q), vX, x9, vX] [] (M, w, true, true, l, t, u) = some (some (vL (lwN a b p)), (M, w, true, true, l, t, u)) := by
    intro k
    induction k with
    | zero => intro q x x9 h; omega
    | succ k ih =>
      intro q x x9 h hq hx hg
      rw [bX7_lowest_6]
      simp only [lcmp_eq, l0 q (by omega), l0 x (by omega)]
      by_cases c : q = 0
      · rw [c, Nat.gcd_zero_right] at hg
        have hg0 : 0 < x := by rw [hg]; exact Nat.gcd_pos_of_pos_right a (by omega)
        rw [if_pos c]
        simp only [e0 p (by omega)]
        unfold lwN
        rw [if_neg hb0, if_neg (show ¬ x = 0 by omega), if_neg (show ¬ x = 0 by omega), lN_div (by omega) hg0 (by omega), lN_div (by omega) hg0 (by omega), ← hg]
        by_cases cp : p = 0
        · rw [if_pos cp, if_pos cp]
        · rw [if_neg cp, if_neg cp]
      · have hm1 : x % q < q := Nat.mod_lt _ (by omega)
        rw [if_neg c, if_neg c, lN_rem (by omega) (by omega) (by omega)]
        rw [gcd_st] at hg
        exact ih (x % q) q _ (by omega) (by omega) hq hg
  rw [aX7_lowest]
  exact loop (b + 1) b a vX (by omega) hb ha rfl
theorem q_mean (a m p : Int32) : Stq X 62 160 [vI a, vI m, vI p] := fun s hB => by
  have hP := hB.1.2.2.2.2.2
  have hsh := hB.2.1.2.2.2.1
  cases c1 : nIn a (gP (sW s))
  · refine q_bad X hB (vL (-4611686018427387904)) (fun d M w t u h => ?_) (fun d M w t u h => ?_)
    · rw [show d + 200 = d + 199 + 1 from rfl, aX6_mean, cHas X (d + 198) a w true [] t u h.1 hP, c1, bnd_s, tl_s, bX6_mean_8, if_b]
      rfl
    · rw [show d + 200 = d + 199 + 1 from rfl, aX7_mean, mOne X (d + 197) a w [] t u h.1 hP, c1, bnd_s, tl_s, bX7_mean_5, if_b]
      rfl
  cases c2 : nIn m 6
  · refine q_bad X hB (vL (-4611686018427387904)) (fun d M w t u h => ?_) (fun d M w t u h => ?_)
    · rw [show d + 200 = d + 199 + 1 from rfl, aX6_mean, cHas X (d + 198) a w true [] t u h.1 hP, c1, bnd_s, tl_s, bX6_mean_8, if_b, cond_tt rfl, cMark, c2, bnd_s, tl_s, bX6_mean_15, if_b]
      rfl
    · rw [show d + 200 = d + 199 + 1 from rfl, aX7_mean, mOne X (d + 197) a w [] t u h.1 hP, c1, bnd_s, tl_s, bX7_mean_5, if_b, cond_tt rfl, mMark, c2, bnd_s, tl_s, bX7_mean_12, if_b]
      rfl
  cases c3 : nIn p 2
  · refine q_bad X hB (vL (-4611686018427387904)) (fun d M w t u h => ?_) (fun d M w t u h => ?_)
    · rw [show d + 200 = d + 199 + 1 from rfl, aX6_mean, cHas X (d + 198) a w true [] t u h.1 hP, c1, bnd_s, tl_s, bX6_mean_8, if_b, cond_tt rfl, cMark, c2, bnd_s, tl_s, bX6_mean_15, if_b, cond_tt rfl, cPart, c3, bnd_s, tl_s, bX6_mean_22, if_b]
      rfl
    · rw [show d + 200 = d + 199 + 1 from rfl, aX7_mean, mOne X (d + 197) a w [] t u h.1 hP, c1, bnd_s, tl_s, bX7_mean_5, if_b, cond_tt rfl, mMark, c2, bnd_s, tl_s, bX7_mean_12, if_b, cond_tt rfl, mIn X (d + 198) p (n := 2) rfl, c3, bnd_s, tl_s, bX7_mean_22, if_b]
      rfl
  obtain ⟨o, ho, rfl⟩ := in_ex c1 (by omega)
  obtain ⟨m, hm, rfl⟩ := in_ex c2 (by omega)
  obtain ⟨p, hp, rfl⟩ := in_ex c3 (by omega)
  have ho5 : o < 5 := by omega
  have hs := hsh (o * 6 + m)
  have hall : shS s o ≤ 6 * 9999 := sumN_le 6 (fun _ _ => hsh _)
  refine q_bad X hB (vL (lwN (gSh (sW s) (o * 6 + m)) (shS s o) p)) (fun d M w t u h => ?_) (fun d M w t u h => ?_)
  · rw [show d + 200 = d + 199 + 1 from rfl, aX6_mean, cHas X (d + 198) (nI o) w true [] t u h.1 hP, c1, bnd_s, tl_s, bX6_mean_8, if_b, cond_tt rfl, cMark, c2, bnd_s, tl_s, bX6_mean_15, if_b, cond_tt rfl, cPart, c3, bnd_s, tl_s, bX6_mean_22, if_b, cond_tt rfl, li6, pk_mul, nI_add, nin_t (show o * 6 + m < 30 by omega), cond_tt rfl, nI_clamp (by omega), h.1.2.2.2.2.1 _ (by omega), sX5_allInShoe X (d + 197) 0 w true [] t u h.1 ho5, bnd_s]
    show nR X (callN X (d + 199)) hX6_mean 51 _ [vI (nI (shS s o)), vI (nI (gSh (sW s) (o * 6 + m)))] _ = _
    rw [bX6_mean_51, cLow X (d + 198) M w true [] t u (by omega) (by omega) hp, bnd_s, tl_s, bX6_mean_55]
  · have hm1 : callN X (d + 200) 160 [vR 30 0, vI (nI o), vI (nI m), vI (nI p)] (M, w, true, true, [], t, u) = nR X (callN X (d + 199)) hX7_mean 30 [vR 30 0, vI (nI o), vI (nI m), vI (nI p)] [vI (nI (shS s o))] (M, w, true, true, [], t, u) := by
      rw [show d + 200 = d + 199 + 1 from rfl, aX7_mean, mOne X (d + 197) (nI o) w [] t u h.1 hP, c1, bnd_s, tl_s, bX7_mean_5, if_b, cond_tt rfl, mMark, c2, bnd_s, tl_s, bX7_mean_12, if_b, cond_tt rfl, mIn X (d + 198) (nI p) (n := 2) rfl, c3, bnd_s, tl_s, bX7_mean_22, if_b, cond_tt rfl, sX7_shoeOf X (d + 198) w [] t u h.1 ho5, bnd_s]
      rfl
    rw [hm1, bX7_mean_30]
    by_cases c0 : shS s o = 0
    · rw [if_pos (nz0 c0)]
      unfold lwN
      rw [if_pos c0]
    · rw [if_neg (nI_ne0 (by omega) (by omega)), li6, pk_mul, nI_add, Nat.mul_comm 6 o, nin_t (show o * 6 + m < 30 by omega), cond_tt rfl, nI_clamp (by omega), h.1.2.2.2.2.1 _ (by omega), nI_l (by omega), sX7_shoeOf X (d + 198) w [] t u h.1 ho5, bnd_s]
      show nR X (callN X (d + 199)) hX7_mean 54 _ [vI (nI (shS s o)), vL (lN (gSh (sW s) (o * 6 + m)))] _ = _
      rw [bX7_mean_54, nI_l (by omega), mLow X (d + 198) M w [] t u (by omega) (by omega) hp c0, bnd_s, tl_s, bX7_mean_59]
end
