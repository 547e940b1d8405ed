/-! the law's loop -/
def LI (M : MM) (t : Nat) (s : GS) : Prop := SC M s ∧ SM M s ∧ SB s ∧ 72 ≤ t
theorem ncmp0 (v : Int64) : nLcmp v v = 0 := by
  unfold nLcmp lg_cmp
  simp
section
variable (X : Nat × (Nat → Int32))
theorem opI {y ym A B : Nat} {as : List AV} {h : Hd} {ml : Nat} (hy : mtL[y]? = some (h, ml)) (hrt : (h.2.2.2 = 1 ∨ h.2.2.2 = 2)) (hq : Stg X y ym as) (x3 : Int32)
    (eA : ∀ (v : Int32) (M : MM) (w : Int64) (t u : Nat), nR X (callN X 256) hL_law A [vR 70 0, vR 2 0, vR 30 0, vI x3] [vI v] (M, w, true, true, [], t, u) = nBnd (callN X 256 ym (vR 30 0 :: as) (M, w, true, true, [], t, u)) (fun v2 s2 => nR X (callN X 256) hL_law B [vR 70 0, vR 2 0, vR 30 0, vI x3] (v2.toList ++ [vI v]) s2))
    (eB : ∀ (v : Int32) (M : MM) (w : Int64) (t u : Nat), nR X (callN X 256) hL_law B [vR 70 0, vR 2 0, vR 30 0, vI x3] [vI v, vI v] (M, w, true, true, [], t, u) = nR X (callN X 256) hL_law 18 [vR 70 0, vR 2 0, vR 30 0, vI (x3 + 6)] [] (M, w, true, true, [], t, u))
    {M : MM} {w : Int64} {t u : Nat} {s : GS} (hI : LI M t s) : ∃ (M2 : MM) (w2 : Int64) (t2 u2 : Nat) (s2 : GS), nBnd (callN X 256 y (vR 2 0 :: as) (M, w, true, true, [], t, u)) (fun v s2 => nR X (callN X 256) hL_law A [vR 70 0, vR 2 0, vR 30 0, vI x3] (v.toList ++ []) s2) = nR X (callN X 256) hL_law 18 [vR 70 0, vR 2 0, vR 30 0, vI (x3 + 6)] [] (M2, w2, true, true, [], t2, u2) ∧ LI M2 t2 s2 ∧ t2 ≤ t + 258 ∧ u2 ≤ u + 1548 := by
  obtain ⟨h1, h2, h3, h4⟩ := hI
  obtain ⟨v, s2, q1, q2, q3⟩ := hq s h3
  obtain ⟨M1, a1, a2, a3⟩ := q1 56 M w t u h1
  obtain ⟨M2, w2, t2, u2, b1, b2, b3, b4, b5, b6⟩ := q2 56 M1 w t u (h2.fr (fun k i j q _ _ _ => a3 k i j q)) h4
  obtain ⟨x, rfl⟩ := (callN_ty X (d := 255) hy a1).1 hrt
  have a1 : callN X 256 y (vR 2 0 :: as) (M, w, true, true, [], t, u) = _ := a1
  have b1 : callN X 256 ym (vR 30 0 :: as) (M1, w, true, true, [], t, u) = _ := b1
  refine ⟨M2, w2, t2, u2, s2, ?_, ⟨a2.fr (fun k i j q => b3 k i j (by omega)), b2, q3, by omega⟩, b5, b6⟩
  rw [a1, bnd_s]
  show nR X (callN X 256) hL_law A [vR 70 0, vR 2 0, vR 30 0, vI x3] [vI x] _ = _
  rw [eA, b1, bnd_s]
  exact eB x M2 w2 t2 u2
theorem opL {y ym A B : Nat} {as : List AV} {h : Hd} {ml : Nat} (hy : mtL[y]? = some (h, ml)) (hrt : h.2.2.2 = 3) (hq : Stg X y ym as) (x3 : Int32)
    (eA : ∀ (v : Int64) (M : MM) (w : Int64) (t u : Nat), nR X (callN X 256) hL_law A [vR 70 0, vR 2 0, vR 30 0, vI x3] [vL v] (M, w, true, true, [], t, u) = nBnd (callN X 256 ym (vR 30 0 :: as) (M, w, true, true, [], t, u)) (fun v2 s2 => nR X (callN X 256) hL_law B [vR 70 0, vR 2 0, vR 30 0, vI x3] (v2.toList ++ [vL v]) s2))
    (eB : ∀ (v : Int64) (M : MM) (w : Int64) (t u : Nat), nR X (callN X 256) hL_law B [vR 70 0, vR 2 0, vR 30 0, vI x3] [vL v, vL v] (M, w, true, true, [], t, u) = nR X (callN X 256) hL_law 18 [vR 70 0, vR 2 0, vR 30 0, vI (x3 + 6)] [] (M, w, true, true, [], t, u))
    {M : MM} {w : Int64} {t u : Nat} {s : GS} (hI : LI M t s) : ∃ (M2 : MM) (w2 : Int64) (t2 u2 : Nat) (s2 : GS), nBnd (callN X 256 y (vR 2 0 :: as) (M, w, true, true, [], t, u)) (fun v s2 => nR X (callN X 256) hL_law A [vR 70 0, vR 2 0, vR 30 0, vI x3] (v.toList ++ []) s2) = nR X (callN X 256) hL_law 18 [vR 70 0, vR 2 0, vR 30 0, vI (x3 + 6)] [] (M2, w2, true, true, [], t2, u2) ∧ LI M2 t2 s2 ∧ t2 ≤ t + 258 ∧ u2 ≤ u + 1548 := by
  obtain ⟨h1, h2, h3, h4⟩ := hI
  obtain ⟨v, s2, q1, q2, q3⟩ := hq s h3
  obtain ⟨M1, a1, a2, a3⟩ := q1 56 M w t u h1
  obtain ⟨M2, w2, t2, u2, b1, b2, b3, b4, b5, b6⟩ := q2 56 M1 w t u (h2.fr (fun k i j q _ _ _ => a3 k i j q)) h4
  obtain ⟨x, rfl⟩ := (callN_ty X (d := 255) hy a1).2 hrt
  have a1 : callN X 256 y (vR 2 0 :: as) (M, w, true, true, [], t, u) = _ := a1
  have b1 : callN X 256 ym (vR 30 0 :: as) (M1, w, true, true, [], t, u) = _ := b1
  refine ⟨M2, w2, t2, u2, s2, ?_, ⟨a2.fr (fun k i j q => b3 k i j (by omega)), b2, q3, by omega⟩, b5, b6⟩
  rw [a1, bnd_s]
  show nR X (callN X 256) hL_law A [vR 70 0, vR 2 0, vR 30 0, vI x3] [vL x] _ = _
  rw [eA, b1, bnd_s]
  exact eB x M2 w2 t2 u2
theorem law_step (hX : X.1 ≤ 3072) {i : Nat} (hi : i + 6 ≤ X.1) {M : MM} {w : Int64} {t u : Nat} {s : GS} (hI : LI M t s) : ∃ (M2 : MM) (w2 : Int64) (t2 u2 : Nat) (s2 : GS), nR X (callN X 256) hL_law 18 [vR 70 0, vR 2 0, vR 30 0, vI (nI i)] [] (M, w, true, true, [], t, u) = nR X (callN X 256) hL_law 18 [vR 70 0, vR 2 0, vR 30 0, vI (nI i + 6)] [] (M2, w2, true, true, [], t2, u2) ∧ LI M2 t2 s2 ∧ t2 ≤ t + 258 ∧ u2 ≤ u + 1548 := by
  have h0 : nIn (nI i) X.1 = true := nin_t (by omega)
  have h1 : nIn (nI i + 1) X.1 = true := by
    rw [show (1 : Int32) = nI 1 from rfl, nI_add]
    exact nin_t (by omega)
  have h2 : nIn (nI i + 2) X.1 = true := by
    rw [show (2 : Int32) = nI 2 from rfl, nI_add]
    exact nin_t (by omega)
  have h3 : nIn (nI i + 3) X.1 = true := by
    rw [show (3 : Int32) = nI 3 from rfl, nI_add]
    exact nin_t (by omega)
  have h4 : nIn (nI i + 4) X.1 = true := by
    rw [show (4 : Int32) = nI 4 from rfl, nI_add]
    exact nin_t (by omega)
  have h5 : nIn (nI i + 5) X.1 = true := by
    rw [show (5 : Int32) = nI 5 from rfl, nI_add]
    exact nin_t (by omega)
  have hle : ¬ Int32.ofNat X.1 - 6 < nI i := fun q => by
    have hq : nI X.1 - nI 6 < nI i := q
    rw [show X.1 = (X.1 - 6) + 6 by omega, ← nI_add, Int32.add_sub_cancel, Int32.lt_iff_toInt_lt, nI_toInt (by omega), nI_toInt (by omega)] at hq
    omega
  rw [bL_law_18, if_neg hle, h0, cond_tt rfl]
  by_cases c0 : X.2 (nI i).toNatClampNeg &&& 31 = 0
  · rw [if_pos c0, h1, h2, h3, cond_tt rfl, cond_tt rfl, cond_tt rfl]
    exact opI X (y := 51) (ym := 121) (A := 183) (B := 202) rfl (by decide) ((q_set X (X.2 (nI i + 1).toNatClampNeg) (X.2 (nI i + 2).toNatClampNeg) (X.2 (nI i + 3).toNatClampNeg)).g) (nI i) (fun v M w t u => by rw [bL_law_183, h1, h2, h3, cond_tt rfl, cond_tt rfl, cond_tt rfl]) (fun v M w t u => by rw [bL_law_202, if_pos rfl]) hI
  rw [if_neg c0]
  by_cases c1 : X.2 (nI i).toNatClampNeg &&& 31 = 1
  · rw [if_pos c1, h1, h2, cond_tt rfl, cond_tt rfl]
    exact opI X (y := 52) (ym := 123) (A := 221) (B := 235) rfl (by decide) ((q_person X (X.2 (nI i + 1).toNatClampNeg) (X.2 (nI i + 2).toNatClampNeg)).g) (nI i) (fun v M w t u => by rw [bL_law_221, h1, h2, cond_tt rfl, cond_tt rfl]) (fun v M w t u => by rw [bL_law_235, if_pos rfl]) hI
  rw [if_neg c1]
  by_cases c2 : X.2 (nI i).toNatClampNeg &&& 31 = 2
  · rw [if_pos c2, h1, h2, cond_tt rfl, cond_tt rfl]
    exact opI X (y := 53) (ym := 124) (A := 254) (B := 268) rfl (by decide) ((q_told X (X.2 (nI i + 1).toNatClampNeg) (X.2 (nI i + 2).toNatClampNeg)).g) (nI i) (fun v M w t u => by rw [bL_law_254, h1, h2, cond_tt rfl, cond_tt rfl]) (fun v M w t u => by rw [bL_law_268, if_pos rfl]) hI
  rw [if_neg c2]
  by_cases c3 : X.2 (nI i).toNatClampNeg &&& 31 = 3
  · rw [if_pos c3, h1, h2, h3, cond_tt rfl, cond_tt rfl, cond_tt rfl]
    exact opI X (y := 54) (ym := 150) (A := 292) (B := 311) rfl (by decide) ((q_asks X (X.2 (nI i + 1).toNatClampNeg) (X.2 (nI i + 2).toNatClampNeg) (X.2 (nI i + 3).toNatClampNeg)).g) (nI i) (fun v M w t u => by rw [bL_law_292, h1, h2, h3, cond_tt rfl, cond_tt rfl, cond_tt rfl]) (fun v M w t u => by rw [bL_law_311, if_pos rfl]) hI
  rw [if_neg c3]
  by_cases c4 : X.2 (nI i).toNatClampNeg &&& 31 = 4
  · rw [if_pos c4, h1, cond_tt rfl]
    exact opI X (y := 55) (ym := 127) (A := 325) (B := 334) rfl (by decide) ((q_feed X (X.2 (nI i + 1).toNatClampNeg)).g) (nI i) (fun v M w t u => by rw [bL_law_325, h1, cond_tt rfl]) (fun v M w t u => by rw [bL_law_334, if_pos rfl]) hI
  rw [if_neg c4]
  by_cases c5 : X.2 (nI i).toNatClampNeg &&& 31 = 5
  · rw [if_pos c5]
    exact opI X (y := 56) (ym := 144) (A := 343) (B := 347) rfl (by decide) ((q_text X).g) (nI i) (fun v M w t u => by rw [bL_law_343]) (fun v M w t u => by rw [bL_law_347, if_pos rfl]) hI
  rw [if_neg c5]
  by_cases c6 : X.2 (nI i).toNatClampNeg &&& 31 = 6
  · rw [if_pos c6, h1, cond_tt rfl]
    exact opI X (y := 57) (ym := 145) (A := 361) (B := 370) rfl (by decide) ((q_force X (X.2 (nI i + 1).toNatClampNeg)).g) (nI i) (fun v M w t u => by rw [bL_law_361, h1, cond_tt rfl]) (fun v M w t u => by rw [bL_law_370, if_pos rfl]) hI
  rw [if_neg c6]
  by_cases c7 : X.2 (nI i).toNatClampNeg &&& 31 = 7
  · rw [if_pos c7, h1, h2, cond_tt rfl, cond_tt rfl]
    exact opI X (y := 58) (ym := 152) (A := 389) (B := 403) rfl (by decide) ((q_stay X (X.2 (nI i + 1).toNatClampNeg) (X.2 (nI i + 2).toNatClampNeg)).g) (nI i) (fun v M w t u => by rw [bL_law_389, h1, h2, cond_tt rfl, cond_tt rfl]) (fun v M w t u => by rw [bL_law_403, if_pos rfl]) hI
  rw [if_neg c7]
  by_cases c8 : X.2 (nI i).toNatClampNeg &&& 31 = 8
  · rw [if_pos c8, h1, cond_tt rfl]
    exact opI X (y := 59) (ym := 153) (A := 417) (B := 426) rfl (by decide) ((q_shake X (X.2 (nI i + 1).toNatClampNeg)).g) (nI i) (fun v M w t u => by rw [bL_law_417, h1, cond_tt rfl]) (fun v M w t u => by rw [bL_law_426, if_pos rfl]) hI
  rw [if_neg c8]
  by_cases c9 : X.2 (nI i).toNatClampNeg &&& 31 = 9
  · rw [if_pos c9, h1, h2, h3, cond_tt rfl, cond_tt rfl, cond_tt rfl]
    exact opI X (y := 60) (ym := 157) (A := 450) (B := 469) rfl (by decide) ((q_like X (X.2 (nI i + 1).toNatClampNeg) (X.2 (nI i + 2).toNatClampNeg) (X.2 (nI i + 3).toNatClampNeg)).g) (nI i) (fun v M w t u => by rw [bL_law_450, h1, h2, h3, cond_tt rfl, cond_tt rfl, cond_tt rfl]) (fun v M w t u => by rw [bL_law_469, if_pos rfl]) hI
  rw [if_neg c9]
  by_cases c10 : X.2 (nI i).toNatClampNeg &&& 31 = 10
  · rw [if_pos c10, h1, h2, cond_tt rfl, cond_tt rfl]
    exact opI X (y := 61) (ym := 158) (A := 488) (B := 502) rfl (by decide) ((q_odd X (X.2 (nI i + 1).toNatClampNeg) (X.2 (nI i + 2).toNatClampNeg)).g) (nI i) (fun v M w t u => by rw [bL_law_488, h1, h2, cond_tt rfl, cond_tt rfl]) (fun v M w t u => by rw [bL_law_502, if_pos rfl]) hI
  rw [if_neg c10]
  by_cases c11 : X.2 (nI i).toNatClampNeg &&& 31 = 11
  · rw [if_pos c11, h1, h2, h3, cond_tt rfl, cond_tt rfl, cond_tt rfl]
    exact opL X (y := 62) (ym := 160) (A := 526) (B := 545) rfl rfl ((q_mean X (X.2 (nI i + 1).toNatClampNeg) (X.2 (nI i + 2).toNatClampNeg) (X.2 (nI i + 3).toNatClampNeg)).g) (nI i) (fun v M w t u => by rw [bL_law_526, h1, h2, h3, cond_tt rfl, cond_tt rfl, cond_tt rfl]) (fun v M w t u => by rw [bL_law_545, ncmp0, if_pos rfl]) hI
  rw [if_neg c11]
  by_cases c12 : X.2 (nI i).toNatClampNeg &&& 31 = 12
  · rw [if_pos c12, h1, h2, h3, cond_tt rfl, cond_tt rfl, cond_tt rfl]
    exact opI X (y := 63) (ym := 166) (A := 570) (B := 589) rfl (by decide) ((q_stays X (X.2 (nI i + 1).toNatClampNeg) (X.2 (nI i + 2).toNatClampNeg) (X.2 (nI i + 3).toNatClampNeg)).g) (nI i) (fun v M w t u => by rw [bL_law_570, h1, h2, h3, cond_tt rfl, cond_tt rfl, cond_tt rfl]) (fun v M w t u => by rw [bL_law_589, if_pos rfl]) hI
  rw [if_neg c12]
  by_cases c13 : X.2 (nI i).toNatClampNeg &&& 31 = 13
  · rw [if_pos c13, h1, h2, h3, cond_tt rfl, cond_tt rfl, cond_tt rfl]
    exact opI X (y := 64) (ym := 167) (A := 613) (B := 632) rfl (by decide) ((q_pack X (X.2 (nI i + 1).toNatClampNeg) (X.2 (nI i + 2).toNatClampNeg) (X.2 (nI i + 3).toNatClampNeg)).g) (nI i) (fun v M w t u => by rw [bL_law_613, h1, h2, h3, cond_tt rfl, cond_tt rfl, cond_tt rfl]) (fun v M w t u => by rw [bL_law_632, if_pos rfl]) hI
  rw [if_neg c13]
  by_cases c14 : X.2 (nI i).toNatClampNeg &&& 31 = 14
  · rw [if_pos c14, h1, h2, h3, cond_tt rfl, cond_tt rfl, cond_tt rfl]
    exact opI X (y := 65) (ym := 172) (A := 656) (B := 675) rfl (by decide) ((q_fit X (X.2 (nI i + 1).toNatClampNeg) (X.2 (nI i + 2).toNatClampNeg) (X.2 (nI i + 3).toNatClampNeg)).g) (nI i) (fun v M w t u => by rw [bL_law_656, h1, h2, h3, cond_tt rfl, cond_tt rfl, cond_tt rfl]) (fun v M w t u => by rw [bL_law_675, if_pos rfl]) hI
  rw [if_neg c14]
  by_cases c15 : X.2 (nI i).toNatClampNeg &&& 31 = 15
  · rw [if_pos c15, h1, h2, h3, h4, cond_tt rfl, cond_tt rfl, cond_tt rfl, cond_tt rfl]
    exact opL X (y := 66) (ym := 173) (A := 704) (B := 728) rfl rfl ((q_share X (X.2 (nI i + 1).toNatClampNeg) (X.2 (nI i + 2).toNatClampNeg) (X.2 (nI i + 3).toNatClampNeg) (X.2 (nI i + 4).toNatClampNeg)).g) (nI i) (fun v M w t u => by rw [bL_law_704, h1, h2, h3, h4, cond_tt rfl, cond_tt rfl, cond_tt rfl, cond_tt rfl]) (fun v M w t u => by rw [bL_law_728, ncmp0, if_pos rfl]) hI
  rw [if_neg c15]
  by_cases c16 : X.2 (nI i).toNatClampNeg &&& 31 = 16
  · rw [if_pos c16, h1, h2, h3, h4, cond_tt rfl, cond_tt rfl, cond_tt rfl, cond_tt rfl]
    exact opI X (y := 67) (ym := 175) (A := 758) (B := 782) rfl (by decide) ((q_go X (X.2 (nI i + 1).toNatClampNeg) (X.2 (nI i + 2).toNatClampNeg) (X.2 (nI i + 3).toNatClampNeg) (X.2 (nI i + 4).toNatClampNeg))) (nI i) (fun v M w t u => by rw [bL_law_758, h1, h2, h3, h4, cond_tt rfl, cond_tt rfl, cond_tt rfl, cond_tt rfl]) (fun v M w t u => by rw [bL_law_782, if_pos rfl]) hI
  rw [if_neg c16]
  by_cases c17 : X.2 (nI i).toNatClampNeg &&& 31 = 17
  · rw [if_pos c17, h1, h2, h3, h4, cond_tt rfl, cond_tt rfl, cond_tt rfl, cond_tt rfl]
    exact opI X (y := 68) (ym := 178) (A := 811) (B := 835) rfl (by decide) ((q_tells X (X.2 (nI i + 1).toNatClampNeg) (X.2 (nI i + 2).toNatClampNeg) (X.2 (nI i + 3).toNatClampNeg) (X.2 (nI i + 4).toNatClampNeg)).g) (nI i) (fun v M w t u => by rw [bL_law_811, h1, h2, h3, h4, cond_tt rfl, cond_tt rfl, cond_tt rfl, cond_tt rfl]) (fun v M w t u => by rw [bL_law_835, if_pos rfl]) hI
  rw [if_neg c17]
  by_cases c18 : X.2 (nI i).toNatClampNeg &&& 31 = 18
  · rw [if_pos c18, h1, h2, h3, cond_tt rfl, cond_tt rfl, cond_tt rfl]
    exact opI X (y := 69) (ym := 179) (A := 859) (B := 878) rfl (by decide) ((q_film X (X.2 (nI i + 1).toNatClampNeg) (X.2 (nI i + 2).toNatClampNeg) (X.2 (nI i + 3).toNatClampNeg)).g) (nI i) (fun v M w t u => by rw [bL_law_859, h1, h2, h3, cond_tt rfl, cond_tt rfl, cond_tt rfl]) (fun v M w t u => by rw [bL_law_878, if_pos rfl]) hI
  rw [if_neg c18]
  by_cases c19 : X.2 (nI i).toNatClampNeg &&& 31 = 19
  · rw [if_pos c19, h1, h2, h3, cond_tt rfl, cond_tt rfl, cond_tt rfl]
    exact opI X (y := 70) (ym := 181) (A := 902) (B := 921) rfl (by decide) ((q_drawn X (X.2 (nI i + 1).toNatClampNeg) (X.2 (nI i + 2).toNatClampNeg) (X.2 (nI i + 3).toNatClampNeg)).g) (nI i) (fun v M w t u => by rw [bL_law_902, h1, h2, h3, cond_tt rfl, cond_tt rfl, cond_tt rfl]) (fun v M w t u => by rw [bL_law_921, if_pos rfl]) hI
  rw [if_neg c19]
  by_cases c20 : X.2 (nI i).toNatClampNeg &&& 31 = 20
  · rw [if_pos c20, h1, h2, h3, h4, h5, cond_tt rfl, cond_tt rfl, cond_tt rfl, cond_tt rfl, cond_tt rfl]
    exact opL X (y := 71) (ym := 182) (A := 955) (B := 984) rfl rfl ((q_chance X (X.2 (nI i + 1).toNatClampNeg) (X.2 (nI i + 2).toNatClampNeg) (X.2 (nI i + 3).toNatClampNeg) (X.2 (nI i + 4).toNatClampNeg) (X.2 (nI i + 5).toNatClampNeg)).g) (nI i) (fun v M w t u => by rw [bL_law_955, h1, h2, h3, h4, h5, cond_tt rfl, cond_tt rfl, cond_tt rfl, cond_tt rfl, cond_tt rfl]) (fun v M w t u => by rw [bL_law_984, ncmp0, if_pos rfl]) hI
  rw [if_neg c20]
  by_cases c21 : X.2 (nI i).toNatClampNeg &&& 31 = 21
  · rw [if_pos c21]
    exact opI X (y := 72) (ym := 183) (A := 994) (B := 998) rfl (by decide) ((q_image X).g) (nI i) (fun v M w t u => by rw [bL_law_994]) (fun v M w t u => by rw [bL_law_998, if_pos rfl]) hI
  rw [if_neg c21]
  by_cases c22 : X.2 (nI i).toNatClampNeg &&& 31 = 22
  · rw [if_pos c22]
    exact opI X (y := 73) (ym := 184) (A := 1007) (B := 1011) rfl (by decide) ((q_back X).g) (nI i) (fun v M w t u => by rw [bL_law_1007]) (fun v M w t u => by rw [bL_law_1011, if_pos rfl]) hI
  rw [if_neg c22]
  by_cases c23 : X.2 (nI i).toNatClampNeg &&& 31 = 23
  · rw [if_pos c23, h1, cond_tt rfl]
    exact opI X (y := 74) (ym := 185) (A := 1025) (B := 1034) rfl (by decide) ((q_count X (X.2 (nI i + 1).toNatClampNeg)).g) (nI i) (fun v M w t u => by rw [bL_law_1025, h1, cond_tt rfl]) (fun v M w t u => by rw [bL_law_1034, if_pos rfl]) hI
  rw [if_neg c23]
  by_cases c24 : X.2 (nI i).toNatClampNeg &&& 31 = 24
  · rw [if_pos c24, h1, h2, h3, cond_tt rfl, cond_tt rfl, cond_tt rfl]
    exact opI X (y := 75) (ym := 187) (A := 1058) (B := 1077) rfl (by decide) ((q_sheet X (X.2 (nI i + 1).toNatClampNeg) (X.2 (nI i + 2).toNatClampNeg) (X.2 (nI i + 3).toNatClampNeg)).g) (nI i) (fun v M w t u => by rw [bL_law_1058, h1, h2, h3, cond_tt rfl, cond_tt rfl, cond_tt rfl]) (fun v M w t u => by rw [bL_law_1077, if_pos rfl]) hI
  rw [if_neg c24]
  by_cases c25 : X.2 (nI i).toNatClampNeg &&& 31 = 25
  · rw [if_pos c25, h1, h2, h3, cond_tt rfl, cond_tt rfl, cond_tt rfl]
    exact opI X (y := 76) (ym := 188) (A := 1101) (B := 1120) rfl (by decide) ((q_cell X (X.2 (nI i + 1).toNatClampNeg) (X.2 (nI i + 2).toNatClampNeg) (X.2 (nI i + 3).toNatClampNeg)).g) (nI i) (fun v M w t u => by rw [bL_law_1101, h1, h2, h3, cond_tt rfl, cond_tt rfl, cond_tt rfl]) (fun v M w t u => by rw [bL_law_1120, if_pos rfl]) hI
  rw [if_neg c25]
  by_cases c26 : X.2 (nI i).toNatClampNeg &&& 31 = 26
  · rw [if_pos c26, h1, h2, h3, h4, h5, cond_tt rfl, cond_tt rfl, cond_tt rfl, cond_tt rfl, cond_tt rfl]
    exact opI X (y := 77) (ym := 189) (A := 1154) (B := 1183) rfl (by decide) ((q_copy X (X.2 (nI i + 1).toNatClampNeg) (X.2 (nI i + 2).toNatClampNeg) (X.2 (nI i + 3).toNatClampNeg) (X.2 (nI i + 4).toNatClampNeg) (X.2 (nI i + 5).toNatClampNeg)).g) (nI i) (fun v M w t u => by rw [bL_law_1154, h1, h2, h3, h4, h5, cond_tt rfl, cond_tt rfl, cond_tt rfl, cond_tt rfl, cond_tt rfl]) (fun v M w t u => by rw [bL_law_1183, if_pos rfl]) hI
  rw [if_neg c26]
  by_cases c27 : X.2 (nI i).toNatClampNeg &&& 31 = 27
  · rw [if_pos c27, h1, h2, h3, h4, cond_tt rfl, cond_tt rfl, cond_tt rfl, cond_tt rfl]
    exact opI X (y := 78) (ym := 190) (A := 1212) (B := 1236) rfl (by decide) ((q_people X (X.2 (nI i + 1).toNatClampNeg) (X.2 (nI i + 2).toNatClampNeg) (X.2 (nI i + 3).toNatClampNeg) (X.2 (nI i + 4).toNatClampNeg)).g) (nI i) (fun v M w t u => by rw [bL_law_1212, h1, h2, h3, h4, cond_tt rfl, cond_tt rfl, cond_tt rfl, cond_tt rfl]) (fun v M w t u => by rw [bL_law_1236, if_pos rfl]) hI
  rw [if_neg c27]
  by_cases c28 : X.2 (nI i).toNatClampNeg &&& 31 = 28
  · rw [if_pos c28, h1, h2, cond_tt rfl, cond_tt rfl]
    exact opI X (y := 79) (ym := 192) (A := 1255) (B := 1269) rfl (by decide) ((q_taken X (X.2 (nI i + 1).toNatClampNeg) (X.2 (nI i + 2).toNatClampNeg)).g) (nI i) (fun v M w t u => by rw [bL_law_1255, h1, h2, cond_tt rfl, cond_tt rfl]) (fun v M w t u => by rw [bL_law_1269, if_pos rfl]) hI
  rw [if_neg c28]
  exact ⟨M, w, t, u, s, rfl, hI, by omega, by omega⟩
theorem law_loop (hX : X.1 ≤ 3072) : ∀ (m i : Nat) (M : MM) (w : Int64) (t u : Nat) (s : GS), X.1 < i + 6 * m + 6 → i ≤ 3072 → LI M t s → ∃ r2 : Mem, nR X (callN X 256) hL_law 18 [vR 70 0, vR 2 0, vR 30 0, vI (nI i)] [] (M, w, true, true, [], t, u) = some (some (vI 1), r2) ∧ nT r2 ≤ t + 258 * m ∧ nU r2 ≤ u + 1548 * m := by
  have stop : ∀ (i : Nat) (M : MM) (w : Int64) (t u : Nat), X.1 < i + 6 → i ≤ 3072 → nR X (callN X 256) hL_law 18 [vR 70 0, vR 2 0, vR 30 0, vI (nI i)] [] (M, w, true, true, [], t, u) = some (some (vI 1), (M, w, true, true, [], t, u)) := by
    intro i M w t u h1 h2
    have hlt : Int32.ofNat X.1 - 6 < nI i := by
      show nI X.1 - nI 6 < nI i
      rw [Int32.lt_iff_toInt_lt, Int32.toInt_sub, nI_toInt (by omega), nI_toInt (by omega), nI_toInt (by omega), Int.bmod_def]
      split <;> omega
    rw [bL_law_18, if_pos hlt]
  intro m
  induction m with
  | zero =>
    intro i M w t u s h1 h2 hI
    exact ⟨_, stop i M w t u (by omega) h2, Nat.le_refl _, Nat.le_refl _⟩
  | succ m ih =>
    intro i M w t u s h1 h2 hI
    by_cases c : i + 6 ≤ X.1
    · obtain ⟨M2, w2, t2, u2, s2, e1, e2, e3, e4⟩ := law_step X hX c (w := w) (u := u) hI
      rw [e1, show (6 : Int32) = nI 6 from rfl, nI_add]
      obtain ⟨r2, f1, f2, f3⟩ := ih (i + 6) M2 w2 t2 u2 s2 (by omega) (by omega) e2
      exact ⟨r2, f1, by omega, by omega⟩
    · refine ⟨_, stop i M w t u (by omega) h2, ?_, ?_⟩
      · show t ≤ _
        omega
      · show u ≤ _
        omega
end
