/-! film, tells -/
theorem b8 : ∀ v, v < 128 → (nI v).toInt8.toInt32 = nI v := by decide +kernel
def foF (row : Nat → Int32) (T : Nat → Nat) : Nat → Nat → Int32
  | 0, _ => -1
  | m + 1, k => if nI (T k) = row k then foF row T m (k + 1) else nI k
def foS (s : GS) (p o c : Nat) : Int32 := foF (sH s p).2.2.2 (fun k => tkS s o c k) (sH s p).2.2.1 0
def vaS (s : GS) (k o v : Nat) : GS := (setG (sW s) k o v, s.2)
theorem upF_at (f : Nat → Nat) (i v : Nat) : upF f i v i = v := if_pos rfl
theorem upF_up (f : Nat → Nat) (i a b : Nat) : upF (upF f i a) i b = upF f i b := funext fun j => by
  unfold upF
  by_cases c : j = i
  · rw [if_pos c, if_pos c]
  · rw [if_neg c, if_neg c, if_neg c]
theorem upF_id (f : Nat → Nat) (i : Nat) : upF f i (f i) = f := funext fun j => by
  unfold upF
  by_cases c : j = i
  · rw [if_pos c, c]
  · rw [if_neg c]
theorem foF_congr {row : Nat → Int32} {T T2 : Nat → Nat} : ∀ m k, (∀ j, k ≤ j → j < k + m → T j = T2 j) → foF row T m k = foF row T2 m k
  | 0, _, _ => rfl
  | m + 1, k, h => by
    show (if nI (T k) = row k then foF row T m (k + 1) else nI k) = if nI (T2 k) = row k then foF row T2 m (k + 1) else nI k
    rw [h k (Nat.le_refl _) (by omega), foF_congr m (k + 1) (fun j h1 h2 => h j (by omega) (by omega))]
def vaB (s : GS) (o va v c : Nat) (s2 : GS) (c2 : Nat) : Prop := (va = 0 ∧ v = 0 ∧ s2 = s ∧ c2 = c) ∨ (va = 1 ∧ v ≤ 5 ∧ s2 = vaS s 4 o v ∧ c2 = c) ∨ (va = 2 ∧ v ≤ 9 ∧ s2 = vaS s 2 o v ∧ c2 = c) ∨ (va = 3 ∧ v < 100 ∧ s2 = vaS s 0 o v ∧ c2 = c) ∨ (va = 5 ∧ v < 6 ∧ s2 = s ∧ c2 = v) ∨ (va = 6 ∧ v < sN s ∧ s2 = vaS s 5 o v ∧ c2 = c)
theorem foS_va {s : GS} {p o va v c : Nat} {s2 : GS} {c2 : Nat} (h : vaB s o va v c s2 c2) : foS s2 p o c2 = foF (sH s p).2.2.2 (fun k => tkG (sX s (if va = 6 then v else gR (sW s))).1 (sX s (if va = 6 then v else gR (sW s))).2 (if va = 1 then v else gKd (sW s) o) (if va = 2 then v else gNu (sW s) o) (if va = 3 then v else gD (sW s)) (if va = 5 then v else c) k (gCo (sW s) ((if va = 5 then v else c) * 6 + k))) (sH s p).2.2.1 0 := by
  rcases h with ⟨rfl, -, rfl, rfl⟩ | ⟨rfl, -, rfl, rfl⟩ | ⟨rfl, -, rfl, rfl⟩ | ⟨rfl, -, rfl, rfl⟩ | ⟨rfl, -, rfl, rfl⟩ | ⟨rfl, -, rfl, rfl⟩
  · rfl
  · refine foF_congr _ _ (fun k _ _ => ?_)
    show tkG (sB s) (sBn s) (upF (gKd (sW s)) o v o) _ _ _ _ _ = _
    rw [upF_at]
    rfl
  · refine foF_congr _ _ (fun k _ _ => ?_)
    show tkG (sB s) (sBn s) _ (upF (gNu (sW s)) o v o) _ _ _ _ = _
    rw [upF_at]
    rfl
  · rfl
  · rfl
  · rfl
theorem vaB_bd {s : GS} {o va v c : Nat} {s2 : GS} {c2 : Nat} (h : vaB s o va v c s2 c2) (hB : TB s) (hc : c < 6) : (if va = 1 then v else gKd (sW s) o) ≤ 5 ∧ (if va = 2 then v else gNu (sW s) o) ≤ 9 ∧ (if va = 5 then v else c) < 6 ∧ (if va = 6 then v else gR (sW s)) < sN s ∧ va < 7 ∧ v < 100 := by
  have h1 := hB.2.2.2.1 o
  have h2 := hB.2.2.2.2.1 o
  have h3 := hB.1
  have h4 := hB.2.1
  rcases h with ⟨rfl, h, -, -⟩ | ⟨rfl, h, -, -⟩ | ⟨rfl, h, -, -⟩ | ⟨rfl, h, -, -⟩ | ⟨rfl, h, -, -⟩ | ⟨rfl, h, -, -⟩
  · exact ⟨h1, h2, hc, h3, by omega, by omega⟩
  · exact ⟨h, h2, hc, h3, by omega, by omega⟩
  · exact ⟨h1, h, hc, h3, by omega, by omega⟩
  · exact ⟨h1, h2, hc, h3, by omega, h⟩
  · exact ⟨h1, h2, h, h3, by omega, by omega⟩
  · exact ⟨h1, h2, hc, h, by omega, by omega⟩
section
variable (X : Nat × (Nat → Int32))
theorem cFo (d : Nat) {M : MM} (w : Int64) (t u : Nat) {s : GS} {p o va v c : Nat} {s2 : GS} {c2 : Nat} (hv : vaB s o va v c s2 c2) (h : SC M s) (hB : TB s) (ho : o < 5) (hp : p < 4) (hc : c < 6) (hth : (sH s p).1 = true) (h6 : (sH s p).2.2.1 ≤ 6) : ∃ M2, callN X (d + 5) 105 [vR 2 0, vR 18 p, vI (nI o), vI (nI c), vI (nI va), vI (nI v)] (M, w, true, true, [], t, u) = some (some (vI (foS s2 p o c2)), (M2, w, true, true, [], t, u)) ∧ fr245 M M2 := by
  obtain ⟨b1, b2, b3, b4, b5, b6⟩ := vaB_bd hv hB hc
  have b4' := Nat.lt_of_lt_of_le b4 hB.2.1
  have h9 := (h.2.2.2.2 p hp).2 hth
  have hent : callN X (d + 5) 105 [vR 2 0, vR 18 p, vI (nI o), vI (nI c), vI (nI va), vI (nI v)] (M, w, true, true, [], t, u) = nR X (callN X (d + 4)) hX6_firstOtherwise 102 [vR 2 0, vR 18 p, vI (nI o), vI (nI c), vI (nI va), vI (nI v), vI (nI (if va = 1 then v else gKd (sW s) o)), vI (nI (if va = 2 then v else gNu (sW s) o)), vI (nI (if va = 3 then v else gD (sW s))), vI (nI (if va = 5 then v else c)), vI (nI (if va = 6 then v else gR (sW s))), vI 0] [] (M, w, true, true, [], t, u) := by
    rw [show d + 5 = d + 4 + 1 from rfl, aX6_firstOtherwise, nin_t ho, cond_tt rfl, nI_clamp (by omega), h.1.2.2.2.2.2.1 o ho, li1]
    simp (disch := omega) only [nI_eq]
    have s1 : (if va = 1 then nR X (callN X (d + 4)) hX6_firstOtherwise 22 [vR 2 0, vR 18 p, vI (nI o), vI (nI c), vI (nI va), vI (nI v), vI (nI v), vX, vX, vX, vX, vX] [] (M, w, true, true, [], t, u) else nR X (callN X (d + 4)) hX6_firstOtherwise 22 [vR 2 0, vR 18 p, vI (nI o), vI (nI c), vI (nI va), vI (nI v), vI (nI (gKd (sW s) o)), vX, vX, vX, vX, vX] [] (M, w, true, true, [], t, u)) = nR X (callN X (d + 4)) hX6_firstOtherwise 22 [vR 2 0, vR 18 p, vI (nI o), vI (nI c), vI (nI va), vI (nI v), vI (nI (if va = 1 then v else gKd (sW s) o)), vX, vX, vX, vX, vX] [] (M, w, true, true, [], t, u) := by
      by_cases z : va = 1
      · rw [if_pos z, if_pos z]
      · rw [if_neg z, if_neg z]
    rw [s1, bX6_firstOtherwise_22, nin_t ho, cond_tt rfl, nI_clamp (by omega), h.1.2.2.2.2.2.2.1 o ho, li2]
    simp (disch := omega) only [nI_eq]
    generalize (if va = 1 then v else gKd (sW s) o) = kd
    have s2' : (if va = 2 then nR X (callN X (d + 4)) hX6_firstOtherwise 44 [vR 2 0, vR 18 p, vI (nI o), vI (nI c), vI (nI va), vI (nI v), vI (nI kd), vI (nI v), vX, vX, vX, vX] [] (M, w, true, true, [], t, u) else nR X (callN X (d + 4)) hX6_firstOtherwise 44 [vR 2 0, vR 18 p, vI (nI o), vI (nI c), vI (nI va), vI (nI v), vI (nI kd), vI (nI (gNu (sW s) o)), vX, vX, vX, vX] [] (M, w, true, true, [], t, u)) = nR X (callN X (d + 4)) hX6_firstOtherwise 44 [vR 2 0, vR 18 p, vI (nI o), vI (nI c), vI (nI va), vI (nI v), vI (nI kd), vI (nI (if va = 2 then v else gNu (sW s) o)), vX, vX, vX, vX] [] (M, w, true, true, [], t, u) := by
      by_cases z : va = 2
      · rw [if_pos z, if_pos z]
      · rw [if_neg z, if_neg z]
    rw [s2', bX6_firstOtherwise_44, h.1.1, li3]
    simp (disch := omega) only [nI_eq]
    generalize (if va = 2 then v else gNu (sW s) o) = nu
    have s3 : (if va = 3 then nR X (callN X (d + 4)) hX6_firstOtherwise 64 [vR 2 0, vR 18 p, vI (nI o), vI (nI c), vI (nI va), vI (nI v), vI (nI kd), vI (nI nu), vI (nI v), vX, vX, vX] [] (M, w, true, true, [], t, u) else nR X (callN X (d + 4)) hX6_firstOtherwise 64 [vR 2 0, vR 18 p, vI (nI o), vI (nI c), vI (nI va), vI (nI v), vI (nI kd), vI (nI nu), vI (nI (gD (sW s))), vX, vX, vX] [] (M, w, true, true, [], t, u)) = nR X (callN X (d + 4)) hX6_firstOtherwise 64 [vR 2 0, vR 18 p, vI (nI o), vI (nI c), vI (nI va), vI (nI v), vI (nI kd), vI (nI nu), vI (nI (if va = 3 then v else gD (sW s))), vX, vX, vX] [] (M, w, true, true, [], t, u) := by
      by_cases z : va = 3
      · rw [if_pos z, if_pos z]
      · rw [if_neg z, if_neg z]
    rw [s3, bX6_firstOtherwise_64, li5]
    simp (disch := omega) only [nI_eq]
    generalize (if va = 3 then v else gD (sW s)) = dy
    have s5 : (if va = 5 then nR X (callN X (d + 4)) hX6_firstOtherwise 78 [vR 2 0, vR 18 p, vI (nI o), vI (nI c), vI (nI va), vI (nI v), vI (nI kd), vI (nI nu), vI (nI dy), vI (nI v), vX, vX] [] (M, w, true, true, [], t, u) else nR X (callN X (d + 4)) hX6_firstOtherwise 78 [vR 2 0, vR 18 p, vI (nI o), vI (nI c), vI (nI va), vI (nI v), vI (nI kd), vI (nI nu), vI (nI dy), vI (nI c), vX, vX] [] (M, w, true, true, [], t, u)) = nR X (callN X (d + 4)) hX6_firstOtherwise 78 [vR 2 0, vR 18 p, vI (nI o), vI (nI c), vI (nI va), vI (nI v), vI (nI kd), vI (nI nu), vI (nI dy), vI (nI (if va = 5 then v else c)), vX, vX] [] (M, w, true, true, [], t, u) := by
      by_cases z : va = 5
      · rw [if_pos z, if_pos z]
      · rw [if_neg z, if_neg z]
    rw [s5, bX6_firstOtherwise_78, h.1.2.1, li6]
    simp (disch := omega) only [nI_eq]
    generalize (if va = 5 then v else c) = cc
    have s6 : (if va = 6 then nR X (callN X (d + 4)) hX6_firstOtherwise 99 [vR 2 0, vR 18 p, vI (nI o), vI (nI c), vI (nI va), vI (nI v), vI (nI kd), vI (nI nu), vI (nI dy), vI (nI cc), vI (nI v), vX] [] (M, w, true, true, [], t, u) else nR X (callN X (d + 4)) hX6_firstOtherwise 99 [vR 2 0, vR 18 p, vI (nI o), vI (nI c), vI (nI va), vI (nI v), vI (nI kd), vI (nI nu), vI (nI dy), vI (nI cc), vI (nI (gR (sW s))), vX] [] (M, w, true, true, [], t, u)) = nR X (callN X (d + 4)) hX6_firstOtherwise 99 [vR 2 0, vR 18 p, vI (nI o), vI (nI c), vI (nI va), vI (nI v), vI (nI kd), vI (nI nu), vI (nI dy), vI (nI cc), vI (nI (if va = 6 then v else gR (sW s))), vX] [] (M, w, true, true, [], t, u) := by
      by_cases z : va = 6
      · rw [if_pos z, if_pos z]
      · rw [if_neg z, if_neg z]
    rw [s6, bX6_firstOtherwise_99]
  rw [hent, foS_va hv]
  revert b1 b2 b3 b4 b4'
  generalize (if va = 1 then v else gKd (sW s) o) = kd
  generalize (if va = 2 then v else gNu (sW s) o) = nu
  generalize (if va = 3 then v else gD (sW s)) = dy
  generalize (if va = 5 then v else c) = cc
  generalize (if va = 6 then v else gR (sW s)) = x
  intro b1 b2 b3 b4 b4'
  have loop : ∀ (m k : Nat) (Mi : MM), k + m = (sH s p).2.2.1 → fr245 M Mi → ∃ M2, nR X (callN X (d + 4)) hX6_firstOtherwise 102 [vR 2 0, vR 18 p, vI (nI o), vI (nI c), vI (nI va), vI (nI v), vI (nI kd), vI (nI nu), vI (nI dy), vI (nI cc), vI (nI x), vI (nI k)] [] (Mi, w, true, true, [], t, u) = some (some (vI (foF (sH s p).2.2.2 (fun k => tkG (sX s x).1 (sX s x).2 kd nu dy cc k (gCo (sW s) (cc * 6 + k))) m k)), (M2, w, true, true, [], t, u)) ∧ fr245 M M2 := by
    intro m
    induction m with
    | zero =>
      intro k Mi hk hf
      have hk : k = (sH s p).2.2.1 := hk
      have h18 : Mi 18 p 1 = nI (sH s p).2.2.1 := (hf 18 p 1 (by omega) (by omega)).trans h9.2.1
      rw [bX6_firstOtherwise_102, h18, hk, if_pos (nI_le (Nat.le_refl _) (by omega))]
      exact ⟨Mi, rfl, hf⟩
    | succ m ih =>
      intro k Mi hk hf
      have h18 : Mi 18 p 1 = nI (sH s p).2.2.1 := (hf 18 p 1 (by omega) (by omega)).trans h9.2.1
      have hS := h.fr hf.C
      obtain ⟨M1, e1, e2⟩ := sX6_takesOf X d w true [] t u (M := Mi) (dy := dy) b4' (hS.2.2.2.1.2 x b4) (hB.2.2.1 x b4) b1 b2 (show k < 6 by omega) b3 (hS.1.2.2.2.1 (cc * 6 + k) (by omega))
      rw [bX6_firstOtherwise_102, h18, if_neg (nI_ge (by omega) (by omega)), li6, if_neg (nI_ge (by omega) (by omega)), e1, bnd_s, tl_s, bX6_firstOtherwise_134, nin_t (show k < 40 by omega), cond_tt rfl, nI_clamp (by omega), e2 19 p k (by omega) (by omega), hf 19 p k (by omega) (by omega), h9.2.2 k (by omega), nI_1]
      show ∃ M2, _ = some (some (vI (if nI (tkG (sX s x).1 (sX s x).2 kd nu dy cc k (gCo (sW s) (cc * 6 + k))) = (sH s p).2.2.2 k then _ else nI k)), _) ∧ _
      by_cases z : nI (tkG (sX s x).1 (sX s x).2 kd nu dy cc k (gCo (sW s) (cc * 6 + k))) = (sH s p).2.2.2 k
      · rw [if_pos z, if_pos z]
        exact ih (k + 1) M1 (by omega) (hf.trans e2)
      · rw [if_neg z, if_neg z]
        exact ⟨M1, rfl, hf.trans e2⟩
  exact loop _ 0 M (Nat.zero_add _) (fr245.refl M)
theorem mFo (d : Nat) {M : MM} (w : Int64) (t u : Nat) {s : GS} {p o c : Nat} (h : SM M s) (hB : TB s) (ho : o < gP (sW s)) (hp : p < 4) (hc : c < 6) (hth : (sH s p).1 = true) (h6 : (sH s p).2.2.1 ≤ 6) : ∃ (M2 : MM) (w2 : Int64), callN X (d + 55) 176 [vR 30 0, vI (nI p), vI (nI o), vI (nI c)] (M, w, true, true, [], t, u) = some (some (vI (foS s p o c)), (M2, w2, true, true, [], t, u)) ∧ frS M M2 := by
  have h9 := (h.2.2.2.2 p hp).2 hth
  have loop : ∀ (m k : Nat) (Mi : MM) (wi : Int64), k + m = (sH s p).2.2.1 → frS M Mi → ∃ (M2 : MM) (w2 : Int64), nR X (callN X (d + 54)) hX7_firstOther 3 [vR 30 0, vI (nI p), vI (nI o), vI (nI c), vI (nI k)] [] (Mi, wi, true, true, [], t, u) = some (some (vI (foF (sH s p).2.2.2 (fun k => tkS s o c k) m k)), (M2, w2, true, true, [], t, u)) ∧ frS M M2 := by
    intro m
    induction m with
    | zero =>
      intro k Mi wi hk hf
      have hk : k = (sH s p).2.2.1 := hk
      have h47 : Mi 47 0 p = nI (sH s p).2.2.1 := (hf 47 0 p (by omega)).trans h9.2.1
      rw [bX7_firstOther_3, nin_t hp, cond_tt rfl, nI_clamp (by omega), h47, hk, if_pos (nI_le (Nat.le_refl _) (by omega))]
      exact ⟨Mi, wi, rfl, hf⟩
    | succ m ih =>
      intro k Mi wi hk hf
      have h47 : Mi 47 0 p = nI (sH s p).2.2.1 := (hf 47 0 p (by omega)).trans h9.2.1
      obtain ⟨M1, w1, e1, e2⟩ := mTakes X d wi [] t u (o := o) (c := c) (mk := k) (h.fr hf.M) hB ho hc (by omega)
      rw [bX7_firstOther_3, nin_t hp, cond_tt rfl, nI_clamp (by omega), h47, if_neg (nI_ge (by omega) (by omega)), e1, bnd_s, tl_s, bX7_firstOther_22, li40, pk_mul, nI_add, nin_t (show 40 * p + k < 160 by omega), cond_tt rfl, nI_clamp (by omega), e2 48 0 _ (by omega), hf 48 0 _ (by omega), h9.2.2 k (by omega), nI_1]
      show ∃ (M2 : MM) (w2 : Int64), _ = some (some (vI (if nI (tkS s o c k) = (sH s p).2.2.2 k then _ else nI k)), _) ∧ _
      by_cases z : nI (tkS s o c k) = (sH s p).2.2.2 k
      · rw [if_pos z, if_pos z]
        exact ih (k + 1) M1 w1 (by omega) (hf.trans e2)
      · rw [if_neg z, if_neg z]
        exact ⟨M1, w1, rfl, hf.trans e2⟩
  rw [show d + 55 = d + 54 + 1 from rfl, aX7_firstOther]
  exact loop _ 0 M w (Nat.zero_add _) (frS.refl M)
theorem q_film (i a c : Int32) : Stq X 69 179 [vI i, vI a, vI c] := fun s hB => by
  have hP := hB.1.2.2.2.2.2
  cases c0 : nIn i 4
  · refine q_bad X hB (vI (-2)) (fun d M w t u h => ?_) (fun d M w t u h => ?_)
    · rw [show d + 200 = d + 199 + 1 from rfl, aX6_film, cSheet, c0, bnd_s, tl_s, bX6_film_4, if_b]
      rfl
    · rw [show d + 200 = d + 199 + 1 from rfl, aX7_film, mSheet, c0, bnd_s, tl_s, bX7_film_4, if_b]
      rfl
  cases c1 : nIn a (gP (sW s))
  · refine q_bad X hB (vI (-2)) (fun d M w t u h => ?_) (fun d M w t u h => ?_)
    · rw [show d + 200 = d + 199 + 1 from rfl, aX6_film, cSheet, c0, bnd_s, tl_s, bX6_film_4, if_b, cond_tt rfl, cHas X (d + 198) a w true [] t u h.1 hP, c1, bnd_s, tl_s, bX6_film_15, if_b]
      rfl
    · rw [show d + 200 = d + 199 + 1 from rfl, aX7_film, mSheet, c0, bnd_s, tl_s, bX7_film_4, if_b, cond_tt rfl, mOne X (d + 197) a w [] t u h.1 hP, c1, bnd_s, tl_s, bX7_film_12, if_b]
      rfl
  cases c2 : nIn c 6
  · refine q_bad X hB (vI (-2)) (fun d M w t u h => ?_) (fun d M w t u h => ?_)
    · rw [show d + 200 = d + 199 + 1 from rfl, aX6_film, cSheet, c0, bnd_s, tl_s, bX6_film_4, if_b, cond_tt rfl, cHas X (d + 198) a w true [] t u h.1 hP, c1, bnd_s, tl_s, bX6_film_15, if_b, cond_tt rfl, cCoast, c2, bnd_s, tl_s, bX6_film_22, if_b]
      rfl
    · rw [show d + 200 = d + 199 + 1 from rfl, aX7_film, mSheet, c0, bnd_s, tl_s, bX7_film_4, if_b, cond_tt rfl, mOne X (d + 197) a w [] t u h.1 hP, c1, bnd_s, tl_s, bX7_film_12, if_b, cond_tt rfl, mCoast, c2, bnd_s, tl_s, bX7_film_19, if_b]
      rfl
  obtain ⟨i, hi, rfl⟩ := in_ex c0 (by omega)
  obtain ⟨o, ho, rfl⟩ := in_ex c1 (by omega)
  obtain ⟨c, hc, rfl⟩ := in_ex c2 (by omega)
  have ho5 : o < 5 := by omega
  refine ⟨vI (nI (sumN (fun k => tkS s o c k) 6)), setH s i (true, 0, 6, rwF (fun k => tkS s o c k) 6), fun d M w t u h => ?_, fun d M w t u h => ?_, hB.h i (fun _ => ⟨Nat.zero_le _, by show 6 ≤ 40; omega⟩)⟩
  · have loop : ∀ (m k : Nat) (Mi : MM), k + m = 6 → SC Mi (setH s i (true, 0, 6, rwF (fun k => tkS s o c k) k)) → (∀ k i j, 30 ≤ k → Mi k i j = M k i j) → ∃ M2, nR X (callN X (d + 199)) hX6_film 47 [vR 2 0, vI (nI i), vI (nI o), vI (nI c), vR 18 i, vI (nI k)] [] (Mi, w, true, true, [], t, u) = some (some (vI (nI (sumN (fun k => tkS s o c k) 6))), (M2, w, true, true, [], t, u)) ∧ SC M2 (setH s i (true, 0, 6, rwF (fun k => tkS s o c k) 6)) ∧ ∀ k i j, 30 ≤ k → M2 k i j = M k i j := by
      intro m
      induction m with
      | zero =>
        intro k Mi hk hS hf
        have hk : k = 6 := hk
        subst hk
        refine ⟨Mi, ?_, hS, hf⟩
        have h9 := hS.2.2.2.2 i hi
        rw [setH_at] at h9
        have h9 := h9.2 rfl
        have h91 : Mi 18 i 1 = nI 6 := h9.2.1
        have hsum := sX6_sum19 X (d + 197) i (M := Mi) w true [] t u (f := 0) (n := 6) (by omega)
        have hsum : callN X (d + 198) 109 [vR 19 i, vI 0, vI (nI 6)] (Mi, w, true, true, [], t, u) = _ := hsum
        rw [bX6_film_47, if_pos (by decide), show d + 199 = d + 198 + 1 from rfl, aX3_all, h91, hsum, bnd_s, tl_s, bX3_all_12, bnd_s, tl_s, bX6_film_80, sumI_nI (h := fun k => tkS s o c k) 6 (fun j hj => by
          rw [Nat.zero_add]
          refine (h9.2.2 j hj).trans ?_
          show rwF _ 6 j = _
          unfold rwF
          rw [if_pos hj])]
      | succ m ih =>
        intro k Mi hk hS hf
        obtain ⟨M1, e1, e2⟩ := cTakes X (d + 194) w true [] t u (o := o) (c := c) (mk := k) hS hB.1 ho5 hc (by omega)
        have e1 : callN X (d + 199) 92 [vR 2 0, vI (nI o), vI (nI c), vI (nI k)] (Mi, w, true, true, [], t, u) = some (some (vI (nI (tkS s o c k))), (M1, w, true, true, [], t, u)) := e1
        have hS1 := hS.fr e2.C
        have h9 := hS1.2.2.2.2 i hi
        rw [setH_at] at h9
        have h9 := h9.2 rfl
        have h90 : M1 18 i 0 = nI 0 := h9.1
        have htk := tkS_le s o c k
        rw [bX6_film_47, li6, if_neg (nI_ge (by omega) (by omega)), e1, bnd_s]
        show ∃ M2, nR X (callN X (d + 199)) hX6_film 66 _ [vI (nI (tkS s o c k)), vI (nI k), vR 18 i] _ = _ ∧ _
        rw [bX6_film_66, show callN X (d + 199) 34 = callN X (d + 198 + 1) 34 from rfl, aX3_put, h90, if_pos (by decide), nin_t (show k < 40 by omega), cond_tt rfl, nI_clamp (by omega), b8 _ (by omega), bnd_s, tl_n, bX6_film_69, nI_1]
        refine ih (k + 1) _ (by omega) ?_ (fun a b j q => (nst_fr (by omega)).trans ((e2 a b j (by omega) (by omega)).trans (hf a b j q)))
        have hS2 := hS1.h (M' := nSt M1 19 i k (nI (tkS s o c k))) (i := i) (g := (true, 0, 6, rwF (fun k => tkS s o c k) (k + 1))) ⟨fun q => (by cases q), fun _ => ⟨(nst_fr (by omega)).trans h9.1, (nst_fr (by omega)).trans h9.2.1, fun j hj => ?_⟩⟩ (fun a b j _ q => nst_o (by omega))
        · rw [setH_set] at hS2
          exact hS2
        · have h92 : ∀ j, j < 6 → M1 19 i j = rwF (fun k => tkS s o c k) k j := h9.2.2
          show nSt M1 19 i k (nI (tkS s o c k)) 19 i j = rwF (fun k => tkS s o c k) (k + 1) j
          rw [← rwF_s (fun k => tkS s o c k) k (fun k => tkS s o c k) rfl]
          show _ = if j = k then _ else _
          by_cases cj : j = k
          · rw [cj, nst_self, if_pos rfl]
          · rw [nst_j cj, if_neg cj]
            exact h92 j hj
    obtain ⟨M1, e1, e2, e3, e4, e5⟩ := cBecS X (d + 198) i 0 6 M w t u
    have hS1 : SC M1 (setH s i (true, 0, 6, rwF (fun k => tkS s o c k) 0)) := h.h ⟨fun q => (by cases q), fun _ => ⟨e2, e3, fun j hj => (e4 j (Nat.lt_of_lt_of_le hj (by show 6 ≤ 40; omega))).trans (rwF_0 (fun k => tkS s o c k) j).symm⟩⟩ (fun k a j _ q => e5 k a j q)
    obtain ⟨M2, f1, f2, f3⟩ := loop 6 0 M1 rfl hS1 (fun k i2 j q => e5 k i2 j (by omega))
    refine ⟨M2, ?_, f2, f3⟩
    have f1 : nR X (callN X (d + 199)) hX6_film 47 [vR 2 0, vI (nI i), vI (nI o), vI (nI c), vR 18 i, vI 0] [] (M1, w, true, true, [], t, u) = _ := f1
    rw [show d + 200 = d + 199 + 1 from rfl, aX6_film, cSheet, c0, bnd_s, tl_s, bX6_film_4, if_b, cond_tt rfl, cHas X (d + 198) (nI o) w true [] t u h.1 hP, c1, bnd_s, tl_s, bX6_film_15, if_b, cond_tt rfl, cCoast, c2, bnd_s, tl_s, bX6_film_22, if_b, cond_tt rfl, c0, cond_tt rfl, nI_clamp (show i < 2 ^ 31 by omega), e1, bnd_s, tl_n, bX6_film_44]
    exact f1
  · obtain ⟨M2, f1, f2, f3⟩ := mBecS X (d + 196) (i := i) (k := 0) (n := 6) hi (by omega) (by omega) M w t u
    have f1 : callN X (d + 199) 187 [vR 30 0, vI (nI i), vI 0, vI 6] (M, w, true, true, [], t, u) = _ := f1
    have loop : ∀ (m k : Nat) (Mi : MM) (wi : Int64), k + m = 6 → SM Mi (setH s i (true, 0, 6, rwF (fun k => tkS s o c k) k)) → (∀ a b j, a < 30 → Mi a b j = M a b j) → ∃ (M2 : MM) (w2 : Int64), nR X (callN X (d + 199)) hX7_film 40 [vR 30 0, vI (nI i), vI (nI o), vI (nI c), vI (nI (sumN (fun k => tkS s o c k) k)), vI (nI k)] [] (Mi, wi, true, true, [], t, u) = some (some (vI (nI (sumN (fun k => tkS s o c k) 6))), (M2, w2, true, true, [], t, u)) ∧ SM M2 (setH s i (true, 0, 6, rwF (fun k => tkS s o c k) 6)) ∧ ∀ a b j, a < 30 → M2 a b j = M a b j := by
      intro m
      induction m with
      | zero =>
        intro k Mi wi hk hS hf
        have hk : k = 6 := hk
        subst hk
        rw [bX7_film_40, if_pos (by decide)]
        exact ⟨Mi, wi, rfl, hS, hf⟩
      | succ m ih =>
        intro k Mi wi hk hS hf
        obtain ⟨M3, w3, e1, e2⟩ := mTakes X (d + 145) wi [] t u (o := o) (c := c) (mk := k) hS hB.1 ho hc (by omega)
        have e1 : callN X (d + 199) 147 [vR 30 0, vI (nI o), vI (nI k), vI (nI c)] (Mi, wi, true, true, [], t, u) = some (some (vI (nI (tkS s o c k))), (M3, w3, true, true, [], t, u)) := e1
        have hS3 := hS.fr e2.M
        have h9 := hS3.2.2.2.2 i hi
        rw [setH_at] at h9
        have h92 := h9.2 rfl
        have hS4 := hS3.h (M' := nSt M3 48 0 (40 * i + k) (nI (tkS s o c k))) (i := i) (g := (true, 0, 6, rwF (fun k => tkS s o c k) (k + 1))) (hB.h i (fun _ => ⟨Nat.zero_le _, by show 6 ≤ 40; omega⟩)) ⟨(nst_fr (by omega)).trans h9.1, fun _ => ⟨(nst_fr (by omega)).trans h92.1, (nst_fr (by omega)).trans h92.2.1, fun j hj => by
          have h93 : ∀ j, j < 6 → M3 48 0 (40 * i + j) = rwF (fun k => tkS s o c k) k j := h92.2.2
          show nSt M3 48 0 (40 * i + k) (nI (tkS s o c k)) 48 0 (40 * i + j) = rwF (fun k => tkS s o c k) (k + 1) j
          rw [← rwF_s (fun k => tkS s o c k) k (fun k => tkS s o c k) rfl]
          show _ = if j = k then _ else _
          by_cases cj : j = k
          · rw [cj, nst_self, if_pos rfl]
          · rw [nst_j (by omega), if_neg cj]
            exact h93 j hj⟩⟩ (fun a b j q1 q2 q3 q4 q5 q6 => nst_fr (by
              rintro ⟨rfl, rfl⟩
              exact q6 ⟨rfl, by omega, by omega⟩))
        rw [setH_set] at hS4
        obtain ⟨M5, w5, g1, g2⟩ := mTakes X (d + 145) w3 [] t u (o := o) (c := c) (mk := k) hS4 hB.1 ho hc (by omega)
        have g1 : callN X (d + 199) 147 [vR 30 0, vI (nI o), vI (nI k), vI (nI c)] (nSt M3 48 0 (40 * i + k) (nI (tkS s o c k)), w3, true, true, [], t, u) = some (some (vI (nI (tkS s o c k))), (M5, w5, true, true, [], t, u)) := g1
        rw [bX7_film_40, li6, if_neg (nI_ge (by omega) (by omega)), e1, bnd_s]
        show ∃ (M2 : MM) (w2 : Int64), nR X (callN X (d + 199)) hX7_film 66 _ [vI (nI (tkS s o c k)), vI (40 * nI i + nI k), vR 48 0] _ = _ ∧ _
        rw [bX7_film_66, li40, pk_mul, nI_add, nin_t (show 40 * i + k < 160 by omega), cond_tt rfl, nI_clamp (by omega), g1, bnd_s]
        show ∃ (M2 : MM) (w2 : Int64), nR X (callN X (d + 199)) hX7_film 77 _ [vI (nI (tkS s o c k)), vI (nI (sumN (fun k => tkS s o c k) k))] _ = _ ∧ _
        rw [bX7_film_77, nI_add, nI_1]
        exact ih (k + 1) M5 w5 (by omega) (hS4.fr g2.M) (fun a b j q => (g2 a b j (by omega)).trans ((nst_fr (by omega)).trans ((e2 a b j (by omega)).trans (hf a b j q))))
    have hS2 : SM M2 (setH s i (true, 0, 6, rwF (fun k => tkS s o c k) 0)) := h.h hB ⟨f2.1, fun _ => ⟨(f2.2 rfl).1, (f2.2 rfl).2.1, fun j hj => ((f2.2 rfl).2.2 j hj).trans (rwF_0 (fun k => tkS s o c k) j).symm⟩⟩ (fun k a j q1 q2 q3 q4 q5 q6 => f3 k a j q5 q6)
    obtain ⟨M3, w3, g1, g2, g3⟩ := loop 6 0 M2 w rfl hS2 (fun a b j q => f3 a b j (by omega) (by omega))
    refine ⟨M3, w3, t, u, ?_, g2, g3, by omega, by omega⟩
    have g1 : nR X (callN X (d + 199)) hX7_film 40 [vR 30 0, vI (nI i), vI (nI o), vI (nI c), vI 0, vI 0] [] (M2, w, true, true, [], t, u) = _ := g1
    rw [show d + 200 = d + 199 + 1 from rfl, aX7_film, mSheet, c0, bnd_s, tl_s, bX7_film_4, if_b, cond_tt rfl, mOne X (d + 197) (nI o) w [] t u h.1 hP, c1, bnd_s, tl_s, bX7_film_12, if_b, cond_tt rfl, mCoast, c2, bnd_s, tl_s, bX7_film_19, if_b, cond_tt rfl, f1, bnd_s, tl_s, bX7_film_33]
    exact g1
end
/-! bits, counts, the least of those by which it would be so -/
def bN (ok : Nat → Bool) : Nat → Nat
  | 0 => 0
  | n + 1 => cond (ok n) (bN ok n ||| 2 ^ n) (bN ok n)
def cN (ok : Nat → Bool) : Nat → Nat
  | 0 => 0
  | n + 1 => cN ok n + cond (ok n) 1 0
def lF (ok : Nat → Bool) : Nat → Nat → Int32
  | 0, _ => -1
  | m + 1, i => cond (ok i) (nI i) (lF ok m (i + 1))
theorem cN_le (ok : Nat → Bool) : ∀ n, cN ok n ≤ n
  | 0 => Nat.le_refl _
  | n + 1 => by
    have := cN_le ok n
    show cN ok n + cond (ok n) 1 0 ≤ n + 1
    cases ok n
    · show cN ok n + 0 ≤ n + 1
      omega
    · show cN ok n + 1 ≤ n + 1
      omega
theorem bit_nI2 : ∀ c, c < 10 → (1 : Int32) <<< (nI c &&& 31) = nI (2 ^ c) := by decide +kernel
def okY (s : GS) (p o c k : Nat) (v : Nat) : Bool := decide (foS (vaS s k o v) p o c = -1)
def okZ (s : GS) (p o : Nat) (v : Nat) : Bool := decide (foS s p o v = -1)
section
variable (X : Nat × (Nat → Int32))
/-- the class: bits of all that tell -/
theorem cBits (d : Nat) {M : MM} (w : Int64) (t u : Nat) {s : GS} {p o va n c : Nat} {S2 : Nat → GS} {C2 : Nat → Nat} (hv : ∀ v, v < n → vaB s o va v c (S2 v) (C2 v)) (hn : n ≤ 10) (h : SC M s) (hB : TB s) (ho : o < 5) (hp : p < 4) (hc : c < 6) (hth : (sH s p).1 = true) (h6 : (sH s p).2.2.1 ≤ 6) : ∃ M2, callN X (d + 6) 106 [vR 2 0, vR 18 p, vI (nI o), vI (nI c), vI (nI va), vI (nI n)] (M, w, true, true, [], t, u) = some (some (vI (nI (bN (fun v => decide (foS (S2 v) p o (C2 v) = -1)) n))), (M2, w, true, true, [], t, u)) ∧ fr245 M M2 := by
  have loop : ∀ (m v : Nat) (Mi : MM), v + m = n → fr245 M Mi → ∃ M2, nR X (callN X (d + 5)) hX6_bitsThatTell 6 [vR 2 0, vR 18 p, vI (nI o), vI (nI c), vI (nI va), vI (nI n), vI (nI (bN (fun v => decide (foS (S2 v) p o (C2 v) = -1)) v)), vI (nI v)] [] (Mi, w, true, true, [], t, u) = some (some (vI (nI (bN (fun v => decide (foS (S2 v) p o (C2 v) = -1)) n))), (M2, w, true, true, [], t, u)) ∧ fr245 M M2 := by
    intro m
    induction m with
    | zero =>
      intro v Mi hi hf
      have hi : v = n := hi
      subst hi
      rw [bX6_bitsThatTell_6, if_pos (nI_le (Nat.le_refl _) (by omega))]
      exact ⟨Mi, rfl, hf⟩
    | succ m ih =>
      intro v Mi hi hf
      obtain ⟨M1, e1, e2⟩ := cFo X d w t u (p := p) (hv v (by omega)) (h.fr hf.C) hB ho hp hc hth h6
      rw [bX6_bitsThatTell_6, if_neg (nI_ge (by omega) (by omega)), e1, bnd_s, tl_s, bX6_bitsThatTell_24, bit_nI2 v (by omega), nI_or, nI_1]
      have := ih (v + 1) M1 (by omega) (hf.trans e2)
      have e9 : bN (fun v => decide (foS (S2 v) p o (C2 v) = -1)) (v + 1) = cond (decide (foS (S2 v) p o (C2 v) = -1)) (bN (fun v => decide (foS (S2 v) p o (C2 v) = -1)) v ||| 2 ^ v) (bN (fun v => decide (foS (S2 v) p o (C2 v) = -1)) v) := rfl
      rw [e9] at this
      by_cases z : foS (S2 v) p o (C2 v) = -1
      · rw [if_pos z]
        rw [decide_eq_true z] at this
        exact this
      · rw [if_neg z]
        rw [decide_eq_false z] at this
        exact this
  rw [show d + 6 = d + 5 + 1 from rfl, aX6_bitsThatTell]
  exact loop n 0 M (Nat.zero_add _) (fr245.refl M)
theorem cDays (d : Nat) {M : MM} (w : Int64) (t u : Nat) {s : GS} {p o c : Nat} (h : SC M s) (hB : TB s) (ho : o < 5) (hp : p < 4) (hc : c < 6) (hth : (sH s p).1 = true) (h6 : (sH s p).2.2.1 ≤ 6) : ∃ M2, callN X (d + 6) 107 [vR 2 0, vR 18 p, vI (nI o), vI (nI c)] (M, w, true, true, [], t, u) = some (some (vI (nI (cN (okY s p o c 0) 100))), (M2, w, true, true, [], t, u)) ∧ fr245 M M2 := by
  have loop : ∀ (m v : Nat) (Mi : MM), v + m = 100 → fr245 M Mi → ∃ M2, nR X (callN X (d + 5)) hX6_daysThatTell 6 [vR 2 0, vR 18 p, vI (nI o), vI (nI c), vI (nI (cN (okY s p o c 0) v)), vI (nI v)] [] (Mi, w, true, true, [], t, u) = some (some (vI (nI (cN (okY s p o c 0) 100))), (M2, w, true, true, [], t, u)) ∧ fr245 M M2 := by
    intro m
    induction m with
    | zero =>
      intro v Mi hi hf
      have hi : v = 100 := hi
      subst hi
      rw [bX6_daysThatTell_6, if_pos (by decide)]
      exact ⟨Mi, rfl, hf⟩
    | succ m ih =>
      intro v Mi hi hf
      obtain ⟨M1, e1, e2⟩ := cFo X d w t u (p := p) (s2 := vaS s 0 o v) (c2 := c) (va := 3) (v := v) (Or.inr (Or.inr (Or.inr (Or.inl ⟨rfl, by omega, rfl, rfl⟩)))) (h.fr hf.C) hB ho hp hc hth h6
      have e1 : callN X (d + 5) 105 [vR 2 0, vR 18 p, vI (nI o), vI (nI c), vI 3, vI (nI v)] (Mi, w, true, true, [], t, u) = _ := e1
      rw [bX6_daysThatTell_6, show (100 : Int32) = nI 100 from rfl, if_neg (nI_ge (by omega) (by omega)), e1, bnd_s, tl_s, bX6_daysThatTell_23, nI_1, nI_1]
      have := ih (v + 1) M1 (by omega) (hf.trans e2)
      have e9 : cN (okY s p o c 0) (v + 1) = cN (okY s p o c 0) v + cond (decide (foS (vaS s 0 o v) p o c = -1)) 1 0 := rfl
      rw [e9] at this
      by_cases z : foS (vaS s 0 o v) p o c = -1
      · rw [if_pos z]
        rw [decide_eq_true z] at this
        exact this
      · rw [if_neg z]
        rw [decide_eq_false z] at this
        exact this
  rw [show d + 6 = d + 5 + 1 from rfl, aX6_daysThatTell]
  exact loop 100 0 M (Nat.zero_add _) (fr245.refl M)
theorem cLeast (d : Nat) {M : MM} (w : Int64) (t u : Nat) {s : GS} {p o c : Nat} (h : SC M s) (hB : TB s) (ho : o < 5) (hp : p < 4) (hc : c < 6) (hth : (sH s p).1 = true) (h6 : (sH s p).2.2.1 ≤ 6) : ∃ M2, callN X (d + 6) 108 [vR 2 0, vR 18 p, vI (nI o), vI (nI c)] (M, w, true, true, [], t, u) = some (some (vI (lF (okY s p o c 0) 100 0)), (M2, w, true, true, [], t, u)) ∧ fr245 M M2 := by
  have loop : ∀ (m v : Nat) (Mi : MM), v + m = 100 → fr245 M Mi → ∃ M2, nR X (callN X (d + 5)) hX6_leastDayThatTells 3 [vR 2 0, vR 18 p, vI (nI o), vI (nI c), vI (nI v)] [] (Mi, w, true, true, [], t, u) = some (some (vI (lF (okY s p o c 0) m v)), (M2, w, true, true, [], t, u)) ∧ fr245 M M2 := by
    intro m
    induction m with
    | zero =>
      intro v Mi hi hf
      have hi : v = 100 := hi
      subst hi
      rw [bX6_leastDayThatTells_3, if_pos (by decide)]
      exact ⟨Mi, rfl, hf⟩
    | succ m ih =>
      intro v Mi hi hf
      obtain ⟨M1, e1, e2⟩ := cFo X d w t u (p := p) (s2 := vaS s 0 o v) (c2 := c) (va := 3) (v := v) (Or.inr (Or.inr (Or.inr (Or.inl ⟨rfl, by omega, rfl, rfl⟩)))) (h.fr hf.C) hB ho hp hc hth h6
      have e1 : callN X (d + 5) 105 [vR 2 0, vR 18 p, vI (nI o), vI (nI c), vI 3, vI (nI v)] (Mi, w, true, true, [], t, u) = _ := e1
      rw [bX6_leastDayThatTells_3, show (100 : Int32) = nI 100 from rfl, if_neg (nI_ge (by omega) (by omega)), e1, bnd_s, tl_s, bX6_leastDayThatTells_20, nI_1]
      show ∃ M2, _ = some (some (vI (cond (decide (foS (vaS s 0 o v) p o c = -1)) (nI v) (lF (okY s p o c 0) m (v + 1)))), _) ∧ _
      by_cases z : foS (vaS s 0 o v) p o c = -1
      · rw [if_pos z, decide_eq_true z]
        exact ⟨M1, rfl, hf.trans e2⟩
      · rw [if_neg z, decide_eq_false z]
        exact ih (v + 1) M1 (by omega) (hf.trans e2)
  rw [show d + 6 = d + 5 + 1 from rfl, aX6_leastDayThatTells]
  exact loop 100 0 M (Nat.zero_add _) (fr245.refl M)
theorem mCoastSet (d : Nat) {M : MM} (w : Int64) (t u : Nat) {s : GS} {p o : Nat} (h : SM M s) (hB : TB s) (ho : o < gP (sW s)) (hp : p < 4) (hth : (sH s p).1 = true) (h6 : (sH s p).2.2.1 ≤ 6) : ∃ (M2 : MM) (w2 : Int64), callN X (d + 56) 177 [vR 30 0, vI (nI p), vI (nI o)] (M, w, true, true, [], t, u) = some (some (vI (nI (bN (okZ s p o) 6))), (M2, w2, true, true, [], t, u)) ∧ frS M M2 := by
  have loop : ∀ (m v : Nat) (Mi : MM) (wi : Int64), v + m = 6 → frS M Mi → ∃ (M2 : MM) (w2 : Int64), nR X (callN X (d + 55)) hX7_coastSet 5 [vR 30 0, vI (nI p), vI (nI o), vI (nI (bN (okZ s p o) v)), vI (nI v)] [] (Mi, wi, true, true, [], t, u) = some (some (vI (nI (bN (okZ s p o) 6))), (M2, w2, true, true, [], t, u)) ∧ frS M M2 := by
    intro m
    induction m with
    | zero =>
      intro v Mi wi hi hf
      have hi : v = 6 := hi
      subst hi
      rw [bX7_coastSet_5, if_pos (by decide)]
      exact ⟨Mi, wi, rfl, hf⟩
    | succ m ih =>
      intro v Mi wi hi hf
      obtain ⟨M1, w1, e1, e2⟩ := mFo X d wi t u (p := p) (c := v) (h.fr hf.M) hB ho hp (by omega) hth h6
      rw [bX7_coastSet_5, li6, if_neg (nI_ge (by omega) (by omega)), e1, bnd_s]
      show ∃ (M2 : MM) (w2 : Int64), nR X (callN X (d + 55)) hX7_coastSet 21 _ [vI (foS s p o v), vI (nI (bN (okZ s p o) v))] _ = _ ∧ _
      rw [bX7_coastSet_21, bit_nI v (by omega), bit_0 v (by omega), nI_or, nI_or, nI_1, Nat.or_zero]
      have := ih (v + 1) M1 w1 (by omega) (hf.trans e2)
      have e9 : bN (okZ s p o) (v + 1) = cond (decide (foS s p o v = -1)) (bN (okZ s p o) v ||| 2 ^ v) (bN (okZ s p o) v) := rfl
      rw [e9] at this
      by_cases z : foS s p o v = -1
      · rw [if_pos z]
        rw [decide_eq_true z] at this
        exact this
      · rw [if_neg z]
        rw [decide_eq_false z] at this
        exact this
  rw [show d + 56 = d + 55 + 1 from rfl, aX7_coastSet]
  exact loop 6 0 M w rfl (frS.refl M)
end
