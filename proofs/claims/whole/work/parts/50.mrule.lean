/-! the model: what one takes, keeps, how sure one is -/
def frS (M M' : MM) : Prop := ∀ k i j, ¬ (k = 30 ∧ 13 ≤ j ∧ j ≤ 27) → M' k i j = M k i j
theorem frS.refl (M : MM) : frS M M := fun _ _ _ _ => rfl
theorem frS.trans {M M' M2 : MM} (h : frS M M') (h2 : frS M' M2) : frS M M2 := fun k i j q => (h2 k i j q).trans (h k i j q)
theorem frS.M {M M' : MM} (h : frS M M') : fM M M' := fun k i j _ _ _ q => h k i j (fun z => q ⟨z.1, by omega⟩)
theorem frR.S {M M' : MM} (h : frR M M') : frS M M' := fun k i j q => h k i j (fun z => q ⟨z.1, by omega⟩)
section
variable (X : Nat × (Nat → Int32))
theorem sX7_within (d : Nat) (w : Int64) (l : List (Nat × Nat × Nat)) (t u : Nat) {M : MM} (v : Int32) {m : Nat} {x : Int32} (hm : m < 2 ^ 31) (hx : x = nI m) : callN X (d + 1) 112 [vI v, vI 0, vI x] (M, w, true, true, l, t, u) = some (some (vI (nI (clN v m))), (M, w, true, true, l, t, u)) := by
  subst hx
  rw [aX7_within]
  unfold clN
  by_cases c0 : v < 0
  · rw [if_neg (fun q => by
      rw [Int32.lt_iff_toInt_lt] at c0
      rw [Int32.le_iff_toInt_le] at q
      omega), neg_clamp c0, Nat.zero_min]
    rfl
  · obtain ⟨j, hj, rfl⟩ := nI_of c0
    rw [nI_clamp hj, if_pos (show (0 : Int32) ≤ nI j from nI_le (Nat.zero_le j) hj)]
    by_cases c : j ≤ m
    · rw [if_pos (nI_le c hm), Nat.min_eq_left c]
    · rw [if_neg (nI_ge (by omega) hj), Nat.min_eq_right (by omega)]
theorem clN_nI {y m : Nat} (hy : y < 2 ^ 31) : clN (nI y) m = min y m := by
  unfold clN
  rw [nI_clamp hy]
theorem mSays (d : Nat) {M : MM} (w : Int64) (l : List (Nat × Nat × Nat)) (t u : Nat) {s : GS} {wh o m : Nat} {mk g c sh : Int32} (h : SM M s) (hB : TB s) (h3 : wh < 3) (ho : o < 5) (hm : m = if wh = 1 then 100 else 99) :
    ∃ (M' : MM) (w' : Int64), callN X (d + 53) 146 [vR 30 0, vI (nI wh), vI (nI o), vI mk, vI g, vI c, vI sh] (M, w, true, true, l, t, u) = some (some (vI (nI (clN (tV (sB s) (sBn s) (nI wh) (nmF g mk (nI (gNu (sW s) o)) (nI (gD (sW s))) c sh)) m))), (M', w', true, true, l, t, u)) ∧ frS M M' := by
  have key : ∀ M1 : MM, frS M M1 → (∀ j, j < 6 → nmF g mk (nI (gNu (sW s) o)) (nI (gD (sW s))) c sh j = M1 30 0 (13 + j)) →
      ∃ (M' : MM) (w' : Int64), nBnd (callN X (d + 52) 143 [vR 30 0, vI (M1 30 0 4), vI (nI wh)] (M1, w, true, true, l, t, u)) (fun v s2 => nR X (callN X (d + 52)) hX7_says 52 [vR 30 0, vI (nI wh), vI (nI o), vI mk, vI g, vI c, vI sh] (v.toList ++ []) s2) = some (some (vI (nI (clN (tV (sB s) (sBn s) (nI wh) (nmF g mk (nI (gNu (sW s) o)) (nI (gD (sW s))) c sh)) m))), (M', w', true, true, l, t, u)) ∧ frS M M' := by
    intro M1 f1 hn
    have hS1 := h.fr f1.M
    obtain ⟨M2, w2, v, e1, e2, e3, -⟩ := sX7_read X (M := M1) (nI wh) w l t u (d + 1) (TB.r hB) (hS1.2.2.2.1.2 _ hB.1).1 hB.tx.1 (hS1.2.2.2.1.2 _ hB.1).2 hB.tx.2.1
    obtain ⟨-, e3⟩ := e3 hB.tx.2.2
    have ev : tV (sB s) (sBn s) (nI wh) (nmF g mk (nI (gNu (sW s) o)) (nI (gD (sW s))) c sh) = v := by
      have e4 : evs (nmF g mk (nI (gNu (sW s) o)) (nI (gD (sW s))) c sh) (txC (pTx (sB s) (sBn s)) (nI wh)) [] = [v] := e3 _ [] hn
      unfold tV
      rw [e4]
      rfl
    have e1 : callN X (d + 52) 143 [vR 30 0, vI (nI (gR (sW s))), vI (nI wh)] (M1, w, true, true, l, t, u) = some (some (vI v), (M2, w2, true, true, l, t, u)) := e1
    refine ⟨M2, w2, ?_, f1.trans e2.S⟩
    rw [hS1.1.2.1, e1, bnd_s, tl_s, bX7_says_52, ev, li1, hm]
    simp (disch := omega) only [nI_eq]
    by_cases c1 : wh = 1
    · rw [if_pos c1, if_pos c1, sX7_within X (d + 51) w2 l t u v (m := 100) (x := 100) (by omega) rfl, bnd_s, tl_s, bX7_says_68]
    · rw [if_neg c1, if_neg c1, sX7_within X (d + 51) w2 l t u v (m := 99) (x := 99) (by omega) rfl, bnd_s, tl_s, bX7_says_68]
  rw [show d + 53 = d + 52 + 1 from rfl, aX7_says, li2, pk_mul, in_nI (by omega) (by omega), cond_true]
  refine key _ (fun k i j q => ?_) (fun j hj => ?_)
  · rw [nst_fr (fun z => q ⟨z.1, by omega⟩), nst_fr (fun z => q ⟨z.1, by omega⟩), nst_fr (fun z => q ⟨z.1, by omega⟩), nst_fr (fun z => q ⟨z.1, by omega⟩), nst_fr (fun z => q ⟨z.1, by omega⟩), nst_fr (fun z => q ⟨z.1, by omega⟩)]
  · rw [nI_clamp (by omega)]
    have h36 := (h.1.2.2.2.2.2.2 o ho).1
    have h7 := h.1.1
    have : j = 0 ∨ j = 1 ∨ j = 2 ∨ j = 3 ∨ j = 4 ∨ j = 5 := by omega
    rcases this with rfl | rfl | rfl | rfl | rfl | rfl
    · simp [st_app, nmF]
    · simp [st_app, nmF]
    · simp [st_app, nmF, h36]
    · simp [st_app, nmF, h7]
    · simp [st_app, nmF]
    · simp [st_app, nmF]
theorem mTakes (d : Nat) {M : MM} (w : Int64) (l : List (Nat × Nat × Nat)) (t u : Nat) {s : GS} {o c mk : Nat} (h : SM M s) (hB : TB s) (ho : o < gP (sW s)) (hc : c < 6) (hm : mk < 6) :
    ∃ (M' : MM) (w' : Int64), callN X (d + 54) 147 [vR 30 0, vI (nI o), vI (nI mk), vI (nI c)] (M, w, true, true, l, t, u) = some (some (vI (nI (tkS s o c mk))), (M', w', true, true, l, t, u)) ∧ frS M M' := by
  have ho5 : o < 5 := Nat.lt_of_lt_of_le ho hB.2.2.2.2.2
  have hk := h.1.2.2.2.2.2.1 o ho
  have hn := (h.1.2.2.2.2.2.2 o ho5).1
  have hkd := hB.2.2.2.1 o
  have hnu := hB.2.2.2.2.1 o
  have hg := h.1.2.2.2.1 (c * 6 + mk) (by omega)
  obtain ⟨M1, w1, e1, e2⟩ := mSays X d w l t u (wh := 0) (o := o) (mk := nI mk) (g := nI (gCo (sW s) (c * 6 + mk))) (c := nI c) (sh := 0) h hB (by omega) ho5 rfl
  have e1 : callN X (d + 53) 146 [vR 30 0, vI 0, vI (nI o), vI (nI mk), vI (nI (gCo (sW s) (c * 6 + mk))), vI (nI c), vI 0] (M, w, true, true, l, t, u) = some (some (vI (nI (clN (tV (sB s) (sBn s) 0 (nmF (nI (gCo (sW s) (c * 6 + mk))) (nI mk) (nI (gNu (sW s) o)) (nI (gD (sW s))) (nI c) 0)) 99))), (M1, w1, true, true, l, t, u)) := e1
  have hv : clN (tV (sB s) (sBn s) 0 (nmF (nI (gCo (sW s) (c * 6 + mk))) (nI mk) (nI (gNu (sW s) o)) (nI (gD (sW s))) (nI c) 0)) 99 ≤ 99 := clN_le _ _
  unfold tkS tkG
  revert e1 hv
  generalize clN (tV (sB s) (sBn s) 0 (nmF (nI (gCo (sW s) (c * 6 + mk))) (nI mk) (nI (gNu (sW s) o)) (nI (gD (sW s))) (nI c) 0)) 99 = v
  intro e1 hv
  have key : ∀ (y : Nat) (x4 x5 x6 x7 : Int32), y < 2 ^ 30 → nBnd (callN X (d + 53) 112 [vI (nI y), vI 0, vI 99] (M1, w1, true, true, l, t, u)) (fun v2 s2 => nR X (callN X (d + 53)) hX7_takesOf 139 [vR 30 0, vI (nI o), vI (nI mk), vI (nI c), vI x4, vI x5, vI x6, vI x7] (v2.toList ++ []) s2) = some (some (vI (nI (min y 99))), (M1, w1, true, true, l, t, u)) := by
    intro y x4 x5 x6 x7 hy
    rw [sX7_within X (d + 52) w1 l t u (nI y) (m := 99) (x := 99) (by omega) rfl, bnd_s, tl_s, bX7_takesOf_139, clN_nI (by omega)]
  have hrun : ¬ (gKd (sW s) o = 4 ∧ mk = 5) → nBnd (callN X (d + 53) 146 [vR 30 0, vI 0, vI (nI o), vI (nI mk), vI (nI (gCo (sW s) (c * 6 + mk))), vI (nI c), vI 0] (M, w, true, true, l, t, u)) (fun v s2 => nR X (callN X (d + 53)) hX7_takesOf 51 [vR 30 0, vI (nI o), vI (nI mk), vI (nI c), vI (nI (gKd (sW s) o)), vI (nI (gNu (sW s) o)), vX, vX] (v.toList ++ []) s2) = some (some (vI (nI (tkN (gKd (sW s) o) (gNu (sW s) o) mk v))), (M1, w1, true, true, l, t, u)) := by
    intro hne
    revert hkd hnu hne
    generalize gKd (sW s) o = kd
    generalize gNu (sW s) o = nu
    intro hkd hnu hne
    rw [e1, bnd_s, tl_s, bX7_takesOf_51, Int32.add_zero, li1, li2, li3, li4, li5, li6, pk_rem (by omega) (by omega) (by omega), pk_mul, pk_div (by omega) (by omega) (by omega), nI_add, nI_add]
    simp (disch := omega) only [nI_eq]
    unfold tkN
    have n2 : ¬ nI 2 = 0 := by decide
    have n6 : ¬ nI 6 = 0 := by decide
    by_cases c1 : kd = 1
    · rw [if_pos c1, if_pos c1]; exact key _ _ _ _ _ (by omega)
    rw [if_neg c1, if_neg c1]
    by_cases c3 : kd = 3
    · rw [if_pos c3, if_neg n6, if_neg (show ¬ kd = 2 by omega), if_pos c3]
      by_cases c : mk = nu % 6
      · rw [if_pos c, if_pos c]; exact key _ _ _ _ _ (by omega)
      · rw [if_neg c, if_neg c]; exact key _ _ _ _ _ (by omega)
    rw [if_neg c3, if_neg c3]
    by_cases c2 : kd = 2
    · rw [if_pos c2, if_pos c2, if_neg n2]; exact key _ _ _ _ _ (by omega)
    rw [if_neg c2, if_neg c2]
    by_cases c4 : kd = 4
    · rw [if_pos c4, if_pos c4, if_neg n2, if_neg (show ¬ mk = 5 by omega)]; exact key _ _ _ _ _ (by omega)
    rw [if_neg c4, if_neg c4]
    by_cases c5 : kd = 5
    · rw [if_pos c5, if_pos c5]; exact key _ _ _ _ _ (by omega)
    rw [if_neg c5, if_neg c5]
    exact key _ _ _ _ _ (by omega)
  rw [show d + 54 = d + 53 + 1 from rfl, aX7_takesOf, in_nI ho5 (by omega), cond_true, li2, li6, pk_mul, pk_mul, nI_add, in_nI (show 2 * o < 10 by omega) (by omega), in_nI (show 6 * c + mk < 36 by omega) (by omega), cond_true, cond_true, nI_clamp (by omega), nI_clamp (by omega), nI_clamp (by omega), hk, hn, Nat.mul_comm 6 c, hg, li4, li5]
  simp (disch := omega) only [nI_eq]
  by_cases c4 : gKd (sW s) o = 4
  · rw [if_pos c4]
    by_cases c5 : mk = 5
    · rw [if_pos c5]
      refine ⟨M, w, ?_, frS.refl M⟩
      unfold tkN
      rw [c4, if_neg (by omega), if_neg (by omega), if_neg (by omega), if_pos rfl, if_pos c5]
      rfl
    · rw [if_neg c5]
      exact ⟨M1, w1, hrun (fun q => c5 q.2), e2⟩
  · rw [if_neg c4]
    exact ⟨M1, w1, hrun (fun q => c4 q.1), e2⟩
theorem mKeeps (d : Nat) {M : MM} (w : Int64) (l : List (Nat × Nat × Nat)) (t u : Nat) {s : GS} {o mk : Nat} (h : SM M s) (hB : TB s) (hW : ∀ j, gSh (sW s) j ≤ 9999) (ho : o < gP (sW s)) (hm : mk < 6) :
    ∃ (M' : MM) (w' : Int64), callN X (d + 54) 148 [vR 30 0, vI (nI o), vI (nI mk)] (M, w, true, true, l, t, u) = some (some (vI (nI (kpS s o mk))), (M', w', true, true, l, t, u)) ∧ frS M M' := by
  have ho5 : o < 5 := Nat.lt_of_lt_of_le ho hB.2.2.2.2.2
  have hk := h.1.2.2.2.2.2.1 o ho
  have hkd := hB.2.2.2.1 o
  have hg := h.1.2.2.2.2.1 (o * 6 + mk) (by omega)
  have hw := hW (o * 6 + mk)
  obtain ⟨M1, w1, e1, e2⟩ := mSays X d w l t u (wh := 1) (o := o) (mk := nI mk) (g := nI (gSh (sW s) (o * 6 + mk))) (c := 0) (sh := nI (shS s o)) h hB (by omega) ho5 rfl
  have e1 : callN X (d + 53) 146 [vR 30 0, vI 1, vI (nI o), vI (nI mk), vI (nI (gSh (sW s) (o * 6 + mk))), vI 0, vI (nI (shS s o))] (M, w, true, true, l, t, u) = some (some (vI (nI (clN (tV (sB s) (sBn s) 1 (nmF (nI (gSh (sW s) (o * 6 + mk))) (nI mk) (nI (gNu (sW s) o)) (nI (gD (sW s))) 0 (nI (shS s o)))) 100))), (M1, w1, true, true, l, t, u)) := e1
  have hv : clN (tV (sB s) (sBn s) 1 (nmF (nI (gSh (sW s) (o * 6 + mk))) (nI mk) (nI (gNu (sW s) o)) (nI (gD (sW s))) 0 (nI (shS s o)))) 100 ≤ 100 := clN_le _ _
  unfold kpS
  revert e1 hv
  generalize clN (tV (sB s) (sBn s) 1 (nmF (nI (gSh (sW s) (o * 6 + mk))) (nI mk) (nI (gNu (sW s) o)) (nI (gD (sW s))) 0 (nI (shS s o)))) 100 = v
  intro e1 hv
  rw [show d + 54 = d + 53 + 1 from rfl, aX7_keepsOf, in_nI ho5 (by omega), cond_true, li6, pk_mul, nI_add, in_nI (show 6 * o + mk < 30 by omega) (by omega), cond_true, nI_clamp (by omega), nI_clamp (by omega), hk, Nat.mul_comm 6 o, hg, sX7_shoeOf X (d + 52) w l t u h.1 ho5, bnd_s, tl_s, bX7_keepsOf_78]
  have e1' : callN X (d + 53) 146 [vR 30 0, vI 1, vI (nI o), vI (nI mk), vI (nI (gSh (sW s) (o * 6 + mk))), vI 0, vI (nI (sumN (fun j => gSh (sW s) (o * 6 + j)) 6))] (M, w, true, true, l, t, u) = some (some (vI (nI v)), (M1, w1, true, true, l, t, u)) := e1
  rw [e1', bnd_s, tl_s, bX7_keepsOf_81]
  revert hkd hw
  generalize gKd (sW s) o = kd
  generalize gSh (sW s) (o * 6 + mk) = g
  intro hkd hw
  have hgv : g * v ≤ 9999 * 100 := Nat.mul_le_mul hw hv
  rw [li2, li3, li4, li5, li10, show (100 : Int32) = nI 100 from rfl, pk_mul, pk_div (by omega) (by omega) (by omega), pk_div (by omega) (by omega) (by omega)]
  simp (disch := omega) only [nI_eq, nI_leI]
  unfold kpN
  have n2 : ¬ nI 2 = 0 := by decide
  have n6 : ¬ nI 100 = 0 := by decide
  rw [if_neg n2, if_neg n6]
  by_cases c5 : kd = 5
  · rw [if_pos c5, if_pos c5, if_neg (by omega), if_neg (by omega), if_neg (by omega), if_pos c5]
    exact ⟨M, w, rfl, frS.refl M⟩
  rw [if_neg c5, if_neg c5]
  by_cases c2 : kd = 2
  · rw [if_pos c2, if_pos c2]
    exact ⟨M, w, rfl, frS.refl M⟩
  rw [if_neg c2, if_neg c2]
  by_cases c4 : kd = 4
  · rw [if_pos c4, if_neg (show ¬ kd = 3 by omega), if_pos c4]
    by_cases c : 10 ≤ g
    · rw [if_pos c, pk_sub c]
      exact ⟨M, w, rfl, frS.refl M⟩
    · rw [if_neg c, show g - 10 = 0 by omega]
      exact ⟨M, w, rfl, frS.refl M⟩
  rw [if_neg c4]
  by_cases c3 : kd = 3
  · rw [if_pos c3, if_pos c3]
    exact ⟨M1, w1, rfl, e2⟩
  · rw [if_neg c3, if_neg c3, if_neg c4, if_neg c5]
    exact ⟨M1, w1, rfl, e2⟩
theorem mSure (d : Nat) {M : MM} (w : Int64) (l : List (Nat × Nat × Nat)) (t u : Nat) {s : GS} {x o mk : Nat} (h : SM M s) (hB : TB s) (hx : x < gP (sW s)) (ho5 : o < 5) (hm : mk < 6) :
    ∃ (M' : MM) (w' : Int64), callN X (d + 54) 149 [vR 30 0, vI (nI x), vI (nI mk), vI (nI o)] (M, w, true, true, l, t, u) = some (some (vI (nI (suS s x o mk))), (M', w', true, true, l, t, u)) ∧ frS M M' := by
  have hx5 : x < 5 := Nat.lt_of_lt_of_le hx hB.2.2.2.2.2
  have hk := h.1.2.2.2.2.2.1 x hx
  have hn := (h.1.2.2.2.2.2.2 x hx5).1
  have hkd := hB.2.2.2.1 x
  have hnu := hB.2.2.2.2.1 x
  have hg := h.1.2.2.2.2.1 (o * 6 + mk) (by omega)
  obtain ⟨M1, w1, e1, e2⟩ := mSays X d w l t u (wh := 2) (o := x) (mk := nI mk) (g := nI (gSh (sW s) (o * 6 + mk))) (c := 0) (sh := nI (shS s o)) h hB (by omega) hx5 rfl
  have e1 : callN X (d + 53) 146 [vR 30 0, vI 2, vI (nI x), vI (nI mk), vI (nI (gSh (sW s) (o * 6 + mk))), vI 0, vI (nI (sumN (fun j => gSh (sW s) (o * 6 + j)) 6))] (M, w, true, true, l, t, u) = some (some (vI (nI (clN (tV (sB s) (sBn s) 2 (nmF (nI (gSh (sW s) (o * 6 + mk))) (nI mk) (nI (gNu (sW s) x)) (nI (gD (sW s))) 0 (nI (shS s o)))) 99))), (M1, w1, true, true, l, t, u)) := e1
  have hv : clN (tV (sB s) (sBn s) 2 (nmF (nI (gSh (sW s) (o * 6 + mk))) (nI mk) (nI (gNu (sW s) x)) (nI (gD (sW s))) 0 (nI (shS s o)))) 99 ≤ 99 := clN_le _ _
  unfold suS
  revert e1 hv
  generalize clN (tV (sB s) (sBn s) 2 (nmF (nI (gSh (sW s) (o * 6 + mk))) (nI mk) (nI (gNu (sW s) x)) (nI (gD (sW s))) 0 (nI (shS s o)))) 99 = v
  intro e1 hv
  have h36 : M1 36 0 (2 * x) = nI (gNu (sW s) x) := (e2 36 0 _ (by omega)).trans hn
  rw [show d + 54 = d + 53 + 1 from rfl, aX7_sureOf, in_nI hx5 (by omega), cond_true, li6, pk_mul, nI_add, in_nI (show 6 * o + mk < 30 by omega) (by omega), cond_true, nI_clamp (by omega), nI_clamp (by omega), hk, Nat.mul_comm 6 o, hg, sX7_shoeOf X (d + 52) w l t u h.1 ho5, bnd_s, tl_s, bX7_sureOf_53, e1, bnd_s, tl_s, bX7_sureOf_56, li2, pk_mul, in_nI (show 2 * x < 10 by omega) (by omega), cond_true, nI_clamp (by omega), h36, li3, li4, li5, nI_add, pk_mul]
  revert hkd hnu
  generalize gKd (sW s) x = kd
  generalize gNu (sW s) x = nu
  intro hkd hnu
  have key : ∀ (y : Nat) (x4 x5 x6 : Int32), y ≤ 999 → nBnd (callN X (d + 53) 112 [vI (nI y), vI 0, vI 999] (M1, w1, true, true, l, t, u)) (fun v2 s2 => nR X (callN X (d + 53)) hX7_sureOf 104 [vR 30 0, vI (nI x), vI (nI mk), vI (nI o), vI x4, vI x5, vI x6] (v2.toList ++ []) s2) = some (some (vI (nI y)), (M1, w1, true, true, l, t, u)) := by
    intro y x4 x5 x6 hy
    rw [sX7_within X (d + 52) w1 l t u (nI y) (m := 999) (x := 999) (by omega) rfl, bnd_s, tl_s, bX7_sureOf_104, clN_nI (by omega), Nat.min_eq_left hy]
  simp (disch := omega) only [nI_eq]
  unfold suN
  by_cases c3 : kd = 3
  · rw [if_pos c3, if_neg (show ¬ kd = 5 by omega), if_neg (show ¬ kd = 2 by omega), if_pos c3]
    exact ⟨M, w, rfl, frS.refl M⟩
  rw [if_neg c3, if_neg c3]
  by_cases c5 : kd = 5
  · rw [if_pos c5, if_pos c5, if_neg (show ¬ kd = 2 by omega), if_neg (show ¬ kd = 4 by omega), if_pos c5]
    exact ⟨M, w, rfl, frS.refl M⟩
  rw [if_neg c5, if_neg c5]
  refine ⟨M1, w1, ?_, e2⟩
  by_cases c2 : kd = 2
  · rw [if_pos c2, if_pos c2]; exact key _ _ _ _ (by omega)
  rw [if_neg c2, if_neg c2]
  by_cases c4 : kd = 4
  · rw [if_pos c4, if_pos c4]; exact key _ _ _ _ (by omega)
  rw [if_neg c4, if_neg c4]
  exact key _ _ _ _ (by omega)
end
