/-! the class runs a text's steps over its stack -/
def stk (M : MM) (st : List Int32) : Prop := ∀ j, j < st.length → M 25 0 j = st.reverse.getD j 0
theorem stk_tail {M : MM} {a : Int32} {r : List Int32} (h : stk M (a :: r)) : stk M r := fun j hj => by
  rw [h j (by rw [List.length_cons]; omega), List.reverse_cons, getD_l (by rw [List.length_reverse]; exact hj)]
theorem stk_top {M : MM} {a : Int32} {r : List Int32} (h : stk M (a :: r)) : M 25 0 r.length = a := by
  rw [h r.length (by rw [List.length_cons]; omega), List.reverse_cons, getD_r (by rw [List.length_reverse]; exact Nat.le_refl _), List.length_reverse, Nat.sub_self]
  rfl
theorem stk_push {M : MM} {r : List Int32} (h : stk M r) (x : Int32) : stk (nSt M 25 0 r.length x) (x :: r) := fun j hj => by
  rw [List.length_cons] at hj
  rw [List.reverse_cons]
  by_cases c : j = r.length
  · subst c
    rw [nst_self, getD_r (by rw [List.length_reverse]; exact Nat.le_refl _), List.length_reverse, Nat.sub_self]
    rfl
  · rw [nst_j c, h j (by omega), getD_l (by rw [List.length_reverse]; omega)]
def fr25 (M M' : MM) : Prop := ∀ k i j, k ≠ 25 → M' k i j = M k i j
theorem fr25.st {M M' : MM} (h : fr25 M M') (i j : Nat) (v : Int32) : fr25 M (nSt M' 25 i j v) := fun k a c q => (if_neg (fun z => q z.1)).trans (h k a c q)
theorem nameIn {x : Int32} (h1 : ¬ x ≤ -7) (h2 : x < 0) : nIn (-1 - x) 6 = true := by
  rw [Int32.le_iff_toInt_le] at h1
  rw [Int32.lt_iff_toInt_lt] at h2
  have e1 : (-7 : Int32).toInt = -7 := rfl
  have e2 : (0 : Int32).toInt = 0 := rfl
  have e3 : (-1 : Int32).toInt = -1 := rfl
  rw [nIn_eq, decide_eq_true_eq, Int32.toInt_sub, e3, Int.bmod_eq_of_le (by omega) (by omega)]
  omega
section
variable (X : Nat × (Nat → Int32))
theorem sX4_joined (d : Nat) {M : MM} (w : Int64) (fm : Bool) (l : List (Nat × Nat × Nat)) (t u : Nat) (x a b : Int32) : callN X (d + 1) 39 [vI x, vI a, vI b] (M, w, true, fm, l, t, u) = some (some (vI (jnI x a b)), (M, w, true, fm, l, t, u)) := by
  rw [aX4_joined]
  unfold jnI
  by_cases c1 : x = -14
  · rw [if_pos c1, if_pos c1]
  rw [if_neg c1, if_neg c1]
  by_cases c2 : x = -13
  · rw [if_pos c2, if_pos c2]
  rw [if_neg c2, if_neg c2]
  by_cases c3 : x = -12
  · rw [if_pos c3, if_pos c3]
    by_cases c : a = b
    · rw [if_pos c, if_pos c]
    · rw [if_neg c, if_neg c]
  rw [if_neg c3, if_neg c3]
  by_cases c4 : x = -11
  · rw [if_pos c4, if_pos c4]
    by_cases c : b ≤ a
    · rw [if_pos c, if_pos c]
    · rw [if_neg c, if_neg c]
  rw [if_neg c4, if_neg c4]
  by_cases c5 : x = -10
  · rw [if_pos c5, if_pos c5]
    by_cases c : a = 0
    · rw [if_pos c, if_pos c]
    · rw [if_neg c, if_neg c]
      by_cases c' : b = 0
      · rw [if_pos c', if_pos c']
      · rw [if_neg c', if_neg c']
  rw [if_neg c5, if_neg c5]
  by_cases c6 : x = -9
  · rw [if_pos c6, if_pos c6]
    by_cases c : a = 0
    · rw [if_pos c, if_pos c]
      by_cases c' : b = 0
      · rw [if_pos c', if_pos c']
      · rw [if_neg c', if_neg c']
    · rw [if_neg c, if_neg c]
  rw [if_neg c6, if_neg c6]
/-- one step -/
theorem val_step (d : Nat) (w : Int64) (fm : Bool) (l : List (Nat × Nat × Nat)) (t u : Nat) {M0 M : MM} {i pt s e m : Nat} {x : Int32} {x6 : AV} {st : List Int32} (hpt : pt < 3) (hf : fr25 M0 M) (hs : stk M st) (hlen : st.length ≤ m) (hm : s + m < e) (he : e ≤ 160) (hend : M0 16 i (pt + 1) = nI e) (hx : M0 15 i (s + m) = x) :
    ∃ M', nR X (callN X (d + 1)) hX4_value 11 [vR 14 i, vI (nI pt), vR 24 0, vR 25 0, vI (nI st.length), vI (nI (s + m)), x6] [] (M, w, true, fm, l, t, u) = nR X (callN X (d + 1)) hX4_value 11 [vR 14 i, vI (nI pt), vR 24 0, vR 25 0, vI (nI (stp (fun j => M0 24 0 j) x st).length), vI (nI (s + (m + 1))), vI x] [] (M', w, true, fm, l, t, u) ∧ fr25 M0 M' ∧ stk M' (stp (fun j => M0 24 0 j) x st) ∧ (stp (fun j => M0 24 0 j) x st).length ≤ m + 1 := by
  have h179 : ∀ (M9 : MM) (x4 x6 : Int32), nR X (callN X (d + 1)) hX4_value 179 [vR 14 i, vI (nI pt), vR 24 0, vR 25 0, vI x4, vI (nI (s + m)), vI x6] [] (M9, w, true, fm, l, t, u) = nR X (callN X (d + 1)) hX4_value 11 [vR 14 i, vI (nI pt), vR 24 0, vR 25 0, vI x4, vI (nI (s + (m + 1))), vI x6] [] (M9, w, true, fm, l, t, u) := by
    intro M9 x4 x6
    rw [bX4_value_179, show nI (s + m) + (1 : Int32) = nI (s + (m + 1)) from nI_add (s + m) 1]
  have hx : M 15 i (s + m) = x := (hf 15 i _ (by omega)).trans hx
  have hend : M 16 i (pt + 1) = nI e := (hf 16 i _ (by omega)).trans hend
  rw [bX4_value_11, show nI pt + (1 : Int32) = nI (pt + 1) from nI_add pt 1, in_nI (by omega) (by omega), cond_true, nI_clamp (by omega), hend, if_neg (nI_ge hm (by omega)), li160, if_neg (nI_ge (show s + m < 160 by omega) (by omega)), in_nI (by omega) (by omega), cond_true, nI_clamp (by omega), hx]
  unfold stp
  by_cases c7 : x ≤ -7
  · rw [if_pos c7, if_pos c7]
    have hn7 : ¬ (-7 : Int32) < x := fun q => by
      rw [Int32.le_iff_toInt_le] at c7
      rw [Int32.lt_iff_toInt_lt] at q
      omega
    rw [bX4_value_83, if_neg hn7]
    by_cases c8 : x < -8
    · rw [if_pos c8, if_pos c8]
      have hn8 : ¬ (-8 : Int32) ≤ x := fun q => by
        rw [Int32.lt_iff_toInt_lt] at c8
        rw [Int32.le_iff_toInt_le] at q
        omega
      rw [bX4_value_142, if_neg hn8]
      rcases st with _ | ⟨y, _ | ⟨a, r⟩⟩
      · rw [if_pos (by decide), h179]
        exact ⟨M, rfl, hf, hs, by show 0 ≤ m + 1; omega⟩
      · rw [if_pos (show nI [y].length ≤ (1 : Int32) from (by decide : nI 1 ≤ (1 : Int32))), h179]
        exact ⟨M, rfl, hf, hs, by show 1 ≤ m + 1; omega⟩
      · have hl2 : (y :: a :: r).length = r.length + 1 + 1 := rfl
        rw [hl2] at hlen ⊢
        have htop := stk_top hs
        have htop2 := stk_top (stk_tail hs)
        have htop : M 25 0 (r.length + 1) = y := htop
        rw [if_neg (show ¬ nI (r.length + 1 + 1) ≤ (1 : Int32) from nI_ge (a := 1) (by omega) (by omega)), pk_m1, bX4_value_158, show nI (r.length + 1) - (1 : Int32) = nI r.length from nI_pred _, in_nI (by omega) (by omega), cond_true, in_nI (by omega) (by omega), cond_true, nI_clamp (by omega), nI_clamp (by omega), htop, htop2, sX4_joined, bnd_s, tl_s, bX4_value_178, in_nI (by omega) (by omega), cond_true, nI_clamp (by omega), h179]
        have hp := stk_push (stk_tail (stk_tail hs)) (jnI x a y)
        exact ⟨_, rfl, hf.st _ _ _, hp, by show r.length + 1 ≤ m + 1; omega⟩
    · rw [if_neg c8, if_neg c8]
      rcases st with _ | ⟨a, r⟩
      · have hge : (-8 : Int32) ≤ x := by
          rw [Int32.lt_iff_toInt_lt] at c8
          rw [Int32.le_iff_toInt_le]
          omega
        rw [if_pos (by decide), bX4_value_142, if_pos hge, h179]
        exact ⟨M, rfl, hf, hs, by show 0 ≤ m + 1; omega⟩
      · have hl1 : (a :: r).length = r.length + 1 := rfl
        rw [hl1] at hlen ⊢
        have htop := stk_top hs
        rw [if_neg (show ¬ nI (r.length + 1) ≤ (0 : Int32) from nI_ge (a := 0) (by omega) (by omega)), show nI (r.length + 1) - (1 : Int32) = nI r.length from nI_pred _, in_nI (by omega) (by omega)]
        simp only [cond_true]
        rw [nI_clamp (by omega), htop]
        by_cases c9 : x = -8
        · rw [if_pos c9, if_pos c9, h179]
          exact ⟨_, rfl, hf.st _ _ _, stk_push (stk_tail hs) (-a), by show r.length + 1 ≤ m + 1; omega⟩
        · rw [if_neg c9, if_neg c9]
          by_cases c0 : a = 0
          · rw [if_pos c0, if_pos c0, h179]
            exact ⟨_, rfl, hf.st _ _ _, stk_push (stk_tail hs) 1, by show r.length + 1 ≤ m + 1; omega⟩
          · rw [if_neg c0, if_neg c0, h179]
            exact ⟨_, rfl, hf.st _ _ _, stk_push (stk_tail hs) 0, by show r.length + 1 ≤ m + 1; omega⟩
  · rw [if_neg c7, if_neg c7, if_neg (nI_ge (show st.length < 160 by omega) (by omega))]
    have hl1 : ∀ z : Int32, (z :: st).length = st.length + 1 := fun _ => rfl
    rw [hl1]
    by_cases c0 : x < 0
    · rw [if_pos c0, if_pos c0, bX4_value_75, nameIn c7 c0, cond_true, in_nI (by omega) (by omega), cond_true, nI_clamp (by omega), h179, hf 24 0 _ (by omega), show nI st.length + (1 : Int32) = nI (st.length + 1) from nI_add _ 1]
      exact ⟨_, rfl, hf.st _ _ _, stk_push hs _, by omega⟩
    · rw [if_neg c0, if_neg c0, in_nI (by omega) (by omega), cond_true, nI_clamp (by omega), h179, show nI st.length + (1 : Int32) = nI (st.length + 1) from nI_add _ 1]
      exact ⟨_, rfl, hf.st _ _ _, stk_push hs _, by omega⟩
theorem sX4_value (d : Nat) (w : Int64) (fm : Bool) (l : List (Nat × Nat × Nat)) (t u : Nat) {M0 : MM} {i pt s : Nat} {c : List Int32} {v : Int32} (hpt : pt < 3) (hs0 : M0 16 i pt = nI s) (hend : M0 16 i (pt + 1) = nI (s + c.length)) (he : s + c.length ≤ 160) (hc : ∀ j, j < c.length → M0 15 i (s + j) = c.getD j 0) (hv : evs (fun j => M0 24 0 j) c [] = [v]) :
    ∃ M', callN X (d + 2) 38 [vR 14 i, vI (nI pt), vR 24 0, vR 25 0] (M0, w, true, fm, l, t, u) = some (some (vI v), (M', w, true, fm, l, t, u)) ∧ fr25 M0 M' := by
  have loop : ∀ (c2 : List Int32) (m : Nat) (st : List Int32) (M : MM) (x6 : AV), m + c2.length = c.length → (∀ j, j < c2.length → M0 15 i (s + m + j) = c2.getD j 0) → fr25 M0 M → stk M st → st.length ≤ m →
      ∃ M' x6', nR X (callN X (d + 1)) hX4_value 11 [vR 14 i, vI (nI pt), vR 24 0, vR 25 0, vI (nI st.length), vI (nI (s + m)), x6] [] (M, w, true, fm, l, t, u) = nR X (callN X (d + 1)) hX4_value 11 [vR 14 i, vI (nI pt), vR 24 0, vR 25 0, vI (nI (evs (fun j => M0 24 0 j) c2 st).length), vI (nI (s + c.length)), x6'] [] (M', w, true, fm, l, t, u) ∧ fr25 M0 M' ∧ stk M' (evs (fun j => M0 24 0 j) c2 st) := by
    intro c2
    induction c2 with
    | nil =>
      intro m st M x6 hm hj hf hst hl
      have : m = c.length := hm
      subst this
      exact ⟨M, x6, rfl, hf, hst⟩
    | cons x c2 ih =>
      intro m st M x6 hm hj hf hst hl
      rw [List.length_cons] at hm
      have hx := hj 0 (by rw [List.length_cons]; omega)
      obtain ⟨M1, e1, e2, e3, e4⟩ := val_step X d w fm l t u (x6 := x6) (e := s + c.length) hpt hf hst hl (show s + m < s + c.length by omega) he hend (x := x) hx
      obtain ⟨M2, x2, g1, g2, g3⟩ := ih (m + 1) _ M1 (vI x) (by omega) (fun j hj2 => by
        have := hj (j + 1) (by rw [List.length_cons]; omega)
        rw [show s + m + (j + 1) = s + (m + 1) + j by omega] at this
        exact this) e2 e3 e4
      exact ⟨M2, x2, by rw [e1, g1]; rfl, g2, g3⟩
  obtain ⟨M1, x6, e1, e2, e3⟩ := loop c 0 [] M0 vX (Nat.zero_add _) (fun j hj => by rw [Nat.add_zero]; exact hc j hj) (fun _ _ _ _ => rfl) (fun j hj => by cases hj) (Nat.le_refl 0)
  rw [hv] at e1 e3
  have hst : callN X (d + 2) 38 [vR 14 i, vI (nI pt), vR 24 0, vR 25 0] (M0, w, true, fm, l, t, u) = nR X (callN X (d + 1)) hX4_value 11 [vR 14 i, vI (nI pt), vR 24 0, vR 25 0, vI (nI 0), vI (nI (s + 0)), vX] [] (M0, w, true, fm, l, t, u) := by
    show callN X (d + 1 + 1) 38 _ _ = _
    rw [aX4_value, in_nI (by omega) (by omega), cond_true, nI_clamp (by omega), hs0, Nat.add_zero]
    rfl
  have e1 : nR X (callN X (d + 1)) hX4_value 11 [vR 14 i, vI (nI pt), vR 24 0, vR 25 0, vI (nI 0), vI (nI (s + 0)), vX] [] (M0, w, true, fm, l, t, u) = nR X (callN X (d + 1)) hX4_value 11 [vR 14 i, vI (nI pt), vR 24 0, vR 25 0, vI (nI 1), vI (nI (s + c.length)), x6] [] (M1, w, true, fm, l, t, u) := e1
  have hv0 : M1 25 0 0 = v := stk_top e3
  refine ⟨M1, ?_, e2⟩
  rw [hst, e1, bX4_value_11, show nI pt + (1 : Int32) = nI (pt + 1) from nI_add pt 1, in_nI (by omega) (by omega), cond_true, nI_clamp (by omega), e2 16 i _ (by omega), hend, if_pos (nI_le (Nat.le_refl _) (by omega)), if_neg (by decide), show ((0 : Int32)).toNatClampNeg = 0 from rfl, hv0]
end
