/-! go: the question -/
theorem thS_0 {s : GS} (hsh : ∀ j, gSh (sW s) j ≤ 9999) (o : Nat) : thS s o 0 0 = s := by
  have e : flF (gSh (sW s)) (o * 6) 6 (thG s o 0 0) = gSh (sW s) := funext fun j => by
    by_cases y : o * 6 ≤ j ∧ j < o * 6 + 6
    · unfold flF
      rw [if_pos y]
      have := hsh j
      show min (gSh (sW s) (o * 6 + (j - o * 6)) + 0) 9999 = _
      rw [show o * 6 + (j - o * 6) = j by omega]
      omega
    · exact flF_out (by omega)
  show shW s (flF (gSh (sW s)) (o * 6) 6 (thG s o 0 0)) = s
  rw [e]
  rfl
section
variable (X : Nat × (Nat → Int32))
def MSg (y : Nat) (as : List AV) (v : AV) (s s2 : GS) : Prop := ∀ (d : Nat) (M : MM) (w : Int64) (t u : Nat), SM M s → 72 ≤ t → ∃ (M2 : MM) (w2 : Int64) (t2 u2 : Nat), callN X (d + 200) y (vR 30 0 :: as) (M, w, true, true, [], t, u) = some (some v, (M2, w2, true, true, [], t2, u2)) ∧ SM M2 s2 ∧ (∀ k i j, k < 30 → M2 k i j = M k i j) ∧ t ≤ t2 ∧ t2 ≤ t + 258 ∧ u2 ≤ u + 1548
def Stg (y ym : Nat) (as : List AV) : Prop := ∀ s, SB s → ∃ (v : AV) (s2 : GS), CSp X y as v s s2 ∧ MSg X ym as v s s2 ∧ SB s2
theorem MSp.g {y : Nat} {as : List AV} {v : AV} {s s2 : GS} (h : MSp X y as v s s2) : MSg X y as v s s2 := fun d M w t u hS _ => by
  obtain ⟨M2, w2, t2, u2, e1, e2, e3, e4, e5⟩ := h d M w t u hS
  exact ⟨M2, w2, t2, u2, e1, e2, e3, by omega, by omega, by omega⟩
theorem Stq.g {y ym : Nat} {as : List AV} (h : Stq X y ym as) : Stg X y ym as := fun s hB => by
  obtain ⟨v, s2, h1, h2, h3⟩ := h s hB
  exact ⟨v, s2, h1, h2.g, h3⟩
theorem q_go (a b n z : Int32) : Stg X 67 175 [vI a, vI b, vI n, vI z] := fun s hB => by
  have hP := hB.1.2.2.2.2.2
  have hT := hB.1
  have hsh : ∀ j, gSh (sW s) j ≤ 9999 := hB.2.1.2.2.2.1
  have bad : ((twoB a b (gP (sW s)) && (nIn n 4 && nIn z 2)) = false) → ∃ (v : AV) (s2 : GS), CSp X 67 [vI a, vI b, vI n, vI z] v s s2 ∧ MSg X 175 [vI a, vI b, vI n, vI z] v s s2 ∧ SB s2 := fun hb => by
    have : ∃ (v2 : AV) (s2 : GS), CSp X 67 [vI a, vI b, vI n, vI z] v2 s s2 ∧ MSp X 175 [vI a, vI b, vI n, vI z] v2 s s2 ∧ SB s2 := q_bad X hB (vI (-2)) (fun d M w t u h => by
      rw [show d + 200 = d + 199 + 1 from rfl, aX6_go, cTwo X (d + 197) a b w true [] t u h.1 hP, bnd_s, tl_s, bX6_go_6, if_b, if_in4 (n := 4) rfl, if_in2 (n := 2) rfl]
      cases c1 : twoB a b (gP (sW s))
      · rfl
      rw [c1] at hb
      cases c2 : nIn n 4
      · rfl
      rw [c2] at hb
      cases c3 : nIn z 2
      · rfl
      rw [c3] at hb
      cases hb) (fun d M w t u h => by
      rw [show d + 200 = d + 199 + 1 from rfl, aX7_go, mTwo X (d + 196) a b w [] t u h.1 hP, bnd_s, tl_s, bX7_go_6, if_b, mIn X (d + 198) n (n := 4) rfl, bnd_s, tl_s, bX7_go_18, if_b, mIn X (d + 198) z (n := 2) rfl, bnd_s, tl_s, bX7_go_29, if_b]
      cases c1 : twoB a b (gP (sW s))
      · rfl
      rw [c1] at hb
      cases c2 : nIn n 4
      · rfl
      rw [c2] at hb
      cases c3 : nIn z 2
      · rfl
      rw [c3] at hb
      cases hb)
    obtain ⟨v, s2, h1, h2, h3⟩ := this
    exact ⟨v, s2, h1, h2.g, h3⟩
  cases c1 : twoB a b (gP (sW s))
  · exact bad (by rw [c1]; rfl)
  cases c2 : nIn n 4
  · exact bad (by rw [c1, c2]; rfl)
  cases c3 : nIn z 2
  · exact bad (by rw [c1, c2, c3]; rfl)
  have c1' : (nIn a (gP (sW s)) && (nIn b (gP (sW s)) && decide (a ≠ b))) = true := c1
  rw [Bool.and_eq_true, Bool.and_eq_true, decide_eq_true_eq] at c1'
  obtain ⟨o, ho, rfl⟩ := in_ex c1'.1 (by omega)
  obtain ⟨q, hq, rfl⟩ := in_ex c1'.2.1 (by omega)
  obtain ⟨n, hn, rfl⟩ := in_ex c2 (by omega)
  obtain ⟨z, hz, rfl⟩ := in_ex c3 (by omega)
  have hoq : o ≠ q := fun e => c1'.2.2 (congrArg nI e)
  have ho5 : o < 5 := by omega
  have hq5 : q < 5 := by omega
  have hn3 : n ≤ 3 := by omega
  have h6 : 6 ^ n ≤ 216 := by
    have : n = 0 ∨ n = 1 ∨ n = 2 ∨ n = 3 := by omega
    rcases this with rfl | rfl | rfl | rfl <;> decide
  have h60 : 0 < 6 ^ n := Nat.pow_pos (by omega)
  have hcn : cntG n ≤ 258 := by
    have : n = 0 ∨ n = 1 ∨ n = 2 ∨ n = 3 := by omega
    rcases this with rfl | rfl | rfl | rfl <;> decide
  obtain ⟨⟨w0, v0⟩, hg⟩ := gF_some s o q n 0 0 none
  have hb0 := stBgF (o := o) (q := q) hsh n 0 0 none (Nat.zero_add n) (Nat.pow_pos (by omega)) (stB.none n) w0 v0 hg
  have ans : ∀ (S : Mem), (if nI z = 0 then some (some (vI (nI (dW n w0))), S) else some (some (vI (nI v0)), S)) = some (some (vI (if z = 0 then nI (dW n w0) else nI v0)), S) := fun S => by
    by_cases y : z = 0
    · rw [if_pos (nz0 y), if_pos y]
    · rw [if_neg (nI_nz (by omega) (by omega)), if_neg y]
  refine ⟨vI (if z = 0 then nI (dW n w0) else nI v0), s, CSp.q X (fun d M w t u h => ?_), fun d M w t u h ht => ?_, hB⟩
  · obtain ⟨M1, e1, e2, e3⟩ := cTables X (d + 194) w t u h hT ho5
    obtain ⟨M2, x9, f1, f2⟩ := cGoRange X (d + 197) w t u (s := s) (o := o) (q := q) (n := n) (what := z) hsh ho5 hq5 hn3 n 0 0 none M1 vX (Nat.zero_add n) (Nat.pow_pos (by omega)) (stB.none n) (h.fr (fun k i j q => e3 k i j (by omega) (by omega) (by omega))) e2
    have loop : ∀ (m i : Nat), i + m = n → nR X (callN X (d + 199)) hX6_go 43 [vR 2 0, vI (nI o), vI (nI q), vI (nI n), vI (nI z), vI (nI (6 ^ i)), vI (nI i), vX, vX, vX] [] (M1, w, true, true, [], t, u) = nR X (callN X (d + 199)) hX6_go 71 [vR 2 0, vI (nI o), vI (nI q), vI (nI n), vI (nI z), vI (nI (6 ^ n)), vI 0, vI (-1), vI 0, vX] [] (M1, w, true, true, [], t, u) := by
      intro m
      induction m with
      | zero =>
        intro i hi
        have hi : i = n := hi
        rw [bX6_go_43, hi, if_pos (nI_le (Nat.le_refl _) (by omega))]
      | succ m ih =>
        intro i hi
        rw [bX6_go_43, if_neg (nI_ge (by omega) (by omega)), li6, pk_mul, nI_1, ← Nat.pow_succ]
        exact ih (i + 1) (by omega)
    have l0 := loop n 0 (Nat.zero_add n)
    have l0 : nR X (callN X (d + 199)) hX6_go 43 [vR 2 0, vI (nI o), vI (nI q), vI (nI n), vI (nI z), vI 1, vI 0, vX, vX, vX] [] (M1, w, true, true, [], t, u) = _ := l0
    have f1 : nR X (callN X (d + 199)) hX6_go 71 [vR 2 0, vI (nI o), vI (nI q), vI (nI n), vI (nI z), vI (nI (6 ^ n)), vI 0, vI (-1), vI (nI (0 * 6 ^ n)), vX] [] (M1, w, true, true, [], t, u) = nR X (callN X (d + 199)) hX6_go 71 [vR 2 0, vI (nI o), vI (nI q), vI (nI n), vI (nI z), vI (nI (6 ^ n)), vI (bwC (gF s o q n 0 0 none)), vI (baC (gF s o q n 0 0 none)), vI (nI ((0 + 1) * 6 ^ n)), x9] [] (M2, w, true, true, [], t, u) := f1
    rw [hg, Nat.zero_mul, Nat.zero_add, Nat.one_mul] at f1
    have f1 : nR X (callN X (d + 199)) hX6_go 71 [vR 2 0, vI (nI o), vI (nI q), vI (nI n), vI (nI z), vI (nI (6 ^ n)), vI 0, vI (-1), vI 0, vX] [] (M1, w, true, true, [], t, u) = nR X (callN X (d + 199)) hX6_go 71 [vR 2 0, vI (nI o), vI (nI q), vI (nI n), vI (nI z), vI (nI (6 ^ n)), vI (nI w0), vI (nI v0), vI (nI (6 ^ n)), x9] [] (M2, w, true, true, [], t, u) := f1
    refine ⟨M2, ?_, fun k i j q => (f2 k i j (by omega)).trans (e3 k i j (by omega) (by omega) (by omega))⟩
    have e1 : callN X (d + 199) 96 [vR 2 0, vI (nI o)] (M, w, true, true, [], t, u) = _ := e1
    rw [show d + 200 = d + 199 + 1 from rfl, aX6_go, cTwo X (d + 197) (nI o) (nI q) w true [] t u h.1 hP, c1, bnd_s, tl_s, bX6_go_6, if_b, cond_tt rfl, if_in4 (n := 4) rfl, if_in2 (n := 2) rfl, c2, c3, cond_tt rfl, cond_tt rfl, e1, bnd_s, tl_n, bX6_go_37, l0, f1, bX6_go_71, if_pos (nI_le (Nat.le_refl _) (by omega)), cDigW X (d + 198) M2 w t u hn3 (by omega), bnd_s, tl_s, bX6_go_136]
    exact ans _
  · obtain ⟨M1, w1, e1, e2, e3⟩ := mTables X (d + 144) w t u h hT ho
    have hS1 : SM (nSt (nSt M1 30 0 36 (-1)) 30 0 37 0) (thS s o 0 0) := by
      rw [thS_0 hsh o]
      exact h.fr (fun a b j q1 q2 q3 q4 => ((nst_fr (by omega)).trans (nst_fr (by omega))).trans (e3 a b j (by omega) (by omega)))
    obtain ⟨M2, t2, u2, f1, f2, f3, f4, f5, f6, f7, f8⟩ := mGoes X (q := q) hT hsh ho hq hoq hn3 n 0 0 none _ (d + 197 - n) w1 t u (Nat.zero_add n) (Nat.pow_pos (by omega)) (stB.none n) ht hS1 (fun a b q1 q2 => ((nst_ne (by omega)).trans (nst_ne (by omega))).trans (e2 a b q1 q2)) ((nst_j (by omega)).trans (nst_self _ _ _ _ _)) (nst_self _ _ _ _ _)
    rw [thS_0 hsh o] at f2
    rw [show d + 197 - n + n + 2 = d + 199 by omega] at f1
    have f1 : callN X (d + 199) 174 [vR 30 0, vI (nI o), vI (nI q), vI (nI n), vI 0, vI 0] (nSt (nSt M1 30 0 36 (-1)) 30 0 37 0, w1, true, true, [], t, u) = _ := f1
    have e1 : callN X (d + 199) 161 [vR 30 0, vI (nI o)] (M, w, true, true, [], t, u) = _ := e1
    rw [hg] at f3 f4
    have f3 : M2 30 0 36 = nI (dW n w0) := f3
    have f4 : M2 30 0 37 = nI v0 := f4
    refine ⟨M2, w1, t2, u2, ?_, f2, fun k i j q => (f5 k i j (by omega) (by omega) (by omega)).trans (((nst_ne (by omega)).trans (nst_ne (by omega))).trans (e3 k i j (by omega) (by omega))), f6, by omega, by omega⟩
    rw [show d + 200 = d + 199 + 1 from rfl, aX7_go, mTwo X (d + 196) (nI o) (nI q) w [] t u h.1 hP, c1, bnd_s, tl_s, bX7_go_6, if_b, cond_tt rfl, mIn X (d + 198) (nI n) (n := 4) rfl, c2, bnd_s, tl_s, bX7_go_18, if_b, cond_tt rfl, mIn X (d + 198) (nI z) (n := 2) rfl, c3, bnd_s, tl_s, bX7_go_29, if_b, cond_tt rfl, e1, bnd_s, tl_n, bX7_go_40, f1, bnd_s, tl_n, bX7_go_59, f3, f4]
    exact ans _
end
