/-! all stays that fit: the class counts on, day by day -/
def ftB (row : Nat → Int32) (s : GS) (o i : Nat) : Nat → Bool
  | 0 => true
  | k + 1 => ftB row s o i k && decide (nI (pkN s o i k) = row k)
def btN (i : Nat) : Nat → Nat
  | 0 => 0
  | c + 1 => if dg i c = 0 then btN i c else btN i c ||| 2 ^ c
def nbN (i : Nat) : Nat → Nat
  | 0 => 0
  | c + 1 => nbN i c * 10 + dg i c
abbrev FS : Type := Nat × Int32 × Int32 × Nat × Nat × (Nat → Nat)
def upS (f : FS) (i : Nat) : FS := (f.1 + 1, if f.1 = 0 then nI (nbN i 6) else if f.2.2.1 ≤ nI (sumN (dg i) 6) then f.2.1 else nI (nbN i 6), if f.1 = 0 then nI (sumN (dg i) 6) else if f.2.2.1 ≤ nI (sumN (dg i) 6) then f.2.2.1 else nI (sumN (dg i) 6), if f.1 = 0 then btN i 6 else f.2.2.2.1 &&& btN i 6, f.2.2.2.2.1 ||| btN i 6, fun c => f.2.2.2.2.2 c + (if dg i c = 0 then 0 else 1))
def FT (row : Nat → Int32) (s : GS) (o : Nat) : Nat → FS
  | 0 => (0, -1, -1, 0, 0, fun _ => 0)
  | i + 1 => cond (ftB row s o i 6) (upS (FT row s o i) i) (FT row s o i)
theorem nbN_lt (i : Nat) : ∀ c, nbN i c < 10 ^ c
  | 0 => by show 0 < 1; omega
  | c + 1 => by
    have h1 := nbN_lt i c
    have h2 := dg_lt i c
    show nbN i c * 10 + dg i c < 10 ^ (c + 1)
    rw [Nat.pow_succ]
    omega
theorem FT_le (row : Nat → Int32) (s : GS) (o : Nat) : ∀ i, (FT row s o i).1 ≤ i ∧ ∀ c, (FT row s o i).2.2.2.2.2 c ≤ i
  | 0 => ⟨Nat.le_refl _, fun _ => Nat.le_refl _⟩
  | i + 1 => by
    have ih := FT_le row s o i
    show (cond (ftB row s o i 6) (upS (FT row s o i) i) (FT row s o i)).1 ≤ i + 1 ∧ ∀ c, (cond (ftB row s o i 6) (upS (FT row s o i) i) (FT row s o i)).2.2.2.2.2 c ≤ i + 1
    cases ftB row s o i 6
    · exact ⟨Nat.le_succ_of_le ih.1, fun c => Nat.le_succ_of_le (ih.2 c)⟩
    · refine ⟨Nat.succ_le_succ ih.1, fun c => ?_⟩
      have := ih.2 c
      show (FT row s o i).2.2.2.2.2 c + (if dg i c = 0 then 0 else 1) ≤ i + 1
      split <;> omega
def FC (M : MM) (f : FS) : Prop := M 20 0 0 = nI f.1 ∧ M 20 0 1 = f.2.1 ∧ M 20 0 2 = f.2.2.1 ∧ M 20 0 3 = nI f.2.2.2.1 ∧ M 20 0 4 = nI f.2.2.2.2.1 ∧ ∀ c, c < 6 → M 21 0 c = nI (f.2.2.2.2.2 c)
def shD (s : GS) (o : Nat) (D : Nat → Nat) (mk : Nat) : Nat := sumN (fun c => D c * tkS s o c mk) 6
def DyC (M : MM) (s : GS) (o : Nat) (D : Nat → Nat) : Prop := (∀ c, c < 6 → M 22 0 c = nI (D c)) ∧ ∀ mk, mk < 6 → M 23 0 mk = nI (shD s o D mk)
theorem bit_nI : ∀ c, c < 6 → (1 : Int32) <<< (nI c &&& 31) = nI (2 ^ c) := by
  intro c hc
  have : c = 0 ∨ c = 1 ∨ c = 2 ∨ c = 3 ∨ c = 4 ∨ c = 5 := by omega
  rcases this with rfl | rfl | rfl | rfl | rfl | rfl <;> decide
theorem bit_0 : ∀ c, c < 6 → (0 : Int32) <<< (nI c &&& 31) = nI 0 := by
  intro c hc
  have : c = 0 ∨ c = 1 ∨ c = 2 ∨ c = 3 ∨ c = 4 ∨ c = 5 := by omega
  rcases this with rfl | rfl | rfl | rfl | rfl | rfl <;> decide
theorem dg_step {i k : Nat} (hk : k < 6) (h3 : ∀ j, j < k → dg i (5 - j) = 3) (hn : dg i (5 - k) ≠ 3) {c : Nat} (hc : c < 6) : dg (i + 1) c = if 5 - k < c then 0 else if c = 5 - k then dg i c + 1 else dg i c := by
  have e0 : ∀ i, dg i 0 = i / 1024 % 4 := fun _ => rfl
  have e1 : ∀ i, dg i 1 = i / 256 % 4 := fun _ => rfl
  have e2 : ∀ i, dg i 2 = i / 64 % 4 := fun _ => rfl
  have e3 : ∀ i, dg i 3 = i / 16 % 4 := fun _ => rfl
  have e4 : ∀ i, dg i 4 = i / 4 % 4 := fun _ => rfl
  have e5 : ∀ i, dg i 5 = i % 4 := fun i => by show i / 1 % 4 = i % 4; rw [Nat.div_one]
  have hk6 : k = 0 ∨ k = 1 ∨ k = 2 ∨ k = 3 ∨ k = 4 ∨ k = 5 := by omega
  have hc6 : c = 0 ∨ c = 1 ∨ c = 2 ∨ c = 3 ∨ c = 4 ∨ c = 5 := by omega
  have g : ∀ j, j < k → j = 0 ∨ j = 1 ∨ j = 2 ∨ j = 3 ∨ j = 4 := fun j hj => by omega
  rcases hk6 with rfl | rfl | rfl | rfl | rfl | rfl
  · have hn : dg i 5 ≠ 3 := hn
    rw [e5] at hn
    rcases hc6 with rfl | rfl | rfl | rfl | rfl | rfl <;> simp [e0, e1, e2, e3, e4, e5] <;> omega
  · have hn : dg i 4 ≠ 3 := hn
    have h0 : dg i 5 = 3 := h3 0 (by omega)
    rw [e4] at hn
    rw [e5] at h0
    rcases hc6 with rfl | rfl | rfl | rfl | rfl | rfl <;> simp [e0, e1, e2, e3, e4, e5] <;> omega
  · have hn : dg i 3 ≠ 3 := hn
    have h0 : dg i 5 = 3 := h3 0 (by omega)
    have h1 : dg i 4 = 3 := h3 1 (by omega)
    rw [e3] at hn
    rw [e5] at h0
    rw [e4] at h1
    rcases hc6 with rfl | rfl | rfl | rfl | rfl | rfl <;> simp [e0, e1, e2, e3, e4, e5] <;> omega
  · have hn : dg i 2 ≠ 3 := hn
    have h0 : dg i 5 = 3 := h3 0 (by omega)
    have h1 : dg i 4 = 3 := h3 1 (by omega)
    have h2 : dg i 3 = 3 := h3 2 (by omega)
    rw [e2] at hn
    rw [e5] at h0
    rw [e4] at h1
    rw [e3] at h2
    rcases hc6 with rfl | rfl | rfl | rfl | rfl | rfl <;> simp [e0, e1, e2, e3, e4, e5] <;> omega
  · have hn : dg i 1 ≠ 3 := hn
    have h0 : dg i 5 = 3 := h3 0 (by omega)
    have h1 : dg i 4 = 3 := h3 1 (by omega)
    have h2 : dg i 3 = 3 := h3 2 (by omega)
    have h4 : dg i 2 = 3 := h3 3 (by omega)
    rw [e1] at hn
    rw [e5] at h0
    rw [e4] at h1
    rw [e3] at h2
    rw [e2] at h4
    rcases hc6 with rfl | rfl | rfl | rfl | rfl | rfl <;> simp [e0, e1, e2, e3, e4, e5] <;> omega
  · have hn : dg i 0 ≠ 3 := hn
    have h0 : dg i 5 = 3 := h3 0 (by omega)
    have h1 : dg i 4 = 3 := h3 1 (by omega)
    have h2 : dg i 3 = 3 := h3 2 (by omega)
    have h4 : dg i 2 = 3 := h3 3 (by omega)
    have h5 : dg i 1 = 3 := h3 4 (by omega)
    rw [e0] at hn
    rw [e5] at h0
    rw [e4] at h1
    rw [e3] at h2
    rw [e2] at h4
    rw [e1] at h5
    rcases hc6 with rfl | rfl | rfl | rfl | rfl | rfl <;> simp [e0, e1, e2, e3, e4, e5] <;> omega
theorem dg_all3 {i : Nat} (h3 : ∀ j, j < 6 → dg i (5 - j) = 3) {c : Nat} (hc : c < 6) : dg (i + 1) c = 0 := by
  have e0 : ∀ i, dg i 0 = i / 1024 % 4 := fun _ => rfl
  have e1 : ∀ i, dg i 1 = i / 256 % 4 := fun _ => rfl
  have e2 : ∀ i, dg i 2 = i / 64 % 4 := fun _ => rfl
  have e3 : ∀ i, dg i 3 = i / 16 % 4 := fun _ => rfl
  have e4 : ∀ i, dg i 4 = i / 4 % 4 := fun _ => rfl
  have e5 : ∀ i, dg i 5 = i % 4 := fun i => by show i / 1 % 4 = i % 4; rw [Nat.div_one]
  have h0 : dg i 5 = 3 := h3 0 (by omega)
  have h1 : dg i 4 = 3 := h3 1 (by omega)
  have h2 : dg i 3 = 3 := h3 2 (by omega)
  have h4 : dg i 2 = 3 := h3 3 (by omega)
  have h5 : dg i 1 = 3 := h3 4 (by omega)
  have h6 : dg i 0 = 3 := h3 5 (by omega)
  rw [e5] at h0
  rw [e4] at h1
  rw [e3] at h2
  rw [e2] at h4
  rw [e1] at h5
  rw [e0] at h6
  have hc6 : c = 0 ∨ c = 1 ∨ c = 2 ∨ c = 3 ∨ c = 4 ∨ c = 5 := by omega
  rcases hc6 with rfl | rfl | rfl | rfl | rfl | rfl <;> simp [e0, e1, e2, e3, e4, e5] <;> omega
theorem shD_up (s : GS) (o : Nat) (D : Nat → Nat) (mk x v : Nat) (hx : x < 6) : shD s o (upF D x v) mk + D x * tkS s o x mk = shD s o D mk + v * tkS s o x mk := by
  unfold shD upF
  have : x = 0 ∨ x = 1 ∨ x = 2 ∨ x = 3 ∨ x = 4 ∨ x = 5 := by omega
  rcases this with rfl | rfl | rfl | rfl | rfl | rfl <;> simp [sumN] <;> omega
theorem shD_le (s : GS) (o : Nat) {D : Nat → Nat} (hD : ∀ c, c < 6 → D c ≤ 3) (mk : Nat) : shD s o D mk ≤ 6 * 297 := sumN_le 6 (fun c hc => by
  have h2 := tkS_le s o c mk
  have : D c * tkS s o c mk ≤ 3 * 99 := Nat.mul_le_mul (hD c hc) h2
  omega)
theorem shD_congr (s : GS) (o : Nat) {D D2 : Nat → Nat} (h : ∀ c, c < 6 → D c = D2 c) (mk : Nat) : shD s o D mk = shD s o D2 mk := sumN_congr 6 (fun c hc => by
  show D c * _ = D2 c * _
  rw [h c hc])
def fr23 (M M' : MM) : Prop := ∀ k i j, k ≠ 22 → k ≠ 23 → M' k i j = M k i j
section
variable (X : Nat × (Nat → Int32))
theorem cTakeUp (d : Nat) {M : MM} (w : Int64) (t u : Nat) {s : GS} {o x v : Nat} {D : Nat → Nat} {y : Int32} (hT : TkC M s o) (hD : DyC M s o D) (hx : x < 6) (hy : nI (D x) + y = nI v) (hm : ∀ mk, mk < 6 → nI (shD s o D mk) + y * nI (tkS s o x mk) = nI (shD s o (upF D x v) mk)) : ∃ M2, callN X (d + 1) 6 [vR 20 0, vR 26 0, vI (nI x), vI y] (M, w, true, true, [], t, u) = some (none, (M2, w, true, true, [], t, u)) ∧ DyC M2 s o (upF D x v) ∧ fr23 M M2 := by
  have loop : ∀ (m k : Nat) (Mi : MM), k + m = 6 → (∀ c, c < 6 → Mi 22 0 c = nI (upF D x v c)) → (∀ mk, mk < 6 → Mi 23 0 mk = if mk < k then nI (shD s o (upF D x v) mk) else nI (shD s o D mk)) → fr23 M Mi → ∃ M2, nR X (callN X d) hX0_takeUp 13 [vR 20 0, vR 26 0, vI (nI x), vI y, vI (nI k)] [] (Mi, w, true, true, [], t, u) = some (none, (M2, w, true, true, [], t, u)) ∧ DyC M2 s o (upF D x v) ∧ fr23 M M2 := by
    intro m
    induction m with
    | zero =>
      intro k Mi hk h1 h2 h3
      have hk : k = 6 := hk
      subst hk
      rw [bX0_takeUp_13, if_pos (by decide)]
      exact ⟨Mi, rfl, ⟨h1, fun mk hmk => (h2 mk hmk).trans (if_pos hmk)⟩, h3⟩
    | succ m ih =>
      intro k Mi hk h1 h2 h3
      have e1 := (h2 k (by omega)).trans (if_neg (by omega))
      rw [bX0_takeUp_13, li6, if_neg (nI_ge (by omega) (by omega)), nin_t (show k < 6 by omega), cond_tt rfl, pk_mul, nI_add, nin_t (show x * 6 + k < 36 by omega), cond_tt rfl, cond_tt rfl, nI_clamp (by omega), nI_clamp (by omega), e1, h3 26 0 _ (by omega) (by omega), hT x k hx (by omega), hm k (by omega), nI_1]
      refine ih (k + 1) _ (by omega) (fun c hc => (nst_fr (by omega)).trans (h1 c hc)) (fun mk hmk => ?_) (fun a b j q q2 => (nst_ne q2).trans (h3 a b j q q2))
      by_cases c : mk = k
      · rw [c, nst_self, if_pos (by omega)]
      · rw [nst_j c, h2 mk hmk]
        by_cases c2 : mk < k
        · rw [if_pos c2, if_pos (by omega)]
        · rw [if_neg c2, if_neg (by omega)]
  rw [aX0_takeUp, nin_t hx, cond_tt rfl, cond_tt rfl, nI_clamp (by omega), hD.1 x hx, hy]
  refine loop 6 0 _ rfl (fun c hc => nst_up hD.1 c hc) (fun mk hmk => ?_) (fun a b j q q2 => nst_ne q)
  rw [if_neg (Nat.not_lt_zero mk)]
  exact (nst_fr (by omega)).trans (hD.2 mk hmk)
theorem cStepOn (d : Nat) {M : MM} (w : Int64) (t u : Nat) {s : GS} {o i : Nat} (hT : TkC M s o) (hD : DyC M s o (dg i)) : ∃ M2, callN X (d + 2) 5 [vR 20 0, vR 26 0] (M, w, true, true, [], t, u) = some (none, (M2, w, true, true, [], t, u)) ∧ DyC M2 s o (dg (i + 1)) ∧ fr23 M M2 := by
  have loop : ∀ (m k : Nat) (Mi : MM), k + m = 6 → (∀ j, j < k → dg i (5 - j) = 3) → DyC Mi s o (fun c => if 6 - k ≤ c then 0 else dg i c) → fr23 M Mi → ∃ M2, nR X (callN X (d + 1)) hX0_stepOn 2 [vR 20 0, vR 26 0, vI (5 - nI k)] [] (Mi, w, true, true, [], t, u) = some (none, (M2, w, true, true, [], t, u)) ∧ DyC M2 s o (dg (i + 1)) ∧ fr23 M M2 := by
    intro m
    induction m with
    | zero =>
      intro k Mi hk h1 h2 h3
      have hk : k = 6 := hk
      subst hk
      rw [bX0_stepOn_2, if_pos (by decide), if_pos (by decide), bX0_stepOn_41]
      refine ⟨Mi, rfl, ⟨fun c hc => ?_, fun mk hmk => ?_⟩, h3⟩
      · rw [h2.1 c hc, dg_all3 h1 hc]
        exact congrArg nI (if_pos (by omega))
      · rw [h2.2 mk hmk]
        exact congrArg nI (shD_congr s o (fun c hc => (if_pos (by omega)).trans (dg_all3 h1 hc).symm) mk)
    | succ m ih =>
      intro k Mi hk h1 h2 h3
      have hk5 : k < 6 := by omega
      have e5 : (5 : Int32) - nI k = nI (5 - k) := by rw [li5, pk_sub (by omega)]
      have hTi : TkC Mi s o := fun c mk q q2 => (h3 26 0 _ (by omega) (by omega)).trans (hT c mk q q2)
      have hDk : (fun c => if 6 - k ≤ c then 0 else dg i c) (5 - k) = dg i (5 - k) := if_neg (by omega)
      have hDr : (if 6 - k ≤ 5 - k then 0 else dg i (5 - k)) = dg i (5 - k) := if_neg (by omega)
      have hD3 : ∀ c, c < 6 → (fun c => if 6 - k ≤ c then 0 else dg i c) c ≤ 3 := fun c hc => by
        show (if 6 - k ≤ c then 0 else dg i c) ≤ 3
        have := dg_lt i c
        split <;> omega
      rw [e5, bX0_stepOn_2, if_neg (nI_pos (by omega)), nin_t (show 5 - k < 6 by omega), cond_tt rfl, nI_clamp (by omega), h2.1 (5 - k) (by omega), hDk, li3]
      have hd4 := dg_lt i (5 - k)
      simp (disch := omega) only [nI_eq]
      by_cases c3 : dg i (5 - k) = 3
      · rw [if_pos c3]
        obtain ⟨M1, e1, e2, e3⟩ := cTakeUp X d w t u (s := s) (o := o) (x := 5 - k) (v := 0) (y := -(nI 3)) hTi h2 (by omega) (by rw [hDr, c3]; decide) (fun mk hmk => by
          have h9 := shD_up s o (fun c => if 6 - k ≤ c then 0 else dg i c) mk (5 - k) 0 (by omega)
          rw [hDr, c3, Nat.zero_mul, Nat.add_zero] at h9
          have h8 := tkS_le s o (5 - k) mk
          rw [← h9, Int32.neg_mul, pk_mul, ← Int32.sub_eq_add_neg, pk_sub (by omega)]
          congr 1
          omega)
        rw [e1, bnd_s, tl_n, bX0_stepOn_24]
        have e6 : nI (5 - k) + -1 = 5 - nI (k + 1) := by
          have : k = 0 ∨ k = 1 ∨ k = 2 ∨ k = 3 ∨ k = 4 ∨ k = 5 := by omega
          rcases this with rfl | rfl | rfl | rfl | rfl | rfl <;> decide
        rw [e6]
        have e9 : ∀ c, c < 6 → upF (fun c => if 6 - k ≤ c then 0 else dg i c) (5 - k) 0 c = (fun c => if 6 - (k + 1) ≤ c then 0 else dg i c) c := fun c hc => by
          show (if c = 5 - k then 0 else if 6 - k ≤ c then 0 else dg i c) = if 6 - (k + 1) ≤ c then 0 else dg i c
          by_cases z : c = 5 - k
          · rw [if_pos z, if_pos (by omega)]
          · rw [if_neg z]
            by_cases z2 : 6 - k ≤ c
            · rw [if_pos z2, if_pos (by omega)]
            · rw [if_neg z2, if_neg (by omega)]
        exact ih (k + 1) M1 (by omega) (fun j hj => by
          by_cases z : j = k
          · rw [z]; exact c3
          · exact h1 j (by omega)) ⟨fun c hc => (e2.1 c hc).trans (congrArg nI (e9 c hc)), fun mk hmk => (e2.2 mk hmk).trans (congrArg nI (shD_congr s o e9 mk))⟩ (fun a b j q q2 => (e3 a b j q q2).trans (h3 a b j q q2))
      · rw [if_neg c3, if_neg (nI_pos (by omega))]
        obtain ⟨M1, e1, e2, e3⟩ := cTakeUp X d w t u (s := s) (o := o) (x := 5 - k) (v := dg i (5 - k) + 1) (y := 1) hTi h2 (by omega) (by rw [hDr, nI_1]) (fun mk hmk => by
          have h9 := shD_up s o (fun c => if 6 - k ≤ c then 0 else dg i c) mk (5 - k) (dg i (5 - k) + 1) (by omega)
          rw [hDr, Nat.succ_mul] at h9
          rw [Int32.one_mul, nI_add]
          congr 1
          omega)
        rw [e1, bnd_s, tl_n, bX0_stepOn_41]
        have e9 : ∀ c, c < 6 → upF (fun c => if 6 - k ≤ c then 0 else dg i c) (5 - k) (dg i (5 - k) + 1) c = dg (i + 1) c := fun c hc => by
          rw [dg_step hk5 h1 c3 hc]
          show (if c = 5 - k then dg i (5 - k) + 1 else if 6 - k ≤ c then 0 else dg i c) = _
          by_cases z : c = 5 - k
          · rw [if_pos z, if_neg (by omega), if_pos z, z]
          · rw [if_neg z]
            by_cases z2 : 6 - k ≤ c
            · rw [if_pos z2, if_pos (by omega)]
            · rw [if_neg z2, if_neg (by omega), if_neg z]
        exact ⟨M1, rfl, ⟨fun c hc => (e2.1 c hc).trans (congrArg nI (e9 c hc)), fun mk hmk => (e2.2 mk hmk).trans (congrArg nI (shD_congr s o e9 mk))⟩, fun a b j q q2 => (e3 a b j q q2).trans (h3 a b j q q2)⟩
  have e0 : ∀ c, c < 6 → dg i c = (fun c => if 6 - 0 ≤ c then 0 else dg i c) c := fun c hc => (if_neg (by omega)).symm
  rw [show d + 2 = d + 1 + 1 from rfl, aX0_stepOn]
  exact loop 6 0 M rfl (fun j hj => by omega) ⟨fun c hc => (hD.1 c hc).trans (congrArg nI (e0 c hc)), fun mk hmk => (hD.2 mk hmk).trans (congrArg nI (shD_congr s o e0 mk))⟩ (fun _ _ _ _ _ => rfl)
theorem cFound (d : Nat) {M : MM} (w : Int64) (t u : Nat) {i : Nat} {f : FS} (hF : FC M f) (hD : ∀ c, c < 6 → M 22 0 c = nI (dg i c)) (hn : f.1 < 2 ^ 30) : ∃ M2, callN X (d + 1) 4 [vR 20 0] (M, w, true, true, [], t, u) = some (none, (M2, w, true, true, [], t, u)) ∧ FC M2 (upS f i) ∧ ∀ k a j, ¬ (20 ≤ k ∧ k ≤ 21) → M2 k a j = M k a j := by
  have loop : ∀ (m c : Nat) (Mi : MM), c + m = 6 → (∀ k j, k = 20 → Mi k 0 j = M k 0 j) → (∀ q, q < 6 → Mi 21 0 q = nI (f.2.2.2.2.2 q + (if dg i q = 0 then 0 else if q < c then 1 else 0))) → (∀ k a j, ¬ (20 ≤ k ∧ k ≤ 21) → Mi k a j = M k a j) →
      ∃ M2, nR X (callN X d) hX0_found 9 [vR 20 0, vI (nI (nbN i c)), vI (nI (sumN (dg i) c)), vI (nI (btN i c)), vI (nI c)] [] (Mi, w, true, true, [], t, u) = nR X (callN X d) hX0_found 9 [vR 20 0, vI (nI (nbN i 6)), vI (nI (sumN (dg i) 6)), vI (nI (btN i 6)), vI (nI 6)] [] (M2, w, true, true, [], t, u) ∧ (∀ k j, k = 20 → M2 k 0 j = M k 0 j) ∧ (∀ q, q < 6 → M2 21 0 q = nI (f.2.2.2.2.2 q + (if dg i q = 0 then 0 else 1))) ∧ ∀ k a j, ¬ (20 ≤ k ∧ k ≤ 21) → M2 k a j = M k a j := by
    intro m
    induction m with
    | zero =>
      intro c Mi hc h1 h2 h3
      have hc : c = 6 := hc
      subst hc
      refine ⟨Mi, rfl, h1, fun q hq => (h2 q hq).trans ?_, h3⟩
      rw [if_pos hq]
    | succ m ih =>
      intro c Mi hc h1 h2 h3
      have e22 : Mi 22 0 c = nI (dg i c) := (h3 22 0 c (by omega)).trans (hD c (by omega))
      have hd4 := dg_lt i c
      rw [bX0_found_9, li6, if_neg (nI_ge (by omega) (by omega)), nin_t (show c < 6 by omega), cond_tt rfl, cond_tt rfl, cond_tt rfl, cond_tt rfl, cond_tt rfl, nI_clamp (by omega), e22, bit_nI c (by omega), nI_or, li10, pk_mul, nI_add, nI_add, nI_1]
      have e9 : nbN i (c + 1) = nbN i c * 10 + dg i c := rfl
      have e8 : sumN (dg i) (c + 1) = sumN (dg i) c + dg i c := rfl
      have e7 : btN i (c + 1) = if dg i c = 0 then btN i c else btN i c ||| 2 ^ c := rfl
      by_cases z : dg i c = 0
      · rw [if_pos (show nI (dg i c) ≤ 0 by rw [z]; decide)]
        have := ih (c + 1) Mi (by omega) h1 (fun q hq => (h2 q hq).trans (congrArg nI (by
          congr 1
          by_cases y : dg i q = 0
          · rw [if_pos y, if_pos y]
          · rw [if_neg y, if_neg y]
            by_cases y2 : q < c
            · rw [if_pos y2, if_pos (by omega)]
            · rw [if_neg y2, if_neg (fun y3 => y (by rw [show q = c by omega]; exact z))]))) h3
        rw [e9, e8, e7, if_pos z] at this
        exact this
      · have h21 := (h2 c (by omega))
        rw [if_neg z, if_neg (Nat.lt_irrefl c), Nat.add_zero] at h21
        rw [if_neg (nI_nle (by omega) (by omega)), h21, nI_1]
        have := ih (c + 1) (nSt Mi 21 0 c (nI (f.2.2.2.2.2 c + 1))) (by omega) (fun k j hk => (nst_fr (by omega)).trans (h1 k j hk)) (fun q hq => ?_) (fun k a j q => (nst_fr (by omega)).trans (h3 k a j q))
        · rw [e9, e8, e7, if_neg z] at this
          exact this
        · by_cases y : q = c
          · rw [y, nst_self, if_neg z, if_pos (by omega)]
          · rw [nst_j y, h2 q hq]
            congr 2
            by_cases y1 : dg i q = 0
            · rw [if_pos y1, if_pos y1]
            · rw [if_neg y1, if_neg y1]
              by_cases y2 : q < c
              · rw [if_pos y2, if_pos (by omega)]
              · rw [if_neg y2, if_neg (by omega)]
  obtain ⟨a0, a1, a2, a3, a4, a5⟩ := hF
  obtain ⟨M1, e1, e2, e3, e4⟩ := loop 6 0 M rfl (fun _ _ _ => rfl) (fun q hq => by rw [a5 q hq]; congr 1; split <;> rfl) (fun _ _ _ _ => rfl)
  have b0 : M1 20 0 0 = nI f.1 := (e2 20 0 rfl).trans a0
  have b1 : M1 20 0 1 = f.2.1 := (e2 20 1 rfl).trans a1
  have b2 : M1 20 0 2 = f.2.2.1 := (e2 20 2 rfl).trans a2
  have b3 : M1 20 0 3 = nI f.2.2.2.1 := (e2 20 3 rfl).trans a3
  have b4 : M1 20 0 4 = nI f.2.2.2.2.1 := (e2 20 4 rfl).trans a4
  rw [aX0_found]
  have e1 : nR X (callN X d) hX0_found 9 [vR 20 0, vI 0, vI 0, vI 0, vI 0] [] (M, w, true, true, [], t, u) = _ := e1
  rw [e1, bX0_found_9, if_pos (by decide)]
  have n0 : (nI f.1 = 0) = (f.1 = 0) := by rw [li0]; exact propext (nI_eq (by omega) (by omega))
  have r30 : ∀ v : Int32, nSt M1 20 0 3 v 20 0 4 = nI f.2.2.2.2.1 := fun v => (nst_j (by omega)).trans b4
  by_cases c : f.1 = 0
  · rw [b0, if_pos (n0.mpr c)]
    simp only [r30]
    rw [if_pos (by rw [nst_j (by omega), nst_j (by omega), b0]; exact n0.mpr c), nI_or, nst_j (show ¬ 0 = 2 by omega), nst_j (show ¬ 0 = 1 by omega), nst_j (show ¬ 0 = 4 by omega), nst_j (show ¬ 0 = 3 by omega), b0, nI_1]
    refine ⟨_, rfl, ⟨nst_self _ _ _ _ _, ?_, ?_, ?_, ?_, fun q hq => ?_⟩, fun k a j q => (nst_fr (by omega)).trans ((nst_fr (by omega)).trans ((nst_fr (by omega)).trans ((nst_fr (by omega)).trans ((nst_fr (by omega)).trans (e4 k a j q)))))⟩
    · show _ = if f.1 = 0 then nI (nbN i 6) else _
      rw [if_pos c, nst_j (by omega), nst_j (by omega), nst_self]
    · show _ = if f.1 = 0 then nI (sumN (dg i) 6) else _
      rw [if_pos c, nst_j (by omega), nst_self]
    · show _ = nI (if f.1 = 0 then btN i 6 else _)
      rw [if_pos c, nst_j (by omega), nst_j (by omega), nst_j (by omega), nst_j (by omega), nst_self]
    · rw [nst_j (by omega), nst_j (by omega), nst_j (by omega), nst_self]
      rfl
    · rw [nst_fr (by omega), nst_fr (by omega), nst_fr (by omega), nst_fr (by omega), nst_fr (by omega), e3 q hq]
      rfl
  · rw [b0, if_neg (fun q => c (n0.mp q))]
    simp only [r30]
    rw [if_neg (by rw [nst_j (by omega), nst_j (by omega), b0]; exact fun q => c (n0.mp q)), nI_or, b3, nI_and2, nst_j (show ¬ 2 = 4 by omega), nst_j (show ¬ 2 = 3 by omega), b2]
    by_cases c2 : f.2.2.1 ≤ nI (sumN (dg i) 6)
    · rw [if_pos c2, nst_j (show ¬ 0 = 4 by omega), nst_j (show ¬ 0 = 3 by omega), b0, nI_1]
      refine ⟨_, rfl, ⟨nst_self _ _ _ _ _, ?_, ?_, ?_, ?_, fun q hq => ?_⟩, fun k a j q => (nst_fr (by omega)).trans ((nst_fr (by omega)).trans ((nst_fr (by omega)).trans (e4 k a j q)))⟩
      · show _ = if f.1 = 0 then nI (nbN i 6) else if f.2.2.1 ≤ nI (sumN (dg i) 6) then f.2.1 else _
        rw [if_neg c, if_pos c2, nst_j (by omega), nst_j (by omega), nst_j (by omega), b1]
      · show _ = if f.1 = 0 then nI (sumN (dg i) 6) else if f.2.2.1 ≤ nI (sumN (dg i) 6) then f.2.2.1 else _
        rw [if_neg c, if_pos c2, nst_j (by omega), nst_j (by omega), nst_j (by omega), b2]
      · show _ = nI (if f.1 = 0 then btN i 6 else f.2.2.2.1 &&& btN i 6)
        rw [if_neg c, nst_j (by omega), nst_j (by omega), nst_self]
      · rw [nst_j (by omega), nst_self]
        rfl
      · rw [nst_fr (by omega), nst_fr (by omega), nst_fr (by omega), e3 q hq]
        rfl
    · rw [if_neg c2, nst_j (show ¬ 0 = 2 by omega), nst_j (show ¬ 0 = 1 by omega), nst_j (show ¬ 0 = 4 by omega), nst_j (show ¬ 0 = 3 by omega), b0, nI_1]
      refine ⟨_, rfl, ⟨nst_self _ _ _ _ _, ?_, ?_, ?_, ?_, fun q hq => ?_⟩, fun k a j q => (nst_fr (by omega)).trans ((nst_fr (by omega)).trans ((nst_fr (by omega)).trans ((nst_fr (by omega)).trans ((nst_fr (by omega)).trans (e4 k a j q)))))⟩
      · show _ = if f.1 = 0 then nI (nbN i 6) else if f.2.2.1 ≤ nI (sumN (dg i) 6) then f.2.1 else nI (nbN i 6)
        rw [if_neg c, if_neg c2, nst_j (by omega), nst_j (by omega), nst_self]
      · show _ = if f.1 = 0 then nI (sumN (dg i) 6) else if f.2.2.1 ≤ nI (sumN (dg i) 6) then f.2.2.1 else nI (sumN (dg i) 6)
        rw [if_neg c, if_neg c2, nst_j (by omega), nst_self]
      · show _ = nI (if f.1 = 0 then btN i 6 else f.2.2.2.1 &&& btN i 6)
        rw [if_neg c, nst_j (by omega), nst_j (by omega), nst_j (by omega), nst_j (by omega), nst_self]
      · rw [nst_j (by omega), nst_j (by omega), nst_j (by omega), nst_self]
        rfl
      · rw [nst_fr (by omega), nst_fr (by omega), nst_fr (by omega), nst_fr (by omega), nst_fr (by omega), e3 q hq]
        rfl
end
