/-! ways: six digits, 0 .. 3 each; tables of what one takes -/
theorem nI_or (a b : Nat) : nI a ||| nI b = nI (a ||| b) := by
  apply Int32.toBitVec_inj.mp
  show BitVec.ofNat 32 a ||| BitVec.ofNat 32 b = BitVec.ofNat 32 (a ||| b)
  exact BitVec.ofNat_or.symm
theorem nI_and2 (a b : Nat) : nI a &&& nI b = nI (a &&& b) := by
  apply Int32.toBitVec_inj.mp
  show BitVec.ofNat 32 a &&& BitVec.ofNat 32 b = BitVec.ofNat 32 (a &&& b)
  exact BitVec.ofNat_and.symm
theorem or_add {a d k : Nat} (h : a < 2 ^ k) : a ||| d * 2 ^ k = a + d * 2 ^ k := by
  rw [Nat.or_comm, Nat.mul_comm, ← Nat.two_pow_add_eq_or_of_lt h, Nat.add_comm]
theorem nI_shr {a k : Nat} {s : Int32} (ha : a < 2 ^ 31) (hs : (s.toBitVec.smod 32).toNat = k) : nI a >>> s = nI (a / 2 ^ k) := by
  apply Int32.toInt_inj.mp
  have hle := Nat.div_le_self a (2 ^ k)
  rw [pk_shr (nI a) s k hs, nI_toInt ha, nI_toInt (by omega)]
  show ((a >>> k : Nat) : Int) = _
  rw [Nat.shiftRight_eq_div_pow]
theorem nI_and3 {a : Nat} (ha : a < 2 ^ 31) : nI a &&& 3 = nI (a % 4) := by
  rw [pk_and (nI a) 2 (by decide), pk_tn (by omega)]
def dg (way c : Nat) : Nat := way / 4 ^ (5 - c) % 4
def dD (days k : Nat) : Nat := days / 10 ^ k % 10
def okG (days : Nat) : Nat → Nat → Bool
  | 0, _ => true
  | m + 1, i => decide (dD days i ≤ 3) && okG days m (i + 1)
def wyF (days : Nat) : Nat → Nat
  | 0 => 0
  | k + 1 => wyF days k + dD days k * 4 ^ k
theorem dg_lt (way c : Nat) : dg way c < 4 := Nat.mod_lt _ (by omega)
theorem okG_le {days : Nat} : ∀ m i, okG days m i = true → ∀ k, i ≤ k → k < i + m → dD days k ≤ 3
  | 0, _, _, k, h1, h2 => by omega
  | m + 1, i, h, k, h1, h2 => by
    have h : (decide (dD days i ≤ 3) && okG days m (i + 1)) = true := h
    rw [Bool.and_eq_true, decide_eq_true_eq] at h
    by_cases c : k = i
    · rw [c]; exact h.1
    · exact okG_le m (i + 1) h.2 k (by omega) (by omega)
theorem wyF_lt {days : Nat} (h : ∀ k, k < 6 → dD days k ≤ 3) : ∀ k, k ≤ 6 → wyF days k < 4 ^ k
  | 0, _ => by show 0 < 1; omega
  | k + 1, hk => by
    have h1 := wyF_lt h k (by omega)
    have h2 := h k (by omega)
    show wyF days k + dD days k * 4 ^ k < 4 ^ (k + 1)
    rw [Nat.pow_succ]
    have : dD days k * 4 ^ k ≤ 3 * 4 ^ k := Nat.mul_le_mul_right _ h2
    omega
theorem wy_dg {days : Nat} (h : ∀ k, k < 6 → dD days k ≤ 3) {c : Nat} (hc : c < 6) : dg (wyF days 6) c = dD days (5 - c) := by
  have h0 := h 0 (by omega)
  have h1 := h 1 (by omega)
  have h2 := h 2 (by omega)
  have h3 := h 3 (by omega)
  have h4 := h 4 (by omega)
  have h5 := h 5 (by omega)
  have e : wyF days 6 = 0 + dD days 0 * 1 + dD days 1 * 4 + dD days 2 * 16 + dD days 3 * 64 + dD days 4 * 256 + dD days 5 * 1024 := rfl
  unfold dg
  rw [e]
  have : c = 0 ∨ c = 1 ∨ c = 2 ∨ c = 3 ∨ c = 4 ∨ c = 5 := by omega
  rcases this with rfl | rfl | rfl | rfl | rfl | rfl
  · show (_ / 1024) % 4 = dD days 5
    omega
  · show (_ / 256) % 4 = dD days 4
    omega
  · show (_ / 64) % 4 = dD days 3
    omega
  · show (_ / 16) % 4 = dD days 2
    omega
  · show (_ / 4) % 4 = dD days 1
    omega
  · show (_ / 1) % 4 = dD days 0
    omega
/-- what is taken of a mark by a way -/
def pkN (s : GS) (o way mk : Nat) : Nat := sumN (fun c => dg way c * tkS s o c mk) 6
theorem pkN_le (s : GS) (o way mk : Nat) : pkN s o way mk ≤ 6 * 297 := sumN_le 6 (fun c _ => by
  have h1 := dg_lt way c
  have h2 := tkS_le s o c mk
  have : dg way c * tkS s o c mk ≤ 3 * 99 := Nat.mul_le_mul (by omega) h2
  omega)
def TkC (M : MM) (s : GS) (o : Nat) : Prop := ∀ c mk, c < 6 → mk < 6 → M 26 0 (c * 6 + mk) = nI (tkS s o c mk)
def TkM (M : MM) (s : GS) (o : Nat) : Prop := ∀ c mk, c < 6 → mk < 6 → M 39 0 (c * 6 + mk) = nI (tkS s o c mk)
def frK (M M' : MM) : Prop := ∀ k i j, k ≠ 24 → k ≠ 25 → k ≠ 26 → M' k i j = M k i j
def frN (M M' : MM) : Prop := ∀ k i j, k ≠ 39 → ¬ (k = 30 ∧ 13 ≤ j ∧ j ≤ 27) → M' k i j = M k i j
theorem frK.C {M M' : MM} (h : frK M M') : fC M M' := fun k i j q => h k i j (by omega) (by omega) (by omega)
theorem frN.M {M M' : MM} (h : frN M M') : fM M M' := fun k i j _ _ q q2 => h k i j (by omega) (by omega)
section
variable (X : Nat × (Nat → Int32))
theorem cTables (d : Nat) {M : MM} (w : Int64) (t u : Nat) {s : GS} {o : Nat} (h : SC M s) (hB : TB s) (ho : o < 5) : ∃ M2, callN X (d + 5) 96 [vR 2 0, vI (nI o)] (M, w, true, true, [], t, u) = some (none, (M2, w, true, true, [], t, u)) ∧ TkC M2 s o ∧ frK M M2 := by
  have inner : ∀ (m c k : Nat) (Mi : MM), k + m = 6 → c < 6 → (∀ j, j < c * 6 + k → Mi 26 0 j = nI (tkS s o (j / 6) (j % 6))) → frK M Mi →
      ∃ M2, nR X (callN X (d + 4)) hX6_tellDailyTakes 33 [vR 2 0, vI (nI o), vI (nI (gKd (sW s) o)), vI (nI (gNu (sW s) o)), vI (nI c), vI (nI k)] [] (Mi, w, true, true, [], t, u) = nR X (callN X (d + 4)) hX6_tellDailyTakes 33 [vR 2 0, vI (nI o), vI (nI (gKd (sW s) o)), vI (nI (gNu (sW s) o)), vI (nI c), vI (nI 6)] [] (M2, w, true, true, [], t, u) ∧ (∀ j, j < c * 6 + 6 → M2 26 0 j = nI (tkS s o (j / 6) (j % 6))) ∧ frK M M2 := by
    intro m
    induction m with
    | zero =>
      intro c k Mi hk hc h1 h2
      have hk : k = 6 := hk
      subst hk
      exact ⟨Mi, rfl, h1, h2⟩
    | succ m ih =>
      intro c k Mi hk hc h1 h2
      have hS := h.fr h2.C
      obtain ⟨M1, e1, e2⟩ := sX6_takesOf X d w true [] t u (M := Mi) (dy := gD (sW s)) (TB.r hB) (hS.2.2.2.1.2 _ hB.1) hB.tx (hB.2.2.2.1 o) (hB.2.2.2.2.1 o) (show k < 6 by omega) hc (hS.1.2.2.2.1 (c * 6 + k) (by omega))
      rw [bX6_tellDailyTakes_33, li6, if_neg (nI_ge (by omega) (by omega)), hS.1.1, hS.1.2.1, e1, bnd_s]
      show ∃ M2, nR X (callN X (d + 4)) hX6_tellDailyTakes 76 _ [vI (nI (tkS s o c k)), vI (nI c * nI 6 + nI k), vR 26 0] _ = _ ∧ _
      rw [bX6_tellDailyTakes_76, pk_mul, nI_add, nin_t (show c * 6 + k < 36 by omega), cond_tt rfl, nI_clamp (by omega), nI_1]
      refine ih c (k + 1) _ (by omega) hc (fun j hj => ?_) (fun a b j q q2 q3 => (nst_ne q3).trans ((e2 a b j q q2).trans (h2 a b j q q2 q3)))
      by_cases cj : j = c * 6 + k
      · rw [cj, nst_self, show (c * 6 + k) / 6 = c by omega, show (c * 6 + k) % 6 = k by omega]
      · rw [nst_j cj, e2 26 0 j (by omega) (by omega)]
        exact h1 j (by omega)
  have outer : ∀ (m c : Nat) (Mi : MM) (x5 : AV), c + m = 6 → (∀ j, j < c * 6 → Mi 26 0 j = nI (tkS s o (j / 6) (j % 6))) → frK M Mi →
      ∃ M2, nR X (callN X (d + 4)) hX6_tellDailyTakes 23 [vR 2 0, vI (nI o), vI (nI (gKd (sW s) o)), vI (nI (gNu (sW s) o)), vI (nI c), x5] [] (Mi, w, true, true, [], t, u) = some (none, (M2, w, true, true, [], t, u)) ∧ (∀ j, j < 36 → M2 26 0 j = nI (tkS s o (j / 6) (j % 6))) ∧ frK M M2 := by
    intro m
    induction m with
    | zero =>
      intro c Mi x5 hc h1 h2
      have hc : c = 6 := hc
      subst hc
      rw [bX6_tellDailyTakes_23, if_pos (by decide)]
      exact ⟨Mi, rfl, h1, h2⟩
    | succ m ih =>
      intro c Mi x5 hc h1 h2
      obtain ⟨M1, e1, e2, e3⟩ := inner 6 c 0 Mi rfl (by omega) h1 h2
      have e1 : nR X (callN X (d + 4)) hX6_tellDailyTakes 33 [vR 2 0, vI (nI o), vI (nI (gKd (sW s) o)), vI (nI (gNu (sW s) o)), vI (nI c), vI 0] [] (Mi, w, true, true, [], t, u) = _ := e1
      rw [bX6_tellDailyTakes_23, li6, if_neg (nI_ge (by omega) (by omega)), e1, bX6_tellDailyTakes_33, if_pos (by decide), nI_1]
      exact ih (c + 1) M1 _ (by omega) (fun j hj => e2 j (by omega)) e3
  obtain ⟨M2, e1, e2, e3⟩ := outer 6 0 M vX rfl (fun j q => by omega) (fun _ _ _ _ _ _ => rfl)
  refine ⟨M2, ?_, fun c mk hc hm => ?_, e3⟩
  · rw [show d + 5 = d + 4 + 1 from rfl, aX6_tellDailyTakes, nin_t ho, cond_tt rfl, cond_tt rfl, nI_clamp (by omega), h.1.2.2.2.2.2.1 o ho, h.1.2.2.2.2.2.2.1 o ho]
    exact e1
  · rw [e2 _ (by omega), show (c * 6 + mk) / 6 = c by omega, show (c * 6 + mk) % 6 = mk by omega]
theorem mTables (d : Nat) {M : MM} (w : Int64) (t u : Nat) {s : GS} {o : Nat} (h : SM M s) (hB : TB s) (ho : o < gP (sW s)) : ∃ (M2 : MM) (w2 : Int64), callN X (d + 55) 161 [vR 30 0, vI (nI o)] (M, w, true, true, [], t, u) = some (none, (M2, w2, true, true, [], t, u)) ∧ TkM M2 s o ∧ frN M M2 := by
  have inner : ∀ (m c k : Nat) (Mi : MM) (wi : Int64), k + m = 6 → c < 6 → (∀ j, j < c * 6 + k → Mi 39 0 j = nI (tkS s o (j / 6) (j % 6))) → frN M Mi →
      ∃ (M2 : MM) (w2 : Int64), nR X (callN X (d + 54)) hX7_tables 10 [vR 30 0, vI (nI o), vI (nI c), vI (nI k)] [] (Mi, wi, true, true, [], t, u) = nR X (callN X (d + 54)) hX7_tables 10 [vR 30 0, vI (nI o), vI (nI c), vI (nI 6)] [] (M2, w2, true, true, [], t, u) ∧ (∀ j, j < c * 6 + 6 → M2 39 0 j = nI (tkS s o (j / 6) (j % 6))) ∧ frN M M2 := by
    intro m
    induction m with
    | zero =>
      intro c k Mi wi hk hc h1 h2
      have hk : k = 6 := hk
      subst hk
      exact ⟨Mi, wi, rfl, h1, h2⟩
    | succ m ih =>
      intro c k Mi wi hk hc h1 h2
      have hS := h.fr h2.M
      obtain ⟨M1, w1, e1, e2⟩ := mTakes X d wi [] t u (o := o) (c := c) (mk := k) hS hB ho hc (by omega)
      rw [bX7_tables_10, li6, if_neg (nI_ge (by omega) (by omega)), e1, bnd_s]
      show ∃ (M2 : MM) (w2 : Int64), nR X (callN X (d + 54)) hX7_tables 33 _ [vI (nI (tkS s o c k)), vI (nI 6 * nI c + nI k), vR 39 0] _ = _ ∧ _
      rw [bX7_tables_33, pk_mul, nI_add, Nat.mul_comm 6 c, nin_t (show c * 6 + k < 36 by omega), cond_tt rfl, nI_clamp (by omega), nI_1]
      refine ih c (k + 1) _ w1 (by omega) hc (fun j hj => ?_) (fun a b j q q2 => (nst_ne q).trans ((e2 a b j q2).trans (h2 a b j q q2)))
      by_cases cj : j = c * 6 + k
      · rw [cj, nst_self, show (c * 6 + k) / 6 = c by omega, show (c * 6 + k) % 6 = k by omega]
      · rw [nst_j cj, e2 39 0 j (by omega)]
        exact h1 j (by omega)
  have outer : ∀ (m c : Nat) (Mi : MM) (wi : Int64) (x3 : AV), c + m = 6 → (∀ j, j < c * 6 → Mi 39 0 j = nI (tkS s o (j / 6) (j % 6))) → frN M Mi →
      ∃ (M2 : MM) (w2 : Int64), nR X (callN X (d + 54)) hX7_tables 2 [vR 30 0, vI (nI o), vI (nI c), x3] [] (Mi, wi, true, true, [], t, u) = some (none, (M2, w2, true, true, [], t, u)) ∧ (∀ j, j < 36 → M2 39 0 j = nI (tkS s o (j / 6) (j % 6))) ∧ frN M M2 := by
    intro m
    induction m with
    | zero =>
      intro c Mi wi x3 hc h1 h2
      have hc : c = 6 := hc
      subst hc
      rw [bX7_tables_2, if_pos (by decide)]
      exact ⟨Mi, wi, rfl, h1, h2⟩
    | succ m ih =>
      intro c Mi wi x3 hc h1 h2
      obtain ⟨M1, w1, e1, e2, e3⟩ := inner 6 c 0 Mi wi rfl (by omega) h1 h2
      have e1 : nR X (callN X (d + 54)) hX7_tables 10 [vR 30 0, vI (nI o), vI (nI c), vI 0] [] (Mi, wi, true, true, [], t, u) = _ := e1
      rw [bX7_tables_2, li6, if_neg (nI_ge (by omega) (by omega)), e1, bX7_tables_10, if_pos (by decide), nI_1]
      exact ih (c + 1) M1 w1 _ (by omega) (fun j hj => e2 j (by omega)) e3
  obtain ⟨M2, w2, e1, e2, e3⟩ := outer 6 0 M w vX rfl (fun j q => by omega) (fun _ _ _ _ _ => rfl)
  refine ⟨M2, w2, ?_, fun c mk hc hm => ?_, e3⟩
  · rw [show d + 55 = d + 54 + 1 from rfl, aX7_tables]
    exact e1
  · rw [e2 _ (by omega), show (c * 6 + mk) / 6 = c by omega, show (c * 6 + mk) % 6 = mk by omega]
theorem mDays (d : Nat) {way c : Nat} (M : MM) (w : Int64) (t u : Nat) (hw : way < 4096) (hc : c < 6) : callN X (d + 1) 162 [vI (nI way), vI (nI c)] (M, w, true, true, [], t, u) = some (some (vI (nI (dg way c))), (M, w, true, true, [], t, u)) := by
  rw [aX7_daysOn]
  have h : nI way >>> ((2 * (5 - nI c)) &&& 31) = nI (way / 4 ^ (5 - c)) := by
    have : c = 0 ∨ c = 1 ∨ c = 2 ∨ c = 3 ∨ c = 4 ∨ c = 5 := by omega
    rcases this with rfl | rfl | rfl | rfl | rfl | rfl
    · exact nI_shr (k := 10) (by omega) (by decide)
    · exact nI_shr (k := 8) (by omega) (by decide)
    · exact nI_shr (k := 6) (by omega) (by decide)
    · exact nI_shr (k := 4) (by omega) (by decide)
    · exact nI_shr (k := 2) (by omega) (by decide)
    · exact nI_shr (k := 0) (by omega) (by decide)
  have hle := Nat.div_le_self way (4 ^ (5 - c))
  rw [h, nI_and3 (by omega)]
  rfl
theorem mPacked (d : Nat) {way mk : Nat} {M : MM} (w : Int64) (t u : Nat) {s : GS} {o : Nat} (h : TkM M s o) (hw : way < 4096) (hm : mk < 6) : callN X (d + 2) 163 [vR 30 0, vI (nI way), vI (nI mk)] (M, w, true, true, [], t, u) = some (some (vI (nI (pkN s o way mk))), (M, w, true, true, [], t, u)) := by
  have loop : ∀ m c, c + m = 6 → nR X (callN X (d + 1)) hX7_packed 5 [vR 30 0, vI (nI way), vI (nI mk), vI (nI (sumN (fun c => dg way c * tkS s o c mk) c)), vI (nI c)] [] (M, w, true, true, [], t, u) = some (some (vI (nI (pkN s o way mk))), (M, w, true, true, [], t, u)) := by
    intro m
    induction m with
    | zero =>
      intro c hc
      have hc : c = 6 := hc
      subst hc
      rw [bX7_packed_5, if_pos (by decide)]
      rfl
    | succ m ih =>
      intro c hc
      rw [bX7_packed_5, li6, if_neg (nI_ge (by omega) (by omega)), mDays X d M w t u hw (show c < 6 by omega), bnd_s]
      show nR X (callN X (d + 1)) hX7_packed 19 _ [vI (nI (dg way c)), vI (nI (sumN (fun c => dg way c * tkS s o c mk) c))] _ = _
      rw [bX7_packed_19, li6, pk_mul, nI_add, Nat.mul_comm 6 c, nin_t (show c * 6 + mk < 36 by omega), cond_tt rfl, nI_clamp (by omega), h c mk (by omega) hm, pk_mul, nI_add, nI_1]
      exact ih (c + 1) (by omega)
  rw [show d + 2 = d + 1 + 1 from rfl, aX7_packed]
  exact loop 6 0 rfl
theorem cAreSt (d : Nat) (a : Int32) (M : MM) (w : Int64) (t u : Nat) : callN X (d + 1) 88 [vI a] (M, w, true, true, [], t, u) = some (some (vI (cond (nIn a 333334 && okG a.toNatClampNeg 6 0) 1 0)), (M, w, true, true, [], t, u)) := by
  rw [aX6_areStays, if_in2 (n := 333334) rfl]
  cases c : nIn a 333334
  · rfl
  obtain ⟨x, hx, rfl⟩ := in_ex c (by omega)
  simp only [cond_true, Bool.true_and]
  rw [nI_clamp (by omega)]
  have loop : ∀ m i, i + m = 6 → nR X (callN X d) hX6_areStays 17 [vI (nI x), vI (nI (x / 10 ^ i)), vI (nI i)] [] (M, w, true, true, [], t, u) = some (some (vI (cond (okG x m i) 1 0)), (M, w, true, true, [], t, u)) := by
    intro m
    induction m with
    | zero =>
      intro i hi
      have hi : i = 6 := hi
      subst hi
      rw [bX6_areStays_17, if_pos (by decide)]
      rfl
    | succ m ih =>
      intro i hi
      have hle := Nat.div_le_self x (10 ^ i)
      rw [bX6_areStays_17, li6, if_neg (nI_ge (by omega) (by omega)), li10, pk_rem (by omega) (by omega) (by omega), pk_div (by omega) (by omega) (by omega), nI_1, if_neg (show ¬ nI 10 = 0 by decide), if_neg (show ¬ nI 10 = 0 by decide), li3]
      show _ = some (some (vI (cond (decide (x / 10 ^ i % 10 ≤ 3) && okG x m (i + 1)) 1 0)), _)
      simp (disch := omega) only [nI_leI]
      by_cases c3 : x / 10 ^ i % 10 ≤ 3
      · rw [if_pos c3, decide_eq_true c3, Bool.true_and]
        have := ih (i + 1) (by omega)
        rw [Nat.pow_succ, ← Nat.div_div_eq_div_mul] at this
        exact this
      · rw [if_neg c3, decide_eq_false c3]
        rfl
  have := loop 6 0 rfl
  rw [Nat.pow_zero, Nat.div_one] at this
  exact this
theorem mWay (d : Nat) (a : Int32) (M : MM) (w : Int64) (t u : Nat) : callN X (d + 2) 164 [vI a] (M, w, true, true, [], t, u) = some (some (vI (cond (nIn a 333334 && okG a.toNatClampNeg 6 0) (nI (wyF a.toNatClampNeg 6)) (-1))), (M, w, true, true, [], t, u)) := by
  rw [show d + 2 = d + 1 + 1 from rfl, aX7_wayOf, mIn X d a (n := 333334) rfl, bnd_s, tl_s, bX7_wayOf_9, if_b]
  cases c : nIn a 333334
  · rfl
  obtain ⟨x, hx, rfl⟩ := in_ex c (by omega)
  simp only [cond_true, Bool.true_and]
  rw [nI_clamp (by omega)]
  have shl : ∀ i v : Nat, i < 6 → v ≤ 3 → nI v <<< ((2 * (5 - (5 - nI i))) &&& 31) = nI (v * 4 ^ i) := by
    intro i v hi hv
    have e1 : i = 0 ∨ i = 1 ∨ i = 2 ∨ i = 3 ∨ i = 4 ∨ i = 5 := by omega
    have e2 : v = 0 ∨ v = 1 ∨ v = 2 ∨ v = 3 := by omega
    rcases e1 with rfl | rfl | rfl | rfl | rfl | rfl <;> rcases e2 with rfl | rfl | rfl | rfl <;> decide
  have dec1 : ∀ i : Nat, i < 6 → (5 - nI i) + -1 = 5 - nI (i + 1) := by
    intro i hi
    have e1 : i = 0 ∨ i = 1 ∨ i = 2 ∨ i = 3 ∨ i = 4 ∨ i = 5 := by omega
    rcases e1 with rfl | rfl | rfl | rfl | rfl | rfl <;> decide
  have neg1 : ∀ i : Nat, i < 6 → ¬ (5 - nI i) < 0 := by
    intro i hi
    have e1 : i = 0 ∨ i = 1 ∨ i = 2 ∨ i = 3 ∨ i = 4 ∨ i = 5 := by omega
    rcases e1 with rfl | rfl | rfl | rfl | rfl | rfl <;> decide
  have loop : ∀ m i, i + m = 6 → wyF x i < 4 ^ i → nR X (callN X (d + 1)) hX7_wayOf 20 [vI (nI x), vI (nI (wyF x i)), vI (nI (x / 10 ^ i)), vI (5 - nI i)] [] (M, w, true, true, [], t, u) = some (some (vI (cond (okG x m i) (nI (wyF x 6)) (-1))), (M, w, true, true, [], t, u)) := by
    intro m
    induction m with
    | zero =>
      intro i hi _
      have hi : i = 6 := hi
      subst hi
      rw [bX7_wayOf_20, if_pos (by decide)]
      rfl
    | succ m ih =>
      intro i hi hlt
      have hle := Nat.div_le_self x (10 ^ i)
      rw [bX7_wayOf_20, if_neg (neg1 i (by omega)), li10, pk_rem (by omega) (by omega) (by omega), pk_div (by omega) (by omega) (by omega), if_neg (show ¬ nI 10 = 0 by decide), if_neg (show ¬ nI 10 = 0 by decide), if_neg (show ¬ nI 10 = 0 by decide), dec1 i (by omega), li3]
      show _ = some (some (vI (cond (decide (x / 10 ^ i % 10 ≤ 3) && okG x m (i + 1)) (nI (wyF x 6)) (-1))), _)
      simp (disch := omega) only [nI_leI]
      by_cases c3 : x / 10 ^ i % 10 ≤ 3
      · rw [if_pos c3, decide_eq_true c3, Bool.true_and, shl i _ (by omega) c3, nI_or, show 4 ^ i = 2 ^ (2 * i) by rw [Nat.pow_mul], or_add (by rw [Nat.pow_mul]; exact hlt)]
        have h2 : wyF x (i + 1) = wyF x i + x / 10 ^ i % 10 * 4 ^ i := rfl
        have hlt2 : wyF x (i + 1) < 4 ^ (i + 1) := by
          rw [h2, Nat.pow_succ]
          have : x / 10 ^ i % 10 * 4 ^ i ≤ 3 * 4 ^ i := Nat.mul_le_mul_right _ c3
          omega
        have := ih (i + 1) (by omega) hlt2
        rw [Nat.pow_succ, ← Nat.div_div_eq_div_mul, h2, show 4 ^ i = 2 ^ (2 * i) by rw [Nat.pow_mul]] at this
        exact this
      · rw [if_neg c3, decide_eq_false c3]
        rfl
  have := loop 6 0 rfl (by show 0 < 1; omega)
  rw [Nat.pow_zero, Nat.div_one] at this
  exact this
end
