/-! go: block equations of goes, behind its new array -/
section
variable (X : Nat × (Nat → Int32))
def c_X7_goes2 : List Nat := [10, 46, 55, 57, 62, 123, 151, 154]
set_option maxRecDepth 100000 in
theorem eX7_goes_46 (d : Nat) (x1 : Int32) (x2 : Int32) (x3 : Int32) (x4 : Int32) (x5 : Int32) (x6 : Int32) (x7 : AV) (x8 : AV) (M : MM) (w : Int64) (l : List (Nat × Nat × Nat)) (t u : Nat) : nR X (callN X d) hX7_goes 46 [vR 30 0, vI x1, vI x2, vI x3, vI x4, vI x5, vI x6, x7, x8] [] (M, w, true, true, l, t, u) = if (6 : Int32) ≤ x6 then some (none, (M, w, true, true, l, t, u)) else nR X (callN X d) hX7_goes 55 [vR 30 0, vI x1, vI x2, vI x3, vI x4, vI x5, vI x6, x7, x8] [vI (6 : Int32)] (M, w, true, true, l, t, u) :=
  (nR_itc X _ _ c_X7_goes2 4 _ _ _ _).trans rfl
set_option maxRecDepth 100000 in
theorem eX7_goes_57 (d : Nat) (x1 : Int32) (x2 : Int32) (x3 : Int32) (x4 : Int32) (x5 : Int32) (x6 : Int32) (x7 : AV) (x8 : AV) (q0 : Nat) (M : MM) (w : Int64) (l : List (Nat × Nat × Nat)) (t u : Nat) : nR X (callN X d) hX7_goes 57 [vR 30 0, vI x1, vI x2, vI x3, vI x4, vI x5, vI x6, x7, x8] [vR 60 q0] (M, w, true, true, l, t, u) = nR X (callN X d) hX7_goes 62 [vR 30 0, vI x1, vI x2, vI x3, vI x4, vI x5, vI x6, vR 60 q0, vI (0 : Int32)] [] (M, w, true, true, l, t, u) :=
  (nR_itc X _ _ c_X7_goes2 3 _ _ _ _).trans rfl
set_option maxRecDepth 100000 in
theorem eX7_goes_62 (d : Nat) (x1 : Int32) (x2 : Int32) (x3 : Int32) (x4 : Int32) (x5 : Int32) (x6 : Int32) (r7 : Nat) (x8 : Int32) (M : MM) (w : Int64) (l : List (Nat × Nat × Nat)) (t u : Nat) : nR X (callN X d) hX7_goes 62 [vR 30 0, vI x1, vI x2, vI x3, vI x4, vI x5, vI x6, vR 60 r7, vI x8] [] (M, w, true, true, l, t, u) = if (6 : Int32) ≤ x8 then nBnd (callN X d 174 [vR 30 0, vI x1, vI x2, vI (x3 - (1 : Int32)), vI x6, vI ((((10 : Int32) * x5) + x6) + (1 : Int32))] (M, w, true, true, l, t, u)) (fun v s2 => nR X (callN X d) hX7_goes 151 [vR 30 0, vI x1, vI x2, vI x3, vI x4, vI x5, vI x6, vR 60 r7, vI x8] (v.toList ++ []) s2) else cond (nIn (((6 : Int32) * x1) + x8) 30) (cond (nIn x8 6) (cond (nIn x8 6) (cond (nIn (((6 : Int32) * x6) + x8) 36) (nBnd (callN X d 112 [vI (((nSt M 60 r7 (x8).toNatClampNeg (M 37 0 ((((6 : Int32) * x1) + x8)).toNatClampNeg)) 60 r7 (x8).toNatClampNeg) + ((nSt M 60 r7 (x8).toNatClampNeg (M 37 0 ((((6 : Int32) * x1) + x8)).toNatClampNeg)) 39 0 ((((6 : Int32) * x6) + x8)).toNatClampNeg)), vI (0 : Int32), vI (9999 : Int32)] ((nSt M 60 r7 (x8).toNatClampNeg (M 37 0 ((((6 : Int32) * x1) + x8)).toNatClampNeg)), w, true, true, l, t, u)) (fun v s2 => nR X (callN X d) hX7_goes 123 [vR 30 0, vI x1, vI x2, vI x3, vI x4, vI x5, vI x6, vR 60 r7, vI x8] (v.toList ++ [vI (((6 : Int32) * x1) + x8), vR 37 0]) s2)) none) none) none) none :=
  (nR_itc X _ _ c_X7_goes2 36 _ _ _ _).trans rfl
set_option maxRecDepth 100000 in
theorem eX7_goes_123 (d : Nat) (x1 : Int32) (x2 : Int32) (x3 : Int32) (x4 : Int32) (x5 : Int32) (x6 : Int32) (r7 : Nat) (x8 : Int32) (y0 : Int32) (y1 : Int32) (M : MM) (w : Int64) (l : List (Nat × Nat × Nat)) (t u : Nat) : nR X (callN X d) hX7_goes 123 [vR 30 0, vI x1, vI x2, vI x3, vI x4, vI x5, vI x6, vR 60 r7, vI x8] [vI y0, vI y1, vR 37 0] (M, w, true, true, l, t, u) = cond (nIn y1 30) (nR X (callN X d) hX7_goes 62 [vR 30 0, vI x1, vI x2, vI x3, vI x4, vI x5, vI x6, vR 60 r7, vI (x8 + (1 : Int32))] [] ((nSt M 37 0 (y1).toNatClampNeg y0), w, true, true, l, t, u)) none :=
  (nR_itc X _ _ c_X7_goes2 3 _ _ _ _).trans rfl
set_option maxRecDepth 100000 in
theorem eX7_goes_151 (d : Nat) (x1 : Int32) (x2 : Int32) (x3 : Int32) (x4 : Int32) (x5 : Int32) (x6 : Int32) (r7 : Nat) (x8 : Int32) (M : MM) (w : Int64) (l : List (Nat × Nat × Nat)) (t u : Nat) : nR X (callN X d) hX7_goes 151 [vR 30 0, vI x1, vI x2, vI x3, vI x4, vI x5, vI x6, vR 60 r7, vI x8] [] (M, w, true, true, l, t, u) = nR X (callN X d) hX7_goes 154 [vR 30 0, vI x1, vI x2, vI x3, vI x4, vI x5, vI x6, vR 60 r7, vI (0 : Int32)] [] (M, w, true, true, l, t, u) :=
  (nR_itc X _ _ c_X7_goes2 2 _ _ _ _).trans rfl
set_option maxRecDepth 100000 in
theorem eX7_goes_154 (d : Nat) (x1 : Int32) (x2 : Int32) (x3 : Int32) (x4 : Int32) (x5 : Int32) (x6 : Int32) (r7 : Nat) (x8 : Int32) (M : MM) (w : Int64) (l : List (Nat × Nat × Nat)) (t u : Nat) : nR X (callN X d) hX7_goes 154 [vR 30 0, vI x1, vI x2, vI x3, vI x4, vI x5, vI x6, vR 60 r7, vI x8] [] (M, w, true, true, l, t, u) = if (6 : Int32) ≤ x8 then nR X (callN X d) hX7_goes 46 [vR 30 0, vI x1, vI x2, vI x3, vI x4, vI x5, vI (x6 + (1 : Int32)), vR 60 r7, vI x8] [] (M, w, true, true, l, t, u) else cond (nIn x8 6) (cond (nIn (((6 : Int32) * x1) + x8) 30) (nR X (callN X d) hX7_goes 154 [vR 30 0, vI x1, vI x2, vI x3, vI x4, vI x5, vI x6, vR 60 r7, vI (x8 + (1 : Int32))] [] ((nSt M 37 0 ((((6 : Int32) * x1) + x8)).toNatClampNeg (M 60 r7 (x8).toNatClampNeg)), w, true, true, l, t, u)) none) none :=
  (nR_itc X _ _ c_X7_goes2 16 _ _ _ _).trans rfl
theorem eX7_goes_55 (d : Nat) (x1 x2 x3 x4 x5 x6 : Int32) (x7 x8 : AV) (M : MM) (w : Int64) (l : List (Nat × Nat × Nat)) (t u : Nat) (ht : 72 ≤ t) : nR X (callN X d) hX7_goes 55 [vR 30 0, vI x1, vI x2, vI x3, vI x4, vI x5, vI x6, x7, x8] [vI (6 : Int32)] (M, w, true, true, l, t, u) = nR X (callN X d) hX7_goes 57 [vR 30 0, vI x1, vI x2, vI x3, vI x4, vI x5, vI x6, x7, x8] [vR 60 (t - 72)] (nZ M 60 (t - 72), w, true, true, l, t + 1, u + 6) := by
  have hid : nIdAt t = (60, t - 72) := if_neg (by omega)
  rw [nR_step]
  show cond (nAk (nIdAt t).1 == 1 && (6 : Int32) == Int32.ofNat (nAl (nIdAt t).1)) (nR X (callN X d) hX7_goes 57 [vR 30 0, vI x1, vI x2, vI x3, vI x4, vI x5, vI x6, x7, x8] [vR (nIdAt t).1 (nIdAt t).2] (nZ M (nIdAt t).1 (nIdAt t).2, cond ((nIdAt t).1 == 30) 0 w, true, true, l, t + 1, u + nAl (nIdAt t).1)) none = _
  rw [hid]
  rfl
end
/-! ways to go: digits to the base 6, the first the highest, never behind a greater one -/
def tw (s : GS) (o : Nat) : Nat → Nat → Nat → Nat
  | 0, _, _ => 0
  | k + 1, way, y => tw s o k (way / 6) y + tkS s o (way % 6) y
def dW : Nat → Nat → Nat
  | 0, _ => 0
  | k + 1, way => dW k (way / 6) * 10 + way % 6 + 1
def ngB : Nat → Nat → Nat → Bool
  | 0, _, _ => true
  | k + 1, way, later => decide (way % 6 ≤ later) && ngB k (way / 6) (way % 6)
def frm : Nat → Nat → Nat
  | 0, _ => 0
  | _ + 1, way => way % 6
def thG (s : GS) (o k way : Nat) : Nat → Nat := fun mk => min (gSh (sW s) (o * 6 + mk) + tw s o k way mk) 9999
def vW (s : GS) (o q k way : Nat) : Nat := sumN (fun mk => dsN (thG s o k way mk) (gSh (sW s) (q * 6 + mk))) 6
abbrev BS : Type := Option (Nat × Nat)
def upB (st : BS) (way v : Nat) : BS := match st with
  | none => some (way, v)
  | some (w0, v0) => if v < v0 then some (way, v) else some (w0, v0)
def gL (f : Nat → BS → BS) : Nat → BS → BS
  | 0, st => st
  | c + 1, st => f c (gL f c st)
def gF (s : GS) (o q : Nat) : Nat → Nat → Nat → BS → BS
  | 0, k, pre, st => upB st pre (vW s o q k pre)
  | left + 1, k, pre, st => gL (fun c st2 => if frm k pre ≤ c then gF s o q left (k + 1) (6 * pre + c) st2 else st2) 6 st
theorem frm_le (k way : Nat) : frm k way ≤ 5 := by
  cases k
  · exact Nat.zero_le _
  · show way % 6 ≤ 5
    omega
theorem upB_some (st : BS) (way v : Nat) : ∃ r, upB st way v = some r := by
  unfold upB
  rcases st with _ | ⟨w0, v0⟩
  · exact ⟨_, rfl⟩
  · show ∃ r, (if v < v0 then some (way, v) else some (w0, v0)) = some r
    split <;> exact ⟨_, rfl⟩
theorem gF_some (s : GS) (o q : Nat) : ∀ left k pre st, ∃ r, gF s o q left k pre st = some r
  | 0, k, pre, st => upB_some st pre _
  | left + 1, k, pre, st => by
    show ∃ r, (if frm k pre ≤ 5 then gF s o q left (k + 1) (6 * pre + 5) _ else _) = some r
    rw [if_pos (frm_le k pre)]
    exact gF_some s o q left (k + 1) (6 * pre + 5) _
theorem ngB_mono : ∀ k way a b, a ≤ b → ngB k way a = true → ngB k way b = true
  | 0, _, _, _, _, _ => rfl
  | k + 1, way, a, b, hab, h => by
    have h : (decide (way % 6 ≤ a) && ngB k (way / 6) (way % 6)) = true := h
    rw [Bool.and_eq_true, decide_eq_true_eq] at h
    show (decide (way % 6 ≤ b) && ngB k (way / 6) (way % 6)) = true
    rw [decide_eq_true (by omega), h.2]
    rfl
theorem ngB_app {k pre c : Nat} (hc : c < 6) : ngB (k + 1) (6 * pre + c) 5 = ngB k pre c := by
  show (decide ((6 * pre + c) % 6 ≤ 5) && ngB k ((6 * pre + c) / 6) ((6 * pre + c) % 6)) = _
  rw [decide_eq_true (by omega), show (6 * pre + c) / 6 = pre by omega, show (6 * pre + c) % 6 = c by omega]
  rfl
theorem ngB_frm {k pre c : Nat} (h : ngB k pre 5 = true) : ngB k pre c = decide (frm k pre ≤ c) := by
  cases k
  · exact (decide_eq_true (Nat.zero_le c)).symm
  · have h : (decide (pre % 6 ≤ 5) && _) = true := h
    rw [Bool.and_eq_true] at h
    show (decide (pre % 6 ≤ c) && _) = decide (pre % 6 ≤ c)
    rw [h.2, Bool.and_true]
theorem tw_app (s : GS) (o k pre mk : Nat) {c : Nat} (hc : c < 6) : tw s o (k + 1) (6 * pre + c) mk = tw s o k pre mk + tkS s o c mk := by
  show tw s o k ((6 * pre + c) / 6) mk + tkS s o ((6 * pre + c) % 6) mk = _
  rw [show (6 * pre + c) / 6 = pre by omega, show (6 * pre + c) % 6 = c by omega]
theorem dW_app (k pre : Nat) {c : Nat} (hc : c < 6) : dW (k + 1) (6 * pre + c) = dW k pre * 10 + c + 1 := by
  show dW k ((6 * pre + c) / 6) * 10 + (6 * pre + c) % 6 + 1 = _
  rw [show (6 * pre + c) / 6 = pre by omega, show (6 * pre + c) % 6 = c by omega]
theorem tw_le (s : GS) (o mk : Nat) : ∀ k way, tw s o k way mk ≤ k * 99
  | 0, _ => Nat.zero_le _
  | k + 1, way => by
    have h1 := tw_le s o mk k (way / 6)
    have h2 := tkS_le s o (way % 6) mk
    show tw s o k (way / 6) mk + tkS s o (way % 6) mk ≤ (k + 1) * 99
    omega
theorem dW_lt : ∀ k way, dW k way < 10 ^ k
  | 0, _ => by show 0 < 1; omega
  | k + 1, way => by
    have h1 := dW_lt k (way / 6)
    show dW k (way / 6) * 10 + way % 6 + 1 < 10 ^ (k + 1)
    rw [Nat.pow_succ]
    omega
theorem vW_le (s : GS) (o q k way : Nat) (h : ∀ j, gSh (sW s) j ≤ 9999) : vW s o q k way ≤ 6 * 9999 := sumN_le 6 (fun _ _ => dsN_le (Nat.min_le_right _ _) (h _))
def bwC (st : BS) : Int32 := match st with
  | none => 0
  | some (w, _) => nI w
def baC (st : BS) : Int32 := match st with
  | none => -1
  | some (_, v) => nI v
section
variable (X : Nat × (Nat → Int32))
theorem cNgb (d : Nat) {n way : Nat} (M : MM) (w : Int64) (t u : Nat) (hn : n ≤ 3) (hw : way < 2 ^ 30) : callN X (d + 1) 99 [vI (nI way), vI (nI n)] (M, w, true, true, [], t, u) = some (some (vI (cond (ngB n way 5) 1 0)), (M, w, true, true, [], t, u)) := by
  have loop : ∀ (m i rest later : Nat) (x5 : AV), i + m = n → rest < 2 ^ 30 → later < 6 → nR X (callN X d) hX6_neverGoesBack 7 [vI (nI way), vI (nI n), vI (nI rest), vI (nI later), vI (nI i), x5] [] (M, w, true, true, [], t, u) = some (some (vI (cond (ngB m rest later) 1 0)), (M, w, true, true, [], t, u)) := by
    intro m
    induction m with
    | zero =>
      intro i rest later x5 hi hr hl
      have hi : i = n := hi
      rw [bX6_neverGoesBack_7, hi, if_pos (nI_le (Nat.le_refl _) (by omega))]
      rfl
    | succ m ih =>
      intro i rest later x5 hi hr hl
      rw [bX6_neverGoesBack_7, if_neg (nI_ge (by omega) (by omega)), li6, pk_rem (by omega) (by omega) (by omega), pk_div (by omega) (by omega) (by omega), if_neg (show ¬ nI 6 = 0 by decide), if_neg (show ¬ nI 6 = 0 by decide), nI_1]
      simp (disch := omega) only [nI_leI]
      show _ = some (some (vI (cond (decide (rest % 6 ≤ later) && ngB m (rest / 6) (rest % 6)) 1 0)), _)
      by_cases c : rest % 6 ≤ later
      · rw [if_pos c, decide_eq_true c, Bool.true_and]
        exact ih (i + 1) (rest / 6) (rest % 6) _ (by omega) (by omega) (by omega)
      · rw [if_neg c, decide_eq_false c]
        rfl
  rw [aX6_neverGoesBack]
  exact loop n 0 way 5 vX (Nat.zero_add _) hw (by omega)
theorem cDigW (d : Nat) {n way : Nat} (M : MM) (w : Int64) (t u : Nat) (hn : n ≤ 3) (hw : way < 2 ^ 30) : callN X (d + 1) 100 [vI (nI way), vI (nI n)] (M, w, true, true, [], t, u) = some (some (vI (nI (dW n way))), (M, w, true, true, [], t, u)) := by
  have loop : ∀ (m i dig rest tens : Nat), i + m = n → rest < 2 ^ 30 → nR X (callN X d) hX6_digitsOfWay 10 [vI (nI way), vI (nI n), vI (nI dig), vI (nI rest), vI (nI tens), vI (nI i)] [] (M, w, true, true, [], t, u) = some (some (vI (nI (dig + dW m rest * tens))), (M, w, true, true, [], t, u)) := by
    intro m
    induction m with
    | zero =>
      intro i dig rest tens hi hr
      have hi : i = n := hi
      rw [bX6_digitsOfWay_10, hi, if_pos (nI_le (Nat.le_refl _) (by omega))]
      show some (some (vI (nI dig)), _) = some (some (vI (nI (dig + 0 * tens))), _)
      rw [Nat.zero_mul, Nat.add_zero]
    | succ m ih =>
      intro i dig rest tens hi hr
      rw [bX6_digitsOfWay_10, if_neg (nI_ge (by omega) (by omega)), li6, pk_rem (by omega) (by omega) (by omega), pk_div (by omega) (by omega) (by omega), if_neg (show ¬ nI 6 = 0 by decide), if_neg (show ¬ nI 6 = 0 by decide), nI_1, nI_1, li10, pk_mul, pk_mul, nI_add]
      have := ih (i + 1) (dig + (rest % 6 + 1) * tens) (rest / 6) (tens * 10) (by omega) (by omega)
      rw [this]
      have e : dig + (rest % 6 + 1) * tens + dW m (rest / 6) * (tens * 10) = dig + dW (m + 1) rest * tens := by
        show _ = dig + (dW m (rest / 6) * 10 + rest % 6 + 1) * tens
        rw [Nat.add_assoc (dW m (rest / 6) * 10), Nat.add_mul (dW m (rest / 6) * 10), Nat.mul_assoc (dW m (rest / 6)) 10 tens, Nat.mul_comm tens 10]
        omega
      rw [e]
  rw [aX6_digitsOfWay]
  have := loop n 0 0 way 1 (Nat.zero_add _) hw
  rw [Nat.zero_add, Nat.mul_one] at this
  exact this
theorem cGoIn (d : Nat) {M : MM} (w : Int64) (t u : Nat) {s : GS} {o c : Nat} {T : Nat → Nat} (hT : TkC M s o) (hc : c < 6) (h27 : ∀ mk, mk < 6 → M 27 0 mk = nI (T mk)) (hT9 : ∀ mk, T mk ≤ 9999) : ∃ M2, callN X (d + 1) 102 [vR 2 0, vI (nI c)] (M, w, true, true, [], t, u) = some (none, (M2, w, true, true, [], t, u)) ∧ (∀ mk, mk < 6 → M2 27 0 mk = nI (min (T mk + tkS s o c mk) 9999)) ∧ ∀ k i j, k ≠ 27 → M2 k i j = M k i j := by
  have loop : ∀ (m k : Nat) (Mi : MM), k + m = 6 → (∀ mk, mk < 6 → Mi 27 0 mk = nI (if mk < k then min (T mk + tkS s o c mk) 9999 else T mk)) → (∀ k i j, k ≠ 27 → Mi k i j = M k i j) → ∃ M2, nR X (callN X d) hX6_goInThought 2 [vR 2 0, vI (nI c), vI (nI k)] [] (Mi, w, true, true, [], t, u) = some (none, (M2, w, true, true, [], t, u)) ∧ (∀ mk, mk < 6 → M2 27 0 mk = nI (min (T mk + tkS s o c mk) 9999)) ∧ ∀ k i j, k ≠ 27 → M2 k i j = M k i j := by
    intro m
    induction m with
    | zero =>
      intro k Mi hk h1 h2
      have hk : k = 6 := hk
      subst hk
      rw [bX6_goInThought_2, if_pos (by decide)]
      exact ⟨Mi, rfl, fun mk hmk => (h1 mk hmk).trans (by rw [if_pos hmk]), h2⟩
    | succ m ih =>
      intro k Mi hk h1 h2
      have e27 := h1 k (by omega)
      rw [if_neg (Nat.lt_irrefl k)] at e27
      have b1 := hT9 k
      have b2 := tkS_le s o c k
      rw [bX6_goInThought_2, li6, if_neg (nI_ge (by omega) (by omega)), pk_mul, nI_add, nin_t (show k < 6 by omega), nin_t (show c * 6 + k < 36 by omega), cond_tt rfl, cond_tt rfl, cond_tt rfl, nI_clamp (by omega), nI_clamp (by omega), e27, h2 26 0 _ (by omega), hT c k hc (by omega), nI_add, show (9999 : Int32) = nI 9999 from rfl, min_if (by omega) (by omega), nI_1]
      refine ih (k + 1) _ (by omega) (fun mk hmk => ?_) (fun a b j q => (nst_ne q).trans (h2 a b j q))
      by_cases y : mk = k
      · rw [y, nst_self, if_pos (by omega)]
      · rw [nst_j y, h1 mk hmk]
        by_cases y2 : mk < k
        · rw [if_pos y2, if_pos (by omega)]
        · rw [if_neg y2, if_neg (by omega)]
  rw [aX6_goInThought]
  exact loop 6 0 M rfl (fun mk hmk => (h27 mk hmk).trans (by rw [if_neg (Nat.not_lt_zero mk)])) (fun _ _ _ _ => rfl)
theorem cAfter (d : Nat) {M : MM} (w : Int64) (t u : Nat) {s : GS} {o q n way : Nat} (h : SC M s) (hT : TkC M s o) (hsh : ∀ j, gSh (sW s) j ≤ 9999) (ho : o < 5) (hq : q < 5) (hn : n ≤ 3) (hw : way < 2 ^ 30) : ∃ M2, callN X (d + 2) 101 [vR 2 0, vI (nI o), vI (nI q), vI (nI way), vI (nI n)] (M, w, true, true, [], t, u) = some (some (vI (nI (vW s o q n way))), (M2, w, true, true, [], t, u)) ∧ ∀ k i j, k ≠ 27 → M2 k i j = M k i j := by
  have l2 : ∀ (Mi : MM) (x5 : Int32), (∀ mk, mk < 6 → Mi 27 0 mk = nI (thG s o n way mk)) → (∀ k i j, k ≠ 27 → Mi k i j = M k i j) → ∀ m k, k + m = 6 → nR X (callN X (d + 1)) hX6_apartAfter 62 [vR 2 0, vI (nI o), vI (nI q), vI (nI way), vI (nI n), vI x5, vI (nI (sumN (fun mk => dsN (thG s o n way mk) (gSh (sW s) (q * 6 + mk))) k)), vI (nI k)] [] (Mi, w, true, true, [], t, u) = some (some (vI (nI (vW s o q n way))), (Mi, w, true, true, [], t, u)) := by
    intro Mi x5 h1 h2 m
    induction m with
    | zero =>
      intro k hk
      have hk : k = 6 := hk
      subst hk
      rw [bX6_apartAfter_62, if_pos (by decide)]
      rfl
    | succ m ih =>
      intro k hk
      have b1 : thG s o n way k ≤ 9999 := Nat.min_le_right _ _
      have b2 := hsh (q * 6 + k)
      rw [bX6_apartAfter_62, li6, if_neg (nI_ge (by omega) (by omega)), pk_mul, nI_add, nin_t (show k < 6 by omega), nin_t (show q * 6 + k < 30 by omega), cond_tt rfl, cond_tt rfl, nI_clamp (by omega), nI_clamp (by omega), h1 k (by omega), h2 5 0 _ (by omega), h.1.2.2.2.2.1 _ (by omega), ds_if (by omega) (by omega), nI_add, nI_1]
      exact ih (k + 1) (by omega)
  have l1 : ∀ (m i rest : Nat) (Mi : MM) (A : Nat → Nat), i + m = n → rest < 2 ^ 30 → (∀ mk, A mk + tw s o m rest mk = tw s o n way mk) → (∀ mk, mk < 6 → Mi 27 0 mk = nI (min (gSh (sW s) (o * 6 + mk) + A mk) 9999)) → (∀ k i j, k ≠ 27 → Mi k i j = M k i j) → ∃ M2, nR X (callN X (d + 1)) hX6_apartAfter 27 [vR 2 0, vI (nI o), vI (nI q), vI (nI way), vI (nI n), vI (nI rest), vI (nI i), vX] [] (Mi, w, true, true, [], t, u) = some (some (vI (nI (vW s o q n way))), (M2, w, true, true, [], t, u)) ∧ ∀ k i j, k ≠ 27 → M2 k i j = M k i j := by
    intro m
    induction m with
    | zero =>
      intro i rest Mi A hi hr hA h1 h2
      have hi : i = n := hi
      subst hi
      rw [bX6_apartAfter_27, if_pos (nI_le (Nat.le_refl _) (by omega))]
      refine ⟨Mi, l2 Mi (nI rest) (fun mk hmk => ?_) h2 6 0 rfl, h2⟩
      rw [h1 mk hmk]
      have h9 : A mk + 0 = tw s o i way mk := hA mk
      show _ = nI (min (gSh (sW s) (o * 6 + mk) + tw s o i way mk) 9999)
      rw [← h9, Nat.add_zero]
    | succ m ih =>
      intro i rest Mi A hi hr hA h1 h2
      obtain ⟨M1, e1, e2, e3⟩ := cGoIn X d w t u (s := s) (o := o) (c := rest % 6) (T := fun mk => min (gSh (sW s) (o * 6 + mk) + A mk) 9999) (fun c mk q1 q2 => (h2 26 0 _ (by omega)).trans (hT c mk q1 q2)) (by omega) h1 (fun mk => Nat.min_le_right _ _)
      rw [bX6_apartAfter_27, if_neg (nI_ge (by omega) (by omega)), if_neg (show ¬ (6 : Int32) = 0 by decide), li6, pk_rem (by omega) (by omega) (by omega), e1, bnd_s, tl_n, bX6_apartAfter_43, if_neg (show ¬ (6 : Int32) = 0 by decide), li6, pk_div (by omega) (by omega) (by omega), nI_1]
      refine ih (i + 1) (rest / 6) M1 (fun mk => A mk + tkS s o (rest % 6) mk) (by omega) (by omega) (fun mk => ?_) (fun mk hmk => ?_) (fun a b j q => (e3 a b j q).trans (h2 a b j q))
      · have h9 : A mk + (tw s o m (rest / 6) mk + tkS s o (rest % 6) mk) = tw s o n way mk := hA mk
        omega
      · rw [e2 mk hmk]
        congr 1
        omega
  have h0 : ∀ mk, mk < 6 → nCpy M 5 0 (o * 6) 27 0 0 6 27 0 mk = nI (min (gSh (sW s) (o * 6 + mk) + 0) 9999) := fun mk hmk => by
    have := hsh (o * 6 + mk)
    rw [cpy_in (by omega), Nat.sub_zero, Nat.min_eq_left (by omega)]
    exact h.1.2.2.2.2.1 _ (by omega)
  obtain ⟨M2, e1, e2⟩ := l1 n 0 way (nCpy M 5 0 (o * 6) 27 0 0 6) (fun _ => 0) (Nat.zero_add _) hw (fun mk => Nat.zero_add _) h0 (fun a b j q => cpy_ne (by omega))
  refine ⟨M2, ?_, e2⟩
  have e1 : nR X (callN X (d + 1)) hX6_apartAfter 27 [vR 2 0, vI (nI o), vI (nI q), vI (nI way), vI (nI n), vI (nI way), vI 0, vX] [] (nCpy M 5 0 (o * 6) 27 0 0 6, w, true, true, [], t, u) = _ := e1
  rw [show d + 2 = d + 1 + 1 from rfl, aX6_apartAfter, li6, pk_mul, nI_clamp (show o * 6 < 2 ^ 31 by omega), nI_clamp (show 6 < 2 ^ 31 by omega), show (0 : Int32).toNatClampNeg = 0 from rfl, decide_eq_true ⟨nI_pos (by omega), by decide, nI_pos (by omega), by omega, by omega⟩, cond_tt rfl, e1]
end
