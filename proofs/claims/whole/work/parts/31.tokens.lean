/-! tokens of a text of n bytes -/
def isSp (x : Nat) : Bool := x == 32 || x == 10
def isLe (x : Nat) : Bool := Nat.ble 97 x && Nat.ble x 122
def isDi (x : Nat) : Bool := Nat.ble 48 x && Nat.ble x 57
def isSg (x : Nat) : Bool := (Nat.ble 40 x && Nat.ble x 43) || (x == 45 || (Nat.ble 59 x && Nat.ble x 61))
def skW (f : Nat → Bool) : Nat → Nat → Nat
  | 0, p => p
  | k + 1, p => cond (f p) (skW f k (p + 1)) p
def sk (P : Nat → Bool) (b : Nat → Nat) (n p : Nat) : Nat := skW (fun j => Nat.blt j n && P (b j)) (n - p) p
theorem skW_more (f : Nat → Bool) : ∀ (k p : Nat), f (skW f k p) = false → skW f (k + 1) p = skW f k p
  | 0, p, h => by
    show cond (f p) _ p = p
    have h : f p = false := h
    rw [h]; rfl
  | k + 1, p, h => by
    show cond (f p) (skW f (k + 1) (p + 1)) p = cond (f p) (skW f k (p + 1)) p
    have h : f (cond (f p) (skW f k (p + 1)) p) = false := h
    cases hp : f p
    · rfl
    · rw [hp] at h
      exact skW_more f k (p + 1) h
theorem sk_stop {P : Nat → Bool} {b : Nat → Nat} {n p : Nat} (h : (Nat.blt p n && P (b p)) = false) : sk P b n p = p := by
  unfold sk
  rcases n - p with _ | k
  · rfl
  · show cond (Nat.blt p n && P (b p)) _ p = p
    rw [h]; rfl
theorem sk_step {P : Nat → Bool} {b : Nat → Nat} {n p : Nat} (h : (Nat.blt p n && P (b p)) = true) : sk P b n p = sk P b n (p + 1) := by
  have hp : p < n := by
    rw [Bool.and_eq_true] at h
    exact Nat.blt_eq.mp h.1
  unfold sk
  have : n - p = (n - (p + 1)) + 1 := by omega
  rw [this]
  show cond (Nat.blt p n && P (b p)) _ p = _
  rw [h]; rfl
theorem sk_ind {P : Nat → Bool} {b : Nat → Nat} {n : Nat} {C : Nat → Prop} (hs : ∀ p, (Nat.blt p n && P (b p)) = false → C p) (ht : ∀ p, p < n → (Nat.blt p n && P (b p)) = true → C (p + 1) → C p) : ∀ p, C p := by
  have : ∀ k p, n - p ≤ k → C p := by
    intro k
    induction k with
    | zero =>
      intro p hp
      refine hs p ?_
      have : Nat.blt p n = false := by
        rw [Bool.eq_false_iff]; intro q
        have := Nat.blt_eq.mp q
        omega
      rw [this]; rfl
    | succ k ih =>
      intro p hp
      cases h : (Nat.blt p n && P (b p))
      · exact hs p h
      · have hp2 : p < n := by
          rw [Bool.and_eq_true] at h
          exact Nat.blt_eq.mp h.1
        exact ht p hp2 h (ih (p + 1) (by omega))
  exact fun p => this (n - p) p (Nat.le_refl _)
theorem sk_ge (P : Nat → Bool) (b : Nat → Nat) (n p : Nat) : p ≤ sk P b n p := by
  refine sk_ind (P := P) (b := b) (n := n) (C := fun p => p ≤ sk P b n p) ?_ ?_ p
  · intro p h; rw [sk_stop h]; exact Nat.le_refl _
  · intro p _ h ih; rw [sk_step h]; omega
theorem sk_le (P : Nat → Bool) (b : Nat → Nat) (n p : Nat) (hp : p ≤ n) : sk P b n p ≤ n := by
  revert hp
  refine sk_ind (P := P) (b := b) (n := n) (C := fun p => p ≤ n → sk P b n p ≤ n) ?_ ?_ p
  · intro p h hp; rw [sk_stop h]; exact hp
  · intro p hp h ih _; rw [sk_step h]; exact ih (by omega)
theorem sk_end (P : Nat → Bool) (b : Nat → Nat) (n p : Nat) : (Nat.blt (sk P b n p) n && P (b (sk P b n p))) = false := by
  refine sk_ind (P := P) (b := b) (n := n) (C := fun p => (Nat.blt (sk P b n p) n && P (b (sk P b n p))) = false) ?_ ?_ p
  · intro p h; rw [sk_stop h]; exact h
  · intro p _ h ih; rw [sk_step h]; exact ih
theorem sk_all (P : Nat → Bool) (b : Nat → Nat) (n p : Nat) : ∀ j, p ≤ j → j < sk P b n p → P (b j) = true := by
  refine sk_ind (P := P) (b := b) (n := n) (C := fun p => ∀ j, p ≤ j → j < sk P b n p → P (b j) = true) ?_ ?_ p
  · intro p h j h1 h2; rw [sk_stop h] at h2; omega
  · intro p _ h ih j h1 h2
    rw [sk_step h] at h2
    rcases Nat.lt_or_ge p j with q | q
    · exact ih j q h2
    · have : j = p := by omega
      rw [this]
      rw [Bool.and_eq_true] at h
      exact h.2
/-- words: which one stands from q to e; 12: none of them -/
def wLt (k : Nat) : List Nat := nStrL.getD (k + 1) []
def mtW (b : Nat → Nat) (q e k : Nat) : Bool := (e == q + (wLt k).length) && (List.range (wLt k).length).all (fun j => b (q + j) == (wLt k).getD j 0)
def wdF (b : Nat → Nat) (q e : Nat) : Nat → Nat
  | 0 => 12
  | k + 1 => cond (mtW b q e k) k (wdF b q e k)
def wdI (b : Nat → Nat) (q e : Nat) : Nat := wdF b q e 12
theorem mt_uniq {b : Nat → Nat} {q e k k2 : Nat} (hk : k < 12) (hk2 : k2 < 12) (h : mtW b q e k = true) (h2 : mtW b q e k2 = true) : k = k2 := by
  have key : (List.range 12).all (fun k => (List.range 12).all (fun k2 => k == k2 || (wLt k).length != (wLt k2).length || (List.range (wLt k).length).any (fun j => (wLt k).getD j 0 != (wLt k2).getD j 0))) = true := by decide +kernel
  have h3 := List.all_eq_true.mp (List.all_eq_true.mp key k (List.mem_range.mpr hk)) k2 (List.mem_range.mpr hk2)
  unfold mtW at h h2
  rw [Bool.and_eq_true, beq_iff_eq, List.all_eq_true] at h h2
  rw [Bool.or_eq_true, Bool.or_eq_true, beq_iff_eq, bne_iff_ne, List.any_eq_true] at h3
  rcases h3 with (h3 | h3) | h3
  · exact h3
  · exact absurd (by have := h.1; have := h2.1; omega) h3
  · obtain ⟨j, hj, hne⟩ := h3
    have hlen : (wLt k).length = (wLt k2).length := by have := h.1; have := h2.1; omega
    have a1 := h.2 j hj
    have a2 := h2.2 j (by rw [← hlen]; exact hj)
    rw [beq_iff_eq] at a1 a2
    rw [bne_iff_ne] at hne
    exact absurd (a1.symm.trans a2) hne
theorem wdF_of {b : Nat → Nat} {q e k : Nat} (hk : k < 12) (h : mtW b q e k = true) : ∀ m, k < m → m ≤ 12 → wdF b q e m = k
  | 0, h1, _ => by omega
  | m + 1, h1, h2 => by
    show cond (mtW b q e m) m (wdF b q e m) = k
    cases hm : mtW b q e m
    · have hne : k ≠ m := fun q2 => by rw [q2, hm] at h; cases h
      exact wdF_of hk h m (by omega) (by omega)
    · exact (mt_uniq hk (by omega) h hm).symm
theorem wdF_is {b : Nat → Nat} {q e k : Nat} : ∀ m, m ≤ 12 → wdF b q e m = k → k < 12 → mtW b q e k = true
  | 0, _, h, hk => by
    have h : 12 = k := h
    omega
  | m + 1, h2, h, hk => by
    have h : cond (mtW b q e m) m (wdF b q e m) = k := h
    cases hm : mtW b q e m
    · rw [hm] at h
      exact wdF_is m (by omega) h hk
    · rw [hm] at h
      have h : m = k := h
      rw [← h]; exact hm
theorem wd_iff {b : Nat → Nat} {q e k : Nat} (hk : k < 12) : wdI b q e = k ↔ mtW b q e k = true := ⟨fun h => wdF_is 12 (Nat.le_refl _) h hk, fun h => wdF_of hk h 12 hk (Nat.le_refl _)⟩
theorem wdF_le (b : Nat → Nat) (q e : Nat) : ∀ m, m ≤ 12 → wdF b q e m ≤ 12
  | 0, _ => Nat.le_refl _
  | m + 1, h => by
    show cond (mtW b q e m) m (wdF b q e m) ≤ 12
    cases mtW b q e m
    · exact wdF_le b q e m (by omega)
    · show m ≤ 12; omega
theorem wd_le (b : Nat → Nat) (q e : Nat) : wdI b q e ≤ 12 := wdF_le b q e 12 (Nat.le_refl _)
/-- the token behind p: where it begins, where the next is looked for, what it is, its worth -/
def tq (b : Nat → Nat) (n p : Nat) : Nat := sk isSp b n p
def te (b : Nat → Nat) (n p : Nat) : Nat := cond (Nat.ble n (tq b n p)) (tq b n p) (cond (isLe (b (tq b n p))) (sk isLe b n (tq b n p)) (cond (isDi (b (tq b n p))) (sk isDi b n (tq b n p)) (tq b n p + 1)))
def tW (w : Nat) : Nat := if w < 6 then 3 else if w < 12 then w - 2 else 1
def tk (b : Nat → Nat) (n p : Nat) : Nat := cond (Nat.ble n (tq b n p)) 0 (cond (isLe (b (tq b n p))) (tW (wdI b (tq b n p) (te b n p))) (cond (isDi (b (tq b n p))) (if te b n p - tq b n p ≤ 4 then 2 else 1) (cond (isSg (b (tq b n p))) (b (tq b n p)) 1)))
def dvF (b : Nat → Nat) (q : Nat) : Nat → Nat
  | 0 => 0
  | m + 1 => dvF b q m * 10 + b (q + m) - 48
def tv (b : Nat → Nat) (n p : Nat) : Nat := cond (isLe (b (tq b n p))) (wdI b (tq b n p) (te b n p)) (dvF b (tq b n p) (te b n p - tq b n p))
theorem tq_ge (b : Nat → Nat) (n p : Nat) : p ≤ tq b n p := sk_ge _ _ _ _
theorem tq_le {b : Nat → Nat} {n p : Nat} (h : p ≤ n) : tq b n p ≤ n := sk_le _ _ _ _ h
theorem ble_f {a b : Nat} (h : b < a) : Nat.ble a b = false := by
  rw [Bool.eq_false_iff]; intro q
  have := Nat.ble_eq.mp q
  omega
theorem ble_t {a b : Nat} (h : a ≤ b) : Nat.ble a b = true := Nat.ble_eq.mpr h
theorem blt_f {a b : Nat} (h : b ≤ a) : Nat.blt a b = false := by
  rw [Bool.eq_false_iff]; intro q
  have := Nat.blt_eq.mp q
  omega
theorem blt_t {a b : Nat} (h : a < b) : Nat.blt a b = true := Nat.blt_eq.mpr h
theorem te_ge (b : Nat → Nat) (n p : Nat) : tq b n p ≤ te b n p := by
  unfold te
  cases Nat.ble n (tq b n p)
  · cases isLe (b (tq b n p))
    · cases isDi (b (tq b n p))
      · exact Nat.le_succ _
      · exact sk_ge _ _ _ _
    · exact sk_ge _ _ _ _
  · exact Nat.le_refl _
theorem te_le {b : Nat → Nat} {n p : Nat} (h : p ≤ n) : te b n p ≤ n := by
  unfold te
  cases hn : Nat.ble n (tq b n p)
  · have h2 : tq b n p < n := by
      rcases Nat.lt_or_ge (tq b n p) n with q | q
      · exact q
      · rw [ble_t q] at hn; cases hn
    cases isLe (b (tq b n p))
    · cases isDi (b (tq b n p))
      · exact h2
      · exact sk_le _ _ _ _ (Nat.le_of_lt h2)
    · exact sk_le _ _ _ _ (Nat.le_of_lt h2)
  · exact tq_le h
theorem te_gt {b : Nat → Nat} {n p : Nat} (h : tq b n p < n) : tq b n p < te b n p := by
  unfold te
  rw [ble_f h]
  show tq b n p < cond (isLe (b (tq b n p))) _ _
  cases h1 : isLe (b (tq b n p))
  · show tq b n p < cond (isDi (b (tq b n p))) _ _
    cases h2 : isDi (b (tq b n p))
    · exact Nat.lt_succ_self _
    · show tq b n p < sk isDi b n (tq b n p)
      rw [sk_step (by rw [blt_t h, h2]; rfl)]
      exact sk_ge _ _ _ _
  · show tq b n p < sk isLe b n (tq b n p)
    rw [sk_step (by rw [blt_t h, h1]; rfl)]
    exact sk_ge _ _ _ _
theorem tk_end {b : Nat → Nat} {n p : Nat} (h : tk b n p ≠ 0) : tq b n p < n := by
  rcases Nat.lt_or_ge (tq b n p) n with q | q
  · exact q
  · refine absurd ?_ h
    unfold tk
    rw [ble_t q]; rfl
