/-! what the small machine's memory says of the heap -/
/-- the surroundings: the first address of ours, the script's, the text constants', the classes' numbers, the arrays' classes -/
abbrev EnvT : Type := (Nat × Nat) × (Nat → Nat) × va_G × (ClassId × ClassId × ClassId × ClassId)
section
variable (E : EnvT)
def cA (k i : Nat) : Nat := if k = 1 then E.2.1 i else if k = 70 then E.1.2 else E.1.1 + nOff k i
def cV : AV → Value
  | .inl x => .int x
  | .inr (.inl x) => .long x
  | .inr (.inr (k, i)) => .ref (cA E k i)
def fV (s : Mem) (k i j : Nat) : Value := match nFt (nKc k) j with
  | 2 => .long s.2.1
  | 3 => cond (nRok s.2.2 k i j) (.ref (E.1.1 + nOff (nTg k i j).1 (nTg k i j).2)) .null
  | _ => .int (s.1 k i j)
def rV (s : Mem) (k i : Nat) : Nat → Option Nat := fun j => cond (Nat.blt j (nAl k) && nRok s.2.2 k i j) (some (E.1.1 + nOff (nTg k i j).1 (nTg k i j).2)) none
def cE (s : Mem) (k i : Nat) : va_E := match nAk k with
  | 0 => .inr (nKc k - 1, (List.range (nNf (nKc k))).map (fV E s k i))
  | 3 => .inl (cond (k == 13) E.2.2.2.2.2.1 E.2.2.2.2.2.2, nAl k, .inr (.inr (.inr (.inr (rV E s k i)))))
  | 2 => .inl (E.2.2.2.2.1, nAl k, .inl (s.1 k i))
  | _ => .inl (E.2.2.2.1, nAl k, .inl (s.1 k i))
def wL (s : Mem) : va_W := (List.range s.2.2.2.2.2.1).map (fun n => (E.1.1 + n, cE E s (nIdAt n).1 (nIdAt n).2))
end
abbrev nT (s : Mem) : Nat := s.2.2.2.2.2.1
abbrev nU (s : Mem) : Nat := s.2.2.2.2.2.2
/-- a cell that is there -/
def okT (t : Nat) (p : Nat × Nat) : Prop := nIdAt (nOff p.1 p.2) = p ∧ nOff p.1 p.2 < t ∧ (p.1 ≠ 0 ∧ p.1 ≠ 1 ∧ p.1 ≠ 70)
def okV (t : Nat) : AV → Prop
  | .inr (.inr (k, i)) => k = 0 ∨ (k = 1 ∧ i < 13) ∨ k = 70 ∨ okT t (k, i)
  | _ => True
/-- a place of a kind that holds a reference -/
def rsl (k j : Nat) : Bool := (nAk k == 3 && Nat.blt j (nAl k)) || (nKc k != 0 && (Nat.blt j (nNf (nKc k)) && nFt (nKc k) j == 3))
def wfA (A : AL) : Prop := (A.1 = true → 53 ≤ A.2.2.2.1) ∧ (A.2.1 = true → 72 ≤ A.2.2.2.1) ∧ ∀ q ∈ A.2.2.1, okT A.2.2.2.1 (q.1, q.2.1) ∧ okT A.2.2.2.1 (nTg q.1 q.2.1 q.2.2)
theorem idAt_big {n : Nat} (h : 72 ≤ n) : nIdAt n = (60, n - 72) := by
  unfold nIdAt
  rw [if_neg (by omega)]
theorem off_idAt_small : ∀ n, n < 72 → nOff (nIdAt n).1 (nIdAt n).2 = n := by decide +kernel
theorem off_idAt (n : Nat) : nOff (nIdAt n).1 (nIdAt n).2 = n := by
  by_cases h : n < 72
  · exact off_idAt_small n h
  · rw [idAt_big (by omega)]
    show nOb 60 + nOs 60 * (n - 72) = n
    show 72 + 1 * (n - 72) = n
    omega
theorem idAt_ne_small : ∀ n, n < 72 → (nIdAt n).1 ≠ 0 ∧ (nIdAt n).1 ≠ 1 ∧ (nIdAt n).1 ≠ 70 := by decide +kernel
theorem idAt_ne (n : Nat) : (nIdAt n).1 ≠ 0 ∧ (nIdAt n).1 ≠ 1 ∧ (nIdAt n).1 ≠ 70 := by
  by_cases h : n < 72
  · exact idAt_ne_small n h
  · rw [idAt_big (by omega)]
    exact ⟨show (60 : Nat) ≠ 0 by decide, show (60 : Nat) ≠ 1 by decide, show (60 : Nat) ≠ 70 by decide⟩
theorem okT_idAt {n t : Nat} (h : n < t) : okT t (nIdAt n) := ⟨by rw [off_idAt], by rw [off_idAt]; exact h, idAt_ne n⟩
theorem okT.le {t t' : Nat} {p : Nat × Nat} (h : okT t p) (hl : t ≤ t') : okT t' p := ⟨h.1, Nat.lt_of_lt_of_le h.2.1 hl, h.2.2⟩
theorem okV.le {t t' : Nat} {v : AV} (h : okV t v) (hl : t ≤ t') : okV t' v := by
  rcases v with x | x | ⟨k, i⟩
  · trivial
  · trivial
  · rcases h with h | h | h | h
    · exact Or.inl h
    · exact Or.inr (Or.inl h)
    · exact Or.inr (Or.inr (Or.inl h))
    · exact Or.inr (Or.inr (Or.inr (h.le hl)))
theorem okV.kc {t k i : Nat} (h : okV t (vR k i)) (hk : k ≠ 0 ∧ k ≠ 1 ∧ k ≠ 70) : okT t (k, i) := by
  rcases h with h | h | h | h
  · exact absurd h hk.1
  · exact absurd h.1 hk.2.1
  · exact absurd h hk.2.2
  · exact h
theorem kc_ne {k c : Nat} (h : (nKc k == c) = true) (hc : c ≠ 0) : k ≠ 0 ∧ k ≠ 1 ∧ k ≠ 70 := by
  refine ⟨?_, ?_, ?_⟩ <;> rintro rfl <;> exact hc (by have := eq_of_beq h; rw [← this]; rfl)
theorem ak_ne {k w : Nat} (h : (nAk k == w) = true) (hw : w ≠ 0) : k ≠ 0 ∧ k ≠ 1 ∧ k ≠ 70 := by
  refine ⟨?_, ?_, ?_⟩ <;> rintro rfl <;> exact hw (by have := eq_of_beq h; rw [← this]; rfl)
def okTb (t : Nat) (p : Nat × Nat) : Bool := nIdAt (nOff p.1 p.2) == p && (Nat.blt (nOff p.1 p.2) t && (p.1 != 0 && (p.1 != 1 && p.1 != 70)))
theorem okT_of {t : Nat} {p : Nat × Nat} (h : okTb t p = true) : okT t p := by
  simp only [okTb, Bool.and_eq_true, beq_iff_eq, bne_iff_ne, Nat.blt_eq] at h
  exact ⟨h.1, h.2.1, h.2.2⟩
theorem tg_all : ((List.range 72).all fun n => (List.range 49).all fun j => !rsl (nIdAt n).1 j || okTb (if (nIdAt n).1 < 30 then 53 else 72) (nTg (nIdAt n).1 (nIdAt n).2 j)) = true := by decide +kernel
theorem tg_small (n : Nat) (hn : n < 72) (j : Nat) (hj : j < 49) (hr : rsl (nIdAt n).1 j = true) : okT (if (nIdAt n).1 < 30 then 53 else 72) (nTg (nIdAt n).1 (nIdAt n).2 j) := by
  have h := List.all_eq_true.mp (List.all_eq_true.mp tg_all n (List.mem_range.mpr hn)) j (List.mem_range.mpr hj)
  rw [hr] at h
  exact okT_of h
theorem rsl_lt {k j : Nat} (h : rsl k j = true) : j < 49 := by
  unfold rsl at h
  have ha : nAk k = 3 → nAl k < 49 := by
    intro q
    unfold nAk at q
    split at q <;> first | (exact absurd q (by decide)) | decide
  have hn : nNf (nKc k) < 50 := by
    unfold nKc
    split <;> decide
  simp only [Bool.or_eq_true, Bool.and_eq_true, beq_iff_eq, Nat.blt_eq] at h
  rcases h with ⟨h1, h2⟩ | ⟨h1, h2, h3⟩
  · have := ha h1; omega
  · omega
theorem rsl_small {k : Nat} (h : k = 60) (j : Nat) : rsl k j = false := by
  subst h; rfl
theorem wfA.tg {A : AL} (hA : wfA A) {k i j : Nat} (hv : okT A.2.2.2.1 (k, i)) (hr : rsl k j = true) (ho : nRok A k i j = true) : okT A.2.2.2.1 (nTg k i j) := by
  obtain ⟨h1, h2, h3⟩ := hA
  unfold nRok at ho
  rw [Bool.or_eq_true] at ho
  rcases ho with ho | ho
  · have hn : nOff k i < 72 := by
      rcases Nat.lt_or_ge (nOff k i) 72 with q | q
      · exact q
      · have := hv.1
        dsimp only at this
        rw [idAt_big q] at this
        have h6 : k = 60 := (congrArg Prod.fst this).symm
        rw [rsl_small h6] at hr
        cases hr
    have e1 : (nIdAt (nOff k i)).1 = k := congrArg Prod.fst hv.1
    have e2 : (nIdAt (nOff k i)).2 = i := congrArg Prod.snd hv.1
    have h5 := tg_small (nOff k i) hn j (rsl_lt hr) (by rw [e1]; exact hr)
    rw [e1, e2] at h5
    by_cases hk : k < 30
    · rw [if_pos hk] at ho h5
      exact h5.le (h1 ho)
    · rw [if_neg hk] at ho h5
      exact h5.le (h2 ho)
  · exact (h3 (k, i, j) (by simpa using ho)).2
section
variable (E : EnvT)
theorem wL_len (s : Mem) : (wL E s).length = nT s := by simp [wL]
theorem wL_get (s : Mem) {n : Nat} (h : n < nT s) : (wL E s)[n]? = some (E.1.1 + n, cE E s (nIdAt n).1 (nIdAt n).2) := by
  simp [wL, h]
theorem wL_at (s : Mem) {k i : Nat} (h : okT (nT s) (k, i)) : (wL E s)[nOff k i]? = some (cA E k i, cE E s k i) := by
  rw [wL_get E s h.2.1, h.1]
  have : cA E k i = E.1.1 + nOff k i := by
    unfold cA
    rw [if_neg h.2.2.2.1, if_neg h.2.2.2.2]
  rw [this]
theorem wL_in {s : Mem} {n : Nat} {q : Nat × va_E} (h : (wL E s)[n]? = some q) : n < nT s ∧ q = (E.1.1 + n, cE E s (nIdAt n).1 (nIdAt n).2) := by
  have hn : n < nT s := by
    have := (List.getElem?_eq_some_iff.mp h).1
    rw [wL_len] at this
    exact this
  rw [wL_get E s hn] at h
  exact ⟨hn, (Option.some.inj h).symm⟩
theorem wL_D (s : Mem) : va_D (fun q : Nat => E.1.1 ≤ q) (wL E s) := by
  refine ⟨fun i j p q hi hj hpq => ?_, fun n q hn => ?_⟩
  · obtain ⟨-, rfl⟩ := wL_in E hi
    obtain ⟨-, rfl⟩ := wL_in E hj
    dsimp only at hpq
    omega
  · obtain ⟨-, rfl⟩ := wL_in E hn
    exact Nat.le_add_right _ _
theorem wL_set (s s' : Mem) {k i : Nat} (ht : nT s' = nT s) (h : okT (nT s) (k, i)) (ho : ∀ k2 i2, okT (nT s) (k2, i2) → (k2, i2) ≠ (k, i) → cE E s' k2 i2 = cE E s k2 i2) :
    (wL E s).set (nOff k i) (cA E k i, cE E s' k i) = wL E s' := by
  apply List.ext_getElem?
  intro n
  by_cases hn : n < nT s
  · by_cases e : n = nOff k i
    · subst e
      rw [List.getElem?_set_self (by rw [wL_len]; exact hn), wL_at E s' (by rw [ht]; exact h)]
    · rw [List.getElem?_set_ne (Ne.symm e), wL_get E s hn, wL_get E s' (by rw [ht]; exact hn)]
      rw [ho (nIdAt n).1 (nIdAt n).2 (okT_idAt hn)]
      intro q
      apply e
      have h2 := off_idAt n
      rw [congrArg Prod.fst q, congrArg Prod.snd q] at h2
      exact h2.symm
  · rw [List.getElem?_eq_none (by rw [List.length_set, wL_len]; omega), List.getElem?_eq_none (by rw [wL_len, ht]; omega)]
theorem wL_push (s s' : Mem) (ht : nT s' = nT s + 1) (ho : ∀ k2 i2, okT (nT s) (k2, i2) → cE E s' k2 i2 = cE E s k2 i2) :
    wL E s ++ [(E.1.1 + nT s, cE E s' (nIdAt (nT s)).1 (nIdAt (nT s)).2)] = wL E s' := by
  apply List.ext_getElem?
  intro n
  rcases Nat.lt_trichotomy n (nT s) with hn | hn | hn
  · rw [List.getElem?_append_left (by rw [wL_len]; exact hn), wL_get E s hn, wL_get E s' (by rw [ht]; omega), ho (nIdAt n).1 (nIdAt n).2 (okT_idAt hn)]
  · subst hn
    rw [List.getElem?_append_right (by rw [wL_len]; exact Nat.le_refl _), wL_len, Nat.sub_self, wL_get E s' (by rw [ht]; omega)]
    rfl
  · rw [List.getElem?_eq_none (by rw [List.length_append, wL_len]; simp; omega), List.getElem?_eq_none (by rw [wL_len, ht]; omega)]
/-- the heap holds what the memory says -/
def WD (s : Mem) (H : Heap) : Prop := va_P E.2.2.1 vwCl (wL E s) H ∧ H.size = E.1.1 + nT s ∧ wfA s.2.2
end
