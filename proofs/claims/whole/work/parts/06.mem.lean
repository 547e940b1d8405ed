/-! memory changes and the heap's list of cells -/
theorem ft2 {k j : Nat} (hj : j < nNf (nKc k)) (h : nFt (nKc k) j = 2) : k = 30 := by
  unfold nKc at hj h
  split at hj
  all_goals first
    | rfl
    | (exfalso; revert h; revert hj; revert j; decide)
    | (exact absurd hj (Nat.not_lt_zero _))
theorem kc_ak {k : Nat} (h : nKc k ≠ 0) : nAk k = 0 := by
  unfold nKc at h
  split at h
  all_goals first | rfl | exact absurd rfl h
theorem ak_kc {k : Nat} (h : nAk k ≠ 0) : nKc k = 0 := by
  rcases Nat.eq_zero_or_pos (nKc k) with q | q
  · exact q
  · exact absurd (kc_ak (by omega)) h
theorem map_set {N j : Nat} {f g : Nat → Value} {v : Value} (h1 : g j = v) (h2 : ∀ x, x < N → x ≠ j → g x = f x) : ((List.range N).map f).set j v = (List.range N).map g := by
  apply List.ext_getElem?
  intro n
  by_cases hn : n < N
  · by_cases e : n = j
    · subst e
      rw [List.getElem?_set_self (by simpa using hn)]
      simp [hn, h1]
    · rw [List.getElem?_set_ne (Ne.symm e)]
      simp [hn, h2 n hn e]
  · rw [List.getElem?_eq_none (by simp; omega), List.getElem?_eq_none (by simp; omega)]
section
variable (E : EnvT)
theorem cE_ext {s s' : Mem} {k i : Nat} (h1 : ∀ j, s'.1 k i j = s.1 k i j) (h2 : k = 30 → s'.2.1 = s.2.1) (h3 : ∀ j, rsl k j = true → nRok s'.2.2 k i j = nRok s.2.2 k i j) : cE E s' k i = cE E s k i := by
  unfold cE
  have e1 : s'.1 k i = s.1 k i := funext h1
  split
  · congr 2
    apply List.map_congr_left
    intro j hj
    have hj := List.mem_range.mp hj
    unfold fV
    split
    · rename_i h
      rw [h2 (ft2 hj h)]
    · rename_i h
      rw [h3 j (by
        have hc : nKc k ≠ 0 := by intro q; rw [q] at hj; exact absurd hj (Nat.not_lt_zero _)
        unfold rsl
        simp [hc, h, hj])]
    · rw [h1]
  · rename_i h
    have e2 : rV E s' k i = rV E s k i := by
      funext j
      unfold rV
      by_cases hj : j < nAl k
      · rw [h3 j (by unfold rsl; simp [h, hj])]
      · have hb : Nat.blt j (nAl k) = false := by rw [Bool.eq_false_iff]; intro q; exact hj (Nat.blt_eq.mp q)
        rw [hb]; rfl
    rw [e2]
  · rw [e1]
  · rw [e1]
theorem WD.put {s s' : Mem} {k i : Nat} {H H1 : Heap} (hW : WD E s H) (hv : okT (nT s) (k, i)) (ht : nT s' = nT s) (ho : ∀ k2 i2, okT (nT s) (k2, i2) → (k2, i2) ≠ (k, i) → cE E s' k2 i2 = cE E s k2 i2) (hA : wfA s'.2.2)
    (hP : va_P E.2.2.1 vwCl ((wL E s).set (nOff k i) (cA E k i, cE E s' k i)) H1) (hz : H1.size ≤ H.size) : WD E s' H1 := by
  rw [wL_set E s s' ht hv ho] at hP
  refine ⟨hP, ?_, hA⟩
  have h1 := (hP (nOff k i) _ (wL_at E s' (by rw [ht]; exact hv))).lt
  have hpos : 0 < nT s := Nat.lt_of_le_of_lt (Nat.zero_le _) hv.2.1
  have h2 := (hP (nT s - 1) _ (wL_get E s' (n := nT s - 1) (by rw [ht]; omega))).lt
  dsimp only at h2
  have h3 := hW.2.1
  rw [ht]
  omega
theorem WD.new {s s' : Mem} {H H1 : Heap} {q : Nat} {x : va_E} (hW : WD E s H) (ht : nT s' = nT s + 1) (ho : ∀ k2 i2, okT (nT s) (k2, i2) → cE E s' k2 i2 = cE E s k2 i2) (hA : wfA s'.2.2) (hx : x = cE E s' (nIdAt (nT s)).1 (nIdAt (nT s)).2)
    (hP : va_P E.2.2.1 vwCl (wL E s ++ [(q, x)]) H1) (hD : va_D (fun q : Nat => E.1.1 ≤ q) (wL E s ++ [(q, x)])) (hz : H1.size ≤ H.size + 1) : WD E s' H1 ∧ q = cA E (nIdAt (nT s)).1 (nIdAt (nT s)).2 := by
  have e0 : (wL E s ++ [(q, x)])[nT s]? = some (q, x) := by
    rw [List.getElem?_append_right (by rw [wL_len]; exact Nat.le_refl _), wL_len, Nat.sub_self]
    rfl
  have hl := (hP (nT s) _ e0).lt
  have hb := hD.2 (nT s) _ e0
  dsimp only at hl hb
  have h3 := hW.2.1
  have hq : q = E.1.1 + nT s := by
    rcases Nat.lt_or_ge q (E.1.1 + nT s) with hc | hc
    · exfalso
      have hn : q - E.1.1 < nT s := by omega
      have e1 : (wL E s ++ [(q, x)])[q - E.1.1]? = some (E.1.1 + (q - E.1.1), cE E s (nIdAt (q - E.1.1)).1 (nIdAt (q - E.1.1)).2) := by
        rw [List.getElem?_append_left (by rw [wL_len]; exact hn), wL_get E s hn]
      have := hD.1 _ _ _ _ e1 e0 (by dsimp only; omega)
      omega
    · omega
  subst hx
  subst hq
  rw [wL_push E s s' ht ho] at hP
  refine ⟨⟨hP, by omega, hA⟩, ?_⟩
  unfold cA
  have hne := idAt_ne (nT s)
  rw [if_neg hne.2.1, if_neg hne.2.2, off_idAt]
end
theorem wfA.congr {A B : AL} (h : wfA A) (hA : B = A) : wfA B := hA ▸ h
/-- a reference is set -/
theorem rset_t (A : AL) (k i j : Nat) : (nRset A k i j).2.2.2 = A.2.2.2 := by
  unfold nRset
  dsimp only
  cases nAllC.all ((k, i, j) :: A.2.2.1).contains <;> cases nAllM.all ((k, i, j) :: A.2.2.1).contains <;> rfl
def okTl (t : Nat) (l : List (Nat × Nat × Nat)) : Prop := ∀ q ∈ l, okT t (q.1, q.2.1) ∧ okT t (nTg q.1 q.2.1 q.2.2)
theorem okTl.filter {t : Nat} {l : List (Nat × Nat × Nat)} (h : okTl t l) (p : Nat × Nat × Nat → Bool) : okTl t (l.filter p) := fun q hq => h q (List.mem_filter.mp hq).1
theorem rset_wf {A : AL} (hA : wfA A) {k i j : Nat} (h1 : okT A.2.2.2.1 (k, i)) (h2 : okT A.2.2.2.1 (nTg k i j)) : wfA (nRset A k i j) := by
  have hl : okTl A.2.2.2.1 ((k, i, j) :: A.2.2.1) := by
    intro q hq
    rcases List.mem_cons.mp hq with rfl | hq
    · exact ⟨h1, h2⟩
    · exact hA.2.2 q hq
  unfold nRset
  dsimp only
  cases hc : nAllC.all ((k, i, j) :: A.2.2.1).contains
  · cases hm : nAllM.all ((k, i, j) :: A.2.2.1).contains
    · exact ⟨hA.1, hA.2.1, hl⟩
    · simp only [cond_true, cond_false]
      refine ⟨hA.1, fun _ => ?_, fun q hq => hl q (List.mem_filter.mp hq).1⟩
      have h3 := List.all_eq_true.mp hm (30, 0, 48) (by decide)
      have h4 := (hl (30, 0, 48) (by simpa using h3)).2.2.1
      exact h4
  · simp only [cond_true]
    refine ⟨fun _ => ?_, hA.2.1, fun q hq => hl q (List.mem_filter.mp hq).1⟩
    have h3 := List.all_eq_true.mp hc (18, 3, 2) (by decide)
    have h4 := (hl (18, 3, 2) (by simpa using h3)).2.2.1
    exact h4
theorem allC_has : ((List.range 72).all fun n => (List.range 49).all fun j => !(rsl (nIdAt n).1 j && Nat.blt (nIdAt n).1 30) || nAllC.contains ((nIdAt n).1, (nIdAt n).2, j)) = true := by decide +kernel
theorem allM_has : ((List.range 72).all fun n => (List.range 49).all fun j => !(rsl (nIdAt n).1 j && Nat.ble 30 (nIdAt n).1) || nAllM.contains ((nIdAt n).1, (nIdAt n).2, j)) = true := by decide +kernel
theorem rsl_small2 {t k i j : Nat} (hv : okT t (k, i)) (hr : rsl k j = true) : nOff k i < 72 := by
  rcases Nat.lt_or_ge (nOff k i) 72 with q | q
  · exact q
  · have := hv.1
    dsimp only at this
    rw [idAt_big q] at this
    have h6 : k = 60 := (congrArg Prod.fst this).symm
    rw [rsl_small h6] at hr
    cases hr
theorem inC {t k i j : Nat} (hv : okT t (k, i)) (hr : rsl k j = true) (hk : k < 30) : (k, i, j) ∈ nAllC := by
  have hn := rsl_small2 hv hr
  have h := List.all_eq_true.mp (List.all_eq_true.mp allC_has (nOff k i) (List.mem_range.mpr hn)) j (List.mem_range.mpr (rsl_lt hr))
  have e1 : (nIdAt (nOff k i)).1 = k := congrArg Prod.fst hv.1
  have e2 : (nIdAt (nOff k i)).2 = i := congrArg Prod.snd hv.1
  rw [e1, e2, hr, Nat.blt_eq.mpr hk] at h
  simpa using h
theorem inM {t k i j : Nat} (hv : okT t (k, i)) (hr : rsl k j = true) (hk : 30 ≤ k) : (k, i, j) ∈ nAllM := by
  have hn := rsl_small2 hv hr
  have h := List.all_eq_true.mp (List.all_eq_true.mp allM_has (nOff k i) (List.mem_range.mpr hn)) j (List.mem_range.mpr (rsl_lt hr))
  have e1 : (nIdAt (nOff k i)).1 = k := congrArg Prod.fst hv.1
  have e2 : (nIdAt (nOff k i)).2 = i := congrArg Prod.snd hv.1
  rw [e1, e2, hr, Nat.ble_eq.mpr hk] at h
  simpa using h
theorem rok_iff (A : AL) (k i j : Nat) : nRok A k i j = true ↔ (if k < 30 then A.1 else A.2.1) = true ∨ (k, i, j) ∈ A.2.2.1 := by
  unfold nRok
  rw [Bool.or_eq_true, List.contains_iff_mem]
theorem rset_rok {A : AL} {k i j t k2 i2 j2 : Nat} (hv : okT t (k2, i2)) (hr : rsl k2 j2 = true) : nRok (nRset A k i j) k2 i2 j2 = true ↔ (k2, i2, j2) = (k, i, j) ∨ nRok A k2 i2 j2 = true := by
  rw [rok_iff, rok_iff]
  unfold nRset
  dsimp only
  cases hc : nAllC.all ((k, i, j) :: A.2.2.1).contains
  · cases hm : nAllM.all ((k, i, j) :: A.2.2.1).contains
    · simp only [cond_false, List.mem_cons]
      constructor
      · rintro (h | h | h)
        · exact Or.inr (Or.inl h)
        · exact Or.inl h
        · exact Or.inr (Or.inr h)
      · rintro (h | h | h)
        · exact Or.inr (Or.inl h)
        · exact Or.inl h
        · exact Or.inr (Or.inr h)
    · simp only [cond_false, cond_true]
      by_cases hk : k2 < 30
      · rw [if_pos hk, if_pos hk, List.mem_filter, List.mem_cons, Nat.blt_eq]
        constructor
        · rintro (h | ⟨h | h, -⟩)
          · exact Or.inr (Or.inl h)
          · exact Or.inl h
          · exact Or.inr (Or.inr h)
        · rintro (h | h | h)
          · exact Or.inr ⟨Or.inl h, hk⟩
          · exact Or.inl h
          · exact Or.inr ⟨Or.inr h, hk⟩
      · rw [if_neg hk, if_neg hk]
        have h3 := List.all_eq_true.mp hm _ (inM hv hr (by omega))
        rw [List.contains_iff_mem, List.mem_cons] at h3
        constructor
        · intro _
          rcases h3 with h | h
          · exact Or.inl h
          · exact Or.inr (Or.inr h)
        · intro _
          exact Or.inl rfl
  · simp only [cond_true]
    by_cases hk : k2 < 30
    · rw [if_pos hk, if_pos hk]
      have h3 := List.all_eq_true.mp hc _ (inC hv hr hk)
      rw [List.contains_iff_mem, List.mem_cons] at h3
      constructor
      · intro _
        rcases h3 with h | h
        · exact Or.inl h
        · exact Or.inr (Or.inr h)
      · intro _
        exact Or.inl rfl
    · rw [if_neg hk, if_neg hk, List.mem_filter, List.mem_cons, Nat.ble_eq]
      constructor
      · rintro (h | ⟨h | h, -⟩)
        · exact Or.inr (Or.inl h)
        · exact Or.inl h
        · exact Or.inr (Or.inr h)
      · rintro (h | h | h)
        · exact Or.inr ⟨Or.inl h, by omega⟩
        · exact Or.inl h
        · exact Or.inr ⟨Or.inr h, by omega⟩
theorem rset_rok_eq {A : AL} {k i j t k2 i2 j2 : Nat} (hv : okT t (k2, i2)) (hr : rsl k2 j2 = true) (hn : (k2, i2, j2) ≠ (k, i, j)) : nRok (nRset A k i j) k2 i2 j2 = nRok A k2 i2 j2 := by
  have h := rset_rok (A := A) (k := k) (i := i) (j := j) hv hr
  cases h1 : nRok A k2 i2 j2
  · cases h2 : nRok (nRset A k i j) k2 i2 j2
    · rfl
    · rcases h.mp h2 with q | q
      · exact absurd q hn
      · rw [h1] at q; cases q
  · exact h.mpr (Or.inr h1)
/-- a cell that is new has no reference set -/
theorem new_rok {A : AL} (hA : wfA A) {j : Nat} (hr : rsl (nIdAt A.2.2.2.1).1 j = true) : nRok A (nIdAt A.2.2.2.1).1 (nIdAt A.2.2.2.1).2 j = false := by
  cases h : nRok A (nIdAt A.2.2.2.1).1 (nIdAt A.2.2.2.1).2 j
  · rfl
  · exfalso
    rw [rok_iff] at h
    have hv : okT (A.2.2.2.1 + 1) ((nIdAt A.2.2.2.1).1, (nIdAt A.2.2.2.1).2) := okT_idAt (Nat.lt_succ_self _)
    have hn := rsl_small2 hv hr
    rw [off_idAt] at hn
    rcases h with h | h
    · have key : ∀ n, n < 72 → ((nIdAt n).1 < 30 ↔ n < 53) := by decide +kernel
      by_cases hk : (nIdAt A.2.2.2.1).1 < 30
      · rw [if_pos hk] at h
        have h1 := hA.1 h
        have h2 := (key _ hn).mp hk
        omega
      · rw [if_neg hk] at h
        have h1 := hA.2.1 h
        omega
    · have h1 := (hA.2.2 _ h).1.2.1
      dsimp only at h1
      rw [off_idAt] at h1
      omega
theorem wfA.up {A : AL} (hA : wfA A) (u : Nat) : wfA (A.1, A.2.1, A.2.2.1, A.2.2.2.1 + 1, u) := by
  refine ⟨fun h => Nat.le_succ_of_le (hA.1 h), fun h => Nat.le_succ_of_le (hA.2.1 h), fun q hq => ?_⟩
  exact ⟨(hA.2.2 q hq).1.le (Nat.le_succ _), (hA.2.2 q hq).2.le (Nat.le_succ _)⟩
