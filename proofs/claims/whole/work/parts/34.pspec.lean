/-! reading a text: what is read, as steps; d calls deep at most -/
abbrev PR : Type := Bool × List Int32 × Nat
def lvT (x : Nat) : Nat := if x = 7 then 0 else if x = 8 then 1 else if x = 42 then 4 else if x = 43 then 3 else if x = 45 then 3 else if x = 60 then 2 else if x = 61 then 2 else 9
def stT (x : Nat) : Int32 := if x = 7 then -9 else if x = 8 then -10 else if x = 43 then -13 else if x = 45 then -14 else if x = 60 then -11 else if x = 61 then -12 else -15
/-- r, with steps ahead of it -/
def pApp (c : List Int32) (r : PR) : PR := (r.1, c ++ r.2.1, r.2.2)
def pThen (r : PR) (f : List Int32 → Nat → PR) : PR := cond r.1 (f r.2.1 r.2.2) (false, [], r.2.2)
def pL (b : Nat → Nat) (n : Nat) (rec : Nat → PR) (lv : Nat) : Nat → List Int32 → Nat → PR
  | 0, c, p => (true, c, p)
  | k + 1, c, p => cond (Nat.beq (lvT (tk b n p)) lv) (pThen (rec (te b n p)) (fun c2 p2 => cond (Nat.beq lv 2) (true, c ++ (c2 ++ [stT (tk b n p)]), p2) (pL b n rec lv k (c ++ (c2 ++ [stT (tk b n p)])) p2))) (true, c, p)
def pP (b : Nat → Nat) (n : Nat) : Nat → Nat → Nat → Nat → PR
  | 0, _, _, p => (false, [], p)
  | d + 1, lv, o, p => cond (Nat.ble 5 lv)
      (if tk b n p = 2 then (true, [nI (tv b n p)], te b n p) else if tk b n p = 3 then (true, [-1 - nI (tv b n p)], te b n p)
        else if tk b n p = 45 then cond (Nat.ble 5 o) (false, [], p) (pThen (pP b n d 5 (o + 1) (te b n p)) (fun c p2 => (true, c ++ [-8], p2)))
        else if tk b n p = 40 then cond (Nat.ble 5 o) (false, [], p) (pThen (pP b n d 0 (o + 1) (te b n p)) (fun c p2 => if tk b n p2 = 41 then (true, c, te b n p2) else (false, [], p2)))
        else (false, [], p))
      (cond (Nat.beq lv 2 && Nat.beq (tk b n p) 9) (cond (Nat.ble 5 o) (false, [], p) (pThen (pP b n d 2 (o + 1) (te b n p)) (fun c p2 => (true, c ++ [-7], p2))))
        (pThen (pP b n d (lv + 1) o p) (fun c p2 => pL b n (pP b n d (lv + 1) o) lv 160 c p2)))
def dN (lv o : Nat) : Nat := 7 * (5 - o) + (6 - lv)
theorem beq_t {a b : Nat} (h : a = b) : Nat.beq a b = true := by subst h; exact Nat.beq_refl a
theorem beq_f {a b : Nat} (h : a ≠ b) : Nat.beq a b = false := by
  rw [Bool.eq_false_iff]; intro q
  exact h (Nat.eq_of_beq_eq_true q)
/-- where a part is read: it goes on, and no token makes more than one step -/
def pGood (b : Nat → Nat) (n p : Nat) (r : PR) : Prop := r.2.2 ≤ n ∧ p ≤ r.2.2 ∧ (r.1 = true → p < r.2.2 ∧ p + r.2.1.length ≤ r.2.2)
theorem pThen_t {r : PR} {f : List Int32 → Nat → PR} (h : r.1 = true) : pThen r f = f r.2.1 r.2.2 := by unfold pThen; rw [h]; rfl
theorem pThen_f {r : PR} {f : List Int32 → Nat → PR} (h : r.1 = false) : pThen r f = (false, [], r.2.2) := by unfold pThen; rw [h]; rfl
theorem te_p {b : Nat → Nat} {n p : Nat} (h : tk b n p ≠ 0) : p < te b n p := Nat.lt_of_le_of_lt (tq_ge b n p) (te_gt (tk_end h))
theorem lvT_0 {x lv : Nat} (h : lvT x = lv) (hl : lv < 5) : x ≠ 0 := fun q => by
  subst q
  have h : 9 = lv := h
  omega
theorem pL_good {b : Nat → Nat} {n : Nat} {rec : Nat → PR} {lv : Nat} (hlv : lv < 5) (hr : ∀ p, p ≤ n → pGood b n p (rec p)) : ∀ k c p p0, p ≤ n → p0 < p → p0 + c.length ≤ p → pGood b n p0 (pL b n rec lv k c p)
  | 0, c, p, p0, h, h1, h2 => ⟨h, by show p0 ≤ p; omega, fun _ => ⟨h1, h2⟩⟩
  | k + 1, c, p, p0, h, h1, h2 => by
    unfold pL
    by_cases hl : lvT (tk b n p) = lv
    · rw [beq_t hl, cond_true]
      have hp := te_p (lvT_0 hl hlv)
      obtain ⟨a1, a2, a3⟩ := hr (te b n p) (te_le h)
      cases hok : (rec (te b n p)).1
      · rw [pThen_f hok]
        exact ⟨a1, by show p0 ≤ (rec (te b n p)).2.2; omega, fun q => by cases q⟩
      · rw [pThen_t hok]
        obtain ⟨a4, a5⟩ := a3 hok
        have hlen : (c ++ ((rec (te b n p)).2.1 ++ [stT (tk b n p)])).length = c.length + ((rec (te b n p)).2.1.length + 1) := by simp
        cases Nat.beq lv 2
        · exact pL_good hlv hr k _ _ p0 a1 (by omega) (by rw [hlen]; omega)
        · show pGood b n p0 (true, c ++ ((rec (te b n p)).2.1 ++ [stT (tk b n p)]), (rec (te b n p)).2.2)
          exact ⟨a1, by show p0 ≤ (rec (te b n p)).2.2; omega, fun _ => ⟨by show p0 < (rec (te b n p)).2.2; omega, by show p0 + (c ++ ((rec (te b n p)).2.1 ++ [stT (tk b n p)])).length ≤ (rec (te b n p)).2.2; rw [hlen]; omega⟩⟩
    · rw [beq_f hl, cond_false]
      exact ⟨h, by show p0 ≤ p; omega, fun _ => ⟨h1, h2⟩⟩
theorem good_f {b : Nat → Nat} {n p p0 : Nat} (h : p ≤ n) (h2 : p0 ≤ p) : pGood b n p0 (false, [], p) := ⟨h, h2, fun q => by cases q⟩
theorem good_then {b : Nat → Nat} {n p0 p1 : Nat} {r : PR} {f : List Int32 → Nat → PR} (h : pGood b n p1 r) (h2 : p0 ≤ p1) (hf : r.1 = true → pGood b n p0 (f r.2.1 r.2.2)) : pGood b n p0 (pThen r f) := by
  cases hok : r.1
  · rw [pThen_f hok]; exact good_f h.1 (Nat.le_trans h2 h.2.1)
  · rw [pThen_t hok]; exact hf hok
theorem pP_good (b : Nat → Nat) (n : Nat) : ∀ d lv o p, p ≤ n → pGood b n p (pP b n d lv o p)
  | 0, _, _, p, h => good_f h (Nat.le_refl _)
  | d + 1, lv, o, p, h => by
    unfold pP
    cases hlv : Nat.ble 5 lv
    · rw [cond_false]
      have hlv2 : lv < 5 := by
        rcases Nat.lt_or_ge lv 5 with q | q
        · exact q
        · rw [ble_t q] at hlv; cases hlv
      cases hno : (Nat.beq lv 2 && Nat.beq (tk b n p) 9)
      · rw [cond_false]
        have hr : ∀ p, p ≤ n → pGood b n p (pP b n d (lv + 1) o p) := fun p hp => pP_good b n d (lv + 1) o p hp
        refine good_then (hr p h) (Nat.le_refl _) (fun hok => ?_)
        have h3 := (hr p h).2.2 hok
        exact pL_good hlv2 hr 160 _ _ p (hr p h).1 h3.1 h3.2
      · rw [cond_true]
        rw [Bool.and_eq_true] at hno
        have h9 : tk b n p = 9 := Nat.eq_of_beq_eq_true hno.2
        have hp := te_p (b := b) (n := n) (p := p) (by omega)
        cases Nat.ble 5 o
        · rw [cond_false]
          have hr := pP_good b n d 2 (o + 1) (te b n p) (te_le h)
          refine good_then hr (Nat.le_of_lt hp) (fun hok => ⟨hr.1, ?_, fun _ => ⟨?_, ?_⟩⟩)
          · have := hr.2.1; show p ≤ (pP b n d 2 (o + 1) (te b n p)).2.2; omega
          · have := hr.2.1; show p < (pP b n d 2 (o + 1) (te b n p)).2.2; omega
          · have := (hr.2.2 hok).2
            show p + (_ ++ [_]).length ≤ (pP b n d 2 (o + 1) (te b n p)).2.2
            rw [List.length_append, List.length_singleton]; omega
        · exact good_f h (Nat.le_refl _)
    · rw [cond_true]
      by_cases c2 : tk b n p = 2
      · rw [if_pos c2]
        have hp := te_p (b := b) (n := n) (p := p) (by omega)
        exact ⟨te_le h, Nat.le_of_lt hp, fun _ => ⟨hp, hp⟩⟩
      rw [if_neg c2]
      by_cases c3 : tk b n p = 3
      · rw [if_pos c3]
        have hp := te_p (b := b) (n := n) (p := p) (by omega)
        exact ⟨te_le h, Nat.le_of_lt hp, fun _ => ⟨hp, hp⟩⟩
      rw [if_neg c3]
      by_cases c4 : tk b n p = 45
      · rw [if_pos c4]
        have hp := te_p (b := b) (n := n) (p := p) (by omega)
        cases Nat.ble 5 o
        · rw [cond_false]
          have hr := pP_good b n d 5 (o + 1) (te b n p) (te_le h)
          refine good_then hr (Nat.le_of_lt hp) (fun hok => ⟨hr.1, ?_, fun _ => ⟨?_, ?_⟩⟩)
          · have := hr.2.1; show p ≤ (pP b n d 5 (o + 1) (te b n p)).2.2; omega
          · have := hr.2.1; show p < (pP b n d 5 (o + 1) (te b n p)).2.2; omega
          · have := (hr.2.2 hok).2
            show p + (_ ++ [_]).length ≤ (pP b n d 5 (o + 1) (te b n p)).2.2
            rw [List.length_append, List.length_singleton]; omega
        · exact good_f h (Nat.le_refl _)
      rw [if_neg c4]
      by_cases c5 : tk b n p = 40
      · rw [if_pos c5]
        have hp := te_p (b := b) (n := n) (p := p) (by omega)
        cases Nat.ble 5 o
        · rw [cond_false]
          have hr := pP_good b n d 0 (o + 1) (te b n p) (te_le h)
          refine good_then hr (Nat.le_of_lt hp) (fun hok => ?_)
          have h3 := hr.2.1
          have h4 := (hr.2.2 hok).2
          by_cases c6 : tk b n (pP b n d 0 (o + 1) (te b n p)).2.2 = 41
          · rw [if_pos c6]
            have hp2 := te_p (b := b) (n := n) (p := (pP b n d 0 (o + 1) (te b n p)).2.2) (by omega)
            refine ⟨te_le hr.1, ?_, fun _ => ⟨?_, ?_⟩⟩
            · show p ≤ te b n (pP b n d 0 (o + 1) (te b n p)).2.2; omega
            · show p < te b n (pP b n d 0 (o + 1) (te b n p)).2.2; omega
            · show p + (pP b n d 0 (o + 1) (te b n p)).2.1.length ≤ te b n (pP b n d 0 (o + 1) (te b n p)).2.2; omega
          · rw [if_neg c6]
            exact good_f hr.1 (by omega)
        · exact good_f h (Nat.le_refl _)
      rw [if_neg c5]
      exact good_f h (Nat.le_refl _)
