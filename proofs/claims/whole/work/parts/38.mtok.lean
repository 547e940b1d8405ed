/-! the model's tokens -/
def RdM (M : MM) (b : Nat → Nat) (n f : Nat) : Prop := M 30 0 19 = nI f ∧ M 30 0 20 = nI n ∧ n ≤ 160 ∧ f + 160 ≤ 960 ∧ (∀ j, j < n → M 31 0 (f + j) = nI (b j)) ∧ ∀ j, b j < 256
def frM (M M' : MM) : Prop := ∀ k i j, ¬ (k = 30 ∧ 21 ≤ j ∧ j ≤ 23) → M' k i j = M k i j
theorem frM.refl (M : MM) : frM M M := fun _ _ _ _ => rfl
theorem frM.trans {M M' M2 : MM} (h : frM M M') (h2 : frM M' M2) : frM M M2 := fun k i j q => (h2 k i j q).trans (h k i j q)
theorem frM.st {M M' : MM} (h : frM M M') {j : Nat} (hj : 21 ≤ j ∧ j ≤ 23) (v : Int32) : frM M (nSt M' 30 0 j v) := fun k i c q => (nst_fr (fun z => q ⟨z.1, by omega⟩)).trans (h k i c q)
theorem RdM.fr {M M' : MM} {b : Nat → Nat} {n f : Nat} (h : RdM M b n f) (hf : frM M M') : RdM M' b n f := ⟨(hf 30 0 19 (by omega)).trans h.1, (hf 30 0 20 (by omega)).trans h.2.1, h.2.2.1, h.2.2.2.1, fun j hj => (hf 31 0 (f + j) (by omega)).trans (h.2.2.2.2.1 j hj), h.2.2.2.2.2⟩
def bA (b : Nat → Nat) (n p : Nat) : Int32 := if p < n then nI (b p) else -1
theorem inB {b : Nat → Nat} (hb : ∀ j, b j < 256) (n p : Nat) {lo hi : Nat} {x y : Int64} (hx : x.toInt = lo) (hy : y.toInt = hi) (h0 : 0 < lo) : decide (x ≤ (bA b n p).toInt64 ∧ (bA b n p).toInt64 ≤ y) = (Nat.blt p n && (Nat.ble lo (b p) && Nat.ble (b p) hi)) := by
  have hbp := hb p
  unfold bA
  rcases Nat.lt_or_ge p n with q | q
  · rw [if_pos q, blt_t q, Bool.true_and]
    simp only [Int64.le_iff_toInt_le, Int32.toInt_toInt64, nI_toInt (show b p < 2 ^ 31 by omega), hx, hy]
    rcases Nat.lt_or_ge (b p) lo with z | z
    · rw [ble_f z, decide_eq_false (by omega)]; rfl
    · rw [ble_t z]
      rcases Nat.lt_or_ge hi (b p) with y2 | y2
      · rw [ble_f y2, decide_eq_false (by omega)]; rfl
      · rw [ble_t y2, decide_eq_true (by omega)]; rfl
  · rw [if_neg (by omega), blt_f q, Bool.false_and]
    simp only [Int64.le_iff_toInt_le, Int32.toInt_toInt64, hx, hy]
    have : (-1 : Int32).toInt = -1 := rfl
    exact decide_eq_false (by omega)
def kM (b : Nat → Nat) (n p : Nat) : Nat := cond (Nat.ble n (tq b n p)) 0 (cond (isLe (b (tq b n p))) 1 (cond (isDi (b (tq b n p))) (if te b n p - tq b n p ≤ 4 then 2 else 4) (cond (isSg (b (tq b n p))) 3 4)))
def TokM (M : MM) (w : Int64) (b : Nat → Nat) (n p : Nat) : Prop := M 30 0 23 = nI (tq b n p) ∧ M 30 0 22 = nI (kM b n p) ∧ (kM b n p ≠ 4 → M 30 0 21 = nI (te b n p)) ∧ (kM b n p = 2 → w = lN (tv b n p)) ∧ (kM b n p = 3 → w = lN (b (tq b n p)))
section
variable (X : Nat × (Nat → Int32))
theorem sX7_byteAt (d : Nat) (w : Int64) (l : List (Nat × Nat × Nat)) (t u : Nat) {M : MM} {b : Nat → Nat} {n f p : Nat} (h : RdM M b n f) (hp : p < 2 ^ 30) : callN X (d + 1) 128 [vR 30 0, vI (nI p)] (M, w, true, true, l, t, u) = some (some (vI (bA b n p)), (M, w, true, true, l, t, u)) := by
  obtain ⟨h1, h2, h3, h4, h5, h6⟩ := h
  unfold bA
  rw [aX7_byteAt, h1, h2]
  by_cases c : p < n
  · rw [if_neg (nI_ge c (by omega)), nI_add, in_nI (by omega) (by omega), cond_true, nI_clamp (by omega), h5 p c, if_pos c]
  · rw [if_pos (nI_le (by omega) (by omega)), if_neg c]
theorem ba_sp {b : Nat → Nat} (hb : ∀ j, b j < 256) {n p x : Nat} (hx : x < 256) : bA b n p = nI x ↔ p < n ∧ b p = x := by
  unfold bA
  have := hb p
  by_cases c : p < n
  · rw [if_pos c]
    refine ⟨fun q => ⟨c, (nI_eq (by omega) (by omega)).mp q⟩, fun q => by rw [q.2]⟩
  · rw [if_neg c]
    refine ⟨fun q => ?_, fun q => absurd q.1 c⟩
    exfalso
    have h2 := congrArg Int32.toInt q
    rw [nI_toInt (by omega)] at h2
    have : (-1 : Int32).toInt = -1 := rfl
    omega
/-- the blanks -/
theorem mnext_sp (d : Nat) (l : List (Nat × Nat × Nat)) (t u : Nat) {M : MM} {b : Nat → Nat} {n f p : Nat} (w : Int64) (h : RdM M b n f) (hp : p ≤ n) (h21 : M 30 0 21 = nI p) :
    ∃ M', nR X (callN X (d + 1)) hX7_next 0 [vR 30 0, vX, vX] [] (M, w, true, true, l, t, u) = nR X (callN X (d + 1)) hX7_next 55 [vR 30 0, vX, vX] [vI (bA b n (tq b n p))] (M', w, true, true, l, t, u) ∧ frM M M' ∧ M' 30 0 21 = nI (tq b n p) ∧ M' 30 0 23 = nI (tq b n p) := by
  have hn := h.2.2.1
  have key : ∀ p, p ≤ n → ∀ M2 : MM, frM M M2 → M2 30 0 21 = nI p → ∃ M', nR X (callN X (d + 1)) hX7_next 0 [vR 30 0, vX, vX] [] (M2, w, true, true, l, t, u) = nR X (callN X (d + 1)) hX7_next 55 [vR 30 0, vX, vX] [vI (bA b n (tq b n p))] (M', w, true, true, l, t, u) ∧ frM M M' ∧ M' 30 0 21 = nI (tq b n p) ∧ M' 30 0 23 = nI (tq b n p) := by
    intro p
    refine sk_ind (P := isSp) (b := b) (n := n) (C := fun p => p ≤ n → ∀ M2 : MM, frM M M2 → M2 30 0 21 = nI p → ∃ M', nR X (callN X (d + 1)) hX7_next 0 [vR 30 0, vX, vX] [] (M2, w, true, true, l, t, u) = nR X (callN X (d + 1)) hX7_next 55 [vR 30 0, vX, vX] [vI (bA b n (tq b n p))] (M', w, true, true, l, t, u) ∧ frM M M' ∧ M' 30 0 21 = nI (tq b n p) ∧ M' 30 0 23 = nI (tq b n p)) ?_ ?_ p
    · intro p hs hp M2 hf e
      have h2 := h.fr hf
      have hq : tq b n p = p := sk_stop hs
      rw [hq]
      have hno : ∀ x : Nat, x = 32 ∨ x = 10 → ¬ (p < n ∧ b p = x) := by
        intro x hx q
        rw [blt_t q.1, Bool.true_and] at hs
        unfold isSp at hs
        rw [Bool.or_eq_false_iff, beq_eq_false_iff_ne, beq_eq_false_iff_ne] at hs
        rcases hx with rfl | rfl
        · exact hs.1 q.2
        · exact hs.2 q.2
      have hf2 : frM M (nSt M2 30 0 23 (nI p)) := hf.st (by omega) _
      refine ⟨nSt M2 30 0 23 (nI p), ?_, hf2, (nst_j (by omega)).trans e, nst_self _ _ _ _ _⟩
      rw [bX7_next_0, e, sX7_byteAt X d w l t u h2 (by omega), bnd_s, tl_s, bX7_next_8, show (32 : Int32) = nI 32 from rfl, if_neg (fun q => hno 32 (Or.inl rfl) ((ba_sp h.2.2.2.2.2 (by omega)).mp q)), e, sX7_byteAt X d w l t u h2 (by omega), bnd_s, tl_s, bX7_next_21, show (10 : Int32) = nI 10 from rfl, if_neg (fun q => hno 10 (Or.inr rfl) ((ba_sp h.2.2.2.2.2 (by omega)).mp q)), e, nst_j (by omega), e, sX7_byteAt X d w l t u (h.fr hf2) (by omega), bnd_s, tl_s]
    · intro p hp hs ih _ M2 hf e
      have h2 := h.fr hf
      obtain ⟨M', e1, e2, e3, e4⟩ := ih (by omega) (nSt M2 30 0 21 (nI (p + 1))) (hf.st (by omega) _) (nst_self _ _ _ _ _)
      have hq : tq b n p = tq b n (p + 1) := sk_step hs
      rw [hq]
      refine ⟨M', ?_, e2, e3, e4⟩
      rw [Bool.and_eq_true] at hs
      have hs2 : (b p == 32 || b p == 10) = true := hs.2
      rw [Bool.or_eq_true, beq_iff_eq, beq_iff_eq] at hs2
      rw [← e1, bX7_next_0, e, sX7_byteAt X d w l t u h2 (by omega), bnd_s, tl_s, bX7_next_8, show (32 : Int32) = nI 32 from rfl, e, show nI p + (1 : Int32) = nI (p + 1) from nI_add p 1]
      by_cases c : b p = 32
      · rw [if_pos ((ba_sp h.2.2.2.2.2 (by omega)).mpr ⟨hp, c⟩)]
      · rw [if_neg (fun q => c ((ba_sp h.2.2.2.2.2 (by omega)).mp q).2), sX7_byteAt X d w l t u h2 (by omega), bnd_s, tl_s, bX7_next_21, show (10 : Int32) = nI 10 from rfl, e, show nI p + (1 : Int32) = nI (p + 1) from nI_add p 1, if_pos ((ba_sp h.2.2.2.2.2 (by omega)).mpr ⟨hp, hs2.resolve_left c⟩)]
  exact key p hp M (frM.refl M) h21
theorem mnext_word (d : Nat) (l : List (Nat × Nat × Nat)) (t u : Nat) {M : MM} {b : Nat → Nat} {n f q : Nat} (w : Int64) (x1 : Int32) (h : RdM M b n f) (hq : q ≤ n) (h21 : M 30 0 21 = nI q) :
    ∃ M', nR X (callN X (d + 1)) hX7_next 100 [vR 30 0, vI x1, vX] [] (M, w, true, true, l, t, u) = some (none, (M', w, true, true, l, t, u)) ∧ M' = nSt M 30 0 21 (nI (sk isLe b n q)) := by
  have hn := h.2.2.1
  have key : ∀ p, p ≤ n → ∀ M2 : MM, M2 = nSt M 30 0 21 (nI p) → nR X (callN X (d + 1)) hX7_next 100 [vR 30 0, vI x1, vX] [] (M2, w, true, true, l, t, u) = some (none, (nSt M 30 0 21 (nI (sk isLe b n p)), w, true, true, l, t, u)) := by
    intro p
    refine sk_ind (P := isLe) (b := b) (n := n) (C := fun p => p ≤ n → ∀ M2 : MM, M2 = nSt M 30 0 21 (nI p) → nR X (callN X (d + 1)) hX7_next 100 [vR 30 0, vI x1, vX] [] (M2, w, true, true, l, t, u) = some (none, (nSt M 30 0 21 (nI (sk isLe b n p)), w, true, true, l, t, u))) ?_ ?_ p
    · intro p hs hp M2 e
      have h2 : RdM M2 b n f := by rw [e]; exact h.fr ((frM.refl M).st (by omega) _)
      have e21 : M2 30 0 21 = nI p := by rw [e]; exact nst_self _ _ _ _ _
      rw [bX7_next_100, e21, sX7_byteAt X d w l t u h2 (by omega), bnd_s, tl_s, bX7_next_108, sX7_in, bnd_s, tl_s, inB h.2.2.2.2.2 n p (lo := 97) (hi := 122) rfl rfl (by omega)]
      have hs2 : (Nat.blt p n && (Nat.ble 97 (b p) && Nat.ble (b p) 122)) = false := hs
      rw [hs2]
      show nR X (callN X (d + 1)) hX7_next 118 [vR 30 0, vI x1, vX] [vI 0] _ = _
      rw [bX7_next_118, if_pos rfl, sk_stop hs, e]
    · intro p hp hs ih _ M2 e
      have h2 : RdM M2 b n f := by rw [e]; exact h.fr ((frM.refl M).st (by omega) _)
      have e21 : M2 30 0 21 = nI p := by rw [e]; exact nst_self _ _ _ _ _
      rw [bX7_next_100, e21, sX7_byteAt X d w l t u h2 (by omega), bnd_s, tl_s, bX7_next_108, sX7_in, bnd_s, tl_s, inB h.2.2.2.2.2 n p (lo := 97) (hi := 122) rfl rfl (by omega)]
      have hs2 : (Nat.blt p n && (Nat.ble 97 (b p) && Nat.ble (b p) 122)) = true := hs
      rw [hs2]
      show nR X (callN X (d + 1)) hX7_next 118 [vR 30 0, vI x1, vX] [vI 1] _ = _
      rw [bX7_next_118, if_neg (by decide), e21, show nI p + (1 : Int32) = nI (p + 1) from nI_add p 1, sk_step hs]
      refine ih (by omega) _ ?_
      rw [e]
      funext a i j
      unfold nSt
      by_cases z : a = 30 ∧ i = 0 ∧ j = 21
      · rw [if_pos z, if_pos z]
      · rw [if_neg z, if_neg z, if_neg z]
  refine ⟨_, key q hq M ?_, rfl⟩
  funext a i j
  unfold nSt
  by_cases z : a = 30 ∧ i = 0 ∧ j = 21
  · rw [if_pos z, z.1, z.2.1, z.2.2]; exact h21
  · rw [if_neg z]
theorem mnext_num (d : Nat) (l : List (Nat × Nat × Nat)) (t u : Nat) {M : MM} {b : Nat → Nat} {n f q : Nat} (x1 : Int32) (h : RdM M b n f) (hq : q ≤ n) (h21 : M 30 0 21 = nI q) :
    ∃ (M' : MM) (w' : Int64), nR X (callN X (d + 1)) hX7_next 160 [vR 30 0, vI x1, vI (0 : Int32)] [] (M, 0, true, true, l, t, u) = some (none, (M', w', true, true, l, t, u)) ∧ frM M M' ∧ M' 30 0 21 = nI (sk isDi b n q) ∧ M' 30 0 23 = M 30 0 23 ∧ M' 30 0 26 = M 30 0 26 ∧ M' 30 0 25 = M 30 0 25 ∧ M' 30 0 27 = M 30 0 27 ∧ M' 30 0 22 = nI (if sk isDi b n q - q ≤ 4 then 2 else 4) ∧ (sk isDi b n q - q ≤ 4 → w' = lN (dvF b q (sk isDi b n q - q))) := by
  have hn := h.2.2.1
  have key : ∀ p, q ≤ p → p ≤ n → ∀ (M2 : MM) (w2 : Int64), (∀ a i j, ¬ (a = 30 ∧ j = 21) → M2 a i j = M a i j) → M2 30 0 21 = nI p → (p - q ≤ 4 → w2 = lN (dvF b q (p - q))) →
      ∃ (M' : MM) (w' : Int64), nR X (callN X (d + 1)) hX7_next 160 [vR 30 0, vI x1, vI (nI (p - q))] [] (M2, w2, true, true, l, t, u) = some (none, (M', w', true, true, l, t, u)) ∧ frM M M' ∧ M' 30 0 21 = nI (sk isDi b n p) ∧ M' 30 0 23 = M 30 0 23 ∧ M' 30 0 26 = M 30 0 26 ∧ M' 30 0 25 = M 30 0 25 ∧ M' 30 0 27 = M 30 0 27 ∧ M' 30 0 22 = nI (if sk isDi b n p - q ≤ 4 then 2 else 4) ∧ (sk isDi b n p - q ≤ 4 → w' = lN (dvF b q (sk isDi b n p - q))) := by
    intro p
    refine sk_ind (P := isDi) (b := b) (n := n) (C := fun p => q ≤ p → p ≤ n → ∀ (M2 : MM) (w2 : Int64), (∀ a i j, ¬ (a = 30 ∧ j = 21) → M2 a i j = M a i j) → M2 30 0 21 = nI p → (p - q ≤ 4 → w2 = lN (dvF b q (p - q))) →
      ∃ (M' : MM) (w' : Int64), nR X (callN X (d + 1)) hX7_next 160 [vR 30 0, vI x1, vI (nI (p - q))] [] (M2, w2, true, true, l, t, u) = some (none, (M', w', true, true, l, t, u)) ∧ frM M M' ∧ M' 30 0 21 = nI (sk isDi b n p) ∧ M' 30 0 23 = M 30 0 23 ∧ M' 30 0 26 = M 30 0 26 ∧ M' 30 0 25 = M 30 0 25 ∧ M' 30 0 27 = M 30 0 27 ∧ M' 30 0 22 = nI (if sk isDi b n p - q ≤ 4 then 2 else 4) ∧ (sk isDi b n p - q ≤ 4 → w' = lN (dvF b q (sk isDi b n p - q)))) ?_ ?_ p
    · intro p hs hqp hp M2 w2 hf e hw
      have hfm : frM M M2 := fun a i j z => hf a i j (fun y => z ⟨y.1, by omega⟩)
      have h2 := h.fr hfm
      have hs2 : (Nat.blt p n && (Nat.ble 48 (b p) && Nat.ble (b p) 57)) = false := hs
      rw [sk_stop hs, bX7_next_160, e, sX7_byteAt X d w2 l t u h2 (by omega), bnd_s, tl_s, bX7_next_168, sX7_in, bnd_s, tl_s, inB h.2.2.2.2.2 n p (lo := 48) (hi := 57) rfl rfl (by omega), hs2]
      show ∃ (M' : MM) (w' : Int64), nR X (callN X (d + 1)) hX7_next 178 [vR 30 0, vI x1, vI (nI (p - q))] [vI 0] _ = _ ∧ _
      rw [bX7_next_178, if_pos rfl, li4]
      simp (disch := omega) only [nI_leI]
      by_cases c : p - q ≤ 4
      · rw [if_pos c]
        exact ⟨_, w2, rfl, hfm.st (by omega) _, (nst_j (by omega)).trans e, (nst_j (by omega)).trans (hf 30 0 23 (by omega)), (nst_j (by omega)).trans (hf 30 0 26 (by omega)), (nst_j (by omega)).trans (hf 30 0 25 (by omega)), (nst_j (by omega)).trans (hf 30 0 27 (by omega)), by rw [nst_self, if_pos c]; rfl, hw⟩
      · rw [if_neg c]
        exact ⟨_, w2, rfl, hfm.st (by omega) _, (nst_j (by omega)).trans e, (nst_j (by omega)).trans (hf 30 0 23 (by omega)), (nst_j (by omega)).trans (hf 30 0 26 (by omega)), (nst_j (by omega)).trans (hf 30 0 25 (by omega)), (nst_j (by omega)).trans (hf 30 0 27 (by omega)), by rw [nst_self, if_neg c], fun z => absurd z c⟩
    · intro p hp hs ih hqp _ M2 w2 hf e hw
      have hfm : frM M M2 := fun a i j z => hf a i j (fun y => z ⟨y.1, by omega⟩)
      have h2 := h.fr hfm
      have hbp := h.2.2.2.2.2 p
      have hs2 : (Nat.blt p n && (Nat.ble 48 (b p) && Nat.ble (b p) 57)) = true := hs
      have hge : 48 ≤ b p := by
        rw [Bool.and_eq_true, Bool.and_eq_true] at hs2
        exact Nat.ble_eq.mp hs2.2.1
      have hba : bA b n p = nI (b p) := if_pos hp
      have hst : ∀ a i j, ¬ (a = 30 ∧ j = 21) → nSt M2 30 0 21 (nI (p + 1)) a i j = M a i j := fun a i j z => (nst_fr z).trans (hf a i j z)
      have hp1 : p + 1 - q = (p - q) + 1 := by omega
      rw [sk_step hs, bX7_next_160, e, sX7_byteAt X d w2 l t u h2 (by omega), bnd_s, tl_s, bX7_next_168, sX7_in, bnd_s, tl_s, inB h.2.2.2.2.2 n p (lo := 48) (hi := 57) rfl rfl (by omega), hs2]
      show ∃ (M' : MM) (w' : Int64), nR X (callN X (d + 1)) hX7_next 178 [vR 30 0, vI x1, vI (nI (p - q))] [vI 1] _ = _ ∧ _
      rw [bX7_next_178, if_neg (by decide), li4, e, show nI p + (1 : Int32) = nI (p + 1) from nI_add p 1, show nI (p - q) + (1 : Int32) = nI (p + 1 - q) from by rw [hp1]; exact nI_add (p - q) 1]
      simp (disch := omega) only [nI_leI]
      by_cases c : 4 ≤ p - q
      · rw [if_pos c]
        exact ih (by omega) (by omega) _ w2 hst (nst_self _ _ _ _ _) (fun z => by omega)
      · rw [if_neg c, sX7_byteAt X d w2 l t u h2 (by omega), bnd_s, tl_s, bX7_next_203, e, hba, hw (by omega), nI_l (by omega), show (10 : Int64) = lN 10 from rfl, show (48 : Int64) = lN 48 from rfl, lN_mul, lN_add, lN_sub (by omega), show nI p + (1 : Int32) = nI (p + 1) from nI_add p 1, show nI (p - q) + (1 : Int32) = nI (p + 1 - q) from by rw [hp1]; exact nI_add (p - q) 1]
        refine ih (by omega) (by omega) _ _ hst (nst_self _ _ _ _ _) (fun z => congrArg lN ?_)
        rw [hp1]
        show 10 * dvF b q (p - q) + b p - 48 = dvF b q (p - q) * 10 + b (q + (p - q)) - 48
        rw [show q + (p - q) = p by omega, Nat.mul_comm]
  have := key q (Nat.le_refl _) hq M 0 (fun _ _ _ _ => rfl) h21 (fun _ => by rw [Nat.sub_self]; rfl)
  rw [Nat.sub_self] at this
  exact this
end
