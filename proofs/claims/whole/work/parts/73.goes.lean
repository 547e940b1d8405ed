/-! go -/
theorem flF_flF (f : Nat → Nat) (b i : Nat) (g h : Nat → Nat) : flF (flF f b i g) b i h = flF f b i h := funext fun j => by
  unfold flF
  by_cases c : b ≤ j ∧ j < b + i
  · rw [if_pos c, if_pos c]
  · rw [if_neg c, if_neg c, if_neg c]
def cntG : Nat → Nat
  | 0 => 0
  | l + 1 => 6 * (1 + cntG l)
def bdM (n : Nat) (st : BS) : Int32 := match st with
  | none => -1
  | some (w, _) => nI (dW n w)
def bvM (st : BS) : Int32 := match st with
  | none => 0
  | some (_, v) => nI v
def thS (s : GS) (o k pre : Nat) : GS := shW s (flF (gSh (sW s)) (o * 6) 6 (thG s o k pre))
theorem thG_app {s : GS} {o k pre c mk : Nat} (hc : c < 6) : min (thG s o k pre mk + tkS s o c mk) 9999 = thG s o (k + 1) (6 * pre + c) mk := by
  show min (min (gSh (sW s) (o * 6 + mk) + tw s o k pre mk) 9999 + tkS s o c mk) 9999 = min (gSh (sW s) (o * 6 + mk) + tw s o (k + 1) (6 * pre + c) mk) 9999
  rw [tw_app s o k pre mk hc]
  omega
theorem apN_th {s : GS} {o q k pre : Nat} (hoq : o ≠ q) : apN (gSh (sW (thS s o k pre))) o q = vW s o q k pre := sumN_congr 6 (fun j hj => by
  show dsN (flF (gSh (sW s)) (o * 6) 6 (thG s o k pre) (o * 6 + j)) (flF (gSh (sW s)) (o * 6) 6 (thG s o k pre) (q * 6 + j)) = _
  rw [flF_in hj, flF_out (by omega)])
section
variable (X : Nat × (Nat → Int32))
theorem cGoOne (d : Nat) {M : MM} (w : Int64) (t u : Nat) {s : GS} {o q n way what : Nat} {st : BS} {x9 : AV} (h : SC M s) (hT : TkC M s o) (hsh : ∀ j, gSh (sW s) j ≤ 9999) (ho : o < 5) (hq : q < 5) (hn : n ≤ 3) (hw : way < 6 ^ n) : ∃ (M2 : MM) (x : AV), nR X (callN X (d + 2)) hX6_go 71 [vR 2 0, vI (nI o), vI (nI q), vI (nI n), vI (nI what), vI (nI (6 ^ n)), vI (bwC st), vI (baC st), vI (nI way), x9] [] (M, w, true, true, [], t, u) = nR X (callN X (d + 2)) hX6_go 71 [vR 2 0, vI (nI o), vI (nI q), vI (nI n), vI (nI what), vI (nI (6 ^ n)), vI (bwC (cond (ngB n way 5) (upB st way (vW s o q n way)) st)), vI (baC (cond (ngB n way 5) (upB st way (vW s o q n way)) st)), vI (nI (way + 1)), x] [] (M2, w, true, true, [], t, u) ∧ ∀ k i j, k ≠ 27 → M2 k i j = M k i j := by
  have h6 : 6 ^ n ≤ 216 := by
    have : n = 0 ∨ n = 1 ∨ n = 2 ∨ n = 3 := by omega
    rcases this with rfl | rfl | rfl | rfl <;> decide
  rw [bX6_go_71, if_neg (nI_ge hw (by omega)), cNgb X (d + 1) M w t u hn (by omega), bnd_s, tl_s, bX6_go_84, if_b, nI_1]
  cases cb : ngB n way 5
  · exact ⟨M, x9, rfl, fun _ _ _ _ => rfl⟩
  · obtain ⟨M2, e1, e2⟩ := cAfter X d w t u (q := q) (n := n) (way := way) h hT hsh ho hq hn (by omega)
    refine ⟨M2, vI (nI (vW s o q n way)), ?_, e2⟩
    have hv := vW_le s o q n way hsh
    show nBnd (callN X (d + 2) 101 [vR 2 0, vI (nI o), vI (nI q), vI (nI way), vI (nI n)] (M, w, true, true, [], t, u)) _ = _
    rw [e1, bnd_s, tl_s, bX6_go_96, nI_1]
    rcases st with _ | ⟨w0, v0⟩
    · rw [if_pos (show baC none = -1 from rfl)]
      rfl
    · sorry
theorem cGoRange (d : Nat) (w : Int64) (t u : Nat) {s : GS} {o q n what : Nat} (hsh : ∀ j, gSh (sW s) j ≤ 9999) (ho : o < 5) (hq : q < 5) (hn : n ≤ 3) : ∀ (left k pre : Nat) (st : BS) (M : MM) (x9 : AV), k + left = n → pre < 6 ^ k → SC M s → TkC M s o → ∃ (M2 : MM) (x : AV), nR X (callN X (d + 2)) hX6_go 71 [vR 2 0, vI (nI o), vI (nI q), vI (nI n), vI (nI what), vI (nI (6 ^ n)), vI (bwC st), vI (baC st), vI (nI (pre * 6 ^ left)), x9] [] (M, w, true, true, [], t, u) = nR X (callN X (d + 2)) hX6_go 71 [vR 2 0, vI (nI o), vI (nI q), vI (nI n), vI (nI what), vI (nI (6 ^ n)), vI (bwC (cond (ngB k pre 5) (gF s o q left k pre st) st)), vI (baC (cond (ngB k pre 5) (gF s o q left k pre st) st)), vI (nI ((pre + 1) * 6 ^ left)), x] [] (M2, w, true, true, [], t, u) ∧ ∀ k i j, k ≠ 27 → M2 k i j = M k i j := by
  intro left
  induction left with
  | zero =>
    intro k pre st M x9 hk hpre hS hT
    have hk : k = n := hk
    subst hk
    rw [Nat.pow_zero, Nat.mul_one, Nat.mul_one]
    exact cGoOne X d w t u hS hT hsh ho hq hn hpre
  | succ left ih =>
    intro k pre st M x9 hk hpre hS hT
    have inner : ∀ c, c ≤ 6 → ∃ (M2 : MM) (x : AV), nR X (callN X (d + 2)) hX6_go 71 [vR 2 0, vI (nI o), vI (nI q), vI (nI n), vI (nI what), vI (nI (6 ^ n)), vI (bwC st), vI (baC st), vI (nI (pre * 6 ^ (left + 1))), x9] [] (M, w, true, true, [], t, u) = nR X (callN X (d + 2)) hX6_go 71 [vR 2 0, vI (nI o), vI (nI q), vI (nI n), vI (nI what), vI (nI (6 ^ n)), vI (bwC (cond (ngB k pre 5) (gL (fun c st2 => if frm k pre ≤ c then gF s o q left (k + 1) (6 * pre + c) st2 else st2) c st) st)), vI (baC (cond (ngB k pre 5) (gL (fun c st2 => if frm k pre ≤ c then gF s o q left (k + 1) (6 * pre + c) st2 else st2) c st) st)), vI (nI ((6 * pre + c) * 6 ^ left)), x] [] (M2, w, true, true, [], t, u) ∧ ∀ k i j, k ≠ 27 → M2 k i j = M k i j := by
      intro c
      induction c with
      | zero =>
        intro _
        refine ⟨M, x9, ?_, fun _ _ _ _ => rfl⟩
        rw [Nat.pow_succ, Nat.mul_comm (6 ^ left) 6, ← Nat.mul_assoc, Nat.mul_comm pre 6, Nat.add_zero]
        cases ngB k pre 5 <;> rfl
      | succ c ihc =>
        intro hc
        obtain ⟨M1, x1, e1, e2⟩ := ihc (by omega)
        rw [e1]
        have hpre2 : 6 * pre + c < 6 ^ (k + 1) := by
          rw [Nat.pow_succ]
          omega
        obtain ⟨M2, x2, f1, f2⟩ := ih (k + 1) (6 * pre + c) (cond (ngB k pre 5) (gL (fun c st2 => if frm k pre ≤ c then gF s o q left (k + 1) (6 * pre + c) st2 else st2) c st) st) M1 x1 (by omega) hpre2 (hS.fr (fun a b j q => e2 a b j (by omega))) (fun a b q1 q2 => (e2 26 0 _ (by omega)).trans (hT a b q1 q2))
        rw [f1]
        refine ⟨M2, x2, ?_, fun a b j q => (f2 a b j q).trans (e2 a b j q)⟩
        rw [ngB_app (show c < 6 by omega), show 6 * pre + c + 1 = 6 * pre + (c + 1) by omega]
        have hst : (cond (ngB k pre c) (gF s o q left (k + 1) (6 * pre + c) (cond (ngB k pre 5) (gL (fun c st2 => if frm k pre ≤ c then gF s o q left (k + 1) (6 * pre + c) st2 else st2) c st) st)) (cond (ngB k pre 5) (gL (fun c st2 => if frm k pre ≤ c then gF s o q left (k + 1) (6 * pre + c) st2 else st2) c st) st)) = cond (ngB k pre 5) (gL (fun c st2 => if frm k pre ≤ c then gF s o q left (k + 1) (6 * pre + c) st2 else st2) (c + 1) st) st := by
          cases c5 : ngB k pre 5
          · have : ngB k pre c = false := by
              cases z : ngB k pre c
              · rfl
              · rw [ngB_mono k pre c 5 (by omega) z] at c5
                cases c5
            rw [this]
            rfl
          · rw [ngB_frm c5]
            show _ = if frm k pre ≤ c then gF s o q left (k + 1) (6 * pre + c) _ else _
            by_cases z : frm k pre ≤ c
            · rw [decide_eq_true z, if_pos z]
              rfl
            · rw [decide_eq_false z, if_neg z]
              rfl
        rw [hst]
    obtain ⟨M2, x2, e1, e2⟩ := inner 6 (Nat.le_refl _)
    refine ⟨M2, x2, ?_, e2⟩
    rw [e1, show (6 * pre + 6) * 6 ^ left = (pre + 1) * 6 ^ (left + 1) by
      rw [Nat.pow_succ, Nat.mul_comm (6 ^ left) 6, ← Nat.mul_assoc, Nat.add_mul pre 1 6, Nat.mul_comm pre 6]]
    rfl
theorem mGoes {s : GS} {o q : Nat} (hB : TB s) (hsh : ∀ j, gSh (sW s) j ≤ 9999) (ho : o < gP (sW s)) (hq : q < gP (sW s)) (hoq : o ≠ q) : ∀ (left k pre : Nat) (st : BS) (M : MM) (d : Nat) (w : Int64) (t u : Nat), k + left ≤ 3 → 72 ≤ t → SM M (thS s o k pre) → TkM M s o → M 30 0 36 = bdM (k + left) st → M 30 0 37 = bvM st →
    ∃ (M2 : MM) (t2 u2 : Nat), callN X (d + left + 2) 174 [vR 30 0, vI (nI o), vI (nI q), vI (nI left), vI (nI (frm k pre)), vI (nI (dW k pre))] (M, w, true, true, [], t, u) = some (none, (M2, w, true, true, [], t2, u2)) ∧ SM M2 (thS s o k pre) ∧ M2 30 0 36 = bdM (k + left) (gF s o q left k pre st) ∧ M2 30 0 37 = bvM (gF s o q left k pre st) ∧ (∀ a b j, ¬ (a = 30 ∧ (j = 36 ∨ j = 37)) → a ≠ 37 → ¬ (a = 60 ∧ t - 72 ≤ b) → M2 a b j = M a b j) ∧ t ≤ t2 ∧ t2 ≤ t + cntG left ∧ u2 ≤ u + 6 * cntG left := by
  have hP := hB.2.2.2.2.2
  have ho5 : o < 5 := by omega
  have hq5 : q < 5 := by omega
  intro left
  induction left with
  | zero =>
    intro k pre st M d w t u hk ht hS hT h36 h37
    have hv := vW_le s o q k pre hsh
    have hsh2 : ∀ j, gSh (sW (thS s o k pre)) j ≤ 9999 := flF_le hsh (fun _ => Nat.min_le_right _ _)
    have hap := mApart X d w [] t u (o := o) (q := q) hS.1 hsh2 ho5 hq5
    rw [apN_th hoq] at hap
    have hrun : callN X (d + 0 + 2) 174 [vR 30 0, vI (nI o), vI (nI q), vI (nI 0), vI (nI (frm k pre)), vI (nI (dW k pre))] (M, w, true, true, [], t, u) = if M 30 0 36 = -1 then some (none, (nSt (nSt M 30 0 36 (nI (dW k pre))) 30 0 37 (nI (vW s o q k pre)), w, true, true, [], t, u)) else if M 30 0 37 ≤ nI (vW s o q k pre) then some (none, (M, w, true, true, [], t, u)) else some (none, (nSt (nSt M 30 0 36 (nI (dW k pre))) 30 0 37 (nI (vW s o q k pre)), w, true, true, [], t, u)) := by
      rw [show d + 0 + 2 = d + 1 + 1 from rfl, aX7_goes, if_pos (show nI 0 = 0 from rfl), hap, bnd_s, tl_s, bX7_goes_10]
    have hrep : SM (nSt (nSt M 30 0 36 (nI (dW k pre))) 30 0 37 (nI (vW s o q k pre))) (thS s o k pre) := hS.fr (fun a b j _ _ _ z => (nst_fr (by omega)).trans (nst_fr (by omega)))
    have h36' : (nSt (nSt M 30 0 36 (nI (dW k pre))) 30 0 37 (nI (vW s o q k pre))) 30 0 36 = nI (dW k pre) := (nst_j (by omega)).trans (nst_self _ _ _ _ _)
    have hfr' : ∀ a b j, ¬ (a = 30 ∧ (j = 36 ∨ j = 37)) → a ≠ 37 → ¬ (a = 60 ∧ t - 72 ≤ b) → (nSt (nSt M 30 0 36 (nI (dW k pre))) 30 0 37 (nI (vW s o q k pre))) a b j = M a b j := fun a b j z _ _ => (nst_fr (by omega)).trans (nst_fr (by omega))
    rw [hrun, h36, h37]
    have hgF : gF s o q 0 k pre st = upB st pre (vW s o q k pre) := rfl
    rcases st with _ | ⟨w0, v0⟩
    · rw [if_pos (show bdM (k + 0) none = -1 from rfl)]
      exact ⟨_, t, u, rfl, hrep, h36', nst_self _ _ _ _ _, hfr', Nat.le_refl _, Nat.le_add_right _ _, Nat.le_add_right _ _⟩
    · sorry
  | succ left ih =>
    intro k pre st M d w t u hk ht hS hT h36 h37
    sorry
end
