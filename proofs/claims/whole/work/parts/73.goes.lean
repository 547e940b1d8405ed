/-! go -/
theorem flF_flF (f : Nat → Nat) (b i : Nat) (g h : Nat → Nat) : flF (flF f b i g) b i h = flF f b i h := funext fun j => by
  unfold flF
  by_cases c : b ≤ j ∧ j < b + i
  · rw [if_pos c, if_pos c]
  · rw [if_neg c, if_neg c, if_neg c]
def cntG : Nat → Nat
  | 0 => 0
  | l + 1 => 6 * (1 + cntG l)
def bdM (n : Nat) (st : BS) : Int32 := match st with
  | none => -1
  | some (w, _) => nI (dW n w)
def bvM (st : BS) : Int32 := match st with
  | none => 0
  | some (_, v) => nI v
def thS (s : GS) (o k pre : Nat) : GS := shW s (flF (gSh (sW s)) (o * 6) 6 (thG s o k pre))
def stB (n : Nat) (st : BS) : Prop := ∀ w0 v0, st = some (w0, v0) → w0 < 6 ^ n ∧ v0 ≤ 6 * 9999
theorem stB.none (n : Nat) : stB n none := fun _ _ h => by cases h
theorem stB.up {n way v : Nat} {st : BS} (h : stB n st) (hw : way < 6 ^ n) (hv : v ≤ 6 * 9999) : stB n (upB st way v) := fun w0 v0 e => by
  unfold upB at e
  rcases st with _ | ⟨w1, v1⟩
  · cases e
    exact ⟨hw, hv⟩
  · have e : (if v < v1 then some (way, v) else some (w1, v1)) = some (w0, v0) := e
    by_cases c : v < v1
    · rw [if_pos c] at e
      cases e
      exact ⟨hw, hv⟩
    · rw [if_neg c] at e
      exact h w0 v0 e
theorem stBgL {n : Nat} {f : Nat → BS → BS} (hf : ∀ c st, c < 6 → stB n st → stB n (f c st)) {st : BS} (h : stB n st) : ∀ c, c ≤ 6 → stB n (gL f c st)
  | 0, _ => h
  | c + 1, hc => hf c _ (by omega) (stBgL hf h c (by omega))
theorem stBgF {s : GS} {o q n : Nat} (hsh : ∀ j, gSh (sW s) j ≤ 9999) : ∀ (left k pre : Nat) (st : BS), k + left = n → pre < 6 ^ k → stB n st → stB n (gF s o q left k pre st)
  | 0, k, pre, st, hk, hp, h => by
    have hk : k = n := hk
    subst hk
    exact h.up hp (vW_le s o q k pre hsh)
  | left + 1, k, pre, st, hk, hp, h => by
    refine stBgL (fun c st2 hc h2 => ?_) h 6 (Nat.le_refl _)
    show stB n (if frm k pre ≤ c then gF s o q left (k + 1) (6 * pre + c) st2 else st2)
    by_cases z : frm k pre ≤ c
    · rw [if_pos z]
      exact stBgF hsh left (k + 1) (6 * pre + c) st2 (by omega) (by rw [Nat.pow_succ]; omega) h2
    · rw [if_neg z]
      exact h2
theorem gL_skip {f : Nat → BS → BS} {a : Nat} (hf : ∀ c st, c < a → f c st = st) (st : BS) : ∀ c, c ≤ a → gL f c st = st
  | 0, _ => rfl
  | c + 1, hc => (hf c _ (by omega)).trans (gL_skip hf st c (by omega))
theorem nI_nz {x : Nat} (h0 : 0 < x) (h : x < 2 ^ 31) : ¬ nI x = 0 := fun z => by
  have := congrArg Int32.toInt z
  rw [nI_toInt h] at this
  have h1 : (0 : Int32).toInt = 0 := rfl
  omega
theorem pk_sub1 {a : Nat} (h : a < 2 ^ 30) : nI (a + 1) - nI 1 = nI a := by
  rw [← nI_add]
  exact Int32.add_sub_cancel _ _
theorem zz_ne {M : MM} {k i a b d : Nat} (h : ¬ (a = k ∧ b = i)) : nZ M k i a b d = M a b d := if_neg h
theorem thG_app {s : GS} {o k pre c mk : Nat} (hc : c < 6) : min (thG s o k pre mk + tkS s o c mk) 9999 = thG s o (k + 1) (6 * pre + c) mk := by
  show min (min (gSh (sW s) (o * 6 + mk) + tw s o k pre mk) 9999 + tkS s o c mk) 9999 = min (gSh (sW s) (o * 6 + mk) + tw s o (k + 1) (6 * pre + c) mk) 9999
  rw [tw_app s o k pre mk hc]
  omega
theorem apN_th {s : GS} {o q k pre : Nat} (hoq : o ≠ q) : apN (gSh (sW (thS s o k pre))) o q = vW s o q k pre := sumN_congr 6 (fun j hj => by
  show dsN (flF (gSh (sW s)) (o * 6) 6 (thG s o k pre) (o * 6 + j)) (flF (gSh (sW s)) (o * 6) 6 (thG s o k pre) (q * 6 + j)) = _
  rw [flF_in hj, flF_out (by omega)])
section
variable (X : Nat × (Nat → Int32))
theorem cGoOne (d : Nat) {M : MM} (w : Int64) (t u : Nat) {s : GS} {o q n way what : Nat} {st : BS} {x9 : AV} (h : SC M s) (hT : TkC M s o) (hsh : ∀ j, gSh (sW s) j ≤ 9999) (ho : o < 5) (hq : q < 5) (hn : n ≤ 3) (hw : way < 6 ^ n) (hst : stB n st) : ∃ (M2 : MM) (x : AV), nR X (callN X (d + 2)) hX6_go 71 [vR 2 0, vI (nI o), vI (nI q), vI (nI n), vI (nI what), vI (nI (6 ^ n)), vI (bwC st), vI (baC st), vI (nI way), x9] [] (M, w, true, true, [], t, u) = nR X (callN X (d + 2)) hX6_go 71 [vR 2 0, vI (nI o), vI (nI q), vI (nI n), vI (nI what), vI (nI (6 ^ n)), vI (bwC (cond (ngB n way 5) (upB st way (vW s o q n way)) st)), vI (baC (cond (ngB n way 5) (upB st way (vW s o q n way)) st)), vI (nI (way + 1)), x] [] (M2, w, true, true, [], t, u) ∧ ∀ k i j, k ≠ 27 → M2 k i j = M k i j := by
  have h6 : 6 ^ n ≤ 216 := by
    have : n = 0 ∨ n = 1 ∨ n = 2 ∨ n = 3 := by omega
    rcases this with rfl | rfl | rfl | rfl <;> decide
  rw [bX6_go_71, if_neg (nI_ge hw (by omega)), cNgb X (d + 1) M w t u hn (by omega), bnd_s, tl_s, bX6_go_84, if_b, nI_1]
  cases cb : ngB n way 5
  · exact ⟨M, x9, rfl, fun _ _ _ _ => rfl⟩
  · obtain ⟨M2, e1, e2⟩ := cAfter X d w t u (q := q) (n := n) (way := way) h hT hsh ho hq hn (by omega)
    refine ⟨M2, vI (nI (vW s o q n way)), ?_, e2⟩
    have hv := vW_le s o q n way hsh
    show nBnd (callN X (d + 2) 101 [vR 2 0, vI (nI o), vI (nI q), vI (nI way), vI (nI n)] (M, w, true, true, [], t, u)) _ = _
    rw [e1, bnd_s, tl_s, bX6_go_96, nI_1]
    rcases st with _ | ⟨w0, v0⟩
    · rw [if_pos (show baC none = -1 from rfl)]
      rfl
    · have hb := (hst w0 v0 rfl).2
      rw [if_neg (show ¬ baC (some (w0, v0)) = -1 from nw_ne (by omega)), cond_tt rfl]
      show (if nI v0 ≤ nI (vW s o q n way) then _ else _) = nR X (callN X (d + 2)) hX6_go 71 [vR 2 0, vI (nI o), vI (nI q), vI (nI n), vI (nI what), vI (nI (6 ^ n)), vI (bwC (if vW s o q n way < v0 then some (way, vW s o q n way) else some (w0, v0))), vI (baC (if vW s o q n way < v0 then some (way, vW s o q n way) else some (w0, v0))), vI (nI (way + 1)), vI (nI (vW s o q n way))] [] (M2, w, true, true, [], t, u)
      by_cases z : vW s o q n way < v0
      · rw [if_neg (nI_ge (by omega) (by omega)), if_pos z]
        rfl
      · rw [if_pos (nI_le (by omega) (by omega)), if_neg z]
theorem cGoRange (d : Nat) (w : Int64) (t u : Nat) {s : GS} {o q n what : Nat} (hsh : ∀ j, gSh (sW s) j ≤ 9999) (ho : o < 5) (hq : q < 5) (hn : n ≤ 3) : ∀ (left k pre : Nat) (st : BS) (M : MM) (x9 : AV), k + left = n → pre < 6 ^ k → stB n st → SC M s → TkC M s o → ∃ (M2 : MM) (x : AV), nR X (callN X (d + 2)) hX6_go 71 [vR 2 0, vI (nI o), vI (nI q), vI (nI n), vI (nI what), vI (nI (6 ^ n)), vI (bwC st), vI (baC st), vI (nI (pre * 6 ^ left)), x9] [] (M, w, true, true, [], t, u) = nR X (callN X (d + 2)) hX6_go 71 [vR 2 0, vI (nI o), vI (nI q), vI (nI n), vI (nI what), vI (nI (6 ^ n)), vI (bwC (cond (ngB k pre 5) (gF s o q left k pre st) st)), vI (baC (cond (ngB k pre 5) (gF s o q left k pre st) st)), vI (nI ((pre + 1) * 6 ^ left)), x] [] (M2, w, true, true, [], t, u) ∧ ∀ k i j, k ≠ 27 → M2 k i j = M k i j := by
  intro left
  induction left with
  | zero =>
    intro k pre st M x9 hk hpre hst hS hT
    have hk : k = n := hk
    subst hk
    rw [Nat.pow_zero, Nat.mul_one, Nat.mul_one]
    exact cGoOne X d w t u hS hT hsh ho hq hn hpre hst
  | succ left ih =>
    intro k pre st M x9 hk hpre hst hS hT
    have inner : ∀ c, c ≤ 6 → ∃ (M2 : MM) (x : AV), nR X (callN X (d + 2)) hX6_go 71 [vR 2 0, vI (nI o), vI (nI q), vI (nI n), vI (nI what), vI (nI (6 ^ n)), vI (bwC st), vI (baC st), vI (nI (pre * 6 ^ (left + 1))), x9] [] (M, w, true, true, [], t, u) = nR X (callN X (d + 2)) hX6_go 71 [vR 2 0, vI (nI o), vI (nI q), vI (nI n), vI (nI what), vI (nI (6 ^ n)), vI (bwC (cond (ngB k pre 5) (gL (fun c st2 => if frm k pre ≤ c then gF s o q left (k + 1) (6 * pre + c) st2 else st2) c st) st)), vI (baC (cond (ngB k pre 5) (gL (fun c st2 => if frm k pre ≤ c then gF s o q left (k + 1) (6 * pre + c) st2 else st2) c st) st)), vI (nI ((6 * pre + c) * 6 ^ left)), x] [] (M2, w, true, true, [], t, u) ∧ ∀ k i j, k ≠ 27 → M2 k i j = M k i j := by
      intro c
      induction c with
      | zero =>
        intro _
        refine ⟨M, x9, ?_, fun _ _ _ _ => rfl⟩
        rw [Nat.pow_succ, Nat.mul_comm (6 ^ left) 6, ← Nat.mul_assoc, Nat.mul_comm pre 6, Nat.add_zero]
        cases ngB k pre 5 <;> rfl
      | succ c ihc =>
        intro hc
        obtain ⟨M1, x1, e1, e2⟩ := ihc (by omega)
        rw [e1]
        have hpre2 : 6 * pre + c < 6 ^ (k + 1) := by
          rw [Nat.pow_succ]
          omega
        have hst1 : stB n (cond (ngB k pre 5) (gL (fun c st2 => if frm k pre ≤ c then gF s o q left (k + 1) (6 * pre + c) st2 else st2) c st) st) := by
          cases ngB k pre 5
          · exact hst
          · refine stBgL (fun c1 st2 hc1 h2 => ?_) hst c (by omega)
            show stB n (if frm k pre ≤ c1 then gF s o q left (k + 1) (6 * pre + c1) st2 else st2)
            by_cases z : frm k pre ≤ c1
            · rw [if_pos z]
              exact stBgF hsh left (k + 1) (6 * pre + c1) st2 (by omega) (by rw [Nat.pow_succ]; omega) h2
            · rw [if_neg z]
              exact h2
        obtain ⟨M2, x2, f1, f2⟩ := ih (k + 1) (6 * pre + c) (cond (ngB k pre 5) (gL (fun c st2 => if frm k pre ≤ c then gF s o q left (k + 1) (6 * pre + c) st2 else st2) c st) st) M1 x1 (by omega) hpre2 hst1 (hS.fr (fun a b j q => e2 a b j (by omega))) (fun a b q1 q2 => (e2 26 0 _ (by omega)).trans (hT a b q1 q2))
        rw [f1]
        refine ⟨M2, x2, ?_, fun a b j q => (f2 a b j q).trans (e2 a b j q)⟩
        rw [ngB_app (show c < 6 by omega), show 6 * pre + c + 1 = 6 * pre + (c + 1) by omega]
        have hst : (cond (ngB k pre c) (gF s o q left (k + 1) (6 * pre + c) (cond (ngB k pre 5) (gL (fun c st2 => if frm k pre ≤ c then gF s o q left (k + 1) (6 * pre + c) st2 else st2) c st) st)) (cond (ngB k pre 5) (gL (fun c st2 => if frm k pre ≤ c then gF s o q left (k + 1) (6 * pre + c) st2 else st2) c st) st)) = cond (ngB k pre 5) (gL (fun c st2 => if frm k pre ≤ c then gF s o q left (k + 1) (6 * pre + c) st2 else st2) (c + 1) st) st := by
          cases c5 : ngB k pre 5
          · have : ngB k pre c = false := by
              cases z : ngB k pre c
              · rfl
              · rw [ngB_mono k pre c 5 (by omega) z] at c5
                cases c5
            rw [this]
            rfl
          · rw [ngB_frm c5]
            show _ = if frm k pre ≤ c then gF s o q left (k + 1) (6 * pre + c) _ else _
            by_cases z : frm k pre ≤ c
            · rw [decide_eq_true z, if_pos z]
              rfl
            · rw [decide_eq_false z, if_neg z]
              rfl
        rw [hst]
    obtain ⟨M2, x2, e1, e2⟩ := inner 6 (Nat.le_refl _)
    refine ⟨M2, x2, ?_, e2⟩
    rw [e1, show (6 * pre + 6) * 6 ^ left = (pre + 1) * 6 ^ (left + 1) by
      rw [Nat.pow_succ, Nat.mul_comm (6 ^ left) 6, ← Nat.mul_assoc, Nat.add_mul pre 1 6, Nat.mul_comm pre 6]]
    rfl
theorem mSave (D : Nat) (w : Int64) (t u : Nat) {s S : GS} {o c r : Nat} {T : Nat → Nat} (x2 x3 x4 x5 : Int32) (ho : o < 5) (hc : c < 6) (hsh : ∀ j, gSh (sW S) j ≤ 9999) (hT : ∀ j, j < 6 → min (gSh (sW S) (o * 6 + j) + tkS s o c j) 9999 = T j) : ∀ (m i : Nat) (Ma : MM), i + m = 6 → SM Ma (shW S (flF (gSh (sW S)) (o * 6) i T)) → TkM Ma s o → (∀ j, j < i → Ma 60 r j = nI (gSh (sW S) (o * 6 + j))) → ∃ Mb, nR X (callN X (D + 1)) hX7_goes 62 [vR 30 0, vI (nI o), vI x2, vI x3, vI x4, vI x5, vI (nI c), vR 60 r, vI (nI i)] [] (Ma, w, true, true, [], t, u) = nR X (callN X (D + 1)) hX7_goes 62 [vR 30 0, vI (nI o), vI x2, vI x3, vI x4, vI x5, vI (nI c), vR 60 r, vI (nI 6)] [] (Mb, w, true, true, [], t, u) ∧ SM Mb (shW S (flF (gSh (sW S)) (o * 6) 6 T)) ∧ (∀ j, j < 6 → Mb 60 r j = nI (gSh (sW S) (o * 6 + j))) ∧ ∀ a b j, a ≠ 37 → ¬ (a = 60 ∧ b = r) → Mb a b j = Ma a b j := by
  intro m
  induction m with
  | zero =>
    intro i Ma hi h1 h2 h3
    have hi : i = 6 := hi
    subst hi
    exact ⟨Ma, rfl, h1, h3, fun _ _ _ _ _ => rfl⟩
  | succ m ih =>
    intro i Ma hi h1 h2 h3
    have b1 := hsh (o * 6 + i)
    have b2 := tkS_le s o c i
    have e37 : Ma 37 0 (o * 6 + i) = nI (gSh (sW S) (o * 6 + i)) := (h1.1.2.2.2.2.1 _ (by omega)).trans (congrArg nI (flF_out (by omega)))
    have e39 : Ma 39 0 (c * 6 + i) = nI (tkS s o c i) := h2 c i hc (by omega)
    have e1 : nR X (callN X (D + 1)) hX7_goes 62 [vR 30 0, vI (nI o), vI x2, vI x3, vI x4, vI x5, vI (nI c), vR 60 r, vI (nI i)] [] (Ma, w, true, true, [], t, u) = nR X (callN X (D + 1)) hX7_goes 62 [vR 30 0, vI (nI o), vI x2, vI x3, vI x4, vI x5, vI (nI c), vR 60 r, vI (nI (i + 1))] [] (nSt (nSt Ma 60 r i (nI (gSh (sW S) (o * 6 + i)))) 37 0 (o * 6 + i) (nI (T i)), w, true, true, [], t, u) := by
      rw [eX7_goes_62, li6, if_neg (nI_ge (by omega) (by omega)), pk_mul, nI_add, Nat.mul_comm 6 o, pk_mul, nI_add, Nat.mul_comm 6 c, nin_t (show o * 6 + i < 30 by omega), nin_t (show i < 6 by omega), nin_t (show c * 6 + i < 36 by omega), cond_tt rfl, cond_tt rfl, cond_tt rfl, cond_tt rfl, nI_clamp (by omega), nI_clamp (by omega), nI_clamp (by omega), nst_self, nst_ne (by omega), e37, e39, nI_add, sX7_within X D w [] t u (m := 9999) (x := 9999) _ (by omega) rfl, clN_nI (by omega), bnd_s, hT i (by omega)]
      show nR X (callN X (D + 1)) hX7_goes 123 _ [vI (nI (T i)), vI (nI (o * 6 + i)), vR 37 0] _ = _
      rw [eX7_goes_123, nin_t (show o * 6 + i < 30 by omega), cond_tt rfl, nI_clamp (by omega), nI_1]
    have hS0 : SM (nSt Ma 60 r i (nI (gSh (sW S) (o * 6 + i)))) (shW S (flF (gSh (sW S)) (o * 6) i T)) := h1.fr (fun a b j q1 q2 _ _ => nst_ne (by omega))
    have hS1 : SM (nSt (nSt Ma 60 r i (nI (gSh (sW S) (o * 6 + i)))) 37 0 (o * 6 + i) (nI (T i))) (shW S (upF (flF (gSh (sW S)) (o * 6) i T) (o * 6 + i) (T i))) := hS0.sh (o * 6 + i) (T i)
    rw [flF_s] at hS1
    obtain ⟨Mb, f1, f2, f3, f4⟩ := ih (i + 1) _ (by omega) hS1 (fun a b q1 q2 => ((nst_ne (by omega)).trans (nst_ne (by omega))).trans (h2 a b q1 q2)) (fun j hj => by
      rw [nst_ne (by omega)]
      by_cases y : j = i
      · rw [y, nst_self]
      · rw [nst_j y]
        exact h3 j (by omega))
    exact ⟨Mb, e1.trans f1, f2, f3, fun a b j q1 q2 => (f4 a b j q1 q2).trans ((nst_ne q1).trans (nst_o (by omega)))⟩
theorem mBack (D : Nat) (w : Int64) (t u : Nat) {S : GS} {o r : Nat} {T : Nat → Nat} (x2 x3 x4 x5 x6 : Int32) (ho : o < 5) : ∀ (m i : Nat) (Ma : MM), i + m = 6 → SM Ma (shW S (flF (gSh (sW S)) (o * 6) i T)) → (∀ j, j < 6 → Ma 60 r j = nI (T j)) → ∃ Mb, nR X (callN X D) hX7_goes 154 [vR 30 0, vI (nI o), vI x2, vI x3, vI x4, vI x5, vI x6, vR 60 r, vI (nI i)] [] (Ma, w, true, true, [], t, u) = nR X (callN X D) hX7_goes 46 [vR 30 0, vI (nI o), vI x2, vI x3, vI x4, vI x5, vI (x6 + 1), vR 60 r, vI (nI 6)] [] (Mb, w, true, true, [], t, u) ∧ SM Mb (shW S (flF (gSh (sW S)) (o * 6) 6 T)) ∧ ∀ a b j, a ≠ 37 → Mb a b j = Ma a b j := by
  intro m
  induction m with
  | zero =>
    intro i Ma hi h1 h2
    have hi : i = 6 := hi
    subst hi
    refine ⟨Ma, ?_, h1, fun _ _ _ _ => rfl⟩
    rw [eX7_goes_154, if_pos (by decide)]
  | succ m ih =>
    intro i Ma hi h1 h2
    have hS1 : SM (nSt Ma 37 0 (o * 6 + i) (nI (T i))) (shW S (upF (flF (gSh (sW S)) (o * 6) i T) (o * 6 + i) (T i))) := h1.sh (o * 6 + i) (T i)
    rw [flF_s] at hS1
    obtain ⟨Mb, f1, f2, f3⟩ := ih (i + 1) _ (by omega) hS1 (fun j hj => (nst_ne (by omega)).trans (h2 j hj))
    refine ⟨Mb, ?_, f2, fun a b j q1 => (f3 a b j q1).trans (nst_ne q1)⟩
    rw [eX7_goes_154, li6, if_neg (nI_ge (by omega) (by omega)), pk_mul, nI_add, Nat.mul_comm 6 o, nin_t (show o * 6 + i < 30 by omega), nin_t (show i < 6 by omega), cond_tt rfl, cond_tt rfl, nI_clamp (by omega), nI_clamp (by omega), h2 i (by omega), nI_1, f1]
theorem mGoes {s : GS} {o q n : Nat} (hB : TB s) (hsh : ∀ j, gSh (sW s) j ≤ 9999) (ho : o < gP (sW s)) (hq : q < gP (sW s)) (hoq : o ≠ q) (hn : n ≤ 3) : ∀ (left k pre : Nat) (st : BS) (M : MM) (d : Nat) (w : Int64) (t u : Nat), k + left = n → pre < 6 ^ k → stB n st → 72 ≤ t → SM M (thS s o k pre) → TkM M s o → M 30 0 36 = bdM n st → M 30 0 37 = bvM st →
    ∃ (M2 : MM) (t2 u2 : Nat), callN X (d + left + 2) 174 [vR 30 0, vI (nI o), vI (nI q), vI (nI left), vI (nI (frm k pre)), vI (nI (dW k pre))] (M, w, true, true, [], t, u) = some (none, (M2, w, true, true, [], t2, u2)) ∧ SM M2 (thS s o k pre) ∧ M2 30 0 36 = bdM n (gF s o q left k pre st) ∧ M2 30 0 37 = bvM (gF s o q left k pre st) ∧ (∀ a b j, ¬ (a = 30 ∧ (j = 36 ∨ j = 37)) → a ≠ 37 → ¬ (a = 60 ∧ t - 72 ≤ b) → M2 a b j = M a b j) ∧ t ≤ t2 ∧ t2 ≤ t + cntG left ∧ u2 ≤ u + 6 * cntG left := by
  have hP := hB.2.2.2.2.2
  have ho5 : o < 5 := by omega
  have hq5 : q < 5 := by omega
  intro left
  induction left with
  | zero =>
    intro k pre st M d w t u hk hpre hst ht hS hT h36 h37
    have hk : k = n := hk
    subst hk
    have hv := vW_le s o q k pre hsh
    have hsh2 : ∀ j, gSh (sW (thS s o k pre)) j ≤ 9999 := flF_le hsh (fun _ => Nat.min_le_right _ _)
    have hap := mApart X d w [] t u (o := o) (q := q) hS.1 hsh2 ho5 hq5
    rw [apN_th hoq] at hap
    have hrun : callN X (d + 0 + 2) 174 [vR 30 0, vI (nI o), vI (nI q), vI (nI 0), vI (nI (frm k pre)), vI (nI (dW k pre))] (M, w, true, true, [], t, u) = if M 30 0 36 = -1 then some (none, (nSt (nSt M 30 0 36 (nI (dW k pre))) 30 0 37 (nI (vW s o q k pre)), w, true, true, [], t, u)) else if M 30 0 37 ≤ nI (vW s o q k pre) then some (none, (M, w, true, true, [], t, u)) else some (none, (nSt (nSt M 30 0 36 (nI (dW k pre))) 30 0 37 (nI (vW s o q k pre)), w, true, true, [], t, u)) := by
      rw [show d + 0 + 2 = d + 1 + 1 from rfl, aX7_goes, if_pos (show nI 0 = 0 from rfl), hap, bnd_s, tl_s, bX7_goes_10]
    have hrep : SM (nSt (nSt M 30 0 36 (nI (dW k pre))) 30 0 37 (nI (vW s o q k pre))) (thS s o k pre) := hS.fr (fun a b j _ _ _ z => (nst_fr (by omega)).trans (nst_fr (by omega)))
    have h36' : (nSt (nSt M 30 0 36 (nI (dW k pre))) 30 0 37 (nI (vW s o q k pre))) 30 0 36 = nI (dW k pre) := (nst_j (by omega)).trans (nst_self _ _ _ _ _)
    have hfr' : ∀ a b j, ¬ (a = 30 ∧ (j = 36 ∨ j = 37)) → a ≠ 37 → ¬ (a = 60 ∧ t - 72 ≤ b) → (nSt (nSt M 30 0 36 (nI (dW k pre))) 30 0 37 (nI (vW s o q k pre))) a b j = M a b j := fun a b j z _ _ => (nst_fr (by omega)).trans (nst_fr (by omega))
    rw [hrun, h36, h37]
    rcases st with _ | ⟨w0, v0⟩
    · rw [if_pos (show bdM k none = -1 from rfl)]
      exact ⟨_, t, u, rfl, hrep, h36', nst_self _ _ _ _ _, hfr', Nat.le_refl _, Nat.le_add_right _ _, Nat.le_add_right _ _⟩
    · have hb := (hst w0 v0 rfl).2
      have hd := dW_lt k w0
      have h10 : 10 ^ k ≤ 1000 := by
        have : k = 0 ∨ k = 1 ∨ k = 2 ∨ k = 3 := by omega
        rcases this with rfl | rfl | rfl | rfl <;> decide
      have hgF : gF s o q 0 k pre (some (w0, v0)) = if vW s o q k pre < v0 then some (pre, vW s o q k pre) else some (w0, v0) := rfl
      rw [if_neg (show ¬ bdM k (some (w0, v0)) = -1 from nw_ne (show dW k w0 < 2 ^ 31 by omega)), hgF]
      show ∃ (M2 : MM) (t2 u2 : Nat), (if nI v0 ≤ nI (vW s o q k pre) then _ else _) = _ ∧ _
      by_cases z : vW s o q k pre < v0
      · rw [if_neg (nI_ge (by omega) (by omega)), if_pos z]
        exact ⟨_, t, u, rfl, hrep, h36', nst_self _ _ _ _ _, hfr', Nat.le_refl _, Nat.le_add_right _ _, Nat.le_add_right _ _⟩
      · rw [if_pos (nI_le (by omega) (by omega)), if_neg z]
        exact ⟨_, t, u, rfl, hS, h36, h37, fun _ _ _ _ _ _ => rfl, Nat.le_refl _, Nat.le_add_right _ _, Nat.le_add_right _ _⟩
  | succ left ih =>
    intro k pre st M d w t u hk hpre hst ht hS hT h36 h37
    have hfr5 := frm_le k pre
    have hskip : gL (fun c st2 => if frm k pre ≤ c then gF s o q left (k + 1) (6 * pre + c) st2 else st2) (frm k pre) st = st := gL_skip (fun c st2 hc => if_neg (by omega)) st _ (Nat.le_refl _)
    have hstL : ∀ c, c ≤ 6 → stB n (gL (fun c st2 => if frm k pre ≤ c then gF s o q left (k + 1) (6 * pre + c) st2 else st2) c st) := stBgL (fun c1 st2 hc1 h2 => by
      show stB n (if frm k pre ≤ c1 then gF s o q left (k + 1) (6 * pre + c1) st2 else st2)
      by_cases z : frm k pre ≤ c1
      · rw [if_pos z]
        exact stBgF hsh left (k + 1) (6 * pre + c1) st2 (by omega) (by rw [Nat.pow_succ]; omega) h2
      · rw [if_neg z]
        exact h2) hst
    have loop : ∀ (m c : Nat) (x7 x8 : AV) (Mi : MM) (ti ui : Nat), c + m = 6 → frm k pre ≤ c → 72 ≤ ti → SM Mi (thS s o k pre) → TkM Mi s o → Mi 30 0 36 = bdM n (gL (fun c st2 => if frm k pre ≤ c then gF s o q left (k + 1) (6 * pre + c) st2 else st2) c st) → Mi 30 0 37 = bvM (gL (fun c st2 => if frm k pre ≤ c then gF s o q left (k + 1) (6 * pre + c) st2 else st2) c st) → ∃ (M2 : MM) (t2 u2 : Nat), nR X (callN X (d + left + 2)) hX7_goes 46 [vR 30 0, vI (nI o), vI (nI q), vI (nI (left + 1)), vI (nI (frm k pre)), vI (nI (dW k pre)), vI (nI c), x7, x8] [] (Mi, w, true, true, [], ti, ui) = some (none, (M2, w, true, true, [], t2, u2)) ∧ SM M2 (thS s o k pre) ∧ M2 30 0 36 = bdM n (gF s o q (left + 1) k pre st) ∧ M2 30 0 37 = bvM (gF s o q (left + 1) k pre st) ∧ (∀ a b j, ¬ (a = 30 ∧ (j = 36 ∨ j = 37)) → a ≠ 37 → ¬ (a = 60 ∧ ti - 72 ≤ b) → M2 a b j = Mi a b j) ∧ ti ≤ t2 ∧ t2 ≤ ti + m * (1 + cntG left) ∧ u2 ≤ ui + 6 * (m * (1 + cntG left)) := by
      intro m
      induction m with
      | zero =>
        intro c x7 x8 Mi ti ui hc hf ht h1 h2 h3 h4
        have hc : c = 6 := hc
        subst hc
        rw [eX7_goes_46, if_pos (by decide)]
        exact ⟨Mi, ti, ui, rfl, h1, h3, h4, fun _ _ _ _ _ _ => rfl, Nat.le_refl _, Nat.le_add_right _ _, Nat.le_add_right _ _⟩
      | succ m ihm =>
        intro c x7 x8 Mi ti ui hc hf ht h1 h2 h3 h4
        have hc6 : c < 6 := by omega
        have h1z : SM (nZ Mi 60 (ti - 72)) (shW (thS s o k pre) (flF (gSh (sW (thS s o k pre))) (o * 6) 0 (thG s o (k + 1) (6 * pre + c)))) := by
          rw [flF_0]
          exact h1.fr (fun a b j q1 q2 _ _ => zz_ne (by omega))
        have hshk : ∀ j, gSh (sW (thS s o k pre)) j ≤ 9999 := flF_le hsh (fun _ => Nat.min_le_right _ _)
        have hgk : ∀ j, j < 6 → gSh (sW (thS s o k pre)) (o * 6 + j) = thG s o k pre j := fun j hj => flF_in hj
        obtain ⟨Ma, a1, a2, a3, a4⟩ := mSave X (d + left + 1) w (ti + 1) (ui + 6) (s := s) (r := ti - 72) (nI q) (nI (left + 1)) (nI (frm k pre)) (nI (dW k pre)) ho5 hc6 hshk (fun j hj => by rw [hgk j hj]; exact thG_app hc6) 6 0 (nZ Mi 60 (ti - 72)) rfl h1z (fun a b q1 q2 => (zz_ne (by omega)).trans (h2 a b q1 q2)) (fun j hj => absurd hj (Nat.not_lt_zero j))
        have a2 : SM Ma (shW s (flF (flF (gSh (sW s)) (o * 6) 6 (thG s o k pre)) (o * 6) 6 (thG s o (k + 1) (6 * pre + c)))) := a2
        rw [flF_flF] at a2
        have a2 : SM Ma (thS s o (k + 1) (6 * pre + c)) := a2
        have b36 : Ma 30 0 36 = Mi 30 0 36 := (a4 30 0 36 (by omega) (by omega)).trans (zz_ne (by omega))
        have b37 : Ma 30 0 37 = Mi 30 0 37 := (a4 30 0 37 (by omega) (by omega)).trans (zz_ne (by omega))
        obtain ⟨Mb, t2, u2, c1, c2, c3, c4, c5, c6, c7, c8⟩ := ih (k + 1) (6 * pre + c) (gL (fun c st2 => if frm k pre ≤ c then gF s o q left (k + 1) (6 * pre + c) st2 else st2) c st) Ma d w (ti + 1) (ui + 6) (by omega) (by rw [Nat.pow_succ]; omega) (hstL c (by omega)) (by omega) a2 (fun a b q1 q2 => ((a4 39 0 _ (by omega) (by omega)).trans (zz_ne (by omega))).trans (h2 a b q1 q2)) (b36.trans h3) (b37.trans h4)
        have hfc : frm (k + 1) (6 * pre + c) = c := by
          show (6 * pre + c) % 6 = c
          omega
        rw [hfc, dW_app k pre hc6] at c1
        have c2 : SM Mb (shW (thS s o (k + 1) (6 * pre + c)) (flF (gSh (sW (thS s o (k + 1) (6 * pre + c)))) (o * 6) 0 (thG s o k pre))) := by
          rw [flF_0]
          exact c2
        obtain ⟨Mc, d1, d2, d3⟩ := mBack X (d + left + 2) w t2 u2 (r := ti - 72) (nI q) (nI (left + 1)) (nI (frm k pre)) (nI (dW k pre)) (nI c) ho5 6 0 Mb rfl c2 (fun j hj => by
          rw [c5 60 (ti - 72) j (by omega) (by omega) (by omega), a3 j hj, hgk j hj])
        have d2 : SM Mc (shW s (flF (flF (gSh (sW s)) (o * 6) 6 (thG s o (k + 1) (6 * pre + c))) (o * 6) 6 (thG s o k pre))) := d2
        rw [flF_flF] at d2
        have hgL : gL (fun c st2 => if frm k pre ≤ c then gF s o q left (k + 1) (6 * pre + c) st2 else st2) (c + 1) st = gF s o q left (k + 1) (6 * pre + c) (gL (fun c st2 => if frm k pre ≤ c then gF s o q left (k + 1) (6 * pre + c) st2 else st2) c st) := by
          show (if frm k pre ≤ c then _ else _) = _
          rw [if_pos hf]
        obtain ⟨M2, t3, u3, e1, e2, e3, e4, e5, e6, e7, e8⟩ := ihm (c + 1) (vR 60 (ti - 72)) (vI (nI 6)) Mc t2 u2 (by omega) (by omega) (by omega) d2 (fun a b q1 q2 => (d3 39 0 _ (by omega)).trans ((c5 39 0 _ (by omega) (by omega) (by omega)).trans (((a4 39 0 _ (by omega) (by omega)).trans (zz_ne (by omega))).trans (h2 a b q1 q2)))) (by rw [hgL]; exact (d3 30 0 36 (by omega)).trans c3) (by rw [hgL]; exact (d3 30 0 37 (by omega)).trans c4)
        refine ⟨M2, t3, u3, ?_, e2, e3, e4, fun a b j q1 q2 q3 => (e5 a b j q1 q2 (by omega)).trans ((d3 a b j q2).trans ((c5 a b j q1 q2 (by omega)).trans ((a4 a b j q2 (by omega)).trans (zz_ne (by omega))))), by omega, ?_, ?_⟩
        · have a1 : nR X (callN X (d + left + 2)) hX7_goes 62 [vR 30 0, vI (nI o), vI (nI q), vI (nI (left + 1)), vI (nI (frm k pre)), vI (nI (dW k pre)), vI (nI c), vR 60 (ti - 72), vI 0] [] (nZ Mi 60 (ti - 72), w, true, true, [], ti + 1, ui + 6) = _ := a1
          have d1 : nR X (callN X (d + left + 2)) hX7_goes 154 [vR 30 0, vI (nI o), vI (nI q), vI (nI (left + 1)), vI (nI (frm k pre)), vI (nI (dW k pre)), vI (nI c), vR 60 (ti - 72), vI 0] [] (Mb, w, true, true, [], t2, u2) = _ := d1
          rw [eX7_goes_46, li6, if_neg (nI_ge hc6 (by omega)), ← li6, eX7_goes_55 X _ _ _ _ _ _ _ _ _ _ _ _ _ _ ht, eX7_goes_57, a1, eX7_goes_62, if_pos (by decide), nI_pred, li10, pk_mul, nI_add, nI_1, Nat.mul_comm 10, c1, bnd_s]
          show nR X (callN X (d + left + 2)) hX7_goes 151 _ [] _ = _
          rw [eX7_goes_151, d1, nI_1]
          exact e1
        · rw [Nat.succ_mul m]
          omega
        · rw [Nat.succ_mul m]
          omega
    obtain ⟨M2, t2, u2, e1, e2, e3, e4, e5, e6, e7, e8⟩ := loop (6 - frm k pre) (frm k pre) vX vX M t u (by omega) (Nat.le_refl _) ht hS hT (by rw [hskip]; exact h36) (by rw [hskip]; exact h37)
    have hm : (6 - frm k pre) * (1 + cntG left) ≤ 6 * (1 + cntG left) := Nat.mul_le_mul_right _ (by omega)
    refine ⟨M2, t2, u2, ?_, e2, e3, e4, e5, e6, ?_, ?_⟩
    · rw [show d + (left + 1) + 2 = d + left + 2 + 1 by omega, aX7_goes, if_neg (nI_nz (by omega) (by omega))]
      exact e1
    · show t2 ≤ t + 6 * (1 + cntG left)
      omega
    · show u2 ≤ u + 6 * (6 * (1 + cntG left))
      omega
end
