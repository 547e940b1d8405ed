/-! days that are drawn -/
def zN (z : Int32) : Int32 := z * 1103515245 + 12345
def cz (z : Int32) : Nat := z.toBitVec.toNat / 512 % 6
theorem cz_lt (z : Int32) : cz z < 6 := Nat.mod_lt _ (by omega)
theorem cz_eq (z : Int32) : (z.toUInt32 >>> ((9 : Int32).toUInt32 &&& Int32.toUInt32 31)).toInt32 - (z.toUInt32 >>> ((9 : Int32).toUInt32 &&& Int32.toUInt32 31)).toInt32 / 6 * 6 = nI (cz z) := by
  have hlt : z.toBitVec.toNat < 2 ^ 32 := z.toBitVec.isLt
  have e : (z.toUInt32 >>> ((9 : Int32).toUInt32 &&& Int32.toUInt32 31)).toInt32 = nI (z.toBitVec.toNat / 512) := by
    apply Int32.toBitVec_inj.mp
    apply BitVec.eq_of_toNat_eq
    rw [pk_ushr z 9 9 (by decide), pk_tn (by omega)]
  rw [e, li6, pk_rem (by omega) (by omega) (by omega)]
  rfl
def drS (o : Nat) : Nat → Int32 → GS → GS
  | 0, _, s => s
  | n + 1, z, s => drS o n (zN z) (stG s o (cz (zN z)), s.2)
def DrI (s : GS) (o i : Nat) (s2 : GS) : Prop := gP (sW s2) = gP (sW s) ∧ gD (sW s2) = gD (sW s) + i ∧ gR (sW s2) = gR (sW s) ∧ gCo (sW s2) = gCo (sW s) ∧ gKd (sW s2) = gKd (sW s) ∧ gNu (sW s2) = gNu (sW s) ∧ s2.2 = s.2 ∧ (∀ j, gSh (sW s2) j ≤ 9999) ∧ (∀ j, gOu (sW s2) j ≤ 9999) ∧ (∀ j, (j < o * 6 ∨ o * 6 + 6 ≤ j) → gSh (sW s2) j = gSh (sW s) j) ∧ ∀ j, j ≠ o → gOu (sW s2) j = gOu (sW s) j
theorem DrI.step {s : GS} {o i : Nat} {s2 : GS} (h : DrI s o i s2) (c : Nat) : DrI s o (i + 1) (stG s2 o c, s2.2) := by
  obtain ⟨h1, h2, h3, h4, h5, h6, h7, h8, h9, h10, h11⟩ := h
  refine ⟨h1, ?_, h3, h4, h5, h6, h7, flF_le h8 (fun _ => Nat.min_le_right _ _), upF_le h9 (Nat.min_le_right _ _), fun j hj => ?_, fun j hj => ?_⟩
  · show gD (sW s2) + 1 = gD (sW s) + (i + 1)
    omega
  · show flF (gSh (sW s2)) (o * 6) 6 (stF s2 o c) j = _
    rw [flF_out hj]
    exact h10 j hj
  · show upF (gOu (sW s2)) o (min (gOu (sW s2) o + 1) 9999) j = _
    unfold upF
    rw [if_neg hj]
    exact h11 j hj
theorem DrI.TB {s : GS} {o i : Nat} {s2 : GS} (h : DrI s o i s2) (hB : TB s) : TB s2 := by
  obtain ⟨g, r⟩ := s2
  obtain ⟨h1, h2, h3, h4, h5, h6, h7, h8, h9, h10, h11⟩ := h
  have h7 : r = s.2 := h7
  subst h7
  refine hB.w ?_ ?_ ?_ ?_
  · show gR g < sN s
    have : gR g = gR (sW s) := h3
    rw [this]
    exact hB.1
  · intro j
    have : gKd g = gKd (sW s) := h5
    rw [this]
    exact hB.2.2.2.1 j
  · intro j
    have : gNu g = gNu (sW s) := h6
    rw [this]
    exact hB.2.2.2.2.1 j
  · have : gP g = gP (sW s) := h1
    rw [this]
    exact hB.2.2.2.2.2
theorem DrI.tk {s : GS} {o i : Nat} {s2 : GS} (h : DrI s o i s2) (c mk : Nat) : tkS s2 o c mk = tkG (sB s) (sBn s) (gKd (sW s) o) (gNu (sW s) o) (gD (sW s) + i) c mk (gCo (sW s) (c * 6 + mk)) := by
  obtain ⟨g, r⟩ := s2
  obtain ⟨h1, h2, h3, h4, h5, h6, h7, h8, h9, h10, h11⟩ := h
  have h7 : r = s.2 := h7
  subst h7
  have h2 : gD g = gD (sW s) + i := h2
  have h3 : gR g = gR (sW s) := h3
  have h4 : gCo g = gCo (sW s) := h4
  have h5 : gKd g = gKd (sW s) := h5
  have h6 : gNu g = gNu (sW s) := h6
  show tkG ((sX s (gR g)).1) ((sX s (gR g)).2) (gKd g o) (gNu g o) (gD g) c mk (gCo g (c * 6 + mk)) = _
  rw [h2, h3, h4, h5, h6]
  rfl
theorem drS_I {s : GS} {o : Nat} : ∀ (n i : Nat) (z : Int32) (s2 : GS), DrI s o i s2 → DrI s o (i + n) (drS o n z s2)
  | 0, _, _, _, h => h
  | n + 1, i, z, s2, h => by
    have := drS_I n (i + 1) (zN z) _ (h.step (cz (zN z)))
    rw [show i + 1 + n = i + (n + 1) by omega] at this
    exact this
theorem DrI.refl {s : GS} (o : Nat) (h1 : ∀ j, gSh (sW s) j ≤ 9999) (h2 : ∀ j, gOu (sW s) j ≤ 9999) : DrI s o 0 s := ⟨rfl, rfl, rfl, rfl, rfl, rfl, rfl, h1, h2, fun _ _ => rfl, fun _ _ => rfl⟩
def frT7 (M M' : MM) : Prop := ∀ k i j, k ≠ 24 → k ≠ 25 → k ≠ 27 → M' k i j = M k i j
theorem frT7.C {M M' : MM} (h : frT7 M M') : fC M M' := fun k i j q => h k i j (by omega) (by omega) (by omega)
def drV (s : GS) (o n : Nat) (z : Int32) : Nat := shS (drS o n z s) o
section
variable (X : Nat × (Nat → Int32))
theorem cThink (d : Nat) {M : MM} (w : Int64) (t u : Nat) {s : GS} {o dy c : Nat} {T : Nat → Nat} (h : SC M s) (hB : TB s) (ho : o < 5) (hc : c < 6) (hT : ∀ mk, mk < 6 → M 27 0 mk = nI (T mk)) (hT9 : ∀ mk, T mk ≤ 9999) : ∃ M2, callN X (d + 5) 104 [vR 2 0, vI (nI o), vI (nI dy), vI (nI c)] (M, w, true, true, [], t, u) = some (none, (M2, w, true, true, [], t, u)) ∧ (∀ mk, mk < 6 → M2 27 0 mk = nI (min (T mk + tkG (sB s) (sBn s) (gKd (sW s) o) (gNu (sW s) o) dy c mk (gCo (sW s) (c * 6 + mk))) 9999)) ∧ frT7 M M2 := by
  have loop : ∀ (m k : Nat) (Mi : MM) (x5 : AV), k + m = 6 → (∀ mk, mk < 6 → Mi 27 0 mk = nI (if mk < k then min (T mk + tkG (sB s) (sBn s) (gKd (sW s) o) (gNu (sW s) o) dy c mk (gCo (sW s) (c * 6 + mk))) 9999 else T mk)) → frT7 M Mi → ∃ M2, nR X (callN X (d + 4)) hX6_stayInThought 3 [vR 2 0, vI (nI o), vI (nI dy), vI (nI c), vI (nI k), x5] [] (Mi, w, true, true, [], t, u) = some (none, (M2, w, true, true, [], t, u)) ∧ (∀ mk, mk < 6 → M2 27 0 mk = nI (min (T mk + tkG (sB s) (sBn s) (gKd (sW s) o) (gNu (sW s) o) dy c mk (gCo (sW s) (c * 6 + mk))) 9999)) ∧ frT7 M M2 := by
    intro m
    induction m with
    | zero =>
      intro k Mi x5 hk h1 h2
      have hk : k = 6 := hk
      subst hk
      rw [bX6_stayInThought_3, if_pos (by decide)]
      exact ⟨Mi, rfl, fun mk hmk => (h1 mk hmk).trans (by rw [if_pos hmk]), h2⟩
    | succ m ih =>
      intro k Mi x5 hk h1 h2
      have hS := h.fr h2.C
      obtain ⟨M1, e1, e2⟩ := sX6_takesOf X d w true [] t u (M := Mi) (dy := dy) (TB.r hB) (hS.2.2.2.1.2 _ hB.1) hB.tx (hB.2.2.2.1 o) (hB.2.2.2.2.1 o) (show k < 6 by omega) hc (hS.1.2.2.2.1 (c * 6 + k) (by omega))
      have e1 : callN X (d + 4) 91 [vR 2 0, vI (nI (gKd (sW s) o)), vI (nI (gNu (sW s) o)), vI (nI dy), vI (nI c), vI (nI k), vI (nI (gR (sW s)))] (Mi, w, true, true, [], t, u) = some (some (vI (nI (tkG (sB s) (sBn s) (gKd (sW s) o) (gNu (sW s) o) dy c k (gCo (sW s) (c * 6 + k))))), (M1, w, true, true, [], t, u)) := e1
      have htk : tkG (sB s) (sBn s) (gKd (sW s) o) (gNu (sW s) o) dy c k (gCo (sW s) (c * 6 + k)) ≤ 99 := tkN_le _ _ _ _
      have ht9 := hT9 k
      have h27 := h1 k (by omega)
      rw [if_neg (Nat.lt_irrefl k)] at h27
      rw [bX6_stayInThought_3, li6, if_neg (nI_ge (by omega) (by omega)), nin_t ho, cond_tt rfl, cond_tt rfl, nI_clamp (by omega), hS.1.2.2.2.2.2.1 o ho, hS.1.2.2.2.2.2.2.1 o ho, hS.1.2.1, e1, bnd_s, tl_s, bX6_stayInThought_43, nin_t (show k < 6 by omega), cond_tt rfl, cond_tt rfl, nI_clamp (by omega), e2 27 0 k (by omega) (by omega), h27, nI_add, show (9999 : Int32) = nI 9999 from rfl, min_if (by omega) (by omega), nI_1]
      refine ih (k + 1) _ _ (by omega) (fun mk hmk => ?_) (fun a b j q q2 q3 => (nst_ne q3).trans ((e2 a b j q q2).trans (h2 a b j q q2 q3)))
      by_cases y : mk = k
      · rw [y, nst_self, if_pos (by omega)]
      · rw [nst_j y, e2 27 0 mk (by omega) (by omega), h1 mk hmk]
        by_cases y2 : mk < k
        · rw [if_pos y2, if_pos (by omega)]
        · rw [if_neg y2, if_neg (by omega)]
  rw [show d + 5 = d + 4 + 1 from rfl, aX6_stayInThought]
  exact loop 6 0 M vX rfl (fun mk hmk => (hT mk hmk).trans (by rw [if_neg (Nat.not_lt_zero mk)])) (fun _ _ _ _ _ _ => rfl)
theorem cDrawn (d : Nat) {M : MM} (w : Int64) (t u : Nat) {s : GS} {o n : Nat} (z : Int32) (h : SC M s) (hB : SB s) (ho : o < 5) (hn : n ≤ 40) : ∃ M2, callN X (d + 6) 103 [vR 2 0, vI z, vI (nI o), vI (nI n)] (M, w, true, true, [], t, u) = some (some (vI (nI (drV s o n z))), (M2, w, true, true, [], t, u)) ∧ frT7 M M2 := by
  have hsh := hB.2.1.2.2.2.1
  have hou := hB.2.1.2.2.2.2.2.2
  have loop : ∀ (m i : Nat) (Mi : MM) (zi : Int32) (s2 : GS), i + m = n → DrI s o i s2 → (∀ mk, mk < 6 → Mi 27 0 mk = nI (gSh (sW s2) (o * 6 + mk))) → frT7 M Mi → ∃ M2, nR X (callN X (d + 5)) hX6_allAfterDrawn 27 [vR 2 0, vI z, vI (nI o), vI (nI n), vI zi, vI (nI i)] [] (Mi, w, true, true, [], t, u) = some (some (vI (nI (shS (drS o m zi s2) o))), (M2, w, true, true, [], t, u)) ∧ frT7 M M2 := by
    intro m
    induction m with
    | zero =>
      intro i Mi zi s2 hi h1 h2 h3
      have hi : i = n := hi
      subst hi
      have hsum := sX6_sum27 X (d + 4) 0 (M := Mi) w true [] t u (f := 0) (n := 6) (by omega)
      have hsum : callN X (d + 5) 109 [vR 27 0, vI 0, vI 6] (Mi, w, true, true, [], t, u) = _ := hsum
      refine ⟨Mi, ?_, h3⟩
      rw [bX6_allAfterDrawn_27, if_pos (nI_le (Nat.le_refl _) (by omega)), hsum, bnd_s, tl_s, bX6_allAfterDrawn_84, sumI_nI (h := fun j => gSh (sW s2) (o * 6 + j)) 6 (fun j hj => by rw [Nat.zero_add]; exact h2 j hj)]
      rfl
    | succ m ih =>
      intro i Mi zi s2 hi h1 h2 h3
      have hS := h.fr h3.C
      obtain ⟨M1, e1, e2, e3⟩ := cThink X d w t u (o := o) (dy := gD (sW s) + i) (c := cz (zN zi)) (T := fun mk => gSh (sW s2) (o * 6 + mk)) hS hB.1 ho (cz_lt _) h2 (fun mk => h1.2.2.2.2.2.2.2.1 _)
      rw [bX6_allAfterDrawn_27, if_neg (nI_ge (by omega) (by omega)), if_neg (by decide), show zi * 1103515245 + 12345 = zN zi from rfl, cz_eq, hS.1.1, nI_add, e1, bnd_s, tl_n, bX6_allAfterDrawn_68, nI_1]
      refine ih (i + 1) M1 (zN zi) _ (by omega) (h1.step (cz (zN zi))) (fun mk hmk => ?_) (fun a b j q q2 q3 => (e3 a b j q q2 q3).trans (h3 a b j q q2 q3))
      rw [e2 mk hmk]
      show _ = nI (flF (gSh (sW s2)) (o * 6) 6 (stF s2 o (cz (zN zi))) (o * 6 + mk))
      rw [flF_in hmk, ← h1.tk]
      rfl
  have h0 : ∀ mk, mk < 6 → nCpy M 5 0 (o * 6) 27 0 0 6 27 0 mk = nI (gSh (sW s) (o * 6 + mk)) := fun mk hmk => by
    rw [cpy_in (by omega), Nat.sub_zero]
    exact h.1.2.2.2.2.1 _ (by omega)
  obtain ⟨M2, e1, e2⟩ := loop n 0 (nCpy M 5 0 (o * 6) 27 0 0 6) z s (Nat.zero_add _) (DrI.refl o hsh hou) h0 (fun a b j q q2 q3 => cpy_ne (by omega))
  refine ⟨M2, ?_, e2⟩
  have e1 : nR X (callN X (d + 5)) hX6_allAfterDrawn 27 [vR 2 0, vI z, vI (nI o), vI (nI n), vI z, vI 0] [] (nCpy M 5 0 (o * 6) 27 0 0 6, w, true, true, [], t, u) = _ := e1
  rw [show d + 6 = d + 5 + 1 from rfl, aX6_allAfterDrawn, li6, pk_mul, nI_clamp (show o * 6 < 2 ^ 31 by omega), nI_clamp (show 6 < 2 ^ 31 by omega), show (0 : Int32).toNatClampNeg = 0 from rfl, decide_eq_true ⟨nI_pos (by omega), by decide, nI_pos (by omega), by omega, by omega⟩, cond_tt rfl, e1]
  rfl
theorem mDrawn (d : Nat) {M : MM} (w : Int64) (t u : Nat) {s : GS} {o n : Nat} (z : Int32) (h : SM M s) (hB : SB s) (ho : o < gP (sW s)) (hn : n ≤ 40) : ∃ (M2 : MM) (w2 : Int64), callN X (d + 58) 180 [vR 30 0, vI z, vI (nI o), vI (nI n)] (M, w, true, true, [], t, u) = some (some (vI (nI (drV s o n z))), (M2, w2, true, true, [], t, u)) ∧ SM M2 s ∧ ∀ k i j, k < 30 → M2 k i j = M k i j := by
  have hP := hB.1.2.2.2.2.2
  have ho5 : o < 5 := by omega
  have hsh := hB.2.1.2.2.2.1
  have hou := hB.2.1.2.2.2.2.2.2
  have l1 : ∀ (m k : Nat) (Mi : MM), k + m = 6 → (∀ q, q < k → Mi 41 0 q = nI (gSh (sW s) (o * 6 + q))) → (∀ a b j, a ≠ 41 → Mi a b j = M a b j) → ∃ M2, nR X (callN X (d + 57)) hX7_shoeDrawn 21 [vR 30 0, vI z, vI (nI o), vI (nI n), vI (nI (gD (sW s))), vI (nI (gOu (sW s) o)), vI (nI k), vX, vX] [] (Mi, w, true, true, [], t, u) = nR X (callN X (d + 57)) hX7_shoeDrawn 59 [vR 30 0, vI z, vI (nI o), vI (nI n), vI (nI (gD (sW s))), vI (nI (gOu (sW s) o)), vI z, vI 0, vX] [] (M2, w, true, true, [], t, u) ∧ (∀ q, q < 6 → M2 41 0 q = nI (gSh (sW s) (o * 6 + q))) ∧ ∀ a b j, a ≠ 41 → M2 a b j = M a b j := by
    intro m
    induction m with
    | zero =>
      intro k Mi hk h1 h2
      have hk : k = 6 := hk
      subst hk
      rw [bX7_shoeDrawn_21, if_pos (by decide)]
      exact ⟨Mi, rfl, h1, h2⟩
    | succ m ih =>
      intro k Mi hk h1 h2
      have h37 : Mi 37 0 (o * 6 + k) = nI (gSh (sW s) (o * 6 + k)) := (h2 37 0 _ (by omega)).trans (h.1.2.2.2.2.1 _ (by omega))
      rw [bX7_shoeDrawn_21, li6, if_neg (nI_ge (by omega) (by omega)), pk_mul, nI_add, Nat.mul_comm 6 o, nin_t (show o * 6 + k < 30 by omega), nin_t (show k < 6 by omega), cond_tt rfl, cond_tt rfl, nI_clamp (by omega), nI_clamp (by omega), h37, nI_1]
      refine ih (k + 1) _ (by omega) (fun q hq => ?_) (fun a b j q => (nst_ne q).trans (h2 a b j q))
      by_cases y : q = k
      · rw [y, nst_self]
      · rw [nst_j y]
        exact h1 q (by omega)
  obtain ⟨M1, a1, a2, a3⟩ := l1 6 0 M rfl (fun q hq => by omega) (fun _ _ _ _ => rfl)
  have hS1 : SM M1 s := h.fr (fun k i j _ _ q _ => a3 k i j (by omega))
  have loop : ∀ (m i : Nat) (Mi : MM) (wi : Int64) (zi : Int32) (s2 : GS), i + m = n → DrI s o i s2 → SM Mi s2 → (∀ q, q < 6 → Mi 41 0 q = nI (gSh (sW s) (o * 6 + q))) → (∀ k i j, k < 30 → Mi k i j = M k i j) → ∃ (M2 : MM) (w2 : Int64) (z2 : Int32), nR X (callN X (d + 57)) hX7_shoeDrawn 59 [vR 30 0, vI z, vI (nI o), vI (nI n), vI (nI (gD (sW s))), vI (nI (gOu (sW s) o)), vI zi, vI (nI i), vX] [] (Mi, wi, true, true, [], t, u) = nR X (callN X (d + 57)) hX7_shoeDrawn 106 [vR 30 0, vI z, vI (nI o), vI (nI n), vI (nI (gD (sW s))), vI (nI (gOu (sW s) o)), vI z2, vI (nI (shS (drS o m zi s2) o)), vI 0] [] (M2, w2, true, true, [], t, u) ∧ SM M2 (drS o m zi s2) ∧ (∀ q, q < 6 → M2 41 0 q = nI (gSh (sW s) (o * 6 + q))) ∧ ∀ k i j, k < 30 → M2 k i j = M k i j := by
    intro m
    induction m with
    | zero =>
      intro i Mi wi zi s2 hi h1 h2 h3 h4
      have hi : i = n := hi
      subst hi
      refine ⟨Mi, wi, zi, ?_, h2, h3, h4⟩
      rw [bX7_shoeDrawn_59, if_pos (nI_le (Nat.le_refl _) (by omega)), sX7_shoeOf X (d + 56) wi [] t u h2.1 ho5, bnd_s, tl_s, bX7_shoeDrawn_101]
      rfl
    | succ m ih =>
      intro i Mi wi zi s2 hi h1 h2 h3 h4
      obtain ⟨M3, w3, e1, e2, e3⟩ := mStays1 X (d + 1) wi [] t u (o := o) (c := cz (zN zi)) h2 (h1.TB hB.1) h1.2.2.2.2.2.2.2.1 h1.2.2.2.2.2.2.2.2.1 (by rw [h1.1]; exact ho) (cz_lt _)
      have e1 : callN X (d + 57) 151 [vR 30 0, vI (nI o), vI (nI (cz (zN zi)))] (Mi, wi, true, true, [], t, u) = some (none, (M3, w3, true, true, [], t, u)) := e1
      rw [bX7_shoeDrawn_59, if_neg (nI_ge (by omega) (by omega)), if_neg (by decide), show zi * 1103515245 + 12345 = zN zi from rfl, cz_eq, e1, bnd_s, tl_n, bX7_shoeDrawn_90, nI_1]
      exact ih (i + 1) M3 w3 (zN zi) _ (by omega) (h1.step (cz (zN zi))) e2 (fun q hq => (e3 41 0 q (by omega) (by omega)).trans (h3 q hq)) (fun a b j q => (e3 a b j (by omega) (by omega)).trans (h4 a b j q))
  have hI := drS_I n 0 z s (DrI.refl o hsh hou)
  rw [Nat.zero_add] at hI
  obtain ⟨M2, w2, z2, b1, b2, b3, b4⟩ := loop n 0 M1 w z s (Nat.zero_add _) (DrI.refl o hsh hou) hS1 a2 (fun a b j q => a3 a b j (by omega))
  have l2 : ∀ (m k : Nat) (Mi : MM), k + m = 6 → SM Mi (shW (drS o n z s) (flF (gSh (sW (drS o n z s))) (o * 6) k (fun q => gSh (sW s) (o * 6 + q)))) → (∀ q, q < 6 → Mi 41 0 q = nI (gSh (sW s) (o * 6 + q))) → (∀ k i j, k < 30 → Mi k i j = M k i j) → ∃ M3, nR X (callN X (d + 57)) hX7_shoeDrawn 106 [vR 30 0, vI z, vI (nI o), vI (nI n), vI (nI (gD (sW s))), vI (nI (gOu (sW s) o)), vI z2, vI (nI (drV s o n z)), vI (nI k)] [] (Mi, w2, true, true, [], t, u) = some (some (vI (nI (drV s o n z))), (M3, w2, true, true, [], t, u)) ∧ SM M3 s ∧ ∀ k i j, k < 30 → M3 k i j = M k i j := by
    intro m
    induction m with
    | zero =>
      intro k Mi hk h1 h2 h3
      have hk : k = 6 := hk
      subst hk
      rw [bX7_shoeDrawn_106, if_pos (by decide), li2, pk_mul, nI_1, nin_t (show 2 * o + 1 < 10 by omega), cond_tt rfl, nI_clamp (by omega)]
      have hW := (h1.1.ou o (gOu (sW s) o)).day (gD (sW s))
      obtain ⟨i1, i2, i3, i4, i5, i6, i7, i8, i9, i10, i11⟩ := hI
      have e5 : flF (gSh (sW (drS o n z s))) (o * 6) 6 (fun q => gSh (sW s) (o * 6 + q)) = gSh (sW s) := funext fun j => by
        by_cases y : o * 6 ≤ j ∧ j < o * 6 + 6
        · unfold flF
          rw [if_pos y]
          show gSh (sW s) (o * 6 + (j - o * 6)) = _
          rw [show o * 6 + (j - o * 6) = j by omega]
        · rw [flF_out (by omega)]
          exact i10 j (by omega)
      have e8 : upF (gOu (sW (drS o n z s))) o (gOu (sW s) o) = gOu (sW s) := funext fun j => by
        unfold upF
        by_cases y : j = o
        · rw [if_pos y, y]
        · rw [if_neg y]
          exact i11 j y
      have hW : WM (nSt (nSt Mi 36 0 (2 * o + 1) (nI (gOu (sW s) o))) 30 0 7 (nI (gD (sW s)))) (gP (sW (drS o n z s)), gD (sW s), gR (sW (drS o n z s)), gCo (sW (drS o n z s)), flF (gSh (sW (drS o n z s))) (o * 6) 6 (fun q => gSh (sW s) (o * 6 + q)), gKd (sW (drS o n z s)), gNu (sW (drS o n z s)), upF (gOu (sW (drS o n z s))) o (gOu (sW s) o)) := hW
      rw [e5, e8, i1, i3, i4, i5, i6] at hW
      have hS := h1.w hW (fun a b j _ _ q q2 => (nst_fr (by omega)).trans (nst_fr (by omega)))
      have hS : SM (nSt (nSt Mi 36 0 (2 * o + 1) (nI (gOu (sW s) o))) 30 0 7 (nI (gD (sW s)))) (sW s, (drS o n z s).2) := hS
      rw [i7] at hS
      exact ⟨_, rfl, hS, fun a b j q => (nst_fr (by omega)).trans ((nst_fr (by omega)).trans (h3 a b j q))⟩
    | succ m ih =>
      intro k Mi hk h1 h2 h3
      rw [bX7_shoeDrawn_106, li6, if_neg (nI_ge (by omega) (by omega)), nin_t (show k < 6 by omega), cond_tt rfl, pk_mul, nI_add, Nat.mul_comm 6 o, nin_t (show o * 6 + k < 30 by omega), cond_tt rfl, nI_clamp (by omega), nI_clamp (by omega), h2 k (by omega), nI_1]
      have hS1 := h1.sh (o * 6 + k) (gSh (sW s) (o * 6 + k))
      have e9 : upF (flF (gSh (sW (drS o n z s))) (o * 6) k (fun q => gSh (sW s) (o * 6 + q))) (o * 6 + k) (gSh (sW s) (o * 6 + k)) = flF (gSh (sW (drS o n z s))) (o * 6) (k + 1) (fun q => gSh (sW s) (o * 6 + q)) := flF_s (gSh (sW (drS o n z s))) (o * 6) k (fun q => gSh (sW s) (o * 6 + q))
      have hS1 : SM (nSt Mi 37 0 (o * 6 + k) (nI (gSh (sW s) (o * 6 + k)))) (shW (drS o n z s) (upF (flF (gSh (sW (drS o n z s))) (o * 6) k (fun q => gSh (sW s) (o * 6 + q))) (o * 6 + k) (gSh (sW s) (o * 6 + k)))) := hS1
      rw [e9] at hS1
      exact ih (k + 1) _ (by omega) hS1 (fun q hq => (nst_fr (by omega)).trans (h2 q hq)) (fun a b j q => (nst_fr (by omega)).trans (h3 a b j q))
  obtain ⟨M3, c1, c2, c3⟩ := l2 6 0 M2 rfl (by rw [flF_0]; exact b2) b3 b4
  refine ⟨M3, w2, ?_, c2, c3⟩
  have a1 : nR X (callN X (d + 57)) hX7_shoeDrawn 21 [vR 30 0, vI z, vI (nI o), vI (nI n), vI (nI (gD (sW s))), vI (nI (gOu (sW s) o)), vI 0, vX, vX] [] (M, w, true, true, [], t, u) = _ := a1
  have b1 : nR X (callN X (d + 57)) hX7_shoeDrawn 59 [vR 30 0, vI z, vI (nI o), vI (nI n), vI (nI (gD (sW s))), vI (nI (gOu (sW s) o)), vI z, vI 0, vX] [] (M1, w, true, true, [], t, u) = _ := b1
  rw [show d + 58 = d + 57 + 1 from rfl, aX7_shoeDrawn, li2, pk_mul, nI_1, nin_t (show 2 * o + 1 < 10 by omega), cond_tt rfl, nI_clamp (by omega), h.1.1, (h.1.2.2.2.2.2.2 o ho5).2, a1, b1]
  exact c1
theorem q_drawn (z a n : Int32) : Stq X 70 181 [vI z, vI a, vI n] := fun s hB => by
  have hP := hB.1.2.2.2.2.2
  cases c1 : nIn a (gP (sW s))
  · refine q_bad X hB (vI (-2)) (fun d M w t u h => ?_) (fun d M w t u h => ?_)
    · rw [show d + 200 = d + 199 + 1 from rfl, aX6_drawn, cHas X (d + 198) a w true [] t u h.1 hP, c1, bnd_s, tl_s, bX6_drawn_8, if_b]
      rfl
    · rw [show d + 200 = d + 199 + 1 from rfl, aX7_drawn, mOne X (d + 197) a w [] t u h.1 hP, c1, bnd_s, tl_s, bX7_drawn_5, if_b]
      rfl
  cases c2 : nIn n 41
  · refine q_bad X hB (vI (-2)) (fun d M w t u h => ?_) (fun d M w t u h => ?_)
    · rw [show d + 200 = d + 199 + 1 from rfl, aX6_drawn, cHas X (d + 198) a w true [] t u h.1 hP, c1, bnd_s, tl_s, bX6_drawn_8, if_b, cond_tt rfl, if_in2 (n := 41) rfl, c2]
      rfl
    · rw [show d + 200 = d + 199 + 1 from rfl, aX7_drawn, mOne X (d + 197) a w [] t u h.1 hP, c1, bnd_s, tl_s, bX7_drawn_5, if_b, cond_tt rfl, mIn X (d + 198) n (n := 41) rfl, c2, bnd_s, tl_s, bX7_drawn_17, if_b]
      rfl
  obtain ⟨o, ho, rfl⟩ := in_ex c1 (by omega)
  obtain ⟨n, hn, rfl⟩ := in_ex c2 (by omega)
  refine ⟨vI (nI (drV s o n z)), s, CSp.q X (fun d M w t u h => ?_), fun d M w t u h => ?_, hB⟩
  · obtain ⟨M2, e1, e2⟩ := cDrawn X (d + 193) w t u z h hB (show o < 5 by omega) (show n ≤ 40 by omega)
    refine ⟨M2, ?_, fun k i j q => e2 k i j (by omega) (by omega) (by omega)⟩
    rw [show d + 200 = d + 199 + 1 from rfl, aX6_drawn, cHas X (d + 198) (nI o) w true [] t u h.1 hP, c1, bnd_s, tl_s, bX6_drawn_8, if_b, cond_tt rfl, if_in2 (n := 41) rfl, c2, cond_tt rfl, e1, bnd_s, tl_s, bX6_drawn_31]
  · obtain ⟨M2, w2, e1, e2, e3⟩ := mDrawn X (d + 141) w t u z h hB ho (show n ≤ 40 by omega)
    refine ⟨M2, w2, t, u, ?_, e2, e3, by omega, by omega⟩
    rw [show d + 200 = d + 199 + 1 from rfl, aX7_drawn, mOne X (d + 197) (nI o) w [] t u h.1 hP, c1, bnd_s, tl_s, bX7_drawn_5, if_b, cond_tt rfl, mIn X (d + 198) (nI n) (n := 41) rfl, c2, bnd_s, tl_s, bX7_drawn_17, if_b, cond_tt rfl, e1, bnd_s, tl_s, bX7_drawn_27]
def chN (s : GS) (o : Nat) (z k : Int32) : Nat → Nat
  | 0 => 0
  | t + 1 => chN s o z k t + (if nI (drV s o 5 (z + nI t)) < k then 0 else 1)
theorem chN_le (s : GS) (o : Nat) (z k : Int32) : ∀ t, chN s o z k t ≤ t
  | 0 => Nat.le_refl _
  | t + 1 => by
    have := chN_le s o z k t
    show chN s o z k t + (if nI (drV s o 5 (z + nI t)) < k then 0 else 1) ≤ t + 1
    split <;> omega
theorem q_chance (z m a k e : Int32) : Stq X 71 182 [vI z, vI m, vI a, vI k, vI e] := fun s hB => by
  have hP := hB.1.2.2.2.2.2
  have hin : decide ((1 : Int64) ≤ m.toInt64 ∧ m.toInt64 ≤ 20) = decide (1 ≤ m.toInt ∧ m.toInt ≤ 20) := by
    rw [decide_eq_decide, Int64.le_iff_toInt_le, Int64.le_iff_toInt_le, Int32.toInt_toInt64]
    exact Iff.rfl
  have e1 : (1 : Int32).toInt = 1 := rfl
  have e20 : (20 : Int32).toInt = 20 := rfl
  by_cases cm : 1 ≤ m.toInt ∧ m.toInt ≤ 20
  rotate_left
  · refine q_bad X hB (vL (-4611686018427387904)) (fun d M w t u h => ?_) (fun d M w t u h => ?_)
    · rw [show d + 200 = d + 199 + 1 from rfl, aX6_chance]
      by_cases y : m < 1
      · rw [if_pos y]
      · rw [if_neg y, if_pos (by
          rw [Int32.lt_iff_toInt_lt] at y ⊢
          omega)]
    · rw [show d + 200 = d + 199 + 1 from rfl, aX7_chance, sX7_in X (d + 198), hin, decide_eq_false cm, bnd_s, tl_s, bV, bX7_chance_9, if_b]
      rfl
  have hm1 : ¬ m < 1 := fun y => by
    rw [Int32.lt_iff_toInt_lt] at y
    omega
  have hm2 : ¬ 20 < m := fun y => by
    rw [Int32.lt_iff_toInt_lt] at y
    omega
  have hc : ∀ (d : Nat) (M : MM) (w : Int64) (t u : Nat), SC M s → callN X (d + 200) 71 [vR 2 0, vI z, vI m, vI a, vI k, vI e] (M, w, true, true, [], t, u) = cond (nIn a (gP (sW s))) (cond (nIn k 100000) (cond (nIn e 2) (nR X (callN X (d + 199)) hX6_chance 53 [vR 2 0, vI z, vI m, vI a, vI k, vI e, vI 0, vI 0] [] (M, w, true, true, [], t, u)) (some (some (vL (-4611686018427387904)), (M, w, true, true, [], t, u)))) (some (some (vL (-4611686018427387904)), (M, w, true, true, [], t, u)))) (some (some (vL (-4611686018427387904)), (M, w, true, true, [], t, u))) := by
    intro d M w t u h
    rw [show d + 200 = d + 199 + 1 from rfl, aX6_chance, if_neg hm1, if_neg hm2, cHas X (d + 198) a w true [] t u h.1 hP, bnd_s, tl_s, bX6_chance_19, if_b, cPart, bnd_s, tl_s, bX6_chance_40, if_b, if_in4 (n := 100000) rfl]
  have hm : ∀ (d : Nat) (M : MM) (w : Int64) (t u : Nat), SM M s → callN X (d + 200) 182 [vR 30 0, vI z, vI m, vI a, vI k, vI e] (M, w, true, true, [], t, u) = cond (nIn a (gP (sW s))) (cond (nIn k 100000) (cond (nIn e 2) (nR X (callN X (d + 199)) hX7_chance 54 [vR 30 0, vI z, vI m, vI a, vI k, vI e, vL 0, vX, vI 0] [] (M, w, true, true, [], t, u)) (some (some (vL (-4611686018427387904)), (M, w, true, true, [], t, u)))) (some (some (vL (-4611686018427387904)), (M, w, true, true, [], t, u)))) (some (some (vL (-4611686018427387904)), (M, w, true, true, [], t, u))) := by
    intro d M w t u h
    rw [show d + 200 = d + 199 + 1 from rfl, aX7_chance, sX7_in X (d + 198), hin, decide_eq_true cm, bnd_s, tl_s, bV, bX7_chance_9, if_b, cond_tt rfl, mOne X (d + 197) a w [] t u h.1 hP, bnd_s, tl_s, bX7_chance_17, if_b, mIn X (d + 198) k (n := 100000) rfl, bnd_s, tl_s, bX7_chance_30, if_b, mIn X (d + 198) e (n := 2) rfl, bnd_s, tl_s, bX7_chance_41, if_b]
  cases c1 : nIn a (gP (sW s))
  · exact q_bad X hB (vL (-4611686018427387904)) (fun d M w t u h => by rw [hc d M w t u h, c1]; rfl) (fun d M w t u h => by rw [hm d M w t u h, c1]; rfl)
  cases c2 : nIn k 100000
  · exact q_bad X hB (vL (-4611686018427387904)) (fun d M w t u h => by rw [hc d M w t u h, c1, c2]; rfl) (fun d M w t u h => by rw [hm d M w t u h, c1, c2]; rfl)
  cases c3 : nIn e 2
  · exact q_bad X hB (vL (-4611686018427387904)) (fun d M w t u h => by rw [hc d M w t u h, c1, c2, c3]; rfl) (fun d M w t u h => by rw [hm d M w t u h, c1, c2, c3]; rfl)
  rw [c1, c2, c3] at hc hm
  obtain ⟨o, ho, rfl⟩ := in_ex c1 (by omega)
  obtain ⟨e, he, rfl⟩ := in_ex c3 (by omega)
  obtain ⟨n, hn, rfl⟩ := nI_of (x := m) (by
    rw [Int32.lt_iff_toInt_lt]
    have h0 : (0 : Int32).toInt = 0 := rfl
    omega)
  rw [nI_toInt hn] at cm
  have hchn := chN_le s o z k n
  have cloop : ∀ (d : Nat) (M : MM) (w : Int64) (t u : Nat), SC M s → ∀ (j i : Nat) (Mi : MM), i + j = n → frT7 M Mi → ∃ M2, nR X (callN X (d + 199)) hX6_chance 53 [vR 2 0, vI z, vI (nI n), vI (nI o), vI k, vI (nI e), vI (nI (chN s o z k i)), vI (nI i)] [] (Mi, w, true, true, [], t, u) = some (some (vL (lwN (chN s o z k n) n e)), (M2, w, true, true, [], t, u)) ∧ frT7 M M2 := by
    intro d M w t u h j
    induction j with
    | zero =>
      intro i Mi hi hf
      have hi : i = n := hi
      subst hi
      refine ⟨Mi, ?_, hf⟩
      rw [bX6_chance_53, if_pos (nI_le (Nat.le_refl _) (by omega)), cLow X (d + 198) Mi w true [] t u (by omega) (by omega) he, bnd_s, tl_s, bX6_chance_91]
    | succ j ih =>
      intro i Mi hi hf
      obtain ⟨M1, g1, g2⟩ := cDrawn X (d + 193) w t u (o := o) (n := 5) (z + nI i) (h.fr hf.C) hB (show o < 5 by omega) (by omega)
      have g1 : callN X (d + 199) 103 [vR 2 0, vI (z + nI i), vI (nI o), vI 5] (Mi, w, true, true, [], t, u) = _ := g1
      rw [bX6_chance_53, if_neg (nI_ge (by omega) (by omega)), g1, bnd_s, tl_s, bX6_chance_69, nI_1, nI_1]
      have := ih (i + 1) M1 (by omega) (fun a b c q q2 q3 => (g2 a b c q q2 q3).trans (hf a b c q q2 q3))
      have e9 : chN s o z k (i + 1) = chN s o z k i + (if nI (drV s o 5 (z + nI i)) < k then 0 else 1) := rfl
      rw [e9] at this
      by_cases y : nI (drV s o 5 (z + nI i)) < k
      · rw [if_pos y] at this ⊢
        exact this
      · rw [if_neg y] at this ⊢
        exact this
  have mloop : ∀ (d : Nat) (t u : Nat) (j i : Nat) (Mi : MM) (wi : Int64), i + j = n → SM Mi s → ∃ (M2 : MM) (w2 : Int64), nR X (callN X (d + 199)) hX7_chance 54 [vR 30 0, vI z, vI (nI n), vI (nI o), vI k, vI (nI e), vL (lN (chN s o z k i)), vX, vI (nI i)] [] (Mi, wi, true, true, [], t, u) = some (some (vL (lwN (chN s o z k n) n e)), (M2, w2, true, true, [], t, u)) ∧ SM M2 s ∧ ∀ a b c, a < 30 → M2 a b c = Mi a b c := by
    intro d t u j
    induction j with
    | zero =>
      intro i Mi wi hi hS
      have hi : i = n := hi
      subst hi
      refine ⟨Mi, wi, ?_, hS, fun _ _ _ _ => rfl⟩
      rw [bX7_chance_54, if_pos (nI_le (Nat.le_refl _) (by omega)), nI_l (by omega), mLow X (d + 198) Mi wi [] t u (by omega) (by omega) he (by omega), bnd_s, tl_s, bX7_chance_100]
    | succ j ih =>
      intro i Mi wi hi hS
      obtain ⟨M1, w1, g1, g2, g3⟩ := mDrawn X (d + 141) wi t u (o := o) (n := 5) (z + nI i) hS hB ho (by omega)
      have g1 : callN X (d + 199) 180 [vR 30 0, vI (z + nI i), vI (nI o), vI 5] (Mi, wi, true, true, [], t, u) = _ := g1
      rw [bX7_chance_54, if_neg (nI_ge (by omega) (by omega)), g1, bnd_s]
      show ∃ (M2 : MM) (w2 : Int64), nR X (callN X (d + 199)) hX7_chance 72 _ [vI (nI (drV s o 5 (z + nI i))), vL (lN (chN s o z k i))] _ = _ ∧ _
      rw [bX7_chance_72, nI_1, show (0 : Int64) = lN 0 from rfl, show (1 : Int64) = lN 1 from rfl, lN_add, lN_add]
      obtain ⟨M2, w2, f1, f2, f3⟩ := ih (i + 1) M1 w1 (by omega) g2
      have e9 : chN s o z k (i + 1) = chN s o z k i + (if nI (drV s o 5 (z + nI i)) < k then 0 else 1) := rfl
      rw [e9] at f1
      refine ⟨M2, w2, ?_, f2, fun a b c q => (f3 a b c q).trans (g3 a b c q)⟩
      by_cases y : nI (drV s o 5 (z + nI i)) < k
      · rw [if_pos y] at f1 ⊢
        exact f1
      · rw [if_neg y] at f1 ⊢
        exact f1
  refine ⟨vL (lwN (chN s o z k n) n e), s, CSp.q X (fun d M w t u h => ?_), fun d M w t u h => ?_, hB⟩
  · obtain ⟨M2, f1, f2⟩ := cloop d M w t u h n 0 M (Nat.zero_add _) (fun _ _ _ _ _ _ => rfl)
    exact ⟨M2, (hc d M w t u h).trans f1, fun a b j q => f2 a b j (by omega) (by omega) (by omega)⟩
  · obtain ⟨M2, w2, f1, f2, f3⟩ := mloop d t u n 0 M w (Nat.zero_add _) h
    exact ⟨M2, w2, t, u, (hm d M w t u h).trans f1, f2, f3, by omega, by omega⟩
end
