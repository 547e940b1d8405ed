/-! the start -/
def b40 (j : Nat) : Nat := [116, 97, 107, 101, 115, 32, 103, 114, 97, 105, 110, 115, 32, 59, 32, 107, 101, 101, 112, 115, 32, 53, 48, 32, 59, 32, 115, 117, 114, 101, 32, 103, 114, 97, 105, 110, 115, 32, 59, 32].getD j 0
abbrev gz : GW := (0, 0, 0, fun _ => 0, fun _ => 0, fun _ => 0, fun _ => 0, fun _ => 0)
abbrev hz : Nat → GH := fun _ => (false, 0, 0, fun _ => 0)
/-- behind i letters of the first text -/
abbrev sF (i : Nat) : GS := (gz, (false, gz), (b40, i), (0, fun _ => (b40, 40)), hz)
abbrev s00 : GS := (gz, (false, gz), (b40, 0), (1, fun _ => (b40, 40)), hz)
theorem b40_lt (j : Nat) : b40 j < 256 := by
  by_cases h : j < 40
  · exact (show ∀ j, j < 40 → b40 j < 256 by decide +kernel) j h
  · unfold b40
    rw [List.getD_eq_getElem?_getD, List.getElem?_eq_none (by show 40 ≤ j; omega)]
    decide
theorem p40 : (pTx b40 40).1 = true ∧ (pTx b40 39).1 = true ∧ (pTx b40 39).2.1 = (pTx b40 40).2.1 ∧ (pTx b40 39).2.2.1 = (pTx b40 40).2.2.1 ∧ (pTx b40 39).2.2.2.1 = (pTx b40 40).2.2.2.1 := by decide +kernel
theorem ch40 : ∀ j, j < 39 → nSch 0 j = nI (b40 j) := by decide +kernel
def Zq (M : MM) : Prop := ∀ k i j, k ≠ 18 → k ≠ 20 → M k i j = 0
theorem Zq.z {M : MM} {k i : Nat} (h : Zq M) : Zq (nZ M k i) := fun a b c q q2 => by
  unfold nZ
  split
  · rfl
  · exact h a b c q q2
theorem Zq.s {M : MM} {k i j : Nat} (h : Zq M) : Zq (nSt M k i j 0) := fun a b c q q2 => by
  unfold nSt
  split
  · rfl
  · exact h a b c q q2
theorem Zq.t {M : MM} {k i j : Nat} {v : Int32} (h : Zq M) (hk : k = 18 ∨ k = 20) : Zq (nSt M k i j v) := fun a b c q q2 => (nst_ne (by omega)).trans (h a b c q q2)
section
variable (X : Nat × (Nat → Int32))
theorem cAlloc (d : Nat) (w : Int64) : ∃ M2, nR X (callN X (d + 201)) hX6_init 0 [vR 2 0, vX] [] (nZ (fun _ _ _ => 0) 2 0, w, false, false, [], 1, 12) = nR X (callN X (d + 201)) hX6_init 163 [vR 2 0, vI 0] [] (M2, w, true, false, [], 53, 1935) ∧ Zq M2 ∧ ∀ i, i < 4 → M2 18 i 0 = -1 := by
  rw [sc1 X (d + 201), ci1 X (d + 200), bnd_s, tl_n, sc2 X (d + 201), sc3 X (d + 201), ci2 X (d + 200), bnd_s, tl_n, sc4 X (d + 201), sc5 X (d + 201), ci3 X (d + 200), bnd_s, tl_n, sc6 X (d + 201), sc7 X (d + 201), sc8 X (d + 201), sc9 X (d + 201), ci4 X (d + 200), bnd_s, tl_n, sc10 X (d + 201), sc11 X (d + 201), sc12 X (d + 201), sc13 X (d + 201), sc14 X (d + 201), sc15 X (d + 201), sc16 X (d + 201), ci5 X (d + 200), bnd_s, tl_n, sc17 X (d + 201), sc18 X (d + 201), sc19 X (d + 201), ci6 X (d + 200), bnd_s, tl_n, sc20 X (d + 201), sc21 X (d + 201), sc22 X (d + 201), ci7 X (d + 200), bnd_s, tl_n, sc23 X (d + 201), sc24 X (d + 201), sc25 X (d + 201), ci8 X (d + 200), bnd_s, tl_n, sc26 X (d + 201), sc27 X (d + 201), sc28 X (d + 201), ci9 X (d + 200), bnd_s, tl_n, sc29 X (d + 201), sc30 X (d + 201), sc31 X (d + 201), ci10 X (d + 200), bnd_s, tl_n, sc32 X (d + 201), sc33 X (d + 201), sc34 X (d + 201), sc35 X (d + 201), ci11 X (d + 200), bnd_s, tl_n, sc36 X (d + 201), sc37 X (d + 201), sc38 X (d + 201), ci12 X (d + 200), bnd_s, tl_n, sc39 X (d + 201), sc40 X (d + 201), sc41 X (d + 201), ci13 X (d + 200), bnd_s, tl_n, sc42 X (d + 201), sc43 X (d + 201), sc44 X (d + 201), ci14 X (d + 200), bnd_s, tl_n, sc45 X (d + 201), sc46 X (d + 201), sc47 X (d + 201)]
  refine ⟨_, rfl, ?_, fun i hi => ?_⟩
  · repeat first | exact (fun _ _ _ _ _ => rfl) | refine Zq.z ?_ | refine Zq.s ?_ | refine Zq.t ?_ (by decide)
  · rcases i with _ | _ | _ | _ | i
    · rfl
    · rfl
    · rfl
    · rfl
    · omega
theorem cFeedF (fm : Bool) (d : Nat) {M : MM} (w : Int64) (l : List (Nat × Nat × Nat)) (t u : Nat) {n x : Nat} (h9 : M 9 0 1 = nI n) (hn : n < 160) (hx : x < 256) : callN X (d + 2) 55 [vR 2 0, vI (nI x)] (M, w, true, fm, l, t, u) = some (some (vI (nI (n + 1))), (nSt (nSt M 10 0 n (nI x)) 9 0 1 (nI (n + 1)), w, true, fm, l, t, u)) := by
  rw [show d + 2 = d + 1 + 1 from rfl, aX6_feed, if_in2 (n := 256) rfl, nin_t hx, cond_tt rfl, aX2_add, h9, li160, if_pos (nI_lt (by omega) (by omega)), nin_t (by omega), cond_tt rfl, nst_self, nst_fr (by omega), nI_clamp (by omega), h9, nI_1, bnd_s, tl_s, bX6_feed_22]
theorem cTextF (fm : Bool) {s : GS} (hN : sN s ≤ 6) (hT1 : (sT s).2 ≤ 160) (hT2 : ∀ j, (sT s).1 j < 256) (d : Nat) (M : MM) (w : Int64) (t u : Nat) (h : SC M s) : ∃ M2, callN X (d + 200) 56 [vR 2 0] (M, w, true, fm, [], t, u) = some (some (vI (txV s)), (M2, w, true, fm, [], t, u)) ∧ SC M2 (txS s) ∧ ∀ k i j, 30 ≤ k → M2 k i j = M k i j := by
  unfold txV txS
  by_cases c : sN s = 6
  · rw [if_pos c, if_pos c]
    refine ⟨M, ?_, h, fun _ _ _ _ => rfl⟩
    rw [show d + 200 = d + 199 + 1 from rfl, aX6_text, h.2.2.2.1.1, c, if_neg (by decide)]
  rw [if_neg c, if_neg c]
  have hR : RdC M (sT s).1 (sT s).2 := ⟨h.2.2.1.1, hT1, h.2.2.1.2, hT2⟩
  obtain ⟨M1, e1, e2, e3⟩ := sX2_read X w fm [] t u (d + 112) hR
  have e1 : callN X (d + 199) 14 [vR 9 0] (M, w, true, fm, [], t, u) = some (some (vI (cond (pTx (sT s).1 (sT s).2).1 (-1) (nI (tq (sT s).1 (sT s).2 (pTx (sT s).1 (sT s).2).2.2.2.2)))), (M1, w, true, fm, [], t, u)) := e1
  have hfr : ∀ k a j, ¬ (k = 9 ∧ 4 ≤ j) → k ≠ 11 → ¬ (k = 12 ∧ 0 < j) → M1 k a j = M k a j := fun k a j q1 q2 q3 => e2 k a j q1 (by omega) (by omega)
  have h25 : M1 2 0 5 = nI (sN s) := (hfr 2 0 5 (by omega) (by omega) (by omega)).trans h.2.2.2.1.1
  have hrun : callN X (d + 200) 56 [vR 2 0] (M, w, true, fm, [], t, u) = nR X (callN X (d + 199)) hX6_text 19 [vR 2 0, vX] [vI (cond (pTx (sT s).1 (sT s).2).1 (-1) (nI (tq (sT s).1 (sT s).2 (pTx (sT s).1 (sT s).2).2.2.2.2)))] (M1, w, true, fm, [], t, u) := by
    rw [show d + 200 = d + 199 + 1 from rfl, aX6_text, h.2.2.2.1.1, if_pos (show nI (sN s) < 6 from nI_lt (b := 6) (by omega) (by omega)), e1, bnd_s]
    rfl
  rw [hrun]
  have htq : tq (sT s).1 (sT s).2 (pTx (sT s).1 (sT s).2).2.2.2.2 < 2 ^ 31 := by
    have := pTx_pos (n := (sT s).2) hT2
    omega
  revert e3
  cases e : (pTx (sT s).1 (sT s).2).1
  · intro _
    refine ⟨nSt M1 9 0 1 0, ?_, ⟨?_, ?_, ?_, ?_, fun i hi => ?_⟩, fun k i j q => (nst_fr (by omega)).trans (hfr k i j (by omega) (by omega) (by omega))⟩
    · rw [bX6_text_19]
      simp only [cond_false]
      rw [if_neg (nw_ne htq)]
    · exact h.1.fr (fun k i j _ _ => (nst_fr (by omega)).trans (hfr k i j (by omega) (by omega) (by omega)))
    · exact h.2.1.fr (fun k i j _ => (nst_fr (by omega)).trans (hfr k i j (by omega) (by omega) (by omega)))
    · exact ⟨nst_self _ _ _ _ _, fun j hj => absurd hj (Nat.not_lt_zero j)⟩
    · exact h.2.2.2.1.fr (fun k i j _ => (nst_fr (by omega)).trans (hfr k i j (by omega) (by omega) (by omega)))
    · exact (h.2.2.2.2 i hi).fr (fun k i j _ => (nst_fr (by omega)).trans (hfr k i j (by omega) (by omega) (by omega)))
  · intro e3
    obtain ⟨⟨f1, f2, f3⟩, f4⟩ := e3 rfl
    have hG : TxG (sT s).1 (sT s).2 := ⟨hT1, hT2, e⟩
    have hlen := pTx_len e
    have hcode : ∀ j, j < (((pTx (sT s).1 (sT s).2).2.1 ++ (pTx (sT s).1 (sT s).2).2.2.1) ++ (pTx (sT s).1 (sT s).2).2.2.2.1).length → j < 160 := fun j hj => by omega
    have h120 : M1 12 0 0 = 0 := (hfr 12 0 0 (by omega) (by omega) (by omega)).trans h.2.1.1.2
    refine ⟨nSt (nCpy (nCpy (nSt M1 9 0 1 0) 11 0 0 15 (sN s) 0 160) 12 0 0 16 (sN s) 0 4) 2 0 5 (nI (sN s + 1)), ?_, ⟨?_, ?_, ?_, ?_, fun i hi => ?_⟩, fun k i j q => (nst_fr (by omega)).trans ((cpy_ne (by omega)).trans ((cpy_ne (by omega)).trans ((nst_fr (by omega)).trans (hfr k i j (by omega) (by omega) (by omega)))))⟩
    · rw [bX6_text_19]
      simp only [cond_true]
      rw [if_pos trivial, nst_fr (by omega), h25, nin_t (show sN s < 6 by omega), cond_tt rfl, nI_clamp (by omega), show d + 199 = d + 198 + 1 from rfl, aX4_becomes, bnd_s, tl_n, bX6_text_64, nst_self, show (0 : Int32).toNatClampNeg = 0 from rfl, show (160 : Int32).toNatClampNeg = 160 from rfl, show (4 : Int32).toNatClampNeg = 4 from rfl, cpy_ne (by omega), cpy_ne (by omega), nst_fr (by omega), h25, nI_1, nI_pred]
    · exact h.1.fr (fun k i j _ _ => (nst_fr (by omega)).trans ((cpy_ne (by omega)).trans ((cpy_ne (by omega)).trans ((nst_fr (by omega)).trans (hfr k i j (by omega) (by omega) (by omega))))))
    · exact h.2.1.fr (fun k i j _ => (nst_fr (by omega)).trans ((cpy_ne (by omega)).trans ((cpy_ne (by omega)).trans ((nst_fr (by omega)).trans (hfr k i j (by omega) (by omega) (by omega))))))
    · exact ⟨(nst_fr (by omega)).trans ((cpy_ne (by omega)).trans ((cpy_ne (by omega)).trans (nst_self _ _ _ _ _))), fun j hj => absurd hj (Nat.not_lt_zero j)⟩
    · refine ⟨nst_self _ _ _ _ _, fun j hj => ?_⟩
      have hj : j < sN s + 1 := hj
      show TxC _ j (pTx (upX (sX s) (sN s) (sT s) j).1 (upX (sX s) (sN s) (sT s) j).2)
      unfold upX
      by_cases y : j = sN s
      · rw [if_pos y, y]
        refine ⟨?_, ?_, ?_, ?_, fun q hq => ?_⟩
        · exact (nst_fr (by omega)).trans ((cpy_0 (by omega)).trans ((cpy_ne (by omega)).trans ((nst_fr (by omega)).trans h120)))
        · exact (nst_fr (by omega)).trans ((cpy_0 (by omega)).trans ((cpy_ne (by omega)).trans ((nst_fr (by omega)).trans f1)))
        · exact (nst_fr (by omega)).trans ((cpy_0 (by omega)).trans ((cpy_ne (by omega)).trans ((nst_fr (by omega)).trans f2)))
        · exact (nst_fr (by omega)).trans ((cpy_0 (by omega)).trans ((cpy_ne (by omega)).trans ((nst_fr (by omega)).trans f3)))
        · exact (nst_fr (by omega)).trans ((cpy_ne (by omega)).trans ((cpy_0 (hcode q hq)).trans ((nst_fr (by omega)).trans (f4 q hq))))
      · rw [if_neg y]
        obtain ⟨g0, g1, g2, g3, g4⟩ := h.2.2.2.1.2 j (by omega)
        refine ⟨?_, ?_, ?_, ?_, fun q hq => ?_⟩
        · exact (nst_fr (by omega)).trans ((cpy_ne (by omega)).trans ((cpy_ne (by omega)).trans ((nst_fr (by omega)).trans ((hfr _ _ _ (by omega) (by omega) (by omega)).trans g0))))
        · exact (nst_fr (by omega)).trans ((cpy_ne (by omega)).trans ((cpy_ne (by omega)).trans ((nst_fr (by omega)).trans ((hfr _ _ _ (by omega) (by omega) (by omega)).trans g1))))
        · exact (nst_fr (by omega)).trans ((cpy_ne (by omega)).trans ((cpy_ne (by omega)).trans ((nst_fr (by omega)).trans ((hfr _ _ _ (by omega) (by omega) (by omega)).trans g2))))
        · exact (nst_fr (by omega)).trans ((cpy_ne (by omega)).trans ((cpy_ne (by omega)).trans ((nst_fr (by omega)).trans ((hfr _ _ _ (by omega) (by omega) (by omega)).trans g3))))
        · exact (nst_fr (by omega)).trans ((cpy_ne (by omega)).trans ((cpy_ne (by omega)).trans ((nst_fr (by omega)).trans ((hfr _ _ _ (by omega) (by omega) (by omega)).trans (g4 q hq)))))
    · exact (h.2.2.2.2 i hi).fr (fun k i j _ => (nst_fr (by omega)).trans ((cpy_ne (by omega)).trans ((cpy_ne (by omega)).trans ((nst_fr (by omega)).trans (hfr k i j (by omega) (by omega) (by omega))))))
theorem cInit (d : Nat) (w : Int64) : ∃ M2, callN X (d + 202) 50 [vR 2 0] (nZ (fun _ _ _ => 0) 2 0, w, false, false, [], 1, 12) = some (none, (M2, w, true, false, [], 53, 1935)) ∧ SC M2 s00 := by
  obtain ⟨M1, e1, e2, e3⟩ := cAlloc X d w
  have h0 : SC M1 (sF 0) := ⟨⟨e2 3 0 0 (by omega) (by omega), e2 3 0 1 (by omega) (by omega), e2 3 0 2 (by omega) (by omega), fun j _ => e2 4 0 j (by omega) (by omega), fun j _ => e2 5 0 j (by omega) (by omega), fun j _ => e2 6 0 j (by omega) (by omega), fun j _ => e2 7 0 j (by omega) (by omega), fun j _ => e2 8 0 j (by omega) (by omega)⟩, ⟨⟨e2 2 0 2 (by omega) (by omega), e2 12 0 0 (by omega) (by omega)⟩, fun q => by cases q⟩, ⟨e2 9 0 1 (by omega) (by omega), fun j hj => absurd hj (Nat.not_lt_zero j)⟩, ⟨e2 2 0 5 (by omega) (by omega), fun j hj => absurd hj (Nat.not_lt_zero j)⟩, fun i hi => ⟨fun _ => e3 i hi, fun q => by cases q⟩⟩
  have loop : ∀ (m i : Nat) (Mi : MM), i + m = 39 → SC Mi (sF i) → ∃ M2, nR X (callN X (d + 201)) hX6_init 163 [vR 2 0, vI (nI i)] [] (Mi, w, true, false, [], 53, 1935) = nR X (callN X (d + 201)) hX6_init 163 [vR 2 0, vI (nI 39)] [] (M2, w, true, false, [], 53, 1935) ∧ SC M2 (sF 39) := by
    intro m
    induction m with
    | zero =>
      intro i Mi hi h
      have hi : i = 39 := hi
      subst hi
      exact ⟨Mi, rfl, h⟩
    | succ m ih =>
      intro i Mi hi h
      obtain ⟨M2, f1, f2⟩ := ih (i + 1) (nSt (nSt Mi 10 0 i (nI (b40 i))) 9 0 1 (nI (i + 1))) (by omega) ⟨h.1.fr (fun k i j _ _ => (nst_fr (by omega)).trans (nst_fr (by omega))), h.2.1.fr (fun k i j _ => (nst_fr (by omega)).trans (nst_fr (by omega))), ⟨nst_self _ _ _ _ _, fun j hj => by
        refine (nst_fr (by omega)).trans ?_
        by_cases cj : j = i
        · rw [cj, nst_self]
        · rw [nst_j cj]
          exact h.2.2.1.2 j (by have : j < i + 1 := hj; show j < i; omega)⟩, h.2.2.2.1.fr (fun k i j _ => (nst_fr (by omega)).trans (nst_fr (by omega))), fun i hi => (h.2.2.2.2 i hi).fr (fun k i j _ => (nst_fr (by omega)).trans (nst_fr (by omega)))⟩
      refine ⟨M2, ?_, f2⟩
      rw [bX6_init_163, show Int32.ofNat (nSlen 0) = nI 39 from rfl, if_neg (nI_ge (by omega) (by omega)), show nSlen 0 = 39 from rfl, nin_t (show i < 39 by omega), show Nat.blt 0 13 = true from rfl, Bool.true_and, cond_tt rfl, nI_clamp (by omega), ch40 i (by omega), cFeedF X false (d + 199) w [] 53 1935 h.2.2.1.1 (show i < 160 by omega) (b40_lt i), bnd_s, tl_s, bX6_init_182, nI_1]
      exact f1
  obtain ⟨M2, f1, f2⟩ := loop 39 0 M1 rfl h0
  obtain ⟨M3, g1, g2, g3⟩ := cTextF X false (s := sF 39) (Nat.zero_le 6) (by decide) b40_lt (d + 1) M2 w 53 1935 f2
  have hS : SC M3 (gz, (false, gz), (b40, 0), (1, upX (fun _ => (b40, 40)) 0 (b40, 39)), hz) := by
    have e : txS (sF 39) = (gz, (false, gz), (b40, 0), (1, upX (fun _ => (b40, 40)) 0 (b40, 39)), hz) := by
      unfold txS
      rw [if_neg (show ¬ sN (sF 39) = 6 by decide)]
      show cond (pTx b40 39).1 _ _ = _
      rw [p40.2.1]
      rfl
    rw [e] at g2
    exact g2
  refine ⟨M3, ?_, ⟨hS.1, hS.2.1, hS.2.2.1, ⟨hS.2.2.2.1.1, fun j hj => ?_⟩, hS.2.2.2.2⟩⟩
  · have f1 : nR X (callN X (d + 201)) hX6_init 163 [vR 2 0, vI 0] [] (M1, w, true, false, [], 53, 1935) = _ := f1
    have g1 : callN X (d + 201) 56 [vR 2 0] (M2, w, true, false, [], 53, 1935) = _ := g1
    refine (show callN X (d + 202) 50 [vR 2 0] (nZ (fun _ _ _ => 0) 2 0, w, false, false, [], 1, 12) = nR X (callN X (d + 201)) hX6_init 0 [vR 2 0, vX] [] (nZ (fun _ _ _ => 0) 2 0, w, false, false, [], 1, 12) from rfl).trans ?_
    rw [e1, f1, bX6_init_163, if_pos (by decide), g1, bnd_s, tl_s, bX6_init_193]
  · have hj : j < 1 := hj
    have hj : j = 0 := by omega
    subst hj
    have hx : TxC M3 0 (pTx b40 39) := hS.2.2.2.1.2 0 (by decide)
    show TxC M3 0 (pTx b40 40)
    obtain ⟨x0, x1, x2, x3, x4⟩ := hx
    rw [p40.2.2.1] at x1
    rw [p40.2.2.1, p40.2.2.2.1] at x2
    rw [p40.2.2.1, p40.2.2.2.1, p40.2.2.2.2] at x3 x4
    exact ⟨x0, x1, x2, x3, x4⟩
def spM (M : MM) (p : Nat) (a1 a2 a3 a4 a5 a6 a7 a8 : Int32) : MM := nSt (nSt (nSt (nSt (nSt (nSt (nSt (nSt M 31 0 p a1) 31 0 (p + 1) a2) 31 0 (p + 2) a3) 31 0 (p + 3) a4) 31 0 (p + 4) a5) 31 0 (p + 5) a6) 31 0 (p + 6) a7) 31 0 (p + 7) a8
theorem mSpell (d p : Nat) (a1 a2 a3 a4 a5 a6 a7 a8 : Int32) (M : MM) (w : Int64) (l : List (Nat × Nat × Nat)) (t u : Nat) (hp : p + 8 ≤ 960) : callN X (d + 1) 114 [vR 30 0, vI (nI p), vI a1, vI a2, vI a3, vI a4, vI a5, vI a6, vI a7, vI a8] (M, w, true, true, l, t, u) = some (none, (spM M p a1 a2 a3 a4 a5 a6 a7 a8, w, true, true, l, t, u)) := by
  rw [aX7_spell, show nI p + 1 = nI (p + 1) from nI_add p 1, show nI p + 2 = nI (p + 2) from nI_add p 2, show nI p + 3 = nI (p + 3) from nI_add p 3, show nI p + 4 = nI (p + 4) from nI_add p 4, show nI p + 5 = nI (p + 5) from nI_add p 5, show nI p + 6 = nI (p + 6) from nI_add p 6, show nI p + 7 = nI (p + 7) from nI_add p 7, nin_t (show p < 960 by omega), nin_t (show p + 1 < 960 by omega), nin_t (show p + 2 < 960 by omega), nin_t (show p + 3 < 960 by omega), nin_t (show p + 4 < 960 by omega), nin_t (show p + 5 < 960 by omega), nin_t (show p + 6 < 960 by omega), nin_t (show p + 7 < 960 by omega), nI_clamp (by omega), nI_clamp (by omega), nI_clamp (by omega), nI_clamp (by omega), nI_clamp (by omega), nI_clamp (by omega), nI_clamp (by omega), nI_clamp (by omega)]
  rfl
theorem mAlloc (d : Nat) (M : MM) (w : Int64) : ∃ M2, nR X (callN X d) hX7_init 0 [vR 30 0] [] (nZ M 30 0, w, true, false, [], 54, 1984) = nR X (callN X d) hX7_init 152 [vR 30 0] [] (M2, w, true, true, [], 72, 3493) ∧ (∀ k j, 30 ≤ k → k ≤ 48 → ¬ (k = 30 ∧ j = 42) → M2 k 0 j = 0) ∧ M2 30 0 42 = -1 ∧ ∀ k i j, k < 30 → M2 k i j = M k i j := by
  rw [sm1, sm2, sm3, sm4, sm5, sm6, sm7, sm8, sm9, sm10, sm11, sm12, sm13, sm14, sm15, sm16, sm17, sm18]
  refine ⟨_, rfl, fun k j h1 h2 h3 => ?_, rfl, fun k i j h => ?_⟩
  · have hk : k = 30 ∨ k = 31 ∨ k = 32 ∨ k = 33 ∨ k = 34 ∨ k = 35 ∨ k = 36 ∨ k = 37 ∨ k = 38 ∨ k = 39 ∨ k = 40 ∨ k = 41 ∨ k = 42 ∨ k = 43 ∨ k = 44 ∨ k = 45 ∨ k = 46 ∨ k = 47 ∨ k = 48 := by omega
    rcases hk with rfl | rfl | rfl | rfl | rfl | rfl | rfl | rfl | rfl | rfl | rfl | rfl | rfl | rfl | rfl | rfl | rfl | rfl | rfl
    · have hj : ¬ j = 42 := fun q => h3 ⟨rfl, q⟩
      simp [nZ, nSt, hj]
    all_goals rfl
  · simp only [nZ, nSt]
    repeat rw [if_neg (by omega)]
theorem mInit (d : Nat) (M : MM) (w : Int64) : ∃ M2, callN X (d + 2) 113 [vR 30 0] (nZ M 30 0, w, true, false, [], 54, 1984) = some (none, (M2, w, true, true, [], 72, 3493)) ∧ SM M2 s00 ∧ ∀ k i j, k < 30 → M2 k i j = M k i j := by
  obtain ⟨M1, e1, e2, e3, e4⟩ := mAlloc X (d + 1) M w
  have q0 : ∀ (M : MM), callN X (d + 1) 114 [vR 30 0, vI 0, vI 116, vI 97, vI 107, vI 101, vI 115, vI 32, vI 103, vI 114] (M, w, true, true, [], 72, 3493) = some (none, (spM M 0 116 97 107 101 115 32 103 114, w, true, true, [], 72, 3493)) := fun M => mSpell X d 0 116 97 107 101 115 32 103 114 M w [] 72 3493 (by decide)
  have q1 : ∀ (M : MM), callN X (d + 1) 114 [vR 30 0, vI 8, vI 97, vI 105, vI 110, vI 115, vI 32, vI 59, vI 32, vI 107] (M, w, true, true, [], 72, 3493) = some (none, (spM M 8 97 105 110 115 32 59 32 107, w, true, true, [], 72, 3493)) := fun M => mSpell X d 8 97 105 110 115 32 59 32 107 M w [] 72 3493 (by decide)
  have q2 : ∀ (M : MM), callN X (d + 1) 114 [vR 30 0, vI 16, vI 101, vI 101, vI 112, vI 115, vI 32, vI 53, vI 48, vI 32] (M, w, true, true, [], 72, 3493) = some (none, (spM M 16 101 101 112 115 32 53 48 32, w, true, true, [], 72, 3493)) := fun M => mSpell X d 16 101 101 112 115 32 53 48 32 M w [] 72 3493 (by decide)
  have q3 : ∀ (M : MM), callN X (d + 1) 114 [vR 30 0, vI 24, vI 59, vI 32, vI 115, vI 117, vI 114, vI 101, vI 32, vI 103] (M, w, true, true, [], 72, 3493) = some (none, (spM M 24 59 32 115 117 114 101 32 103, w, true, true, [], 72, 3493)) := fun M => mSpell X d 24 59 32 115 117 114 101 32 103 M w [] 72 3493 (by decide)
  have q4 : ∀ (M : MM), callN X (d + 1) 114 [vR 30 0, vI 32, vI 114, vI 97, vI 105, vI 110, vI 115, vI 32, vI 59, vI 32] (M, w, true, true, [], 72, 3493) = some (none, (spM M 32 114 97 105 110 115 32 59 32, w, true, true, [], 72, 3493)) := fun M => mSpell X d 32 114 97 105 110 115 32 59 32 M w [] 72 3493 (by decide)
  have hrun : callN X (d + 2) 113 [vR 30 0] (nZ M 30 0, w, true, false, [], 54, 1984) = some (none, (nSt (nSt (spM (spM (spM (spM (spM M1 0 116 97 107 101 115 32 103 114) 8 97 105 110 115 32 59 32 107) 16 101 101 112 115 32 53 48 32) 24 59 32 115 117 114 101 32 103) 32 114 97 105 110 115 32 59 32) 32 0 0 40) 30 0 3 1, w, true, true, [], 72, 3493)) := by
    refine (show callN X (d + 2) 113 [vR 30 0] (nZ M 30 0, w, true, false, [], 54, 1984) = nR X (callN X (d + 1)) hX7_init 0 [vR 30 0] [] (nZ M 30 0, w, true, false, [], 54, 1984) from rfl).trans ?_
    rw [e1, sm19, q0, bnd_s, tl_n, sm20, q1, bnd_s, tl_n, sm21, q2, bnd_s, tl_n, sm22, q3, bnd_s, tl_n, sm23, q4, bnd_s, tl_n, sm24]
    rfl
  have hsp : ∀ (M : MM) (p : Nat) (a1 a2 a3 a4 a5 a6 a7 a8 : Int32) (k i j : Nat), k ≠ 31 → spM M p a1 a2 a3 a4 a5 a6 a7 a8 k i j = M k i j := fun M p a1 a2 a3 a4 a5 a6 a7 a8 k i j q => by
    unfold spM
    rw [nst_ne q, nst_ne q, nst_ne q, nst_ne q, nst_ne q, nst_ne q, nst_ne q, nst_ne q]
  refine ⟨_, hrun, ?_, fun k i j q => ?_⟩
  · have hz : ∀ k j, 30 ≤ k → k ≤ 48 → k ≠ 31 → ¬ (k = 32 ∧ j = 0) → ¬ (k = 30 ∧ j = 3) → ¬ (k = 30 ∧ j = 42) → (nSt (nSt (spM (spM (spM (spM (spM M1 0 116 97 107 101 115 32 103 114) 8 97 105 110 115 32 59 32 107) 16 101 101 112 115 32 53 48 32) 24 59 32 115 117 114 101 32 103) 32 114 97 105 110 115 32 59 32) 32 0 0 40) 30 0 3 1) k 0 j = 0 := fun k j h1 h2 h3 h4 h5 h6 => by
      rw [nst_fr h5, nst_fr h4, hsp _ _ _ _ _ _ _ _ _ _ k 0 j h3, hsp _ _ _ _ _ _ _ _ _ _ k 0 j h3, hsp _ _ _ _ _ _ _ _ _ _ k 0 j h3, hsp _ _ _ _ _ _ _ _ _ _ k 0 j h3, hsp _ _ _ _ _ _ _ _ _ _ k 0 j h3]
      exact e2 k j h1 h2 h6
    have h31 : ∀ j, j < 40 → (nSt (nSt (spM (spM (spM (spM (spM M1 0 116 97 107 101 115 32 103 114) 8 97 105 110 115 32 59 32 107) 16 101 101 112 115 32 53 48 32) 24 59 32 115 117 114 101 32 103) 32 114 97 105 110 115 32 59 32) 32 0 0 40) 30 0 3 1) 31 0 j = nI (b40 j) := fun j hj => by
      match j, hj with
      | 0, _ => rfl
      | 1, _ => rfl
      | 2, _ => rfl
      | 3, _ => rfl
      | 4, _ => rfl
      | 5, _ => rfl
      | 6, _ => rfl
      | 7, _ => rfl
      | 8, _ => rfl
      | 9, _ => rfl
      | 10, _ => rfl
      | 11, _ => rfl
      | 12, _ => rfl
      | 13, _ => rfl
      | 14, _ => rfl
      | 15, _ => rfl
      | 16, _ => rfl
      | 17, _ => rfl
      | 18, _ => rfl
      | 19, _ => rfl
      | 20, _ => rfl
      | 21, _ => rfl
      | 22, _ => rfl
      | 23, _ => rfl
      | 24, _ => rfl
      | 25, _ => rfl
      | 26, _ => rfl
      | 27, _ => rfl
      | 28, _ => rfl
      | 29, _ => rfl
      | 30, _ => rfl
      | 31, _ => rfl
      | 32, _ => rfl
      | 33, _ => rfl
      | 34, _ => rfl
      | 35, _ => rfl
      | 36, _ => rfl
      | 37, _ => rfl
      | 38, _ => rfl
      | 39, _ => rfl
      | n + 40, h => omega
    refine ⟨⟨hz 30 7 (by omega) (by omega) (by omega) (by omega) (by omega) (by omega), hz 30 4 (by omega) (by omega) (by omega) (by omega) (by omega) (by omega), hz 30 12 (by omega) (by omega) (by omega) (by omega) (by omega) (by omega), fun j _ => hz 34 j (by omega) (by omega) (by omega) (by omega) (by omega) (by omega), fun j _ => hz 37 j (by omega) (by omega) (by omega) (by omega) (by omega) (by omega), fun j hj => absurd hj (Nat.not_lt_zero j), fun j _ => ⟨hz 36 _ (by omega) (by omega) (by omega) (by omega) (by omega) (by omega), hz 36 _ (by omega) (by omega) (by omega) (by omega) (by omega) (by omega)⟩⟩, ⟨fun _ => ?_, fun q => by cases q⟩, ⟨hz 30 6 (by omega) (by omega) (by omega) (by omega) (by omega) (by omega), fun j hj => absurd hj (Nat.not_lt_zero j)⟩, ⟨nst_self _ _ _ _ _, fun j hj => ?_⟩, fun i _ => ⟨hz 45 i (by omega) (by omega) (by omega) (by omega) (by omega) (by omega), fun q => by cases q⟩⟩
    · rw [nst_fr (by omega), nst_fr (by omega), hsp _ _ _ _ _ _ _ _ _ _ 30 0 42 (by omega), hsp _ _ _ _ _ _ _ _ _ _ 30 0 42 (by omega), hsp _ _ _ _ _ _ _ _ _ _ 30 0 42 (by omega), hsp _ _ _ _ _ _ _ _ _ _ 30 0 42 (by omega), hsp _ _ _ _ _ _ _ _ _ _ 30 0 42 (by omega)]
      exact e3
    · have hj : j < 1 := hj
      have hj : j = 0 := by omega
      subst hj
      refine ⟨(nst_fr (by omega)).trans (nst_self _ _ _ _ _), fun q hq => ?_⟩
      rw [show 160 * 0 + q = q by omega]
      exact h31 q hq
  · rw [nst_ne (by omega), nst_ne (by omega), hsp _ _ _ _ _ _ _ _ _ _ k i j (by omega), hsp _ _ _ _ _ _ _ _ _ _ k i j (by omega), hsp _ _ _ _ _ _ _ _ _ _ k i j (by omega), hsp _ _ _ _ _ _ _ _ _ _ k i j (by omega), hsp _ _ _ _ _ _ _ _ _ _ k i j (by omega)]
    exact e4 k i j q
theorem s00_SB : SB s00 := by
  have z5 : ∀ (n : Nat) (j : Nat), (fun _ : Nat => 0) j ≤ n := fun n j => Nat.zero_le _
  have hW : WB gz := ⟨⟨Nat.zero_le _, fun _ _ => rfl, fun _ _ => rfl⟩, Nat.zero_le _, z5 _, z5 _, z5 _, z5 _, z5 _⟩
  exact ⟨⟨Nat.zero_lt_one, by decide, fun j _ => ⟨(show (40 : Nat) ≤ 160 by decide), b40_lt, p40.1⟩, z5 _, z5 _, Nat.zero_le _⟩, hW, (fun q => by cases q), ⟨Nat.zero_le _, b40_lt⟩, (fun i _ q => by cases q)⟩
theorem law_init : ∃ M : MM, nR X (callN X 256) hL_law 0 [vR 70 0, vX, vX, vX] [] mem0 = nR X (callN X 256) hL_law 18 [vR 70 0, vR 2 0, vR 30 0, vI (nI 0)] [] (M, 0, true, true, [], 72, 3493) ∧ LI M 72 s00 := by
  obtain ⟨M1, e1, e2⟩ := cInit X 54 0
  obtain ⟨M2, f1, f2, f3⟩ := mInit X 254 M1 0
  have e1 : callN X 256 50 [vR 2 0] (nZ (fun _ _ _ => 0) 2 0, 0, false, false, [], 1, 12) = _ := e1
  have f1 : callN X 256 113 [vR 30 0] (nZ M1 30 0, 0, true, false, [], 54, 1984) = _ := f1
  refine ⟨M2, ?_, e2.fr (fun k i j q => f3 k i j (by omega)), f2, s00_SB, Nat.le_refl _⟩
  unfold mem0
  rw [sl1, e1, bnd_s]
  show nR X (callN X 256) hL_law 7 _ [vR 2 0] _ = _
  rw [sl2, f1, bnd_s]
  show nR X (callN X 256) hL_law 15 _ [vR 30 0] _ = _
  rw [sl3]
  rfl
end
