/-! the model reads a whole text -/
def frR (M M' : MM) : Prop := ∀ k i j, ¬ (k = 30 ∧ 19 ≤ j ∧ j ≤ 27) → M' k i j = M k i j
theorem frQ.R {M M' : MM} (h : frQ M M') : frR M M' := fun k i j q => h k i j (fun z => q ⟨z.1, by omega⟩)
theorem frR.trans {M M' M2 : MM} (h : frR M M') (h2 : frR M' M2) : frR M M2 := fun k i j q => (h2 k i j q).trans (h k i j q)
theorem frR.refl (M : MM) : frR M M := fun _ _ _ _ => rfl
theorem frR.st {M M' : MM} (h : frR M M') {j : Nat} (hj : 19 ≤ j ∧ j ≤ 27) (v : Int32) : frR M (nSt M' 30 0 j v) := fun k i c q => (nst_fr (fun z => q ⟨z.1, by omega⟩)).trans (h k i c q)
section
variable (X : Nat × (Nat → Int32))
theorem sX7_part {b : Nat → Nat} {n f i p : Nat} {M : MM} {w : Int64} (l : List (Nat × Nat × Nat)) (t u e : Nat) (hi : i < 3) (hp : p ≤ n) (hS : MSt M w b n f p 0) :
    ∃ (M' : MM) (w' : Int64) (v : Int32), callN X (e + 50) 142 [vR 30 0, bV (Nat.beq (tk b n p) (4 + i))] (M, w, true, true, l, t, u) = some (some (vI v), (M', w', true, true, l, t, u)) ∧ PostM M M' w' b n 0 (pPart b n i p) v := by
  have hb := hS.1.2.2.2.2.2
  unfold pPart
  by_cases c : tk b n p = 4 + i
  · rw [beq_t c, if_pos c]
    show ∃ (M' : MM) (w' : Int64) (v : Int32), callN X (e + 49 + 1) 142 [vR 30 0, vI 1] _ = _ ∧ _
    obtain ⟨M1, w1, f1, f2, f3⟩ := sX7_next X (e + 47) w l t u hS.1 (te_le hp) (hS.2.1.2.2.1 (kM_of_tk hb (by omega)))
    have hS1 : MSt M1 w1 b n f (te b n p) 0 := ⟨hS.1.fr f2, f3, (f2 30 0 26 (by omega)).trans hS.2.2.1, (f2 30 0 25 (by omega)).trans hS.2.2.2⟩
    obtain ⟨M2, w2, v2, g1, g2⟩ := mdl_all X b n f 41 0 0 (te b n p) M1 w1 l t u e (by omega) (by omega) (by decide) (te_le hp) hS1
    have g1 : callN X (e + 49) 141 [vR 30 0] (M1, w1, true, true, l, t, u) = some (some (vI v2), (M2, w2, true, true, l, t, u)) := g1
    rw [aX7_part, if_neg (by decide), bX7_part_8, hS.2.2.1, if_pos rfl, f1, bnd_s, tl_n, bX7_part_19, hS1.2.2.1, if_pos rfl, g1, bnd_s, tl_s]
    have hgood := pP_good b n 41 0 0 (te b n p) (te_le hp)
    have hfr2 : frQ M M2 := f2.Q.trans g2.1
    revert g2 hgood
    generalize pP b n 41 0 0 (te b n p) = r
    obtain ⟨ok, c2, p2⟩ := r
    intro g2 hgood
    cases ok
    · obtain ⟨a1, a2⟩ := g2.2.2 rfl
      show ∃ (M' : MM) (w' : Int64) (v : Int32), nR X (callN X (e + 49)) hX7_part 34 _ [vI v2] _ = _ ∧ _
      rw [bX7_part_34, sX7_isSignB X (e + 48) l t u _ a1, bnd_s, tl_s]
      show ∃ (M' : MM) (w' : Int64) (v : Int32), nR X (callN X (e + 49)) hX7_part 41 _ [vI 0] _ = _ ∧ _
      rw [bX7_part_41, if_pos rfl, sX7_failB X (e + 48) w2 l t u a1, bnd_s, tl_n, bX7_part_48, a1, if_neg (by decide), bX7_part_59]
      exact ⟨M2, w2, _, rfl, hfr2, (fun q => by cases q), fun _ => ⟨a1, a2⟩⟩
    · have hp2 : p2 ≤ n := hgood.1
      have hS2 : MSt M2 w2 b n f p2 0 := g2.st hS1 rfl
      obtain ⟨a1, a2, a3, a4⟩ := g2.2.1 rfl
      rw [pThen_t rfl]
      show ∃ (M' : MM) (w' : Int64) (v : Int32), nR X (callN X (e + 49)) hX7_part 34 _ [vI v2] _ = _ ∧ PostM M M' w' b n 0 (if tk b n p2 = 59 then (true, c2, te b n p2) else (false, [], p2)) v
      rw [bX7_part_34, li59, sX7_isSign X (e + 48) l t u hS2.1 hS2.2.1 hS2.2.2.1 (by omega) (by omega), bnd_s, tl_s]
      by_cases c59 : tk b n p2 = 59
      · rw [if_pos c59, beq_t c59]
        show ∃ (M' : MM) (w' : Int64) (v : Int32), nR X (callN X (e + 49)) hX7_part 41 _ [vI 1] _ = _ ∧ _
        obtain ⟨M3, w3, k1, k2, k3⟩ := sX7_next X (e + 47) w2 l t u hS2.1 (te_le hp2) (hS2.2.1.2.2.1 (kM_of_tk hb (by omega)))
        rw [bX7_part_41, if_neg (by decide), bX7_part_48, a2, if_pos rfl, k1, bnd_s, tl_n, bX7_part_59]
        refine ⟨M3, w3, _, rfl, hfr2.trans k2.Q, fun _ => ⟨k3, (k2 30 0 26 (by omega)).trans a2, (k2 30 0 25 (by omega)).trans a3, fun nm st hnm => ?_⟩, fun q => by cases q⟩
        exact a4 nm st (fun j hj => by rw [hnm j hj, f2 30 0 (13 + j) (by omega)])
      · rw [if_neg c59, beq_f c59]
        show ∃ (M' : MM) (w' : Int64) (v : Int32), nR X (callN X (e + 49)) hX7_part 41 _ [vI 0] _ = _ ∧ _
        have hf9 := failM_post (o := 0) hS2.2.1 v2
        rw [bX7_part_41, if_pos rfl, sX7_fail X (e + 48) w2 l t u a2, bnd_s, tl_n, bX7_part_48, (hf9.2.2 rfl).1, if_neg (by decide), bX7_part_59]
        exact ⟨_, w2, _, rfl, hfr2.trans hf9.1, (fun q => by cases q), fun _ => hf9.2.2 rfl⟩
  · rw [beq_f c, if_neg c]
    show ∃ (M' : MM) (w' : Int64) (v : Int32), callN X (e + 49 + 1) 142 [vR 30 0, vI 0] _ = _ ∧ _
    have hf9 := failM_post (o := 0) hS.2.1 0
    have h1 := (hf9.2.2 rfl).1
    rw [aX7_part, if_pos rfl, sX7_fail X (e + 48) w l t u hS.2.2.1, bnd_s, tl_n, bX7_part_8, h1, if_neg (by decide), bX7_part_19, h1, if_neg (by decide), bX7_part_34, sX7_isSignB X (e + 48) l t u _ h1, bnd_s, tl_s]
    show ∃ (M' : MM) (w' : Int64) (v : Int32), nR X (callN X (e + 49)) hX7_part 41 _ [vI 0] _ = _ ∧ _
    rw [bX7_part_41, if_pos rfl, sX7_failB X (e + 48) w l t u h1, bnd_s, tl_n, bX7_part_48, h1, if_neg (by decide), bX7_part_59]
    exact ⟨_, w, _, rfl, hf9⟩
def txC (r : TxR) (wh : Int32) : List Int32 := if wh = 0 then r.2.1 else if wh = 1 then r.2.2.1 else r.2.2.2.1
theorem sX7_read {b : Nat → Nat} {n tx : Nat} {M : MM} (wh : Int32) (w : Int64) (l : List (Nat × Nat × Nat)) (t u e : Nat) (ht : tx < 6) (h32 : M 32 0 tx = nI n) (hn : n ≤ 160) (hby : ∀ j, j < n → M 31 0 (160 * tx + j) = nI (b j)) (hb : ∀ j, b j < 256) :
    ∃ (M' : MM) (w' : Int64) (v : Int32), callN X (e + 51) 143 [vR 30 0, vI (nI tx), vI wh] (M, w, true, true, l, t, u) = some (some (vI v), (M', w', true, true, l, t, u)) ∧ frR M M' ∧
      ((pTx b n).1 = true → M' 30 0 26 = 0 ∧ ∀ (nm : Nat → Int32) (st : List Int32), (∀ j, j < 6 → nm j = M 30 0 (13 + j)) → evs nm (txC (pTx b n) wh) st = v :: st) ∧ ((pTx b n).1 = false → M' 30 0 26 = 1 ∧ M' 30 0 27 = nI (tq b n (pTx b n).2.2.2.2)) := by
  rw [show e + 51 = (e + 50) + 1 by omega, aX7_read, in_nI ht (by omega), cond_true, nI_clamp (by omega), nst_fr (by omega), h32, show (160 : Int32) = nI 160 from rfl, pk_mul]
  have f0 : frR M (nSt (nSt (nSt (nSt (nSt M 30 0 19 (nI (160 * tx))) 30 0 20 (nI n)) 30 0 21 (0 : Int32)) 30 0 25 (0 : Int32)) 30 0 26 (0 : Int32)) := ((((((frR.refl M).st (by omega) _).st (by omega) _).st (by omega) _).st (by omega) _).st (by omega) _)
  have hR0 : RdM (nSt (nSt (nSt (nSt (nSt M 30 0 19 (nI (160 * tx))) 30 0 20 (nI n)) 30 0 21 (0 : Int32)) 30 0 25 (0 : Int32)) 30 0 26 (0 : Int32)) b n (160 * tx) := ⟨(nst_j (by omega)).trans ((nst_j (by omega)).trans ((nst_j (by omega)).trans ((nst_j (by omega)).trans (nst_self _ _ _ _ _)))), (nst_j (by omega)).trans ((nst_j (by omega)).trans ((nst_j (by omega)).trans (nst_self _ _ _ _ _))), hn, by omega, fun j hj => (f0 31 0 _ (by omega)).trans (hby j hj), hb⟩
  obtain ⟨M1, w1, g1, g2, g3⟩ := sX7_next X (e + 48) w l t u hR0 (Nat.zero_le n) ((nst_j (by omega)).trans ((nst_j (by omega)).trans (nst_self _ _ _ _ _)))
  have hS1 : MSt M1 w1 b n (160 * tx) 0 0 := ⟨hR0.fr g2, g3, (g2 30 0 26 (by omega)).trans (nst_self _ _ _ _ _), (g2 30 0 25 (by omega)).trans ((nst_j (by omega)).trans (nst_self _ _ _ _ _))⟩
  have f1 : frR M M1 := f0.trans g2.Q.R
  have hw : ∀ (M : MM) (w : Int64) (p : Nat), p ≤ n → MSt M w b n (160 * tx) p 0 → (callN X (e + 50) 132 [vR 30 0, vI 116, vI 97, vI 107, vI 101, vI 115, vI 0, vI 0, vI 0] (M, w, true, true, l, t, u) = some (some (bV (Nat.beq (tk b n p) (4 + 0))), (M, w, true, true, l, t, u)) ∧
      callN X (e + 50) 132 [vR 30 0, vI 107, vI 101, vI 101, vI 112, vI 115, vI 0, vI 0, vI 0] (M, w, true, true, l, t, u) = some (some (bV (Nat.beq (tk b n p) (4 + 1))), (M, w, true, true, l, t, u)) ∧
      callN X (e + 50) 132 [vR 30 0, vI 115, vI 117, vI 114, vI 101, vI 0, vI 0, vI 0, vI 0] (M, w, true, true, l, t, u) = some (some (bV (Nat.beq (tk b n p) (4 + 2))), (M, w, true, true, l, t, u))) := by
    intro M w p hp hS
    have h6 := sX7_isWord X (e + 47) l t u (k := 6) hS.1 hp hS.2.1 hS.2.2.1 (by omega)
    have h7 := sX7_isWord X (e + 47) l t u (k := 7) hS.1 hp hS.2.1 hS.2.2.1 (by omega)
    have h8 := sX7_isWord X (e + 47) l t u (k := 8) hS.1 hp hS.2.1 hS.2.2.1 (by omega)
    rw [isW_key hb (by omega) (by omega)] at h6 h7 h8
    exact ⟨h6, h7, h8⟩
  rw [g1, bnd_s, tl_n, bX7_read_38, (hw M1 w1 0 (Nat.zero_le n) hS1).1, bnd_s, tl_s]
  obtain ⟨M2, w2, v2, a1, a2⟩ := sX7_part X l t u e (i := 0) (by omega) (Nat.zero_le n) hS1
  have hst2 : nR X (callN X (e + 50)) hX7_read 56 [vR 30 0, vI (nI tx), vI wh, vX, vX, vX] [bV (Nat.beq (tk b n 0) (4 + 0)), vR 30 0] (M1, w1, true, true, l, t, u) = nR X (callN X (e + 50)) hX7_read 59 [vR 30 0, vI (nI tx), vI wh, vX, vX, vX] [vI v2] (M2, w2, true, true, l, t, u) := by
    unfold bV at a1 ⊢
    rw [bX7_read_56, a1, bnd_s, tl_s]
  rw [hst2]
  have f2 := f1.trans a2.1.R
  have hend : ∀ (M9 : MM) (w9 : Int64) (x3 x4 x5 : Int32), M9 30 0 26 = 1 → nR X (callN X (e + 50)) hX7_read 125 [vR 30 0, vI (nI tx), vI wh, vI x3, vI x4, vX] [vI x5] (M9, w9, true, true, l, t, u) = some (some (vI (if wh = 0 then x3 else if wh = 1 then x4 else x5)), (M9, w9, true, true, l, t, u)) := by
    intro M9 w9 x3 x4 x5 h9
    rw [bX7_read_125, h9, if_neg (by decide), bX7_read_145]
    by_cases c : wh = 0
    · rw [if_pos c, if_pos c]
    · rw [if_neg c, if_neg c]
      by_cases c2 : wh = 1
      · rw [if_pos c2, if_pos c2]
      · rw [if_neg c2, if_neg c2]
  have hend2 : ∀ (M9 : MM) (w9 : Int64) (x3 x4 : Int32), M9 30 0 26 = 1 → nR X (callN X (e + 50)) hX7_read 92 [vR 30 0, vI (nI tx), vI wh, vI x3, vX, vX] [vI x4] (M9, w9, true, true, l, t, u) = some (some (vI (if wh = 0 then x3 else if wh = 1 then x4 else 0)), (M9, w9, true, true, l, t, u)) := by
    intro M9 w9 x3 x4 h9
    rw [bX7_read_92, h9, if_neg (by decide), hend M9 w9 x3 x4 0 h9]
  unfold pTx
  have hg0 := pPart_good (b := b) (n := n) (i := 0) (Nat.zero_le n)
  revert a2 hg0
  generalize pPart b n 0 0 = r0
  obtain ⟨ok0, c0, p0⟩ := r0
  intro a2 hg0
  cases ok0
  · obtain ⟨z1, z2⟩ := a2.2.2 rfl
    rw [bX7_read_59, z1, if_neg (by decide), hend2 M2 w2 v2 0 z1]
    exact ⟨M2, w2, _, rfl, f2, (fun q => by cases q), fun _ => ⟨z1, z2⟩⟩
  have hp0 : p0 ≤ n := hg0.1
  have hS2 : MSt M2 w2 b n (160 * tx) p0 0 := a2.st hS1 rfl
  have nm2 : ∀ j, j < 6 → M1 30 0 (13 + j) = M 30 0 (13 + j) := fun j hj => f1 30 0 (13 + j) (by omega)
  simp only [cond_true]
  rw [bX7_read_59, hS2.2.2.1, if_pos rfl, (hw M2 w2 p0 hp0 hS2).2.1, bnd_s, tl_s]
  obtain ⟨M3, w3, v3, b1, b2⟩ := sX7_part X l t u e (i := 1) (by omega) hp0 hS2
  have hst3 : nR X (callN X (e + 50)) hX7_read 89 [vR 30 0, vI (nI tx), vI wh, vI v2, vX, vX] [bV (Nat.beq (tk b n p0) (4 + 1)), vR 30 0] (M2, w2, true, true, l, t, u) = nR X (callN X (e + 50)) hX7_read 92 [vR 30 0, vI (nI tx), vI wh, vI v2, vX, vX] [vI v3] (M3, w3, true, true, l, t, u) := by
    unfold bV at b1 ⊢
    rw [bX7_read_89, b1, bnd_s, tl_s]
  rw [hst3]
  have f3 := f2.trans b2.1.R
  have hg1 := pPart_good (b := b) (n := n) (i := 1) hp0
  revert b2 hg1
  generalize pPart b n 1 p0 = r1
  obtain ⟨ok1, c1, p1⟩ := r1
  intro b2 hg1
  cases ok1
  · obtain ⟨z1, z2⟩ := b2.2.2 rfl
    rw [hend2 M3 w3 v2 v3 z1]
    exact ⟨M3, w3, _, rfl, f3, (fun q => by cases q), fun _ => ⟨z1, z2⟩⟩
  have hp1 : p1 ≤ n := hg1.1
  have hS3 : MSt M3 w3 b n (160 * tx) p1 0 := b2.st hS2 rfl
  simp only [cond_true]
  rw [bX7_read_92, hS3.2.2.1, if_pos rfl, (hw M3 w3 p1 hp1 hS3).2.2, bnd_s, tl_s]
  obtain ⟨M4, w4, v4, d1, d2⟩ := sX7_part X l t u e (i := 2) (by omega) hp1 hS3
  have hst4 : nR X (callN X (e + 50)) hX7_read 122 [vR 30 0, vI (nI tx), vI wh, vI v2, vI v3, vX] [bV (Nat.beq (tk b n p1) (4 + 2)), vR 30 0] (M3, w3, true, true, l, t, u) = nR X (callN X (e + 50)) hX7_read 125 [vR 30 0, vI (nI tx), vI wh, vI v2, vI v3, vX] [vI v4] (M4, w4, true, true, l, t, u) := by
    unfold bV at d1 ⊢
    rw [bX7_read_122, d1, bnd_s, tl_s]
  rw [hst4]
  have f4 := f3.trans d2.1.R
  have hg2 := pPart_good (b := b) (n := n) (i := 2) hp1
  revert d2 hg2
  generalize pPart b n 2 p1 = r2
  obtain ⟨ok2, c2, p2⟩ := r2
  intro d2 hg2
  cases ok2
  · obtain ⟨z1, z2⟩ := d2.2.2 rfl
    rw [hend M4 w4 v2 v3 v4 z1]
    exact ⟨M4, w4, _, rfl, f4, (fun q => by cases q), fun _ => ⟨z1, z2⟩⟩
  have hS4 : MSt M4 w4 b n (160 * tx) p2 0 := d2.st hS3 rfl
  have hk4 := kM_lt b n p2
  simp only [cond_true]
  have hsel : ∀ (M9 : MM) (w9 : Int64), nR X (callN X (e + 50)) hX7_read 145 [vR 30 0, vI (nI tx), vI wh, vI v2, vI v3, vI v4] [] (M9, w9, true, true, l, t, u) = some (some (vI (if wh = 0 then v2 else if wh = 1 then v3 else v4)), (M9, w9, true, true, l, t, u)) := by
    intro M9 w9
    rw [bX7_read_145]
    by_cases c : wh = 0
    · rw [if_pos c, if_pos c]
    · rw [if_neg c, if_neg c]
      by_cases c2 : wh = 1
      · rw [if_pos c2, if_pos c2]
      · rw [if_neg c2, if_neg c2]
  rw [bX7_read_125, hS4.2.2.1, if_pos rfl, hS4.2.1.2.1, li0]
  simp (disch := omega) only [nI_eq]
  have hk0 := (tk_kM hb (n := n) (p := p2)).1
  by_cases c : tk b n p2 = 0
  · rw [if_pos (hk0.mp c), hsel]
    refine ⟨M4, w4, _, rfl, f4, fun _ => ⟨hS4.2.2.1, fun nm st hnm => ?_⟩, fun q => ?_⟩
    · have n1 : ∀ j, j < 6 → nm j = M1 30 0 (13 + j) := fun j hj => (hnm j hj).trans (f1 30 0 (13 + j) (by omega)).symm
      have n2 : ∀ j, j < 6 → nm j = M2 30 0 (13 + j) := fun j hj => (hnm j hj).trans (f2 30 0 (13 + j) (by omega)).symm
      have n3 : ∀ j, j < 6 → nm j = M3 30 0 (13 + j) := fun j hj => (hnm j hj).trans (f3 30 0 (13 + j) (by omega)).symm
      unfold txC
      show evs nm (if wh = nI 0 then c0 else if wh = 1 then c1 else c2) st = _
      rw [show nI 0 = (0 : Int32) from rfl]
      by_cases e0 : wh = 0
      · rw [if_pos e0, if_pos e0]
        exact (a2.2.1 rfl).2.2.2 nm st n1
      · rw [if_neg e0, if_neg e0]
        by_cases e1 : wh = 1
        · rw [if_pos e1, if_pos e1]
          exact (b2.2.1 rfl).2.2.2 nm st n2
        · rw [if_neg e1, if_neg e1]
          exact (d2.2.1 rfl).2.2.2 nm st n3
    · rw [beq_t c] at q
      cases q
  · rw [if_neg (fun q => c (hk0.mpr q)), sX7_fail X (e + 49) w4 l t u hS4.2.2.1, bnd_s, tl_n, hsel]
    have hf9 := failM_post (o := 0) hS4.2.1 0
    refine ⟨_, w4, _, rfl, f4.trans hf9.1.R, fun q => ?_, fun _ => hf9.2.2 rfl⟩
    rw [beq_f c] at q
    cases q
end
