/-! what steps make of the names; the model's reading: its state, its outcome -/
def jnI (x a b : Int32) : Int32 := if x = -14 then a - b else if x = -13 then a + b else if x = -12 then (if a = b then 1 else 0) else if x = -11 then (if b ≤ a then 0 else 1) else if x = -10 then (if a = 0 then 0 else if b = 0 then 0 else 1) else if x = -9 then (if a = 0 then if b = 0 then 0 else 1 else 1) else a * b
def stp (nm : Nat → Int32) (x : Int32) (st : List Int32) : List Int32 :=
  if x ≤ -7 then (if x < -8 then (match st with | y :: a :: r => jnI x a y :: r | s => s) else (match st with | a :: r => (if x = -8 then -a else if a = 0 then 1 else 0) :: r | [] => []))
  else (if x < 0 then nm (-1 - x).toNatClampNeg else x) :: st
def evs (nm : Nat → Int32) : List Int32 → List Int32 → List Int32
  | [], st => st
  | x :: c, st => evs nm c (stp nm x st)
theorem evs_app (nm : Nat → Int32) : ∀ (c c2 st : List Int32), evs nm (c ++ c2) st = evs nm c2 (evs nm c st)
  | [], _, _ => rfl
  | x :: c, c2, st => evs_app nm c c2 (stp nm x st)
theorem stp_op (nm : Nat → Int32) (x : Nat) (y a : Int32) (r : List Int32) : stp nm (stT x) (y :: a :: r) = jnI (stT x) a y :: r := by
  unfold stp
  have h : stT x ≤ -7 ∧ stT x < -8 := by
    unfold stT
    (repeat' split) <;> exact ⟨by decide, by decide⟩
  rw [if_pos h.1, if_pos h.2]
theorem stp_not (nm : Nat → Int32) (a : Int32) (r : List Int32) : stp nm (-7) (a :: r) = (if a = 0 then 1 else 0) :: r := by
  unfold stp
  rw [if_pos (by decide), if_neg (by decide)]
  show (if (-7 : Int32) = -8 then _ else _) :: r = _
  rw [if_neg (by decide)]
theorem stp_neg (nm : Nat → Int32) (a : Int32) (r : List Int32) : stp nm (-8) (a :: r) = -a :: r := by
  unfold stp
  rw [if_pos (by decide), if_neg (by decide)]
  show (if (-8 : Int32) = -8 then _ else _) :: r = _
  rw [if_pos rfl]
theorem stp_num (nm : Nat → Int32) {v : Nat} (hv : v < 2 ^ 31) (st : List Int32) : stp nm (nI v) st = nI v :: st := by
  unfold stp
  have h0 := nI_pos hv
  rw [if_neg (fun q => ?_), if_neg h0]
  have h1 := Int32.le_iff_toInt_le.mp q
  rw [nI_toInt hv] at h1
  have : (-7 : Int32).toInt = -7 := rfl
  omega
theorem stp_name (nm : Nat → Int32) {k : Nat} (hk : k < 6) (st : List Int32) : stp nm (-1 - nI k) st = nm k :: st := by
  have : k = 0 ∨ k = 1 ∨ k = 2 ∨ k = 3 ∨ k = 4 ∨ k = 5 := by omega
  rcases this with rfl | rfl | rfl | rfl | rfl | rfl <;> rfl
def frQ (M M' : MM) : Prop := ∀ k i j, ¬ (k = 30 ∧ 21 ≤ j ∧ j ≤ 27) → M' k i j = M k i j
theorem frQ.refl (M : MM) : frQ M M := fun _ _ _ _ => rfl
theorem frQ.trans {M M' M2 : MM} (h : frQ M M') (h2 : frQ M' M2) : frQ M M2 := fun k i j q => (h2 k i j q).trans (h k i j q)
theorem frQ.st {M M' : MM} (h : frQ M M') {j : Nat} (hj : 21 ≤ j ∧ j ≤ 27) (v : Int32) : frQ M (nSt M' 30 0 j v) := fun k i c q => (nst_fr (fun z => q ⟨z.1, by omega⟩)).trans (h k i c q)
theorem frM.Q {M M' : MM} (h : frM M M') : frQ M M' := fun k i j q => h k i j (fun z => q ⟨z.1, by omega⟩)
theorem RdM.frQ {M M' : MM} {b : Nat → Nat} {n f : Nat} (h : RdM M b n f) (hf : frQ M M') : RdM M' b n f := ⟨(hf 30 0 19 (by omega)).trans h.1, (hf 30 0 20 (by omega)).trans h.2.1, h.2.2.1, h.2.2.2.1, fun j hj => (hf 31 0 (f + j) (by omega)).trans (h.2.2.2.2.1 j hj), h.2.2.2.2.2⟩
def nmM (M : MM) : Nat → Int32 := fun j => M 30 0 (13 + j)
def MSt (M : MM) (w : Int64) (b : Nat → Nat) (n f p o : Nat) : Prop := RdM M b n f ∧ TokM M w b n p ∧ M 30 0 26 = 0 ∧ M 30 0 25 = nI o
def PostM (M M' : MM) (w' : Int64) (b : Nat → Nat) (n o : Nat) (r : PR) (v : Int32) : Prop := frQ M M' ∧ (r.1 = true → TokM M' w' b n r.2.2 ∧ M' 30 0 26 = 0 ∧ M' 30 0 25 = nI o ∧ ∀ (nm : Nat → Int32) (st : List Int32), (∀ j, j < 6 → nm j = M 30 0 (13 + j)) → evs nm r.2.1 st = v :: st) ∧ (r.1 = false → M' 30 0 26 = 1 ∧ M' 30 0 27 = nI (tq b n r.2.2))
theorem TokM.st {M : MM} {w : Int64} {b : Nat → Nat} {n p j : Nat} {v : Int32} (h : TokM M w b n p) (hj : 24 ≤ j) : TokM (nSt M 30 0 j v) w b n p := ⟨(nst_j (by omega)).trans h.1, (nst_j (by omega)).trans h.2.1, fun q => (nst_j (by omega)).trans (h.2.2.1 q), h.2.2.2.1, h.2.2.2.2⟩
theorem PostM.st {M : MM} {w : Int64} {b : Nat → Nat} {n f p o : Nat} {M' : MM} {w' : Int64} {r : PR} {v : Int32} (h : PostM M M' w' b n o r v) (hS : MSt M w b n f p o) (hok : r.1 = true) : MSt M' w' b n f r.2.2 o := ⟨hS.1.frQ h.1, (h.2.1 hok).1, (h.2.1 hok).2.1, (h.2.1 hok).2.2.1⟩
section
variable (X : Nat × (Nat → Int32))
def failM (M : MM) : MM := nSt (nSt M 30 0 26 1) 30 0 27 (M 30 0 23)
theorem sX7_fail (d : Nat) (w : Int64) (l : List (Nat × Nat × Nat)) (t u : Nat) {M : MM} (hb : M 30 0 26 = 0) : callN X (d + 1) 130 [vR 30 0] (M, w, true, true, l, t, u) = some (none, (failM M, w, true, true, l, t, u)) := by
  rw [aX7_fail, hb, if_pos rfl, nst_j (by omega)]
  rfl
theorem sX7_failB (d : Nat) (w : Int64) (l : List (Nat × Nat × Nat)) (t u : Nat) {M : MM} (hb : M 30 0 26 = 1) : callN X (d + 1) 130 [vR 30 0] (M, w, true, true, l, t, u) = some (none, (M, w, true, true, l, t, u)) := by
  rw [aX7_fail, hb, if_neg (by decide)]
theorem failM_fr (M : MM) : frQ M (failM M) := ((frQ.refl M).st (by omega) _).st (by omega) _
theorem failM_post {M : MM} {w : Int64} {b : Nat → Nat} {n p o : Nat} (h : TokM M w b n p) (v : Int32) : PostM M (failM M) w b n o (false, [], p) v := ⟨failM_fr M, fun q => (by cases q), fun _ => ⟨(nst_j (by omega)).trans (nst_self _ _ _ _ _), (nst_self _ _ _ _ _).trans h.1⟩⟩
theorem failM_26 (M : MM) : failM M 30 0 26 = 1 := (nst_j (by omega)).trans (nst_self _ _ _ _ _)
theorem sX7_opens (d : Nat) {w : Int64} (l : List (Nat × Nat × Nat)) (t u : Nat) {M : MM} {b : Nat → Nat} {n f p o : Nat} (hS : MSt M w b n f p o) (hp : p ≤ n) (ho : o ≤ 5) (hk : kM b n p ≠ 4) :
    ∃ (M' : MM) (w' : Int64), callN X (d + 3) 134 [vR 30 0] (M, w, true, true, l, t, u) = some (some (bV (Nat.blt o 5)), (M', w', true, true, l, t, u)) ∧ frQ M M' ∧ (o < 5 → MSt M' w' b n f (te b n p) (o + 1)) ∧ (5 ≤ o → M' 30 0 26 = 1 ∧ M' 30 0 27 = nI (tq b n p)) := by
  obtain ⟨h1, h2, h3, h4⟩ := hS
  rw [aX7_opens, h4, li5]
  simp (disch := omega) only [nI_eq]
  by_cases c : o = 5
  · rw [if_pos c, sX7_fail X (d + 1) w l t u h3, bnd_s, tl_n, bX7_opens_12, blt_f (by omega)]
    have hp := failM_post (o := o) h2 0
    exact ⟨_, w, rfl, hp.1, fun q => by omega, fun _ => hp.2.2 rfl⟩
  · rw [if_neg c, show nI o + (1 : Int32) = nI (o + 1) from nI_add o 1]
    have hf : frQ M (nSt M 30 0 25 (nI (o + 1))) := (frQ.refl M).st (by omega) _
    obtain ⟨M2, w2, f1, f2, f3⟩ := sX7_next X d w l t u (h1.frQ hf) (te_le hp) ((nst_j (by omega)).trans (h2.2.2.1 hk))
    rw [f1, bnd_s, tl_n, bX7_opens_28, blt_t (by omega)]
    refine ⟨M2, w2, rfl, hf.trans f2.Q, fun _ => ⟨(h1.frQ hf).frQ f2.Q, f3, ?_, ?_⟩, fun q => by omega⟩
    · exact (f2 30 0 26 (by omega)).trans ((nst_j (by omega)).trans h3)
    · exact (f2 30 0 25 (by omega)).trans (nst_self _ _ _ _ _)
theorem sX7_name (d : Nat) {w : Int64} (l : List (Nat × Nat × Nat)) (t u : Nat) {M : MM} {b : Nat → Nat} {n f p o : Nat} (hS : MSt M w b n f p o) (hp : p ≤ n) (hk : kM b n p = 1) :
    ∃ (M' : MM) (v : Int32), callN X (d + 4) 135 [vR 30 0] (M, w, true, true, l, t, u) = some (some (vI v), (M', w, true, true, l, t, u)) ∧ (tk b n p = 3 → M' = M ∧ v = M 30 0 (13 + tv b n p) ∧ tv b n p < 6) ∧ (tk b n p ≠ 3 → M' = failM M) := by
  obtain ⟨h1, h2, h3, h4⟩ := hS
  have hb := h1.2.2.2.2.2
  have key : ∀ k, k < 6 → isW b n p k = decide (tk b n p = 3 ∧ tv b n p = k) := fun k hk => isW_name hb hk
  have hv6 : tk b n p = 3 → tv b n p < 6 := by
    intro q
    obtain ⟨-, -, k3, k4⟩ := kM_1 hk
    rw [k3] at q
    unfold tW at q
    rw [k4]
    by_cases c1 : wdI b (tq b n p) (te b n p) < 6
    · exact c1
    · rw [if_neg c1] at q
      by_cases c2 : wdI b (tq b n p) (te b n p) < 12
      · rw [if_pos c2] at q; omega
      · rw [if_neg c2] at q; omega
  have w0 : callN X (d + 3) 132 [vR 30 0, vI 103, vI 114, vI 97, vI 105, vI 110, vI 115, vI 0, vI 0] (M, w, true, true, l, t, u) = some (some (bV (isW b n p 0)), (M, w, true, true, l, t, u)) := sX7_isWord X d l t u (k := 0) h1 hp h2 h3 (by omega)
  have w1 : callN X (d + 3) 132 [vR 30 0, vI 109, vI 97, vI 114, vI 107, vI 0, vI 0, vI 0, vI 0] (M, w, true, true, l, t, u) = some (some (bV (isW b n p 1)), (M, w, true, true, l, t, u)) := sX7_isWord X d l t u (k := 1) h1 hp h2 h3 (by omega)
  have w2 : callN X (d + 3) 132 [vR 30 0, vI 110, vI 117, vI 109, vI 98, vI 101, vI 114, vI 0, vI 0] (M, w, true, true, l, t, u) = some (some (bV (isW b n p 2)), (M, w, true, true, l, t, u)) := sX7_isWord X d l t u (k := 2) h1 hp h2 h3 (by omega)
  have w3 : callN X (d + 3) 132 [vR 30 0, vI 100, vI 97, vI 121, vI 0, vI 0, vI 0, vI 0, vI 0] (M, w, true, true, l, t, u) = some (some (bV (isW b n p 3)), (M, w, true, true, l, t, u)) := sX7_isWord X d l t u (k := 3) h1 hp h2 h3 (by omega)
  have w4 : callN X (d + 3) 132 [vR 30 0, vI 99, vI 111, vI 97, vI 115, vI 116, vI 0, vI 0, vI 0] (M, w, true, true, l, t, u) = some (some (bV (isW b n p 4)), (M, w, true, true, l, t, u)) := sX7_isWord X d l t u (k := 4) h1 hp h2 h3 (by omega)
  have w5 : callN X (d + 3) 132 [vR 30 0, vI 115, vI 104, vI 111, vI 101, vI 0, vI 0, vI 0, vI 0] (M, w, true, true, l, t, u) = some (some (bV (isW b n p 5)), (M, w, true, true, l, t, u)) := sX7_isWord X d l t u (k := 5) h1 hp h2 h3 (by omega)
  have e0 : callN X (d + 4) 135 [vR 30 0] (M, w, true, true, l, t, u) = nR X (callN X (d + 3)) hX7_name 18 [vR 30 0] [vI (cond (isW b n p 0) 1 0)] (M, w, true, true, l, t, u) := by
    rw [aX7_name, w0, bnd_s, tl_s]
    rfl
  rw [e0, key 0 (by omega)]
  by_cases c0 : tk b n p = 3 ∧ tv b n p = 0
  · rw [decide_eq_true c0, cond_true, bX7_name_18, if_neg (by decide)]
    exact ⟨M, _, rfl, fun _ => ⟨rfl, by rw [c0.2], by omega⟩, fun q => absurd c0.1 q⟩
  rw [decide_eq_false c0, cond_false, bX7_name_18, if_pos rfl, w1, bnd_s, tl_s, key 1 (by omega)]
  unfold bV
  by_cases c1 : tk b n p = 3 ∧ tv b n p = 1
  · rw [decide_eq_true c1, cond_true, bX7_name_42, if_neg (by decide)]
    exact ⟨M, _, rfl, fun _ => ⟨rfl, by rw [c1.2], by omega⟩, fun q => absurd c1.1 q⟩
  rw [decide_eq_false c1, cond_false, bX7_name_42, if_pos rfl, w2, bnd_s, tl_s, key 2 (by omega)]
  unfold bV
  by_cases c2 : tk b n p = 3 ∧ tv b n p = 2
  · rw [decide_eq_true c2, cond_true, bX7_name_68, if_neg (by decide)]
    exact ⟨M, _, rfl, fun _ => ⟨rfl, by rw [c2.2], by omega⟩, fun q => absurd c2.1 q⟩
  rw [decide_eq_false c2, cond_false, bX7_name_68, if_pos rfl, w3, bnd_s, tl_s, key 3 (by omega)]
  unfold bV
  by_cases c3 : tk b n p = 3 ∧ tv b n p = 3
  · rw [decide_eq_true c3, cond_true, bX7_name_91, if_neg (by decide)]
    exact ⟨M, _, rfl, fun _ => ⟨rfl, by rw [c3.2], by omega⟩, fun q => absurd c3.1 q⟩
  rw [decide_eq_false c3, cond_false, bX7_name_91, if_pos rfl, w4, bnd_s, tl_s, key 4 (by omega)]
  unfold bV
  by_cases c4 : tk b n p = 3 ∧ tv b n p = 4
  · rw [decide_eq_true c4, cond_true, bX7_name_116, if_neg (by decide)]
    exact ⟨M, _, rfl, fun _ => ⟨rfl, by rw [c4.2], by omega⟩, fun q => absurd c4.1 q⟩
  rw [decide_eq_false c4, cond_false, bX7_name_116, if_pos rfl, w5, bnd_s, tl_s, key 5 (by omega)]
  unfold bV
  by_cases c5 : tk b n p = 3 ∧ tv b n p = 5
  · rw [decide_eq_true c5, cond_true, bX7_name_140, if_neg (by decide)]
    exact ⟨M, _, rfl, fun _ => ⟨rfl, by rw [c5.2], by omega⟩, fun q => absurd c5.1 q⟩
  rw [decide_eq_false c5, cond_false, bX7_name_140, if_pos rfl, sX7_fail X (d + 2) w l t u h3, bnd_s, tl_n, bX7_name_152]
  refine ⟨_, _, rfl, fun q => ?_, fun _ => rfl⟩
  have := hv6 q
  omega
/-- a level's loop -/
theorem mlev_loop {α : Type} {b : Nat → Nat} {n f d N y lv o : Nat} {l : List (Nat × Nat × Nat)} {t u : Nat} (hlv : lv < 5) (hlv2 : lv ≠ 2) (K : Int32 → α → Mem → Option Res)
    (hno : ∀ (M : MM) (w : Int64) (p : Nat) (v : Int32) (x : α), p ≤ n → MSt M w b n f p o → lvT (tk b n p) ≠ lv → K v x (M, w, true, true, l, t, u) = some (some (vI v), (M, w, true, true, l, t, u)))
    (hbad : ∀ (M : MM) (w : Int64) (v : Int32) (x : α), M 30 0 26 = 1 → K v x (M, w, true, true, l, t, u) = some (some (vI v), (M, w, true, true, l, t, u)))
    (hyes : ∀ (M : MM) (w : Int64) (p : Nat) (v : Int32) (x : α), p ≤ n → MSt M w b n f p o → lvT (tk b n p) = lv → ∃ (M1 : MM) (w1 : Int64) (F : Option AV → Mem → Option Res), frM M M1 ∧ TokM M1 w1 b n (te b n p) ∧ K v x (M, w, true, true, l, t, u) = nBnd (callN X N y [vR 30 0] (M1, w1, true, true, l, t, u)) F ∧ ∀ (z : Int32) (M2 : MM) (w2 : Int64), ∃ x' : α, F (some (vI z)) (M2, w2, true, true, l, t, u) = K (jnI (stT (tk b n p)) v z) x' (M2, w2, true, true, l, t, u))
    (ihd : ∀ (p : Nat) (M : MM) (w : Int64), p ≤ n → MSt M w b n f p o → ∃ (M' : MM) (w' : Int64) (v : Int32), callN X N y [vR 30 0] (M, w, true, true, l, t, u) = some (some (vI v), (M', w', true, true, l, t, u)) ∧ PostM M M' w' b n o (pP b n d (lv + 1) o p) v) :
    ∀ (k : Nat) (c : List Int32) (p : Nat) (M0 M : MM) (w : Int64) (v : Int32) (x : α), n < p + k → p ≤ n → RdM M0 b n f → PostM M0 M w b n o (true, c, p) v →
      ∃ (M' : MM) (w' : Int64) (v' : Int32), K v x (M, w, true, true, l, t, u) = some (some (vI v'), (M', w', true, true, l, t, u)) ∧ PostM M0 M' w' b n o (pL b n (pP b n d (lv + 1) o) lv k c p) v' := by
  intro k
  induction k with
  | zero => intro c p M0 M w v x h1 h2; omega
  | succ k ih =>
    intro c p M0 M w v x hk hp hR0 hP
    obtain ⟨q1, q2, -⟩ := hP
    obtain ⟨q3, q4, q5, q6⟩ := q2 rfl
    have q3 : TokM M w b n p := q3
    have hS : MSt M w b n f p o := ⟨hR0.frQ q1, q3, q4, q5⟩
    unfold pL
    by_cases hl : lvT (tk b n p) = lv
    · rw [beq_t hl, cond_true, beq_f hlv2]
      obtain ⟨M1, w1, F, f1, f2, f3, f4⟩ := hyes M w p v x hp hS hl
      have hS1 : MSt M1 w1 b n f (te b n p) o := ⟨hS.1.fr f1, f2, (f1 30 0 26 (by omega)).trans q4, (f1 30 0 25 (by omega)).trans q5⟩
      obtain ⟨M2, w2, v2, g1, g2⟩ := ihd (te b n p) M1 w1 (te_le hp) hS1
      have hgood := pP_good b n d (lv + 1) o (te b n p) (te_le hp)
      have hpe := te_p (lvT_0 hl hlv)
      rw [f3, g1, bnd_s]
      obtain ⟨x', hx'⟩ := f4 v2 M2 w2
      rw [hx']
      have hfr : frQ M0 M2 := (q1.trans f1.Q).trans g2.1
      revert g2 hgood
      generalize pP b n d (lv + 1) o (te b n p) = r
      obtain ⟨ok, c2, p2⟩ := r
      intro g2 hgood
      cases ok
      · obtain ⟨a1, a2⟩ := g2.2.2 rfl
        rw [hbad M2 w2 _ x' a1]
        exact ⟨M2, w2, _, rfl, hfr, (fun q => by cases q), fun _ => ⟨a1, a2⟩⟩
      · have a1 : p2 ≤ n := hgood.1
        have a2 : te b n p < p2 := (hgood.2.2 rfl).1
        obtain ⟨b1, b2, b3, b4⟩ := g2.2.1 rfl
        refine ih (c ++ (c2 ++ [stT (tk b n p)])) p2 M0 M2 w2 _ x' (by omega) a1 hR0 ⟨hfr, fun _ => ⟨b1, b2, b3, fun nm st hnm => ?_⟩, fun q => by cases q⟩
        show evs nm (c ++ (c2 ++ [stT (tk b n p)])) st = _
        rw [evs_app, q6 nm st hnm, evs_app]
        have h9 := b4 nm (v :: st) (fun j hj => by
          rw [hnm j hj, f1 30 0 (13 + j) (by omega), q1 30 0 (13 + j) (by omega)])
        have h9 : evs nm c2 (v :: st) = v2 :: v :: st := h9
        rw [h9]
        show stp nm (stT (tk b n p)) (v2 :: v :: st) = _
        exact stp_op _ _ _ _ _
    · rw [beq_f hl, cond_false, hno M w p v x hp hS hl]
      exact ⟨M, w, v, rfl, q1, fun _ => ⟨q3, q4, q5, q6⟩, fun q => by cases q⟩
end
