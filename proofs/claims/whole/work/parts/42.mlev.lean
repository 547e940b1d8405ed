/-! the model reads a text -/
theorem jn_mul (a b : Int32) : jnI (stT 42) a b = a * b := by
  show jnI (-15) a b = _
  unfold jnI
  rw [if_neg (by decide), if_neg (by decide), if_neg (by decide), if_neg (by decide), if_neg (by decide), if_neg (by decide)]
theorem jn_add (a b : Int32) : jnI (stT 43) a b = a + b := by
  show jnI (-13) a b = _
  unfold jnI
  rw [if_neg (by decide), if_pos rfl]
theorem jn_sub (a b : Int32) : jnI (stT 45) a b = a - b := by
  show jnI (-14) a b = _
  unfold jnI
  rw [if_pos rfl]
theorem jn_same (a b : Int32) : jnI (stT 61) a b = if a = b then 1 else 0 := by
  show jnI (-12) a b = _
  unfold jnI
  rw [if_neg (by decide), if_neg (by decide), if_pos rfl]
theorem jn_less (a b : Int32) : jnI (stT 60) a b = if b ≤ a then 0 else 1 := by
  show jnI (-11) a b = _
  unfold jnI
  rw [if_neg (by decide), if_neg (by decide), if_neg (by decide), if_pos rfl]
theorem jn_and (a b : Int32) : jnI (stT 8) a b = if a = 0 then 0 else if b = 0 then 0 else 1 := by
  show jnI (-10) a b = _
  unfold jnI
  rw [if_neg (by decide), if_neg (by decide), if_neg (by decide), if_neg (by decide), if_pos rfl]
theorem jn_or (a b : Int32) : jnI (stT 7) a b = if a = 0 then if b = 0 then 0 else 1 else 1 := by
  show jnI (-9) a b = _
  unfold jnI
  rw [if_neg (by decide), if_neg (by decide), if_neg (by decide), if_neg (by decide), if_neg (by decide), if_pos rfl]
theorem lvT_inv {x lv : Nat} (h : lvT x = lv) : (lv = 0 → x = 7) ∧ (lv = 1 → x = 8) ∧ (lv = 2 → x = 60 ∨ x = 61) ∧ (lv = 3 → x = 43 ∨ x = 45) ∧ (lv = 4 → x = 42) := by
  unfold lvT at h
  (repeat' split at h) <;> omega
section
variable (X : Nat × (Nat → Int32))
theorem mlev_gen {α : Type} {b : Nat → Nat} {n f d N y y1 lv o : Nat} {l : List (Nat × Nat × Nat)} {t u : Nat} (hlv : lv < 5) (hlv2 : lv ≠ 2) (hn : n ≤ 160) (K : Int32 → α → Mem → Option Res) (G : Option AV → Mem → Option Res)
    (hno : ∀ (M : MM) (w : Int64) (p : Nat) (v : Int32) (x : α), p ≤ n → MSt M w b n f p o → lvT (tk b n p) ≠ lv → K v x (M, w, true, true, l, t, u) = some (some (vI v), (M, w, true, true, l, t, u)))
    (hbad : ∀ (M : MM) (w : Int64) (v : Int32) (x : α), M 30 0 26 = 1 → K v x (M, w, true, true, l, t, u) = some (some (vI v), (M, w, true, true, l, t, u)))
    (hyes : ∀ (M : MM) (w : Int64) (p : Nat) (v : Int32) (x : α), p ≤ n → MSt M w b n f p o → lvT (tk b n p) = lv → ∃ (M1 : MM) (w1 : Int64) (F : Option AV → Mem → Option Res), frM M M1 ∧ TokM M1 w1 b n (te b n p) ∧ K v x (M, w, true, true, l, t, u) = nBnd (callN X N y [vR 30 0] (M1, w1, true, true, l, t, u)) F ∧ ∀ (z : Int32) (M2 : MM) (w2 : Int64), ∃ x' : α, F (some (vI z)) (M2, w2, true, true, l, t, u) = K (jnI (stT (tk b n p)) v z) x' (M2, w2, true, true, l, t, u))
    (ihd : ∀ (p : Nat) (M : MM) (w : Int64), p ≤ n → MSt M w b n f p o → ∃ (M' : MM) (w' : Int64) (v : Int32), callN X N y [vR 30 0] (M, w, true, true, l, t, u) = some (some (vI v), (M', w', true, true, l, t, u)) ∧ PostM M M' w' b n o (pP b n d (lv + 1) o p) v)
    (hent : ∀ (M : MM) (w : Int64), callN X (N + 1) y1 [vR 30 0] (M, w, true, true, l, t, u) = nBnd (callN X N y [vR 30 0] (M, w, true, true, l, t, u)) G) (hG : ∀ (z : Int32) (M2 : MM) (w2 : Int64), ∃ x' : α, G (some (vI z)) (M2, w2, true, true, l, t, u) = K z x' (M2, w2, true, true, l, t, u))
    (p : Nat) (M : MM) (w : Int64) (hp : p ≤ n) (hS : MSt M w b n f p o) :
      ∃ (M' : MM) (w' : Int64) (v' : Int32), callN X (N + 1) y1 [vR 30 0] (M, w, true, true, l, t, u) = some (some (vI v'), (M', w', true, true, l, t, u)) ∧ PostM M M' w' b n o (pThen (pP b n d (lv + 1) o p) (fun c p2 => pL b n (pP b n d (lv + 1) o) lv 160 c p2)) v' := by
  obtain ⟨M2, w2, v2, g1, g2⟩ := ihd p M w hp hS
  have hgood := pP_good b n d (lv + 1) o p hp
  obtain ⟨x', hx'⟩ := hG v2 M2 w2
  rw [hent, g1, bnd_s, hx']
  revert g2 hgood
  generalize pP b n d (lv + 1) o p = r
  obtain ⟨ok, c2, p2⟩ := r
  intro g2 hgood
  cases ok
  · obtain ⟨a1, a2⟩ := g2.2.2 rfl
    rw [hbad M2 w2 _ x' a1]
    exact ⟨M2, w2, _, rfl, g2.1, (fun q => by cases q), fun _ => ⟨a1, a2⟩⟩
  · have a1 : p2 ≤ n := hgood.1
    have a2 : p < p2 := (hgood.2.2 rfl).1
    exact mlev_loop X hlv hlv2 K hno hbad hyes ihd 160 c2 p2 M M2 w2 v2 x' (by omega) a1 hS.1 g2
def MdL (b : Nat → Nat) (n f d : Nat) : Prop := ∀ (lv o p : Nat) (M : MM) (w : Int64) (l : List (Nat × Nat × Nat)) (t u e : Nat), lv ≤ 5 → o ≤ 5 → dN lv o ≤ d → p ≤ n → MSt M w b n f p o →
  ∃ (M' : MM) (w' : Int64) (v : Int32), callN X (e + d + 8) (141 - lv) [vR 30 0] (M, w, true, true, l, t, u) = some (some (vI v), (M', w', true, true, l, t, u)) ∧ PostM M M' w' b n o (pP b n d lv o p) v
theorem kM_of_tk {b : Nat → Nat} (hb : ∀ j, b j < 256) {n p : Nat} (h : 40 ≤ tk b n p ∨ (3 ≤ tk b n p ∧ tk b n p < 10)) : kM b n p ≠ 4 := by
  rcases h with h | h
  · have := (kM_sg hb h).mpr rfl
    omega
  · have := (tk_kM hb (n := n) (p := p)).2.2 h
    omega
theorem mlev_4 {b : Nat → Nat} {n f d : Nat} (ih : MdL X b n f d) {o p : Nat} {M : MM} {w : Int64} (l : List (Nat × Nat × Nat)) (t u e : Nat) (ho : o ≤ 5) (hd : dN 4 o ≤ d + 1) (hp : p ≤ n) (hS : MSt M w b n f p o) :
    ∃ (M' : MM) (w' : Int64) (v' : Int32), callN X (e + d + 8 + 1) 137 [vR 30 0] (M, w, true, true, l, t, u) = some (some (vI v'), (M', w', true, true, l, t, u)) ∧ PostM M M' w' b n o (pThen (pP b n d 5 o p) (fun c p2 => pL b n (pP b n d 5 o) 4 160 c p2)) v' := by
  have hn := hS.1.2.2.1
  have hb := hS.1.2.2.2.2.2
  refine mlev_gen X (α := AV) (y := 136) (lv := 4) (l := l) (t := t) (u := u) (by omega) (by omega) hn (fun v _ s => nR X (callN X (e + d + 8)) hX7_term 5 [vR 30 0, vI v] [] s) (fun v s2 => nR X (callN X (e + d + 8)) hX7_term 4 [vR 30 0, vX] (v.toList ++ []) s2) ?_ ?_ ?_ ?_ ?_ ?_ p M w hp hS
  · intro M w p v x hp hS hl
    have h42 : tk b n p ≠ 42 := fun q => hl (by rw [q]; rfl)
    show nR X (callN X (e + d + 8)) hX7_term 5 _ _ _ = _
    rw [bX7_term_5, li42, sX7_isSign X (e + d + 7) l t u hS.1 hS.2.1 hS.2.2.1 (by omega) (by omega), bnd_s, tl_s, beq_f h42]
    show nR X (callN X (e + d + 8)) hX7_term 11 _ [vI 0] _ = _
    rw [bX7_term_11, if_pos rfl]
  · intro M w v x h26
    show nR X (callN X (e + d + 8)) hX7_term 5 _ _ _ = _
    rw [bX7_term_5, sX7_isSignB X (e + d + 7) l t u _ h26, bnd_s, tl_s]
    show nR X (callN X (e + d + 8)) hX7_term 11 _ [vI 0] _ = _
    rw [bX7_term_11, if_pos rfl]
  · intro M w p v x hp hS hl
    have h42 : tk b n p = 42 := (lvT_inv hl).2.2.2.2 rfl
    obtain ⟨M1, w1, f1, f2, f3⟩ := sX7_next X (e + d + 6) w l t u hS.1 (te_le hp) (hS.2.1.2.2.1 (kM_of_tk hb (by omega)))
    refine ⟨M1, w1, fun z s2 => nR X (callN X (e + d + 8)) hX7_term 23 [vR 30 0, vI v] (z.toList ++ [vI v]) s2, f2, f3, ?_, fun z M2 w2 => ⟨x, ?_⟩⟩
    · show nR X (callN X (e + d + 8)) hX7_term 5 _ _ _ = _
      rw [bX7_term_5, li42, sX7_isSign X (e + d + 7) l t u hS.1 hS.2.1 hS.2.2.1 (by omega) (by omega), bnd_s, tl_s, beq_t h42]
      show nR X (callN X (e + d + 8)) hX7_term 11 _ [vI 1] _ = _
      rw [bX7_term_11, if_neg (by decide), f1, bnd_s, tl_n, bX7_term_18]
    · rw [h42, jn_mul]
      show nR X (callN X (e + d + 8)) hX7_term 23 [vR 30 0, vI v] [vI z, vI v] _ = _
      rw [bX7_term_23]
  · intro p M w hp hS
    exact ih 5 o p M w l t u e (by omega) ho (by unfold dN at hd ⊢; omega) hp hS
  · intro M w
    rw [aX7_term]
  · intro z M2 w2
    refine ⟨vX, ?_⟩
    show nR X (callN X (e + d + 8)) hX7_term 4 [vR 30 0, vX] [vI z] _ = _
    rw [bX7_term_4]
theorem mlev_3 {b : Nat → Nat} {n f d : Nat} (ih : MdL X b n f d) {o p : Nat} {M : MM} {w : Int64} (l : List (Nat × Nat × Nat)) (t u e : Nat) (ho : o ≤ 5) (hd : dN 3 o ≤ d + 1) (hp : p ≤ n) (hS : MSt M w b n f p o) :
    ∃ (M' : MM) (w' : Int64) (v' : Int32), callN X (e + d + 8 + 1) 138 [vR 30 0] (M, w, true, true, l, t, u) = some (some (vI v'), (M', w', true, true, l, t, u)) ∧ PostM M M' w' b n o (pThen (pP b n d 4 o p) (fun c p2 => pL b n (pP b n d 4 o) 3 160 c p2)) v' := by
  have hn := hS.1.2.2.1
  have hb := hS.1.2.2.2.2.2
  -- the two locals behind are whatever they were
  have hno : ∀ (M : MM) (w : Int64) (p : Nat) (v : Int32) (x x3 : AV), p ≤ n → MSt M w b n f p o → lvT (tk b n p) ≠ 3 → nR X (callN X (e + d + 8)) hX7_added 5 [vR 30 0, vI v, x, x3] [] (M, w, true, true, l, t, u) = some (some (vI v), (M, w, true, true, l, t, u)) := by
    intro M w p v x x3 hp hS hl
    have h43 : tk b n p ≠ 43 := fun q => hl (by rw [q]; rfl)
    have h45 : tk b n p ≠ 45 := fun q => hl (by rw [q]; rfl)
    rw [bX7_added_5, li43, sX7_isSign X (e + d + 7) l t u hS.1 hS.2.1 hS.2.2.1 (by omega) (by omega), bnd_s, tl_s, beq_f h43]
    show nR X (callN X (e + d + 8)) hX7_added 11 _ [vI 0] _ = _
    rw [bX7_added_11, if_pos rfl, li45, sX7_isSign X (e + d + 7) l t u hS.1 hS.2.1 hS.2.2.1 (by omega) (by omega), bnd_s, tl_s, beq_f h45]
    show nR X (callN X (e + d + 8)) hX7_added 20 _ [vI 0] _ = _
    rw [bX7_added_20, if_pos rfl]
  have hbad : ∀ (M : MM) (w : Int64) (v : Int32) (x x3 : AV), M 30 0 26 = 1 → nR X (callN X (e + d + 8)) hX7_added 5 [vR 30 0, vI v, x, x3] [] (M, w, true, true, l, t, u) = some (some (vI v), (M, w, true, true, l, t, u)) := by
    intro M w v x x3 h26
    rw [bX7_added_5, sX7_isSignB X (e + d + 7) l t u _ h26, bnd_s, tl_s]
    show nR X (callN X (e + d + 8)) hX7_added 11 _ [vI 0] _ = _
    rw [bX7_added_11, if_pos rfl, sX7_isSignB X (e + d + 7) l t u _ h26, bnd_s, tl_s]
    show nR X (callN X (e + d + 8)) hX7_added 20 _ [vI 0] _ = _
    rw [bX7_added_20, if_pos rfl]
  have hyes : ∀ (M : MM) (w : Int64) (p : Nat) (v : Int32) (x x3 : AV), p ≤ n → MSt M w b n f p o → lvT (tk b n p) = 3 → ∃ (M1 : MM) (w1 : Int64) (mo : Int32), frM M M1 ∧ TokM M1 w1 b n (te b n p) ∧ nR X (callN X (e + d + 8)) hX7_added 5 [vR 30 0, vI v, x, x3] [] (M, w, true, true, l, t, u) = nBnd (callN X (e + d + 8) 137 [vR 30 0] (M1, w1, true, true, l, t, u)) (fun z s2 => nR X (callN X (e + d + 8)) hX7_added 48 [vR 30 0, vI v, vI mo, x3] (z.toList ++ []) s2) ∧ ∀ z : Int32, jnI (stT (tk b n p)) v z = if mo = 0 then v - z else v + z := by
    intro M w p v x x3 hp hS hl
    have hw : w = lN (tk b n p) := by
      have h40 : 40 ≤ tk b n p := by have := (lvT_inv hl).2.2.2.1 rfl; omega
      have h9 := (kM_sg (n := n) (p := p) hb h40).mpr rfl
      rw [hS.2.1.2.2.2.2 h9.1, h9.2]
    obtain ⟨M1, w1, f1, f2, f3⟩ := sX7_next X (e + d + 6) w l t u hS.1 (te_le hp) (hS.2.1.2.2.1 (kM_of_tk hb (by have := (lvT_inv hl).2.2.2.1 rfl; omega)))
    rcases (lvT_inv hl).2.2.2.1 rfl with h | h
    · refine ⟨M1, w1, 1, f2, f3, ?_, fun z => by rw [h, jn_add, if_neg (by decide)]⟩
      rw [bX7_added_5, li43, sX7_isSign X (e + d + 7) l t u hS.1 hS.2.1 hS.2.2.1 (by omega) (by omega), bnd_s, tl_s, beq_t h]
      show nR X (callN X (e + d + 8)) hX7_added 11 _ [vI 1] _ = _
      rw [bX7_added_11, if_neg (by decide), if_pos ((lcmp_eq _ _).mpr (by rw [hw, h]; rfl)), f1, bnd_s, tl_n, bX7_added_44]
    · refine ⟨M1, w1, 0, f2, f3, ?_, fun z => by rw [h, jn_sub, if_pos rfl]⟩
      rw [bX7_added_5, li43, sX7_isSign X (e + d + 7) l t u hS.1 hS.2.1 hS.2.2.1 (by omega) (by omega), bnd_s, tl_s, beq_f (by omega)]
      show nR X (callN X (e + d + 8)) hX7_added 11 _ [vI 0] _ = _
      rw [bX7_added_11, if_pos rfl, li45, sX7_isSign X (e + d + 7) l t u hS.1 hS.2.1 hS.2.2.1 (by omega) (by omega), bnd_s, tl_s, beq_t h]
      show nR X (callN X (e + d + 8)) hX7_added 20 _ [vI 1] _ = _
      rw [bX7_added_20, if_neg (by decide), if_neg (fun q => by
        have := (lcmp_eq _ _).mp q
        rw [hw, h] at this
        exact absurd this (by decide)), f1, bnd_s, tl_n, bX7_added_44]
  refine mlev_gen X (α := AV × AV) (y := 137) (lv := 3) (l := l) (t := t) (u := u) (by omega) (by omega) hn (fun v x s => nR X (callN X (e + d + 8)) hX7_added 5 [vR 30 0, vI v, x.1, x.2] [] s) (fun v s2 => nR X (callN X (e + d + 8)) hX7_added 4 [vR 30 0, vX, vX, vX] (v.toList ++ []) s2) ?_ ?_ ?_ ?_ ?_ ?_ p M w hp hS
  · exact fun M w p v x hp hS hl => hno M w p v x.1 x.2 hp hS hl
  · exact fun M w v x h => hbad M w v x.1 x.2 h
  · intro M w p v x hp hS hl
    obtain ⟨M1, w1, mo, f2, f3, f4, f5⟩ := hyes M w p v x.1 x.2 hp hS hl
    refine ⟨M1, w1, _, f2, f3, f4, fun z M2 w2 => ⟨(vI mo, vI z), ?_⟩⟩
    rw [f5]
    show nR X (callN X (e + d + 8)) hX7_added 48 [vR 30 0, vI v, vI mo, x.2] [vI z] _ = nR X (callN X (e + d + 8)) hX7_added 5 [vR 30 0, vI (if mo = 0 then v - z else v + z), vI mo, vI z] [] _
    rw [bX7_added_48]
    by_cases c : mo = 0
    · rw [if_pos c, if_pos c]
    · rw [if_neg c, if_neg c]
  · intro p M w hp hS
    exact ih 4 o p M w l t u e (by omega) ho (by unfold dN at hd ⊢; omega) hp hS
  · intro M w
    rw [aX7_added]
  · intro z M2 w2
    refine ⟨(vX, vX), ?_⟩
    show nR X (callN X (e + d + 8)) hX7_added 4 [vR 30 0, vX, vX, vX] [vI z] _ = _
    rw [bX7_added_4]
theorem mlev_1 {b : Nat → Nat} {n f d : Nat} (ih : MdL X b n f d) {o p : Nat} {M : MM} {w : Int64} (l : List (Nat × Nat × Nat)) (t u e : Nat) (ho : o ≤ 5) (hd : dN 1 o ≤ d + 1) (hp : p ≤ n) (hS : MSt M w b n f p o) :
    ∃ (M' : MM) (w' : Int64) (v' : Int32), callN X (e + d + 8 + 1) 140 [vR 30 0] (M, w, true, true, l, t, u) = some (some (vI v'), (M', w', true, true, l, t, u)) ∧ PostM M M' w' b n o (pThen (pP b n d 2 o p) (fun c p2 => pL b n (pP b n d 2 o) 1 160 c p2)) v' := by
  have hn := hS.1.2.2.1
  have hb := hS.1.2.2.2.2.2
  have hw : ∀ (M : MM) (w : Int64) (p : Nat), p ≤ n → MSt M w b n f p o → callN X (e + d + 8) 132 [vR 30 0, vI 97, vI 110, vI 100, vI 0, vI 0, vI 0, vI 0, vI 0] (M, w, true, true, l, t, u) = some (some (bV (Nat.beq (tk b n p) 8)), (M, w, true, true, l, t, u)) := by
    intro M w p hp hS
    rw [← isW_key hb (k := 10) (by omega) (by omega)]
    exact sX7_isWord X (e + d + 5) l t u (k := 10) hS.1 hp hS.2.1 hS.2.2.1 (by omega)
  refine mlev_gen X (y := 139) (lv := 1) (l := l) (t := t) (u := u) (by omega) (by omega) hn (fun v x s => nR X (callN X (e + d + 8)) hX7_both 5 [vR 30 0, vI v, x] [] s) (fun v s2 => nR X (callN X (e + d + 8)) hX7_both 4 [vR 30 0, vX, vX] (v.toList ++ []) s2) ?_ ?_ ?_ ?_ ?_ ?_ p M w hp hS
  · intro M w p v x hp hS hl
    have h42 : tk b n p ≠ 8 := fun q => hl (by rw [q]; rfl)
    show nR X (callN X (e + d + 8)) hX7_both 5 _ _ _ = _
    rw [bX7_both_5, hw M w p hp hS, bnd_s, tl_s, beq_f h42]
    show nR X (callN X (e + d + 8)) hX7_both 20 _ [vI 0] _ = _
    rw [bX7_both_20, if_pos rfl]
  · intro M w v x h26
    show nR X (callN X (e + d + 8)) hX7_both 5 _ _ _ = _
    rw [bX7_both_5, sX7_isWordB X (e + d + 7) l t u _ _ _ _ _ _ _ _ h26, bnd_s, tl_s]
    show nR X (callN X (e + d + 8)) hX7_both 20 _ [vI 0] _ = _
    rw [bX7_both_20, if_pos rfl]
  · intro M w p v x hp hS hl
    have h42 : tk b n p = 8 := (lvT_inv hl).2.1 rfl
    obtain ⟨M1, w1, f1, f2, f3⟩ := sX7_next X (e + d + 6) w l t u hS.1 (te_le hp) (hS.2.1.2.2.1 (kM_of_tk hb (by omega)))
    refine ⟨M1, w1, fun z s2 => nR X (callN X (e + d + 8)) hX7_both 31 [vR 30 0, vI v, x] (z.toList ++ []) s2, f2, f3, ?_, fun z M2 w2 => ⟨vI z, ?_⟩⟩
    · show nR X (callN X (e + d + 8)) hX7_both 5 _ _ _ = _
      rw [bX7_both_5, hw M w p hp hS, bnd_s, tl_s, beq_t h42]
      show nR X (callN X (e + d + 8)) hX7_both 20 _ [vI 1] _ = _
      rw [bX7_both_20, if_neg (by decide), f1, bnd_s, tl_n, bX7_both_27]
    · rw [h42, jn_and]
      show nR X (callN X (e + d + 8)) hX7_both 31 [vR 30 0, vI v, x] [vI z] _ = _
      rw [bX7_both_31]
      by_cases c : v = 0
      · rw [if_pos c, if_pos c]
      · rw [if_neg c, if_neg c]
        by_cases c2 : z = 0
        · rw [if_pos c2, if_pos c2]
        · rw [if_neg c2, if_neg c2]
  · intro p M w hp hS
    exact ih 2 o p M w l t u e (by omega) ho (by unfold dN at hd ⊢; omega) hp hS
  · intro M w
    rw [aX7_both]
  · intro z M2 w2
    refine ⟨vX, ?_⟩
    show nR X (callN X (e + d + 8)) hX7_both 4 [vR 30 0, vX, vX] [vI z] _ = _
    rw [bX7_both_4]
theorem mlev_0 {b : Nat → Nat} {n f d : Nat} (ih : MdL X b n f d) {o p : Nat} {M : MM} {w : Int64} (l : List (Nat × Nat × Nat)) (t u e : Nat) (ho : o ≤ 5) (hd : dN 0 o ≤ d + 1) (hp : p ≤ n) (hS : MSt M w b n f p o) :
    ∃ (M' : MM) (w' : Int64) (v' : Int32), callN X (e + d + 8 + 1) 141 [vR 30 0] (M, w, true, true, l, t, u) = some (some (vI v'), (M', w', true, true, l, t, u)) ∧ PostM M M' w' b n o (pThen (pP b n d 1 o p) (fun c p2 => pL b n (pP b n d 1 o) 0 160 c p2)) v' := by
  have hn := hS.1.2.2.1
  have hb := hS.1.2.2.2.2.2
  have hw : ∀ (M : MM) (w : Int64) (p : Nat), p ≤ n → MSt M w b n f p o → callN X (e + d + 8) 132 [vR 30 0, vI 111, vI 114, vI 0, vI 0, vI 0, vI 0, vI 0, vI 0] (M, w, true, true, l, t, u) = some (some (bV (Nat.beq (tk b n p) 7)), (M, w, true, true, l, t, u)) := by
    intro M w p hp hS
    rw [← isW_key hb (k := 9) (by omega) (by omega)]
    exact sX7_isWord X (e + d + 5) l t u (k := 9) hS.1 hp hS.2.1 hS.2.2.1 (by omega)
  refine mlev_gen X (y := 140) (lv := 0) (l := l) (t := t) (u := u) (by omega) (by omega) hn (fun v x s => nR X (callN X (e + d + 8)) hX7_either 5 [vR 30 0, vI v, x] [] s) (fun v s2 => nR X (callN X (e + d + 8)) hX7_either 4 [vR 30 0, vX, vX] (v.toList ++ []) s2) ?_ ?_ ?_ ?_ ?_ ?_ p M w hp hS
  · intro M w p v x hp hS hl
    have h42 : tk b n p ≠ 7 := fun q => hl (by rw [q]; rfl)
    show nR X (callN X (e + d + 8)) hX7_either 5 _ _ _ = _
    rw [bX7_either_5, hw M w p hp hS, bnd_s, tl_s, beq_f h42]
    show nR X (callN X (e + d + 8)) hX7_either 19 _ [vI 0] _ = _
    rw [bX7_either_19, if_pos rfl]
  · intro M w v x h26
    show nR X (callN X (e + d + 8)) hX7_either 5 _ _ _ = _
    rw [bX7_either_5, sX7_isWordB X (e + d + 7) l t u _ _ _ _ _ _ _ _ h26, bnd_s, tl_s]
    show nR X (callN X (e + d + 8)) hX7_either 19 _ [vI 0] _ = _
    rw [bX7_either_19, if_pos rfl]
  · intro M w p v x hp hS hl
    have h42 : tk b n p = 7 := (lvT_inv hl).1 rfl
    obtain ⟨M1, w1, f1, f2, f3⟩ := sX7_next X (e + d + 6) w l t u hS.1 (te_le hp) (hS.2.1.2.2.1 (kM_of_tk hb (by omega)))
    refine ⟨M1, w1, fun z s2 => nR X (callN X (e + d + 8)) hX7_either 30 [vR 30 0, vI v, x] (z.toList ++ []) s2, f2, f3, ?_, fun z M2 w2 => ⟨vI z, ?_⟩⟩
    · show nR X (callN X (e + d + 8)) hX7_either 5 _ _ _ = _
      rw [bX7_either_5, hw M w p hp hS, bnd_s, tl_s, beq_t h42]
      show nR X (callN X (e + d + 8)) hX7_either 19 _ [vI 1] _ = _
      rw [bX7_either_19, if_neg (by decide), f1, bnd_s, tl_n, bX7_either_26]
    · rw [h42, jn_or]
      show nR X (callN X (e + d + 8)) hX7_either 30 [vR 30 0, vI v, x] [vI z] _ = _
      rw [bX7_either_30]
      by_cases c : v = 0
      · rw [if_pos c, if_pos c]
        by_cases c2 : z = 0
        · rw [if_pos c2, if_pos c2]
        · rw [if_neg c2, if_neg c2]
      · rw [if_neg c, if_neg c]
  · intro p M w hp hS
    exact ih 1 o p M w l t u e (by omega) ho (by unfold dN at hd ⊢; omega) hp hS
  · intro M w
    rw [aX7_either]
  · intro z M2 w2
    refine ⟨vX, ?_⟩
    show nR X (callN X (e + d + 8)) hX7_either 4 [vR 30 0, vX, vX] [vI z] _ = _
    rw [bX7_either_4]
end
