theorem dvF_lt {b : Nat → Nat} {q : Nat} : ∀ m, (∀ j, q ≤ j → j < q + m → isDi (b j) = true) → dvF b q m < 10 ^ m
  | 0, _ => by show 0 < 1; omega
  | m + 1, h => by
    have ih := dvF_lt m (fun j h1 h2 => h j h1 (by omega))
    have h3 := h (q + m) (by omega) (by omega)
    unfold isDi at h3
    rw [Bool.and_eq_true] at h3
    have h4 := Nat.ble_eq.mp h3.2
    show dvF b q m * 10 + b (q + m) - 48 < 10 ^ m * 10
    omega
theorem tv_num {b : Nat → Nat} {n p : Nat} (h : tk b n p = 2) (hb : ∀ j, b j < 256) : tv b n p < 2 ^ 31 := by
  have hk := (tk_kM hb (n := n) (p := p)).2.1.mp h
  unfold kM at hk
  unfold tv
  cases c1 : Nat.ble n (tq b n p)
  · rw [c1] at hk
    simp only [cond_false] at hk
    cases c2 : isLe (b (tq b n p))
    · rw [c2] at hk
      simp only [cond_false] at hk ⊢
      cases c3 : isDi (b (tq b n p))
      · rw [c3] at hk
        simp only [cond_false] at hk
        cases c4 : isSg (b (tq b n p)) <;> rw [c4] at hk <;> cases hk
      · rw [c3] at hk
        simp only [cond_true] at hk
        by_cases c : te b n p - tq b n p ≤ 4
        · have he : te b n p = sk isDi b n (tq b n p) := by
            unfold te
            rw [c1, c2, c3]
            rfl
          have h1 := dvF_lt (b := b) (q := tq b n p) (te b n p - tq b n p) (fun j h1 h2 => sk_all isDi b n (tq b n p) j h1 (by rw [← he]; have := te_ge b n p; omega))
          have h2 : 10 ^ (te b n p - tq b n p) ≤ 10 ^ 4 := Nat.pow_le_pow_right (by omega) c
          have h3 : (10 : Nat) ^ 4 < 2 ^ 31 := by decide
          omega
        · rw [if_neg c] at hk; omega
    · rw [c2] at hk
      simp only [cond_true] at hk
      omega
  · rw [c1] at hk
    cases hk
theorem lN_to32 (v : Nat) (h : v < 2 ^ 31) : (lN v).toInt32 = nI v := by
  rw [← nI_l h]
  exact Int32.toInt32_toInt64 _
section
variable (X : Nat × (Nat → Int32))
theorem mlev_2 {b : Nat → Nat} {n f d : Nat} (ih : MdL X b n f d) {o p : Nat} {M : MM} {w : Int64} (l : List (Nat × Nat × Nat)) (t u e : Nat) (ho : o ≤ 5) (hd : dN 2 o ≤ d + 1) (hp : p ≤ n) (hS : MSt M w b n f p o) :
    ∃ (M' : MM) (w' : Int64) (v' : Int32), callN X (e + d + 8 + 1) 139 [vR 30 0] (M, w, true, true, l, t, u) = some (some (vI v'), (M', w', true, true, l, t, u)) ∧ PostM M M' w' b n o (pP b n (d + 1) 2 o p) v' := by
  have hn := hS.1.2.2.1
  have hb := hS.1.2.2.2.2.2
  have hw : callN X (e + d + 8) 132 [vR 30 0, vI 110, vI 111, vI 116, vI 0, vI 0, vI 0, vI 0, vI 0] (M, w, true, true, l, t, u) = some (some (bV (Nat.beq (tk b n p) 9)), (M, w, true, true, l, t, u)) := by
    rw [← isW_key hb (k := 11) (by omega) (by omega)]
    exact sX7_isWord X (e + d + 5) l t u (k := 11) hS.1 hp hS.2.1 hS.2.2.1 (by omega)
  rw [aX7_not, hw, bnd_s, tl_s]
  unfold pP
  rw [ble_f (show 2 < 5 by omega), cond_false, beq_t (show 2 = 2 from rfl), Bool.true_and]
  by_cases c9 : tk b n p = 9
  · rw [beq_t c9, cond_true]
    show ∃ (M' : MM) (w' : Int64) (v' : Int32), nR X (callN X (e + d + 8)) hX7_not 15 _ [vI 1] _ = _ ∧ _
    obtain ⟨M1, w1, f1, f2, f3, f4⟩ := sX7_opens X (e + d + 5) l t u hS hp ho (kM_of_tk hb (by omega))
    rw [bX7_not_15, if_neg (by decide), f1, bnd_s, tl_s]
    by_cases c5 : o < 5
    · have hpe := te_p (b := b) (n := n) (p := p) (by omega)
      rw [blt_t c5, ble_f c5, cond_false]
      show ∃ (M' : MM) (w' : Int64) (v' : Int32), nR X (callN X (e + d + 8)) hX7_not 22 _ [vI 1] _ = _ ∧ _
      obtain ⟨M2, w2, v2, g1, g2⟩ := ih 2 (o + 1) (te b n p) M1 w1 l t u e (by omega) (by omega) (by unfold dN at hd ⊢; omega) (te_le hp) (f3 c5)
      have g1 : callN X (e + d + 8) 139 [vR 30 0] (M1, w1, true, true, l, t, u) = some (some (vI v2), (M2, w2, true, true, l, t, u)) := g1
      rw [bX7_not_22, if_neg (by decide), g1, bnd_s, tl_s]
      have hfr : frQ M (nSt M2 30 0 25 (M2 30 0 25 - 1)) := (f2.trans g2.1).st (by omega) _
      have hrun : nR X (callN X (e + d + 8)) hX7_not 31 [vR 30 0, vX, vX, vX] [vI v2] (M2, w2, true, true, l, t, u) = some (some (vI (if v2 = 0 then 1 else 0)), (nSt M2 30 0 25 (M2 30 0 25 - 1), w2, true, true, l, t, u)) := by
        rw [bX7_not_31]
        by_cases c : v2 = 0
        · rw [if_pos c, if_pos c]
        · rw [if_neg c, if_neg c]
      rw [hrun]
      refine ⟨_, w2, _, rfl, ?_⟩
      revert g2
      generalize pP b n d 2 (o + 1) (te b n p) = r
      obtain ⟨ok, c2, p2⟩ := r
      intro g2
      cases ok
      · obtain ⟨a1, a2⟩ := g2.2.2 rfl
        exact ⟨hfr, (fun q => by cases q), fun _ => ⟨(nst_j (by omega)).trans a1, (nst_j (by omega)).trans a2⟩⟩
      · obtain ⟨a1, a2, a3, a4⟩ := g2.2.1 rfl
        refine ⟨hfr, fun _ => ⟨a1.st (by omega), (nst_j (by omega)).trans a2, ?_, fun nm st hnm => ?_⟩, fun q => by cases q⟩
        · rw [nst_self, a3]
          exact nI_pred o
        · show evs nm (c2 ++ [-7]) st = _
          have h9 : evs nm c2 st = v2 :: st := a4 nm st (fun j hj => by rw [hnm j hj, f2 30 0 (13 + j) (by omega)])
          rw [evs_app, h9]
          exact stp_not nm v2 st
    · rw [blt_f (by omega), ble_t (Nat.le_of_not_lt c5), cond_true]
      show ∃ (M' : MM) (w' : Int64) (v' : Int32), nR X (callN X (e + d + 8)) hX7_not 22 _ [vI 0] _ = _ ∧ _
      rw [bX7_not_22, if_pos rfl]
      exact ⟨M1, w1, _, rfl, f2, (fun q => by cases q), fun _ => f4 (by omega)⟩
  · rw [beq_f c9, cond_false]
    show ∃ (M' : MM) (w' : Int64) (v' : Int32), nR X (callN X (e + d + 8)) hX7_not 15 _ [vI 0] _ = _ ∧ _
    rw [bX7_not_15, if_pos rfl]
    obtain ⟨M1, w1, v1, f1, f2⟩ := ih 3 o p M w l t u e (by omega) ho (by unfold dN at hd ⊢; omega) hp hS
    have f1 : callN X (e + d + 8) 138 [vR 30 0] (M, w, true, true, l, t, u) = some (some (vI v1), (M1, w1, true, true, l, t, u)) := f1
    rw [f1, bnd_s, tl_s]
    have hgood := pP_good b n d 3 o p hp
    show ∃ (M' : MM) (w' : Int64) (v' : Int32), nR X (callN X (e + d + 8)) hX7_not 56 _ [vI v1] _ = _ ∧ _
    show ∃ (M' : MM) (w' : Int64) (v' : Int32), _ ∧ PostM M M' w' b n o (pThen (pP b n d 3 o p) (fun c p2 => pL b n (pP b n d 3 o) 2 (159 + 1) c p2)) v'
    revert hgood f2
    generalize pP b n d 3 o p = r
    obtain ⟨ok, c1, p1⟩ := r
    intro f2 hgood
    cases ok
    · obtain ⟨a1, a2⟩ := f2.2.2 rfl
      rw [bX7_not_56, sX7_isSignB X (e + d + 7) l t u _ a1, bnd_s, tl_s]
      show ∃ (M' : MM) (w' : Int64) (v' : Int32), nR X (callN X (e + d + 8)) hX7_not 63 _ [vI 0] _ = _ ∧ _
      rw [bX7_not_63, if_pos rfl, sX7_isSignB X (e + d + 7) l t u _ a1, bnd_s, tl_s]
      show ∃ (M' : MM) (w' : Int64) (v' : Int32), nR X (callN X (e + d + 8)) hX7_not 72 _ [vI 0] _ = _ ∧ _
      rw [bX7_not_72, if_pos rfl]
      exact ⟨M1, w1, _, rfl, f2.1, (fun q => by cases q), fun _ => ⟨a1, a2⟩⟩
    · have hp1 : p1 ≤ n := hgood.1
      have hS1 : MSt M1 w1 b n f p1 o := f2.st hS rfl
      rw [pThen_t rfl]
      show ∃ (M' : MM) (w' : Int64) (v' : Int32), _ ∧ PostM M M' w' b n o (pL b n (pP b n d 3 o) 2 (159 + 1) c1 p1) v'
      unfold pL
      by_cases hl : lvT (tk b n p1) = 2
      · rw [beq_t hl, cond_true, beq_t (show 2 = 2 from rfl)]
        simp only [cond_true]
        have h40 : 40 ≤ tk b n p1 := by have := (lvT_inv hl).2.2.1 rfl; omega
        have hw : w1 = lN (tk b n p1) := by
          have h9 := (kM_sg (n := n) (p := p1) hb h40).mpr rfl
          rw [hS1.2.1.2.2.2.2 h9.1, h9.2]
        obtain ⟨M2, w2, g1, g2, g3⟩ := sX7_next X (e + d + 6) w1 l t u hS1.1 (te_le hp1) (hS1.2.1.2.2.1 (kM_of_tk hb (by omega)))
        have hrun : ∃ mo : Int32, nR X (callN X (e + d + 8)) hX7_not 56 [vR 30 0, vX, vX, vX] [vI v1] (M1, w1, true, true, l, t, u) = nBnd (callN X (e + d + 8) 138 [vR 30 0] (M2, w2, true, true, l, t, u)) (fun v s2 => nR X (callN X (e + d + 8)) hX7_not 102 [vR 30 0, vI v1, vI mo, vX] (v.toList ++ []) s2) ∧ ∀ z : Int32, jnI (stT (tk b n p1)) v1 z = if mo = 0 then (if v1 = z then 1 else 0) else (if z ≤ v1 then 0 else 1) := by
          rcases (lvT_inv hl).2.2.1 rfl with h | h
          · refine ⟨1, ?_, fun z => by rw [h, jn_less, if_neg (show ¬ (1 : Int32) = 0 by decide)]⟩
            rw [bX7_not_56, li60, sX7_isSign X (e + d + 7) l t u hS1.1 hS1.2.1 hS1.2.2.1 (by omega) (by omega), bnd_s, tl_s, beq_t h]
            show nR X (callN X (e + d + 8)) hX7_not 63 _ [vI 1] _ = _
            rw [bX7_not_63, if_neg (by decide), if_pos ((lcmp_eq _ _).mpr (by rw [hw, h]; rfl)), g1, bnd_s, tl_n, bX7_not_98]
          · refine ⟨0, ?_, fun z => by rw [h, jn_same, if_pos rfl]⟩
            rw [bX7_not_56, li60, sX7_isSign X (e + d + 7) l t u hS1.1 hS1.2.1 hS1.2.2.1 (by omega) (by omega), bnd_s, tl_s, beq_f (by omega)]
            show nR X (callN X (e + d + 8)) hX7_not 63 _ [vI 0] _ = _
            rw [bX7_not_63, if_pos rfl, li61, sX7_isSign X (e + d + 7) l t u hS1.1 hS1.2.1 hS1.2.2.1 (by omega) (by omega), bnd_s, tl_s, beq_t h]
            show nR X (callN X (e + d + 8)) hX7_not 72 _ [vI 1] _ = _
            rw [bX7_not_72, if_neg (by decide), if_neg (fun q => by
              have := (lcmp_eq _ _).mp q
              rw [hw, h] at this
              exact absurd this (by decide)), g1, bnd_s, tl_n, bX7_not_98]
        obtain ⟨mo, hrun, hmo⟩ := hrun
        have hS2 : MSt M2 w2 b n f (te b n p1) o := ⟨hS1.1.fr g2, g3, (g2 30 0 26 (by omega)).trans hS1.2.2.1, (g2 30 0 25 (by omega)).trans hS1.2.2.2⟩
        obtain ⟨M3, w3, v3, k1, k2⟩ := ih 3 o (te b n p1) M2 w2 l t u e (by omega) ho (by unfold dN at hd ⊢; omega) (te_le hp1) hS2
        have k1 : callN X (e + d + 8) 138 [vR 30 0] (M2, w2, true, true, l, t, u) = some (some (vI v3), (M3, w3, true, true, l, t, u)) := k1
        have hfr : frQ M M3 := (f2.1.trans g2.Q).trans k2.1
        have hend : nR X (callN X (e + d + 8)) hX7_not 102 [vR 30 0, vI v1, vI mo, vX] [vI v3] (M3, w3, true, true, l, t, u) = some (some (vI (jnI (stT (tk b n p1)) v1 v3)), (M3, w3, true, true, l, t, u)) := by
          rw [bX7_not_102, hmo]
          by_cases c : mo = 0
          · rw [if_pos c, if_pos c]
            by_cases c2 : v1 = v3
            · rw [if_pos c2, if_pos c2]
            · rw [if_neg c2, if_neg c2]
          · rw [if_neg c, if_neg c]
            by_cases c2 : v3 ≤ v1
            · rw [if_pos c2, if_pos c2]
            · rw [if_neg c2, if_neg c2]
        rw [hrun, k1, bnd_s, tl_s, hend]
        refine ⟨M3, w3, _, rfl, ?_⟩
        revert k2
        generalize pP b n d 3 o (te b n p1) = r
        obtain ⟨ok, c2, p2⟩ := r
        intro k2
        cases ok
        · obtain ⟨a1, a2⟩ := k2.2.2 rfl
          exact ⟨hfr, (fun q => by cases q), fun _ => ⟨a1, a2⟩⟩
        · obtain ⟨a1, a2, a3, a4⟩ := k2.2.1 rfl
          refine ⟨hfr, fun _ => ⟨a1, a2, a3, fun nm st hnm => ?_⟩, fun q => by cases q⟩
          show evs nm (c1 ++ (c2 ++ [stT (tk b n p1)])) st = _
          have h8 : evs nm c1 st = v1 :: st := (f2.2.1 rfl).2.2.2 nm st hnm
          have h9 : evs nm c2 (v1 :: st) = v3 :: v1 :: st := a4 nm (v1 :: st) (fun j hj => by rw [hnm j hj, g2 30 0 (13 + j) (by omega), f2.1 30 0 (13 + j) (by omega)])
          rw [evs_app, h8, evs_app, h9]
          exact stp_op nm _ v3 v1 st
      · rw [beq_f hl, cond_false]
        have h60 : tk b n p1 ≠ 60 := fun q => hl (by rw [q]; rfl)
        have h61 : tk b n p1 ≠ 61 := fun q => hl (by rw [q]; rfl)
        rw [bX7_not_56, li60, sX7_isSign X (e + d + 7) l t u hS1.1 hS1.2.1 hS1.2.2.1 (by omega) (by omega), bnd_s, tl_s, beq_f h60]
        show ∃ (M' : MM) (w' : Int64) (v' : Int32), nR X (callN X (e + d + 8)) hX7_not 63 _ [vI 0] _ = _ ∧ _
        rw [bX7_not_63, if_pos rfl, li61, sX7_isSign X (e + d + 7) l t u hS1.1 hS1.2.1 hS1.2.2.1 (by omega) (by omega), bnd_s, tl_s, beq_f h61]
        show ∃ (M' : MM) (w' : Int64) (v' : Int32), nR X (callN X (e + d + 8)) hX7_not 72 _ [vI 0] _ = _ ∧ _
        rw [bX7_not_72, if_pos rfl]
        exact ⟨M1, w1, _, rfl, f2⟩
end
