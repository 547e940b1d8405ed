section
variable (X : Nat × (Nat → Int32))
theorem PostM.id {M : MM} {w : Int64} {b : Nat → Nat} {n f p o : Nat} (h : MSt M w b n f p o) (c : List Int32) (v : Int32) (hc : ∀ (nm : Nat → Int32) (st : List Int32), (∀ j, j < 6 → nm j = M 30 0 (13 + j)) → evs nm c st = v :: st) : PostM M M w b n o (true, c, p) v := ⟨frQ.refl M, fun _ => ⟨h.2.1, h.2.2.1, h.2.2.2, hc⟩, fun q => by cases q⟩
theorem mlev_5 {b : Nat → Nat} {n f d : Nat} (ih : MdL X b n f d) {o p : Nat} {M : MM} {w : Int64} (l : List (Nat × Nat × Nat)) (t u e : Nat) (ho : o ≤ 5) (hd : dN 5 o ≤ d + 1) (hp : p ≤ n) (hS : MSt M w b n f p o) :
    ∃ (M' : MM) (w' : Int64) (v' : Int32), callN X (e + d + 8 + 1) 136 [vR 30 0] (M, w, true, true, l, t, u) = some (some (vI v'), (M', w', true, true, l, t, u)) ∧ PostM M M' w' b n o (pP b n (d + 1) 5 o p) v' := by
  have hn := hS.1.2.2.1
  have hb := hS.1.2.2.2.2.2
  rw [aX7_atom, li45, sX7_isSign X (e + d + 7) l t u hS.1 hS.2.1 hS.2.2.1 (by omega) (by omega), bnd_s, tl_s]
  unfold pP
  rw [ble_t (Nat.le_refl 5), cond_true]
  have hkm := kM_lt b n p
  by_cases c45 : tk b n p = 45
  · rw [if_neg (by omega), if_neg (by omega), if_pos c45, beq_t c45]
    show ∃ (M' : MM) (w' : Int64) (v' : Int32), nR X (callN X (e + d + 8)) hX7_atom 8 _ [vI 1] _ = _ ∧ _
    obtain ⟨M1, w1, f1, f2, f3, f4⟩ := sX7_opens X (e + d + 5) l t u hS hp ho (kM_of_tk hb (by omega))
    rw [bX7_atom_8, if_neg (by decide), f1, bnd_s, tl_s]
    by_cases c5 : o < 5
    · rw [blt_t c5, ble_f c5, cond_false]
      show ∃ (M' : MM) (w' : Int64) (v' : Int32), nR X (callN X (e + d + 8)) hX7_atom 15 _ [vI 1] _ = _ ∧ _
      obtain ⟨M2, w2, v2, g1, g2⟩ := ih 5 (o + 1) (te b n p) M1 w1 l t u e (by omega) (by omega) (by unfold dN at hd ⊢; omega) (te_le hp) (f3 c5)
      have g1 : callN X (e + d + 8) 136 [vR 30 0] (M1, w1, true, true, l, t, u) = some (some (vI v2), (M2, w2, true, true, l, t, u)) := g1
      rw [bX7_atom_15, if_neg (by decide), g1, bnd_s, tl_s, bX7_atom_22, bX7_atom_161]
      have hfr : frQ M (nSt M2 30 0 25 (M2 30 0 25 - 1)) := (f2.trans g2.1).st (by omega) _
      refine ⟨_, w2, _, rfl, ?_⟩
      revert g2
      generalize pP b n d 5 (o + 1) (te b n p) = r
      obtain ⟨ok, c2, p2⟩ := r
      intro g2
      cases ok
      · obtain ⟨a1, a2⟩ := g2.2.2 rfl
        exact ⟨hfr, (fun q => by cases q), fun _ => ⟨(nst_j (by omega)).trans a1, (nst_j (by omega)).trans a2⟩⟩
      · obtain ⟨a1, a2, a3, a4⟩ := g2.2.1 rfl
        refine ⟨hfr, fun _ => ⟨a1.st (by omega), (nst_j (by omega)).trans a2, ?_, fun nm st hnm => ?_⟩, fun q => by cases q⟩
        · rw [nst_self, a3]
          exact nI_pred o
        · show evs nm (c2 ++ [-8]) st = _
          have h9 : evs nm c2 st = v2 :: st := a4 nm st (fun j hj => by rw [hnm j hj, f2 30 0 (13 + j) (by omega)])
          rw [evs_app, h9]
          exact stp_neg nm v2 st
    · rw [blt_f (by omega), ble_t (Nat.le_of_not_lt c5), cond_true]
      show ∃ (M' : MM) (w' : Int64) (v' : Int32), nR X (callN X (e + d + 8)) hX7_atom 15 _ [vI 0] _ = _ ∧ _
      rw [bX7_atom_15, if_pos rfl, bX7_atom_161]
      exact ⟨M1, w1, _, rfl, f2, (fun q => by cases q), fun _ => f4 (by omega)⟩
  rw [beq_f c45]
  show ∃ (M' : MM) (w' : Int64) (v' : Int32), nR X (callN X (e + d + 8)) hX7_atom 8 _ [vI 0] _ = _ ∧ _
  rw [bX7_atom_8, if_pos rfl, li40, sX7_isSign X (e + d + 7) l t u hS.1 hS.2.1 hS.2.2.1 (by omega) (by omega), bnd_s, tl_s]
  by_cases c40 : tk b n p = 40
  · rw [if_neg (by omega), if_neg (by omega), if_neg (by omega), if_pos c40, beq_t c40]
    show ∃ (M' : MM) (w' : Int64) (v' : Int32), nR X (callN X (e + d + 8)) hX7_atom 43 _ [vI 1] _ = _ ∧ _
    obtain ⟨M1, w1, f1, f2, f3, f4⟩ := sX7_opens X (e + d + 5) l t u hS hp ho (kM_of_tk hb (by omega))
    rw [bX7_atom_43, if_neg (by decide), f1, bnd_s, tl_s]
    by_cases c5 : o < 5
    · rw [blt_t c5, ble_f c5, cond_false]
      show ∃ (M' : MM) (w' : Int64) (v' : Int32), nR X (callN X (e + d + 8)) hX7_atom 50 _ [vI 1] _ = _ ∧ _
      obtain ⟨M2, w2, v2, g1, g2⟩ := ih 0 (o + 1) (te b n p) M1 w1 l t u e (by omega) (by omega) (by unfold dN at hd ⊢; omega) (te_le hp) (f3 c5)
      have g1 : callN X (e + d + 8) 141 [vR 30 0] (M1, w1, true, true, l, t, u) = some (some (vI v2), (M2, w2, true, true, l, t, u)) := g1
      rw [bX7_atom_50, if_neg (by decide), g1, bnd_s, tl_s]
      have hgood := pP_good b n d 0 (o + 1) (te b n p) (te_le hp)
      have hS1 := f3 c5
      have hfr2 : frQ M M2 := f2.trans g2.1
      revert g2 hgood
      generalize pP b n d 0 (o + 1) (te b n p) = r
      obtain ⟨ok, c2, p2⟩ := r
      intro g2 hgood
      cases ok
      · obtain ⟨a1, a2⟩ := g2.2.2 rfl
        have hfr : frQ M (nSt M2 30 0 25 (M2 30 0 25 - 1)) := hfr2.st (by omega) _
        show ∃ (M' : MM) (w' : Int64) (v' : Int32), nR X (callN X (e + d + 8)) hX7_atom 57 _ [vI v2] _ = _ ∧ _
        rw [bX7_atom_57, sX7_isSignB X (e + d + 7) l t u _ a1, bnd_s, tl_s]
        show ∃ (M' : MM) (w' : Int64) (v' : Int32), nR X (callN X (e + d + 8)) hX7_atom 64 _ [vI 0] _ = _ ∧ _
        rw [bX7_atom_64, if_pos rfl, sX7_failB X (e + d + 7) w2 l t u a1, bnd_s, tl_n, bX7_atom_71, nst_j (by omega), a1, if_neg (by decide), bX7_atom_161]
        exact ⟨_, w2, _, rfl, hfr, (fun q => by cases q), fun _ => ⟨(nst_j (by omega)).trans a1, (nst_j (by omega)).trans a2⟩⟩
      · have hp2 : p2 ≤ n := hgood.1
        have hS2 : MSt M2 w2 b n f p2 (o + 1) := g2.st hS1 rfl
        obtain ⟨a1, a2, a3, a4⟩ := g2.2.1 rfl
        rw [pThen_t rfl]
        show ∃ (M' : MM) (w' : Int64) (v' : Int32), nR X (callN X (e + d + 8)) hX7_atom 57 _ [vI v2] _ = _ ∧ PostM M M' w' b n o (if tk b n p2 = 41 then (true, c2, te b n p2) else (false, [], p2)) v'
        rw [bX7_atom_57, li41, sX7_isSign X (e + d + 7) l t u hS2.1 hS2.2.1 hS2.2.2.1 (by omega) (by omega), bnd_s, tl_s]
        by_cases c41 : tk b n p2 = 41
        · rw [if_pos c41, beq_t c41]
          show ∃ (M' : MM) (w' : Int64) (v' : Int32), nR X (callN X (e + d + 8)) hX7_atom 64 _ [vI 1] _ = _ ∧ _
          have hfr : frQ M2 (nSt M2 30 0 25 (M2 30 0 25 - 1)) := (frQ.refl M2).st (by omega) _
          obtain ⟨M3, w3, k1, k2, k3⟩ := sX7_next X (e + d + 6) w2 l t u (hS2.1.frQ hfr) (te_le hp2) ((nst_j (by omega)).trans (hS2.2.1.2.2.1 (kM_of_tk hb (by omega))))
          rw [bX7_atom_64, if_neg (by decide), bX7_atom_71, nst_j (by omega), a2, if_pos rfl, k1, bnd_s, tl_n, bX7_atom_92, bX7_atom_161]
          refine ⟨M3, w3, _, rfl, (hfr2.trans hfr).trans k2.Q, fun _ => ⟨k3, ?_, ?_, fun nm st hnm => ?_⟩, fun q => by cases q⟩
          · exact (k2 30 0 26 (by omega)).trans ((nst_j (by omega)).trans a2)
          · rw [k2 30 0 25 (by omega), nst_self, a3]
            exact nI_pred o
          · exact a4 nm st (fun j hj => by rw [hnm j hj, f2 30 0 (13 + j) (by omega)])
        · rw [if_neg c41, beq_f c41]
          show ∃ (M' : MM) (w' : Int64) (v' : Int32), nR X (callN X (e + d + 8)) hX7_atom 64 _ [vI 0] _ = _ ∧ _
          have hf9 := failM_post (o := o) hS2.2.1 v2
          have hf1 := (hf9.2.2 rfl).1
          have hf2 := (hf9.2.2 rfl).2
          rw [bX7_atom_64, if_pos rfl, sX7_fail X (e + d + 7) w2 l t u a2, bnd_s, tl_n, bX7_atom_71, nst_j (by omega), hf1, if_neg (by decide), bX7_atom_161]
          exact ⟨_, w2, _, rfl, (hfr2.trans hf9.1).st (by omega) _, (fun q => by cases q), fun _ => ⟨(nst_j (by omega)).trans hf1, (nst_j (by omega)).trans hf2⟩⟩
    · rw [blt_f (by omega), ble_t (Nat.le_of_not_lt c5), cond_true]
      show ∃ (M' : MM) (w' : Int64) (v' : Int32), nR X (callN X (e + d + 8)) hX7_atom 50 _ [vI 0] _ = _ ∧ _
      rw [bX7_atom_50, if_pos rfl, bX7_atom_161]
      exact ⟨M1, w1, _, rfl, f2, (fun q => by cases q), fun _ => f4 (by omega)⟩
  rw [beq_f c40]
  show ∃ (M' : MM) (w' : Int64) (v' : Int32), nR X (callN X (e + d + 8)) hX7_atom 43 _ [vI 0] _ = _ ∧ _
  rw [bX7_atom_43, if_pos rfl, hS.2.2.1, if_pos rfl, hS.2.1.2.1, li2, li1]
  simp (disch := omega) only [nI_eq]
  by_cases c2 : tk b n p = 2
  · have hk2 := (tk_kM hb (n := n) (p := p)).2.1.mp c2
    rw [if_pos c2, if_pos hk2]
    obtain ⟨M1, w1, f1, f2, f3⟩ := sX7_next X (e + d + 6) w l t u hS.1 (te_le hp) (hS.2.1.2.2.1 (by omega))
    rw [f1, bnd_s, tl_n, bX7_atom_120, bX7_atom_161, hS.2.1.2.2.2.1 hk2, lN_to32 _ (tv_num c2 hb)]
    refine ⟨M1, w1, _, rfl, f2.Q, fun _ => ⟨f3, (f2 30 0 26 (by omega)).trans hS.2.2.1, (f2 30 0 25 (by omega)).trans hS.2.2.2, fun nm st _ => ?_⟩, fun q => by cases q⟩
    exact stp_num nm (tv_num c2 hb) st
  have hk2 : kM b n p ≠ 2 := fun q => c2 ((tk_kM hb (n := n) (p := p)).2.1.mpr q)
  rw [if_neg c2, if_neg hk2, if_neg c45, if_neg c40, if_pos trivial]
  by_cases k1 : kM b n p = 1
  · rw [if_pos k1]
    obtain ⟨M1, v1, f1, f2, f3⟩ := sX7_name X (e + d + 4) l t u hS hp k1
    rw [f1, bnd_s, tl_s]
    by_cases c3 : tk b n p = 3
    · obtain ⟨rfl, e2, e3⟩ := f2 c3
      rw [if_pos c3, bX7_atom_142, hS.2.2.1, if_pos rfl]
      obtain ⟨M2, w2, g1, g2, g3⟩ := sX7_next X (e + d + 6) w l t u hS.1 (te_le hp) (hS.2.1.2.2.1 (by omega))
      rw [g1, bnd_s, tl_n, bX7_atom_154, bX7_atom_161]
      refine ⟨M2, w2, _, rfl, g2.Q, fun _ => ⟨g3, (g2 30 0 26 (by omega)).trans hS.2.2.1, (g2 30 0 25 (by omega)).trans hS.2.2.2, fun nm st hnm => ?_⟩, fun q => by cases q⟩
      show stp nm (-1 - nI (tv b n p)) st = _
      rw [stp_name nm e3, hnm _ e3, e2]
    · have e1 := f3 c3
      subst e1
      have hf9 := failM_post (o := o) hS.2.1 v1
      rw [if_neg c3, bX7_atom_142, (hf9.2.2 rfl).1, if_neg (by decide), bX7_atom_161]
      exact ⟨_, w, _, rfl, hf9⟩
  · rw [if_neg k1]
    have c3 : tk b n p ≠ 3 := fun q => k1 ((tk_kM hb (n := n) (p := p)).2.2 (by omega))
    rw [if_neg c3, sX7_fail X (e + d + 7) w l t u hS.2.2.1, bnd_s, tl_n, bX7_atom_161]
    exact ⟨_, w, _, rfl, failM_post (o := o) hS.2.1 _⟩
theorem mdl_all (b : Nat → Nat) (n f : Nat) : ∀ d, MdL X b n f d
  | 0 => fun lv o p M w l t u e hlv ho hd => by unfold dN at hd; omega
  | d + 1 => by
    have ih := mdl_all b n f d
    intro lv o p M w l t u e hlv ho hd hp hS
    have he : e + (d + 1) + 8 = e + d + 8 + 1 := by omega
    rw [he]
    have hno : ∀ lv, lv < 5 → lv ≠ 2 → pP b n (d + 1) lv o p = pThen (pP b n d (lv + 1) o p) (fun c p2 => pL b n (pP b n d (lv + 1) o) lv 160 c p2) := by
      intro lv h1 h2
      show cond (Nat.ble 5 lv) _ (cond (Nat.beq lv 2 && Nat.beq (tk b n p) 9) _ _) = _
      rw [ble_f h1, cond_false, beq_f h2, Bool.false_and, cond_false]
    have : lv = 0 ∨ lv = 1 ∨ lv = 2 ∨ lv = 3 ∨ lv = 4 ∨ lv = 5 := by omega
    rcases this with rfl | rfl | rfl | rfl | rfl | rfl
    · rw [hno 0 (by omega) (by omega)]
      exact mlev_0 X ih l t u e ho hd hp hS
    · rw [hno 1 (by omega) (by omega)]
      exact mlev_1 X ih l t u e ho hd hp hS
    · exact mlev_2 X ih l t u e ho hd hp hS
    · rw [hno 3 (by omega) (by omega)]
      exact mlev_3 X ih l t u e ho hd hp hS
    · rw [hno 4 (by omega) (by omega)]
      exact mlev_4 X ih l t u e ho hd hp hS
    · exact mlev_5 X ih l t u e ho hd hp hS
end
