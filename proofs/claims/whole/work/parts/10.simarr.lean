section
variable {E : EnvT} {X : Nat × (Nat → Int32)} {nL : Nat} {s0 : Mem} {p : Program} {l : Launch} {e : Env} {R : Room} {s : State} {m : MethodId} {args : Array Value} {below : List Frame} {meth : Method} {c : Code} {Q : State → Prop} {cc : ByteArray} {oC : String} {ini : Bool} {pc : Nat} {ls st : List AV} {σ : Mem} {K : Kon} {r : Res}
theorem fin_put {s' : Mem} {k i pc2 : Nat} {rr : List AV} {H H1 : Heap} {locs1 : List Loc} {lsC : Array Slot} (hs0 : s.heap.size = E.1.1 + nT s0) (hW : WD E σ H) (hv : okT (nT σ) (k, i)) (ht : nT s' = nT σ) (hu : nU s' = nU σ) (hA : wfA s'.2.2)
    (ho : ∀ k2 i2, okT (nT σ) (k2, i2) → (k2, i2) ≠ (k, i) → cE E s' k2 i2 = cE E σ k2 i2) (hP1 : va_P E.2.2.1 vwCl ((wL E σ).set (nOff k i) (cA E k i, cE E s' k i)) H1) (hS1 : va_S (aF E) s.heap H1 locs1) (hL : LH E nL lsC ls)
    (h1 : ∀ v ∈ ls, okV (nT σ) v) (h2 : ∀ v ∈ rr, okV (nT σ) v) (h3 : nT s0 ≤ nT σ ∧ nU s0 ≤ nU σ) (hk : Wf E nL s0 p l e R s m args below meth c Q pc2 ls rr s') :
    W p l e R s m args below meth c H1 locs1 (nT σ - nT s0) (nU σ - nU s0) Q (F0 m pc2 lsC (rr.map (cV E))) := by
  refine W_sz fun hz => ?_
  have hW1 : WD E s' H1 := by
    refine WD.put E hW hv ht ho hA hP1 ?_
    have := hW.2.1
    have := h3.1
    omega
  have h4 := hk (by rw [ht]; exact h1) (by rw [ht]; exact h2) (by rw [ht, hu]; exact h3) H1 locs1 lsC hW1 hL hS1
  rw [ht, hu] at h4
  exact h4
theorem st_upd (M : MM) (k i j : Nat) (v : Int32) : nSt M k i j v k i = upd (M k i) j v := by
  funext d
  unfold nSt upd
  by_cases h : d = j
  · rw [if_pos ⟨rfl, rfl, h⟩, if_pos h]
  · rw [if_neg (fun q => h q.2.2), if_neg h]
theorem sim_iald (hC : Ctx E X p R s m args meth c cc nL oC ini) (hd : decode cc pc = .ok (.iaload, 1))
    (hK : pIald X K pc ls st σ = some r) (hk : ∀ pc ls st σ', K pc ls st σ' = some r → Wf E nL s0 p l e R s m args below meth c Q pc ls st σ') : Wf E nL s0 p l e R s m args below meth c Q pc ls st σ := by
  rcases st with _ | ⟨x | x | ⟨k, j⟩, _ | ⟨y | y | ⟨k2, i2⟩, rr⟩⟩
  all_goals try (cases hK; done)
  unfold pIald at hK
  dsimp only at hK
  obtain ⟨g1, g2, g3, g4, g5, g6, g7⟩ := hC
  intro h1 h2 h3 H locs lsC hW hL hS
  by_cases h70 : k2 = 70
  · rw [if_pos h70] at hK
    cases hx : nIn x X.1
    · rw [hx] at hK; cases hK
    · rw [hx] at hK
      subst h70
      obtain ⟨-, -, -, -, -, -, -, k1, k2, k3, -⟩ := g6
      exact va_sld g1 g2 k1 (Nat.lt_of_lt_of_le k2 k3) (Nat.not_le.mpr k2) hS (in_iff hx) hd (hk _ _ _ _ hK h1 (okl_cons trivial (okl_tl (okl_tl h2))) h3 H locs lsC hW hL hS)
  · rw [if_neg h70] at hK
    cases ha : (nAk k2 == 1)
    · rw [ha] at hK; cases hK
    · rw [ha] at hK
      cases hx : nIn x (nAl k2)
      · rw [hx] at hK; cases hK
      · rw [hx] at hK
        have hv : okT (nT σ) (k2, i2) := okV.kc (okl_hd (okl_tl h2)) (ak_ne ha (by decide))
        have he := wL_at E σ hv
        rw [cE_int (eq_of_beq ha)] at he
        exact va_iald (D := E.2.2.1) (cl := vwCl) (tys := tysF E) (ws := wL E σ) g1 g2 g6.1 hW.1 (nOff k2 i2) 0 he rfl (in_iff hx) hd (hk _ _ _ _ hK h1 (okl_cons trivial (okl_tl (okl_tl h2))) h3 H locs lsC hW hL hS)
theorem sim_zald (hC : Ctx E X p R s m args meth c cc nL oC ini) (hd : decode cc pc = .ok (.baload, 1))
    (hK : pZald K pc ls st σ = some r) (hk : ∀ pc ls st σ', K pc ls st σ' = some r → Wf E nL s0 p l e R s m args below meth c Q pc ls st σ') : Wf E nL s0 p l e R s m args below meth c Q pc ls st σ := by
  rcases st with _ | ⟨x | x | ⟨k, j⟩, _ | ⟨y | y | ⟨k2, i2⟩, rr⟩⟩
  all_goals try (cases hK; done)
  unfold pZald at hK
  dsimp only at hK
  obtain ⟨g1, g2, g3, g4, g5, g6, g7⟩ := hC
  intro h1 h2 h3 H locs lsC hW hL hS
  cases ha : (nAk k2 == 2)
  · rw [ha] at hK; cases hK
  · rw [ha] at hK
    cases hx : nIn x (nAl k2)
    · rw [hx] at hK; cases hK
    · rw [hx] at hK
      have hv : okT (nT σ) (k2, i2) := okV.kc (okl_hd (okl_tl h2)) (ak_ne ha (by decide))
      have he := wL_at E σ hv
      rw [cE_bool (eq_of_beq ha)] at he
      exact va_zald (D := E.2.2.1) (cl := vwCl) (tys := tysF E) (ws := wL E σ) g1 g2 g6.1 hW.1 (nOff k2 i2) 1 he rfl (in_iff hx) hd (hk _ _ _ _ hK h1 (okl_cons trivial (okl_tl (okl_tl h2))) h3 H locs lsC hW hL hS)
theorem sim_aald (hC : Ctx E X p R s m args meth c cc nL oC ini) (hd : decode cc pc = .ok (.aaload, 1))
    (hK : pAald K pc ls st σ = some r) (hk : ∀ pc ls st σ', K pc ls st σ' = some r → Wf E nL s0 p l e R s m args below meth c Q pc ls st σ') : Wf E nL s0 p l e R s m args below meth c Q pc ls st σ := by
  rcases st with _ | ⟨x | x | ⟨k, j⟩, _ | ⟨y | y | ⟨k2, i2⟩, rr⟩⟩
  all_goals try (cases hK; done)
  unfold pAald at hK
  dsimp only at hK
  obtain ⟨g1, g2, g3, g4, g5, g6, g7⟩ := hC
  intro h1 h2 h3 H locs lsC hW hL hS
  cases ha : (nAk k2 == 3)
  · rw [ha] at hK; cases hK
  · rw [ha] at hK
    cases hx : nIn x (nAl k2)
    · rw [hx] at hK; cases hK
    · rw [hx] at hK
      cases ho : nRok σ.2.2 k2 i2 x.toNatClampNeg
      · rw [ho] at hK; cases hK
      · rw [ho] at hK
        have hv : okT (nT σ) (k2, i2) := okV.kc (okl_hd (okl_tl h2)) (ak_ne ha (by decide))
        have he := wL_at E σ hv
        have ha3 := eq_of_beq ha
        rw [cE_ref ha3] at he
        have hlt := in_lt hx
        have hrs : rsl k2 x.toNatClampNeg = true := by
          unfold rsl
          rw [ha3]
          simp only [Bool.or_eq_true, Bool.and_eq_true, beq_iff_eq, Nat.blt_eq]
          exact Or.inl ⟨trivial, hlt⟩
        have ht := wfA.tg hW.2.2 hv hrs ho
        have hcv := cV_ok (E := E) (k := (nTg k2 i2 x.toNatClampNeg).1) (i := (nTg k2 i2 x.toNatClampNeg).2) ht
        have hgo := hk _ _ _ _ hK h1 (okl_cons (Or.inr (Or.inr (Or.inr ht))) (okl_tl (okl_tl h2))) h3 H locs lsC hW hL hS
        have hrv : va_rf (rV E σ k2 i2 x.toNatClampNeg) = cV E (vR (nTg k2 i2 x.toNatClampNeg).1 (nTg k2 i2 x.toNatClampNeg).2) := by
          unfold rV
          rw [Nat.blt_eq.mpr hlt, ho]
          exact hcv.symm
        have hgo2 : W p l e R s m args below meth c H locs (nT σ - nT s0) (nU σ - nU s0) Q (F0 m (pc + 1) lsC (va_rf (rV E σ k2 i2 x.toNatClampNeg) :: rr.map (cV E))) := by
          rw [hrv]; exact hgo
        by_cases h13 : k2 = 13
        · subst h13
          exact va_aldq (D := E.2.2.1) (cl := vwCl) (tys := tysF E) (ws := wL E σ) (C := RX4) g1 g2 g6.1 hW.1 (nOff 13 i2) 2 he rfl (in_iff hx) hd hgo2
        · have h13b : (k2 == 13) = false := by simpa using h13
          rw [h13b] at he
          exact va_aldq (D := E.2.2.1) (cl := vwCl) (tys := tysF E) (ws := wL E σ) (C := RX3) g1 g2 g6.1 hW.1 (nOff k2 i2) 3 he rfl (in_iff hx) hd hgo2
theorem sim_iast (hC : Ctx E X p R s m args meth c cc nL oC ini) (hs0 : s.heap.size = E.1.1 + nT s0) (hd : decode cc pc = .ok (.iastore, 1))
    (hK : pIast K pc ls st σ = some r) (hk : ∀ pc ls st σ', K pc ls st σ' = some r → Wf E nL s0 p l e R s m args below meth c Q pc ls st σ') : Wf E nL s0 p l e R s m args below meth c Q pc ls st σ := by
  rcases st with _ | ⟨v | x | ⟨k, j⟩, _ | ⟨x | y | ⟨k2, j2⟩, _ | ⟨z | z | ⟨k3, i3⟩, rr⟩⟩⟩
  all_goals try (cases hK; done)
  unfold pIast at hK
  dsimp only at hK
  obtain ⟨g1, g2, g3, g4, g5, g6, g7⟩ := hC
  intro h1 h2 h3 H locs lsC hW hL hS
  cases ha : (nAk k3 == 1)
  · rw [ha] at hK; cases hK
  · rw [ha] at hK
    cases hx : nIn x (nAl k3)
    · rw [hx] at hK; cases hK
    · rw [hx] at hK
      have hv : okT (nT σ) (k3, i3) := okV.kc (okl_hd (okl_tl (okl_tl h2))) (ak_ne ha (by decide))
      have he := wL_at E σ hv
      have ha1 := eq_of_beq ha
      rw [cE_int ha1] at he
      refine va_iast (D := E.2.2.1) (cl := vwCl) (tys := tysF E) (ws := wL E σ) (A := aF E) g1 g2 g6.1 hW.1 (wL_D E σ) hS (nOff k3 i3) 0 he rfl (in_iff hx) hd (fun H1 locs1 hP1 _ hS1 => ?_)
      refine fin_put (s' := (nSt σ.1 k3 i3 x.toNatClampNeg v, σ.2)) hs0 hW hv rfl rfl hW.2.2 (fun k4 i4 _ hn => st_other hn) ?_ hS1 hL h1 (okl_tl (okl_tl (okl_tl h2))) h3 (hk _ _ _ _ hK)
      rw [cE_int ha1]
      dsimp only
      rw [st_upd]
      exact hP1
theorem sim_zast (hC : Ctx E X p R s m args meth c cc nL oC ini) (hs0 : s.heap.size = E.1.1 + nT s0) (hd : decode cc pc = .ok (.bastore, 1))
    (hK : pZast K pc ls st σ = some r) (hk : ∀ pc ls st σ', K pc ls st σ' = some r → Wf E nL s0 p l e R s m args below meth c Q pc ls st σ') : Wf E nL s0 p l e R s m args below meth c Q pc ls st σ := by
  rcases st with _ | ⟨v | x | ⟨k, j⟩, _ | ⟨x | y | ⟨k2, j2⟩, _ | ⟨z | z | ⟨k3, i3⟩, rr⟩⟩⟩
  all_goals try (cases hK; done)
  unfold pZast at hK
  dsimp only at hK
  obtain ⟨g1, g2, g3, g4, g5, g6, g7⟩ := hC
  intro h1 h2 h3 H locs lsC hW hL hS
  cases hab : (nAk k3 == 2 && nIsb v)
  · rw [hab] at hK; cases hK
  · rw [hab] at hK
    rw [Bool.and_eq_true] at hab
    obtain ⟨ha, hb⟩ := hab
    cases hx : nIn x (nAl k3)
    · rw [hx] at hK; cases hK
    · rw [hx] at hK
      have hv : okT (nT σ) (k3, i3) := okV.kc (okl_hd (okl_tl (okl_tl h2))) (ak_ne ha (by decide))
      have he := wL_at E σ hv
      have ha1 := eq_of_beq ha
      rw [cE_bool ha1] at he
      refine va_zast (D := E.2.2.1) (cl := vwCl) (tys := tysF E) (ws := wL E σ) (A := aF E) g1 g2 g6.1 hW.1 (wL_D E σ) hS (nOff k3 i3) 1 he rfl (in_iff hx) hd (fun H1 locs1 hP1 _ hS1 => ?_)
      refine fin_put (s' := (nSt σ.1 k3 i3 x.toNatClampNeg v, σ.2)) hs0 hW hv rfl rfl hW.2.2 (fun k4 i4 _ hn => st_other hn) ?_ hS1 hL h1 (okl_tl (okl_tl (okl_tl h2))) h3 (hk _ _ _ _ hK)
      have hvv : vp_nar .boolean v = v := by
        have hx : v = 0 ∨ v = 1 := by simpa [nIsb] using hb
        rcases hx with rfl | rfl <;> rfl
      rw [hvv] at hP1
      rw [cE_bool ha1]
      dsimp only
      rw [st_upd]
      exact hP1
theorem sim_aast (hC : Ctx E X p R s m args meth c cc nL oC ini) (hs0 : s.heap.size = E.1.1 + nT s0) (hd : decode cc pc = .ok (.aastore, 1))
    (hK : pAast K pc ls st σ = some r) (hk : ∀ pc ls st σ', K pc ls st σ' = some r → Wf E nL s0 p l e R s m args below meth c Q pc ls st σ') : Wf E nL s0 p l e R s m args below meth c Q pc ls st σ := by
  rcases st with _ | ⟨v | v | ⟨k2, i2⟩, _ | ⟨x | y | ⟨k4, j4⟩, _ | ⟨z | z | ⟨k, i⟩, rr⟩⟩⟩
  all_goals try (cases hK; done)
  unfold pAast at hK
  dsimp only at hK
  obtain ⟨g1, g2, g3, g4, g5, g6, g7⟩ := hC
  intro h1 h2 h3 H locs lsC hW hL hS
  cases ha : (nAk k == 3)
  · rw [ha] at hK; cases hK
  · rw [ha] at hK
    cases hx : nIn x (nAl k)
    · rw [hx] at hK; cases hK
    · rw [hx] at hK
      cases hg : (k2 == (nTg k i x.toNatClampNeg).1 && i2 == (nTg k i x.toNatClampNeg).2)
      · rw [hg] at hK; cases hK
      · rw [hg] at hK
        rw [Bool.and_eq_true] at hg
        have e1 := eq_of_beq hg.1
        have e2 := eq_of_beq hg.2
        have hv : okT (nT σ) (k, i) := okV.kc (okl_hd (okl_tl (okl_tl h2))) (ak_ne ha (by decide))
        have he := wL_at E σ hv
        have ha3 := eq_of_beq ha
        have hlt := in_lt hx
        have hrs : rsl k x.toNatClampNeg = true := by
          unfold rsl
          rw [ha3]
          simp only [Bool.or_eq_true, Bool.and_eq_true, beq_iff_eq, Nat.blt_eq]
          exact Or.inl ⟨trivial, hlt⟩
        have hne2 : k2 ≠ 0 ∧ k2 ≠ 1 ∧ k2 ≠ 70 := by
          have hn := rsl_small2 hv hrs
          have h5 := tg_small (nOff k i) hn _ (rsl_lt hrs) (by rw [show (nIdAt (nOff k i)).1 = k from congrArg Prod.fst hv.1]; exact hrs)
          rw [show (nIdAt (nOff k i)).1 = k from congrArg Prod.fst hv.1, show (nIdAt (nOff k i)).2 = i from congrArg Prod.snd hv.1] at h5
          rw [e1]
          exact h5.2.2
        have hv2 : okT (nT σ) (k2, i2) := okV.kc (okl_hd h2) hne2
        have hv3 : okT (nT σ) (nTg k i x.toNatClampNeg) := by
          have : (k2, i2) = nTg k i x.toNatClampNeg := by rw [e1, e2]
          rw [← this]; exact hv2
        have hec : k = 13 ∨ k = 17 := by
          unfold nAk at ha3
          split at ha3
          all_goals first | exact Or.inl rfl | exact Or.inr rfl | exact absurd ha3 (by decide)
        have hcA2 : cA E k2 i2 = E.1.1 + nOff (nTg k i x.toNatClampNeg).1 (nTg k i x.toNatClampNeg).2 := by
          unfold cA
          rw [if_neg hne2.2.1, if_neg hne2.2.2, e1, e2]
        have hcE : cE E (σ.1, σ.2.1, nRset σ.2.2 k i x.toNatClampNeg) k i = .inl (cond (k == 13) E.2.2.2.2.2.1 E.2.2.2.2.2.2, nAl k, .inr (.inr (.inr (.inr (va_up (rV E σ k i) x.toNatClampNeg (some (cA E k2 i2))))))) := by
          rw [cE_ref ha3]
          have : rV E (σ.1, σ.2.1, nRset σ.2.2 k i x.toNatClampNeg) k i = va_up (rV E σ k i) x.toNatClampNeg (some (cA E k2 i2)) := by
            funext d
            unfold va_up
            by_cases hd2 : d = x.toNatClampNeg
            · subst hd2
              rw [if_pos rfl]
              unfold rV
              dsimp only
              rw [(rset_rok (A := σ.2.2) (k := k) (i := i) hv hrs).mpr (Or.inl rfl), Nat.blt_eq.mpr hlt, hcA2]
              rfl
            · rw [if_neg hd2]
              unfold rV
              dsimp only
              by_cases hdl : d < nAl k
              · have hrs2 : rsl k d = true := by
                  unfold rsl
                  rw [ha3]
                  simp only [Bool.or_eq_true, Bool.and_eq_true, beq_iff_eq, Nat.blt_eq]
                  exact Or.inl ⟨trivial, hdl⟩
                rw [rset_rok_eq hv hrs2 (fun q => hd2 (by cases q; rfl))]
              · have hb : Nat.blt d (nAl k) = false := by rw [Bool.eq_false_iff]; intro q; exact hdl (Nat.blt_eq.mp q)
                rw [hb]
                rfl
          rw [this]
        rw [cE_ref ha3] at he
        have fin : ∀ (H1 : Heap) (locs1 : List Loc), va_P E.2.2.1 vwCl ((wL E σ).set (nOff k i) (cA E k i, .inl (cond (k == 13) E.2.2.2.2.2.1 E.2.2.2.2.2.2, nAl k, .inr (.inr (.inr (.inr (va_up (rV E σ k i) x.toNatClampNeg (some (cA E k2 i2))))))))) H1 → va_S (aF E) s.heap H1 locs1 →
            W p l e R s m args below meth c H1 locs1 (nT σ - nT s0) (nU σ - nU s0) Q (F0 m (pc + 1) lsC (rr.map (cV E))) := by
          intro H1 locs1 hP1 hS1
          refine fin_put (s' := (σ.1, σ.2.1, nRset σ.2.2 k i x.toNatClampNeg)) hs0 hW hv (congrArg Prod.fst (rset_t σ.2.2 k i _)) (congrArg Prod.snd (rset_t σ.2.2 k i _)) (rset_wf hW.2.2 hv hv3) (fun k4 i4 hv4 hn => cE_ext E (fun _ => rfl) (fun _ => rfl) (fun d hd2 => rset_rok_eq hv4 hd2 (fun q => hn (tri q)))) ?_ hS1 hL h1 (okl_tl (okl_tl (okl_tl h2))) h3 (hk _ _ _ _ hK)
          rw [hcE]
          exact hP1
        rcases hec with rfl | rfl
        · have k14 : k2 = 14 := e1
          subst k14
          have he2 := wL_at E σ hv2
          rw [cE_obj (cn := 4) rfl (by decide)] at he2
          exact va_astq (D := E.2.2.1) (cl := vwCl) (tys := tysF E) (ws := wL E σ) (A := aF E) (r := (RX4, TX4, 2)) g1 g2 g6.1 hW.1 (wL_D E σ) hS (nOff 13 i) 2 (nOff 14 i2) 3 he rfl he2 rfl (in_iff hx) hd (fun H1 locs1 hP1 _ hS1 => fin H1 locs1 hP1 hS1)
        · have k18 : k2 = 18 := e1
          subst k18
          have he2 := wL_at E σ hv2
          rw [cE_obj (cn := 3) rfl (by decide)] at he2
          exact va_astq (D := E.2.2.1) (cl := vwCl) (tys := tysF E) (ws := wL E σ) (A := aF E) (r := (RX3, TX3, 3)) g1 g2 g6.1 hW.1 (wL_D E σ) hS (nOff 17 i) 3 (nOff 18 i2) 2 he rfl he2 rfl (in_iff hx) hd (fun H1 locs1 hP1 _ hS1 => fin H1 locs1 hP1 hS1)
theorem sim_len (hC : Ctx E X p R s m args meth c cc nL oC ini) (hd : decode cc pc = .ok (.arraylength, 1))
    (hK : pLen X K pc ls st σ = some r) (hk : ∀ pc ls st σ', K pc ls st σ' = some r → Wf E nL s0 p l e R s m args below meth c Q pc ls st σ') : Wf E nL s0 p l e R s m args below meth c Q pc ls st σ := by
  rcases st with _ | ⟨x | x | ⟨k, i⟩, rr⟩
  all_goals try (cases hK; done)
  unfold pLen at hK
  dsimp only at hK
  obtain ⟨g1, g2, g3, g4, g5, g6, g7⟩ := hC
  intro h1 h2 h3 H locs lsC hW hL hS
  by_cases h70 : k = 70
  · rw [if_pos h70] at hK
    subst h70
    obtain ⟨-, -, -, -, -, -, -, k1, k2, k3, -⟩ := g6
    exact va_slen g1 g2 k1 (Nat.lt_of_lt_of_le k2 k3) (Nat.not_le.mpr k2) hS hd (hk _ _ _ _ hK h1 (okl_cons trivial (okl_tl h2)) h3 H locs lsC hW hL hS)
  · rw [if_neg h70] at hK
    cases ha : (nAk k == 0)
    · rw [ha] at hK
      have ha0 : nAk k ≠ 0 := by simpa using ha
      have hv : okT (nT σ) (k, i) := okV.kc (okl_hd h2) ⟨fun q => ha0 (by rw [q]; rfl), fun q => ha0 (by rw [q]; rfl), h70⟩
      have he := wL_at E σ hv
      have hgo := hk _ _ _ _ hK h1 (okl_cons trivial (okl_tl h2)) h3 H locs lsC hW hL hS
      have hle : nAk k = 1 ∨ nAk k = 2 ∨ nAk k = 3 := by
        revert ha0
        unfold nAk
        split <;> intro ha0 <;> first | exact Or.inl rfl | exact Or.inr (Or.inl rfl) | exact Or.inr (Or.inr rfl) | exact absurd rfl ha0
      rcases hle with h | h | h
      · rw [cE_int h] at he
        exact va_alen (D := E.2.2.1) (cl := vwCl) (tys := tysF E) (ws := wL E σ) g1 g2 g6.1 hW.1 (nOff k i) 0 he rfl rfl hd hgo
      · rw [cE_bool h] at he
        exact va_alen (D := E.2.2.1) (cl := vwCl) (tys := tysF E) (ws := wL E σ) g1 g2 g6.1 hW.1 (nOff k i) 1 he rfl rfl hd hgo
      · rw [cE_ref h] at he
        by_cases h13 : k = 13
        · subst h13
          exact va_alen (D := E.2.2.1) (cl := vwCl) (tys := tysF E) (ws := wL E σ) g1 g2 g6.1 hW.1 (nOff 13 i) 2 he rfl rfl hd hgo
        · have h13b : (k == 13) = false := by simpa using h13
          rw [h13b] at he
          exact va_alen (D := E.2.2.1) (cl := vwCl) (tys := tysF E) (ws := wL E σ) g1 g2 g6.1 hW.1 (nOff k i) 3 he rfl rfl hd hgo
    · rw [ha] at hK; cases hK
end
