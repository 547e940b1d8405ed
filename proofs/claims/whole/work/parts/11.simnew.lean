section
variable {E : EnvT} {X : Nat × (Nat → Int32)} {nL : Nat} {s0 : Mem} {p : Program} {l : Launch} {e : Env} {R : Room} {s : State} {m : MethodId} {args : Array Value} {below : List Frame} {meth : Method} {c : Code} {Q : State → Prop} {cc : ByteArray} {oC : String} {ini : Bool} {pc : Nat} {ls st : List AV} {σ : Mem} {K : Kon} {r : Res}
theorem mk_t (σ : Mem) (n : Nat) : nT (nMk σ n) = nT σ + 1 := rfl
theorem mk_u (σ : Mem) (n : Nat) : nU (nMk σ n) = nU σ + n := rfl
theorem z_ne (M : MM) (k i : Nat) {a b d : Nat} (h : ¬ (a = k ∧ b = i)) : nZ M k i a b d = M a b d := if_neg h
theorem z_self (M : MM) (k i d : Nat) : nZ M k i k i d = 0 := if_pos ⟨rfl, rfl⟩
theorem mk_other (σ : Mem) (n : Nat) {k2 i2 : Nat} (hv : okT (nT σ) (k2, i2)) : cE E (nMk σ n) k2 i2 = cE E σ k2 i2 := by
  have hn : ¬ (k2 = (nIdAt (nT σ)).1 ∧ i2 = (nIdAt (nT σ)).2) := by
    rintro ⟨rfl, rfl⟩
    have := hv.2.1
    dsimp only at this
    rw [off_idAt] at this
    omega
  refine cE_ext E (fun d => z_ne _ _ _ hn) (fun h => ?_) (fun _ _ => rfl)
  show cond ((nIdAt (nT σ)).1 == 30) 0 σ.2.1 = σ.2.1
  cases h9 : ((nIdAt (nT σ)).1 == 30)
  · rfl
  · exfalso
    have h30 := eq_of_beq h9
    have e1 : nOff k2 i2 = 53 := by
      subst h
      show 53 + 0 * i2 = 53
      omega
    have e2 : nT σ = 53 := by
      have := off_idAt (nT σ)
      rw [h30] at this
      have h7 : nOff 30 (nIdAt (nT σ)).2 = 53 := by
        show 53 + 0 * _ = 53
        omega
      omega
    have := hv.2.1
    dsimp only at this
    omega
theorem mk_wf {σ : Mem} (n : Nat) (h : wfA σ.2.2) : wfA (nMk σ n).2.2 := h.up _
theorem fin_new {s' : Mem} {pc2 N : Nat} {rr : List AV} {H H1 : Heap} {locs1 : List Loc} {lsC : Array Slot} {q : Nat} {x : va_E} (hs0 : s.heap.size = E.1.1 + nT s0) (hW : WD E σ H) (hs' : s' = nMk σ N) (hx : x = cE E s' (nIdAt (nT σ)).1 (nIdAt (nT σ)).2)
    (hP1 : va_P E.2.2.1 vwCl (wL E σ ++ [(q, x)]) H1) (hD1 : va_D (aF E) (wL E σ ++ [(q, x)])) (hS1 : va_S (aF E) s.heap H1 locs1) (hL : LH E nL lsC ls)
    (h1 : ∀ v ∈ ls, okV (nT σ) v) (h2 : ∀ v ∈ rr, okV (nT σ) v) (h3 : nT s0 ≤ nT σ ∧ nU s0 ≤ nU σ) (hk : Wf E nL s0 p l e R s m args below meth c Q pc2 ls (vR (nIdAt (nT σ)).1 (nIdAt (nT σ)).2 :: rr) s') :
    W p l e R s m args below meth c H1 locs1 (nT σ - nT s0 + 1) (nU σ - nU s0 + N) Q (F0 m pc2 lsC (.ref q :: rr.map (cV E))) := by
  refine W_sz fun hz => ?_
  have ht : nT s' = nT σ + 1 := by rw [hs']; rfl
  have hu : nU s' = nU σ + N := by rw [hs']; rfl
  obtain ⟨hW1, hq⟩ := WD.new E (s' := s') hW ht (fun k2 i2 hv => by rw [hs']; exact mk_other σ N hv) (by rw [hs']; exact mk_wf N hW.2.2) hx hP1 hD1 (by
    have := hW.2.1
    have := h3.1
    omega)
  have hle : nT σ ≤ nT s' := by omega
  have h4 := hk (fun v hv => (h1 v hv).le hle) (okl_cons (Or.inr (Or.inr (Or.inr (by rw [ht]; exact okT_idAt (Nat.lt_succ_self _))))) (fun v hv => (h2 v hv).le hle)) (by omega) H1 locs1 lsC hW1 hL hS1
  have e1 : nT s' - nT s0 = nT σ - nT s0 + 1 := by omega
  have e2 : nU s' - nU s0 = nU σ - nU s0 + N := by omega
  rw [e1, e2] at h4
  subst hq
  exact h4
theorem sim_new {cn idx : Nat} (hC : Ctx E X p R s m args meth c cc nL oC ini) (hs0 : s.heap.size = E.1.1 + nT s0) (hd : decode cc pc = .ok (.new idx, 3)) (hl : Cond.classLink oC idx (RC cn) ∈ gT) (hins : Cond.instantiable (RC cn) (nNf cn) ∈ gT) (hini : Cond.initialized (RC cn) ∈ gT)
    (hK : pNew K pc ls st σ cn = some r) (hk : ∀ pc ls st σ', K pc ls st σ' = some r → Wf E nL s0 p l e R s m args below meth c Q pc ls st σ') (hfin : ∀ pc ls st σ', K pc ls st σ' = some r → nT σ' ≤ nT s0 + R.cells ∧ nU σ' ≤ nU s0 + R.slots) : Wf E nL s0 p l e R s m args below meth c Q pc ls st σ := by
  unfold pNew at hK
  cases hb : (nKc (nIdAt σ.2.2.2.2.2.1).1 == cn && Nat.blt 0 cn)
  · rw [hb] at hK; cases hK
  · rw [hb] at hK
    rw [Bool.and_eq_true] at hb
    have hkc := eq_of_beq hb.1
    have h0 : 0 < cn := Nat.blt_eq.mp hb.2
    have hcn : 1 ≤ cn ∧ cn ≤ 7 := by
      refine ⟨h0, ?_⟩
      rw [← hkc]
      unfold nKc
      split <;> decide
    obtain ⟨g1, g2, g3, g4, g5, g6, g7⟩ := hC
    intro h1 h2 h3 H locs lsC hW hL hS
    have hf := hfin _ _ _ _ hK
    rw [mk_t, mk_u] at hf
    have hex : cE E (nMk σ (nNf cn)) (nIdAt (nT σ)).1 (nIdAt (nT σ)).2 = .inr (cn - 1, (List.range (nNf cn)).map (fV E (nMk σ (nNf cn)) (nIdAt (nT σ)).1 (nIdAt (nT σ)).2)) := cE_obj hkc (by omega)
    refine va_new (D := E.2.2.1) (cl := vwCl) (tys := tysF E) (ws := wL E σ) (A := aF E) (C := RC cn) (T := TC cn) (N := nNf cn) (fs := (List.range (nNf cn)).map (fV E (nMk σ (nNf cn)) (nIdAt (nT σ)).1 (nIdAt (nT σ)).2)) g1 g2 (fun w hw => g5 w hw) (clWs hcn) (tyC cn) (clTy hcn) g4 (g5 _ hl) (g5 _ hins) (g5 _ hini) g6.1 hW.1 (wL_D E σ) hS (fun q hq => by
        show E.1.1 ≤ q
        omega) (clAt hcn) ?_ (by omega) (by omega) hd (fun q H1 hP1 hD1 hS1 => ?_)
    · intro j hj
      have ho := clOk hcn j hj
      have hv : vp_V ((List.range (nNf cn)).map (fV E (nMk σ (nNf cn)) (nIdAt (nT σ)).1 (nIdAt (nT σ)).2)) j = fV E (nMk σ (nNf cn)) (nIdAt (nT σ)).1 (nIdAt (nT σ)).2 j := by
        simp [vp_V, hj]
      rw [hv]
      have e0 : (nMk σ (nNf cn)).1 (nIdAt (nT σ)).1 (nIdAt (nT σ)).2 j = 0 := z_self _ _ _ _
      unfold fV
      rw [hkc]
      rcases hf2 : nFt cn j with _ | _ | _ | _ | n
      · rw [hf2] at ho
        simp only [okF, Bool.and_eq_true, beq_iff_eq] at ho
        rw [ho.1]
        exact (congrArg Value.int e0).symm
      · rw [hf2] at ho
        simp only [okF, Bool.and_eq_true, beq_iff_eq] at ho
        rw [ho.1]
        exact (congrArg Value.int e0).symm
      · rw [hf2] at ho
        simp only [okF, Bool.and_eq_true, beq_iff_eq] at ho
        rw [ho.1]
        have h30 : (nIdAt (nT σ)).1 = 30 := ft2 (by rw [hkc]; exact hj) (by rw [hkc]; exact hf2)
        show Value.long 0 = Value.long (cond ((nIdAt (nT σ)).1 == 30) 0 σ.2.1)
        rw [h30]
        rfl
      · rw [hf2] at ho
        simp only [okF, Bool.and_eq_true, beq_iff_eq] at ho
        have hrs : rsl (nIdAt (nT σ)).1 j = true := by
          unfold rsl
          rw [hkc, hf2]
          simp only [bne_iff_ne, Bool.or_eq_true, Bool.and_eq_true, beq_iff_eq, Nat.blt_eq]
          exact Or.inr ⟨by omega, hj, trivial⟩
        have hro := new_rok hW.2.2 hrs
        have hro2 : nRok (nMk σ (nNf cn)).2.2 (nIdAt (nT σ)).1 (nIdAt (nT σ)).2 j = false := hro
        try dsimp only
        rw [hro2]
        have h9 := ho.2.2
        cases hty : tyC cn j <;> rw [hty] at h9 <;> first | rfl | cases h9
      · exfalso
        revert hf2
        have : nFt cn j ≤ 3 := by
          unfold nFt
          split <;> (try split) <;> decide
        omega
    · exact fin_new hs0 hW rfl hex.symm hP1 hD1 hS1 hL h1 h2 h3 (hk _ _ _ _ hK)
theorem sim_newI {x : Int32} {rr : List AV} (hC : Ctx E X p R s m args meth c cc nL oC ini) (hs0 : s.heap.size = E.1.1 + nT s0) (hd : decode cc pc = .ok (.newarray .int, 2)) (hl : Cond.arrayClass .int ∈ gT)
    (hK : pNewa K pc 2 ls st σ 1 = some r) (hk : ∀ pc ls st σ', K pc ls st σ' = some r → Wf E nL s0 p l e R s m args below meth c Q pc ls st σ') (hfin : ∀ pc ls st σ', K pc ls st σ' = some r → nT σ' ≤ nT s0 + R.cells ∧ nU σ' ≤ nU s0 + R.slots) : Wf E nL s0 p l e R s m args below meth c Q pc ls st σ := by
  rcases st with _ | ⟨x | x | ⟨k, i⟩, rr⟩
  all_goals try (cases hK; done)
  unfold pNewa at hK
  dsimp only at hK
  cases hb : (nAk (nIdAt σ.2.2.2.2.2.1).1 == 1 && x == Int32.ofNat (nAl (nIdAt σ.2.2.2.2.2.1).1))
  · rw [hb] at hK; cases hK
  · rw [hb] at hK
    rw [Bool.and_eq_true] at hb
    have hak := eq_of_beq hb.1
    have hx := eq_of_beq hb.2
    obtain ⟨g1, g2, g3, g4, g5, g6, g7⟩ := hC
    intro h1 h2 h3 H locs lsC hW hL hS
    have hf := hfin _ _ _ _ hK
    rw [mk_t, mk_u] at hf
    have hal : nAl (nIdAt σ.2.2.2.2.2.1).1 ≤ 960 := by
      unfold nAl
      split <;> decide
    have hex : cE E (nMk σ (nAl (nIdAt σ.2.2.2.2.2.1).1)) (nIdAt (nT σ)).1 (nIdAt (nT σ)).2 = .inl (E.2.2.2.1, nAl (nIdAt σ.2.2.2.2.2.1).1, .inl (fun _ => 0)) := by
      rw [cE_int hak]
      have : (nMk σ (nAl (nIdAt σ.2.2.2.2.2.1).1)).1 (nIdAt (nT σ)).1 (nIdAt (nT σ)).2 = fun _ => 0 := funext fun d => z_self _ _ _ _
      rw [this]
    refine va_newa (D := E.2.2.1) (cl := vwCl) (tys := tysF E) (ws := wL E σ) (A := aF E) (atype := .int) (ty := .int) (a0 := (nAl (nIdAt σ.2.2.2.2.2.1).1, .inl (fun _ => 0))) (N' := nAl (nIdAt σ.2.2.2.2.2.1).1) g1 g2 (g5 _ hl) rfl g6.1 hW.1 (wL_D E σ) hS (fun q hq => by
        show E.1.1 ≤ q
        omega) (fun _ => rfl) (by rw [hx]; exact nI_pos (n := nAl (nIdAt σ.2.2.2.2.2.1).1) (by omega)) (by rw [hx]; exact nI_clamp (n := nAl (nIdAt σ.2.2.2.2.2.1).1) (by omega)) (by
        show nAl (nIdAt σ.2.2.2.2.2.1).1 * 4 ≤ 536870912
        omega) (by omega) (by omega) hd (fun q cA2 H1 hK1 hP1 hD1 hS1 => ?_)
    have hcl : cA2 = E.2.2.2.1 := by
      have a1 := (hK1.2 4 (cA2, .int) rfl).2
      have a2 := (g6.1.2 0 (E.2.2.2.1, .int) rfl).2
      exact Option.some.inj (a1.symm.trans a2)
    subst hcl
    exact fin_new hs0 hW rfl hex.symm hP1 hD1 hS1 hL h1 (okl_tl h2) h3 (hk _ _ _ _ hK)
theorem sim_newZ (hC : Ctx E X p R s m args meth c cc nL oC ini) (hs0 : s.heap.size = E.1.1 + nT s0) (hd : decode cc pc = .ok (.newarray .boolean, 2)) (hl : Cond.arrayClass .boolean ∈ gT)
    (hK : pNewa K pc 2 ls st σ 2 = some r) (hk : ∀ pc ls st σ', K pc ls st σ' = some r → Wf E nL s0 p l e R s m args below meth c Q pc ls st σ') (hfin : ∀ pc ls st σ', K pc ls st σ' = some r → nT σ' ≤ nT s0 + R.cells ∧ nU σ' ≤ nU s0 + R.slots) : Wf E nL s0 p l e R s m args below meth c Q pc ls st σ := by
  rcases st with _ | ⟨x | x | ⟨k, i⟩, rr⟩
  all_goals try (cases hK; done)
  unfold pNewa at hK
  dsimp only at hK
  cases hb : (nAk (nIdAt σ.2.2.2.2.2.1).1 == 2 && x == Int32.ofNat (nAl (nIdAt σ.2.2.2.2.2.1).1))
  · rw [hb] at hK; cases hK
  · rw [hb] at hK
    rw [Bool.and_eq_true] at hb
    have hak := eq_of_beq hb.1
    have hx := eq_of_beq hb.2
    obtain ⟨g1, g2, g3, g4, g5, g6, g7⟩ := hC
    intro h1 h2 h3 H locs lsC hW hL hS
    have hf := hfin _ _ _ _ hK
    rw [mk_t, mk_u] at hf
    have hal : nAl (nIdAt σ.2.2.2.2.2.1).1 ≤ 960 := by
      unfold nAl
      split <;> decide
    have hex : cE E (nMk σ (nAl (nIdAt σ.2.2.2.2.2.1).1)) (nIdAt (nT σ)).1 (nIdAt (nT σ)).2 = .inl (E.2.2.2.2.1, nAl (nIdAt σ.2.2.2.2.2.1).1, .inl (fun _ => 0)) := by
      rw [cE_bool hak]
      have : (nMk σ (nAl (nIdAt σ.2.2.2.2.2.1).1)).1 (nIdAt (nT σ)).1 (nIdAt (nT σ)).2 = fun _ => 0 := funext fun d => z_self _ _ _ _
      rw [this]
    refine va_newa (D := E.2.2.1) (cl := vwCl) (tys := tysF E) (ws := wL E σ) (A := aF E) (atype := .boolean) (ty := .boolean) (a0 := (nAl (nIdAt σ.2.2.2.2.2.1).1, .inl (fun _ => 0))) (N' := nAl (nIdAt σ.2.2.2.2.2.1).1) g1 g2 (g5 _ hl) rfl g6.1 hW.1 (wL_D E σ) hS (fun q hq => by
        show E.1.1 ≤ q
        omega) (fun _ => rfl) (by rw [hx]; exact nI_pos (n := nAl (nIdAt σ.2.2.2.2.2.1).1) (by omega)) (by rw [hx]; exact nI_clamp (n := nAl (nIdAt σ.2.2.2.2.2.1).1) (by omega)) (by
        show nAl (nIdAt σ.2.2.2.2.2.1).1 * 1 ≤ 536870912
        omega) (by omega) (by omega) hd (fun q cA2 H1 hK1 hP1 hD1 hS1 => ?_)
    have hcl : cA2 = E.2.2.2.2.1 := by
      have a1 := (hK1.2 4 (cA2, .boolean) rfl).2
      have a2 := (g6.1.2 1 (E.2.2.2.2.1, .boolean) rfl).2
      exact Option.some.inj (a1.symm.trans a2)
    subst hcl
    exact fin_new hs0 hW rfl hex.symm hP1 hD1 hS1 hL h1 (okl_tl h2) h3 (hk _ _ _ _ hK)
theorem sim_newA {cn idx : Nat} (hC : Ctx E X p R s m args meth c cc nL oC ini) (hs0 : s.heap.size = E.1.1 + nT s0) (hd : decode cc pc = .ok (.anewarray idx, 3)) (hl : Cond.classLink oC idx (RC cn) ∈ gT)
    (hK : cond (nAnk cn == (nIdAt σ.2.2.2.2.2.1).1) (pNewa K pc 3 ls st σ 3) none = some r) (hk : ∀ pc ls st σ', K pc ls st σ' = some r → Wf E nL s0 p l e R s m args below meth c Q pc ls st σ') (hfin : ∀ pc ls st σ', K pc ls st σ' = some r → nT σ' ≤ nT s0 + R.cells ∧ nU σ' ≤ nU s0 + R.slots) : Wf E nL s0 p l e R s m args below meth c Q pc ls st σ := by
  cases hkb : (nAnk cn == (nIdAt σ.2.2.2.2.2.1).1)
  · rw [hkb] at hK; cases hK
  rw [hkb] at hK
  rw [cond_true] at hK
  rcases st with _ | ⟨x | x | ⟨k, i⟩, rr⟩
  all_goals try (cases hK; done)
  unfold pNewa at hK
  dsimp only at hK
  cases hb : (nAk (nIdAt σ.2.2.2.2.2.1).1 == 3 && x == Int32.ofNat (nAl (nIdAt σ.2.2.2.2.2.1).1))
  · rw [hb] at hK; cases hK
  · rw [hb] at hK
    rw [Bool.and_eq_true] at hb
    have hak := eq_of_beq hb.1
    have hx := eq_of_beq hb.2
    have hkk := eq_of_beq hkb
    have hcn : cn = 4 ∨ cn = 3 := by
      rcases Nat.lt_or_ge cn 3 with q | q
      · exfalso
        have : nAnk cn = 0 := by unfold nAnk; split <;> first | rfl | omega
        rw [← hkk, this] at hak
        cases hak
      · rcases Nat.lt_or_ge cn 5 with q2 | q2
        · omega
        · exfalso
          have : nAnk cn = 0 := by unfold nAnk; split <;> first | rfl | omega
          rw [← hkk, this] at hak
          cases hak
    obtain ⟨g1, g2, g3, g4, g5, g6, g7⟩ := hC
    intro h1 h2 h3 H locs lsC hW hL hS
    have hf := hfin _ _ _ _ hK
    rw [mk_t, mk_u] at hf
    have hal : nAl (nIdAt σ.2.2.2.2.2.1).1 ≤ 960 := by
      unfold nAl
      split <;> decide
    have hrv : rV E (nMk σ (nAl (nIdAt σ.2.2.2.2.2.1).1)) (nIdAt (nT σ)).1 (nIdAt (nT σ)).2 = fun _ => none := by
      funext d
      unfold rV
      by_cases hdl : d < nAl (nIdAt (nT σ)).1
      · have hrs : rsl (nIdAt (nT σ)).1 d = true := by
          unfold rsl
          rw [hak]
          simp only [Bool.or_eq_true, Bool.and_eq_true, beq_iff_eq, Nat.blt_eq]
          exact Or.inl ⟨trivial, hdl⟩
        have hro2 : nRok (nMk σ (nAl (nIdAt σ.2.2.2.2.2.1).1)).2.2 (nIdAt (nT σ)).1 (nIdAt (nT σ)).2 d = false := new_rok hW.2.2 hrs
        rw [hro2, Bool.and_false]
        rfl
      · have hb2 : Nat.blt d (nAl (nIdAt (nT σ)).1) = false := by rw [Bool.eq_false_iff]; intro q; exact hdl (Nat.blt_eq.mp q)
        rw [hb2]
        rfl
    have hex : cE E (nMk σ (nAl (nIdAt σ.2.2.2.2.2.1).1)) (nIdAt (nT σ)).1 (nIdAt (nT σ)).2 = .inl (cond ((nIdAt (nT σ)).1 == 13) E.2.2.2.2.2.1 E.2.2.2.2.2.2, nAl (nIdAt σ.2.2.2.2.2.1).1, .inr (.inr (.inr (.inr (fun _ => none))))) := by
      rw [cE_ref hak, hrv]
    have hn1 : ¬ x < 0 := by rw [hx]; exact nI_pos (n := nAl (nIdAt σ.2.2.2.2.2.1).1) (by omega)
    have hn2 : x.toNatClampNeg = nAl (nIdAt σ.2.2.2.2.2.1).1 := by rw [hx]; exact nI_clamp (n := nAl (nIdAt σ.2.2.2.2.2.1).1) (by omega)
    rcases hcn with rfl | rfl
    · have e13 : (nIdAt (nT σ)).1 = 13 := hkk.symm
      refine va_newq (D := E.2.2.1) (cl := vwCl) (tys := tysF E) (ws := wL E σ) (A := aF E) (C := RX4) (N' := nAl (nIdAt σ.2.2.2.2.2.1).1) g1 g2 g4 (g5 _ hl) g6.2.2.1.1 g6.1 hW.1 (wL_D E σ) hS (fun q hq => by
        show E.1.1 ≤ q
        omega) hn1 hn2 (by omega) (by omega) (by omega) hd (fun q cA2 H1 hK1 hP1 hD1 hS1 => ?_)
      have hcl : cA2 = E.2.2.2.2.2.1 := by
        obtain ⟨_, _, _, _, _, a1⟩ := (hK1.2 4 (cA2, .object RX4) rfl).2
        obtain ⟨_, _, _, _, _, a2⟩ := (g6.1.2 2 (E.2.2.2.2.2.1, .object RX4) rfl).2
        exact Option.some.inj (a1.symm.trans a2)
      subst hcl
      rw [e13] at hex
      exact fin_new hs0 hW rfl (by rw [e13]; exact hex.symm) hP1 hD1 hS1 hL h1 (okl_tl h2) h3 (hk _ _ _ _ hK)
    · have e17 : (nIdAt (nT σ)).1 = 17 := hkk.symm
      refine va_newq (D := E.2.2.1) (cl := vwCl) (tys := tysF E) (ws := wL E σ) (A := aF E) (C := RX3) (N' := nAl (nIdAt σ.2.2.2.2.2.1).1) g1 g2 g4 (g5 _ hl) g6.2.2.1.2 g6.1 hW.1 (wL_D E σ) hS (fun q hq => by
        show E.1.1 ≤ q
        omega) hn1 hn2 (by omega) (by omega) (by omega) hd (fun q cA2 H1 hK1 hP1 hD1 hS1 => ?_)
      have hcl : cA2 = E.2.2.2.2.2.2 := by
        obtain ⟨_, _, _, _, _, a1⟩ := (hK1.2 4 (cA2, .object RX3) rfl).2
        obtain ⟨_, _, _, _, _, a2⟩ := (g6.1.2 3 (E.2.2.2.2.2.2, .object RX3) rfl).2
        exact Option.some.inj (a1.symm.trans a2)
      subst hcl
      rw [e17] at hex
      exact fin_new hs0 hW rfl (by rw [e17]; exact hex.symm) hP1 hD1 hS1 hL h1 (okl_tl h2) h3 (hk _ _ _ _ hK)
end
