/-! classes by their numbers -/
def RC (c : Nat) : String := match c with
  | 1 => RX0 | 2 => RX2 | 3 => RX3 | 4 => RX4 | 5 => RX5 | 6 => RX6 | _ => RX7
def TC (c : Nat) : u_T := match c with
  | 1 => TX0 | 2 => TX2 | 3 => TX3 | 4 => TX4 | 5 => TX5 | 6 => TX6 | _ => TX7
def tyC (c : Nat) : Nat → FieldType := match c with
  | 1 => tyX0 | 2 => tyX2 | 3 => tyX3 | 4 => tyX4 | 5 => tyX5 | 6 => tyX6 | _ => tyX7
def okF (c : Nat) (f : String × String × String × Bool) (ty : FieldType) (n : Nat) : Bool := match n with
  | 0 => ty == .int && !f.2.2.2
  | 1 => ty == .boolean && !f.2.2.2
  | 2 => ty == .long && !f.2.2.2
  | _ => f.2.2.2 && (f.1 == RC c && (match ty with | .object _ => true | .array _ => true | _ => false))
theorem nf_pos {c j : Nat} (h : j < nNf c) : 1 ≤ c ∧ c ≤ 7 := by
  unfold nNf at h
  split at h
  all_goals first | exact ⟨by decide, by decide⟩ | exact absurd h (Nat.not_lt_zero _)
theorem cases7 {P : Nat → Prop} (h1 : P 1) (h2 : P 2) (h3 : P 3) (h4 : P 4) (h5 : P 5) (h6 : P 6) (h7 : P 7) {c : Nat} (h : 1 ≤ c ∧ c ≤ 7) : P c := by
  obtain ⟨a, b⟩ := h
  match c, a, b with
  | 1, _, _ => exact h1
  | 2, _, _ => exact h2
  | 3, _, _ => exact h3
  | 4, _, _ => exact h4
  | 5, _, _ => exact h5
  | 6, _, _ => exact h6
  | 7, _, _ => exact h7
  | n + 8, _, b => exact absurd b (by omega)
theorem clAt {c : Nat} (h : 1 ≤ c ∧ c ≤ 7) : vwCl[c - 1]? = some (RC c, TC c, nNf c) := cases7 (P := fun c => vwCl[c - 1]? = some (RC c, TC c, nNf c)) rfl rfl rfl rfl rfl rfl rfl h
theorem clTy {c : Nat} (h : 1 ≤ c ∧ c ≤ 7) : ∀ k, k < nNf c → parseFieldDescriptor (TC c k).2.2.1 = some (tyC c k) := cases7 (P := fun c => ∀ k, k < nNf c → parseFieldDescriptor (TC c k).2.2.1 = some (tyC c k)) tyX0_ok tyX2_ok tyX3_ok tyX4_ok tyX5_ok tyX6_ok tyX7_ok h
theorem clNm {c : Nat} (h : 1 ≤ c ∧ c ≤ 7) : ∀ a, a < nNf c → ∀ b, b < nNf c → a ≠ b → (TC c a).2.1 ≠ (TC c b).2.1 := cases7 (P := fun c => ∀ a, a < nNf c → ∀ b, b < nNf c → a ≠ b → (TC c a).2.1 ≠ (TC c b).2.1) nmX0 nmX2 nmX3 nmX4 nmX5 nmX6 nmX7 h
theorem clOk {c : Nat} (h : 1 ≤ c ∧ c ≤ 7) : ∀ k, k < nNf c → okF c (TC c k) (tyC c k) (nFt c k) = true := cases7 (P := fun c => ∀ k, k < nNf c → okF c (TC c k) (tyC c k) (nFt c k) = true) (by decide +kernel) (by decide +kernel) (by decide +kernel) (by decide +kernel) (by decide +kernel) (by decide +kernel) (by decide +kernel) h
theorem ws_good {C : String} {T : u_T} {N : Nat} (h : ∀ w ∈ u_ws C T N, w ∈ lw_tbl) (hg : (u_ws C T N).all goodWord = true) : ∀ w ∈ u_ws C T N, w ∈ gT := fun w hw => List.mem_filter.mpr ⟨h w hw, List.all_eq_true.mp hg w hw⟩
theorem clWs {c : Nat} (h : 1 ≤ c ∧ c ≤ 7) : ∀ w ∈ u_ws (RC c) (TC c) (nNf c), w ∈ gT := cases7 (P := fun c => ∀ w ∈ u_ws (RC c) (TC c) (nNf c), w ∈ gT) (ws_good inX0 (by decide +kernel)) (ws_good inX2 (by decide +kernel)) (ws_good inX3 (by decide +kernel)) (ws_good inX4 (by decide +kernel)) (ws_good inX5 (by decide +kernel)) (ws_good inX6 (by decide +kernel)) (ws_good inX7 (by decide +kernel)) h
theorem tri {k i j k2 i2 j2 : Nat} (q : (k2, i2, j2) = (k, i, j)) : (k2, i2) = (k, i) := by
  cases q
  rfl
theorem W_sz {p : Program} {l : Launch} {e : Env} {R : Room} {s : State} {m : MethodId} {args : Array Value} {below : List Frame} {meth : Method} {c : Code} {Q : State → Prop} {H : Heap} {locs : List Loc} {cells slots : Nat} {g : JFrame} (k : H.size ≤ s.heap.size + cells → W p l e R s m args below meth c H locs cells slots Q g) : W p l e R s m args below meth c H locs cells slots Q g :=
  fun T hT X => k (by rw [← hT]; exact X.same.2.2.1) T hT X
section
variable {E : EnvT} {X : Nat × (Nat → Int32)} {nL : Nat} {s0 : Mem} {p : Program} {l : Launch} {e : Env} {R : Room} {s : State} {m : MethodId} {args : Array Value} {below : List Frame} {meth : Method} {c : Code} {Q : State → Prop} {cc : ByteArray} {oC : String} {ini : Bool} {pc : Nat} {ls st : List AV} {σ : Mem} {K : Kon} {r : Res}
theorem cE_obj {k i cn : Nat} (hc : nKc k = cn) (h0 : cn ≠ 0) : cE E σ k i = .inr (cn - 1, (List.range (nNf cn)).map (fV E σ k i)) := by
  subst hc
  unfold cE
  rw [kc_ak h0]
  rfl
theorem cE_int {k i : Nat} (hk : nAk k = 1) : cE E σ k i = .inl (E.2.2.2.1, nAl k, .inl (σ.1 k i)) := by
  unfold cE
  rw [hk]
  rfl
theorem cE_bool {k i : Nat} (hk : nAk k = 2) : cE E σ k i = .inl (E.2.2.2.2.1, nAl k, .inl (σ.1 k i)) := by
  unfold cE
  rw [hk]
  rfl
theorem cE_ref {k i : Nat} (hk : nAk k = 3) : cE E σ k i = .inl (cond (k == 13) E.2.2.2.2.2.1 E.2.2.2.2.2.2, nAl k, .inr (.inr (.inr (.inr (rV E σ k i))))) := by
  unfold cE
  rw [hk]
  rfl
theorem in_iff {x : Int32} {n : Nat} (h : nIn x n = true) : vp_in x n := by
  unfold nIn at h
  unfold vp_in
  exact of_decide_eq_true h
theorem in_lt {x : Int32} {n : Nat} (h : nIn x n = true) : x.toNatClampNeg < n := Nat.lt_of_not_le (fun q => in_iff h (Or.inr q))
theorem cV_ok {k i : Nat} (h : okT (nT σ) (k, i)) : cV E (.inr (.inr (k, i))) = .ref (E.1.1 + nOff k i) := by
  show Value.ref (cA E k i) = _
  unfold cA
  rw [if_neg h.2.2.2.1, if_neg h.2.2.2.2]
theorem sim_get {cn j idx : Nat} (hC : Ctx E X p R s m args meth c cc nL oC ini) (hd : decode cc pc = .ok (.getfield idx, 3)) (hl : Cond.fieldLink oC idx (TC cn j).1 (TC cn j).2.1 (TC cn j).2.2.1 ∈ gT)
    (hK : pGet K pc ls st σ cn j = some r) (hk : ∀ pc ls st σ', K pc ls st σ' = some r → Wf E nL s0 p l e R s m args below meth c Q pc ls st σ') : Wf E nL s0 p l e R s m args below meth c Q pc ls st σ := by
  rcases st with _ | ⟨x | x | ⟨k, i⟩, rr⟩
  · cases hK
  · cases hK
  · cases hK
  · unfold pGet at hK
    dsimp only at hK
    cases hb : (nKc k == cn && Nat.blt j (nNf cn))
    · rw [hb] at hK; cases hK
    · rw [hb] at hK
      rw [Bool.and_eq_true] at hb
      have hj : j < nNf cn := Nat.blt_eq.mp hb.2
      have hcn := nf_pos hj
      have hkc : nKc k = cn := eq_of_beq hb.1
      intro h1 h2 h3 H locs lsC hW hL hS
      have hv : okT (nT σ) (k, i) := okV.kc (okl_hd h2) (kc_ne hb.1 (by omega))
      have he := wL_at E σ hv
      rw [cE_obj hkc (by omega)] at he
      have hfv : ((List.range (nNf cn)).map (fV E σ k i))[j]? = some (fV E σ k i j) := by simp [hj]
      refine va_get (D := E.2.2.1) (cl := vwCl) (tys := tysF E) (ws := wL E σ) (C := RC cn) (T := TC cn) (N := nNf cn) hC.1 hC.2.1 (fun w hw => hC.2.2.2.2.1 w hw) (clWs hcn) hC.2.2.2.1 hC.2.2.2.2.2.1.1 hW.1 (nOff k i) he (clAt hcn) j hj (hC.2.2.2.2.1 _ hl) (fun _ h9 => h9) hfv hd ?_
      have hrs : nFt cn j = 3 → rsl k j = true := by
        intro h
        unfold rsl
        rw [hkc, h]
        simp only [bne_iff_ne, Bool.or_eq_true, Bool.and_eq_true, beq_iff_eq, Nat.blt_eq]
        exact Or.inr ⟨by omega, hj, trivial⟩
      have fin : ∀ v : AV, okV (nT σ) v → cV E v = fV E σ k i j → K (pc + 3) ls (v :: rr) σ = some r → W p l e R s m args below meth c H locs (nT σ - nT s0) (nU σ - nU s0) Q (F0 m (pc + 3) lsC (fV E σ k i j :: rr.map (cV E))) := by
        intro v hv2 hcv hq
        rw [← hcv]
        exact hk _ _ _ _ hq h1 (okl_cons hv2 (okl_tl h2)) h3 H locs lsC hW hL hS
      revert hK
      rcases hf : nFt cn j with _ | _ | _ | _ | n
      · intro hK
        exact fin (vI (σ.1 k i j)) trivial (by unfold fV; rw [hkc, hf]; rfl) hK
      · intro hK
        exact fin (vI (σ.1 k i j)) trivial (by unfold fV; rw [hkc, hf]; rfl) hK
      · intro hK
        exact fin (vL σ.2.1) trivial (by unfold fV; rw [hkc, hf]; rfl) hK
      · intro hK
        dsimp only [cond_true] at hK
        cases ho : nRok σ.2.2 k i j
        · rw [ho] at hK; cases hK
        · rw [ho] at hK
          have ht := wfA.tg hW.2.2 hv (hrs hf) ho
          refine fin (vR (nTg k i j).1 (nTg k i j).2) (Or.inr (Or.inr (Or.inr ht))) ?_ hK
          show cV E (.inr (.inr ((nTg k i j).1, (nTg k i j).2))) = _
          have hcv := cV_ok (E := E) (k := (nTg k i j).1) (i := (nTg k i j).2) ht
          rw [hcv]
          unfold fV
          rw [hkc, hf]
          try dsimp only
          rw [ho]
          rfl
      · intro hK
        exact fin (vI (σ.1 k i j)) trivial (by unfold fV; rw [hkc, hf]; rfl) hK
theorem st_self (M : MM) (k i j : Nat) (v : Int32) : nSt M k i j v k i j = v := if_pos ⟨rfl, rfl, rfl⟩
theorem st_ne (M : MM) (k i j : Nat) (v : Int32) {a b d : Nat} (h : ¬ (a = k ∧ b = i ∧ d = j)) : nSt M k i j v a b d = M a b d := if_neg h
theorem st_other {k i j : Nat} {v : Int32} {k2 i2 : Nat} (hn : (k2, i2) ≠ (k, i)) : cE E (nSt σ.1 k i j v, σ.2) k2 i2 = cE E σ k2 i2 :=
  cE_ext E (fun d => st_ne _ _ _ _ _ (fun q => hn (by rw [q.1, q.2.1]))) (fun _ => rfl) (fun _ _ => rfl)
theorem sim_put {cn j idx own : Nat} (hC : Ctx E X p R s m args meth c cc nL oC ini) (hs0 : s.heap.size = E.1.1 + nT s0) (hown : own = cn → 1 ≤ cn → oC = RC cn) (hd : decode cc pc = .ok (.putfield idx, 3)) (hl : Cond.fieldLink oC idx (TC cn j).1 (TC cn j).2.1 (TC cn j).2.2.1 ∈ gT)
    (hK : pPut own ini K pc ls st σ cn j = some r) (hk : ∀ pc ls st σ', K pc ls st σ' = some r → Wf E nL s0 p l e R s m args below meth c Q pc ls st σ') : Wf E nL s0 p l e R s m args below meth c Q pc ls st σ := by
  have key : ∀ (x : AV) (k i : Nat) (rr : List AV) (s' : Mem) (ty : FieldType), st = x :: .inr (.inr (k, i)) :: rr → nKc k = cn → j < nNf cn → K (pc + 3) ls rr s' = some r → nT s' = nT σ → nU s' = nU σ →
      tyC cn j = ty → narrow ty (cV E x) = cV E x → fits ty (cV E x) = true → ((TC cn j).2.2.2 = false ∨ ((TC cn j).2.2.2 = true ∧ ini = true ∧ (TC cn j).1 = oC)) →
      (okT (nT σ) (k, i) → okV (nT σ) x → wfA σ.2.2 → wfA s'.2.2 ∧ (∀ k2 i2, okT (nT σ) (k2, i2) → (k2, i2) ≠ (k, i) → cE E s' k2 i2 = cE E σ k2 i2) ∧ cE E s' k i = .inr (cn - 1, ((List.range (nNf cn)).map (fV E σ k i)).set j (cV E x))) →
      Wf E nL s0 p l e R s m args below meth c Q pc ls st σ := by
    intro x k i rr s' ty hst hkc hj hq ht hu hty hn hfit hfin hch
    subst hst
    have hcn := nf_pos hj
    intro h1 h2 h3 H locs lsC hW hL hS
    have hv : okT (nT σ) (k, i) := okV.kc (okl_hd (okl_tl h2)) (kc_ne (c := cn) (by rw [hkc]; simp) (by omega))
    obtain ⟨c1, c2, c3⟩ := hch hv (okl_hd h2) hW.2.2
    have he := wL_at E σ hv
    rw [cE_obj hkc (by omega)] at he
    have hlen : j < ((List.range (nNf cn)).map (fV E σ k i)).length := by simpa using hj
    have hpd : parseFieldDescriptor (TC cn j).2.2.1 = some ty := by rw [clTy hcn j hj, hty]
    have fin : ∀ (H1 : Heap) (locs1 : List Loc), va_P E.2.2.1 vwCl ((wL E σ).set (nOff k i) (cA E k i, .inr (cn - 1, ((List.range (nNf cn)).map (fV E σ k i)).set j (cV E x)))) H1 → va_D (aF E) ((wL E σ).set (nOff k i) (cA E k i, .inr (cn - 1, ((List.range (nNf cn)).map (fV E σ k i)).set j (cV E x)))) → va_S (aF E) s.heap H1 locs1 →
        W p l e R s m args below meth c H1 locs1 (nT σ - nT s0) (nU σ - nU s0) Q (F0 m (pc + 3) lsC (rr.map (cV E))) := by
      intro H1 locs1 hP1 _ hS1
      refine W_sz fun hz => ?_
      have hW1 : WD E s' H1 := by
        rw [← c3] at hP1
        refine WD.put E hW hv ht c2 c1 hP1 ?_
        have := hW.2.1
        have := h3.1
        omega
      have h4 := hk _ _ _ _ hq (by rw [ht]; exact h1) (by rw [ht]; exact okl_tl (okl_tl h2)) (by rw [ht, hu]; exact h3) H1 locs1 lsC hW1 hL hS1
      rw [ht, hu] at h4
      exact h4
    rcases hfin with hfin | ⟨hfin, hini, hdecl⟩
    · exact va_put (D := E.2.2.1) (cl := vwCl) (tys := tysF E) (ws := wL E σ) (C := RC cn) (T := TC cn) (N := nNf cn) (A := aF E) hC.1 hC.2.1 (fun w hw => hC.2.2.2.2.1 w hw) (clWs hcn) (tyC cn) (clTy hcn) (clNm hcn) hC.2.2.2.1 hC.2.2.2.2.2.1.1 hW.1 (wL_D E σ) hS (nOff k i) he (clAt hcn) j hj (hC.2.2.2.2.1 _ hl) (fun _ h9 => h9) hfin hpd hn hfit hlen hd fin
    · exact va_putF (D := E.2.2.1) (cl := vwCl) (tys := tysF E) (ws := wL E σ) (C := RC cn) (T := TC cn) (N := nNf cn) (A := aF E) hC.1 hC.2.1 (fun w hw => hC.2.2.2.2.1 w hw) (clWs hcn) (tyC cn) (clTy hcn) (clNm hcn) hC.2.2.2.1 hC.2.2.2.2.2.1.1 hW.1 (wL_D E σ) hS (nOff k i) he (clAt hcn) j hj (hC.2.2.2.2.1 _ hl) (fun _ h9 => h9) hfin (hC.2.2.2.2.2.2 hini) hdecl hpd hn hfit hlen hd fin
  have isint : ∀ (x : Int32) (k i : Nat) (rr : List AV), st = .inl x :: .inr (.inr (k, i)) :: rr → nKc k = cn → j < nNf cn → (nFt cn j = 0 ∨ (nFt cn j = 1 ∧ nIsb x = true)) → K (pc + 3) ls rr (nSt σ.1 k i j x, σ.2) = some r → Wf E nL s0 p l e R s m args below meth c Q pc ls st σ := by
    intro x k i rr hst hkc hj hf hq
    have hcn := nf_pos hj
    have ho := clOk hcn j hj
    have hch : okT (nT σ) (k, i) → okV (nT σ) (.inl x) → wfA σ.2.2 → wfA (nSt σ.1 k i j x, σ.2).2.2 ∧ (∀ k2 i2, okT (nT σ) (k2, i2) → (k2, i2) ≠ (k, i) → cE E (nSt σ.1 k i j x, σ.2) k2 i2 = cE E σ k2 i2) ∧ cE E (nSt σ.1 k i j x, σ.2) k i = .inr (cn - 1, ((List.range (nNf cn)).map (fV E σ k i)).set j (cV E (.inl x))) := by
      intro _ _ hA
      refine ⟨hA, fun k2 i2 _ hn => st_other hn, ?_⟩
      rw [cE_obj hkc (by omega)]
      rw [map_set (g := fV E (nSt σ.1 k i j x, σ.2) k i)]
      · have e1 : nSt σ.1 k i j x k i j = x := st_self _ _ _ _ _
        unfold fV
        rw [hkc]
        rcases hf with hf | ⟨hf, -⟩
        · rw [hf]; dsimp only; rw [e1]; rfl
        · rw [hf]; dsimp only; rw [e1]; rfl
      · intro d _ hd2
        unfold fV
        have e1 : nSt σ.1 k i j x k i d = σ.1 k i d := st_ne _ _ _ _ _ (fun q => hd2 q.2.2)
        dsimp only
        rw [e1]
    rcases hf with hf | ⟨hf, hb⟩
    · rw [hf] at ho
      simp only [okF, Bool.and_eq_true, beq_iff_eq, Bool.not_eq_true'] at ho
      exact key (.inl x) k i rr _ .int hst hkc hj hq rfl rfl ho.1 rfl rfl (Or.inl ho.2) hch
    · rw [hf] at ho
      simp only [okF, Bool.and_eq_true, beq_iff_eq, Bool.not_eq_true'] at ho
      have hx : x = 0 ∨ x = 1 := by simpa [nIsb] using hb
      exact key (.inl x) k i rr _ .boolean hst hkc hj hq rfl rfl ho.1 (by rcases hx with rfl | rfl <;> rfl) (by rcases hx with rfl | rfl <;> rfl) (Or.inl ho.2) hch
  rcases st with _ | ⟨x | x | ⟨k2, i2⟩, _ | ⟨y | y | ⟨k, i⟩, rr⟩⟩
  all_goals try (cases hK; done)
  · unfold pPut at hK
    dsimp only at hK
    cases hb : (nKc k == cn && Nat.blt j (nNf cn))
    · rw [hb] at hK; cases hK
    · rw [hb] at hK
      rw [Bool.and_eq_true] at hb
      dsimp only [cond_true] at hK
      rcases hf : nFt cn j with _ | _ | n
      · rw [hf] at hK
        exact isint x k i rr rfl (eq_of_beq hb.1) (Nat.blt_eq.mp hb.2) (Or.inl hf) hK
      · rw [hf] at hK
        try dsimp only at hK
        cases hx : nIsb x
        · rw [hx] at hK; cases hK
        · rw [hx] at hK
          exact isint x k i rr rfl (eq_of_beq hb.1) (Nat.blt_eq.mp hb.2) (Or.inr ⟨hf, hx⟩) hK
      · rw [hf] at hK; cases hK
  · unfold pPut at hK
    dsimp only at hK
    cases hb : (nKc k == cn && Nat.blt j (nNf cn))
    · rw [hb] at hK; cases hK
    · rw [hb] at hK
      rw [Bool.and_eq_true] at hb
      have hj : j < nNf cn := Nat.blt_eq.mp hb.2
      have hcn := nf_pos hj
      have ho := clOk hcn j hj
      have hkc : nKc k = cn := eq_of_beq hb.1
      dsimp only [cond_true] at hK
      rcases hf : nFt cn j with _ | _ | _ | n
      · rw [hf] at hK; cases hK
      · rw [hf] at hK; cases hK
      · rw [hf] at hK ho
        simp only [okF, Bool.and_eq_true, beq_iff_eq, Bool.not_eq_true'] at ho
        have hk30 : k = 30 := ft2 (by rw [hkc]; exact hj) (by rw [hkc]; exact hf)
        refine key (.inr (.inl x)) k i rr (σ.1, x, σ.2.2) .long rfl hkc hj hK rfl rfl ho.1 rfl rfl (Or.inl ho.2) (fun hv _ hA => ⟨hA, fun k2 i2 hv2 hn => cE_ext E (fun _ => rfl) (fun h => ?_) (fun _ _ => rfl), ?_⟩)
        · exfalso
          apply hn
          subst h
          subst hk30
          have e1 : i2 = 0 := by
            have := hv2.1
            dsimp only at this
            unfold nOff at this
            have h5 : nOb 30 + nOs 30 * i2 = 53 := by show 53 + 0 * i2 = 53; omega
            rw [h5] at this
            exact (congrArg Prod.snd this).symm
          have e2 : i = 0 := by
            have := hv.1
            dsimp only at this
            unfold nOff at this
            have h5 : nOb 30 + nOs 30 * i = 53 := by show 53 + 0 * i = 53; omega
            rw [h5] at this
            exact (congrArg Prod.snd this).symm
          rw [e1, e2]
        · rw [cE_obj hkc (by omega)]
          rw [map_set (g := fV E (σ.1, x, σ.2.2) k i)]
          · unfold fV
            rw [hkc, hf]
            rfl
          · intro d hdN hd2
            unfold fV
            dsimp only
            rw [hkc]
            have hne : nFt cn d ≠ 2 := by
              intro h6
              have : nKc 30 = cn := by rw [← hk30]; exact hkc
              have hc7 : cn = 7 := this.symm
              subst hc7
              have u2 : ∀ d, d < 49 → nFt 7 d = 2 → d = 24 := by decide
              exact hd2 ((u2 d hdN h6).trans (u2 j hj hf).symm)
            split
            · rename_i h6; exact absurd h6 hne
            · rfl
            · rfl
      · rw [hf] at hK; cases hK
  · unfold pPut at hK
    dsimp only at hK
    cases hb : (nKc k == cn && Nat.blt j (nNf cn))
    · rw [hb] at hK; cases hK
    · rw [hb] at hK
      rw [Bool.and_eq_true] at hb
      have hj : j < nNf cn := Nat.blt_eq.mp hb.2
      have hcn := nf_pos hj
      have ho := clOk hcn j hj
      have hkc : nKc k = cn := eq_of_beq hb.1
      dsimp only [cond_true] at hK
      rcases hf : nFt cn j with _ | _ | _ | _ | n
      · rw [hf] at hK; cases hK
      · rw [hf] at hK; cases hK
      · rw [hf] at hK; cases hK
      · rw [hf] at hK ho
        try dsimp only at hK
        cases hg : (k2 == (nTg k i j).1 && (i2 == (nTg k i j).2 && (ini && own == cn)))
        · rw [hg] at hK; cases hK
        · rw [hg] at hK
          simp only [Bool.and_eq_true, beq_iff_eq] at hg
          obtain ⟨g1, g2, g3, g4⟩ := hg
          simp only [okF, Bool.and_eq_true, beq_iff_eq] at ho
          have hrs : rsl k j = true := by
            unfold rsl
            rw [hkc, hf]
            simp only [bne_iff_ne, Bool.or_eq_true, Bool.and_eq_true, beq_iff_eq, Nat.blt_eq]
            exact Or.inr ⟨by omega, hj, trivial⟩
          have e0 : (k2, i2) = nTg k i j := by rw [g1, g2]
          refine key (.inr (.inr (k2, i2))) k i rr (σ.1, σ.2.1, nRset σ.2.2 k i j) (tyC cn j) rfl hkc hj hK (congrArg Prod.fst (rset_t σ.2.2 k i j)) (congrArg Prod.snd (rset_t σ.2.2 k i j)) rfl ?_ ?_ (Or.inr ⟨ho.1, g3, ho.2.1.trans (hown g4 hcn.1).symm⟩) (fun hv hv2 hA => ?_)
          · cases hty : tyC cn j <;> rfl
          · have := ho.2.2
            cases hty : tyC cn j <;> rw [hty] at this <;> first | rfl | cases this
          · have hne2 : k2 ≠ 0 ∧ k2 ≠ 1 ∧ k2 ≠ 70 := by
              have hn := rsl_small2 hv hrs
              have h5 := tg_small (nOff k i) hn j (rsl_lt hrs) (by rw [show (nIdAt (nOff k i)).1 = k from congrArg Prod.fst hv.1]; exact hrs)
              rw [show (nIdAt (nOff k i)).1 = k from congrArg Prod.fst hv.1, show (nIdAt (nOff k i)).2 = i from congrArg Prod.snd hv.1] at h5
              rw [g1]
              exact h5.2.2
            have hv3 : okT (nT σ) (nTg k i j) := by
              rw [← e0]
              exact okV.kc hv2 hne2
            refine ⟨rset_wf hA hv hv3, fun k3 i3 hv4 hn => cE_ext E (fun _ => rfl) (fun _ => rfl) (fun d hd2 => rset_rok_eq hv4 hd2 (fun q => hn (tri q))), ?_⟩
            rw [cE_obj hkc (by omega)]
            refine congrArg (fun z => Sum.inr (cn - 1, z)) (Eq.symm ?_)
            apply List.ext_getElem?
            intro d
            by_cases hd2 : d < nNf cn
            · by_cases e1 : d = j
              · subst e1
                rw [List.getElem?_set_self (by simpa using hd2)]
                simp only [List.getElem?_map, List.getElem?_range hd2, Option.map_some]
                unfold fV
                rw [hkc, hf]
                dsimp only
                rw [(rset_rok (A := σ.2.2) (k := k) (i := i) (j := d) hv hrs).mpr (Or.inl rfl)]
                rw [cV_ok (by rw [e0]; exact hv3), cond_true, g1, g2]
                rfl
              · rw [List.getElem?_set_ne (Ne.symm e1)]
                simp only [List.getElem?_map, List.getElem?_range hd2, Option.map_some]
                unfold fV
                dsimp only
                rw [hkc]
                split
                · rfl
                · rename_i h6
                  have hrs2 : rsl k d = true := by
                    unfold rsl
                    rw [hkc, h6]
                    simp only [bne_iff_ne, Bool.or_eq_true, Bool.and_eq_true, beq_iff_eq, Nat.blt_eq]
                    exact Or.inr ⟨by omega, hd2, trivial⟩
                  rw [rset_rok_eq hv hrs2 (fun q => e1 (congrArg (fun z => z.2.2) q))]
                · rfl
            · rw [List.getElem?_eq_none (by simp; omega), List.getElem?_eq_none (by simp; omega)]
      · rw [hf] at hK; cases hK
end
