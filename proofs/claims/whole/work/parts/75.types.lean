/-! what a method's answer is: an int, a long -/
def Dn (F : Kon → Option Res) : Prop := F (fun _ _ _ _ => none) = none
theorem Dn.c : Dn (fun _ => none) := rfl
theorem Dn.k (pc : Nat) (ls st : List AV) (s : Mem) : Dn (fun K => K pc ls st s) := rfl
theorem Dn.cond {F G : Kon → Option Res} (b : Bool) (hF : Dn F) (hG : Dn G) : Dn (fun K => cond b (F K) (G K)) := by
  cases b
  · exact hG
  · exact hF
theorem Dn.ite {F G : Kon → Option Res} (c : Prop) [h : Decidable c] (hF : Dn F) (hG : Dn G) : Dn (fun K => if c then F K else G K) := by
  by_cases q : c
  · simp only [if_pos q]; exact hF
  · simp only [if_neg q]; exact hG
theorem Dn.sw (ls st : List AV) (s : Mem) (d : Nat) (x : Int32) (l : List (Int32 × Nat)) : Dn (fun K => nSw (fun t => K t ls st s) d x l) := by
  induction l with
  | nil => exact Dn.k d ls st s
  | cons a l ih =>
    obtain ⟨v, t⟩ := a
    exact Dn.ite (x = v) (Dn.k t ls st s) ih
theorem Dn.bnd (r : Option Res) (f : Option AV → Mem → Nat × List AV × List AV × Mem) : Dn (fun K => nBnd r (fun v s => K (f v s).1 (f v s).2.1 (f v s).2.2.1 (f v s).2.2.2)) := by
  rcases r with _ | ⟨v, s⟩
  · exact Dn.c
  · exact Dn.k _ _ _ _
theorem Dn_load (pc len : Nat) (ls st : List AV) (s : Mem) (w i : Nat) : Dn (fun K => pLoad K pc len ls st s w i) := by
  unfold pLoad
  rcases nGt ls i with x | x | ⟨k, j⟩
  · exact Dn.ite _ (Dn.k _ _ _ _) (Dn.c)
  · exact Dn.ite _ (Dn.k _ _ _ _) (Dn.c)
  · exact Dn.ite _ (Dn.k _ _ _ _) (Dn.c)
theorem Dn_store (pc len : Nat) (ls st : List AV) (s : Mem) (w i : Nat) : Dn (fun K => pStore K pc len ls st s w i) := by
  rcases st with _ | ⟨x | x | ⟨k, j⟩, r⟩
  · exact Dn.c
  · exact Dn.ite _ (Dn.cond _ (Dn.cond _ (Dn.c) (Dn.k _ _ _ _)) (Dn.c)) (Dn.c)
  · exact Dn.ite _ (Dn.cond _ (Dn.cond _ (Dn.c) (Dn.k _ _ _ _)) (Dn.c)) (Dn.c)
  · exact Dn.ite _ (Dn.cond _ (Dn.cond _ (Dn.c) (Dn.k _ _ _ _)) (Dn.c)) (Dn.c)
theorem Dn_i1 (pc : Nat) (ls st : List AV) (s : Mem) (f : Int32 → AV) : Dn (fun K => pI1 K pc ls st s f) := by
  rcases st with _ | ⟨x | x | ⟨k, j⟩, r⟩
  · exact Dn.c
  · exact Dn.k _ _ _ _
  · exact Dn.c
  · exact Dn.c
theorem Dn_i2 (pc : Nat) (ls st : List AV) (s : Mem) (f : Int32 → Int32 → Int32) : Dn (fun K => pI2 K pc ls st s f) := by
  rcases st with _ | ⟨x | x | ⟨k, j⟩, _ | ⟨y | y | ⟨k2, j2⟩, r⟩⟩ <;> first | exact Dn.c | exact Dn.k _ _ _ _
theorem Dn_d2 (pc : Nat) (ls st : List AV) (s : Mem) (f : Int32 → Int32 → Int32) : Dn (fun K => pD2 K pc ls st s f) := by
  rcases st with _ | ⟨x | x | ⟨k, j⟩, _ | ⟨y | y | ⟨k2, j2⟩, r⟩⟩ <;> first | exact Dn.c | exact Dn.ite _ (Dn.c) (Dn.k _ _ _ _)
theorem Dn_l2 (pc : Nat) (ls st : List AV) (s : Mem) (f : Int64 → Int64 → AV) : Dn (fun K => pL2 K pc ls st s f) := by
  rcases st with _ | ⟨x | x | ⟨k, j⟩, _ | ⟨y | y | ⟨k2, j2⟩, r⟩⟩ <;> first | exact Dn.c | exact Dn.k _ _ _ _
theorem Dn_ld (pc : Nat) (ls st : List AV) (s : Mem) (f : Int64 → Int64 → Int64) : Dn (fun K => pLD K pc ls st s f) := by
  rcases st with _ | ⟨x | x | ⟨k, j⟩, _ | ⟨y | y | ⟨k2, j2⟩, r⟩⟩ <;> first | exact Dn.c | exact Dn.ite _ (Dn.c) (Dn.k _ _ _ _)
theorem Dn_if (pc t : Nat) (ls st : List AV) (s : Mem) (c : ClassFile.Cond) : Dn (fun K => pIf K pc t ls st s c) := by
  rcases st with _ | ⟨x | x | ⟨k, j⟩, r⟩
  · exact Dn.c
  · cases c <;> exact Dn.ite _ (Dn.k _ _ _ _) (Dn.k _ _ _ _)
  · exact Dn.c
  · exact Dn.c
theorem Dn_cmp (pc t : Nat) (ls st : List AV) (s : Mem) (c : ClassFile.Cond) : Dn (fun K => pCmp K pc t ls st s c) := by
  rcases st with _ | ⟨x | x | ⟨k, j⟩, _ | ⟨y | y | ⟨k2, j2⟩, r⟩⟩
  all_goals first | exact Dn.c | (cases c <;> exact Dn.ite _ (Dn.k _ _ _ _) (Dn.k _ _ _ _))
theorem Dn_get (pc : Nat) (ls st : List AV) (s : Mem) (c j : Nat) : Dn (fun K => pGet K pc ls st s c j) := by
  rcases st with _ | ⟨x | x | ⟨k, i⟩, r⟩
  · exact Dn.c
  · exact Dn.c
  · exact Dn.c
  · refine Dn.cond _ ?_ (Dn.c)
    rcases nFt c j with _ | _ | _ | _ | _
    · exact Dn.k _ _ _ _
    · exact Dn.k _ _ _ _
    · exact Dn.k _ _ _ _
    · exact Dn.cond _ (Dn.k _ _ _ _) (Dn.c)
    · exact Dn.k _ _ _ _
theorem Dn_put (own : Nat) (ini : Bool) (pc : Nat) (ls st : List AV) (s : Mem) (c j : Nat) : Dn (fun K => pPut own ini K pc ls st s c j) := by
  rcases st with _ | ⟨x | x | ⟨k, i⟩, _ | ⟨y | y | ⟨k2, j2⟩, r⟩⟩
  all_goals first
    | exact Dn.c
    | (refine Dn.cond _ ?_ (Dn.c)
       rcases nFt c j with _ | _ | _ | _ | _ <;> first | exact Dn.c | exact Dn.k _ _ _ _ | exact Dn.cond _ (Dn.k _ _ _ _) (Dn.c))
theorem Dn_iald (X : Nat × (Nat → Int32)) (pc : Nat) (ls st : List AV) (s : Mem) : Dn (fun K => pIald X K pc ls st s) := by
  rcases st with _ | ⟨x | x | ⟨k, j⟩, _ | ⟨y | y | ⟨k2, j2⟩, r⟩⟩
  all_goals first | exact Dn.c | exact Dn.ite _ (Dn.cond _ (Dn.k _ _ _ _) (Dn.c)) (Dn.cond _ (Dn.cond _ (Dn.k _ _ _ _) (Dn.c)) (Dn.c))
theorem Dn_zald (pc : Nat) (ls st : List AV) (s : Mem) : Dn (fun K => pZald K pc ls st s) := by
  rcases st with _ | ⟨x | x | ⟨k, j⟩, _ | ⟨y | y | ⟨k2, j2⟩, r⟩⟩
  all_goals first | exact Dn.c | exact Dn.cond _ (Dn.cond _ (Dn.k _ _ _ _) (Dn.c)) (Dn.c)
theorem Dn_aald (pc : Nat) (ls st : List AV) (s : Mem) : Dn (fun K => pAald K pc ls st s) := by
  rcases st with _ | ⟨x | x | ⟨k, j⟩, _ | ⟨y | y | ⟨k2, j2⟩, r⟩⟩
  all_goals first | exact Dn.c | exact Dn.cond _ (Dn.cond _ (Dn.cond _ (Dn.k _ _ _ _) (Dn.c)) (Dn.c)) (Dn.c)
theorem Dn_iast (pc : Nat) (ls st : List AV) (s : Mem) : Dn (fun K => pIast K pc ls st s) := by
  rcases st with _ | ⟨x | x | ⟨k, j⟩, _ | ⟨y | y | ⟨k2, j2⟩, _ | ⟨z | z | ⟨k3, j3⟩, r⟩⟩⟩
  all_goals first | exact Dn.c | exact Dn.cond _ (Dn.cond _ (Dn.k _ _ _ _) (Dn.c)) (Dn.c)
theorem Dn_zast (pc : Nat) (ls st : List AV) (s : Mem) : Dn (fun K => pZast K pc ls st s) := by
  rcases st with _ | ⟨x | x | ⟨k, j⟩, _ | ⟨y | y | ⟨k2, j2⟩, _ | ⟨z | z | ⟨k3, j3⟩, r⟩⟩⟩
  all_goals first | exact Dn.c | exact Dn.cond _ (Dn.cond _ (Dn.k _ _ _ _) (Dn.c)) (Dn.c)
theorem Dn_aast (pc : Nat) (ls st : List AV) (s : Mem) : Dn (fun K => pAast K pc ls st s) := by
  rcases st with _ | ⟨x | x | ⟨k, j⟩, _ | ⟨y | y | ⟨k2, j2⟩, _ | ⟨z | z | ⟨k3, j3⟩, r⟩⟩⟩
  all_goals first | exact Dn.c | exact Dn.cond _ (Dn.cond _ (Dn.cond _ (Dn.k _ _ _ _) (Dn.c)) (Dn.c)) (Dn.c)
theorem Dn_len (X : Nat × (Nat → Int32)) (pc : Nat) (ls st : List AV) (s : Mem) : Dn (fun K => pLen X K pc ls st s) := by
  rcases st with _ | ⟨x | x | ⟨k, j⟩, r⟩
  all_goals first | exact Dn.c | exact Dn.ite _ (Dn.k _ _ _ _) (Dn.cond _ (Dn.c) (Dn.k _ _ _ _))
theorem Dn_new (pc : Nat) (ls st : List AV) (s : Mem) (c : Nat) : Dn (fun K => pNew K pc ls st s c) := Dn.cond _ (Dn.k _ _ _ _) (Dn.c)
theorem Dn_newa (pc len : Nat) (ls st : List AV) (s : Mem) (w : Nat) : Dn (fun K => pNewa K pc len ls st s w) := by
  rcases st with _ | ⟨x | x | ⟨k, j⟩, r⟩
  all_goals first | exact Dn.c | exact Dn.cond _ (Dn.k _ _ _ _) (Dn.c)
theorem Dn_call (cal : Cal) (pc : Nat) (ls st : List AV) (s : Mem) (y n c : Nat) : Dn (fun K => pCall cal K pc ls st s y n c) := by
  refine Dn.cond _ ?_ (Dn.c)
  rcases c with _ | c
  · exact Dn.cond _ (Dn.bnd _ (fun v s2 => (pc + 3, ls, v.toList ++ st.drop n, s2))) (Dn.c)
  · rcases st.drop n with _ | ⟨x | x | ⟨k, j⟩, r⟩
    · exact Dn.c
    · exact Dn.c
    · exact Dn.c
    · exact Dn.cond _ (Dn.bnd _ (fun v s2 => (pc + 3, ls, v.toList ++ r, s2))) (Dn.c)
theorem Dn_host (pc : Nat) (ls st : List AV) (s : Mem) (h : Nat) : Dn (fun K => pHost K pc ls st s h) := by
  refine Dn.cond _ ?_ (Dn.c)
  rcases h with _ | _ | _ | _ | _ | _ | _ | _ | h
  · exact Dn.c
  · rcases st with _ | ⟨x | x | ⟨k, j⟩, _ | ⟨y | y | ⟨k2, j2⟩, r⟩⟩ <;> first | exact Dn.c | exact Dn.k _ _ _ _
  · rcases st with _ | ⟨x | x | ⟨k, j⟩, _ | ⟨y | y | ⟨k2, j2⟩, r⟩⟩ <;> first | exact Dn.c | exact Dn.k _ _ _ _
  · rcases st with _ | ⟨x | x | ⟨k, j⟩, r⟩ <;> first | exact Dn.c | exact Dn.k _ _ _ _
  · rcases st with _ | ⟨x | x | ⟨k, j⟩, _ | ⟨y | y | ⟨k2, j2⟩, _ | ⟨z | z | ⟨k3, j3⟩, _ | ⟨u | u | ⟨k4, j4⟩, _ | ⟨w | w | ⟨k5, j5⟩, r⟩⟩⟩⟩⟩
    all_goals first | exact Dn.c | exact Dn.cond _ (Dn.cond _ (Dn.k _ _ _ _) (Dn.c)) (Dn.c)
  · rcases st with _ | ⟨x | x | ⟨k, j⟩, r⟩ <;> first | exact Dn.c | exact Dn.ite _ (Dn.c) (Dn.k _ _ _ _)
  · rcases st with _ | ⟨x | x | ⟨_ | _ | k, j⟩, r⟩ <;> first | exact Dn.c | exact Dn.cond _ (Dn.k _ _ _ _) (Dn.c)
  · rcases st with _ | ⟨x | x | ⟨k, j⟩, _ | ⟨y | y | ⟨_ | _ | k2, j2⟩, r⟩⟩ <;> first | exact Dn.c | exact Dn.cond _ (Dn.k _ _ _ _) (Dn.c)
  · exact Dn.c
theorem Dn_stepI (X : Nat × (Nat → Int32)) (cal : Cal) (own : Nat) (ini : Bool) (rt : Nat) (e : En) (pc : Nat) (ls st : List AV) (s : Mem) : Dn (fun K => nStepI X cal own ini rt e pc ls st s K) ∨ ∃ want, ∀ K, nStepI X cal own ini rt e pc ls st s K = pRet rt want st s := by
  obtain ⟨ins, a, c, cL, sw⟩ := e
  cases ins
  case ireturn => exact Or.inr ⟨1, fun _ => rfl⟩
  case lreturn => exact Or.inr ⟨2, fun _ => rfl⟩
  case areturn => exact Or.inr ⟨3, fun _ => rfl⟩
  case return_ => exact Or.inr ⟨0, fun _ => rfl⟩
  all_goals refine Or.inl ?_
  case ldc => rcases h : nAx a 0 with _ | _ | n <;> simp only [nStepI, h] <;> exact Dn.k _ _ _ _
  case iinc => rcases h : nGt ls (nAx a 0) with x | x | ⟨k, j⟩ <;> simp only [nStepI, h] <;> first | exact Dn.c | exact Dn.cond _ (Dn.cond _ (Dn.c) (Dn.k _ _ _ _)) (Dn.c)
  case l2i => rcases st with _ | ⟨x | x | ⟨k, j⟩, r⟩ <;> first | exact Dn.c | exact Dn.k _ _ _ _
  case dup => rcases st with _ | ⟨x, r⟩ <;> first | exact Dn.c | exact Dn.cond _ (Dn.c) (Dn.k _ _ _ _)
  case dup2 => rcases st with _ | ⟨x, _ | ⟨y, r⟩⟩ <;> first | exact Dn.c | exact Dn.cond _ (Dn.c) (Dn.k _ _ _ _)
  case anewarray => exact Dn.cond _ (Dn_newa _ _ _ _ _ _) (Dn.c)
  case pop => rcases st with _ | ⟨x, r⟩ <;> first | exact Dn.c | exact Dn.cond _ (Dn.c) (Dn.k _ _ _ _)
  case tableswitch => rcases st with _ | ⟨x | x | ⟨k, j⟩, r⟩ <;> first | exact Dn.c | exact Dn.sw _ _ _ _ _ _
  case lookupswitch => rcases st with _ | ⟨x | x | ⟨k, j⟩, r⟩ <;> first | exact Dn.c | exact Dn.sw _ _ _ _ _ _
  case invokevirtual => rcases h : nAx a 0 with _ | n <;> simp only [nStepI, h] <;> first | exact Dn_call _ _ _ _ _ _ _ _ | exact Dn_host _ _ _ _ _
  case invokespecial => rcases h : nAx a 0 with _ | n <;> simp only [nStepI, h] <;> first | exact Dn_call _ _ _ _ _ _ _ _ | exact Dn_host _ _ _ _ _
  case invokestatic => rcases h : nAx a 0 with _ | n <;> simp only [nStepI, h] <;> first | exact Dn_call _ _ _ _ _ _ _ _ | exact Dn_host _ _ _ _ _
  all_goals first
    | exact Dn.k _ _ _ _
    | exact Dn_load _ _ _ _ _ _ _
    | exact Dn_store _ _ _ _ _ _ _
    | exact Dn_i1 _ _ _ _ _
    | exact Dn_i2 _ _ _ _ _
    | exact Dn_d2 _ _ _ _ _
    | exact Dn_l2 _ _ _ _ _
    | exact Dn_ld _ _ _ _ _
    | exact Dn_if _ _ _ _ _ _
    | exact Dn_cmp _ _ _ _ _ _
    | exact Dn_get _ _ _ _ _ _
    | exact Dn_put _ _ _ _ _ _ _ _
    | exact Dn_iald _ _ _ _ _
    | exact Dn_iast _ _ _ _
    | exact Dn_zald _ _ _ _
    | exact Dn_zast _ _ _ _
    | exact Dn_aald _ _ _ _
    | exact Dn_aast _ _ _ _
    | exact Dn_len _ _ _ _ _
    | exact Dn_new _ _ _ _ _
    | exact Dn_newa _ _ _ _ _ _
    | exact Dn.c
theorem pRet_ty {rt want : Nat} {st : List AV} {s s2 : Mem} {v : AV} (h : pRet rt want st s = some (some v, s2)) : ((rt = 1 ∨ rt = 2) → ∃ x, v = vI x) ∧ (rt = 3 → ∃ x, v = vL x) := by
  rcases st with _ | ⟨x | x | ⟨k, j⟩, _ | ⟨y, r⟩⟩
  · have h : cond (rt == 0 && want == 0) (some (none, s)) none = some (some v, s2) := h
    cases c : (rt == 0 && want == 0) <;> rw [c] at h <;> cases h
  · have h : cond (want == 1) (match rt with
      | 1 => some (some (vI x), s)
      | 2 => cond (nIsb x) (some (some (vI x), s)) none
      | _ => none) none = some (some v, s2) := h
    cases c : (want == 1)
    · rw [c] at h; cases h
    rw [c] at h
    rcases rt with _ | _ | _ | rt
    · cases h
    · cases h; exact ⟨fun _ => ⟨x, rfl⟩, fun q => by omega⟩
    · have h : cond (nIsb x) (some (some (vI x), s)) none = some (some v, s2) := h
      cases c2 : nIsb x
      · rw [c2] at h; cases h
      · rw [c2] at h; cases h; exact ⟨fun _ => ⟨x, rfl⟩, fun q => by omega⟩
    · cases h
  · cases h
  · have h : cond (rt == 3 && want == 2) (some (some (vL x), s)) none = some (some v, s2) := h
    cases c : (rt == 3 && want == 2)
    · rw [c] at h; cases h
    · rw [c] at h; cases h
      rw [Bool.and_eq_true, beq_iff_eq] at c
      exact ⟨fun q => by omega, fun _ => ⟨x, rfl⟩⟩
  · cases h
  · have h : cond (rt == 4 && (want == 3 && Nat.blt 0 k)) (some (some (vR k j), s)) none = some (some v, s2) := h
    cases c : (rt == 4 && (want == 3 && Nat.blt 0 k))
    · rw [c] at h; cases h
    · rw [Bool.and_eq_true, beq_iff_eq] at c
      exact ⟨fun q => by omega, fun q => by omega⟩
  · cases h
theorem nR_ty (X : Nat × (Nat → Int32)) (cal : Cal) (h : Hd) {pc : Nat} {ls st : List AV} {s s2 : Mem} {v : AV} (e : nR X cal h pc ls st s = some (some v, s2)) : ((h.2.2.2 = 1 ∨ h.2.2.2 = 2) → ∃ x, v = vI x) ∧ (h.2.2.2 = 3 → ∃ x, v = vL x) := by
  rw [nR_iff] at e
  obtain ⟨n, hn⟩ := e
  induction n generalizing pc ls st s with
  | zero => cases hn
  | succ n ih =>
    rw [nRun_succ] at hn
    rcases Di_step X cal h pc ls st s with ⟨c, hc⟩ | ⟨pc2, ls2, st2, s3, hc⟩
    · dsimp only at hc
      rw [hc] at hn
      have hk := hc (fun _ _ _ _ => none)
      unfold nStep at hk
      rcases hl : nLk h.1 pc with _ | en
      · rw [hl] at hk
        rw [hn] at hk
        cases hk
      · rw [hl] at hk
        rcases Dn_stepI X cal h.2.1 h.2.2.1 h.2.2.2 en pc ls st s with q | ⟨want, q⟩
        · have hk : nStepI X cal h.2.1 h.2.2.1 h.2.2.2 en pc ls st s (fun _ _ _ _ => none) = c := hk
          have q : nStepI X cal h.2.1 h.2.2.1 h.2.2.2 en pc ls st s (fun _ _ _ _ => none) = none := q
          rw [q, hn] at hk
          cases hk
        · have hk : nStepI X cal h.2.1 h.2.2.1 h.2.2.2 en pc ls st s (fun _ _ _ _ => none) = c := hk
          rw [q, hn] at hk
          exact pRet_ty hk
    · dsimp only at hc
      rw [hc] at hn
      exact ih hn
theorem callN_ty (X : Nat × (Nat → Int32)) {d y : Nat} {as : List AV} {s s2 : Mem} {v : AV} {h : Hd} {ml : Nat} (hy : mtL[y]? = some (h, ml)) (e : callN X (d + 1) y as s = some (some v, s2)) : ((h.2.2.2 = 1 ∨ h.2.2.2 = 2) → ∃ x, v = vI x) ∧ (h.2.2.2 = 3 → ∃ x, v = vL x) := by
  unfold callN at e
  simp only [hy] at e
  cases c : Nat.ble (nLay as).length ml
  · rw [c] at e; cases e
  · rw [c] at e
    exact nR_ty X _ h e
