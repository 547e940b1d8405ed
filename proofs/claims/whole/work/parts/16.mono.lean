/-! cells and slots never grow fewer -/
def leM (s t : Mem) : Prop := nT s ≤ nT t ∧ nU s ≤ nU t
theorem leM_refl (s : Mem) {t : Mem} (h : t.2.2.2.2.2 = s.2.2.2.2.2 := by rfl) : leM s t := ⟨Nat.le_of_eq (congrArg Prod.fst h).symm, Nat.le_of_eq (congrArg Prod.snd h).symm⟩
theorem leM_rset (s : Mem) (k i j : Nat) : leM s (s.1, s.2.1, nRset s.2.2 k i j) := leM_refl s (rset_t s.2.2 k i j)
theorem leM_mk (s : Mem) (n : Nat) : leM s (nMk s n) := ⟨Nat.le_succ _, Nat.le_add_right _ _⟩
theorem leM.trans {s t u : Mem} (h : leM s t) (h2 : leM t u) : leM s u := ⟨Nat.le_trans h.1 h2.1, Nat.le_trans h.2 h2.2⟩
def MG (s : Mem) (r : Res) (F : Kon → Option Res) : Prop := ∀ K : Kon, (∀ pc ls st s', K pc ls st s' = some r → leM s' r.2) → F K = some r → leM s r.2
section
variable {s : Mem} {r : Res}
theorem MG.c0 : MG s r (fun _ => none) := fun _ _ h => by cases h
theorem MG.k (pc : Nat) (ls st : List AV) (s' : Mem) (h : leM s s') : MG s r (fun K => K pc ls st s') := fun _ hk q => h.trans (hk _ _ _ _ q)
theorem MG.cond {F G : Kon → Option Res} (b : Bool) (hF : MG s r F) (hG : MG s r G) : MG s r (fun K => cond b (F K) (G K)) := by
  cases b
  · exact hG
  · exact hF
theorem MG.ite {F G : Kon → Option Res} (c : Prop) [h : Decidable c] (hF : MG s r F) (hG : MG s r G) : MG s r (fun K => if c then F K else G K) := by
  by_cases q : c
  · simp only [if_pos q]; exact hF
  · simp only [if_neg q]; exact hG
theorem MG.sw (ls st : List AV) (d : Nat) (x : Int32) (l : List (Int32 × Nat)) : MG s r (fun K => nSw (fun t => K t ls st s) d x l) := by
  induction l with
  | nil => exact MG.k d ls st s (leM_refl s)
  | cons a l ih =>
    obtain ⟨v, t⟩ := a
    exact MG.ite (x = v) (MG.k t ls st s (leM_refl s)) ih
theorem MG.bnd {o : Option Res} (ho : ∀ v, o = some v → leM s v.2) (f : Option AV → Mem → Nat × List AV × List AV × Mem) (hf : ∀ v s2, (f v s2).2.2.2 = s2) : MG s r (fun K => nBnd o (fun v s => K (f v s).1 (f v s).2.1 (f v s).2.2.1 (f v s).2.2.2)) := by
  rcases o with _ | ⟨v, s2⟩
  · exact MG.c0
  · exact MG.k _ _ _ _ (by rw [hf]; exact ho _ rfl)
theorem MG_ret (rt want : Nat) (st : List AV) : MG s r (fun _ => pRet rt want st s) := by
  intro K hk hK
  have key : ∀ v : Option AV, some (v, s) = some r → leM s r.2 := fun v h => by
    cases h
    exact leM_refl s
  unfold pRet at hK
  dsimp only at hK
  rcases st with _ | ⟨x | x | ⟨k, i⟩, _ | ⟨y, rr⟩⟩
  all_goals dsimp only at hK
  all_goals try (cases hK; done)
  · cases hb : (rt == 0 && want == 0) <;> rw [hb] at hK
    · cases hK
    · exact key _ hK
  · cases hb : (want == 1) <;> rw [hb] at hK
    · cases hK
    · rw [cond_true] at hK
      split at hK
      · exact key _ hK
      · cases hb2 : nIsb x <;> rw [hb2] at hK
        · cases hK
        · exact key _ hK
      · cases hK
  · cases hb : (rt == 3 && want == 2) <;> rw [hb] at hK
    · cases hK
    · exact key _ hK
  · cases hb : (rt == 4 && (want == 3 && Nat.blt 0 k)) <;> rw [hb] at hK
    · cases hK
    · exact key _ hK
end
section
variable {r : Res}
theorem MG_load (pc len : Nat) (ls st : List AV) (s : Mem) (w i : Nat) : MG s r (fun K => pLoad K pc len ls st s w i) := by
  unfold pLoad
  rcases nGt ls i with x | x | ⟨k, j⟩
  · exact MG.ite _ (MG.k _ _ _ _ (leM_refl _)) (MG.c0)
  · exact MG.ite _ (MG.k _ _ _ _ (leM_refl _)) (MG.c0)
  · exact MG.ite _ (MG.k _ _ _ _ (leM_refl _)) (MG.c0)
theorem MG_store (pc len : Nat) (ls st : List AV) (s : Mem) (w i : Nat) : MG s r (fun K => pStore K pc len ls st s w i) := by
  rcases st with _ | ⟨x | x | ⟨k, j⟩, rs⟩
  · exact MG.c0
  · exact MG.ite _ (MG.cond _ (MG.cond _ (MG.c0) (MG.k _ _ _ _ (leM_refl _))) (MG.c0)) (MG.c0)
  · exact MG.ite _ (MG.cond _ (MG.cond _ (MG.c0) (MG.k _ _ _ _ (leM_refl _))) (MG.c0)) (MG.c0)
  · exact MG.ite _ (MG.cond _ (MG.cond _ (MG.c0) (MG.k _ _ _ _ (leM_refl _))) (MG.c0)) (MG.c0)
theorem MG_i1 (pc : Nat) (ls st : List AV) (s : Mem) (f : Int32 → AV) : MG s r (fun K => pI1 K pc ls st s f) := by
  rcases st with _ | ⟨x | x | ⟨k, j⟩, rs⟩
  · exact MG.c0
  · exact MG.k _ _ _ _ (leM_refl _)
  · exact MG.c0
  · exact MG.c0
theorem MG_i2 (pc : Nat) (ls st : List AV) (s : Mem) (f : Int32 → Int32 → Int32) : MG s r (fun K => pI2 K pc ls st s f) := by
  rcases st with _ | ⟨x | x | ⟨k, j⟩, _ | ⟨y | y | ⟨k2, j2⟩, rs⟩⟩ <;> first | exact MG.c0 | exact MG.k _ _ _ _ (leM_refl _)
theorem MG_d2 (pc : Nat) (ls st : List AV) (s : Mem) (f : Int32 → Int32 → Int32) : MG s r (fun K => pD2 K pc ls st s f) := by
  rcases st with _ | ⟨x | x | ⟨k, j⟩, _ | ⟨y | y | ⟨k2, j2⟩, rs⟩⟩ <;> first | exact MG.c0 | exact MG.ite _ (MG.c0) (MG.k _ _ _ _ (leM_refl _))
theorem MG_l2 (pc : Nat) (ls st : List AV) (s : Mem) (f : Int64 → Int64 → AV) : MG s r (fun K => pL2 K pc ls st s f) := by
  rcases st with _ | ⟨x | x | ⟨k, j⟩, _ | ⟨y | y | ⟨k2, j2⟩, rs⟩⟩ <;> first | exact MG.c0 | exact MG.k _ _ _ _ (leM_refl _)
theorem MG_ld (pc : Nat) (ls st : List AV) (s : Mem) (f : Int64 → Int64 → Int64) : MG s r (fun K => pLD K pc ls st s f) := by
  rcases st with _ | ⟨x | x | ⟨k, j⟩, _ | ⟨y | y | ⟨k2, j2⟩, rs⟩⟩ <;> first | exact MG.c0 | exact MG.ite _ (MG.c0) (MG.k _ _ _ _ (leM_refl _))
theorem MG_if (pc t : Nat) (ls st : List AV) (s : Mem) (c : ClassFile.Cond) : MG s r (fun K => pIf K pc t ls st s c) := by
  rcases st with _ | ⟨x | x | ⟨k, j⟩, rs⟩
  · exact MG.c0
  · cases c <;> exact MG.ite _ (MG.k _ _ _ _ (leM_refl _)) (MG.k _ _ _ _ (leM_refl _))
  · exact MG.c0
  · exact MG.c0
theorem MG_cmp (pc t : Nat) (ls st : List AV) (s : Mem) (c : ClassFile.Cond) : MG s r (fun K => pCmp K pc t ls st s c) := by
  rcases st with _ | ⟨x | x | ⟨k, j⟩, _ | ⟨y | y | ⟨k2, j2⟩, rs⟩⟩
  all_goals first | exact MG.c0 | (cases c <;> exact MG.ite _ (MG.k _ _ _ _ (leM_refl _)) (MG.k _ _ _ _ (leM_refl _)))
theorem MG_get (pc : Nat) (ls st : List AV) (s : Mem) (c j : Nat) : MG s r (fun K => pGet K pc ls st s c j) := by
  rcases st with _ | ⟨x | x | ⟨k, i⟩, rs⟩
  · exact MG.c0
  · exact MG.c0
  · exact MG.c0
  · refine MG.cond _ ?_ (MG.c0)
    rcases nFt c j with _ | _ | _ | _ | _
    · exact MG.k _ _ _ _ (leM_refl _)
    · exact MG.k _ _ _ _ (leM_refl _)
    · exact MG.k _ _ _ _ (leM_refl _)
    · exact MG.cond _ (MG.k _ _ _ _ (leM_refl _)) (MG.c0)
    · exact MG.k _ _ _ _ (leM_refl _)
theorem MG_put (own : Nat) (ini : Bool) (pc : Nat) (ls st : List AV) (s : Mem) (c j : Nat) : MG s r (fun K => pPut own ini K pc ls st s c j) := by
  rcases st with _ | ⟨x | x | ⟨k, i⟩, _ | ⟨y | y | ⟨k2, j2⟩, rs⟩⟩
  all_goals first
    | exact MG.c0
    | (refine MG.cond _ ?_ (MG.c0)
       rcases nFt c j with _ | _ | _ | _ | _ <;> first | exact MG.c0 | exact MG.k _ _ _ _ (leM_refl _) | exact MG.cond _ (MG.k _ _ _ _ (leM_refl _)) (MG.c0) | exact MG.cond _ (MG.k _ _ _ _ (leM_rset _ _ _ _)) (MG.c0))
theorem MG_iald (X : Nat × (Nat → Int32)) (pc : Nat) (ls st : List AV) (s : Mem) : MG s r (fun K => pIald X K pc ls st s) := by
  rcases st with _ | ⟨x | x | ⟨k, j⟩, _ | ⟨y | y | ⟨k2, j2⟩, rs⟩⟩
  all_goals first | exact MG.c0 | exact MG.ite _ (MG.cond _ (MG.k _ _ _ _ (leM_refl _)) (MG.c0)) (MG.cond _ (MG.cond _ (MG.k _ _ _ _ (leM_refl _)) (MG.c0)) (MG.c0))
theorem MG_zald (pc : Nat) (ls st : List AV) (s : Mem) : MG s r (fun K => pZald K pc ls st s) := by
  rcases st with _ | ⟨x | x | ⟨k, j⟩, _ | ⟨y | y | ⟨k2, j2⟩, rs⟩⟩
  all_goals first | exact MG.c0 | exact MG.cond _ (MG.cond _ (MG.k _ _ _ _ (leM_refl _)) (MG.c0)) (MG.c0)
theorem MG_aald (pc : Nat) (ls st : List AV) (s : Mem) : MG s r (fun K => pAald K pc ls st s) := by
  rcases st with _ | ⟨x | x | ⟨k, j⟩, _ | ⟨y | y | ⟨k2, j2⟩, rs⟩⟩
  all_goals first | exact MG.c0 | exact MG.cond _ (MG.cond _ (MG.cond _ (MG.k _ _ _ _ (leM_refl _)) (MG.c0)) (MG.c0)) (MG.c0)
theorem MG_iast (pc : Nat) (ls st : List AV) (s : Mem) : MG s r (fun K => pIast K pc ls st s) := by
  rcases st with _ | ⟨x | x | ⟨k, j⟩, _ | ⟨y | y | ⟨k2, j2⟩, _ | ⟨z | z | ⟨k3, j3⟩, rs⟩⟩⟩
  all_goals first | exact MG.c0 | exact MG.cond _ (MG.cond _ (MG.k _ _ _ _ (leM_refl _)) (MG.c0)) (MG.c0)
theorem MG_zast (pc : Nat) (ls st : List AV) (s : Mem) : MG s r (fun K => pZast K pc ls st s) := by
  rcases st with _ | ⟨x | x | ⟨k, j⟩, _ | ⟨y | y | ⟨k2, j2⟩, _ | ⟨z | z | ⟨k3, j3⟩, rs⟩⟩⟩
  all_goals first | exact MG.c0 | exact MG.cond _ (MG.cond _ (MG.k _ _ _ _ (leM_refl _)) (MG.c0)) (MG.c0)
theorem MG_aast (pc : Nat) (ls st : List AV) (s : Mem) : MG s r (fun K => pAast K pc ls st s) := by
  rcases st with _ | ⟨x | x | ⟨k, j⟩, _ | ⟨y | y | ⟨k2, j2⟩, _ | ⟨z | z | ⟨k3, j3⟩, rs⟩⟩⟩
  all_goals first | exact MG.c0 | exact MG.cond _ (MG.cond _ (MG.cond _ (MG.k _ _ _ _ (leM_rset _ _ _ _)) (MG.c0)) (MG.c0)) (MG.c0)
theorem MG_len (X : Nat × (Nat → Int32)) (pc : Nat) (ls st : List AV) (s : Mem) : MG s r (fun K => pLen X K pc ls st s) := by
  rcases st with _ | ⟨x | x | ⟨k, j⟩, rs⟩
  all_goals first | exact MG.c0 | exact MG.ite _ (MG.k _ _ _ _ (leM_refl _)) (MG.cond _ (MG.c0) (MG.k _ _ _ _ (leM_refl _)))
theorem MG_new (pc : Nat) (ls st : List AV) (s : Mem) (c : Nat) : MG s r (fun K => pNew K pc ls st s c) := MG.cond _ (MG.k _ _ _ _ (leM_mk _ _)) (MG.c0)
theorem MG_newa (pc len : Nat) (ls st : List AV) (s : Mem) (w : Nat) : MG s r (fun K => pNewa K pc len ls st s w) := by
  rcases st with _ | ⟨x | x | ⟨k, j⟩, rs⟩
  all_goals first | exact MG.c0 | exact MG.cond _ (MG.k _ _ _ _ (leM_mk _ _)) (MG.c0)
theorem MG_call (cal : Cal) (hcal : ∀ y a s v, cal y a s = some v → leM s v.2) (pc : Nat) (ls st : List AV) (s : Mem) (y n c : Nat) : MG s r (fun K => pCall cal K pc ls st s y n c) := by
  refine MG.cond _ ?_ (MG.c0)
  rcases c with _ | c
  · exact MG.cond _ (MG.bnd (fun v hv => hcal _ _ _ _ hv) (fun v s2 => (pc + 3, ls, v.toList ++ st.drop n, s2)) (fun _ _ => rfl)) (MG.c0)
  · rcases st.drop n with _ | ⟨x | x | ⟨k, j⟩, rs⟩
    · exact MG.c0
    · exact MG.c0
    · exact MG.c0
    · exact MG.cond _ (MG.bnd (fun v hv => hcal _ _ _ _ hv) (fun v s2 => (pc + 3, ls, v.toList ++ rs, s2)) (fun _ _ => rfl)) (MG.c0)
theorem MG_host (pc : Nat) (ls st : List AV) (s : Mem) (h : Nat) : MG s r (fun K => pHost K pc ls st s h) := by
  refine MG.cond _ ?_ (MG.c0)
  rcases h with _ | _ | _ | _ | _ | _ | _ | _ | h
  · exact MG.c0
  · rcases st with _ | ⟨x | x | ⟨k, j⟩, _ | ⟨y | y | ⟨k2, j2⟩, rs⟩⟩ <;> first | exact MG.c0 | exact MG.k _ _ _ _ (leM_refl _)
  · rcases st with _ | ⟨x | x | ⟨k, j⟩, _ | ⟨y | y | ⟨k2, j2⟩, rs⟩⟩ <;> first | exact MG.c0 | exact MG.k _ _ _ _ (leM_refl _)
  · rcases st with _ | ⟨x | x | ⟨k, j⟩, rs⟩ <;> first | exact MG.c0 | exact MG.k _ _ _ _ (leM_refl _)
  · rcases st with _ | ⟨x | x | ⟨k, j⟩, _ | ⟨y | y | ⟨k2, j2⟩, _ | ⟨z | z | ⟨k3, j3⟩, _ | ⟨u | u | ⟨k4, j4⟩, _ | ⟨w | w | ⟨k5, j5⟩, rs⟩⟩⟩⟩⟩
    all_goals first | exact MG.c0 | exact MG.cond _ (MG.cond _ (MG.k _ _ _ _ (leM_refl _)) (MG.c0)) (MG.c0)
  · rcases st with _ | ⟨x | x | ⟨k, j⟩, rs⟩ <;> first | exact MG.c0 | exact MG.ite _ (MG.c0) (MG.k _ _ _ _ (leM_refl _))
  · rcases st with _ | ⟨x | x | ⟨_ | _ | k, j⟩, rs⟩ <;> first | exact MG.c0 | exact MG.cond _ (MG.k _ _ _ _ (leM_refl _)) (MG.c0)
  · rcases st with _ | ⟨x | x | ⟨k, j⟩, _ | ⟨y | y | ⟨_ | _ | k2, j2⟩, rs⟩⟩ <;> first | exact MG.c0 | exact MG.cond _ (MG.k _ _ _ _ (leM_refl _)) (MG.c0)
  · exact MG.c0
theorem MG_stepI (X : Nat × (Nat → Int32)) (cal : Cal) (hcal : ∀ y a s v, cal y a s = some v → leM s v.2) (own : Nat) (ini : Bool) (rt : Nat) (e : En) (pc : Nat) (ls st : List AV) (s : Mem) : MG s r (fun K => nStepI X cal own ini rt e pc ls st s K) := by
  obtain ⟨ins, a, c, cL, sw⟩ := e
  cases ins
  case ldc => rcases h : nAx a 0 with _ | _ | n <;> simp only [nStepI, h] <;> exact MG.k _ _ _ _ (leM_refl _)
  case iinc => rcases h : nGt ls (nAx a 0) with x | x | ⟨k, j⟩ <;> simp only [nStepI, h] <;> first | exact MG.c0 | exact MG.cond _ (MG.cond _ (MG.c0) (MG.k _ _ _ _ (leM_refl _))) (MG.c0)
  case l2i => rcases st with _ | ⟨x | x | ⟨k, j⟩, rs⟩ <;> first | exact MG.c0 | exact MG.k _ _ _ _ (leM_refl _)
  case dup => rcases st with _ | ⟨x, rs⟩ <;> first | exact MG.c0 | exact MG.cond _ (MG.c0) (MG.k _ _ _ _ (leM_refl _))
  case dup2 => rcases st with _ | ⟨x, _ | ⟨y, rs⟩⟩ <;> first | exact MG.c0 | exact MG.cond _ (MG.c0) (MG.k _ _ _ _ (leM_refl _))
  case anewarray => exact MG.cond _ (MG_newa _ _ _ _ _ _) (MG.c0)
  case pop => rcases st with _ | ⟨x, rs⟩ <;> first | exact MG.c0 | exact MG.cond _ (MG.c0) (MG.k _ _ _ _ (leM_refl _))
  case tableswitch => rcases st with _ | ⟨x | x | ⟨k, j⟩, rs⟩ <;> first | exact MG.c0 | exact MG.sw _ _ _ _ _
  case lookupswitch => rcases st with _ | ⟨x | x | ⟨k, j⟩, rs⟩ <;> first | exact MG.c0 | exact MG.sw _ _ _ _ _
  case invokevirtual => rcases h : nAx a 0 with _ | n <;> simp only [nStepI, h] <;> first | exact MG_call _ hcal _ _ _ _ _ _ _ | exact MG_host _ _ _ _ _
  case invokespecial => rcases h : nAx a 0 with _ | n <;> simp only [nStepI, h] <;> first | exact MG_call _ hcal _ _ _ _ _ _ _ | exact MG_host _ _ _ _ _
  case invokestatic => rcases h : nAx a 0 with _ | n <;> simp only [nStepI, h] <;> first | exact MG_call _ hcal _ _ _ _ _ _ _ | exact MG_host _ _ _ _ _
  all_goals first
    | exact MG.k _ _ _ _ (leM_refl _)
    | exact MG_load _ _ _ _ _ _ _
    | exact MG_store _ _ _ _ _ _ _
    | exact MG_i1 _ _ _ _ _
    | exact MG_i2 _ _ _ _ _
    | exact MG_d2 _ _ _ _ _
    | exact MG_l2 _ _ _ _ _
    | exact MG_ld _ _ _ _ _
    | exact MG_if _ _ _ _ _ _
    | exact MG_cmp _ _ _ _ _ _
    | exact MG_get _ _ _ _ _ _
    | exact MG_put _ _ _ _ _ _ _ _
    | exact MG_iald _ _ _ _ _
    | exact MG_iast _ _ _ _
    | exact MG_zald _ _ _ _
    | exact MG_zast _ _ _ _
    | exact MG_aald _ _ _ _
    | exact MG_aast _ _ _ _
    | exact MG_len _ _ _ _ _
    | exact MG_new _ _ _ _ _
    | exact MG_newa _ _ _ _ _ _
    | exact MG_ret _ _ _
    | exact MG.c0
theorem MG_run {X : Nat × (Nat → Int32)} {cal : Cal} (hcal : ∀ y a s v, cal y a s = some v → leM s v.2) (h : Hd) : ∀ (n pc : Nat) (ls st : List AV) (s : Mem) (r : Res), nRun X cal h n pc ls st s = some r → leM s r.2 := by
  intro n
  induction n with
  | zero => intro pc ls st s r q; cases q
  | succ n ih =>
    intro pc ls st s r q
    rw [nRun_succ] at q
    unfold nStep at q
    rcases hl : nLk h.1 pc with _ | e
    · rw [hl] at q; cases q
    · rw [hl] at q
      exact MG_stepI X cal hcal _ _ _ _ _ _ _ _ _ (fun pc ls st s' => ih pc ls st s' r) q
theorem MG_R {X : Nat × (Nat → Int32)} {cal : Cal} (hcal : ∀ y a s v, cal y a s = some v → leM s v.2) (h : Hd) {pc : Nat} {ls st : List AV} {s : Mem} {r : Res} (q : nR X cal h pc ls st s = some r) : leM s r.2 := by
  obtain ⟨n, hn⟩ := (nR_iff X cal h).mp q
  exact MG_run hcal h n _ _ _ _ _ hn
end
