/-! a step either ends or goes on at one place -/
def Di (F : Kon → Option Res) : Prop := (∃ c, ∀ K, F K = c) ∨ ∃ (pc : Nat) (ls st : List AV) (s : Mem), ∀ K, F K = K pc ls st s
theorem Di.c (c : Option Res) : Di (fun _ => c) := Or.inl ⟨c, fun _ => rfl⟩
theorem Di.k (pc : Nat) (ls st : List AV) (s : Mem) : Di (fun K => K pc ls st s) := Or.inr ⟨pc, ls, st, s, fun _ => rfl⟩
theorem Di.cond {F G : Kon → Option Res} (b : Bool) (hF : Di F) (hG : Di G) : Di (fun K => cond b (F K) (G K)) := by
  cases b
  · exact hG
  · exact hF
theorem Di.ite {F G : Kon → Option Res} (c : Prop) [h : Decidable c] (hF : Di F) (hG : Di G) : Di (fun K => if c then F K else G K) := by
  by_cases q : c
  · simp only [if_pos q]; exact hF
  · simp only [if_neg q]; exact hG
theorem Di.sw (ls st : List AV) (s : Mem) (d : Nat) (x : Int32) (l : List (Int32 × Nat)) : Di (fun K => nSw (fun t => K t ls st s) d x l) := by
  induction l with
  | nil => exact Di.k d ls st s
  | cons a l ih =>
    obtain ⟨v, t⟩ := a
    exact Di.ite (x = v) (Di.k t ls st s) ih
theorem Di.bnd (r : Option Res) (f : Option AV → Mem → Nat × List AV × List AV × Mem) : Di (fun K => nBnd r (fun v s => K (f v s).1 (f v s).2.1 (f v s).2.2.1 (f v s).2.2.2)) := by
  rcases r with _ | ⟨v, s⟩
  · exact Di.c none
  · exact Di.k _ _ _ _
theorem Di_load (pc len : Nat) (ls st : List AV) (s : Mem) (w i : Nat) : Di (fun K => pLoad K pc len ls st s w i) := by
  unfold pLoad
  rcases nGt ls i with x | x | ⟨k, j⟩
  · exact Di.ite _ (Di.k _ _ _ _) (Di.c _)
  · exact Di.ite _ (Di.k _ _ _ _) (Di.c _)
  · exact Di.ite _ (Di.k _ _ _ _) (Di.c _)
theorem Di_store (pc len : Nat) (ls st : List AV) (s : Mem) (w i : Nat) : Di (fun K => pStore K pc len ls st s w i) := by
  rcases st with _ | ⟨x | x | ⟨k, j⟩, r⟩
  · exact Di.c _
  · exact Di.ite _ (Di.cond _ (Di.cond _ (Di.c _) (Di.k _ _ _ _)) (Di.c _)) (Di.c _)
  · exact Di.ite _ (Di.cond _ (Di.cond _ (Di.c _) (Di.k _ _ _ _)) (Di.c _)) (Di.c _)
  · exact Di.ite _ (Di.cond _ (Di.cond _ (Di.c _) (Di.k _ _ _ _)) (Di.c _)) (Di.c _)
theorem Di_i1 (pc : Nat) (ls st : List AV) (s : Mem) (f : Int32 → AV) : Di (fun K => pI1 K pc ls st s f) := by
  rcases st with _ | ⟨x | x | ⟨k, j⟩, r⟩
  · exact Di.c _
  · exact Di.k _ _ _ _
  · exact Di.c _
  · exact Di.c _
theorem Di_i2 (pc : Nat) (ls st : List AV) (s : Mem) (f : Int32 → Int32 → Int32) : Di (fun K => pI2 K pc ls st s f) := by
  rcases st with _ | ⟨x | x | ⟨k, j⟩, _ | ⟨y | y | ⟨k2, j2⟩, r⟩⟩ <;> first | exact Di.c _ | exact Di.k _ _ _ _
theorem Di_d2 (pc : Nat) (ls st : List AV) (s : Mem) (f : Int32 → Int32 → Int32) : Di (fun K => pD2 K pc ls st s f) := by
  rcases st with _ | ⟨x | x | ⟨k, j⟩, _ | ⟨y | y | ⟨k2, j2⟩, r⟩⟩ <;> first | exact Di.c _ | exact Di.ite _ (Di.c _) (Di.k _ _ _ _)
theorem Di_l2 (pc : Nat) (ls st : List AV) (s : Mem) (f : Int64 → Int64 → AV) : Di (fun K => pL2 K pc ls st s f) := by
  rcases st with _ | ⟨x | x | ⟨k, j⟩, _ | ⟨y | y | ⟨k2, j2⟩, r⟩⟩ <;> first | exact Di.c _ | exact Di.k _ _ _ _
theorem Di_ld (pc : Nat) (ls st : List AV) (s : Mem) (f : Int64 → Int64 → Int64) : Di (fun K => pLD K pc ls st s f) := by
  rcases st with _ | ⟨x | x | ⟨k, j⟩, _ | ⟨y | y | ⟨k2, j2⟩, r⟩⟩ <;> first | exact Di.c _ | exact Di.ite _ (Di.c _) (Di.k _ _ _ _)
theorem Di_if (pc t : Nat) (ls st : List AV) (s : Mem) (c : ClassFile.Cond) : Di (fun K => pIf K pc t ls st s c) := by
  rcases st with _ | ⟨x | x | ⟨k, j⟩, r⟩
  · exact Di.c _
  · cases c <;> exact Di.ite _ (Di.k _ _ _ _) (Di.k _ _ _ _)
  · exact Di.c _
  · exact Di.c _
theorem Di_cmp (pc t : Nat) (ls st : List AV) (s : Mem) (c : ClassFile.Cond) : Di (fun K => pCmp K pc t ls st s c) := by
  rcases st with _ | ⟨x | x | ⟨k, j⟩, _ | ⟨y | y | ⟨k2, j2⟩, r⟩⟩
  all_goals first | exact Di.c _ | (cases c <;> exact Di.ite _ (Di.k _ _ _ _) (Di.k _ _ _ _))
theorem Di_get (pc : Nat) (ls st : List AV) (s : Mem) (c j : Nat) : Di (fun K => pGet K pc ls st s c j) := by
  rcases st with _ | ⟨x | x | ⟨k, i⟩, r⟩
  · exact Di.c _
  · exact Di.c _
  · exact Di.c _
  · refine Di.cond _ ?_ (Di.c _)
    rcases nFt c j with _ | _ | _ | _ | _
    · exact Di.k _ _ _ _
    · exact Di.k _ _ _ _
    · exact Di.k _ _ _ _
    · exact Di.cond _ (Di.k _ _ _ _) (Di.c _)
    · exact Di.k _ _ _ _
theorem Di_put (own : Nat) (ini : Bool) (pc : Nat) (ls st : List AV) (s : Mem) (c j : Nat) : Di (fun K => pPut own ini K pc ls st s c j) := by
  rcases st with _ | ⟨x | x | ⟨k, i⟩, _ | ⟨y | y | ⟨k2, j2⟩, r⟩⟩
  all_goals first
    | exact Di.c _
    | (refine Di.cond _ ?_ (Di.c _)
       rcases nFt c j with _ | _ | _ | _ | _ <;> first | exact Di.c _ | exact Di.k _ _ _ _ | exact Di.cond _ (Di.k _ _ _ _) (Di.c _))
theorem Di_iald (X : Nat × (Nat → Int32)) (pc : Nat) (ls st : List AV) (s : Mem) : Di (fun K => pIald X K pc ls st s) := by
  rcases st with _ | ⟨x | x | ⟨k, j⟩, _ | ⟨y | y | ⟨k2, j2⟩, r⟩⟩
  all_goals first | exact Di.c _ | exact Di.ite _ (Di.cond _ (Di.k _ _ _ _) (Di.c _)) (Di.cond _ (Di.cond _ (Di.k _ _ _ _) (Di.c _)) (Di.c _))
theorem Di_zald (pc : Nat) (ls st : List AV) (s : Mem) : Di (fun K => pZald K pc ls st s) := by
  rcases st with _ | ⟨x | x | ⟨k, j⟩, _ | ⟨y | y | ⟨k2, j2⟩, r⟩⟩
  all_goals first | exact Di.c _ | exact Di.cond _ (Di.cond _ (Di.k _ _ _ _) (Di.c _)) (Di.c _)
theorem Di_aald (pc : Nat) (ls st : List AV) (s : Mem) : Di (fun K => pAald K pc ls st s) := by
  rcases st with _ | ⟨x | x | ⟨k, j⟩, _ | ⟨y | y | ⟨k2, j2⟩, r⟩⟩
  all_goals first | exact Di.c _ | exact Di.cond _ (Di.cond _ (Di.cond _ (Di.k _ _ _ _) (Di.c _)) (Di.c _)) (Di.c _)
theorem Di_iast (pc : Nat) (ls st : List AV) (s : Mem) : Di (fun K => pIast K pc ls st s) := by
  rcases st with _ | ⟨x | x | ⟨k, j⟩, _ | ⟨y | y | ⟨k2, j2⟩, _ | ⟨z | z | ⟨k3, j3⟩, r⟩⟩⟩
  all_goals first | exact Di.c _ | exact Di.cond _ (Di.cond _ (Di.k _ _ _ _) (Di.c _)) (Di.c _)
theorem Di_zast (pc : Nat) (ls st : List AV) (s : Mem) : Di (fun K => pZast K pc ls st s) := by
  rcases st with _ | ⟨x | x | ⟨k, j⟩, _ | ⟨y | y | ⟨k2, j2⟩, _ | ⟨z | z | ⟨k3, j3⟩, r⟩⟩⟩
  all_goals first | exact Di.c _ | exact Di.cond _ (Di.cond _ (Di.k _ _ _ _) (Di.c _)) (Di.c _)
theorem Di_aast (pc : Nat) (ls st : List AV) (s : Mem) : Di (fun K => pAast K pc ls st s) := by
  rcases st with _ | ⟨x | x | ⟨k, j⟩, _ | ⟨y | y | ⟨k2, j2⟩, _ | ⟨z | z | ⟨k3, j3⟩, r⟩⟩⟩
  all_goals first | exact Di.c _ | exact Di.cond _ (Di.cond _ (Di.cond _ (Di.k _ _ _ _) (Di.c _)) (Di.c _)) (Di.c _)
theorem Di_len (X : Nat × (Nat → Int32)) (pc : Nat) (ls st : List AV) (s : Mem) : Di (fun K => pLen X K pc ls st s) := by
  rcases st with _ | ⟨x | x | ⟨k, j⟩, r⟩
  all_goals first | exact Di.c _ | exact Di.ite _ (Di.k _ _ _ _) (Di.cond _ (Di.c _) (Di.k _ _ _ _))
theorem Di_new (pc : Nat) (ls st : List AV) (s : Mem) (c : Nat) : Di (fun K => pNew K pc ls st s c) := Di.cond _ (Di.k _ _ _ _) (Di.c _)
theorem Di_newa (pc len : Nat) (ls st : List AV) (s : Mem) (w : Nat) : Di (fun K => pNewa K pc len ls st s w) := by
  rcases st with _ | ⟨x | x | ⟨k, j⟩, r⟩
  all_goals first | exact Di.c _ | exact Di.cond _ (Di.k _ _ _ _) (Di.c _)
theorem Di_call (cal : Cal) (pc : Nat) (ls st : List AV) (s : Mem) (y n c : Nat) : Di (fun K => pCall cal K pc ls st s y n c) := by
  refine Di.cond _ ?_ (Di.c _)
  rcases c with _ | c
  · exact Di.cond _ (Di.bnd _ (fun v s2 => (pc + 3, ls, v.toList ++ st.drop n, s2))) (Di.c _)
  · rcases st.drop n with _ | ⟨x | x | ⟨k, j⟩, r⟩
    · exact Di.c _
    · exact Di.c _
    · exact Di.c _
    · exact Di.cond _ (Di.bnd _ (fun v s2 => (pc + 3, ls, v.toList ++ r, s2))) (Di.c _)
theorem Di_host (pc : Nat) (ls st : List AV) (s : Mem) (h : Nat) : Di (fun K => pHost K pc ls st s h) := by
  refine Di.cond _ ?_ (Di.c _)
  rcases h with _ | _ | _ | _ | _ | _ | _ | _ | h
  · exact Di.c _
  · rcases st with _ | ⟨x | x | ⟨k, j⟩, _ | ⟨y | y | ⟨k2, j2⟩, r⟩⟩ <;> first | exact Di.c _ | exact Di.k _ _ _ _
  · rcases st with _ | ⟨x | x | ⟨k, j⟩, _ | ⟨y | y | ⟨k2, j2⟩, r⟩⟩ <;> first | exact Di.c _ | exact Di.k _ _ _ _
  · rcases st with _ | ⟨x | x | ⟨k, j⟩, r⟩ <;> first | exact Di.c _ | exact Di.k _ _ _ _
  · rcases st with _ | ⟨x | x | ⟨k, j⟩, _ | ⟨y | y | ⟨k2, j2⟩, _ | ⟨z | z | ⟨k3, j3⟩, _ | ⟨u | u | ⟨k4, j4⟩, _ | ⟨w | w | ⟨k5, j5⟩, r⟩⟩⟩⟩⟩
    all_goals first | exact Di.c _ | exact Di.cond _ (Di.cond _ (Di.k _ _ _ _) (Di.c _)) (Di.c _)
  · rcases st with _ | ⟨x | x | ⟨k, j⟩, r⟩ <;> first | exact Di.c _ | exact Di.ite _ (Di.c _) (Di.k _ _ _ _)
  · rcases st with _ | ⟨x | x | ⟨_ | _ | k, j⟩, r⟩ <;> first | exact Di.c _ | exact Di.cond _ (Di.k _ _ _ _) (Di.c _)
  · rcases st with _ | ⟨x | x | ⟨k, j⟩, _ | ⟨y | y | ⟨_ | _ | k2, j2⟩, r⟩⟩ <;> first | exact Di.c _ | exact Di.cond _ (Di.k _ _ _ _) (Di.c _)
  · exact Di.c _
theorem Di_stepI (X : Nat × (Nat → Int32)) (cal : Cal) (own : Nat) (ini : Bool) (rt : Nat) (e : En) (pc : Nat) (ls st : List AV) (s : Mem) : Di (fun K => nStepI X cal own ini rt e pc ls st s K) := by
  obtain ⟨ins, a, c, cL, sw⟩ := e
  cases ins
  case ldc => rcases h : nAx a 0 with _ | _ | n <;> simp only [nStepI, h] <;> exact Di.k _ _ _ _
  case iinc => rcases h : nGt ls (nAx a 0) with x | x | ⟨k, j⟩ <;> simp only [nStepI, h] <;> first | exact Di.c _ | exact Di.cond _ (Di.cond _ (Di.c _) (Di.k _ _ _ _)) (Di.c _)
  case l2i => rcases st with _ | ⟨x | x | ⟨k, j⟩, r⟩ <;> first | exact Di.c _ | exact Di.k _ _ _ _
  case dup => rcases st with _ | ⟨x, r⟩ <;> first | exact Di.c _ | exact Di.cond _ (Di.c _) (Di.k _ _ _ _)
  case dup2 => rcases st with _ | ⟨x, _ | ⟨y, r⟩⟩ <;> first | exact Di.c _ | exact Di.cond _ (Di.c _) (Di.k _ _ _ _)
  case anewarray => exact Di.cond _ (Di_newa _ _ _ _ _ _) (Di.c _)
  case pop => rcases st with _ | ⟨x, r⟩ <;> first | exact Di.c _ | exact Di.cond _ (Di.c _) (Di.k _ _ _ _)
  case tableswitch => rcases st with _ | ⟨x | x | ⟨k, j⟩, r⟩ <;> first | exact Di.c _ | exact Di.sw _ _ _ _ _ _
  case lookupswitch => rcases st with _ | ⟨x | x | ⟨k, j⟩, r⟩ <;> first | exact Di.c _ | exact Di.sw _ _ _ _ _ _
  case invokevirtual => rcases h : nAx a 0 with _ | n <;> simp only [nStepI, h] <;> first | exact Di_call _ _ _ _ _ _ _ _ | exact Di_host _ _ _ _ _
  case invokespecial => rcases h : nAx a 0 with _ | n <;> simp only [nStepI, h] <;> first | exact Di_call _ _ _ _ _ _ _ _ | exact Di_host _ _ _ _ _
  case invokestatic => rcases h : nAx a 0 with _ | n <;> simp only [nStepI, h] <;> first | exact Di_call _ _ _ _ _ _ _ _ | exact Di_host _ _ _ _ _
  all_goals first
    | exact Di.k _ _ _ _
    | exact Di_load _ _ _ _ _ _ _
    | exact Di_store _ _ _ _ _ _ _
    | exact Di_i1 _ _ _ _ _
    | exact Di_i2 _ _ _ _ _
    | exact Di_d2 _ _ _ _ _
    | exact Di_l2 _ _ _ _ _
    | exact Di_ld _ _ _ _ _
    | exact Di_if _ _ _ _ _ _
    | exact Di_cmp _ _ _ _ _ _
    | exact Di_get _ _ _ _ _ _
    | exact Di_put _ _ _ _ _ _ _ _
    | exact Di_iald _ _ _ _ _
    | exact Di_iast _ _ _ _
    | exact Di_zald _ _ _ _
    | exact Di_zast _ _ _ _
    | exact Di_aald _ _ _ _
    | exact Di_aast _ _ _ _
    | exact Di_len _ _ _ _ _
    | exact Di_new _ _ _ _ _
    | exact Di_newa _ _ _ _ _ _
    | exact Di.c _
theorem Di_step (X : Nat × (Nat → Int32)) (cal : Cal) (h : Hd) (pc : Nat) (ls st : List AV) (s : Mem) : Di (fun K => nStep X cal h pc ls st s K) := by
  unfold nStep
  rcases nLk h.1 pc with _ | e
  · exact Di.c _
  · exact Di_stepI _ _ _ _ _ _ _ _ _ _
section
variable (X : Nat × (Nat → Int32)) (cal : Cal) (h : Hd)
theorem nRun_succ (n pc : Nat) (ls st : List AV) (s : Mem) : nRun X cal h (n + 1) pc ls st s = nStep X cal h pc ls st s (nRun X cal h n) := rfl
theorem nRun_mono : ∀ (n pc : Nat) (ls st : List AV) (s : Mem) (r : Res), nRun X cal h n pc ls st s = some r → nRun X cal h (n + 1) pc ls st s = some r := by
  intro n
  induction n with
  | zero => intro pc ls st s r q; cases q
  | succ n ih =>
    intro pc ls st s r q
    rw [nRun_succ] at q ⊢
    rcases Di_step X cal h pc ls st s with ⟨c, hc⟩ | ⟨pc2, ls2, st2, s2, hc⟩
    · dsimp only at hc; rw [hc] at q ⊢; exact q
    · dsimp only at hc; rw [hc] at q ⊢; exact ih _ _ _ _ _ q
theorem nRun_le {n m pc : Nat} {ls st : List AV} {s : Mem} {r : Res} (q : nRun X cal h n pc ls st s = some r) (hl : n ≤ m) : nRun X cal h m pc ls st s = some r := by
  induction hl with
  | refl => exact q
  | step _ ih => exact nRun_mono X cal h _ _ _ _ _ _ ih
theorem nR_iff {pc : Nat} {ls st : List AV} {s : Mem} {r : Res} : nR X cal h pc ls st s = some r ↔ ∃ n, nRun X cal h n pc ls st s = some r := by
  unfold nR
  by_cases q : ∃ n r, nRun X cal h n pc ls st s = some r
  · rw [dif_pos q]
    have h1 := q.choose_spec.choose_spec
    constructor
    · intro e
      have e2 := Option.some.inj e
      rw [e2] at h1
      exact ⟨_, h1⟩
    · rintro ⟨n, hn⟩
      have a1 := nRun_le X cal h h1 (Nat.le_max_left q.choose n)
      have a2 := nRun_le X cal h hn (Nat.le_max_right q.choose n)
      rw [← a1, a2]
  · rw [dif_neg q]
    constructor
    · intro e; cases e
    · rintro ⟨n, hn⟩; exact absurd ⟨n, r, hn⟩ q
theorem nR_step (pc : Nat) (ls st : List AV) (s : Mem) : nR X cal h pc ls st s = nStep X cal h pc ls st s (nR X cal h) := by
  have key : ∀ r, nR X cal h pc ls st s = some r ↔ nStep X cal h pc ls st s (nR X cal h) = some r := by
    intro r
    rw [nR_iff]
    rcases Di_step X cal h pc ls st s with ⟨c, hc⟩ | ⟨pc2, ls2, st2, s2, hc⟩
    · dsimp only at hc
      rw [hc]
      constructor
      · rintro ⟨n, hn⟩
        have h2 := nRun_mono X cal h _ _ _ _ _ _ hn
        rw [nRun_succ, hc] at h2; exact h2
      · intro e; exact ⟨1, by rw [nRun_succ, hc]; exact e⟩
    · dsimp only at hc
      rw [hc, nR_iff]
      constructor
      · rintro ⟨n, hn⟩
        have h2 := nRun_mono X cal h _ _ _ _ _ _ hn
        rw [nRun_succ, hc] at h2; exact ⟨n, h2⟩
      · rintro ⟨n, hn⟩; exact ⟨n + 1, by rw [nRun_succ, hc]; exact hn⟩
  rcases ha : nR X cal h pc ls st s with _ | r
  · rcases hb : nStep X cal h pc ls st s (nR X cal h) with _ | r2
    · rfl
    · rw [(key r2).mpr hb] at ha; cases ha
  · exact ((key r).mp ha).symm
theorem nR_iter (n pc : Nat) (ls st : List AV) (s : Mem) : nR X cal h pc ls st s = nIter X cal h (nR X cal h) n pc ls st s := by
  induction n generalizing pc ls st s with
  | zero => rfl
  | succ n ih =>
    rw [nR_step]
    show _ = nStep X cal h pc ls st s (nIter X cal h (nR X cal h) n)
    rcases Di_step X cal h pc ls st s with ⟨c, hc⟩ | ⟨pc2, ls2, st2, s2, hc⟩
    · dsimp only at hc; rw [hc, hc]
    · dsimp only at hc; rw [hc, hc]; exact ih _ _ _ _
end
/-- own methods by their numbers, d calls deep at most -/
noncomputable def callN (X : Nat × (Nat → Int32)) : Nat → Cal
  | 0 => fun _ _ _ => none
  | d + 1 => fun y args s => match mtL[y]? with
    | some (h, ml) => cond (Nat.ble (nLay args).length ml) (nR X (callN X d) h 0 (nPad ml (nLay args)) [] s) none
    | none => none
