/-! one instruction of the machine is one step of the small machine -/
section
variable {E : EnvT} {X : Nat × (Nat → Int32)} {nL : Nat} {s0 : Mem} {p : Program} {l : Launch} {e : Env} {R : Room} {s : State} {m : MethodId} {args : Array Value} {below : List Frame} {meth : Method} {c : Code} {Q : State → Prop} {cc : ByteArray} {oC : String} {ini : Bool} {pc : Nat} {ls st : List AV} {σ : Mem} {K : Kon} {r : Res}
/-- a plain value comes on the stack -/
theorem sim_push {v : AV} {len : Nat} (hv : okV (nT σ) v) (hrow : ∀ {H : Heap} {locs : List Loc} {cells slots : Nat} {lsC : Array Slot} {rest : List Value}, LH E nL lsC ls → W p l e R s m args below meth c H locs cells slots Q (F0 m (pc + len) lsC (cV E v :: rest)) → W p l e R s m args below meth c H locs cells slots Q (F0 m pc lsC rest))
    (hk : Wf E nL s0 p l e R s m args below meth c Q (pc + len) ls (v :: st) σ) : Wf E nL s0 p l e R s m args below meth c Q pc ls st σ :=
  fun h1 h2 h3 _ _ _ hW hL hS => hrow hL (hk h1 (okl_cons hv h2) h3 _ _ _ hW hL hS)
theorem sim_load {want len i : Nat} (hC : Ctx E X p R s m args meth c cc nL oC ini)
    (hi : want = 0 → ∀ {H : Heap} {locs : List Loc} {cells slots : Nat} {lsC : Array Slot} {rest : List Value} {x : Int32}, lsC[i]? = some (.val (.int x)) → W p l e R s m args below meth c H locs cells slots Q (F0 m (pc + len) lsC (.int x :: rest)) → W p l e R s m args below meth c H locs cells slots Q (F0 m pc lsC rest))
    (hl : want = 1 → ∀ {H : Heap} {locs : List Loc} {cells slots : Nat} {lsC : Array Slot} {rest : List Value} {x : Int64}, lsC[i]? = some (.val (.long x)) → W p l e R s m args below meth c H locs cells slots Q (F0 m (pc + len) lsC (.long x :: rest)) → W p l e R s m args below meth c H locs cells slots Q (F0 m pc lsC rest))
    (hr : want = 2 → ∀ {H : Heap} {locs : List Loc} {cells slots : Nat} {lsC : Array Slot} {rest : List Value} {x : Nat}, lsC[i]? = some (.val (.ref x)) → W p l e R s m args below meth c H locs cells slots Q (F0 m (pc + len) lsC (.ref x :: rest)) → W p l e R s m args below meth c H locs cells slots Q (F0 m pc lsC rest))
    (hK : pLoad K pc len ls st σ want i = some r) (hk : ∀ pc ls st σ', K pc ls st σ' = some r → Wf E nL s0 p l e R s m args below meth c Q pc ls st σ') : Wf E nL s0 p l e R s m args below meth c Q pc ls st σ := by
  unfold pLoad at hK
  intro h1
  revert h1
  rcases hg : nGt ls i with x | x | ⟨k, j⟩
  · rw [hg] at hK
    dsimp only at hK
    by_cases hw : want = 0
    · rw [if_pos hw] at hK
      intro h1 h2 h3 H locs lsC hW hL hS
      exact hi hw (hL.get hg rfl) (hk _ _ _ _ hK h1 (okl_cons trivial h2) h3 H locs lsC hW hL hS)
    · rw [if_neg hw] at hK; cases hK
  · rw [hg] at hK
    dsimp only at hK
    by_cases hw : want = 1
    · rw [if_pos hw] at hK
      intro h1 h2 h3 H locs lsC hW hL hS
      exact hl hw (hL.get hg rfl) (hk _ _ _ _ hK h1 (okl_cons trivial h2) h3 H locs lsC hW hL hS)
    · rw [if_neg hw] at hK; cases hK
  · rw [hg] at hK
    dsimp only at hK
    by_cases hw : want = 2 ∧ k ≠ 0
    · rw [if_pos hw] at hK
      intro h1 h2 h3 H locs lsC hW hL hS
      have hx : isX (.inr (.inr (k, j))) = false := by
        rcases k with _ | k
        · exact absurd rfl hw.2
        · rfl
      exact hr hw.1 (hL.get hg hx) (hk _ _ _ _ hK h1 (okl_cons (okl_gt h1 hg) h2) h3 H locs lsC hW hL hS)
    · rw [if_neg hw] at hK; cases hK
theorem sim_store {want len i : Nat}
    (hi : want = 0 → ∀ {H : Heap} {locs : List Loc} {cells slots : Nat} {lsC : Array Slot} {rest : List Value} {x : Int32} {lv : List (Nat × Value)}, lv_has lsC nL lv → i < nL → (∀ ls' : Array Slot, lv_has ls' nL ((i, Value.int x) :: lv.filter (fun q => !(q.1 == i) && !(q.1 + 1 == i && q.2.category == 2))) → W p l e R s m args below meth c H locs cells slots Q (F0 m (pc + len) ls' rest)) → W p l e R s m args below meth c H locs cells slots Q (F0 m pc lsC (.int x :: rest)))
    (hl : want = 1 → ∀ {H : Heap} {locs : List Loc} {cells slots : Nat} {lsC : Array Slot} {rest : List Value} {x : Int64} {lv : List (Nat × Value)}, lv_has lsC nL lv → i + 1 < nL → (∀ ls' : Array Slot, lv_has ls' nL ((i, Value.long x) :: lv.filter (fun q => !(q.1 == i) && (!(q.1 == i + 1) && !(q.1 + 1 == i && q.2.category == 2)))) → W p l e R s m args below meth c H locs cells slots Q (F0 m (pc + len) ls' rest)) → W p l e R s m args below meth c H locs cells slots Q (F0 m pc lsC (.long x :: rest)))
    (hr : want = 2 → ∀ {H : Heap} {locs : List Loc} {cells slots : Nat} {lsC : Array Slot} {rest : List Value} {x : Nat} {lv : List (Nat × Value)}, lv_has lsC nL lv → i < nL → (∀ ls' : Array Slot, lv_has ls' nL ((i, Value.ref x) :: lv.filter (fun q => !(q.1 == i) && !(q.1 + 1 == i && q.2.category == 2))) → W p l e R s m args below meth c H locs cells slots Q (F0 m (pc + len) ls' rest)) → W p l e R s m args below meth c H locs cells slots Q (F0 m pc lsC (.ref x :: rest)))
    (hK : pStore K pc len ls st σ want i = some r) (hk : ∀ pc ls st σ', K pc ls st σ' = some r → Wf E nL s0 p l e R s m args below meth c Q pc ls st σ') : Wf E nL s0 p l e R s m args below meth c Q pc ls st σ := by
  unfold pStore at hK
  rcases st with _ | ⟨x | x | ⟨k, j⟩, rr⟩
  · cases hK
  · dsimp only at hK
    by_cases hw : want = 0
    · rw [if_pos hw] at hK
      cases hlt : Nat.blt i ls.length
      · rw [hlt] at hK; cases hK
      · rw [hlt] at hK
        cases hb : nLbf ls i
        · rw [hb] at hK
          intro h1 h2 h3 H locs lsC hW hL hS
          have hlt := Nat.blt_eq.mp hlt
          exact hi hw hL.1 (by rw [← hL.2]; exact hlt) (fun ls' h' => hk _ _ _ _ hK (okl_pt h1 trivial) (okl_tl h2) h3 H locs ls' hW (LH.put1 hL.2 hb rfl h') hS)
        · rw [hb] at hK; cases hK
    · rw [if_neg hw] at hK; cases hK
  · dsimp only at hK
    by_cases hw : want = 1
    · rw [if_pos hw] at hK
      cases hlt : Nat.blt (i + 1) ls.length
      · rw [hlt] at hK; cases hK
      · rw [hlt] at hK
        cases hb : nLbf ls i
        · rw [hb] at hK
          intro h1 h2 h3 H locs lsC hW hL hS
          have hlt := Nat.blt_eq.mp hlt
          exact hl hw hL.1 (by rw [← hL.2]; exact hlt) (fun ls' h' => hk _ _ _ _ hK (okl_pt (okl_pt h1 trivial) (Or.inl rfl)) (okl_tl h2) h3 H locs ls' hW (LH.put2 hL.2 (by rw [← hL.2]; exact hlt) hb h') hS)
        · rw [hb] at hK; cases hK
    · rw [if_neg hw] at hK; cases hK
  · dsimp only at hK
    by_cases hw : want = 2 ∧ k ≠ 0
    · rw [if_pos hw] at hK
      cases hlt : Nat.blt i ls.length
      · rw [hlt] at hK; cases hK
      · rw [hlt] at hK
        cases hb : nLbf ls i
        · rw [hb] at hK
          intro h1 h2 h3 H locs lsC hW hL hS
          have hlt := Nat.blt_eq.mp hlt
          exact hr hw.1 hL.1 (by rw [← hL.2]; exact hlt) (fun ls' h' => hk _ _ _ _ hK (okl_pt h1 (okl_hd h2)) (okl_tl h2) h3 H locs ls' hW (LH.put1 hL.2 hb rfl h') hS)
        · rw [hb] at hK; cases hK
    · rw [if_neg hw] at hK; cases hK
theorem sim_i1 {f : Int32 → AV} (hf : ∀ x, okV (nT σ) (f x)) (hrow : ∀ {H : Heap} {locs : List Loc} {cells slots : Nat} {lsC : Array Slot} {rest : List Value} (x : Int32), W p l e R s m args below meth c H locs cells slots Q (F0 m (pc + 1) lsC (cV E (f x) :: rest)) → W p l e R s m args below meth c H locs cells slots Q (F0 m pc lsC (.int x :: rest)))
    (hK : pI1 K pc ls st σ f = some r) (hk : ∀ pc ls st σ', K pc ls st σ' = some r → Wf E nL s0 p l e R s m args below meth c Q pc ls st σ') : Wf E nL s0 p l e R s m args below meth c Q pc ls st σ := by
  rcases st with _ | ⟨x | x | ⟨k, j⟩, rr⟩
  · cases hK
  · intro h1 h2 h3 H locs lsC hW hL hS
    exact hrow x (hk _ _ _ _ hK h1 (okl_cons (hf x) (okl_tl h2)) h3 H locs lsC hW hL hS)
  · cases hK
  · cases hK
theorem sim_i2 {f : Int32 → Int32 → Int32} (hrow : ∀ {H : Heap} {locs : List Loc} {cells slots : Nat} {lsC : Array Slot} {rest : List Value} (x y : Int32), W p l e R s m args below meth c H locs cells slots Q (F0 m (pc + 1) lsC (.int (f x y) :: rest)) → W p l e R s m args below meth c H locs cells slots Q (F0 m pc lsC (.int y :: .int x :: rest)))
    (hK : pI2 K pc ls st σ f = some r) (hk : ∀ pc ls st σ', K pc ls st σ' = some r → Wf E nL s0 p l e R s m args below meth c Q pc ls st σ') : Wf E nL s0 p l e R s m args below meth c Q pc ls st σ := by
  rcases st with _ | ⟨x | x | ⟨k, j⟩, _ | ⟨y | y | ⟨k2, j2⟩, rr⟩⟩
  all_goals first
    | cases hK; done
    | (intro h1 h2 h3 H locs lsC hW hL hS
       exact hrow _ _ (hk _ _ _ _ hK h1 (okl_cons trivial (okl_tl (okl_tl h2))) h3 H locs lsC hW hL hS))
theorem sim_d2 {f : Int32 → Int32 → Int32} (hrow : ∀ {H : Heap} {locs : List Loc} {cells slots : Nat} {lsC : Array Slot} {rest : List Value} (x y : Int32), ¬ y = 0 → W p l e R s m args below meth c H locs cells slots Q (F0 m (pc + 1) lsC (.int (f x y) :: rest)) → W p l e R s m args below meth c H locs cells slots Q (F0 m pc lsC (.int y :: .int x :: rest)))
    (hK : pD2 K pc ls st σ f = some r) (hk : ∀ pc ls st σ', K pc ls st σ' = some r → Wf E nL s0 p l e R s m args below meth c Q pc ls st σ') : Wf E nL s0 p l e R s m args below meth c Q pc ls st σ := by
  rcases st with _ | ⟨x | x | ⟨k, j⟩, _ | ⟨y | y | ⟨k2, j2⟩, rr⟩⟩
  all_goals first
    | cases hK; done
    | (unfold pD2 at hK
       dsimp only at hK
       by_cases hz : x = 0
       · rw [if_pos hz] at hK; cases hK
       · rw [if_neg hz] at hK
         intro h1 h2 h3 H locs lsC hW hL hS
         exact hrow _ _ hz (hk _ _ _ _ hK h1 (okl_cons trivial (okl_tl (okl_tl h2))) h3 H locs lsC hW hL hS))
theorem sim_l2 {f : Int64 → Int64 → AV} (hf : ∀ x y, okV (nT σ) (f x y)) (hrow : ∀ {H : Heap} {locs : List Loc} {cells slots : Nat} {lsC : Array Slot} {rest : List Value} (x y : Int64), W p l e R s m args below meth c H locs cells slots Q (F0 m (pc + 1) lsC (cV E (f x y) :: rest)) → W p l e R s m args below meth c H locs cells slots Q (F0 m pc lsC (.long y :: .long x :: rest)))
    (hK : pL2 K pc ls st σ f = some r) (hk : ∀ pc ls st σ', K pc ls st σ' = some r → Wf E nL s0 p l e R s m args below meth c Q pc ls st σ') : Wf E nL s0 p l e R s m args below meth c Q pc ls st σ := by
  rcases st with _ | ⟨x | x | ⟨k, j⟩, _ | ⟨y | y | ⟨k2, j2⟩, rr⟩⟩
  all_goals first
    | cases hK; done
    | (intro h1 h2 h3 H locs lsC hW hL hS
       exact hrow _ _ (hk _ _ _ _ hK h1 (okl_cons (hf _ _) (okl_tl (okl_tl h2))) h3 H locs lsC hW hL hS))
theorem sim_ld {f : Int64 → Int64 → Int64} (hrow : ∀ {H : Heap} {locs : List Loc} {cells slots : Nat} {lsC : Array Slot} {rest : List Value} (x y : Int64), ¬ y = 0 → W p l e R s m args below meth c H locs cells slots Q (F0 m (pc + 1) lsC (.long (f x y) :: rest)) → W p l e R s m args below meth c H locs cells slots Q (F0 m pc lsC (.long y :: .long x :: rest)))
    (hK : pLD K pc ls st σ f = some r) (hk : ∀ pc ls st σ', K pc ls st σ' = some r → Wf E nL s0 p l e R s m args below meth c Q pc ls st σ') : Wf E nL s0 p l e R s m args below meth c Q pc ls st σ := by
  rcases st with _ | ⟨x | x | ⟨k, j⟩, _ | ⟨y | y | ⟨k2, j2⟩, rr⟩⟩
  all_goals first
    | cases hK; done
    | (unfold pLD at hK
       dsimp only at hK
       by_cases hz : x = 0
       · rw [if_pos hz] at hK; cases hK
       · rw [if_neg hz] at hK
         intro h1 h2 h3 H locs lsC hW hL hS
         exact hrow _ _ hz (hk _ _ _ _ hK h1 (okl_cons trivial (okl_tl (okl_tl h2))) h3 H locs lsC hW hL hS))
theorem sim_if {q : ClassFile.Cond} {off : Int} {tgt : Nat} (hC : Ctx E X p R s m args meth c cc nL oC ini) (hd : decode cc pc = .ok (.ifCond q off, 3)) (ht : (pc : Int) + off = (tgt : Int))
    (hK : pIf K pc tgt ls st σ q = some r) (hk : ∀ pc ls st σ', K pc ls st σ' = some r → Wf E nL s0 p l e R s m args below meth c Q pc ls st σ') : Wf E nL s0 p l e R s m args below meth c Q pc ls st σ := by
  rcases st with _ | ⟨x | x | ⟨k, j⟩, rr⟩
  · cases hK
  · intro h1 h2 h3 H locs lsC hW hL hS
    have go : ∀ pc2, K pc2 ls rr σ = some r → W p l e R s m args below meth c H locs (nT σ - nT s0) (nU σ - nU s0) Q (F0 m pc2 lsC (rr.map (cV E))) := fun pc2 hq => hk _ _ _ _ hq h1 (okl_tl h2) h3 H locs lsC hW hL hS
    cases q <;> unfold pIf at hK <;> dsimp only at hK
    · exact lv_if_eq hC.1 hC.2.1 hd ht (fun h => go _ (by rw [if_pos h] at hK; exact hK)) (fun h => go _ (by rw [if_neg h] at hK; exact hK))
    · exact lv_if_ne hC.1 hC.2.1 hd ht (fun h => go _ (by rw [if_neg h] at hK; exact hK)) (fun h => go _ (by rw [if_pos h] at hK; exact hK))
    · exact lv_if_lt hC.1 hC.2.1 hd ht (fun h => go _ (by rw [if_pos h] at hK; exact hK)) (fun h => go _ (by rw [if_neg h] at hK; exact hK))
    · exact lv_if_ge hC.1 hC.2.1 hd ht (fun h => go _ (by rw [if_pos h] at hK; exact hK)) (fun h => go _ (by rw [if_neg h] at hK; exact hK))
    · exact lv_if_gt hC.1 hC.2.1 hd ht (fun h => go _ (by rw [if_pos h] at hK; exact hK)) (fun h => go _ (by rw [if_neg h] at hK; exact hK))
    · exact lv_if_le hC.1 hC.2.1 hd ht (fun h => go _ (by rw [if_pos h] at hK; exact hK)) (fun h => go _ (by rw [if_neg h] at hK; exact hK))
  · cases hK
  · cases hK
theorem sim_cmp {q : ClassFile.Cond} {off : Int} {tgt : Nat} (hC : Ctx E X p R s m args meth c cc nL oC ini) (hd : decode cc pc = .ok (.if_icmp q off, 3)) (ht : (pc : Int) + off = (tgt : Int))
    (hK : pCmp K pc tgt ls st σ q = some r) (hk : ∀ pc ls st σ', K pc ls st σ' = some r → Wf E nL s0 p l e R s m args below meth c Q pc ls st σ') : Wf E nL s0 p l e R s m args below meth c Q pc ls st σ := by
  rcases st with _ | ⟨x | x | ⟨k, j⟩, _ | ⟨y | y | ⟨k2, j2⟩, rr⟩⟩
  all_goals try (cases hK; done)
  intro h1 h2 h3 H locs lsC hW hL hS
  have go : ∀ pc2, K pc2 ls rr σ = some r → W p l e R s m args below meth c H locs (nT σ - nT s0) (nU σ - nU s0) Q (F0 m pc2 lsC (rr.map (cV E))) := fun pc2 hq => hk _ _ _ _ hq h1 (okl_tl (okl_tl h2)) h3 H locs lsC hW hL hS
  cases q <;> unfold pCmp at hK <;> dsimp only at hK
  · exact lv_icmp_eq hC.1 hC.2.1 hd ht (fun h => go _ (by rw [if_pos h] at hK; exact hK)) (fun h => go _ (by rw [if_neg h] at hK; exact hK))
  · exact lv_icmp_ne hC.1 hC.2.1 hd ht (fun h => go _ (by rw [if_neg h] at hK; exact hK)) (fun h => go _ (by rw [if_pos h] at hK; exact hK))
  · exact lv_icmp_lt hC.1 hC.2.1 hd ht (fun h => go _ (by rw [if_pos h] at hK; exact hK)) (fun h => go _ (by rw [if_neg h] at hK; exact hK))
  · exact lv_icmp_ge hC.1 hC.2.1 hd ht (fun h => go _ (by rw [if_pos h] at hK; exact hK)) (fun h => go _ (by rw [if_neg h] at hK; exact hK))
  · exact lv_icmp_gt hC.1 hC.2.1 hd ht (fun h => go _ (by rw [if_pos h] at hK; exact hK)) (fun h => go _ (by rw [if_neg h] at hK; exact hK))
  · exact lv_icmp_le hC.1 hC.2.1 hd ht (fun h => go _ (by rw [if_pos h] at hK; exact hK)) (fun h => go _ (by rw [if_neg h] at hK; exact hK))
end
