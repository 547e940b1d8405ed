/-! soundness: what the small machine's run of a method says, the machine does -/
theorem lk_mem : ∀ (t : List (Nat × En)) (pc : Nat) {e : En}, nLk t pc = some e → (pc, e) ∈ t
  | [], _, _, h => by cases h
  | (p, e0) :: t, pc, e, h => by
    rw [nLk] at h
    cases hb : Nat.beq p pc
    · rw [hb] at h
      exact List.mem_cons_of_mem _ (lk_mem t pc h)
    · rw [hb] at h
      have h := Option.some.inj h
      rw [← h, Nat.eq_of_beq_eq_true hb]
      exact List.mem_cons_self
theorem lay_len (E : EnvT) : ∀ av : List AV, (lg_sl (av.map (cV E))).length = (nLay av).length
  | [] => rfl
  | v :: l => by
    have ih := lay_len E l
    unfold lg_sl at ih ⊢
    rw [List.map_cons, List.flatMap_cons, List.length_append, ih]
    rcases v with x | x | ⟨k, i⟩
    · show 1 + _ = _ + 1
      omega
    · show 2 + _ = _ + 1 + 1
      omega
    · show 1 + _ = _ + 1
      omega
theorem lay_asc (E : EnvT) : ∀ (av : List AV) (i : Nat), ∀ q ∈ asc E i (nLay av), q ∈ lv_args i (av.map (cV E))
  | [], _ => fun _ h => h
  | v :: l, i => by
    intro q hq
    rcases v with x | x | ⟨k, j⟩
    · have hq : q ∈ (i, cV E (.inl x)) :: asc E (i + 1) (nLay l) := hq
      show q ∈ (i, cV E (.inl x)) :: lv_args (i + 1) (l.map (cV E))
      rcases List.mem_cons.mp hq with h | h
      · exact List.mem_cons.mpr (Or.inl h)
      · exact List.mem_cons_of_mem _ (lay_asc E l (i + 1) q h)
    · have hq : q ∈ (i, cV E (.inr (.inl x))) :: asc E (i + 1 + 1) (nLay l) := hq
      show q ∈ (i, cV E (.inr (.inl x))) :: lv_args (i + 2) (l.map (cV E))
      rcases List.mem_cons.mp hq with h | h
      · exact List.mem_cons.mpr (Or.inl h)
      · exact List.mem_cons_of_mem _ (lay_asc E l (i + 1 + 1) q h)
    · show q ∈ (i, cV E (.inr (.inr (k, j)))) :: lv_args (i + 1) (l.map (cV E))
      rcases k with _ | k
      · exact List.mem_cons_of_mem _ (lay_asc E l (i + 1) q hq)
      · have hq : q ∈ (i, cV E (.inr (.inr (k + 1, j)))) :: asc E (i + 1) (nLay l) := hq
        rcases List.mem_cons.mp hq with h | h
        · exact List.mem_cons.mpr (Or.inl h)
        · exact List.mem_cons_of_mem _ (lay_asc E l (i + 1) q h)
theorem pad_asc (E : EnvT) : ∀ (n : Nat) (l : List AV) (i : Nat), ∀ q ∈ asc E i (nPad n l), q ∈ asc E i l
  | 0, _, _ => fun _ h => by cases h
  | n + 1, [], i => by
    intro q hq
    have hq : q ∈ asc E (i + 1) (nPad n []) := hq
    exact absurd (pad_asc E n [] (i + 1) q hq) List.not_mem_nil
  | n + 1, a :: l, i => by
    intro q hq
    have ih := pad_asc E n l (i + 1)
    rw [nPad] at hq
    unfold asc at hq ⊢
    cases ha : isX a
    · rw [ha] at hq
      rcases List.mem_cons.mp hq with h | h
      · exact List.mem_cons.mpr (Or.inl h)
      · exact List.mem_cons_of_mem _ (ih q h)
    · rw [ha] at hq
      exact ih q hq
theorem pad_len : ∀ (n : Nat) (l : List AV), (nPad n l).length = n
  | 0, _ => rfl
  | n + 1, [] => congrArg (· + 1) (pad_len n [])
  | n + 1, _ :: l => congrArg (· + 1) (pad_len n l)
theorem lay_ok {t : Nat} : ∀ {av : List AV}, (∀ v ∈ av, okV t v) → ∀ v ∈ nLay av, okV t v
  | [], h => h
  | a :: l, h => by
    have ih := lay_ok (okl_tl h)
    have ha := okl_hd h
    unfold nLay
    cases nIsL a
    · exact okl_cons ha ih
    · exact okl_cons ha (okl_cons (Or.inl rfl) ih)
theorem pad_ok {t : Nat} : ∀ (n : Nat) {l : List AV}, (∀ v ∈ l, okV t v) → ∀ v ∈ nPad n l, okV t v
  | 0, _, _ => fun _ h => by cases h
  | n + 1, [], h => okl_cons (Or.inl rfl) (pad_ok n h)
  | n + 1, _ :: _, h => okl_cons (okl_hd h) (pad_ok n (okl_tl h))
theorem LH_start (E : EnvT) {av : List AV} {n : Nat} {lsC : Array Slot} (h : lv_has lsC n (lv_args 0 (av.map (cV E)))) : LH E n lsC (nPad n (nLay av)) :=
  ⟨has_mono h (fun q hq => lay_asc E av 0 q (pad_asc E n _ 0 q hq)), pad_len n _⟩
section
variable {E : EnvT} {X : Nat × (Nat → Int32)} {nL : Nat} {s0 : Mem} {p : Program} {l : Launch} {e : Env} {R : Room} {s : State} {m : MethodId} {args : Array Value} {below : List Frame} {meth : Method} {c : Code} {cc : ByteArray} {oC : String} {ini : Bool} {pc : Nat} {ls st : List AV} {σ : Mem} {r : Res} {d : Nat} {cal : Cal} {Qc : Array Value → State → Outcome → State → Prop}
theorem sim_ret {rt want : Nat} {ret : Option FieldType} (hC : Ctx E X p R s m args meth c cc nL oC ini) (hr : meth.sig.returnType = ret) (hrt : rtB rt ret = true) (hlocks : meth.locks = false)
    (hQ : ∀ t : State, WD E r.2 t.heap → va_F (aF E) s t → (∀ v, r.1 = some v → okV (nT r.2) v) → Qc args s (.returned (r.1.map (cV E))) t)
    (hd : decode cc pc = .ok (rIns want, 1)) (hK : pRet rt want st σ = some r) : Wf E nL s0 p l e R s m args below meth c (MQ below Qc args s (nT r.2 - nT s0) (nU r.2 - nU s0) (aF E)) pc ls st σ := by
  intro h1 h2 h3 H locs lsC hW hL hS
  have hF : ∀ t : State, t.heap = H → va_F (aF E) s t := fun t ht => ⟨by rw [ht]; exact hS.1, fun q q1 q2 => by rw [ht]; exact hS.2.1 q q1 q2⟩
  unfold pRet at hK
  rcases st with _ | ⟨x | x | ⟨k, i⟩, _ | ⟨y, rr⟩⟩
  all_goals dsimp only at hK
  all_goals try (cases hK; done)
  · cases hb : (rt == 0 && want == 0)
    · rw [hb] at hK; cases hK
    rw [hb] at hK
    rw [Bool.and_eq_true] at hb
    cases hK
    have e1 : rt = 0 := eq_of_beq hb.1
    have e2 : want = 0 := eq_of_beq hb.2
    subst e1 e2
    rcases ret with _ | ret
    · exact W.vret hC.1 hC.2.1 hr (fun t ht _ => hQ t (by rw [ht]; exact hW) (hF t ht) (fun v hv => by cases hv)) hS.2.2 hd hlocks
    · cases hrt
  · cases hb : (want == 1)
    · rw [hb] at hK; cases hK
    rw [hb] at hK
    rw [cond_true] at hK
    have e2 : want = 1 := eq_of_beq hb
    subst e2
    split at hK
    · cases hK
      rcases ret with _ | ret
      · cases hrt
      · cases ret
        case int => exact W.iret hC.1 hC.2.1 hr (fun t ht _ => hQ t (by rw [ht]; exact hW) (hF t ht) (fun v hv => by cases hv; trivial)) hS.2.2 hd hlocks
        all_goals cases hrt
    · cases hb2 : nIsb x
      · rw [hb2] at hK; cases hK
      rw [hb2] at hK
      cases hK
      rcases ret with _ | ret
      · cases hrt
      · cases ret
        case boolean =>
          refine W.zret hC.1 hC.2.1 hr ?_ (fun t ht _ => hQ t (by rw [ht]; exact hW) (hF t ht) (fun v hv => by cases hv; trivial)) hS.2.2 hd hlocks
          unfold nIsb at hb2
          rw [Bool.or_eq_true, beq_iff_eq, beq_iff_eq] at hb2
          rcases hb2 with rfl | rfl <;> rfl
        all_goals cases hrt
    · cases hK
  · cases hb : (rt == 3 && want == 2)
    · rw [hb] at hK; cases hK
    rw [hb] at hK
    rw [Bool.and_eq_true] at hb
    cases hK
    have e1 : rt = 3 := eq_of_beq hb.1
    have e2 : want = 2 := eq_of_beq hb.2
    subst e1 e2
    rcases ret with _ | ret
    · cases hrt
    · cases ret
      case long => exact W.lret hC.1 hC.2.1 hr (fun t ht _ => hQ t (by rw [ht]; exact hW) (hF t ht) (fun v hv => by cases hv; trivial)) hS.2.2 hd hlocks
      all_goals cases hrt
  · cases hb : (rt == 4 && (want == 3 && Nat.blt 0 k))
    · rw [hb] at hK; cases hK
    rw [hb] at hK
    rw [Bool.and_eq_true, Bool.and_eq_true] at hb
    cases hK
    have e1 : rt = 4 := eq_of_beq hb.1
    have e2 : want = 3 := eq_of_beq hb.2.1
    subst e1 e2
    rcases ret with _ | ret
    · cases hrt
    · cases ret
      case object nm => exact W.aret hC.1 hC.2.1 hr (Or.inl ⟨nm, rfl⟩) (Or.inr ⟨_, rfl⟩) (fun t ht _ => hQ t (by rw [ht]; exact hW) (hF t ht) (fun v hv => by cases hv; exact okl_hd h2)) hS.2.2 hd hlocks
      case array nm => exact W.aret hC.1 hC.2.1 hr (Or.inr ⟨nm, rfl⟩) (Or.inr ⟨_, rfl⟩) (fun t ht _ => hQ t (by rw [ht]; exact hW) (hF t ht) (fun v hv => by cases hv; exact okl_hd h2)) hS.2.2 hd hlocks
      all_goals cases hrt
theorem Wf_run {h : Hd} {ret : Option FieldType} (hC : Ctx E X p R s m args meth c cc nL oC h.2.2.1) (hs0 : s.heap.size = E.1.1 + nT s0) (hR : d + 9 ≤ R.frames ∧ 64 * d + 576 ≤ R.locals) (hcal : Snd E X l d cal) (hmono : ∀ y a s v, cal y a s = some v → leM s v.2)
    (hown : h.2.1 = 0 ∨ oC = RC h.2.1) (htb : okTbl h cc oC = true) (hr : meth.sig.returnType = ret) (hrt : rtB h.2.2.2 ret = true) (hlocks : meth.locks = false) (hmc : nT r.2 ≤ nT s0 + R.cells ∧ nU r.2 ≤ nU s0 + R.slots)
    (hQ : ∀ t : State, WD E r.2 t.heap → va_F (aF E) s t → (∀ v, r.1 = some v → okV (nT r.2) v) → Qc args s (.returned (r.1.map (cV E))) t) : ∀ (n pc : Nat) (ls st : List AV) (σ : Mem), nRun X cal h n pc ls st σ = some r → Wf E nL s0 p l e R s m args below meth c (MQ below Qc args s (nT r.2 - nT s0) (nU r.2 - nU s0) (aF E)) pc ls st σ := by
  intro n
  induction n with
  | zero => intro pc ls st σ q; cases q
  | succ n ih =>
    intro pc ls st σ q
    rw [nRun_succ] at q
    unfold nStep at q
    rcases hl : nLk h.1 pc with _ | ent
    · rw [hl] at q; cases q
    rw [hl] at q
    dsimp only at q
    have hm := List.all_eq_true.mp htb _ (lk_mem _ _ hl)
    rw [Bool.and_eq_true] at hm
    obtain ⟨len, hd, hlen⟩ := okD_at hm.1
    refine sim_stepI hC hs0 hR hcal ?_ hd hlen hm.2 (fun want hd2 hp => sim_ret hC hr hrt hlocks hQ hd2 hp) q ih ?_
    · intro cn e1 e2
      rcases hown with h0 | h0
      · omega
      · rw [← e1]; exact h0
    · intro pc2 ls2 st2 σ2 q2
      have := MG_run hmono h n _ _ _ _ _ q2
      exact ⟨Nat.le_trans this.1 hmc.1, Nat.le_trans this.2 hmc.2⟩
end
theorem callN_mono (X : Nat × (Nat → Int32)) : ∀ (d y : Nat) (a : List AV) (s : Mem) (v : Res), callN X d y a s = some v → leM s v.2 := by
  intro d
  induction d with
  | zero => intro y a s v h; cases h
  | succ d ih =>
    intro y a s v h
    unfold callN at h
    rcases hm : mtL[y]? with _ | ⟨hh, ml⟩
    · rw [hm] at h; cases h
    rw [hm] at h
    dsimp only at h
    cases hb : Nat.ble (nLay a).length ml
    · rw [hb] at h; cases h
    rw [hb] at h
    exact MG_R ih hh h
theorem snd_callN (E : EnvT) (X : Nat × (Nat → Int32)) (l : Launch) : ∀ d : Nat, Snd E X l d (callN X d) := by
  intro d
  induction d with
  | zero => intro y av σ r h; cases h
  | succ d ih =>
    intro y av σ r h hok hA
    have hle := callN_mono X (d + 1) y av σ r h
    unfold callN at h
    rcases hm : mtL[y]? with _ | ⟨hh, ml⟩
    · rw [hm] at h; cases h
    rw [hm] at h
    dsimp only at h
    cases hb : Nat.ble (nLay av).length ml
    · rw [hb] at h; cases h
    rw [hb] at h
    rw [cond_true] at h
    obtain ⟨q, hq, hck⟩ := mt_md hm
    have hM := okM_at hq
    obtain ⟨y2, bc, ml2, ret, n, stt, xx⟩ := q
    obtain ⟨b1, b2, b3, b4, b5, b6, b7, b8⟩ := hM
    have hck : (okTbl hh bc y2.cls && (ml == ml2 && (decide (hh.2.1 = 0 ∨ y2.cls = RC hh.2.1) && ((!hh.2.2.1 || decide (y2.name = "<init>")) && rtB hh.2.2.2 ret)))) = true := hck
    rw [Bool.and_eq_true, Bool.and_eq_true, Bool.and_eq_true, Bool.and_eq_true, decide_eq_true_eq, Bool.or_eq_true, decide_eq_true_eq] at hck
    obtain ⟨k1, k2, k3, k4, k5⟩ := hck
    have k2 := eq_of_beq k2
    subst k2
    refine ⟨hle, _, hq, ?_⟩
    have hlen := Nat.ble_eq.mp hb
    obtain ⟨nn, hn⟩ := (nR_iff X (callN X d) hh).mp h
    refine met_in (ini := hh.2.2.1) (fun h9 => ?_) b1 (by rw [lay_len]; exact hlen) ?_
    · rcases k4 with k4 | k4
      · rw [h9] at k4; cases k4
      · exact k4
    · intro p e s m below meth c hC hr hlocks hW lsC hl
      have hz : s.heap.size = E.1.1 + nT σ := hW.2.1
      have h1 := Wf_run (s0 := σ) (below := below) (e := e) (Qc := QY E r) hC hz (d := d) ⟨Nat.le_of_eq (show d + 9 = d + 1 + 8 by omega), Nat.le_of_eq (show 64 * d + 576 = 64 * (d + 1) + 512 by omega)⟩ ih (callN_mono X d) k3 k1 hr k5 hlocks
        ⟨by show nT r.2 ≤ nT σ + (nT r.2 - nT σ); have := hle.1; omega, by show nU r.2 ≤ nU σ + (nU r.2 - nU σ); have := hle.2; omega⟩
        (fun t ht hF ho => ⟨⟨rfl, ht⟩, hF, ho⟩) nn 0 _ _ _ hn (pad_ok ml (lay_ok hok)) (fun v hv => by cases hv) ⟨Nat.le_refl _, Nat.le_refl _⟩ s.heap [] lsC hW (LH_start E hl) ⟨Nat.le_refl _, fun _ _ _ => rfl, fun _ h => by cases h⟩
      rw [Nat.sub_self, Nat.sub_self] at h1
      exact h1
