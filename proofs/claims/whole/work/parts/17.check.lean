/-! what is checked of the code's entries, and that one entry runs as the small machine's step -/
theorem clIns {c : Nat} (h : 1 ≤ c ∧ c ≤ 7) (h3 : c ≠ 0) : Cond.instantiable (RC c) (nNf c) ∈ gT := cases7 (P := fun c => Cond.instantiable (RC c) (nNf c) ∈ gT) (gT_in 176 (by decide +kernel) rfl) (gT_in 135 (by decide +kernel) rfl) (gT_in 224 (by decide +kernel) rfl) (gT_in 212 (by decide +kernel) rfl) (gT_in 95 (by decide +kernel) rfl) (gT_in 87 (by decide +kernel) rfl) (gT_in 770 (by decide +kernel) rfl) h
theorem clIni {c : Nat} (h : 1 ≤ c ∧ c ≤ 7) : Cond.initialized (RC c) ∈ gT := cases7 (P := fun c => Cond.initialized (RC c) ∈ gT) (gT_in 75 (by decide +kernel) rfl) (gT_in 74 (by decide +kernel) rfl) (gT_in 77 (by decide +kernel) rfl) (gT_in 76 (by decide +kernel) rfl) (gT_in 73 (by decide +kernel) rfl) (gT_in 72 (by decide +kernel) rfl) (gT_in 83 (by decide +kernel) rfl) h
theorem arI : Cond.arrayClass .int ∈ gT := gT_in 133 (by decide +kernel) rfl
theorem arZ : Cond.arrayClass .boolean ∈ gT := gT_in 926 (by decide +kernel) rfl
def lkB (i : Nat) (w : Cond) : Bool := decide (lw_tbl[i]? = some w) && goodWord w
theorem lkB_in {i : Nat} {w : Cond} (h : lkB i w = true) : w ∈ gT := by
  unfold lkB at h
  rw [Bool.and_eq_true, decide_eq_true_eq] at h
  exact gT_in i h.1 h.2
def isSw : Instr → Bool
  | .tableswitch _ _ _ _ => true
  | .lookupswitch _ _ => true
  | _ => false
def nLen : Instr → Nat
  | .bipush _ => 2 | .ldc _ => 2 | .iload _ => 2 | .lload _ => 2 | .aload _ => 2 | .istore _ => 2 | .lstore _ => 2 | .astore _ => 2 | .newarray _ => 2
  | .sipush _ => 3 | .ldc_w _ => 3 | .ldc2_w _ => 3 | .iinc _ _ => 3 | .goto _ => 3 | .ifCond _ _ => 3 | .if_icmp _ _ => 3 | .getfield _ => 3 | .putfield _ => 3 | .new _ => 3 | .anewarray _ => 3 | .invokevirtual _ => 3 | .invokespecial _ => 3 | .invokestatic _ => 3
  | _ => 1
/-- the code has this entry at this place -/
def okD (cc : ByteArray) (pe : Nat × En) : Bool := match decode cc pe.1 with
  | .ok (i, n) => decide (i = pe.2.1) && (isSw i || n == nLen i)
  | _ => false
theorem okD_at {cc : ByteArray} {pc : Nat} {e : En} (h : okD cc (pc, e) = true) : ∃ n, decode cc pc = .ok (e.1, n) ∧ (isSw e.1 = false → n = nLen e.1) := by
  unfold okD at h
  dsimp only at h
  rcases hd : decode cc pc with x | ⟨i, n⟩
  · rw [hd] at h; cases h
  · rw [hd] at h
    dsimp only at h
    rw [Bool.and_eq_true, decide_eq_true_eq, Bool.or_eq_true] at h
    obtain ⟨rfl, h2⟩ := h
    refine ⟨n, rfl, fun h3 => ?_⟩
    rcases h2 with h2 | h2
    · rw [h3] at h2; cases h2
    · exact eq_of_beq h2
def okCallB (oC : String) (i : Nat) (a : List Nat) (kind : Nat) : Bool := match mdL[nAx a 1]? with
  | none => false
  | some q => decide (nAx a 2 = q.2.2.2.2.1) && (lkB (nAx a 4) (.methodLink oC i q.1) || decide (Cond.methodLinkNest oC i q.1 RX6 ∈ nestL)) && (match kind with
    | 0 => decide (nAx a 3 ≠ 0) && (!q.2.2.2.2.2.1 && (decide (q.1.name ≠ "<init>") && (decide (q.1.cls = RC (nAx a 3)) && lkB (nAx a 4) (.methodLink oC i q.1))))
    | 1 => decide (nAx a 3 ≠ 0) && (!q.2.2.2.2.2.1 && (decide (q.1.name = "<init>") && q.2.2.2.1.isNone))
    | _ => q.2.2.2.2.2.1)
theorem okCall_of {oC : String} {i : Nat} {a : List Nat} {kind : Nat} (h : okCallB oC i a kind = true) : okCall oC i a kind := by
  unfold okCallB at h
  rcases hq : mdL[nAx a 1]? with _ | q
  · rw [hq] at h; cases h
  · rw [hq] at h
    dsimp only at h
    rw [Bool.and_eq_true, Bool.and_eq_true, decide_eq_true_eq, Bool.or_eq_true, decide_eq_true_eq] at h
    obtain ⟨⟨h1, h2⟩, h3⟩ := h
    refine ⟨q, hq, h1, ?_, ?_⟩
    · rcases h2 with h2 | h2
      · exact Or.inl (lkB_in h2)
      · exact Or.inr h2
    · rcases kind with _ | _ | k
      · simp only [Bool.and_eq_true, decide_eq_true_eq, Bool.not_eq_true'] at h3
        exact ⟨h3.1, h3.2.1, h3.2.2.1, h3.2.2.2.1, lkB_in h3.2.2.2.2⟩
      · simp only [Bool.and_eq_true, decide_eq_true_eq, Bool.not_eq_true', Option.isNone_iff_eq_none] at h3
        exact ⟨h3.1, h3.2.1, h3.2.2.1, h3.2.2.2⟩
      · exact h3
def tbOk (pc : Nat) : Int → List Int → List (Int32 × Nat) → Bool
  | _, [], [] => true
  | lo, o :: os, (v, t) :: sw => decide (v.toInt = lo) && (decide ((pc : Int) + o = (t : Int)) && tbOk pc (lo + 1) os sw)
  | _, _, _ => false
def lkOk (pc : Nat) : List (Int × Int) → List (Int32 × Nat) → Bool
  | [], [] => true
  | (a, o) :: os, (v, t) :: sw => decide (v.toInt = a) && (decide ((pc : Int) + o = (t : Int)) && lkOk pc os sw)
  | _, _ => false
theorem sw_tb {K : Nat → Option Res} {r : Res} {dflt pc : Nat} {x : Int32} : ∀ (os : List Int) (lo : Int) (sw : List (Int32 × Nat)), tbOk pc lo os sw = true → nSw K dflt x sw = some r →
    (∃ (off : Int) (tgt : Nat), os[(x.toInt - lo).toNat]? = some off ∧ ¬ x.toInt < lo ∧ x.toInt < lo + os.length ∧ (pc : Int) + off = (tgt : Int) ∧ K tgt = some r) ∨ ((x.toInt < lo ∨ lo + os.length ≤ x.toInt) ∧ K dflt = some r)
  | [], lo, [], _, h2 => by
    rw [nSw] at h2
    refine Or.inr ⟨?_, h2⟩
    rw [List.length_nil]
    omega
  | [], lo, _ :: _, h1, _ => by cases h1
  | _ :: _, lo, [], h1, _ => by cases h1
  | o :: os, lo, (v, t) :: sw, h1, h2 => by
    rw [tbOk, Bool.and_eq_true, Bool.and_eq_true, decide_eq_true_eq, decide_eq_true_eq] at h1
    obtain ⟨h1, h3, h4⟩ := h1
    rw [nSw] at h2
    rw [List.length_cons]
    by_cases hx : x = v
    · rw [if_pos hx] at h2
      refine Or.inl ⟨o, t, ?_, by rw [hx]; omega, by rw [hx]; omega, h3, h2⟩
      rw [hx, h1]
      simp
    · rw [if_neg hx] at h2
      have hne : x.toInt ≠ lo := fun q => hx (Int32.toInt_inj.mp (q.trans h1.symm))
      rcases sw_tb os (lo + 1) sw h4 h2 with ⟨off, tgt, a1, a2, a3, a4, a5⟩ | ⟨a1, a2⟩
      · refine Or.inl ⟨off, tgt, ?_, by omega, by omega, a4, a5⟩
        have : (x.toInt - lo).toNat = (x.toInt - (lo + 1)).toNat + 1 := by omega
        rw [this, List.getElem?_cons_succ]
        exact a1
      · exact Or.inr ⟨by omega, a2⟩
theorem sw_lk {K : Nat → Option Res} {r : Res} {dflt pc : Nat} {d : Int} {x : Int32} (hd : (pc : Int) + d = (dflt : Int)) : ∀ (os : List (Int × Int)) (sw : List (Int32 × Nat)), lkOk pc os sw = true → nSw K dflt x sw = some r →
    ∃ (tgt : Nat), (pc : Int) + Op.lookupswitch.offset os d x.toInt = (tgt : Int) ∧ K tgt = some r
  | [], [], _, h2 => ⟨dflt, hd, h2⟩
  | [], _ :: _, h1, _ => by cases h1
  | _ :: _, [], h1, _ => by cases h1
  | (a, o) :: os, (v, t) :: sw, h1, h2 => by
    rw [lkOk, Bool.and_eq_true, Bool.and_eq_true, decide_eq_true_eq, decide_eq_true_eq] at h1
    obtain ⟨h1, h3, h4⟩ := h1
    rw [nSw] at h2
    rw [Op.lookupswitch.offset_cons]
    by_cases hx : x = v
    · rw [if_pos hx] at h2
      rw [if_pos (by rw [hx]; exact h1.symm)]
      exact ⟨t, h3, h2⟩
    · rw [if_neg hx] at h2
      rw [if_neg (fun q => hx (Int32.toInt_inj.mp (q.symm.trans h1.symm)))]
      exact sw_lk hd os sw h4 h2
def okI (oC : String) (pc : Nat) (e : En) : Bool := match e with
  | (ins, a, c, cL, sw) => match ins with
    | .iconst n => decide (Int32.ofInt n = c)
    | .bipush n => decide ((Int8.ofInt n).toInt32 = c)
    | .sipush n => decide ((Int16.ofInt n).toInt32 = c)
    | .ldc i => (match nAx a 0 with
      | 1 => lkB (nAx a 1) (.constant oC i c)
      | _ => (match strO[nAx a 1]? with
        | some q => decide (q.1 = oC ∧ q.2.1 = i)
        | none => false))
    | .ldc_w i => lkB (nAx a 1) (.constant oC i c)
    | .lconst n => decide (Int64.ofNat (n : Nat) = cL)
    | .ldc2_w i => lkB (nAx a 0) (.constantLong oC i cL)
    | .iload_n k => decide ((k : Nat) = nAx a 0)
    | .iload i => decide (i = nAx a 0)
    | .lload_n k => decide ((k : Nat) = nAx a 0)
    | .lload i => decide (i = nAx a 0)
    | .aload_n k => decide ((k : Nat) = nAx a 0)
    | .aload i => decide (i = nAx a 0)
    | .istore_n k => decide ((k : Nat) = nAx a 0)
    | .istore i => decide (i = nAx a 0)
    | .lstore i => decide (i = nAx a 0)
    | .astore_n k => decide ((k : Nat) = nAx a 0)
    | .astore i => decide (i = nAx a 0)
    | .iinc i n => decide (i = nAx a 0 ∧ Int32.ofInt n = c)
    | .goto o => decide ((pc : Int) + o = (nAx a 0 : Int))
    | .ifCond _ o => decide ((pc : Int) + o = (nAx a 0 : Int))
    | .if_icmp _ o => decide ((pc : Int) + o = (nAx a 0 : Int))
    | .tableswitch d lo hi os => decide ((pc : Int) + d = (nAx a 0 : Int)) && (decide (hi + 1 = lo + os.toList.length) && tbOk pc lo os.toList sw)
    | .lookupswitch d os => decide ((pc : Int) + d = (nAx a 0 : Int)) && ((os.toList.zip (os.toList.drop 1)).all (fun (a, next) => a.1 < next.1) && lkOk pc os.toList sw)
    | .getfield i => lkB (nAx a 2) (.fieldLink oC i (TC (nAx a 0) (nAx a 1)).1 (TC (nAx a 0) (nAx a 1)).2.1 (TC (nAx a 0) (nAx a 1)).2.2.1)
    | .putfield i => lkB (nAx a 2) (.fieldLink oC i (TC (nAx a 0) (nAx a 1)).1 (TC (nAx a 0) (nAx a 1)).2.1 (TC (nAx a 0) (nAx a 1)).2.2.1)
    | .new i => lkB (nAx a 1) (.classLink oC i (RC (nAx a 0))) && (Nat.ble 1 (nAx a 0) && Nat.ble (nAx a 0) 7)
    | .newarray t => decide ((t = .int ∧ nAx a 0 = 1) ∨ (t = .boolean ∧ nAx a 0 = 2))
    | .anewarray i => lkB (nAx a 1) (.classLink oC i (RC (nAx a 0)))
    | .invokevirtual i => (match nAx a 0 with
      | 0 => okCallB oC i a 0
      | _ => lkB (nAx a 2) (.methodLink oC i (hNm (nAx a 1))) && decide (nAx a 1 = 6 ∨ nAx a 1 = 7))
    | .invokespecial i => (match nAx a 0 with
      | 0 => okCallB oC i a 1
      | _ => lkB (nAx a 2) (.methodLink oC i (hNm (nAx a 1))) && decide (nAx a 1 = 5))
    | .invokestatic i => (match nAx a 0 with
      | 0 => okCallB oC i a 2
      | _ => lkB (nAx a 2) (.methodLink oC i (hNm (nAx a 1))) && decide (1 ≤ nAx a 1 ∧ nAx a 1 ≤ 4))
    | _ => true
def rIns (want : Nat) : Instr := match want with
  | 0 => .return_ | 1 => .ireturn | 2 => .lreturn | _ => .areturn
section
variable {E : EnvT} {X : Nat × (Nat → Int32)} {nL : Nat} {s0 : Mem} {p : Program} {l : Launch} {e : Env} {R : Room} {s : State} {m : MethodId} {args : Array Value} {below : List Frame} {meth : Method} {c : Code} {Q : State → Prop} {cc : ByteArray} {oC : String} {ini : Bool} {pc : Nat} {ls st : List AV} {σ : Mem} {K : Kon} {r : Res} {d : Nat} {cal : Cal} {own : Nat}
theorem nc0 {v : AV} {b : Option Res} (hK : cond (nIsL v) none b = some r) : nIsL v = false ∧ b = some r := by
  cases h : nIsL v
  · rw [h] at hK; exact ⟨rfl, hK⟩
  · rw [h] at hK; cases hK
theorem sim_stepI {rt n : Nat} {ent : En} (hC : Ctx E X p R s m args meth c cc nL oC ini) (hs0 : s.heap.size = E.1.1 + nT s0) (hR : d + 9 ≤ R.frames ∧ 64 * d + 576 ≤ R.locals) (hcal : Snd E X l d cal) (hown : ∀ cn, own = cn → 1 ≤ cn → oC = RC cn)
    (hd : decode cc pc = .ok (ent.1, n)) (hlen : isSw ent.1 = false → n = nLen ent.1) (hok : okI oC pc ent = true) (hret : ∀ want, decode cc pc = .ok (rIns want, 1) → pRet rt want st σ = some r → Wf E nL s0 p l e R s m args below meth c Q pc ls st σ)
    (hK : nStepI X cal own ini rt ent pc ls st σ K = some r) (hk : ∀ pc ls st σ', K pc ls st σ' = some r → Wf E nL s0 p l e R s m args below meth c Q pc ls st σ') (hfin : ∀ pc ls st σ', K pc ls st σ' = some r → nT σ' ≤ nT s0 + R.cells ∧ nU σ' ≤ nU s0 + R.slots) : Wf E nL s0 p l e R s m args below meth c Q pc ls st σ := by
  obtain ⟨ins, a, cI, cL, sw⟩ := ent
  dsimp only at hd hlen
  have g1 := hC.1
  have g2 := hC.2.1
  have gown := hC.2.2.2.1
  have gw := hC.2.2.2.2.1
  cases ins
  all_goals try (cases hK; done)
  all_goals try (cases hlen rfl)
  all_goals dsimp only [okI] at hok
  case iconst n => exact sim_push (v := vI cI) trivial (fun _ q => lv_iconst g1 g2 hd (of_decide_eq_true hok) q) (hk _ _ _ _ hK)
  case bipush n => exact sim_push (v := vI cI) trivial (fun _ q => lv_bipush g1 g2 hd (of_decide_eq_true hok) q) (hk _ _ _ _ hK)
  case sipush n => exact sim_push (v := vI cI) trivial (fun _ q => lv_sipush g1 g2 hd (of_decide_eq_true hok) q) (hk _ _ _ _ hK)
  case ldc i =>
    dsimp only [nStepI] at hK
    rcases h0 : nAx a 0 with _ | _ | k
    · rw [h0] at hok hK
      try dsimp only at hok
      try dsimp only at hK
      rcases hq : strO[nAx a 1]? with _ | q
      · rw [hq] at hok; cases hok
      · rw [hq] at hok
        have hok := of_decide_eq_true hok
        have hlt : nAx a 1 < 13 := (List.getElem?_eq_some_iff.mp hq).1
        have hR2 := hC.2.2.2.2.2.1.2.2.2.1 _ _ hq
        rw [hok.1, hok.2] at hR2
        exact sim_push (v := vR 1 (nAx a 1)) (Or.inr (Or.inl ⟨rfl, hlt⟩)) (fun _ q2 => va_ldcS g1 g2 gown hR2 hd q2) (hk _ _ _ _ hK)
    · rw [h0] at hok hK
      exact sim_push (v := vI cI) trivial (fun _ q => lv_ldc g1 g2 gown (gw _ (lkB_in hok)) hd q) (hk _ _ _ _ hK)
    · rw [h0] at hok hK
      try dsimp only at hok
      try dsimp only at hK
      rcases hq : strO[nAx a 1]? with _ | q
      · rw [hq] at hok; cases hok
      · rw [hq] at hok
        have hok := of_decide_eq_true hok
        have hlt : nAx a 1 < 13 := (List.getElem?_eq_some_iff.mp hq).1
        have hR2 := hC.2.2.2.2.2.1.2.2.2.1 _ _ hq
        rw [hok.1, hok.2] at hR2
        exact sim_push (v := vR 1 (nAx a 1)) (Or.inr (Or.inl ⟨rfl, hlt⟩)) (fun _ q2 => va_ldcS g1 g2 gown hR2 hd q2) (hk _ _ _ _ hK)
  case ldc_w i => exact sim_push (v := vI cI) trivial (fun _ q => lv_ldcw g1 g2 gown (gw _ (lkB_in hok)) hd q) (hk _ _ _ _ hK)
  case lconst n => exact sim_push (v := vL cL) trivial (fun _ q => lv_lconst g1 g2 hd (of_decide_eq_true hok) q) (hk _ _ _ _ hK)
  case ldc2_w i => exact sim_push (v := vL cL) trivial (fun _ q => lv_ldc2 g1 g2 gown (gw _ (lkB_in hok)) hd q) (hk _ _ _ _ hK)
  case iload_n k => exact sim_load (want := 0) (len := 1) (i := nAx a 0) hC (fun _ => fun h q => lv_iload_n g1 g2 hd (of_decide_eq_true hok) h q) (fun h => by cases h) (fun h => by cases h) hK hk
  case iload k =>
    have hok := of_decide_eq_true hok
    subst hok
    exact sim_load (want := 0) (len := 2) (i := nAx a 0) hC (fun _ => fun h q => lv_iload g1 g2 hd h q) (fun h => by cases h) (fun h => by cases h) hK hk
  case lload_n k => exact sim_load (want := 1) (len := 1) (i := nAx a 0) hC (fun h => by cases h) (fun _ => fun h q => lv_lload_n g1 g2 hd (of_decide_eq_true hok) h q) (fun h => by cases h) hK hk
  case lload k =>
    have hok := of_decide_eq_true hok
    subst hok
    exact sim_load (want := 1) (len := 2) (i := nAx a 0) hC (fun h => by cases h) (fun _ => fun h q => lv_lload g1 g2 hd h q) (fun h => by cases h) hK hk
  case aload_n k => exact sim_load (want := 2) (len := 1) (i := nAx a 0) hC (fun h => by cases h) (fun h => by cases h) (fun _ => fun h q => lv_aload_n g1 g2 hd (of_decide_eq_true hok) h q) hK hk
  case aload k =>
    have hok := of_decide_eq_true hok
    subst hok
    exact sim_load (want := 2) (len := 2) (i := nAx a 0) hC (fun h => by cases h) (fun h => by cases h) (fun _ => fun h q => lv_aload g1 g2 hd h q) hK hk
  case istore_n k => exact sim_store (want := 0) (len := 1) (i := nAx a 0) (fun _ => fun h hn q => lv_istore_n g1 g2 hd (of_decide_eq_true hok) h hn rfl q) (fun h => by cases h) (fun h => by cases h) hK hk
  case istore k =>
    have hok := of_decide_eq_true hok
    subst hok
    exact sim_store (want := 0) (len := 2) (i := nAx a 0) (fun _ => fun h hn q => lv_istore g1 g2 hd h hn rfl q) (fun h => by cases h) (fun h => by cases h) hK hk
  case lstore k =>
    have hok := of_decide_eq_true hok
    subst hok
    exact sim_store (want := 1) (len := 2) (i := nAx a 0) (fun h => by cases h) (fun _ => fun h hn q => lv_lstore g1 g2 hd h hn rfl q) (fun h => by cases h) hK hk
  case astore_n k => exact sim_store (want := 2) (len := 1) (i := nAx a 0) (fun h => by cases h) (fun h => by cases h) (fun _ => fun h hn q => lv_astore_n g1 g2 hd (of_decide_eq_true hok) h hn rfl q) hK hk
  case astore k =>
    have hok := of_decide_eq_true hok
    subst hok
    exact sim_store (want := 2) (len := 2) (i := nAx a 0) (fun h => by cases h) (fun h => by cases h) (fun _ => fun h hn q => lv_astore g1 g2 hd h hn rfl q) hK hk
  case iinc k nn =>
    have hok := of_decide_eq_true hok
    obtain ⟨rfl, rfl⟩ := hok
    dsimp only [nStepI] at hK
    rcases hg : nGt ls (nAx a 0) with x | x | ⟨k2, j2⟩
    · rw [hg] at hK
      dsimp only at hK
      cases hlt : Nat.blt (nAx a 0) ls.length
      · rw [hlt] at hK; cases hK
      · rw [hlt] at hK
        cases hb : nLbf ls (nAx a 0)
        · rw [hb] at hK
          intro h1 h2 h3 H locs lsC hW hL hS
          obtain ⟨kk, hkk⟩ := hL.mem hg rfl
          exact lv_iinc g1 g2 hd hL.1 hkk rfl (by rw [← hL.2]; exact Nat.blt_eq.mp hlt) rfl (fun ls' h' => hk _ _ _ _ hK (okl_pt h1 trivial) h2 h3 H locs ls' hW (LH.put1 hL.2 hb rfl h') hS)
        · rw [hb] at hK; cases hK
    · rw [hg] at hK; cases hK
    · rw [hg] at hK; cases hK
  case iadd => exact sim_i2 (fun _ _ q => lv_iadd g1 g2 hd q) hK hk
  case isub => exact sim_i2 (fun _ _ q => lv_isub g1 g2 hd q) hK hk
  case imul => exact sim_i2 (fun _ _ q => lv_imul g1 g2 hd q) hK hk
  case iand => exact sim_i2 (fun _ _ q => lv_iand g1 g2 hd q) hK hk
  case ior => exact sim_i2 (fun _ _ q => lv_ior g1 g2 hd q) hK hk
  case ishl => exact sim_i2 (fun _ _ q => lv_ishl g1 g2 hd q) hK hk
  case ishr => exact sim_i2 (fun _ _ q => lv_ishr g1 g2 hd q) hK hk
  case iushr => exact sim_i2 (fun _ _ q => lv_iushr g1 g2 hd rfl q) hK hk
  case idiv => exact sim_d2 (fun _ _ h q => lv_idiv g1 g2 hd h q) hK hk
  case irem => exact sim_d2 (fun _ _ h q => lv_irem g1 g2 hd h q) hK hk
  case ineg => exact sim_i1 (f := fun x => vI (-x)) (fun _ => trivial) (fun _ q => lv_ineg g1 g2 hd q) hK hk
  case i2l => exact sim_i1 (f := fun x => vL x.toInt64) (fun _ => trivial) (fun _ q => lv_i2l g1 g2 hd rfl q) hK hk
  case i2b => exact sim_i1 (f := fun x => vI x.toInt8.toInt32) (fun _ => trivial) (fun _ q => lv_i2b g1 g2 hd rfl q) hK hk
  case i2s => exact sim_i1 (f := fun x => vI x.toInt16.toInt32) (fun _ => trivial) (fun _ q => lv_i2s g1 g2 hd rfl q) hK hk
  case l2i =>
    rcases st with _ | ⟨x | x | ⟨k, j⟩, rr⟩
    all_goals try (cases hK; done)
    intro h1 h2 h3 H locs lsC hW hL hS
    exact lv_l2i g1 g2 hd rfl (hk _ _ _ _ hK h1 (okl_cons trivial (okl_tl h2)) h3 H locs lsC hW hL hS)
  case ladd => exact sim_l2 (f := fun x y => vL (x + y)) (fun _ _ => trivial) (fun _ _ q => lv_ladd g1 g2 hd q) hK hk
  case lsub => exact sim_l2 (f := fun x y => vL (x - y)) (fun _ _ => trivial) (fun _ _ q => lv_lsub g1 g2 hd q) hK hk
  case lmul => exact sim_l2 (f := fun x y => vL (x * y)) (fun _ _ => trivial) (fun _ _ q => lv_lmul g1 g2 hd q) hK hk
  case lcmp => exact sim_l2 (f := fun x y => vI (nLcmp x y)) (fun _ _ => trivial) (fun _ _ q => W.lcmp g1 g2 hd q) hK hk
  case ldiv => exact sim_ld (fun _ _ h q => lv_ldiv g1 g2 hd h q) hK hk
  case lrem => exact sim_ld (fun _ _ h q => lv_lrem g1 g2 hd h q) hK hk
  case dup =>
    rcases st with _ | ⟨v, rr⟩
    · cases hK
    dsimp only [nStepI] at hK
    obtain ⟨hv, hK⟩ := nc0 hK
    intro h1 h2 h3 H locs lsC hW hL hS
    exact lv_dup g1 g2 hd (cat_of E hv) (hk _ _ _ _ hK h1 (okl_cons (okl_hd h2) h2) h3 H locs lsC hW hL hS)
  case dup2 =>
    rcases st with _ | ⟨v, _ | ⟨w, rr⟩⟩
    · cases hK
    · cases hK
    dsimp only [nStepI] at hK
    cases hv : nIsL v
    · cases hw : nIsL w
      · rw [hv, hw] at hK
        intro h1 h2 h3 H locs lsC hW hL hS
        exact lv_dup2_11 g1 g2 hd (cat_of E hv) (cat_of E hw) (hk _ _ _ _ hK h1 (okl_cons (okl_hd h2) (okl_cons (okl_hd (okl_tl h2)) h2)) h3 H locs lsC hW hL hS)
      · rw [hv, hw] at hK; cases hK
    · rw [hv] at hK; cases hK
  case pop =>
    rcases st with _ | ⟨v, rr⟩
    · cases hK
    dsimp only [nStepI] at hK
    obtain ⟨hv, hK⟩ := nc0 hK
    intro h1 h2 h3 H locs lsC hW hL hS
    exact lv_pop g1 g2 hd (cat_of E hv) (hk _ _ _ _ hK h1 (okl_tl h2) h3 H locs lsC hW hL hS)
  case goto o =>
    intro h1 h2 h3 H locs lsC hW hL hS
    exact lv_goto g1 g2 hd (of_decide_eq_true hok) (hk _ _ _ _ hK h1 h2 h3 H locs lsC hW hL hS)
  case ifCond q o => exact sim_if hC hd (of_decide_eq_true hok) hK hk
  case if_icmp q o => exact sim_cmp hC hd (of_decide_eq_true hok) hK hk
  case tableswitch df lo hi os =>
    rw [Bool.and_eq_true, Bool.and_eq_true, decide_eq_true_eq, decide_eq_true_eq] at hok
    obtain ⟨o1, o2, o3⟩ := hok
    rcases st with _ | ⟨x | x | ⟨k, j⟩, rr⟩
    all_goals try (cases hK; done)
    dsimp only [nStepI] at hK
    intro h1 h2 h3 H locs lsC hW hL hS
    rcases sw_tb _ _ _ o3 hK with ⟨off, tgt, a1, a2, a3, a4, a5⟩ | ⟨a1, a2⟩
    · exact lv_tableIn g1 g2 hd a2 (by omega) (by rw [← Array.getElem?_toList]; exact a1) a4 (hk _ _ _ _ a5 h1 (okl_tl h2) h3 H locs lsC hW hL hS)
    · exact lv_tableOut g1 g2 hd (by omega) o1 (hk _ _ _ _ a2 h1 (okl_tl h2) h3 H locs lsC hW hL hS)
  case lookupswitch df os =>
    rw [Bool.and_eq_true, Bool.and_eq_true, decide_eq_true_eq] at hok
    obtain ⟨o1, o2, o3⟩ := hok
    rcases st with _ | ⟨x | x | ⟨k, j⟩, rr⟩
    all_goals try (cases hK; done)
    dsimp only [nStepI] at hK
    intro h1 h2 h3 H locs lsC hW hL hS
    obtain ⟨tgt, a1, a2⟩ := sw_lk o1 _ _ o3 hK
    exact lv_lookup g1 g2 hd o2 rfl a1 (hk _ _ _ _ a2 h1 (okl_tl h2) h3 H locs lsC hW hL hS)
  case getfield i => exact sim_get hC hd (lkB_in hok) hK hk
  case putfield i => exact sim_put hC hs0 (hown _) hd (lkB_in hok) hK hk
  case iaload => exact sim_iald hC hd hK hk
  case iastore => exact sim_iast hC hs0 hd hK hk
  case baload => exact sim_zald hC hd hK hk
  case bastore => exact sim_zast hC hs0 hd hK hk
  case aaload => exact sim_aald hC hd hK hk
  case aastore => exact sim_aast hC hs0 hd hK hk
  case arraylength => exact sim_len hC hd hK hk
  case new i =>
    rw [Bool.and_eq_true, Bool.and_eq_true] at hok
    have hb : 1 ≤ nAx a 0 ∧ nAx a 0 ≤ 7 := ⟨Nat.ble_eq.mp hok.2.1, Nat.ble_eq.mp hok.2.2⟩
    exact sim_new hC hs0 hd (lkB_in hok.1) (clIns hb (by omega)) (clIni hb) hK hk hfin
  case newarray t =>
    rcases of_decide_eq_true hok with ⟨rfl, h0⟩ | ⟨rfl, h0⟩
    · dsimp only [nStepI] at hK
      rw [h0] at hK
      exact sim_newI (x := 0) (rr := []) hC hs0 hd arI hK hk hfin
    · dsimp only [nStepI] at hK
      rw [h0] at hK
      exact sim_newZ hC hs0 hd arZ hK hk hfin
  case anewarray i => exact sim_newA hC hs0 hd (lkB_in hok) hK hk hfin
  case invokevirtual i =>
    dsimp only [nStepI] at hK
    rcases h0 : nAx a 0 with _ | k
    · rw [h0] at hok hK
      exact sim_callV hC hs0 hR hcal hd (okCall_of hok) hK hk hfin
    · rw [h0] at hok hK
      have hok : (lkB (nAx a 2) (.methodLink oC i (hNm (nAx a 1))) && decide (nAx a 1 = 6 ∨ nAx a 1 = 7)) = true := hok
      rw [Bool.and_eq_true, decide_eq_true_eq] at hok
      exact sim_hostV hC hR hd (lkB_in hok.1) hok.2 hK hk hfin
  case invokespecial i =>
    dsimp only [nStepI] at hK
    rcases h0 : nAx a 0 with _ | k
    · rw [h0] at hok hK
      exact sim_callI hC hs0 hR hcal hd (okCall_of hok) hK hk hfin
    · rw [h0] at hok hK
      have hok : (lkB (nAx a 2) (.methodLink oC i (hNm (nAx a 1))) && decide (nAx a 1 = 5)) = true := hok
      rw [Bool.and_eq_true, decide_eq_true_eq] at hok
      exact sim_hostI hC hR hd (lkB_in hok.1) hok.2 hK hk
  case invokestatic i =>
    dsimp only [nStepI] at hK
    rcases h0 : nAx a 0 with _ | k
    · rw [h0] at hok hK
      exact sim_callS hC hs0 hR hcal hd (okCall_of hok) hK hk hfin
    · rw [h0] at hok hK
      have hok : (lkB (nAx a 2) (.methodLink oC i (hNm (nAx a 1))) && decide (1 ≤ nAx a 1 ∧ nAx a 1 ≤ 4)) = true := hok
      rw [Bool.and_eq_true, decide_eq_true_eq] at hok
      exact sim_hostS hC hs0 hR hd (lkB_in hok.1) hok.2 hK hk hfin
  case ireturn => exact hret 1 hd hK
  case lreturn => exact hret 2 hd hK
  case areturn => exact hret 3 hd hK
  case return_ => exact hret 0 hd hK
end
