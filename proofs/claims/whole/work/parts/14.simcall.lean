theorem csum_eq (E : EnvT) : ∀ st : List AV, ((st.map (cV E)).map (fun v => v.category)).sum = nCsum st
  | [] => rfl
  | v :: l => by
    rw [List.map_cons, List.map_cons, List.sum_cons, csum_eq E l]
    have : (cV E v).category = nCat v := by
      rcases v with x | x | ⟨k, i⟩ <;> rfl
    rw [this]
    rfl
def rmD (d mc ms : Nat) : Room := { frames := d + 8, cells := mc, slots := ms, locals := 64 * d + 512 }
set_option maxRecDepth 20000 in
theorem room_le {ml d L : Nat} (h8 : ml ≤ 40) (h : 64 * d + 576 ≤ L) : 8 + (ml + 11) + (64 * d + 512) ≤ L := by omega
def QY (E : EnvT) (r : Res) : Array Value → State → Outcome → State → Prop := fun _ st o t => (o = .returned (r.1.map (cV E)) ∧ WD E r.2 t.heap) ∧ va_F (aF E) st t ∧ ∀ v, r.1 = some v → okV (nT r.2) v
def MetY (E : EnvT) (X : Nat × (Nat → Int32)) (l : Launch) (d : Nat) (q : MD) (av : List AV) (σ : Mem) (r : Res) : Prop :=
  Met l q.1 (Cond.code q.1 q.2.1 q.2.2.1 q.2.2.2.1 :: gT) (rmD d (nT r.2 - nT σ) (nU r.2 - nU σ)) (va_Pc (av.map (cV E)) (fun U => WD E σ U.heap ∧ KF E X U)) (QY E r) (nT r.2 - nT σ) (nU r.2 - nU σ) (aF E)
/-- what is known of the own methods at one depth -/
def Snd (E : EnvT) (X : Nat × (Nat → Int32)) (l : Launch) (d : Nat) (cal : Cal) : Prop := ∀ (y : Nat) (av : List AV) (σ : Mem) (r : Res), cal y av σ = some r → (∀ v ∈ av, okV (nT σ) v) → wfA σ.2.2 →
  (nT σ ≤ nT r.2 ∧ nU σ ≤ nU r.2) ∧ ∃ q, mdL[y]? = some q ∧ MetY E X l d q av σ r
section
variable {E : EnvT} {X : Nat × (Nat → Int32)} {nL : Nat} {s0 : Mem} {p : Program} {l : Launch} {e : Env} {R : Room} {s : State} {m : MethodId} {args : Array Value} {below : List Frame} {meth : Method} {c : Code} {Q : State → Prop} {cc : ByteArray} {oC : String} {ini : Bool} {pc : Nat} {ls st : List AV} {σ : Mem} {K : Kon} {r : Res} {d : Nat} {cal : Cal}
theorem fin_call {rr : Res} {rest : List AV} {st0 : List Value} {H : Heap} {locs : List Loc} {lsC : Array Slot} {As : Array Value} (hs0 : s.heap.size = E.1.1 + nT s0) (hle : nT σ ≤ nT rr.2 ∧ nU σ ≤ nU rr.2) (hL : LH E nL lsC ls) (hS : va_S (aF E) s.heap H locs)
    (h1 : ∀ v ∈ ls, okV (nT σ) v) (h2 : ∀ v ∈ rest, okV (nT σ) v) (h3 : nT s0 ≤ nT σ ∧ nU s0 ≤ nU σ) (hk : Wf E nL s0 p l e R s m args below meth c Q (pc + 3) ls (rr.1.toList ++ rest) rr.2)
    (hr : va_Run p l e R s m args below meth c H locs (nT σ - nT s0) (nU σ - nU s0) (nT rr.2 - nT σ) (nU rr.2 - nU σ) (F0 m pc lsC st0) (rest.map (cV E)) (QY E rr As) (aF E)) :
    W p l e R s m args below meth c H locs (nT σ - nT s0) (nU σ - nU s0) Q (F0 m pc lsC st0) := by
  refine W_run hr ?_
  intro v st1 t L h0 hq hLL
  obtain ⟨⟨hq1, hWt⟩, hF, hrv⟩ := hq
  have hq1 := Outcome.returned.inj hq1
  rw [hq1]
  have hst : (rr.1.map (cV E)).toList ++ rest.map (cV E) = (rr.1.toList ++ rest).map (cV E) := by
    cases rr.1 <;> simp
  rw [hst]
  have hS2 : va_S (aF E) s.heap t.heap (locs ++ L) := by
    obtain ⟨f1, f2⟩ := hF
    rw [h0] at f1 f2
    refine ⟨Nat.le_trans hS.1 f1, fun q q1 q2 => ?_, fun q hq => ?_⟩
    · rw [f2 q (Nat.lt_of_lt_of_le q1 hS.1) q2]
      exact hS.2.1 q q1 q2
    · rcases List.mem_append.mp hq with h | h
      · exact hS.2.2 q h
      · exact hLL q h
  have hok : ∀ w ∈ rr.1.toList ++ rest, okV (nT rr.2) w := by
    intro w hw
    rcases List.mem_append.mp hw with h | h
    · exact hrv w (by simpa using h)
    · exact (h2 w h).le hle.1
  have h4 := hk (fun w hw => (h1 w hw).le hle.1) hok ⟨Nat.le_trans h3.1 hle.1, Nat.le_trans h3.2 hle.2⟩ t.heap (locs ++ L) lsC hWt hL hS2
  have e1 : nT rr.2 - nT s0 = nT σ - nT s0 + (nT rr.2 - nT σ) := by omega
  have e2 : nU rr.2 - nU s0 = nU σ - nU s0 + (nU rr.2 - nU σ) := by omega
  rw [e1, e2] at h4
  exact h4
theorem blind_W {σ : Mem} {av : List Value} : FrameBlind (va_Pc av (fun U => WD E σ U.heap ∧ KF E X U)) := by
  intro a U g mk h
  exact ⟨h.1, h.2.1, h.2.2.same rfl rfl⟩
/-- a call's kind and link -/
def okCall (oC : String) (i : Nat) (a : List Nat) (kind : Nat) : Prop := ∃ q : MD, mdL[nAx a 1]? = some q ∧ nAx a 2 = q.2.2.2.2.1 ∧
  (Cond.methodLink oC i q.1 ∈ gT ∨ Cond.methodLinkNest oC i q.1 RX6 ∈ nestL) ∧
  (match kind with
    | 0 => nAx a 3 ≠ 0 ∧ q.2.2.2.2.2.1 = false ∧ q.1.name ≠ "<init>" ∧ q.1.cls = RC (nAx a 3) ∧ Cond.methodLink oC i q.1 ∈ gT
    | 1 => nAx a 3 ≠ 0 ∧ q.2.2.2.2.2.1 = false ∧ q.1.name = "<init>" ∧ q.2.2.2.1 = none
    | _ => q.2.2.2.2.2.1 = true)
theorem bnd_some {o : Option Res} {f : Option AV → Mem → Option Res} (h : nBnd o f = some r) : ∃ rr, o = some rr ∧ f rr.1 rr.2 = some r := by
  rcases o with _ | ⟨v, s⟩
  · cases h
  · exact ⟨(v, s), rfl, h⟩
theorem take_rev {st : List AV} {n : Nat} : st.map (cV E) = ((st.take n).reverse.map (cV E)).reverse ++ (st.drop n).map (cV E) := by
  rw [← List.map_reverse, List.reverse_reverse, ← List.map_append, List.take_append_drop]
theorem okl_take {t : Nat} {st : List AV} {n : Nat} (h : ∀ v ∈ st, okV t v) : ∀ v ∈ (st.take n).reverse, okV t v := fun v hv => h v (List.mem_of_mem_take (List.mem_reverse.mp hv))
theorem okl_drop {t : Nat} {st : List AV} {n : Nat} (h : ∀ v ∈ st, okV t v) : ∀ v ∈ st.drop n, okV t v := fun v hv => h v (List.mem_of_mem_drop hv)
theorem len_rev {st : List AV} {n : Nat} (h : n ≤ st.length) : ((st.take n).reverse.map (cV E)).length = n := by
  simp [Nat.min_eq_left h]
theorem nestNw {w : Cond} (hKF : KF E X s) (h : w ∈ nestL) (hw : w.onTables = true) : w.before args s = true := va_Nw.use hw (hKF.2.1 w h)
theorem sim_callS {idx : Nat} {a : List Nat} (hC : Ctx E X p R s m args meth c cc nL oC ini) (hs0 : s.heap.size = E.1.1 + nT s0) (hR : d + 9 ≤ R.frames ∧ 64 * d + 576 ≤ R.locals) (hcal : Snd E X l d cal) (hd : decode cc pc = .ok (.invokestatic idx, 3)) (hok : okCall oC idx a 2)
    (hK : pCall cal K pc ls st σ (nAx a 1) (nAx a 2) 0 = some r) (hk : ∀ pc ls st σ', K pc ls st σ' = some r → Wf E nL s0 p l e R s m args below meth c Q pc ls st σ') (hfin : ∀ pc ls st σ', K pc ls st σ' = some r → nT σ' ≤ nT s0 + R.cells ∧ nU σ' ≤ nU s0 + R.slots) : Wf E nL s0 p l e R s m args below meth c Q pc ls st σ := by
  obtain ⟨q, hq0, hn, hlk, hstt⟩ := hok
  try dsimp only at hstt
  unfold pCall at hK
  cases hcs : Nat.ble (nCsum (st.drop (nAx a 2))) 8
  · rw [hcs] at hK; cases hK
  rw [hcs] at hK
  dsimp only [cond_true] at hK
  cases hle : Nat.ble (nAx a 2) st.length
  · rw [hle] at hK; cases hK
  rw [hle] at hK
  obtain ⟨rr, hr1, hr2⟩ := bnd_some hK
  obtain ⟨g1, g2, g3, g4, g5, g6, g7⟩ := hC
  intro h1 h2 h3 H locs lsC hW hL hS
  obtain ⟨hmono, q2, hq2, hMet⟩ := hcal _ _ _ _ hr1 (okl_take h2) hW.2.2
  cases hq0.symm.trans hq2
  have hM := okM_at hq0
  obtain ⟨y, bc, ml, ret, n, stt, xx⟩ := q
  obtain ⟨b1, b2, b3, b4, b5, b6, b7, b8⟩ := hM
  dsimp only at hn hstt hlk hMet
  have hf := hfin _ _ _ _ hr2
  have hle := Nat.ble_eq.mp hle
  have hcs := Nat.ble_eq.mp hcs
  have hroom : (rmD d (nT rr.2 - nT σ) (nU rr.2 - nU σ)).frames + 1 ≤ R.frames ∧ 8 + (ml + 11) + (rmD d (nT rr.2 - nT σ) (nU rr.2 - nU σ)).locals ≤ R.locals := by
    have := hR.1
    have := hR.2
    refine ⟨?_, ?_⟩
    · exact hR.1
    · exact room_le b8 hR.2
  have hpre : PreS s H (va_Pc ((st.take (nAx a 2)).reverse.map (cV E)) (fun U => WD E σ U.heap ∧ KF E X U)) ((st.take (nAx a 2)).reverse.map (cV E)) := ⟨blind_W, fun U hU hW2 => ⟨rfl, by rw [hU]; exact hW, g6.moved hW2 (fun a ha => by
      rw [hU]
      exact hS.2.1 a (Nat.lt_of_lt_of_le ha g6.2.2.2.2.2.2.2.2.2.1) (Nat.not_le.mpr ha)) (by rw [hU]; exact Nat.le_trans g6.2.2.2.2.2.2.2.2.2.1 hS.1)⟩⟩
  have hwr : 2 * (F0 m pc lsC (st.map (cV E))).monitorRoom + ((st.drop (nAx a 2)).map (cV E) |>.map fun v => v.category).sum ≤ 8 := lv_room (by rw [csum_eq]; exact hcs)
  have hstat := g5 _ (b3 hstt)
  rcases hlk with hlk | hlk
  · exact fin_call hs0 hmono hL hS h1 (okl_drop h2) h3 (hk _ _ _ _ hr2)
      (va_runS (As := (st.take (nAx a 2)).reverse.map (cV E)) (rest := (st.drop (nAx a 2)).map (cV E)) ⟨g1, g2, g3, g4, g5⟩ hMet ⟨callB_of n g5 b2 rfl rfl rfl (g5 _ b5) (g5 _ hlk) ⟨b6.1, b6.2, b7⟩ hroom, hstat⟩ hpre rfl (by rw [← hn]; exact len_rev hle) hL.1.1 take_rev hwr hd ⟨by omega, by omega⟩)
  · exact fin_call hs0 hmono hL hS h1 (okl_drop h2) h3 (hk _ _ _ _ hr2)
      (va_runSN (As := (st.take (nAx a 2)).reverse.map (cV E)) (rest := (st.drop (nAx a 2)).map (cV E)) ⟨g1, g2, g3, g4, g5⟩ hMet ⟨va_cnB n g5 b2 rfl rfl rfl (g6.2.1 _ hlk) (g5 _ b5) ⟨b6.1, b6.2, b7⟩ hroom, hstat, trivial⟩ hpre rfl (by rw [← hn]; exact len_rev hle) hL.1.1 take_rev hwr hd ⟨by omega, by omega⟩)
theorem drop_cons_eq {st rr : List AV} {n : Nat} {v : AV} (h : st.drop n = v :: rr) : st.map (cV E) = ((st.take n).reverse.map (cV E)).reverse ++ cV E v :: rr.map (cV E) := by
  rw [take_rev (st := st) (n := n), h]
  rfl
theorem sim_callV {idx : Nat} {a : List Nat} (hC : Ctx E X p R s m args meth c cc nL oC ini) (hs0 : s.heap.size = E.1.1 + nT s0) (hR : d + 9 ≤ R.frames ∧ 64 * d + 576 ≤ R.locals) (hcal : Snd E X l d cal) (hd : decode cc pc = .ok (.invokevirtual idx, 3)) (hok : okCall oC idx a 0)
    (hK : pCall cal K pc ls st σ (nAx a 1) (nAx a 2) (nAx a 3) = some r) (hk : ∀ pc ls st σ', K pc ls st σ' = some r → Wf E nL s0 p l e R s m args below meth c Q pc ls st σ') (hfin : ∀ pc ls st σ', K pc ls st σ' = some r → nT σ' ≤ nT s0 + R.cells ∧ nU σ' ≤ nU s0 + R.slots) : Wf E nL s0 p l e R s m args below meth c Q pc ls st σ := by
  obtain ⟨q, hq0, hn, -, hcn, hstt, hnin, hcls, hlk⟩ := hok
  unfold pCall at hK
  cases hcs : Nat.ble (nCsum (st.drop (nAx a 2))) 8
  · rw [hcs] at hK; cases hK
  rw [hcs] at hK
  dsimp only [cond_true] at hK
  revert hK
  rcases hc3 : nAx a 3 with _ | cn
  · exact absurd hc3 hcn
  intro hK
  try dsimp only at hK
  rcases hdr : st.drop (nAx a 2) with _ | ⟨x | x | ⟨k, i⟩, rest⟩
  · rw [hdr] at hK; cases hK
  · rw [hdr] at hK; cases hK
  · rw [hdr] at hK; cases hK
  rw [hdr] at hK
  dsimp only at hK
  cases hkc : (nKc k == cn + 1)
  · rw [hkc] at hK; cases hK
  rw [hkc] at hK
  obtain ⟨rr, hr1, hr2⟩ := bnd_some hK
  obtain ⟨g1, g2, g3, g4, g5, g6, g7⟩ := hC
  intro h1 h2 h3 H locs lsC hW hL hS
  have hdok := okl_drop (n := nAx a 2) h2
  rw [hdr] at hdok
  have hv : okT (nT σ) (k, i) := okV.kc (okl_hd hdok) (kc_ne hkc (by omega))
  obtain ⟨hmono, q2, hq2, hMet⟩ := hcal _ _ _ _ hr1 (okl_cons (okl_hd hdok) (okl_take h2)) hW.2.2
  cases hq0.symm.trans hq2
  have hM := okM_at hq0
  obtain ⟨y, bc, ml, ret, n, stt, xx⟩ := q
  obtain ⟨b1, b2, b3, b4, b5, b6, b7, b8⟩ := hM
  dsimp only at hn hstt hlk hMet hnin hcls
  have hf := hfin _ _ _ _ hr2
  have hcs := Nat.ble_eq.mp hcs
  rw [hdr] at hcs
  have hcs2 : nCsum rest ≤ 8 := Nat.le_trans (Nat.le_add_left _ _) hcs
  have hlen : nAx a 2 ≤ st.length := by
    rcases Nat.lt_or_ge st.length (nAx a 2) with q | q
    · rw [List.drop_eq_nil_of_le (Nat.le_of_lt q)] at hdr
      cases hdr
    · exact q
  have hroom : (rmD d (nT rr.2 - nT σ) (nU rr.2 - nU σ)).frames + 1 ≤ R.frames ∧ 8 + (ml + 11) + (rmD d (nT rr.2 - nT σ) (nU rr.2 - nU σ)).locals ≤ R.locals := by
    have := hR.1
    have := hR.2
    refine ⟨?_, ?_⟩
    · exact hR.1
    · exact room_le b8 hR.2
  have hcn7 : 1 ≤ cn + 1 ∧ cn + 1 ≤ 7 := by
    refine ⟨by omega, ?_⟩
    rw [← eq_of_beq hkc]
    unfold nKc
    split <;> decide
  have he := wL_at E σ hv
  rw [cE_obj (eq_of_beq hkc) (by omega)] at he
  have hrecv := va_recv (D := E.2.2.1) g6.1 hW.1 (clAt hcn7) he
  have hcb : cV E (.inr (.inr (k, i))) = .ref (cA E k i) := rfl
  have hpre : PreV s H (RC (cn + 1)) (cA E k i) (va_Pc ((vR k i :: (st.take (nAx a 2)).reverse).map (cV E)) (fun U => WD E σ U.heap ∧ KF E X U)) ((st.take (nAx a 2)).reverse.map (cV E)) := ⟨blind_W, hrecv, fun U hU hW2 => ⟨rfl, by rw [hU]; exact hW, g6.moved hW2 (fun a ha => by
      rw [hU]
      exact hS.2.1 a (Nat.lt_of_lt_of_le ha g6.2.2.2.2.2.2.2.2.2.1) (Nat.not_le.mpr ha)) (by rw [hU]; exact Nat.le_trans g6.2.2.2.2.2.2.2.2.2.1 hS.1)⟩⟩
  have hwr : 2 * (F0 m pc lsC (st.map (cV E))).monitorRoom + ((rest.map (cV E)).map fun v => v.category).sum ≤ 8 := lv_room (by rw [csum_eq]; exact hcs2)
  have hin := g5 _ (b4 hstt).1
  have hsel : (Cond.selects (RC (cn + 1)) y y).before args s = true := by
    rcases (b4 hstt).2 with h | h
    · exact absurd h hnin
    · rw [hc3] at hcls
      rw [← hcls]
      exact g5 _ h
  exact fin_call hs0 hmono hL hS h1 (okl_tl hdok) h3 (hk _ _ _ _ hr2)
    (va_runV (C := RC (cn + 1)) (b := cA E k i) (As := (st.take (nAx a 2)).reverse.map (cV E)) (rest := rest.map (cV E)) ⟨g1, g2, g3, g4, g5⟩ hMet ⟨callB_of n g5 b2 rfl rfl rfl (g5 _ b5) (g5 _ hlk) ⟨b6.1, b6.2, b7⟩ hroom, hin, hsel⟩ hpre rfl (by rw [← hn]; exact len_rev hlen) hL.1.1 (drop_cons_eq hdr) hwr hd ⟨by omega, by omega⟩)
theorem sim_callI {idx : Nat} {a : List Nat} (hC : Ctx E X p R s m args meth c cc nL oC ini) (hs0 : s.heap.size = E.1.1 + nT s0) (hR : d + 9 ≤ R.frames ∧ 64 * d + 576 ≤ R.locals) (hcal : Snd E X l d cal) (hd : decode cc pc = .ok (.invokespecial idx, 3)) (hok : okCall oC idx a 1)
    (hK : pCall cal K pc ls st σ (nAx a 1) (nAx a 2) (nAx a 3) = some r) (hk : ∀ pc ls st σ', K pc ls st σ' = some r → Wf E nL s0 p l e R s m args below meth c Q pc ls st σ') (hfin : ∀ pc ls st σ', K pc ls st σ' = some r → nT σ' ≤ nT s0 + R.cells ∧ nU σ' ≤ nU s0 + R.slots) : Wf E nL s0 p l e R s m args below meth c Q pc ls st σ := by
  obtain ⟨q, hq0, hn, hlk, hcn, hstt, hnin, hret⟩ := hok
  unfold pCall at hK
  cases hcs : Nat.ble (nCsum (st.drop (nAx a 2))) 8
  · rw [hcs] at hK; cases hK
  rw [hcs] at hK
  dsimp only [cond_true] at hK
  revert hK
  rcases hc3 : nAx a 3 with _ | cn
  · exact absurd hc3 hcn
  intro hK
  try dsimp only at hK
  rcases hdr : st.drop (nAx a 2) with _ | ⟨x | x | ⟨k, i⟩, rest⟩
  · rw [hdr] at hK; cases hK
  · rw [hdr] at hK; cases hK
  · rw [hdr] at hK; cases hK
  rw [hdr] at hK
  dsimp only at hK
  cases hkc : (nKc k == cn + 1)
  · rw [hkc] at hK; cases hK
  rw [hkc] at hK
  obtain ⟨rr, hr1, hr2⟩ := bnd_some hK
  obtain ⟨g1, g2, g3, g4, g5, g6, g7⟩ := hC
  intro h1 h2 h3 H locs lsC hW hL hS
  have hdok := okl_drop (n := nAx a 2) h2
  rw [hdr] at hdok
  obtain ⟨hmono, q2, hq2, hMet⟩ := hcal _ _ _ _ hr1 (okl_cons (okl_hd hdok) (okl_take h2)) hW.2.2
  cases hq0.symm.trans hq2
  have hM := okM_at hq0
  obtain ⟨y, bc, ml, ret, n, stt, xx⟩ := q
  obtain ⟨b1, b2, b3, b4, b5, b6, b7, b8⟩ := hM
  dsimp only at hn hstt hlk hMet hnin hret
  subst hret
  have hf := hfin _ _ _ _ hr2
  have hcs := Nat.ble_eq.mp hcs
  rw [hdr] at hcs
  have hcs2 : nCsum rest ≤ 8 := Nat.le_trans (Nat.le_add_left _ _) hcs
  have hlen : nAx a 2 ≤ st.length := by
    rcases Nat.lt_or_ge st.length (nAx a 2) with q | q
    · rw [List.drop_eq_nil_of_le (Nat.le_of_lt q)] at hdr
      cases hdr
    · exact q
  have hroom : (rmD d (nT rr.2 - nT σ) (nU rr.2 - nU σ)).frames + 1 ≤ R.frames ∧ 8 + (ml + 11) + (rmD d (nT rr.2 - nT σ) (nU rr.2 - nU σ)).locals ≤ R.locals := by
    have := hR.1
    have := hR.2
    refine ⟨?_, ?_⟩
    · exact hR.1
    · exact room_le b8 hR.2
  have hpre : PreS s H (va_Pc ((vR k i :: (st.take (nAx a 2)).reverse).map (cV E)) (fun U => WD E σ U.heap ∧ KF E X U)) (.ref (cA E k i) :: (st.take (nAx a 2)).reverse.map (cV E)) := ⟨blind_W, fun U hU hW2 => ⟨rfl, by rw [hU]; exact hW, g6.moved hW2 (fun a ha => by
      rw [hU]
      exact hS.2.1 a (Nat.lt_of_lt_of_le ha g6.2.2.2.2.2.2.2.2.2.1) (Nat.not_le.mpr ha)) (by rw [hU]; exact Nat.le_trans g6.2.2.2.2.2.2.2.2.2.1 hS.1)⟩⟩
  have hwr : 2 * (F0 m pc lsC (st.map (cV E))).monitorRoom + ((rest.map (cV E)).map fun v => v.category).sum ≤ 8 := lv_room (by rw [csum_eq]; exact hcs2)
  have hin := g5 _ (b4 hstt).1
  rcases hlk with hlk | hlk
  · exact fin_call hs0 hmono hL hS h1 (okl_tl hdok) h3 (hk _ _ _ _ hr2)
      (va_runI (b := cA E k i) (As := (st.take (nAx a 2)).reverse.map (cV E)) (rest := rest.map (cV E)) ⟨g1, g2, g3, g4, g5⟩ hMet ⟨callB_of n g5 b2 rfl rfl rfl (g5 _ b5) (g5 _ hlk) ⟨b6.1, b6.2, b7⟩ hroom, hnin, hin⟩ hpre rfl (by rw [← hn]; exact len_rev hlen) hL.1.1 (drop_cons_eq hdr) hwr hd ⟨by omega, by omega⟩)
  · exact fin_call hs0 hmono hL hS h1 (okl_tl hdok) h3 (hk _ _ _ _ hr2)
      (va_runIN (b := cA E k i) (As := (st.take (nAx a 2)).reverse.map (cV E)) (rest := rest.map (cV E)) ⟨g1, g2, g3, g4, g5⟩ hMet ⟨va_cnB n g5 b2 rfl rfl rfl (g6.2.1 _ hlk) (g5 _ b5) ⟨b6.1, b6.2, b7⟩ hroom, hnin, hin⟩ hpre rfl (by rw [← hn]; exact len_rev hlen) hL.1.1 (drop_cons_eq hdr) hwr hd ⟨by omega, by omega⟩)
end
