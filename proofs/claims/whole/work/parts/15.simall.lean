def hNm (h : Nat) : MethodName := match h with
  | 1 => Lib.Math.min.name | 2 => Lib.Math.max.name | 3 => Lib.Math.abs.name | 4 => arraycopyName | 5 => Lib.objectInit | 6 => yJ0_length_8abf5 | _ => yJ0_charAt_5068e
section
variable {E : EnvT} {X : Nat × (Nat → Int32)} {nL : Nat} {s0 : Mem} {p : Program} {l : Launch} {e : Env} {R : Room} {s : State} {m : MethodId} {args : Array Value} {below : List Frame} {meth : Method} {c : Code} {Q : State → Prop} {cc : ByteArray} {oC : String} {ini : Bool} {pc : Nat} {ls st : List AV} {σ : Mem} {K : Kon} {r : Res} {d : Nat}
theorem room_h {d L : Nat} (h : 64 * d + 576 ≤ L) : 576 ≤ L := by omega
theorem sim_hostS {idx h : Nat} (hC : Ctx E X p R s m args meth c cc nL oC ini) (hs0 : s.heap.size = E.1.1 + nT s0) (hR : d + 9 ≤ R.frames ∧ 64 * d + 576 ≤ R.locals) (hd : decode cc pc = .ok (.invokestatic idx, 3)) (hl : Cond.methodLink oC idx (hNm h) ∈ gT) (hh : 1 ≤ h ∧ h ≤ 4)
    (hK : pHost K pc ls st σ h = some r) (hk : ∀ pc ls st σ', K pc ls st σ' = some r → Wf E nL s0 p l e R s m args below meth c Q pc ls st σ') (hfin : ∀ pc ls st σ', K pc ls st σ' = some r → nT σ' ≤ nT s0 + R.cells ∧ nU σ' ≤ nU s0 + R.slots) : Wf E nL s0 p l e R s m args below meth c Q pc ls st σ := by
  obtain ⟨g1, g2, g3, g4, g5, g6, g7⟩ := hC
  unfold pHost at hK
  cases hcs : Nat.ble (nCsum st) 9
  · rw [hcs] at hK; cases hK
  rw [hcs] at hK
  rw [cond_true] at hK
  have hcs := Nat.ble_eq.mp hcs
  have hloc := room_h hR.2
  have hfr : 1 ≤ R.frames := by have := hR.1; omega
  have csle : ∀ {v : AV} {rr : List AV} {n : Nat}, nCsum (v :: rr) ≤ n → nCsum rr ≤ n := fun {v rr n} h => Nat.le_trans (Nat.le_add_left _ _) h
  rcases (show h = 1 ∨ h = 2 ∨ h = 3 ∨ h = 4 by omega) with rfl | rfl | rfl | rfl
  · try dsimp only at hK
    rcases st with _ | ⟨y | y | ⟨k, j⟩, _ | ⟨x | x | ⟨k2, j2⟩, rr⟩⟩
    all_goals try (cases hK; done)
    intro h1 h2 h3 H locs lsC hW hL hS
    have hf := hfin _ _ _ _ hK
    have h16 := csle (csle hcs)
    exact va_mmin g1 g2 (by rw [g3, hL.1.1]) g4 (g5 _ hl) (gg 485 (w := .static Lib.Math.min.name) (by decide +kernel) rfl g5) (gg 84 (w := .initialized "java/lang/Math") (by decide +kernel) rfl g5) (gg 486 (w := .code Lib.Math.min.name Lib.Math.min.code 2 (some .int)) (by decide +kernel) rfl g5) hfr (by rw [csum_eq]; omega) (by omega) (by omega) hd (hk _ _ _ _ hK h1 (okl_cons trivial (okl_tl (okl_tl h2))) h3 H locs lsC hW hL hS)
  · try dsimp only at hK
    rcases st with _ | ⟨y | y | ⟨k, j⟩, _ | ⟨x | x | ⟨k2, j2⟩, rr⟩⟩
    all_goals try (cases hK; done)
    intro h1 h2 h3 H locs lsC hW hL hS
    have hf := hfin _ _ _ _ hK
    have h16 := csle (csle hcs)
    exact va_mmax g1 g2 (by rw [g3, hL.1.1]) g4 (g5 _ hl) (gg 488 (w := .static Lib.Math.max.name) (by decide +kernel) rfl g5) (gg 84 (w := .initialized "java/lang/Math") (by decide +kernel) rfl g5) (gg 489 (w := .code Lib.Math.max.name Lib.Math.max.code 2 (some .int)) (by decide +kernel) rfl g5) hfr (by rw [csum_eq]; omega) (by omega) (by omega) hd (hk _ _ _ _ hK h1 (okl_cons trivial (okl_tl (okl_tl h2))) h3 H locs lsC hW hL hS)
  · try dsimp only at hK
    rcases st with _ | ⟨x | y | ⟨k, j⟩, rr⟩
    all_goals try (cases hK; done)
    intro h1 h2 h3 H locs lsC hW hL hS
    have hf := hfin _ _ _ _ hK
    have h16 := csle hcs
    exact va_mabs g1 g2 (by rw [g3, hL.1.1]) g4 (g5 _ hl) (gg 544 (w := .static Lib.Math.abs.name) (by decide +kernel) rfl g5) (gg 84 (w := .initialized "java/lang/Math") (by decide +kernel) rfl g5) (gg 545 (w := .code Lib.Math.abs.name Lib.Math.abs.code 1 (some .int)) (by decide +kernel) rfl g5) hfr (by rw [csum_eq]; omega) (by omega) (by omega) hd (hk _ _ _ _ hK h1 (okl_cons trivial (okl_tl h2)) h3 H locs lsC hW hL hS)
  · try dsimp only at hK
    rcases st with _ | ⟨n | x | ⟨k, j⟩, _ | ⟨dp | y | ⟨k9, j9⟩, _ | ⟨z | z | ⟨k2, i2⟩, _ | ⟨sp | u | ⟨k4, j4⟩, _ | ⟨w | w | ⟨k, i⟩, rr⟩⟩⟩⟩⟩
    all_goals try (cases hK; done)
    dsimp only at hK
    cases ha : (nAk k == 1 && nAk k2 == 1)
    · rw [ha] at hK; cases hK
    rw [ha] at hK
    rw [cond_true] at hK
    rw [Bool.and_eq_true] at ha
    cases hin : decide (¬ sp < 0 ∧ ¬ dp < 0 ∧ ¬ n < 0 ∧ sp.toNatClampNeg + n.toNatClampNeg ≤ nAl k ∧ dp.toNatClampNeg + n.toNatClampNeg ≤ nAl k2)
    · rw [hin] at hK; cases hK
    rw [hin] at hK
    rw [cond_true] at hK
    obtain ⟨q1, q2, q3, q4, q5⟩ := of_decide_eq_true hin
    intro h1 h2 h3 H locs lsC hW hL hS
    have hf := hfin _ _ _ _ hK
    have h16 := csle (csle (csle (csle (csle hcs))))
    have hv2 : okT (nT σ) (k2, i2) := okV.kc (okl_hd (okl_tl (okl_tl h2))) (ak_ne ha.2 (by decide))
    have hv : okT (nT σ) (k, i) := okV.kc (okl_hd (okl_tl (okl_tl (okl_tl (okl_tl h2))))) (ak_ne ha.1 (by decide))
    have he := wL_at E σ hv
    have he2 := wL_at E σ hv2
    rw [cE_int (eq_of_beq ha.1)] at he
    rw [cE_int (eq_of_beq ha.2)] at he2
    refine va_copyi (D := E.2.2.1) (cl := vwCl) (tys := tysF E) (ws := wL E σ) (A := aF E) (ty := .int) g1 g2 (by rw [g3, hL.1.1]) g4 (g5 _ hl) (gg 375 (w := .native arraycopyName) (by decide +kernel) rfl g5) (gg 374 (w := .static arraycopyName) (by decide +kernel) rfl g5) (gg 82 (w := .initialized "java/lang/System") (by decide +kernel) rfl g5) g6.1 hW.1 (wL_D E σ) hS (nOff k i) (nOff k2 i2) 0 0 he he2 rfl rfl rfl q1 q2 q3 q4 q5 (fun _ _ => rfl) hfr (by
      rw [csum_eq]
      have : nativeFrameWords "java/lang/System" "arraycopy" 5 = 7 := by decide +kernel
      omega) hd (fun H1 locs1 hP1 _ hS1 => ?_)
    refine fin_put (s' := (nCpy σ.1 k i sp.toNatClampNeg k2 i2 dp.toNatClampNeg n.toNatClampNeg, σ.2)) hs0 hW hv2 rfl rfl hW.2.2 (fun k4 i4 _ hn => cE_ext E (fun d9 => if_neg (fun q => hn (by rw [q.1, q.2.1]))) (fun _ => rfl) (fun _ _ => rfl)) ?_ hS1 hL h1 (okl_tl (okl_tl (okl_tl (okl_tl (okl_tl h2))))) h3 (hk _ _ _ _ hK)
    rw [cE_int (eq_of_beq ha.2)]
    have hfun : nCpy σ.1 k i sp.toNatClampNeg k2 i2 dp.toNatClampNeg n.toNatClampNeg k2 i2 = va_cpy (σ.1 k i) (σ.1 k2 i2) sp.toNatClampNeg dp.toNatClampNeg n.toNatClampNeg := by
      funext d9
      unfold nCpy va_cpy
      by_cases hq : dp.toNatClampNeg ≤ d9 ∧ d9 < dp.toNatClampNeg + n.toNatClampNeg
      · rw [if_pos ⟨rfl, rfl, hq.1, hq.2⟩, if_pos hq]
      · rw [if_neg (fun z => hq z.2.2), if_neg hq]
    dsimp only
    rw [hfun]
    exact hP1
theorem sim_hostI {idx h : Nat} (hC : Ctx E X p R s m args meth c cc nL oC ini) (hR : d + 9 ≤ R.frames ∧ 64 * d + 576 ≤ R.locals) (hd : decode cc pc = .ok (.invokespecial idx, 3)) (hl : Cond.methodLink oC idx (hNm h) ∈ gT) (hh : h = 5)
    (hK : pHost K pc ls st σ h = some r) (hk : ∀ pc ls st σ', K pc ls st σ' = some r → Wf E nL s0 p l e R s m args below meth c Q pc ls st σ') : Wf E nL s0 p l e R s m args below meth c Q pc ls st σ := by
  obtain ⟨g1, g2, g3, g4, g5, g6, g7⟩ := hC
  subst hh
  unfold pHost at hK
  cases hcs : Nat.ble (nCsum st) 9
  · rw [hcs] at hK; cases hK
  rw [hcs] at hK
  rw [cond_true] at hK
  have hcs := Nat.ble_eq.mp hcs
  have hloc := room_h hR.2
  have hfr : 1 ≤ R.frames := by have := hR.1; omega
  try dsimp only at hK
  rcases st with _ | ⟨x | y | ⟨k, j⟩, rr⟩
  all_goals try (cases hK; done)
  dsimp only at hK
  by_cases hk0 : k = 0
  · rw [if_pos hk0] at hK; cases hK
  rw [if_neg hk0] at hK
  intro h1 h2 h3 H locs lsC hW hL hS
  have h16 : nCsum rr ≤ 9 := Nat.le_trans (Nat.le_add_left _ _) hcs
  exact W.objInit (a := cA E k j) (rest := rr.map (cV E)) g1 g2 g4 (g5 _ hl) (gg 92 (w := .instanceMethod Lib.objectInit) (by decide +kernel) rfl g5) (gg 93 (w := .code Lib.objectInit ⟨#[0xb1]⟩ 1 none) (by decide +kernel) rfl g5) rfl (by rw [g3]; exact hL.1.1) rfl hd hfr (by
    show 2 * 0 + _ + 12 ≤ R.locals
    rw [csum_eq]
    omega) (hk _ _ _ _ hK h1 (okl_tl h2) h3 H locs lsC hW hL hS)
theorem keep_same {H : Heap} {locs L : List Loc} (hS : va_S (aF E) s.heap H locs) (hL : ∀ q ∈ L, aF E q.base) : va_S (aF E) s.heap H (locs ++ L) := ⟨hS.1, hS.2.1, fun q h => by
  rcases List.mem_append.mp h with h | h
  · exact hS.2.2 q h
  · exact hL q h⟩
theorem sim_hostV {idx h : Nat} (hC : Ctx E X p R s m args meth c cc nL oC ini) (hR : d + 9 ≤ R.frames ∧ 64 * d + 576 ≤ R.locals) (hd : decode cc pc = .ok (.invokevirtual idx, 3)) (hl : Cond.methodLink oC idx (hNm h) ∈ gT) (hh : h = 6 ∨ h = 7)
    (hK : pHost K pc ls st σ h = some r) (hk : ∀ pc ls st σ', K pc ls st σ' = some r → Wf E nL s0 p l e R s m args below meth c Q pc ls st σ') (hfin : ∀ pc ls st σ', K pc ls st σ' = some r → nT σ' ≤ nT s0 + R.cells ∧ nU σ' ≤ nU s0 + R.slots) : Wf E nL s0 p l e R s m args below meth c Q pc ls st σ := by
  obtain ⟨g1, g2, g3, g4, g5, g6, g7⟩ := hC
  have g60 := g6
  obtain ⟨-, -, -, -, ⟨adV, hvS⟩, -, -, -, -, hz10, -⟩ := g6
  unfold pHost at hK
  cases hcs : Nat.ble (nCsum st) 9
  · rw [hcs] at hK; cases hK
  rw [hcs] at hK
  rw [cond_true] at hK
  have hcs := Nat.ble_eq.mp hcs
  have hloc := room_h hR.2
  have hfr : 9 ≤ R.frames := by have := hR.1; omega
  have fin : ∀ (v : AV) (rr : List AV) (H : Heap) (locs L : List Loc) (lsC : Array Slot) (t st1 : State), (∀ w ∈ ls, okV (nT σ) w) → (∀ w ∈ rr, okV (nT σ) w) → okV (nT σ) v → (nT s0 ≤ nT σ ∧ nU s0 ≤ nU σ) → WD E σ H → LH E nL lsC ls → va_S (aF E) s.heap H locs → K (pc + 3) ls (v :: rr) σ = some r → t.heap = st1.heap → st1.heap = H → (∀ q ∈ L, aF E q.base) →
      W p l e R s m args below meth c t.heap (locs ++ L) (nT σ - nT s0 + 0) (nU σ - nU s0 + 0) Q (F0 m (pc + 3) lsC ((some (cV E v)).toList ++ rr.map (cV E))) := by
    intro v rr H locs L lsC t st1 h1 h2 hv h3 hW hL hS hq e1 e2 hLL
    rw [e1, e2]
    exact hk _ _ _ _ hq h1 (okl_cons hv h2) h3 H (locs ++ L) lsC hW hL (keep_same hS hLL)
  rcases hh with rfl | rfl
  · try dsimp only at hK
    rcases st with _ | ⟨x | y | ⟨_ | _ | k, i⟩, rr⟩
    all_goals try (cases hK; done)
    have hK : cond (Nat.blt i 13) (K (pc + 3) ls (vI (Int32.ofNat (nSlen i)) :: rr) σ) none = some r := hK
    cases hi : Nat.blt i 13
    · rw [hi] at hK; cases hK
    rw [hi] at hK
    rw [cond_true] at hK
    have hi := Nat.blt_eq.mp hi
    intro h1 h2 h3 H locs lsC hW hL hS
    have hf := hfin _ _ _ _ hK
    have h16 : nCsum rr ≤ 8 := by
      have : nCsum (.inr (.inr (0 + 1, i)) :: rr) = 1 + nCsum rr := rfl
      omega
    refine W_run (va_runV (C := RJ0) (b := E.2.1 i) (As := []) (rest := rr.map (cV E)) ⟨g1, g2, g3, g4, g5⟩ (m_length (E := E) (X := X) hi) ⟨callB_of 0 g5 (good_self 246 (by decide +kernel)) rfl rfl rfl (gg 78 (w := .initialized RJ0) (by decide +kernel) rfl g5) (g5 _ hl) (by decide +kernel) ⟨by show 1 + 1 ≤ R.frames; omega, by show 8 + (1 + 11) + 32 ≤ R.locals; omega⟩, gg 244 (w := .instanceMethod yJ0_length_8abf5) (by decide +kernel) rfl g5, gg 245 (w := .selects RJ0 yJ0_length_8abf5 yJ0_length_8abf5) (by decide +kernel) rfl g5⟩
      ⟨blind_B (fun U V _ h => h), vk_recv hvS hi hS, fun U hU hW2 => ⟨rfl, trivial, g60.moved hW2 (fun a ha => by
        rw [hU]
        exact hS.2.1 a (Nat.lt_of_lt_of_le ha hz10) (Nat.not_le.mpr ha)) (by rw [hU]; exact Nat.le_trans hz10 hS.1)⟩⟩ rfl rfl hL.1.1 rfl (lv_room (by rw [csum_eq]; exact h16)) hd ⟨by omega, by omega⟩) ?_
    intro v st1 t L h0 hq hLL
    obtain ⟨hq1, hq2⟩ := hq
    cases hq1
    exact fin (vI (Int32.ofNat (nSlen i))) rr H locs L lsC t st1 h1 (okl_tl h2) trivial h3 hW hL hS hK hq2 h0 hLL
  · try dsimp only at hK
    rcases st with _ | ⟨x | y | ⟨k2, i2⟩, _ | ⟨z | z | ⟨_ | _ | k, i⟩, rr⟩⟩
    all_goals try (cases hK; done)
    have hK : cond (Nat.blt i 13 && nIn x (nSlen i)) (K (pc + 3) ls (vI (nSch i x.toNatClampNeg) :: rr) σ) none = some r := hK
    cases hi : (Nat.blt i 13 && nIn x (nSlen i))
    · rw [hi] at hK; cases hK
    rw [hi] at hK
    rw [cond_true] at hK
    rw [Bool.and_eq_true] at hi
    obtain ⟨hi, hx⟩ := hi
    have hi := Nat.blt_eq.mp hi
    intro h1 h2 h3 H locs lsC hW hL hS
    have hf := hfin _ _ _ _ hK
    have h16 : nCsum rr ≤ 8 := by
      have : nCsum (.inl x :: .inr (.inr (0 + 1, i)) :: rr) = 1 + (1 + nCsum rr) := rfl
      omega
    have hlt := in_lt hx
    have hs := str_lt i hi
    have hxx : x = nI x.toNatClampNeg := by
      have h0 : ¬ x < 0 := fun q => in_iff hx (Or.inl q)
      obtain ⟨j, hj, rfl⟩ := nI_of h0
      rw [nI_clamp hj]
    have hcx : cV E (.inl x) = .int (nI x.toNatClampNeg) := congrArg Value.int hxx
    refine W_run (va_runV (C := RJ0) (b := E.2.1 i) (As := [.int (nI x.toNatClampNeg)]) (rest := rr.map (cV E)) ⟨g1, g2, g3, g4, g5⟩ (m_charAt (E := E) (X := X) hi hlt) ⟨callB_of 1 g5 (good_self 256 (by decide +kernel)) rfl rfl rfl (gg 78 (w := .initialized RJ0) (by decide +kernel) rfl g5) (g5 _ hl) (by decide +kernel) ⟨by show 3 + 1 ≤ R.frames; omega, by show 8 + (2 + 11) + 96 ≤ R.locals; omega⟩, gg 254 (w := .instanceMethod yJ0_charAt_5068e) (by decide +kernel) rfl g5, gg 255 (w := .selects RJ0 yJ0_charAt_5068e yJ0_charAt_5068e) (by decide +kernel) rfl g5⟩
      ⟨blind_B (fun U V _ h => h), vk_recv hvS hi hS, fun U hU hW2 => ⟨rfl, trivial, g60.moved hW2 (fun a ha => by
        rw [hU]
        exact hS.2.1 a (Nat.lt_of_lt_of_le ha hz10) (Nat.not_le.mpr ha)) (by rw [hU]; exact Nat.le_trans hz10 hS.1)⟩⟩ rfl rfl hL.1.1 (by rw [List.map_cons, hcx]; rfl) (lv_room (by rw [csum_eq]; exact h16)) hd ⟨by omega, by omega⟩) ?_
    intro v st1 t L h0 hq hLL
    obtain ⟨hq1, hq2⟩ := hq
    cases hq1
    exact fin (vI (nSch i x.toNatClampNeg)) rr H locs L lsC t st1 h1 (okl_tl (okl_tl h2)) trivial h3 hW hL hS hK hq2 h0 hLL
end
