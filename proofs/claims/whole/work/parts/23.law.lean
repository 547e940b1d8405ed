/-! THE CLAIM OUT OF ONE WALK OF THE LAW'S BODY. Your part is whole_start (and what it stands on); all else here is the same for every law, but numbers. -/
def R_law : String := "SandInTheShoeLaw"
def lw_P (b : Addr) (xs : List Int32) (args : Array Value) (s : State) : Prop := args = #[.ref b] ∧ s.IntsAt b xs ∧ xs.length ≤ 3072 ∧ (Jvm.Cond.and given_1 narrow_1).before args s = true
def lw_Q (_ : Array Value) (s : State) (o : Outcome) (t : State) : Prop := o = .returned (some (.int 1)) ∧ Framed s o t [] 600000 7302250
def lw_Z (below : List Frame) (a : Array Value) (s : State) : State → Prop := fun t => ∃ o, t.status = .running ∧ Ended t below o ∧ lw_Q a s o t
/-- the law's own end, with 1 on the stack, nothing written that was there before, its room as the claim has it -/
theorem lw_ret {p : Program} {l : Launch} {e : Env} {s : State} {m : MethodId} {below : List Frame} {meth : Method} {c : Code} {b : Nat} (hx : p.tables.exec = Jvm.exec) (hb : c.code = code) (hr : meth.sig.returnType = ret) (hlocks : meth.locks = false) {pc : Nat} {H : Heap} {ls : Array Slot} (hdg : decode code pc = .ok (.ireturn, 1)) : W p l e room_1 s m #[Value.ref b] below meth c H [] 600000 7302250 (lw_Z below #[Value.ref b] s) (F0 m pc ls [.int 1]) := by
  intro T hT X
  obtain ⟨fs, hret, hrun, hended, hW, hframe⟩ := X.leave (v := some (.int 1)) (hlocks := hlocks) (fun h => by rw [hr] at h; cases h)
  have hmeth' : T.vm.method? m = some meth := X.method'
  refine ⟨T.setFrames fs, ?_, .returned (some (.int 1)), hrun, hended, rfl, ⟨_, rfl⟩, hW, hframe⟩
  jvm_step X.here [X.here.top, hx, hb, hdg, hmeth', hr, ret, narrow_b1]
  (try refine ⟨rfl, ?_⟩); (try refine ⟨rfl, ?_⟩)
  first | (intro acts; rw [hret _ acts rfl rfl rfl]) | rw [hret _ _ rfl rfl rfl]
  exact Steps.refl _
/-- what holds at the law's entry: the machine, the code, the tables' words (any of lw_tbl by 'hts w (by decide +kernel)'), the script of L ints xs at the cell b, what the Statement gives of the start (any of its parts by flat_of_before) -/
def lw_At (p : Program) (s : State) (m : MethodId) (meth : Method) (c : Code) (b L : Nat) (xs : Nat → Int32) : Prop :=
  p.tables.exec = Jvm.exec ∧ c.code = code ∧ meth.sig.returnType = ret ∧ c.maxLocals = 4 ∧ s.vm.findClass R_law = some m.cls ∧ (∀ w ∈ lw_tbl, w.before #[Value.ref b] s = true) ∧ va_X b L xs s s.heap ∧ b < s.heap.size ∧ meth.locks = false ∧ (Jvm.Cond.and given_1 narrow_1).before #[Value.ref b] s = true

/-! the law's start: its surroundings, its run -/
theorem nest_in : ∀ w ∈ nestL, w ∈ lw_tbl := by decide +kernel
theorem nest_tab : ∀ w ∈ nestL, w.onTables = true := by decide +kernel
theorem strW_in : ∀ q ∈ strO, Cond.stringRef q.1 q.2.1 q.2.2 ∈ lw_tbl := by decide +kernel
theorem law_KF {s : State} {b L : Nat} {xs : Nat → Int32} (hL : L ≤ 3072) (hts : ∀ w ∈ lw_tbl, w.before #[Value.ref b] s = true) (hX : va_X b L xs s s.heap) (hb : b < s.heap.size) (hg : (Cond.and given_1 narrow_1).before #[Value.ref b] s = true) :
    ∃ E : EnvT, E.1 = (s.heap.size, b) ∧ KF E (L, xs) s := by
  have hs := flat_of_before _ hg
  have hA : ∀ a : Nat, a < s.heap.size → ¬ (fun q : Nat => s.heap.size ≤ q) a := fun a h9 => Nat.not_le.mpr h9
  have hcl : ∀ q ∈ vwCl, ∃ x : ClassId × (Nat → Nat), u_Kn s q.1 q.2.1 q.2.2 x.1 x.2 := by
    refine List.forall_mem_cons.mpr ⟨?_, List.forall_mem_cons.mpr ⟨?_, List.forall_mem_cons.mpr ⟨?_, List.forall_mem_cons.mpr ⟨?_, List.forall_mem_cons.mpr ⟨?_, List.forall_mem_cons.mpr ⟨?_, List.forall_mem_cons.mpr ⟨?_, fun _ h => absurd h List.not_mem_nil⟩⟩⟩⟩⟩⟩⟩
    · obtain ⟨cC, iS, h⟩ := u_known (C := RX0) (T := TX0) (N := 8) (n := 8) hts inX0 (hts (.instantiable RX0 8) (by decide +kernel))
      exact ⟨(cC, iS), h⟩
    · obtain ⟨cC, iS, h⟩ := u_known (C := RX2) (T := TX2) (N := 9) (n := 9) hts inX2 (hts (.instantiable RX2 9) (by decide +kernel))
      exact ⟨(cC, iS), h⟩
    · obtain ⟨cC, iS, h⟩ := u_known (C := RX3) (T := TX3) (N := 3) (n := 3) hts inX3 (hts (.instantiable RX3 3) (by decide +kernel))
      exact ⟨(cC, iS), h⟩
    · obtain ⟨cC, iS, h⟩ := u_known (C := RX4) (T := TX4) (N := 2) (n := 2) hts inX4 (hts (.instantiable RX4 2) (by decide +kernel))
      exact ⟨(cC, iS), h⟩
    · obtain ⟨cC, iS, h⟩ := u_known (C := RX5) (T := TX5) (N := 8) (n := 8) hts inX5 (hts (.instantiable RX5 8) (by decide +kernel))
      exact ⟨(cC, iS), h⟩
    · obtain ⟨cC, iS, h⟩ := u_known (C := RX6) (T := TX6) (N := 12) (n := 12) hts inX6 (hts (.instantiable RX6 12) (by decide +kernel))
      exact ⟨(cC, iS), h⟩
    · obtain ⟨cC, iS, h⟩ := u_known (C := RX7) (T := TX7) (N := 49) (n := 49) hts inX7 (hts (.instantiable RX7 49) (by decide +kernel))
      exact ⟨(cC, iS), h⟩
  have hD : ∃ D : va_G, ∀ (k : Nat) (q : vw_C), vwCl[k]? = some q → u_Kn s q.1 q.2.1 q.2.2 (D.1 k) (D.2 k) := by
    have h0 : ∀ k : Nat, ∃ x : ClassId × (Nat → Nat), ∀ q : vw_C, vwCl[k]? = some q → u_Kn s q.1 q.2.1 q.2.2 x.1 x.2 := by
      intro k
      rcases hk : vwCl[k]? with _ | q
      · exact ⟨(0, fun _ => 0), fun q h => by cases h⟩
      · obtain ⟨x, hx⟩ := hcl q (List.mem_of_getElem? hk)
        exact ⟨x, fun q2 h => by cases h; exact hx⟩
    obtain ⟨f, hf⟩ : ∃ f : Nat → ClassId × (Nat → Nat), ∀ k, ∀ q : vw_C, vwCl[k]? = some q → u_Kn s q.1 q.2.1 q.2.2 (f k).1 (f k).2 := ⟨fun k => Classical.choose (h0 k), fun k => Classical.choose_spec (h0 k)⟩
    exact ⟨(fun k => (f k).1, fun k => (f k).2), fun k q h => hf k q h⟩
  obtain ⟨D, hD⟩ := hD
  have harr : ∀ ty : FieldType, (∀ C, ty ≠ .object C) → Cond.arrayClass ty ∈ lw_tbl → ∃ cA, ArrOfT s cA ty ∧ va_RA s cA ty := by
    intro ty hty hin
    obtain ⟨cA, kA, comp, h1, h2, h3⟩ := Cond.arrayClass_spec (args := #[Value.ref b]) (first := s) (o := none) (s := s) (idx := []) (hts _ hin)
    refine ⟨cA, fun n z => ⟨(fun k h => by cases h), kA, h2, comp, h3⟩, ?_⟩
    unfold va_RA
    cases ty
    case object C => exact absurd rfl (hty C)
    all_goals exact h1
  have harq : ∀ C : String, Cond.arrayOver (.object C) ∈ lw_tbl → ∃ cA, ArrOfT s cA (.object C) ∧ va_RA s cA (.object C) := by
    intro C hin
    obtain ⟨comp, cA, kA, h1, h2, h3, h4, h5⟩ := Cond.arrayOver_spec (args := #[Value.ref b]) (first := s) (o := none) (s := s) (idx := []) (hts _ hin)
    exact ⟨cA, fun n z => ⟨(fun k h => by cases h), kA, h3, comp, h4⟩, kA, comp, h3, h4, h1, h5⟩
  obtain ⟨cI, hI⟩ := harr .int (fun C h => by cases h) (by decide +kernel)
  obtain ⟨cZ, hZ⟩ := harr .boolean (fun C h => by cases h) (by decide +kernel)
  obtain ⟨cT, hT⟩ := harq RX4 (by decide +kernel)
  obtain ⟨cS, hS⟩ := harq RX3 (by decide +kernel)
  obtain ⟨adK, adV, hV, hEv⟩ := vk_Sof (args := #[Value.ref b]) (s := s) (N := 13) (tm := tmJ) (len := strN) (byt := strB) (A := fun q : Nat => s.heap.size ≤ q) (fun i hi => (str_lt i hi).1) (fun i hi => hs _ (jEx_in i hi)) (fun i hi => hs _ (jCo_in i hi)) (fun i hi => hs _ (jAr_in i hi)) (fun i hi => hs _ (jLe_in i hi))
    (fun i hi j hj => hs _ (jEl_in i hi j hj)) (fun i j hi hj hn => (jNe_in i hi j hj hn).imp (fun h => hs _ h) (fun h => hs _ h)) hA
  refine ⟨((s.heap.size, b), adK, D, (cI, cZ, cT, cS)), rfl, ⟨hD, ?_⟩, fun w hw => va_Nw.of (nest_tab w hw) (hts w (nest_in w hw)), ⟨va_AO.of (hts (.arrayOver (.object RX4)) (by decide +kernel)), va_AO.of (hts (.arrayOver (.object RX3)) (by decide +kernel))⟩, ?_, ⟨adV, hV⟩, ?_, ?_, hX, hb, Nat.le_refl _, by show L < 2 ^ 31; omega⟩
  · intro k q hq
    rcases k with _ | _ | _ | _ | k
    · cases hq; exact hI
    · cases hq; exact hZ
    · cases hq; exact hT
    · cases hq; exact hS
    · cases hq
  · intro i q hq
    have hi : i < 13 := (List.getElem?_eq_some_iff.mp hq).1
    have hv := hEv i hi
    unfold tmJ at hv
    rw [hq] at hv
    exact vk_R.of (hts _ (strW_in q (List.mem_of_getElem? hq))) hv
  · exact va_Zof (hts (.laysStatic "java/lang/String" "COMPACT_STRINGS" "Z") (by decide +kernel)) (hts (.initialized "java/lang/String") (by decide +kernel)) (va_eqi (hs _ jCs_in)) hA
  · exact va_Zqof (hts (.laysStatic "jdk/internal/util/Preconditions" "SIOOBE_FORMATTER" "Ljava/util/function/BiFunction;") (by decide +kernel)) (hts (.initialized "jdk/internal/util/Preconditions") (by decide +kernel)) (hs _ jQ_in) hA
def mem0 : Mem := (fun _ _ _ => 0, 0, false, false, [], 0, 0)
theorem WD_mem0 (E : EnvT) {H : Heap} (h : H.size = E.1.1) : WD E mem0 H := ⟨(fun k q hq => by cases hq), (by rw [h]; rfl), fun h => (by cases h), fun h => (by cases h), fun _ h => by cases h⟩
theorem law_end {s : State} {below : List Frame} {b mc ms : Nat} {A : Nat → Prop} (hA : ∀ q, A q → s.heap.size ≤ q) (h1 : mc ≤ 600000) (h2 : ms ≤ 7302250) {t : State} (h : MQ below (fun _ _ o _ => o = .returned (some (.int 1))) #[Value.ref b] s mc ms A t) : lw_Z below #[Value.ref b] s t := by
  obtain ⟨o, hr, he, hq, L, hF, hLf⟩ := h
  refine ⟨o, hr, he, hq, hF.1, hF.2.1, ?_⟩
  exact (State.sameButNew.drop_fresh (L := []) (J := L) hF.2.2 (fun x hx => hA _ (hLf x hx))).mono h1 h2
theorem whole_of {p : Program} {e : Env} {s : State} {m : MethodId} {below : List Frame} {meth : Method} {c : Code} (l : Launch) {b L : Nat} {xs : Nat → Int32} (hL : L ≤ 3072) (C0 : lw_At p s m meth c b L xs) {r2 : Mem}
    (hrun : nR (L, xs) (callN (L, xs) 256) hL_law 0 [vR 70 0, vX, vX, vX] [] mem0 = some (some (vI 1), r2)) (hmc : nT r2 ≤ 600000 ∧ nU r2 ≤ 7302250) : W p l e room_1 s m #[Value.ref b] below meth c s.heap [] 0 0 (lw_Z below #[Value.ref b] s) (entryFrame m ([Value.ref b] : List Value).toArray 4) := by
  obtain ⟨c1, c2, c3, c4, c5, c6, c7, c8, c9, c10⟩ := C0
  obtain ⟨E, hE, hKF⟩ := law_KF hL c6 c7 c8 c10
  have hE1 : E.1.1 = s.heap.size := congrArg Prod.fst hE
  have hE2 : E.1.2 = b := congrArg Prod.snd hE
  obtain ⟨n, hn⟩ := (nR_iff (L, xs) (callN (L, xs) 256) hL_law).mp hrun
  have hC : Ctx E (L, xs) p room_1 s m #[Value.ref b] meth c code 4 RL false := ⟨c1, c2, c4, c5, fun w hw => c6 w (List.mem_filter.mp hw).1, hKF, fun h => by cases h⟩
  have hl : lv_has ((lg_sl [Value.ref b] ++ List.replicate (4 - (lg_sl [Value.ref b]).length) Slot.unset).toArray) 4 (lv_args 0 [Value.ref b]) := lv_entry [Value.ref b] (n := 4) (Nat.le_of_ble_eq_true rfl)
  have hav : [Value.ref b] = [vR 70 0].map (cV E) := by
    show [Value.ref b] = [Value.ref E.1.2]
    rw [hE2]
  have hLH : LH E 4 ((lg_sl [Value.ref b] ++ List.replicate (4 - (lg_sl [Value.ref b]).length) Slot.unset).toArray) [vR 70 0, vX, vX, vX] := by
    rw [hav] at hl ⊢
    exact LH_start (av := [vR 70 0]) E hl
  have h1 := Wf_run (s0 := mem0) (below := below) (e := e) (l := l) (d := 256) (r := (some (vI 1), r2)) (Qc := fun _ _ o _ => o = .returned (some (.int 1))) hC (by rw [hE1]; rfl) ⟨Nat.le_of_ble_eq_true rfl, Nat.le_of_ble_eq_true rfl⟩ (snd_callN E (L, xs) l 256) (callN_mono (L, xs) 256) (Or.inl rfl) ckLaw c3 rfl c9
    ⟨by show nT r2 ≤ 0 + 600000; rw [Nat.zero_add]; exact hmc.1, by show nU r2 ≤ 0 + 7302250; rw [Nat.zero_add]; exact hmc.2⟩ (fun _ _ _ _ => rfl) n 0 _ _ _ hn
    (fun v hv => by
      simp only [List.mem_cons, List.not_mem_nil, or_false] at hv
      rcases hv with rfl | rfl | rfl | rfl
      · exact Or.inr (Or.inr (Or.inl rfl))
      · exact Or.inl rfl
      · exact Or.inl rfl
      · exact Or.inl rfl) (fun v hv => by cases hv) ⟨Nat.le_refl _, Nat.le_refl _⟩ s.heap [] _ (WD_mem0 E hE1.symm) hLH ⟨Nat.le_refl _, fun _ _ _ => rfl, fun _ h => by cases h⟩
  rw [lg_entry_eq]
  intro T hT X0
  obtain ⟨t, a1, a2⟩ := h1 T hT X0
  exact ⟨t, a1, law_end (mc := nT r2 - nT mem0) (ms := nU r2 - nU mem0) (fun q hq => by rw [← hE1]; exact hq) (by have := hmc.1; omega) (by have := hmc.2; omega) a2⟩
