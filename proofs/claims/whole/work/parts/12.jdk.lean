/-! calls, and the host's own methods on text constants -/
theorem good_self {y : MethodName} {cc : ByteArray} {n : Nat} {ret : Option FieldType} (i : Nat) (h : lw_tbl[i]? = some (.code y cc n ret)) : GoodIn gT (Cond.code y cc n ret :: gT) := by
  intro w hw
  rcases List.mem_cons.mp hw with rfl | hw
  · exact ⟨gT_in i h rfl, good_of_word rfl⟩
  · exact ⟨hw, good_of_word (gT_good hw)⟩
theorem W_run {p : Program} {l : Launch} {e : Env} {R : Room} {s : State} {m : MethodId} {args : Array Value} {below : List Frame} {meth : Method} {c : Code} {Q : State → Prop} {H : Heap} {locs : List Loc} {cells slots mc ms pc : Nat} {lsC : Array Slot} {st0 rest : List Value} {Qa : State → Outcome → State → Prop} {free : Addr → Prop}
    (hr : va_Run p l e R s m args below meth c H locs cells slots mc ms (F0 m pc lsC st0) rest Qa free)
    (kk : ∀ (v : Option Value) (st1 t : State) (L : List Loc), st1.heap = H → Qa st1 (.returned v) t → (∀ q ∈ L, free q.base) → W p l e R s m args below meth c t.heap (locs ++ L) (cells + mc) (slots + ms) Q (F0 m (pc + 3) lsC (v.toList ++ rest))) : W p l e R s m args below meth c H locs cells slots Q (F0 m pc lsC st0) := by
  intro T hT X
  obtain ⟨v, st1, t, T', L, h0, X', hL, e1, e2, hq, st⟩ := hr T hT X
  obtain ⟨t2, a1, b1⟩ := kk v st1 t L h0 hq hL T' e1 X'
  exact ⟨t2, st t2 a1, b1⟩
/-- a method's start: its surroundings stand -/
theorem met_in {l : Launch} {E : EnvT} {X : Nat × (Nat → Int32)} {y : MethodName} {cc : ByteArray} {maxL : Nat} {ret : Option FieldType} {rm : Room} {av : List Value} {B : State → Prop} {Qc : Array Value → State → Outcome → State → Prop} {mc ms : Nat} (ini : Bool) (hini : ini = true → y.name = "<init>") (hy : plainName y.cls = true) (hlen : (lg_sl av).length ≤ maxL)
    (body : ∀ (p : Program) (e : Env) (s : State) (m : MethodId) (below : List Frame) (meth : Method) (c : Code), Ctx E X p rm s m av.toArray meth c cc maxL y.cls ini → meth.sig.returnType = ret → meth.locks = false → B s → ∀ lsC, lv_has lsC maxL (lv_args 0 av) →
      W p l e rm s m av.toArray below meth c s.heap [] 0 0 (MQ below Qc av.toArray s mc ms (aF E)) (F0 m 0 lsC [])) : Met l y (Cond.code y cc maxL ret :: gT) rm (va_Pc av (fun U => B U ∧ KF E X U)) Qc mc ms (aF E) := by
  refine Met.ofW (cc := cc) (maxL := maxL) (ret := ret) hy rfl ?_
  intro p e s m args below meth c s₁ Bd hml hv
  obtain ⟨rfl, hB, hKF⟩ := hv
  have hts := atoms_spec (ws := Cond.code y cc maxL ret :: gT) Bd.pre
  have hown : s.vm.findClass y.cls = some m.cls := findClass_of_methodNamed Bd.named
  have hl := lv_entry av (n := maxL) hlen
  rw [lg_entry_eq]
  exact body p e s m below meth c ⟨Bd.exec, Bd.bytes, hml, hown, fun w hw => hts w (List.mem_cons_of_mem _ hw), hKF, fun h => (name_of_methodNamed Bd.named Bd.method).1.trans (hini h)⟩ Bd.returns Bd.notSynchronized hB _ hl
def QJ (v : Option Value) : Array Value → State → Outcome → State → Prop := fun _ st o t => o = .returned v ∧ t.heap = st.heap
def BT : State → Prop := fun _ => True
theorem blind_B {E : EnvT} {X : Nat × (Nat → Int32)} {av : List Value} {B : State → Prop} (hB : ∀ (U V : State), V.heap = U.heap → B U → B V) : FrameBlind (va_Pc av (fun U => B U ∧ KF E X U)) := by
  intro a U g mk h
  exact ⟨h.1, hB U _ rfl h.2.1, h.2.2.same rfl rfl⟩
def rmJ (k : Nat) : Room := { frames := k, cells := 0, slots := 0, locals := 32 * k }
section
variable {E : EnvT} {X : Nat × (Nat → Int32)} {l : Launch}
theorem str_lt : ∀ i, i < 13 → strN.getD i 0 < 2 ^ 31 ∧ strN.getD i 0 = nSlen i := by decide +kernel
theorem gg (i : Nat) {w : Cond} (h : lw_tbl[i]? = some w) (hg : goodWord w = true) {args : Array Value} {s : State} (hts : ∀ w ∈ gT, w.before args s = true) : w.before args s = true := hts w (gT_in i h hg)
theorem m_coder {i : Nat} (hi : i < 13) : Met l yJ0_coder_7d493 (Cond.code yJ0_coder_7d493 cJ0_coder_7d493 1 (some .byte) :: gT) (rmJ 0) (va_Pc [.ref (E.2.1 i)] (fun U => BT U ∧ KF E X U)) (QJ (some (.int 0))) 0 0 (aF E) := by
  refine met_in false (fun h => by cases h) (by decide +kernel) (Nat.le_of_ble_eq_true rfl) ?_
  intro p e s m below meth c hC hr hlocks _ lsC hl
  obtain ⟨hx, hb, hml, hown, hts, hKF, -⟩ := hC
  obtain ⟨-, -, -, -, ⟨adV, hvS⟩, hZ, -, -⟩ := hKF
  have hl : lv_has lsC 1 [(0, .ref (E.2.1 i))] := hl
  refine va_gets hx hb hZ va_S.rf hown (gg 251 (w := .fieldLink RJ0 38 "java/lang/String" "COMPACT_STRINGS" "Z") (by decide +kernel) rfl hts) (fun _ h => h) (by decide +kernel : decode cJ0_coder_7d493 0 = .ok (.getstatic 38, 3)) ?_
  refine lv_if_eq (tgt := 13) hx hb (by decide +kernel : decode cJ0_coder_7d493 3 = .ok (.ifCond .eq 10, 3)) (by decide) (fun h => absurd h (by decide)) (fun _ => ?_)
  refine lv_aload_n hx hb (by decide +kernel : decode cJ0_coder_7d493 6 = .ok (.aload_n 0, 1)) rfl (lv_at hl 0 rfl) ?_
  refine vk_getf hx hb (hvS.1 i hi).2.1 va_S.rf hown (gg 1260 (w := .fieldLink RJ0 15 "java/lang/String" "coder" "B") (by decide +kernel) rfl hts) (fun _ h => h) (by decide +kernel : decode cJ0_coder_7d493 7 = .ok (.getfield 15, 3)) ?_
  refine lv_goto (tgt := 14) hx hb (by decide +kernel : decode cJ0_coder_7d493 10 = .ok (.goto 4, 3)) (by decide) ?_
  exact W.zret hx hb hr rfl (fun t ht _ => ⟨rfl, ht⟩) (fun q h => by cases h) (by decide +kernel : decode cJ0_coder_7d493 14 = .ok (.ireturn, 1))
theorem m_isLatin1 {i : Nat} (hi : i < 13) : Met l yJ0_isLatin1_aae02 (Cond.code yJ0_isLatin1_aae02 cJ0_isLatin1_aae02 1 (some .boolean) :: gT) (rmJ 0) (va_Pc [.ref (E.2.1 i)] (fun U => BT U ∧ KF E X U)) (QJ (some (.int 1))) 0 0 (aF E) := by
  refine met_in false (fun h => by cases h) (by decide +kernel) (Nat.le_of_ble_eq_true rfl) ?_
  intro p e s m below meth c hC hr hlocks _ lsC hl
  obtain ⟨hx, hb, hml, hown, hts, hKF, -⟩ := hC
  obtain ⟨-, -, -, -, ⟨adV, hvS⟩, hZ, -, -⟩ := hKF
  have hl : lv_has lsC 1 [(0, .ref (E.2.1 i))] := hl
  refine va_gets hx hb hZ va_S.rf hown (gg 251 (w := .fieldLink RJ0 38 "java/lang/String" "COMPACT_STRINGS" "Z") (by decide +kernel) rfl hts) (fun _ h => h) (by decide +kernel : decode cJ0_isLatin1_aae02 0 = .ok (.getstatic 38, 3)) ?_
  refine lv_if_eq (tgt := 17) hx hb (by decide +kernel : decode cJ0_isLatin1_aae02 3 = .ok (.ifCond .eq 14, 3)) (by decide) (fun h => absurd h (by decide)) (fun _ => ?_)
  refine lv_aload_n hx hb (by decide +kernel : decode cJ0_isLatin1_aae02 6 = .ok (.aload_n 0, 1)) rfl (lv_at hl 0 rfl) ?_
  refine vk_getf hx hb (hvS.1 i hi).2.1 va_S.rf hown (gg 1260 (w := .fieldLink RJ0 15 "java/lang/String" "coder" "B") (by decide +kernel) rfl hts) (fun _ h => h) (by decide +kernel : decode cJ0_isLatin1_aae02 7 = .ok (.getfield 15, 3)) ?_
  refine lv_if_ne (tgt := 17) hx hb (by decide +kernel : decode cJ0_isLatin1_aae02 10 = .ok (.ifCond .ne 7, 3)) (by decide) (fun h => absurd rfl h) (fun _ => ?_)
  refine lv_iconst (v := 1) hx hb (by decide +kernel : decode cJ0_isLatin1_aae02 13 = .ok (.iconst 1, 1)) (by decide) ?_
  refine lv_goto (tgt := 18) hx hb (by decide +kernel : decode cJ0_isLatin1_aae02 14 = .ok (.goto 4, 3)) (by decide) ?_
  exact W.zret hx hb hr rfl (fun t ht _ => ⟨rfl, ht⟩) (fun q h => by cases h) (by decide +kernel : decode cJ0_isLatin1_aae02 18 = .ok (.ireturn, 1))
theorem m_check3 {k n : Nat} (hk : k < n) (hn : n < 2 ^ 31) (z : Value) : Met l yJ3_checkIndex_8e157 (Cond.code yJ3_checkIndex_8e157 cJ3_checkIndex_8e157 3 (some .int) :: gT) (rmJ 0) (va_Pc [.int (nI k), .int (nI n), z] (fun U => (BT U ∧ z.category = 1) ∧ KF E X U)) (QJ (some (.int (nI k)))) 0 0 (aF E) := by
  by_cases hz : z.category = 1
  · refine met_in (B := fun U => BT U ∧ z.category = 1) false (fun h => by cases h) (by decide +kernel) (by cases z <;> first | exact Nat.le_of_ble_eq_true rfl | cases hz) ?_
    intro p e s m below meth c hC hr hlocks _ lsC hl
    obtain ⟨hx, hb, hml, hown, hts, hKF, -⟩ := hC
    have hl : lv_has lsC 3 [(0, .int (nI k)), (1, .int (nI n)), (2, z)] := hl
    refine lv_iload_n hx hb (by decide +kernel : decode cJ3_checkIndex_8e157 0 = .ok (.iload_n 0, 1)) rfl (lv_at hl 0 rfl) ?_
    refine lv_if_lt (tgt := 9) hx hb (by decide +kernel : decode cJ3_checkIndex_8e157 1 = .ok (.ifCond .lt 8, 3)) (by decide) (fun h => absurd h (nI_pos (by omega))) (fun _ => ?_)
    refine lv_iload_n hx hb (by decide +kernel : decode cJ3_checkIndex_8e157 4 = .ok (.iload_n 0, 1)) rfl (lv_at hl 0 rfl) ?_
    refine lv_iload_n hx hb (by decide +kernel : decode cJ3_checkIndex_8e157 5 = .ok (.iload_n 1, 1)) rfl (lv_at hl 1 rfl) ?_
    refine lv_icmp_lt (tgt := 16) hx hb (by decide +kernel : decode cJ3_checkIndex_8e157 6 = .ok (.if_icmp .lt 10, 3)) (by decide) (fun _ => ?_) (fun h => absurd (nI_lt hk hn) h)
    refine lv_iload_n hx hb (by decide +kernel : decode cJ3_checkIndex_8e157 16 = .ok (.iload_n 0, 1)) rfl (lv_at hl 0 rfl) ?_
    exact W.iret hx hb hr (fun t ht _ => ⟨rfl, ht⟩) (fun q h => by cases h) (by decide +kernel : decode cJ3_checkIndex_8e157 17 = .ok (.ireturn, 1))
  · refine Met.ofW (cc := cJ3_checkIndex_8e157) (maxL := 3) (ret := some .int) (by decide +kernel) rfl ?_
    intro p e s m args below meth c s₁ Bd hml hv
    exact absurd hv.2.1.2 hz
theorem m_checkS {k n : Nat} (hk : k < n) (hn : n < 2 ^ 31) : Met l yJ0_checkIndex_df160 (Cond.code yJ0_checkIndex_df160 cJ0_checkIndex_df160 2 none :: gT) (rmJ 1) (va_Pc [.int (nI k), .int (nI n)] (fun U => BT U ∧ KF E X U)) (QJ none) 0 0 (aF E) := by
  refine met_in false (fun h => by cases h) (by decide +kernel) (Nat.le_of_ble_eq_true rfl) ?_
  intro p e s m below meth c hC hr hlocks _ lsC hl
  obtain ⟨hx, hb, hml, hown, hts, hKF, -⟩ := hC
  have hKF0 := hKF
  obtain ⟨-, -, -, -, ⟨adV, hvS⟩, hZ, hZq, -, -, hz10, -⟩ := hKF
  have hl : lv_has lsC 2 [(0, .int (nI k)), (1, .int (nI n))] := hl
  refine lv_iload_n hx hb (by decide +kernel : decode cJ0_checkIndex_df160 0 = .ok (.iload_n 0, 1)) rfl (lv_at hl 0 rfl) ?_
  refine lv_iload_n hx hb (by decide +kernel : decode cJ0_checkIndex_df160 1 = .ok (.iload_n 1, 1)) rfl (lv_at hl 1 rfl) ?_
  have go : ∀ z : Value, z.category = 1 → va_Z "jdk/internal/util/Preconditions" "SIOOBE_FORMATTER" "Ljava/util/function/BiFunction;" z (aF E) s s.heap → W p l e (rmJ 1) s m [Value.int (nI k), Value.int (nI n)].toArray below meth c s.heap [] 0 0 (MQ below (QJ none) [Value.int (nI k), Value.int (nI n)].toArray s 0 0 (aF E)) (F0 m 2 lsC [.int (nI n), .int (nI k)]) := by
    intro z hz hZz
    refine va_gets hx hb hZz va_S.rf hown (gg 267 (w := .fieldLink RJ0 1053 "jdk/internal/util/Preconditions" "SIOOBE_FORMATTER" "Ljava/util/function/BiFunction;") (by decide +kernel) rfl hts) (fun _ h => h) (by decide +kernel : decode cJ0_checkIndex_df160 2 = .ok (.getstatic 1053, 3)) ?_
    refine W_run (va_runS (As := [.int (nI k), .int (nI n), z]) (rest := []) ⟨hx, hb, hml, hown, hts⟩ (m_check3 (E := E) (X := X) hk hn z) ⟨callB_of 3 hts (good_self 271 (by decide +kernel)) rfl rfl rfl (gg 80 (w := .initialized RJ3) (by decide +kernel) rfl hts) (gg 269 (w := .methodLink RJ0 1059 yJ3_checkIndex_8e157) (by decide +kernel) rfl hts) (by decide +kernel) ⟨by decide, by decide⟩, gg 270 (w := .static yJ3_checkIndex_8e157) (by decide +kernel) rfl hts⟩
      ⟨blind_B (fun U V _ h => h), fun U hU hW => ⟨rfl, ⟨trivial, hz⟩, hKF0.moved hW (fun a _ => by rw [hU]) (by rw [hU]; exact hz10)⟩⟩ rfl rfl hl.1 rfl (lv_room (Nat.le_of_ble_eq_true rfl)) (by decide +kernel : decode cJ0_checkIndex_df160 5 = .ok (.invokestatic 1059, 3)) ⟨by decide, by decide⟩) ?_
    intro v st1 t L h0 hq hL
    obtain ⟨hq1, hq2⟩ := hq
    cases hq1
    rw [hq2, h0]
    refine lv_pop hx hb (by decide +kernel : decode cJ0_checkIndex_df160 8 = .ok (.pop, 1)) rfl ?_
    exact W.vret hx hb hr (fun t ht _ => ⟨rfl, ht⟩) (fun q h => by
      rcases List.mem_append.mp h with h | h
      · cases h
      · exact hL q h) (by decide +kernel : decode cJ0_checkIndex_df160 9 = .ok (.return_, 1))
  rcases hZq with h | ⟨t, h⟩
  · exact go _ rfl h
  · exact go _ rfl h
theorem m_length {i : Nat} (hi : i < 13) : Met l yJ0_length_8abf5 (Cond.code yJ0_length_8abf5 cJ0_length_8abf5 1 (some .int) :: gT) (rmJ 1) (va_Pc [.ref (E.2.1 i)] (fun U => BT U ∧ KF E X U)) (QJ (some (.int (Int32.ofNat (nSlen i))))) 0 0 (aF E) := by
  refine met_in false (fun h => by cases h) (by decide +kernel) (Nat.le_of_ble_eq_true rfl) ?_
  intro p e s m below meth c hC hr hlocks _ lsC hl
  obtain ⟨hx, hb, hml, hown, hts, hKF, -⟩ := hC
  have hKF0 := hKF
  obtain ⟨-, -, -, -, ⟨adV, hvS⟩, hZ, -, -, -, hz10, -⟩ := hKF
  have hl : lv_has lsC 1 [(0, .ref (E.2.1 i))] := hl
  have hs := str_lt i hi
  refine lv_aload_n hx hb (by decide +kernel : decode cJ0_length_8abf5 0 = .ok (.aload_n 0, 1)) rfl (lv_at hl 0 rfl) ?_
  refine vk_getf hx hb (hvS.1 i hi).2.2.1 va_S.rf hown (gg 1259 (w := .fieldLink RJ0 9 "java/lang/String" "value" "[B") (by decide +kernel) rfl hts) (fun _ h => h) (by decide +kernel : decode cJ0_length_8abf5 1 = .ok (.getfield 9, 3)) ?_
  refine va_tlen hx hb (hvS.1 i hi).2.2.2 va_S.rf rfl (by decide +kernel : decode cJ0_length_8abf5 4 = .ok (.arraylength, 1)) ?_
  refine lv_aload_n hx hb (by decide +kernel : decode cJ0_length_8abf5 5 = .ok (.aload_n 0, 1)) rfl (lv_at hl 0 rfl) ?_
  refine W_run (va_runV (C := RJ0) (As := []) (rest := [.int (Int32.ofNat (strN.getD i 0))]) ⟨hx, hb, hml, hown, hts⟩ (m_coder (E := E) (X := X) hi) ⟨callB_of 0 hts (good_self 250 (by decide +kernel)) rfl rfl rfl (gg 78 (w := .initialized RJ0) (by decide +kernel) rfl hts) (gg 247 (w := .methodLink RJ0 335 yJ0_coder_7d493) (by decide +kernel) rfl hts) (by decide +kernel) ⟨by decide, by decide⟩, gg 248 (w := .instanceMethod yJ0_coder_7d493) (by decide +kernel) rfl hts, gg 249 (w := .selects RJ0 yJ0_coder_7d493 yJ0_coder_7d493) (by decide +kernel) rfl hts⟩
    ⟨blind_B (fun U V _ h => h), vk_recv hvS hi va_S.rf, fun U hU hW => ⟨rfl, trivial, hKF0.moved hW (fun a _ => by rw [hU]) (by rw [hU]; exact hz10)⟩⟩ rfl rfl hl.1 rfl (lv_room (Nat.le_of_ble_eq_true rfl)) (by decide +kernel : decode cJ0_length_8abf5 6 = .ok (.invokevirtual 335, 3)) ⟨by decide, by decide⟩) ?_
  intro v st1 t L h0 hq hL
  obtain ⟨hq1, hq2⟩ := hq
  cases hq1
  rw [hq2, h0]
  refine lv_ishr hx hb (by decide +kernel : decode cJ0_length_8abf5 9 = .ok (.ishr, 1)) ?_
  have e0 : Int32.ofNat (strN.getD i 0) >>> ((0 : Int32) &&& 31) = Int32.ofNat (nSlen i) := by
    rw [← hs.2]
    exact sc_shr0 hs.1
  rw [e0]
  exact W.iret hx hb hr (fun t ht _ => ⟨rfl, ht⟩) (fun q h => by
      rcases List.mem_append.mp h with h | h
      · cases h
      · exact hL q h) (by decide +kernel : decode cJ0_length_8abf5 10 = .ok (.ireturn, 1))
theorem str_ch : ∀ i, i < 13 → ∀ k, k < 40 → ((((strB.getD i []).getD k 0 &&& 255).toUInt32 % 65536).toInt32 = nSch i k ∧ narrow .char (.int (nSch i k)) = .int (nSch i k)) ∧ nSlen i ≤ 40 := by decide +kernel
theorem m_charL {i k : Nat} (hi : i < 13) (hk : k < nSlen i) {adV : Nat → Nat} : Met l yJ1_charAt_3b067 (Cond.code yJ1_charAt_3b067 cJ1_charAt_3b067 2 (some .char) :: gT) (rmJ 2) (va_Pc [.ref (adV i), .int (nI k)] (fun U => va_T .byte (adV i) (strN.getD i 0) (fun j => .int ((strB.getD i []).getD j 0)) (aF E) U U.heap ∧ KF E X U)) (QJ (some (.int (nSch i k)))) 0 0 (aF E) := by
  refine met_in false (fun h => by cases h) (by decide +kernel) (Nat.le_of_ble_eq_true rfl) ?_
  intro p e s m below meth c hC hr hlocks hT lsC hl
  obtain ⟨hx, hb, hml, hown, hts, hKF, -⟩ := hC
  have hKF0 := hKF
  obtain ⟨-, -, -, -, -, hZ, -, -, -, hz10, -⟩ := hKF
  have hl : lv_has lsC 2 [(0, .ref (adV i)), (1, .int (nI k))] := hl
  have hs := str_lt i hi
  have hk40 : k < 40 := Nat.lt_of_lt_of_le hk (str_ch i hi 0 (by decide)).2
  refine lv_iload_n hx hb (by decide +kernel : decode cJ1_charAt_3b067 0 = .ok (.iload_n 1, 1)) rfl (lv_at hl 1 rfl) ?_
  refine lv_aload_n hx hb (by decide +kernel : decode cJ1_charAt_3b067 1 = .ok (.aload_n 0, 1)) rfl (lv_at hl 0 rfl) ?_
  refine va_tlen hx hb hT va_S.rf rfl (by decide +kernel : decode cJ1_charAt_3b067 2 = .ok (.arraylength, 1)) ?_
  refine W_run (va_runS (As := [.int (nI k), .int (nI (strN.getD i 0))]) (rest := []) ⟨hx, hb, hml, hown, hts⟩ (m_checkS (E := E) (X := X) (k := k) (n := strN.getD i 0) (by omega) hs.1) ⟨callB_of 2 hts (good_self 266 (by decide +kernel)) rfl rfl rfl (gg 78 (w := .initialized RJ0) (by decide +kernel) rfl hts) (gg 264 (w := .methodLink RJ1 9 yJ0_checkIndex_df160) (by decide +kernel) rfl hts) (by decide +kernel) ⟨by decide, by decide⟩, gg 265 (w := .static yJ0_checkIndex_df160) (by decide +kernel) rfl hts⟩
    ⟨blind_B (fun U V _ h => h), fun U hU hW => ⟨rfl, trivial, hKF0.moved hW (fun a _ => by rw [hU]) (by rw [hU]; exact hz10)⟩⟩ rfl rfl hl.1 rfl (lv_room (Nat.le_of_ble_eq_true rfl)) (by decide +kernel : decode cJ1_charAt_3b067 3 = .ok (.invokestatic 9, 3)) ⟨by decide, by decide⟩) ?_
  intro v st1 t L h0 hq hL
  obtain ⟨hq1, hq2⟩ := hq
  cases hq1
  rw [hq2, h0]
  have hS2 : va_S (aF E) s.heap s.heap ([] ++ L) := ⟨Nat.le_refl _, fun _ _ _ => rfl, fun q h => by
    rcases List.mem_append.mp h with h | h
    · cases h
    · exact hL q h⟩
  refine lv_aload_n hx hb (by decide +kernel : decode cJ1_charAt_3b067 6 = .ok (.aload_n 0, 1)) rfl (lv_at hl 0 rfl) ?_
  refine lv_iload_n hx hb (by decide +kernel : decode cJ1_charAt_3b067 7 = .ok (.iload_n 1, 1)) rfl (lv_at hl 1 rfl) ?_
  refine va_tb hx hb hT hS2 (vp_in_nI (by omega) hs.1) rfl (by decide +kernel : decode cJ1_charAt_3b067 8 = .ok (.baload, 1)) ?_
  refine lv_sipush (v := 255) hx hb (by decide +kernel : decode cJ1_charAt_3b067 9 = .ok (.sipush 255, 3)) (by decide) ?_
  refine lv_iand hx hb (by decide +kernel : decode cJ1_charAt_3b067 12 = .ok (.iand, 1)) ?_
  rw [nI_clamp (by omega)]
  refine lv_i2c hx hb (by decide +kernel : decode cJ1_charAt_3b067 13 = .ok (.i2c, 1)) (str_ch i hi k hk40).1.1 ?_
  exact W.zret hx hb hr (str_ch i hi k hk40).1.2 (fun t ht _ => ⟨rfl, ht⟩) hS2.2.2 (by decide +kernel : decode cJ1_charAt_3b067 14 = .ok (.ireturn, 1))
theorem m_charAt {i k : Nat} (hi : i < 13) (hk : k < nSlen i) : Met l yJ0_charAt_5068e (Cond.code yJ0_charAt_5068e cJ0_charAt_5068e 2 (some .char) :: gT) (rmJ 3) (va_Pc [.ref (E.2.1 i), .int (nI k)] (fun U => BT U ∧ KF E X U)) (QJ (some (.int (nSch i k)))) 0 0 (aF E) := by
  refine met_in false (fun h => by cases h) (by decide +kernel) (Nat.le_of_ble_eq_true rfl) ?_
  intro p e s m below meth c hC hr hlocks _ lsC hl
  obtain ⟨hx, hb, hml, hown, hts, hKF, -⟩ := hC
  have hKF0 := hKF
  obtain ⟨-, -, -, -, ⟨adV, hvS⟩, hZ, -, -, -, hz10, -⟩ := hKF
  have hl : lv_has lsC 2 [(0, .ref (E.2.1 i)), (1, .int (nI k))] := hl
  have hs := str_lt i hi
  have hk40 : k < 40 := Nat.lt_of_lt_of_le hk (str_ch i hi 0 (by decide)).2
  refine lv_aload_n hx hb (by decide +kernel : decode cJ0_charAt_5068e 0 = .ok (.aload_n 0, 1)) rfl (lv_at hl 0 rfl) ?_
  refine W_run (va_runV (C := RJ0) (As := []) (rest := []) ⟨hx, hb, hml, hown, hts⟩ (m_isLatin1 (E := E) (X := X) hi) ⟨callB_of 0 hts (good_self 260 (by decide +kernel)) rfl rfl rfl (gg 78 (w := .initialized RJ0) (by decide +kernel) rfl hts) (gg 257 (w := .methodLink RJ0 492 yJ0_isLatin1_aae02) (by decide +kernel) rfl hts) (by decide +kernel) ⟨by decide, by decide⟩, gg 258 (w := .instanceMethod yJ0_isLatin1_aae02) (by decide +kernel) rfl hts, gg 259 (w := .selects RJ0 yJ0_isLatin1_aae02 yJ0_isLatin1_aae02) (by decide +kernel) rfl hts⟩
    ⟨blind_B (fun U V _ h => h), vk_recv hvS hi va_S.rf, fun U hU hW => ⟨rfl, trivial, hKF0.moved hW (fun a _ => by rw [hU]) (by rw [hU]; exact hz10)⟩⟩ rfl rfl hl.1 rfl (lv_room (Nat.le_of_ble_eq_true rfl)) (by decide +kernel : decode cJ0_charAt_5068e 1 = .ok (.invokevirtual 492, 3)) ⟨by decide, by decide⟩) ?_
  intro v st1 t L h0 hq hL
  obtain ⟨hq1, hq2⟩ := hq
  cases hq1
  rw [hq2, h0]
  have hS2 : va_S (aF E) s.heap s.heap ([] ++ L) := ⟨Nat.le_refl _, fun _ _ _ => rfl, fun q h => by
    rcases List.mem_append.mp h with h | h
    · cases h
    · exact hL q h⟩
  refine lv_if_eq (tgt := 16) hx hb (by decide +kernel : decode cJ0_charAt_5068e 4 = .ok (.ifCond .eq 12, 3)) (by decide) (fun h => absurd h (by decide)) (fun _ => ?_)
  refine lv_aload_n hx hb (by decide +kernel : decode cJ0_charAt_5068e 7 = .ok (.aload_n 0, 1)) rfl (lv_at hl 0 rfl) ?_
  refine vk_getf hx hb (hvS.1 i hi).2.2.1 hS2 hown (gg 1259 (w := .fieldLink RJ0 9 "java/lang/String" "value" "[B") (by decide +kernel) rfl hts) (fun _ h => h) (by decide +kernel : decode cJ0_charAt_5068e 8 = .ok (.getfield 9, 3)) ?_
  refine lv_iload_n hx hb (by decide +kernel : decode cJ0_charAt_5068e 11 = .ok (.iload_n 1, 1)) rfl (lv_at hl 1 rfl) ?_
  refine W_run (va_runS (As := [.ref (adV i), .int (nI k)]) (rest := []) ⟨hx, hb, hml, hown, hts⟩ (m_charL (E := E) (X := X) (adV := adV) hi hk) ⟨callB_of 2 hts (good_self 263 (by decide +kernel)) rfl rfl rfl (gg 79 (w := .initialized RJ1) (by decide +kernel) rfl hts) (gg 261 (w := .methodLink RJ0 495 yJ1_charAt_3b067) (by decide +kernel) rfl hts) (by decide +kernel) ⟨by decide, by decide⟩, gg 262 (w := .static yJ1_charAt_3b067) (by decide +kernel) rfl hts⟩
    ⟨fun a U g mk h => ⟨h.1, (h.2.1.moved (U := U.calling g mk a) (Vm.Alike.refl _)), h.2.2.same rfl rfl⟩, fun U hU hW => ⟨rfl, by rw [hU]; exact (hvS.1 i hi).2.2.2.moved hW.alike, hKF0.moved hW (fun a _ => by rw [hU]) (by rw [hU]; exact hz10)⟩⟩ rfl rfl hl.1 rfl (lv_room (Nat.le_of_ble_eq_true rfl)) (by decide +kernel : decode cJ0_charAt_5068e 12 = .ok (.invokestatic 495, 3)) ⟨by decide, by decide⟩) ?_
  intro v st2 t2 L2 h02 hq hL2
  obtain ⟨hq1, hq2⟩ := hq
  cases hq1
  rw [hq2, h02]
  exact W.zret hx hb hr (str_ch i hi k hk40).1.2 (fun t ht _ => ⟨rfl, ht⟩) (fun q h => by
      rcases List.mem_append.mp h with h | h
      · exact hS2.2.2 q h
      · exact hL2 q h) (by decide +kernel : decode cJ0_charAt_5068e 15 = .ok (.ireturn, 1))
end
