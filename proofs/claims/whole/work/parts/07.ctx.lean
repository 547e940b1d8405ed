/-! the surroundings of a method's run, its locals, and what it is to go on well -/
def gT : List Cond := lw_tbl.filter goodWord
theorem gT_in {w : Cond} (i : Nat) (h : lw_tbl[i]? = some w) (hg : goodWord w = true) : w ∈ gT := List.mem_filter.mpr ⟨List.mem_of_getElem? h, hg⟩
theorem gT_good {w : Cond} (h : w ∈ gT) : goodWord w = true := (List.mem_filter.mp h).2
def nestL : List Cond := [.methodLinkNest RX6 9 yX5_init RX6, .methodLinkNest RX6 25 yX2_init RX6, .methodLinkNest RX6 48 yX0_init RX6, .methodLinkNest RX6 66 yX4_init RX6, .methodLinkNest RX6 67 yX3_init RX6, .methodLinkNest RX5 43 yX6_sum RX6, .methodLinkNest RX3 22 yX6_sum RX6]
def strO : List (String × Nat × String) := [(RX6, 68, "takes grains ; keeps 50 ; sure grains ;"), (RX2, 98, "grains"), (RX2, 100, "mark"), (RX2, 102, "number"), (RX2, 104, "day"), (RX2, 106, "coast"), (RX2, 108, "shoe"), (RX2, 110, "takes"), (RX2, 112, "keeps"), (RX2, 114, "sure"), (RX2, 116, "or"), (RX2, 118, "and"), (RX2, 120, "not")]
def strN : List Nat := nStrL.map List.length
def strB : List (List Int32) := nStrL.map (fun l => l.map Int32.ofNat)
def tysF (E : EnvT) : List (ClassId × FieldType) := [(E.2.2.2.1, .int), (E.2.2.2.2.1, .boolean), (E.2.2.2.2.2.1, .object RX4), (E.2.2.2.2.2.2, .object RX3)]
def aF (E : EnvT) : Nat → Prop := fun q => E.1.1 ≤ q
def KF (E : EnvT) (X : Nat × (Nat → Int32)) (U : State) : Prop := va_K E.2.2.1 vwCl (tysF E) U ∧ (∀ w ∈ nestL, va_Nw w U) ∧ (va_AO RX4 U ∧ va_AO RX3 U) ∧ (∀ (i : Nat) (q : String × Nat × String), strO[i]? = some q → vk_R q.1 q.2.1 q.2.2 (E.2.1 i) U) ∧
  (∃ adV, vk_S 13 strN strB E.2.1 adV (aF E) U U.heap) ∧ va_Z "java/lang/String" "COMPACT_STRINGS" "Z" (.int 1) (aF E) U U.heap ∧ va_Zq "jdk/internal/util/Preconditions" "SIOOBE_FORMATTER" "Ljava/util/function/BiFunction;" (aF E) U U.heap ∧
  va_X E.1.2 X.1 X.2 U U.heap ∧ E.1.2 < E.1.1 ∧ E.1.1 ≤ U.heap.size ∧ X.1 < 2 ^ 31
theorem KF.moved {E : EnvT} {X : Nat × (Nat → Int32)} {s U : State} (h : KF E X s) (hW : s.WarmedH U.vm) (hh : ∀ a, a < E.1.1 → U.heap[a]? = s.heap[a]?) (hz : E.1.1 ≤ U.heap.size) : KF E X U := by
  obtain ⟨h1, h2, ⟨h3, h3b⟩, h4, ⟨adV, h5⟩, h6, h7, h8, h9, -, h11⟩ := h
  have hk : ∀ a : Nat, a < s.heap.size → ¬ aF E a → U.heap[a]? = s.heap[a]? := fun a _ h => hh a (Nat.lt_of_not_le h)
  refine ⟨va_K.moved hW.alike h1, ?_, ⟨va_AO.moved hW.alike h3, va_AO.moved hW.alike h3b⟩, fun i q hq => vk_R.warm hW (h4 i q hq), ⟨adV, (h5.moved hW.alike).kept hk⟩, (h6.moved hW.alike).kept hk, (h7.moved hW.alike).kept hk, (h8.moved hW.alike).kept (hh _ h9), h9, hz, h11⟩
  intro w hw
  have h0 := h2 w hw
  simp only [nestL, List.mem_cons, List.not_mem_nil, or_false] at hw
  rcases hw with rfl | rfl | rfl | rfl | rfl | rfl | rfl <;> exact va_Nw.warmM hW h0
theorem KF.same {E : EnvT} {X : Nat × (Nat → Int32)} {s U : State} (h : KF E X s) (hv : U.vm = s.vm) (hh : U.heap = s.heap) : KF E X U := by
  obtain ⟨h1, h2, ⟨h3, h3b⟩, h4, ⟨adV, h5⟩, h6, h7, h8, h9, h10, h11⟩ := h
  have hal : s.vm.Alike U.vm := by rw [hv]; exact Vm.Alike.refl _
  have hk : ∀ a : Nat, a < s.heap.size → ¬ aF E a → U.heap[a]? = s.heap[a]? := fun a _ _ => by rw [hh]
  refine ⟨va_K.moved hal h1, ?_, ⟨va_AO.moved hal h3, va_AO.moved hal h3b⟩, fun i q hq => vk_R.same hv (h4 i q hq), ⟨adV, (h5.moved hal).kept hk⟩, (h6.moved hal).kept hk, (h7.moved hal).kept hk, (h8.moved hal).kept (by rw [hh]), h9, by rw [hh]; exact h10, h11⟩
  intro w hw
  have h0 := h2 w hw
  simp only [nestL, List.mem_cons, List.not_mem_nil, or_false] at hw
  rcases hw with rfl | rfl | rfl | rfl | rfl | rfl | rfl <;> exact va_Nw.same rfl hv.symm h0
/-! locals -/
def isX : AV → Bool
  | .inr (.inr (0, _)) => true
  | _ => false
def asc (E : EnvT) : Nat → List AV → List (Nat × Value)
  | _, [] => []
  | i, v :: l => cond (isX v) (asc E (i + 1) l) ((i, cV E v) :: asc E (i + 1) l)
theorem mem_asc {E : EnvT} {j : Nat} {y : Value} : ∀ (ls : List AV) (i : Nat), (j, y) ∈ asc E i ls ↔ ∃ n v, ls[n]? = some v ∧ isX v = false ∧ j = i + n ∧ y = cV E v
  | [], i => by simp [asc]
  | a :: l, i => by
    have ih := mem_asc (E := E) (j := j) (y := y) l (i + 1)
    constructor
    · intro h
      have h2 : (isX a = false ∧ (j, y) = (i, cV E a)) ∨ (j, y) ∈ asc E (i + 1) l := by
        cases ha : isX a
        · rw [asc, ha] at h
          rcases List.mem_cons.mp h with h | h
          · exact Or.inl ⟨rfl, h⟩
          · exact Or.inr h
        · rw [asc, ha] at h
          exact Or.inr h
      rcases h2 with ⟨h2, h3⟩ | h2
      · exact ⟨0, a, rfl, h2, congrArg Prod.fst h3, congrArg Prod.snd h3⟩
      · obtain ⟨n, v, q1, q2, q3, q4⟩ := ih.mp h2
        exact ⟨n + 1, v, by simpa using q1, q2, by omega, q4⟩
    · rintro ⟨n, v, q1, q2, q3, q4⟩
      rcases n with _ | n
      · have q1 : a = v := Option.some.inj q1
        subst q1
        rw [asc, q2, q3, q4]
        exact List.mem_cons_self
      · have h2 := ih.mpr ⟨n, v, by simpa using q1, q2, by omega, q4⟩
        cases ha : isX a
        · rw [asc, ha]; exact List.mem_cons_of_mem _ h2
        · rw [asc, ha]; exact h2
theorem gt_some : ∀ (ls : List AV) (i : Nat) {v : AV}, nGt ls i = v → isX v = false → ls[i]? = some v
  | [], i, v, h, hx => by rw [nGt] at h; rw [← h] at hx; cases hx
  | a :: l, 0, v, h, _ => by rw [nGt] at h; rw [h]; rfl
  | a :: l, n + 1, v, h, hx => by rw [nGt] at h; simpa using gt_some l n h hx
theorem gt_get : ∀ (ls : List AV) (i : Nat) {v : AV}, ls[i]? = some v → nGt ls i = v
  | [], i, v, h => by simp at h
  | a :: l, 0, v, h => by rw [nGt]; exact Option.some.inj h
  | a :: l, n + 1, v, h => by rw [nGt]; exact gt_get l n (by simpa using h)
theorem pt_len : ∀ (ls : List AV) (i : Nat) (v : AV), (nPt ls i v).length = ls.length
  | [], _, _ => rfl
  | _ :: _, 0, _ => rfl
  | _ :: l, n + 1, v => by rw [nPt, List.length_cons, List.length_cons, pt_len l n v]
theorem pt_get : ∀ (ls : List AV) (i : Nat) (v : AV) (j : Nat), (nPt ls i v)[j]? = if j = i ∧ i < ls.length then some v else ls[j]?
  | [], i, v, j => by simp [nPt]
  | a :: l, 0, v, j => by
    rcases j with _ | j
    · simp [nPt]
    · simp [nPt]
  | a :: l, n + 1, v, j => by
    rcases j with _ | j
    · simp [nPt]
    · rw [nPt, List.getElem?_cons_succ, pt_get l n v j, List.getElem?_cons_succ, List.length_cons]
      by_cases h : j = n ∧ n < l.length
      · rw [if_pos h, if_pos (by omega)]
      · rw [if_neg h, if_neg (by omega)]
def LH (E : EnvT) (nL : Nat) (lsC : Array Slot) (ls : List AV) : Prop := lv_has lsC nL (asc E 0 ls) ∧ ls.length = nL
theorem LH.get {E : EnvT} {nL : Nat} {lsC : Array Slot} {ls : List AV} (h : LH E nL lsC ls) {i : Nat} {v : AV} (hg : nGt ls i = v) (hx : isX v = false) : lsC[i]? = some (.val (cV E v)) := by
  have h1 := h.1.2.2 (i, cV E v) ((mem_asc ls 0).mpr ⟨i, v, gt_some ls i hg hx, hx, (Nat.zero_add i).symm, rfl⟩)
  exact h1
theorem LH.mem {E : EnvT} {nL : Nat} {lsC : Array Slot} {ls : List AV} (h : LH E nL lsC ls) {i : Nat} {v : AV} (hg : nGt ls i = v) (hx : isX v = false) : ∃ k : Nat, (asc E 0 ls)[k]? = some (i, cV E v) := by
  have h1 := (mem_asc (E := E) (j := i) (y := cV E v) ls 0).mpr ⟨i, v, gt_some ls i hg hx, hx, (Nat.zero_add i).symm, rfl⟩
  obtain ⟨k, hk, h2⟩ := List.getElem_of_mem h1
  exact ⟨k, by rw [List.getElem?_eq_getElem hk, h2]⟩
theorem has_mono {lsC : Array Slot} {nL : Nat} {l l' : List (Nat × Value)} (h : lv_has lsC nL l) (hs : ∀ q ∈ l', q ∈ l) : lv_has lsC nL l' := ⟨h.1, h.2.1, fun q hq => h.2.2 q (hs q hq)⟩
theorem cat_of (E : EnvT) {v : AV} (h : nIsL v = false) : (cV E v).category = 1 := by
  rcases v with x | x | ⟨k, i⟩
  · rfl
  · cases h
  · rfl
theorem LH.put1 {E : EnvT} {nL : Nat} {lsC : Array Slot} {ls : List AV} {i : Nat} {v : AV} {y : Value} (hl : ls.length = nL) (hb : nLbf ls i = false) (hy : y = cV E v)
    (h : lv_has lsC nL ((i, y) :: (asc E 0 ls).filter (fun q => !(q.1 == i) && !(q.1 + 1 == i && q.2.category == 2)))) : LH E nL lsC (nPt ls i v) := by
  refine ⟨has_mono h ?_, by rw [pt_len]; exact hl⟩
  rintro ⟨j, z⟩ hq
  obtain ⟨n, w, q1, q2, q3, q4⟩ := (mem_asc _ 0).mp hq
  rw [pt_get] at q1
  by_cases hc : n = i ∧ i < ls.length
  · rw [if_pos hc] at q1
    have e1 := Option.some.inj q1
    have e2 : j = i := by omega
    rw [e2, q4, ← e1, ← hy]
    exact List.mem_cons_self
  · rw [if_neg hc] at q1
    have hni : j ≠ i := by
      intro e
      have hlt : n < ls.length := (List.getElem?_eq_some_iff.mp q1).1
      exact hc ⟨by omega, by omega⟩
    refine List.mem_cons_of_mem _ (List.mem_filter.mpr ⟨(mem_asc ls 0).mpr ⟨n, w, q1, q2, q3, q4⟩, ?_⟩)
    have h1 : (j == i) = false := by simpa using hni
    have h2 : ((j + 1 == i) && z.category == 2) = false := by
      cases hj : (j + 1 == i)
      · rfl
      · have hj2 : j + 1 = i := by simpa using hj
        subst hj2
        have e3 : n = j := by omega
        subst e3
        have e4 : nIsL w = false := by
          have := gt_get ls n q1
          have hb2 : nIsL (nGt ls n) = false := hb
          rw [this] at hb2
          exact hb2
        rw [q4, cat_of E e4]
        rfl
    show (!(j == i) && !((j + 1 == i) && z.category == 2)) = true
    rw [h1, h2]
    rfl
theorem LH.put2 {E : EnvT} {nL : Nat} {lsC : Array Slot} {ls : List AV} {i : Nat} {x : Int64} (hl : ls.length = nL) (hi : i + 1 < nL) (hb : nLbf ls i = false)
    (h : lv_has lsC nL ((i, Value.long x) :: (asc E 0 ls).filter (fun q => !(q.1 == i) && (!(q.1 == i + 1) && !(q.1 + 1 == i && q.2.category == 2))))) : LH E nL lsC (nPt (nPt ls i (vL x)) (i + 1) vX) := by
  refine ⟨has_mono h ?_, by rw [pt_len, pt_len]; exact hl⟩
  rintro ⟨j, z⟩ hq
  obtain ⟨n, w, q1, q2, q3, q4⟩ := (mem_asc _ 0).mp hq
  rw [pt_get, pt_len] at q1
  have hc0 : ¬ n = i + 1 := by
    intro e
    rw [if_pos ⟨e, by omega⟩] at q1
    rw [← Option.some.inj q1] at q2
    cases q2
  rw [if_neg (fun q => hc0 q.1), pt_get] at q1
  by_cases hc : n = i ∧ i < ls.length
  · rw [if_pos hc] at q1
    have e1 := Option.some.inj q1
    have e2 : j = i := by omega
    rw [e2, q4, ← e1]
    exact List.mem_cons_self
  · rw [if_neg hc] at q1
    have hni : j ≠ i := by
      intro e
      have hlt : n < ls.length := (List.getElem?_eq_some_iff.mp q1).1
      exact hc ⟨by omega, by omega⟩
    refine List.mem_cons_of_mem _ (List.mem_filter.mpr ⟨(mem_asc ls 0).mpr ⟨n, w, q1, q2, q3, q4⟩, ?_⟩)
    have h1 : (j == i) = false := by simpa using hni
    have h1b : (j == i + 1) = false := by
      have : j ≠ i + 1 := by omega
      simpa using this
    have h2 : ((j + 1 == i) && z.category == 2) = false := by
      cases hj : (j + 1 == i)
      · rfl
      · have hj2 : j + 1 = i := by simpa using hj
        subst hj2
        have e3 : n = j := by omega
        subst e3
        have e4 : nIsL w = false := by
          have := gt_get ls n q1
          have hb2 : nIsL (nGt ls n) = false := hb
          rw [this] at hb2
          exact hb2
        rw [q4, cat_of E e4]
        rfl
    show (!(j == i) && (!(j == i + 1) && !((j + 1 == i) && z.category == 2))) = true
    rw [h1, h1b, h2]
    rfl
/-- all a method's run stands on -/
def Ctx (E : EnvT) (X : Nat × (Nat → Int32)) (p : Program) (R : Room) (s : State) (m : MethodId) (args : Array Value) (meth : Method) (c : Code) (cc : ByteArray) (nL : Nat) (oC : String) (ini : Bool) : Prop :=
  p.tables.exec = Jvm.exec ∧ c.code = cc ∧ c.maxLocals = nL ∧ s.vm.findClass oC = some m.cls ∧ (∀ w ∈ gT, w.before args s = true) ∧ KF E X s ∧ (ini = true → meth.name = "<init>")
def Wf (E : EnvT) (nL : Nat) (s0 : Mem) (p : Program) (l : Launch) (e : Env) (R : Room) (s : State) (m : MethodId) (args : Array Value) (below : List Frame) (meth : Method) (c : Code) (Q : State → Prop) (pc : Nat) (ls st : List AV) (σ : Mem) : Prop :=
  (∀ v ∈ ls, okV (nT σ) v) → (∀ v ∈ st, okV (nT σ) v) → (nT s0 ≤ nT σ ∧ nU s0 ≤ nU σ) → ∀ (H : Heap) (locs : List Loc) (lsC : Array Slot), WD E σ H → LH E nL lsC ls → va_S (aF E) s.heap H locs →
    W p l e R s m args below meth c H locs (nT σ - nT s0) (nU σ - nU s0) Q (F0 m pc lsC (st.map (cV E)))
theorem okl_cons {t : Nat} {v : AV} {r : List AV} (h : okV t v) (hr : ∀ w ∈ r, okV t w) : ∀ w ∈ v :: r, okV t w := List.forall_mem_cons.mpr ⟨h, hr⟩
theorem okl_tl {t : Nat} {v : AV} {r : List AV} (h : ∀ w ∈ v :: r, okV t w) : ∀ w ∈ r, okV t w := (List.forall_mem_cons.mp h).2
theorem okl_hd {t : Nat} {v : AV} {r : List AV} (h : ∀ w ∈ v :: r, okV t w) : okV t v := (List.forall_mem_cons.mp h).1
theorem okl_pt {t : Nat} {ls : List AV} {i : Nat} {v : AV} (h : ∀ w ∈ ls, okV t w) (hv : okV t v) : ∀ w ∈ nPt ls i v, okV t w := by
  intro w hw
  obtain ⟨n, hn⟩ := List.getElem?_of_mem hw
  rw [pt_get] at hn
  by_cases hc : n = i ∧ i < ls.length
  · rw [if_pos hc] at hn
    rw [← Option.some.inj hn]; exact hv
  · rw [if_neg hc] at hn
    exact h w (List.mem_of_getElem? hn)
theorem okl_gt {t : Nat} {ls : List AV} {i : Nat} {v : AV} (h : ∀ w ∈ ls, okV t w) (hg : nGt ls i = v) : okV t v := by
  cases hx : isX v
  · exact h v (List.mem_of_getElem? (gt_some ls i hg hx))
  · rcases v with x | x | ⟨k, j⟩
    · trivial
    · trivial
    · rcases k with _ | k
      · exact Or.inl rfl
      · cases hx
