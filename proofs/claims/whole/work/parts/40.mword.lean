section
variable (X : Nat × (Nat → Int32))
def ltM (b : Nat → Nat) (q e : Nat) (i x : Nat) : Bool := cond (Nat.blt (q + i) e) (b (q + i) == x) (x == 0)
theorem sX7_isLetter (d : Nat) {w : Int64} (l : List (Nat × Nat × Nat)) (t u : Nat) {M : MM} {b : Nat → Nat} {n f q e i x : Nat} (h : RdM M b n f) (he : e ≤ n) (hq : q ≤ n) (hi : i < 10) (hx : x < 256) (h21 : M 30 0 21 = nI e) (h23 : M 30 0 23 = nI q) : callN X (d + 2) 131 [vR 30 0, vI (nI i), vI (nI x)] (M, w, true, true, l, t, u) = some (some (bV (ltM b q e i x)), (M, w, true, true, l, t, u)) := by
  have hn := h.2.2.1
  have hb := h.2.2.2.2.2 (q + i)
  rw [aX7_isLetter, h21, h23, nI_add]
  unfold ltM
  by_cases c : q + i < e
  · rw [if_neg (nI_ge c (by omega)), blt_t c, cond_true, sX7_byteAt X d w l t u h (by omega), bnd_s, tl_s, bX7_isLetter_23, show bA b n (q + i) = nI (b (q + i)) from if_pos (by omega)]
    simp (disch := omega) only [nI_eq]
    by_cases c2 : b (q + i) = x
    · rw [if_pos c2, show (b (q + i) == x) = true from by rw [beq_iff_eq]; exact c2]; rfl
    · rw [if_neg c2, show (b (q + i) == x) = false from by rw [beq_eq_false_iff_ne]; exact c2]; rfl
  · rw [if_pos (nI_le (by omega) (by omega)), blt_f (by omega), cond_false, li0]
    simp (disch := omega) only [nI_eq]
    by_cases c2 : x = 0
    · rw [if_pos c2, show (x == 0) = true from by rw [beq_iff_eq]; exact c2]; rfl
    · rw [if_neg c2, show (x == 0) = false from by rw [beq_eq_false_iff_ne]; exact c2]; rfl
theorem lt_word {b : Nat → Nat} {q e k : Nat} (hk : k < 12) (hqe : q ≤ e) (hl : ∀ j, q ≤ j → j < e → isLe (b j) = true) :
    (decide (e ≤ q + 8) && (ltM b q e 0 ((wLt k).getD 0 0) && (ltM b q e 1 ((wLt k).getD 1 0) && (ltM b q e 2 ((wLt k).getD 2 0) && (ltM b q e 3 ((wLt k).getD 3 0) && (ltM b q e 4 ((wLt k).getD 4 0) && (ltM b q e 5 ((wLt k).getD 5 0) && (ltM b q e 6 ((wLt k).getD 6 0) && ltM b q e 7 ((wLt k).getD 7 0))))))))) = mtW b q e k := by
  have key : (List.range 12).all (fun k => Nat.ble 2 (wLt k).length && (Nat.ble (wLt k).length 6 && (List.range 8).all (fun i => (Nat.blt i (wLt k).length) == ((wLt k).getD i 0 != 0)))) = true := by decide +kernel
  have h1 := List.all_eq_true.mp key k (List.mem_range.mpr hk)
  rw [Bool.and_eq_true, Bool.and_eq_true, List.all_eq_true] at h1
  obtain ⟨h2, h3, h4⟩ := h1
  have h2 := Nat.ble_eq.mp h2
  have h3 := Nat.ble_eq.mp h3
  have h5 : ∀ i, i < 8 → (i < (wLt k).length ↔ (wLt k).getD i 0 ≠ 0) := by
    intro i hi
    have h6 := h4 i (List.mem_range.mpr hi)
    rw [beq_iff_eq] at h6
    constructor
    · intro q1
      rw [blt_t q1] at h6
      have := h6.symm
      rwa [bne_iff_ne] at this
    · intro q1
      have : ((wLt k).getD i 0 != 0) = true := by rw [bne_iff_ne]; exact q1
      rw [this] at h6
      exact Nat.blt_eq.mp h6
  have hlt : ∀ i, i < 8 → (ltM b q e i ((wLt k).getD i 0) = true ↔ (if q + i < e then b (q + i) = (wLt k).getD i 0 else (wLt k).getD i 0 = 0)) := by
    intro i _
    unfold ltM
    by_cases c : q + i < e
    · rw [if_pos c, blt_t c, cond_true, beq_iff_eq]
    · rw [if_neg c, blt_f (by omega), cond_false, beq_iff_eq]
  have hne : ∀ j, q ≤ j → j < e → b j ≠ 0 := by
    intro j a1 a2 a3
    have := hl j a1 a2
    rw [a3] at this
    exact absurd this (by decide)
  have hall : mtW b q e k = true ↔ (e ≤ q + 8 ∧ ∀ i, i < 8 → ltM b q e i ((wLt k).getD i 0) = true) := by
    unfold mtW
    rw [Bool.and_eq_true, beq_iff_eq, List.all_eq_true]
    constructor
    · rintro ⟨g1, g2⟩
      refine ⟨by omega, fun i hi => (hlt i hi).mpr ?_⟩
      by_cases c : q + i < e
      · rw [if_pos c]
        have := g2 i (List.mem_range.mpr (by omega))
        rwa [beq_iff_eq] at this
      · rw [if_neg c]
        by_cases z : (wLt k).getD i 0 = 0
        · exact z
        · have := (h5 i hi).mpr z
          omega
    · rintro ⟨g1, g2⟩
      have hle : q + (wLt k).length ≤ e := by
        have a1 := (hlt ((wLt k).length - 1) (by omega)).mp (g2 _ (by omega))
        have a2 := (h5 ((wLt k).length - 1) (by omega)).mp (by omega)
        by_cases c : q + ((wLt k).length - 1) < e
        · omega
        · rw [if_neg c] at a1
          exact absurd a1 a2
      have hge : e ≤ q + (wLt k).length := by
        have a1 := (hlt ((wLt k).length) (by omega)).mp (g2 _ (by omega))
        have a3 : (wLt k).getD (wLt k).length 0 = 0 := by simp [List.getD]
        by_cases c : q + (wLt k).length < e
        · rw [if_pos c, a3] at a1
          exact absurd a1 (hne _ (by omega) c)
        · omega
      refine ⟨by omega, fun j hj => ?_⟩
      have hj := List.mem_range.mp hj
      have a1 := (hlt j (by omega)).mp (g2 j (by omega))
      rw [if_pos (by omega)] at a1
      rw [beq_iff_eq]; exact a1
  rw [Bool.eq_iff_iff, hall]
  simp only [Bool.and_eq_true, decide_eq_true_eq]
  constructor
  · rintro ⟨g0, g1, g2, g3, g4, g5, g6, g7, g8⟩
    refine ⟨g0, fun i hi => ?_⟩
    have : i = 0 ∨ i = 1 ∨ i = 2 ∨ i = 3 ∨ i = 4 ∨ i = 5 ∨ i = 6 ∨ i = 7 := by omega
    rcases this with rfl | rfl | rfl | rfl | rfl | rfl | rfl | rfl <;> assumption
  · rintro ⟨g0, g1⟩
    exact ⟨g0, g1 0 (by omega), g1 1 (by omega), g1 2 (by omega), g1 3 (by omega), g1 4 (by omega), g1 5 (by omega), g1 6 (by omega), g1 7 (by omega)⟩
def isW (b : Nat → Nat) (n p k : Nat) : Bool := decide (kM b n p = 1 ∧ wdI b (tq b n p) (te b n p) = k)
theorem wLt_lt8 : ∀ k, k < 12 → ∀ j, j < 8 → (wLt k).getD j 0 < 256 := by decide +kernel
theorem sX7_isWord (d : Nat) {w : Int64} (l : List (Nat × Nat × Nat)) (t u : Nat) {M : MM} {b : Nat → Nat} {n f p k : Nat} (h : RdM M b n f) (hp : p ≤ n) (hT : TokM M w b n p) (hb : M 30 0 26 = 0) (hk : k < 12) :
    callN X (d + 3) 132 [vR 30 0, vI (nI ((wLt k).getD 0 0)), vI (nI ((wLt k).getD 1 0)), vI (nI ((wLt k).getD 2 0)), vI (nI ((wLt k).getD 3 0)), vI (nI ((wLt k).getD 4 0)), vI (nI ((wLt k).getD 5 0)), vI (nI ((wLt k).getD 6 0)), vI (nI ((wLt k).getD 7 0))] (M, w, true, true, l, t, u) = some (some (bV (isW b n p k)), (M, w, true, true, l, t, u)) := by
  have hn := h.2.2.1
  have hkl := kM_lt b n p
  have hql := tq_le (b := b) hp
  have hel := te_le (b := b) hp
  rw [aX7_isWord, hb, if_pos rfl, hT.2.1, li1]
  simp (disch := omega) only [nI_eq]
  unfold isW
  by_cases c : kM b n p = 1
  · rw [if_pos c]
    have h21 := hT.2.2.1 (by omega)
    have h23 := hT.1
    obtain ⟨k1, k2, -, -⟩ := kM_1 c
    have hall : ∀ j, tq b n p ≤ j → j < te b n p → isLe (b j) = true := by
      intro j a1 a2
      unfold te at a2
      rw [ble_f k1, k2, cond_false, cond_true] at a2
      exact sk_all isLe b n (tq b n p) j a1 a2
    have hw := lt_word hk (te_ge b n p) hall
    have hwd : decide (kM b n p = 1 ∧ wdI b (tq b n p) (te b n p) = k) = mtW b (tq b n p) (te b n p) k := by
      rw [Bool.eq_iff_iff, decide_eq_true_eq, wd_iff hk]
      exact ⟨fun q => q.2, fun q => ⟨c, q⟩⟩
    rw [hwd, ← hw, h21, h23, li8, nI_add]
    have hL : ∀ (i x : Nat), i < 10 → x < 256 → callN X (d + 2) 131 [vR 30 0, vI (nI i), vI (nI x)] (M, w, true, true, l, t, u) = some (some (bV (ltM b (tq b n p) (te b n p) i x)), (M, w, true, true, l, t, u)) := fun i x hi hx => sX7_isLetter X d l t u h hel hql hi hx h21 h23
    have hx := wLt_lt8 k hk
    by_cases c2 : te b n p ≤ tq b n p + 8
    · rw [if_neg (nI_nlt c2 (by omega)), decide_eq_true c2, Bool.true_and]
      rw [li0, hL 0 _ (by omega) (hx 0 (by omega)), bnd_s, tl_s]
      unfold bV
      rw [bX7_isWord_35]
      cases ltM b (tq b n p) (te b n p) 0 ((wLt k).getD 0 0)
      · rw [cond_false, if_pos rfl]; rfl
      rw [cond_true, if_neg (by decide), Bool.true_and, li1, hL 1 _ (by omega) (hx 1 (by omega)), bnd_s, tl_s]
      unfold bV
      rw [bX7_isWord_44]
      cases ltM b (tq b n p) (te b n p) 1 ((wLt k).getD 1 0)
      · rw [cond_false, if_pos rfl]; rfl
      rw [cond_true, if_neg (by decide), Bool.true_and, li2, hL 2 _ (by omega) (hx 2 (by omega)), bnd_s, tl_s]
      unfold bV
      rw [bX7_isWord_53]
      cases ltM b (tq b n p) (te b n p) 2 ((wLt k).getD 2 0)
      · rw [cond_false, if_pos rfl]; rfl
      rw [cond_true, if_neg (by decide), Bool.true_and, li3, hL 3 _ (by omega) (hx 3 (by omega)), bnd_s, tl_s]
      unfold bV
      rw [bX7_isWord_63]
      cases ltM b (tq b n p) (te b n p) 3 ((wLt k).getD 3 0)
      · rw [cond_false, if_pos rfl]; rfl
      rw [cond_true, if_neg (by decide), Bool.true_and, li4, hL 4 _ (by omega) (hx 4 (by omega)), bnd_s, tl_s]
      unfold bV
      rw [bX7_isWord_73]
      cases ltM b (tq b n p) (te b n p) 4 ((wLt k).getD 4 0)
      · rw [cond_false, if_pos rfl]; rfl
      rw [cond_true, if_neg (by decide), Bool.true_and, li5, hL 5 _ (by omega) (hx 5 (by omega)), bnd_s, tl_s]
      unfold bV
      rw [bX7_isWord_83]
      cases ltM b (tq b n p) (te b n p) 5 ((wLt k).getD 5 0)
      · rw [cond_false, if_pos rfl]; rfl
      rw [cond_true, if_neg (by decide), Bool.true_and, li6, hL 6 _ (by omega) (hx 6 (by omega)), bnd_s, tl_s]
      unfold bV
      rw [bX7_isWord_94]
      cases ltM b (tq b n p) (te b n p) 6 ((wLt k).getD 6 0)
      · rw [cond_false, if_pos rfl]; rfl
      rw [cond_true, if_neg (by decide), Bool.true_and, li7, hL 7 _ (by omega) (hx 7 (by omega)), bnd_s, tl_s]
      unfold bV
      rw [bX7_isWord_105]
      cases ltM b (tq b n p) (te b n p) 7 ((wLt k).getD 7 0)
      · rw [cond_false, if_pos rfl]; rfl
      · rw [cond_true, if_neg (by decide)]; rfl
    · rw [if_pos (nI_lt (by omega) (by omega)), decide_eq_false c2, Bool.false_and]
      rfl
  · rw [if_neg c, decide_eq_false (fun q => c q.1)]
    rfl
theorem sX7_isWordB (d : Nat) {w : Int64} (l : List (Nat × Nat × Nat)) (t u : Nat) {M : MM} (x1 x2 x3 x4 x5 x6 x7 x8 : Int32) (hb : M 30 0 26 = 1) : callN X (d + 1) 132 [vR 30 0, vI x1, vI x2, vI x3, vI x4, vI x5, vI x6, vI x7, vI x8] (M, w, true, true, l, t, u) = some (some (bV false), (M, w, true, true, l, t, u)) := by
  rw [aX7_isWord, hb, if_neg (by decide)]
  rfl
theorem isW_key {b : Nat → Nat} (hb : ∀ j, b j < 256) {n p k : Nat} (h6 : 6 ≤ k) (hk : k < 12) : isW b n p k = Nat.beq (tk b n p) (k - 2) := by
  unfold isW
  have h3 := (tk_kM hb (n := n) (p := p)).2.2
  by_cases c : kM b n p = 1 ∧ wdI b (tq b n p) (te b n p) = k
  · rw [decide_eq_true c]
    obtain ⟨-, -, k3, -⟩ := kM_1 c.1
    rw [k3, c.2]
    unfold tW
    rw [if_neg (by omega), if_pos hk, beq_t rfl]
  · rw [decide_eq_false c, beq_f]
    intro q
    have k0 := h3 (by omega)
    obtain ⟨-, -, k3, -⟩ := kM_1 k0
    refine c ⟨k0, ?_⟩
    rw [k3] at q
    unfold tW at q
    by_cases c1 : wdI b (tq b n p) (te b n p) < 6
    · rw [if_pos c1] at q; omega
    · rw [if_neg c1] at q
      by_cases c2 : wdI b (tq b n p) (te b n p) < 12
      · rw [if_pos c2] at q; omega
      · rw [if_neg c2] at q; omega
theorem isW_name {b : Nat → Nat} (hb : ∀ j, b j < 256) {n p k : Nat} (hk : k < 6) : isW b n p k = decide (tk b n p = 3 ∧ tv b n p = k) := by
  unfold isW
  have h3 := (tk_kM hb (n := n) (p := p)).2.2
  rw [decide_eq_decide]
  constructor
  · rintro ⟨c1, c2⟩
    obtain ⟨-, -, k3, k4⟩ := kM_1 c1
    rw [k3, k4, c2]
    unfold tW
    rw [if_pos hk]
    exact ⟨rfl, rfl⟩
  · rintro ⟨c1, c2⟩
    have k0 := h3 (by omega)
    obtain ⟨-, -, k3, k4⟩ := kM_1 k0
    exact ⟨k0, by rw [← k4]; exact c2⟩
end
