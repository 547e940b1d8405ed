/-! what a text says; what one takes -/
def TxG (b : Nat → Nat) (n : Nat) : Prop := n ≤ 160 ∧ (∀ j, b j < 256) ∧ (pTx b n).1 = true
def TxC (M : MM) (x : Nat) (r : TxR) : Prop := M 16 x 0 = 0 ∧ M 16 x 1 = nI r.2.1.length ∧ M 16 x 2 = nI (r.2.1 ++ r.2.2.1).length ∧ M 16 x 3 = nI ((r.2.1 ++ r.2.2.1) ++ r.2.2.2.1).length ∧ ∀ j, j < ((r.2.1 ++ r.2.2.1) ++ r.2.2.2.1).length → M 15 x j = ((r.2.1 ++ r.2.2.1) ++ r.2.2.2.1).getD j 0
def TxM (M : MM) (x : Nat) (b : Nat → Nat) (n : Nat) : Prop := M 32 0 x = nI n ∧ ∀ j, j < n → M 31 0 (160 * x + j) = nI (b j)
def tV (b : Nat → Nat) (n : Nat) (wh : Int32) (nm : Nat → Int32) : Int32 := (evs nm (txC (pTx b n) wh) []).headD 0
theorem tV_spec {b : Nat → Nat} {n : Nat} (h : TxG b n) (wh : Int32) (nm nm2 : Nat → Int32) (h2 : ∀ j, j < 6 → nm2 j = nm j) (st : List Int32) : evs nm2 (txC (pTx b n) wh) st = tV b n wh nm :: st := by
  obtain ⟨h1, hb, hok⟩ := h
  obtain ⟨M', w', v, -, -, g, -⟩ := sX7_read (0, fun _ => 0) (b := b) (n := n) (tx := 0) (M := fun k i j => if k = 30 then nm (j - 13) else if k = 31 then nI (b j) else if k = 32 then nI n else 0) wh 0 [] 0 0 0 (by omega) rfl h1 (fun j _ => by show (if 31 = 30 then _ else if 31 = 31 then nI (b (160 * 0 + j)) else _) = _; rw [if_neg (by omega), if_pos rfl, Nat.mul_zero, Nat.zero_add]) hb
  obtain ⟨-, g⟩ := g hok
  have hn : ∀ j, j < 6 → nm j = (fun k i j => if k = 30 then nm (j - 13) else if k = 31 then nI (b j) else if k = 32 then nI n else 0 : MM) 30 0 (13 + j) := by
    intro j _
    show nm j = if 30 = 30 then nm (13 + j - 13) else _
    rw [if_pos rfl, Nat.add_sub_cancel_left]
  have e1 := g nm [] hn
  have e2 : tV b n wh nm = v := by
    unfold tV
    rw [e1]
    rfl
  rw [e2]
  exact g nm2 st (fun j hj => (h2 j hj).trans (hn j hj))
theorem tV_congr {b : Nat → Nat} {n : Nat} (h : TxG b n) (wh : Int32) {nm nm2 : Nat → Int32} (h2 : ∀ j, j < 6 → nm2 j = nm j) : tV b n wh nm2 = tV b n wh nm := by
  show (evs nm2 (txC (pTx b n) wh) []).headD 0 = _
  rw [tV_spec h wh nm nm2 h2 []]
  rfl
theorem pTx_len {b : Nat → Nat} {n : Nat} (h : (pTx b n).1 = true) : (((pTx b n).2.1 ++ (pTx b n).2.2.1) ++ (pTx b n).2.2.2.1).length ≤ n := by
  revert h
  unfold pTx
  have hg0 := pPart_good (b := b) (n := n) (i := 0) (Nat.zero_le n)
  revert hg0
  generalize pPart b n 0 0 = r0
  obtain ⟨ok0, c0, p0⟩ := r0
  intro hg0
  cases ok0
  · intro q; cases q
  have hp0 : p0 ≤ n := hg0.1
  have hl0 : 0 + c0.length ≤ p0 := (hg0.2.2 rfl).2
  simp only [cond_true]
  have hg1 := pPart_good (b := b) (n := n) (i := 1) hp0
  revert hg1
  generalize pPart b n 1 p0 = r1
  obtain ⟨ok1, c1, p1⟩ := r1
  intro hg1
  cases ok1
  · intro q; cases q
  have hp1 : p1 ≤ n := hg1.1
  have hl1 : p0 + c1.length ≤ p1 := (hg1.2.2 rfl).2
  simp only [cond_true]
  have hg2 := pPart_good (b := b) (n := n) (i := 2) hp1
  revert hg2
  generalize pPart b n 2 p1 = r2
  obtain ⟨ok2, c2, p2⟩ := r2
  intro hg2
  cases ok2
  · intro q; cases q
  have hp2 : p2 ≤ n := hg2.1
  have hl2 : p1 + c2.length ≤ p2 := (hg2.2.2 rfl).2
  intro _
  show ((c0 ++ c1) ++ c2).length ≤ n
  simp only [List.length_append]
  omega
def clN (v : Int32) (m : Nat) : Nat := min v.toNatClampNeg m
theorem clN_le (v : Int32) (m : Nat) : clN v m ≤ m := Nat.min_le_right _ _
theorem neg_clamp {v : Int32} (h : v < 0) : v.toNatClampNeg = 0 := by
  rw [Int32.lt_iff_toInt_lt] at h
  rw [← Int32.toNat_toInt]
  have : (0 : Int32).toInt = 0 := rfl
  omega
theorem cl_c (v : Int32) {m : Nat} (hm : m < 2 ^ 31) : (if 0 < (if nI m < v then nI m else v) then (if nI m < v then nI m else v) else 0) = nI (clN v m) := by
  unfold clN
  by_cases c0 : v < 0
  · have h1 : ¬ nI m < v := fun q => by
      rw [Int32.lt_iff_toInt_lt] at c0 q
      rw [nI_toInt hm] at q
      have : (0 : Int32).toInt = 0 := rfl
      omega
    have h2 : ¬ 0 < v := fun q => by
      rw [Int32.lt_iff_toInt_lt] at c0 q
      omega
    rw [if_neg h1, if_neg h2, neg_clamp c0, Nat.zero_min]
    rfl
  · obtain ⟨j, hj, rfl⟩ := nI_of c0
    rw [nI_clamp hj]
    simp (disch := omega) only [nI_ltI]
    by_cases c1 : m < j
    · rw [if_pos c1, Nat.min_eq_right (by omega)]
      by_cases c2 : (0 : Int32) < nI m
      · rw [if_pos c2]
      · rw [if_neg c2]
        have : m = 0 := by
          rcases m with _ | m
          · rfl
          · exact absurd (nI_lt (a := 0) (Nat.succ_pos m) hm) c2
        rw [this]; rfl
    · rw [if_neg c1, Nat.min_eq_left (by omega)]
      by_cases c2 : (0 : Int32) < nI j
      · rw [if_pos c2]
      · rw [if_neg c2]
        have : j = 0 := by
          rcases j with _ | j
          · rfl
          · exact absurd (nI_lt (a := 0) (Nat.succ_pos j) hj) c2
        rw [this]; rfl
def nmF (g m nu d c s : Int32) : Nat → Int32 := fun j => match j with
  | 0 => g | 1 => m | 2 => nu | 3 => d | 4 => c | _ => s
def fr245 (M M' : MM) : Prop := ∀ k i j, k ≠ 24 → k ≠ 25 → M' k i j = M k i j
theorem fr245.refl (M : MM) : fr245 M M := fun _ _ _ _ _ => rfl
theorem fr245.trans {M M' M2 : MM} (h : fr245 M M') (h2 : fr245 M' M2) : fr245 M M2 := fun k i j q q2 => (h2 k i j q q2).trans (h k i j q q2)
theorem TxC.fr {M M' : MM} {x : Nat} {r : TxR} (h : TxC M x r) (hf : ∀ k i j, k = 15 ∨ k = 16 → M' k i j = M k i j) : TxC M' x r := ⟨(hf 16 x 0 (Or.inr rfl)).trans h.1, (hf 16 x 1 (Or.inr rfl)).trans h.2.1, (hf 16 x 2 (Or.inr rfl)).trans h.2.2.1, (hf 16 x 3 (Or.inr rfl)).trans h.2.2.2.1, fun j hj => (hf 15 x j (Or.inl rfl)).trans (h.2.2.2.2 j hj)⟩
def tkN (kd nu mk v : Nat) : Nat := min (if kd = 1 then 2 * v else if kd = 2 then v / 2 else if kd = 3 then (if mk = nu % 6 then 2 * v + nu else 2 * v) else if kd = 4 then (if mk = 5 then 0 else v / 2) else if kd = 5 then v + mk else v) 99
def kpN (kd v g : Nat) : Nat := if kd = 2 then g else if kd = 3 then g * v / 100 / 2 else if kd = 4 then g - 10 else if kd = 5 then 0 else g * v / 100
def suN (kd v nu : Nat) : Nat := if kd = 2 then v + nu else if kd = 3 then 0 else if kd = 4 then 2 * (v + nu) else if kd = 5 then 1 else v
section
variable (X : Nat × (Nat → Int32))
theorem sX1_takes (d : Nat) {M : MM} (w : Int64) (fm : Bool) (l : List (Nat × Nat × Nat)) (t u : Nat) {kd nu mk v : Nat} (h1 : kd ≤ 5) (h2 : nu ≤ 9) (h3 : mk < 6) (h4 : v ≤ 99) : callN X (d + 2) 7 [vI (nI kd), vI (nI v), vI (nI mk), vI (nI nu)] (M, w, true, fm, l, t, u) = some (some (vI (nI (tkN kd nu mk v))), (M, w, true, fm, l, t, u)) := by
  have key : ∀ y : Nat, y < 2 ^ 30 → nBnd (some (some (vI (nI y)), ((M, w, true, fm, l, t, u) : Mem))) (fun v2 s2 => nR X (callN X (d + 1)) hX1_takes 7 [vI (nI kd), vI (nI v), vI (nI mk), vI (nI nu)] (v2.toList ++ []) s2) = some (some (vI (nI (min y 99))), (M, w, true, fm, l, t, u)) := by
    intro y hy
    rw [bnd_s, tl_s, bX1_takes_7, show (99 : Int32) = nI 99 from rfl]
    simp (disch := omega) only [nI_ltI]
    by_cases c : 99 < y
    · rw [if_pos c, Nat.min_eq_right (by omega)]
    · rw [if_neg c, Nat.min_eq_left (by omega)]
  show callN X (d + 1 + 1) 7 _ _ = _
  rw [aX1_takes, aX1_takesUnbounded, li1, li2, li3, li4, li5, li6, pk_rem (by omega) (by omega) (by omega), pk_mul, pk_div (by omega) (by omega) (by omega), nI_add, nI_add]
  simp (disch := omega) only [nI_eq]
  unfold tkN
  have n2 : ¬ nI 2 = 0 := by decide
  have n6 : ¬ nI 6 = 0 := by decide
  by_cases c1 : kd = 1
  · rw [if_pos c1, if_pos c1]; exact key _ (by omega)
  rw [if_neg c1, if_neg c1]
  by_cases c2 : kd = 2
  · rw [if_pos c2, if_pos c2, if_neg n2]; exact key _ (by omega)
  rw [if_neg c2, if_neg c2]
  by_cases c3 : kd = 3
  · rw [if_pos c3, if_pos c3, if_neg n6]
    by_cases c : mk = nu % 6
    · rw [if_pos c, if_pos c]; exact key _ (by omega)
    · rw [if_neg c, if_neg c]; exact key _ (by omega)
  rw [if_neg c3, if_neg c3]
  by_cases c4 : kd = 4
  · rw [if_pos c4, if_pos c4]
    by_cases c : mk = 5
    · rw [if_pos c, if_pos c]; exact key 0 (by omega)
    · rw [if_neg c, if_neg c, if_neg n2]; exact key _ (by omega)
  rw [if_neg c4, if_neg c4]
  by_cases c5 : kd = 5
  · rw [if_pos c5, if_pos c5]; exact key _ (by omega)
  rw [if_neg c5, if_neg c5]
  exact key _ (by omega)
theorem sX1_keeps (d : Nat) {M : MM} (w : Int64) (fm : Bool) (l : List (Nat × Nat × Nat)) (t u : Nat) {kd g v : Nat} (h1 : kd ≤ 5) (h2 : g ≤ 9999) (h4 : v ≤ 100) : callN X (d + 1) 9 [vI (nI kd), vI (nI v), vI (nI g)] (M, w, true, fm, l, t, u) = some (some (vI (nI (kpN kd v g))), (M, w, true, fm, l, t, u)) := by
  have hgv : g * v ≤ 9999 * 100 := Nat.mul_le_mul h2 h4
  rw [aX1_keeps, li2, li3, li4, li5, show (100 : Int32) = nI 100 from rfl, pk_mul, pk_div (by omega) (by omega) (by omega), pk_div (by omega) (by omega) (by omega)]
  simp (disch := omega) only [nI_eq]
  unfold kpN
  have n2 : ¬ nI 2 = 0 := by decide
  have n6 : ¬ nI 100 = 0 := by decide
  by_cases c2 : kd = 2
  · rw [if_pos c2, if_pos c2]
  rw [if_neg c2, if_neg c2]
  by_cases c3 : kd = 3
  · rw [if_pos c3, if_pos c3, if_neg n6, if_neg n2]
  rw [if_neg c3, if_neg c3]
  by_cases c4 : kd = 4
  · rw [if_pos c4, if_pos c4, li10]
    rcases Nat.lt_or_ge g 10 with q | q
    · rw [if_pos (pk_sneg (by omega) q), show g - 10 = 0 by omega]; rfl
    · rw [pk_sub q, if_neg (nI_pos (by omega))]
  rw [if_neg c4, if_neg c4]
  by_cases c5 : kd = 5
  · rw [if_pos c5, if_pos c5]; rfl
  rw [if_neg c5, if_neg c5, if_neg n6]
theorem sX1_sure (d : Nat) {M : MM} (w : Int64) (fm : Bool) (l : List (Nat × Nat × Nat)) (t u : Nat) {kd nu v : Nat} (h1 : kd ≤ 5) : callN X (d + 1) 10 [vI (nI kd), vI (nI v), vI (nI nu)] (M, w, true, fm, l, t, u) = some (some (vI (nI (suN kd v nu))), (M, w, true, fm, l, t, u)) := by
  rw [aX1_sure, li2, li3, li4, li5, nI_add, pk_mul]
  simp (disch := omega) only [nI_eq]
  unfold suN
  by_cases c2 : kd = 2
  · rw [if_pos c2, if_pos c2]
  rw [if_neg c2, if_neg c2]
  by_cases c3 : kd = 3
  · rw [if_pos c3, if_pos c3]; rfl
  rw [if_neg c3, if_neg c3]
  by_cases c4 : kd = 4
  · rw [if_pos c4, if_pos c4]
  rw [if_neg c4, if_neg c4]
  by_cases c5 : kd = 5
  · rw [if_pos c5, if_pos c5]; rfl
  rw [if_neg c5, if_neg c5]
theorem sX6_valueOf (d : Nat) {M : MM} (w : Int64) (fm : Bool) (l : List (Nat × Nat × Nat)) (t u : Nat) {b : Nat → Nat} {n x pt m : Nat} (hx : x < 6) (hpt : pt < 3) (hm : m < 2 ^ 31) (hT : TxC M x (pTx b n)) (hG : TxG b n) :
    ∃ M', callN X (d + 3) 89 [vR 2 0, vI (nI x), vI (nI pt), vI (nI m)] (M, w, true, fm, l, t, u) = some (some (vI (nI (clN (tV b n (nI pt) (fun j => M 24 0 j)) m))), (M', w, true, fm, l, t, u)) ∧ fr25 M M' := by
  have hlen := pTx_len hG.2.2
  have hn := hG.1
  obtain ⟨t0, t1, t2, t3, t4⟩ := hT
  have hv := tV_spec hG (nI pt) (fun j => M 24 0 j) (fun j => M 24 0 j) (fun _ _ => rfl) []
  have hstep : ∃ M', callN X (d + 2) 38 [vR 14 x, vI (nI pt), vR 24 0, vR 25 0] (M, w, true, fm, l, t, u) = some (some (vI (tV b n (nI pt) (fun j => M 24 0 j))), (M', w, true, fm, l, t, u)) ∧ fr25 M M' := by
    simp only [List.length_append] at hlen
    have : pt = 0 ∨ pt = 1 ∨ pt = 2 := by omega
    rcases this with rfl | rfl | rfl
    · refine sX4_value X d w fm l t u (s := 0) (c := (pTx b n).2.1) (by omega) t0 (by rw [Nat.zero_add (pTx b n).2.1.length]; exact t1) (by omega) (fun j hj => ?_) hv
      rw [Nat.zero_add, t4 j (by simp only [List.length_append]; omega), getD_l (by simp only [List.length_append]; omega), getD_l hj]
    · refine sX4_value X d w fm l t u (s := (pTx b n).2.1.length) (c := (pTx b n).2.2.1) (by omega) t1 (by rw [← List.length_append]; exact t2) (by omega) (fun j hj => ?_) hv
      rw [t4 _ (by simp only [List.length_append]; omega), getD_l (by simp only [List.length_append]; omega), getD_r (by omega), Nat.add_sub_cancel_left]
    · refine sX4_value X d w fm l t u (s := ((pTx b n).2.1 ++ (pTx b n).2.2.1).length) (c := (pTx b n).2.2.2.1) (by omega) t2 (by rw [← List.length_append]; exact t3) (by simp only [List.length_append]; omega) (fun j hj => ?_) hv
      rw [t4 _ (by simp only [List.length_append]; omega), getD_r (by omega), Nat.add_sub_cancel_left]
  obtain ⟨M', e1, e2⟩ := hstep
  refine ⟨M', ?_, e2⟩
  show callN X (d + 2 + 1) 89 _ _ = _
  rw [aX6_valueOf, in_nI hx (by omega), cond_true, nI_clamp (by omega), e1, bnd_s, tl_s, bX6_valueOf_18, cl_c _ hm]
theorem sX6_nameAll (d : Nat) {M : MM} (w : Int64) (fm : Bool) (l : List (Nat × Nat × Nat)) (t u : Nat) (g m nu dy c s : Int32) : ∃ M', callN X (d + 1) 90 [vR 2 0, vI g, vI m, vI nu, vI dy, vI c, vI s] (M, w, true, fm, l, t, u) = some (none, (M', w, true, fm, l, t, u)) ∧ (∀ k i j, k ≠ 24 → M' k i j = M k i j) ∧ ∀ j, j < 6 → M' 24 0 j = nmF g m nu dy c s j := by
  rw [aX6_nameAll]
  refine ⟨_, rfl, fun k i j h => ?_, fun j hj => ?_⟩
  · rw [nst_fr (fun q => h q.1), nst_fr (fun q => h q.1), nst_fr (fun q => h q.1), nst_fr (fun q => h q.1), nst_fr (fun q => h q.1), nst_fr (fun q => h q.1)]
  · have : j = 0 ∨ j = 1 ∨ j = 2 ∨ j = 3 ∨ j = 4 ∨ j = 5 := by omega
    rcases this with rfl | rfl | rfl | rfl | rfl | rfl <;> rfl
def tkG (b : Nat → Nat) (n kd nu dy c mk g : Nat) : Nat := tkN kd nu mk (clN (tV b n 0 (nmF (nI g) (nI mk) (nI nu) (nI dy) (nI c) 0)) 99)
theorem sX6_takesOf (d : Nat) {M : MM} (w : Int64) (fm : Bool) (l : List (Nat × Nat × Nat)) (t u : Nat) {b : Nat → Nat} {n x kd nu dy c mk g : Nat} (hx : x < 6) (hT : TxC M x (pTx b n)) (hG : TxG b n) (h1 : kd ≤ 5) (h2 : nu ≤ 9) (h3 : mk < 6) (h4 : c < 6) (hg : M 4 0 (c * 6 + mk) = nI g) :
    ∃ M', callN X (d + 4) 91 [vR 2 0, vI (nI kd), vI (nI nu), vI (nI dy), vI (nI c), vI (nI mk), vI (nI x)] (M, w, true, fm, l, t, u) = some (some (vI (nI (tkG b n kd nu dy c mk g))), (M', w, true, fm, l, t, u)) ∧ fr245 M M' := by
  obtain ⟨M1, e1, e2, e3⟩ := sX6_nameAll X (d + 2) (M := M) w fm l t u (nI g) (nI mk) (nI nu) (nI dy) (nI c) 0
  obtain ⟨M2, f1, f2⟩ := sX6_valueOf X d (M := M1) w fm l t u (pt := 0) (m := 99) hx (by omega) (by omega) (hT.fr (fun k i j q => e2 k i j (by omega))) hG
  refine ⟨M2, ?_, fun k i j q q2 => (f2 k i j q2).trans (e2 k i j q)⟩
  have f1 : callN X (d + 3) 89 [vR 2 0, vI (nI x), vI 0, vI 99] (M1, w, true, fm, l, t, u) = some (some (vI (nI (clN (tV b n 0 (fun j => M1 24 0 j)) 99))), (M2, w, true, fm, l, t, u)) := f1
  rw [tV_congr hG 0 (nm2 := fun j => M1 24 0 j) e3] at f1
  show callN X (d + 3 + 1) 91 _ _ = _
  rw [aX6_takesOf, li6, pk_mul, nI_add, in_nI (by omega) (by omega), cond_true, nI_clamp (by omega), hg, e1, bnd_s, tl_n, bX6_takesOf_27, f1, bnd_s, tl_s, bX6_takesOf_37, sX1_takes X (d + 1) w fm l t u h1 h2 h3 (clN_le _ _), bnd_s, tl_s, bX6_takesOf_43]
  rfl
end
