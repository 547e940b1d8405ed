/-! like, odd, count -/
def dsN (a b : Nat) : Nat := (a - b) + (b - a)
def apN (f : Nat → Nat) (o q : Nat) : Nat := sumN (fun k => dsN (f (o * 6 + k)) (f (q * 6 + k))) 6
theorem ds_if {a b : Nat} (ha : a < 2 ^ 30) (hb : b < 2 ^ 30) : (if (0 : Int32) ≤ nI a - nI b then nI a - nI b else 0 - (nI a - nI b)) = nI (dsN a b) := by
  unfold dsN
  by_cases c : b ≤ a
  · rw [pk_sub c, if_pos (show (0 : Int32) ≤ nI (a - b) from nI_le (Nat.zero_le _) (by omega)), show b - a = 0 by omega, Nat.add_zero]
  · have hn := pk_sneg (a := a) (b := b) hb (by omega)
    rw [if_neg (fun q => by
      rw [Int32.lt_iff_toInt_lt] at hn
      rw [Int32.le_iff_toInt_le] at q
      omega), Int32.zero_sub, Int32.neg_sub, pk_sub (by omega), show a - b = 0 by omega, Nat.zero_add]
theorem dsN_le {a b m : Nat} (ha : a ≤ m) (hb : b ≤ m) : dsN a b ≤ m := by
  unfold dsN
  omega
theorem apN_le {f : Nat → Nat} {m : Nat} (h : ∀ j, f j ≤ m) (o q : Nat) : apN f o q ≤ 6 * m := sumN_le 6 (fun _ _ => dsN_le (h _) (h _))
def tlN (s : GS) (o x : Nat) : Nat := sumN (fun k => if gSh (sW s) (o * 6 + k) = 0 then 0 else suS s x o k) 6
/-- the first of the others that is most apart, and how far -/
def odF (ap : Nat → Nat) (o : Nat) : Nat → Int32 × Int32
  | 0 => (-1, -1)
  | q + 1 => if q = o then odF ap o q else if nI (ap q) ≤ (odF ap o q).2 then odF ap o q else (nI q, nI (ap q))
def poF (f : Nat → Nat) : Nat → Nat
  | 0 => 0
  | n + 1 => if f (poF f n) ≤ f n then poF f n else n
theorem poF_lt (f : Nat → Nat) (n : Nat) : poF f n ≤ n - 1 := by
  induction n with
  | zero => exact Nat.le_refl _
  | succ n ih =>
    show (if f (poF f n) ≤ f n then poF f n else n) ≤ n
    split <;> omega
theorem odF_is {ap : Nat → Nat} {o : Nat} : ∀ n, (odF ap o n = (-1, -1)) ∨ ∃ q, q < n ∧ q ≠ o ∧ odF ap o n = (nI q, nI (ap q))
  | 0 => Or.inl rfl
  | n + 1 => by
    show ((if n = o then odF ap o n else if nI (ap n) ≤ (odF ap o n).2 then odF ap o n else (nI n, nI (ap n))) = (-1, -1)) ∨ ∃ q, q < n + 1 ∧ q ≠ o ∧ (if n = o then odF ap o n else if nI (ap n) ≤ (odF ap o n).2 then odF ap o n else (nI n, nI (ap n))) = (nI q, nI (ap q))
    have ih := odF_is (ap := ap) (o := o) n
    have key : ((odF ap o n) = (-1, -1)) ∨ ∃ q, q < n + 1 ∧ q ≠ o ∧ odF ap o n = (nI q, nI (ap q)) := by
      rcases ih with h | ⟨q, h1, h2, h3⟩
      · exact Or.inl h
      · exact Or.inr ⟨q, by omega, h2, h3⟩
    by_cases c : n = o
    · rw [if_pos c]
      exact key
    rw [if_neg c]
    by_cases c2 : nI (ap n) ≤ (odF ap o n).2
    · rw [if_pos c2]
      exact key
    · rw [if_neg c2]
      exact Or.inr ⟨n, by omega, c, rfl⟩
section
variable (X : Nat × (Nat → Int32))
theorem cApart (d : Nat) {M : MM} (w : Int64) (fm : Bool) (l : List (Nat × Nat × Nat)) (t u : Nat) {g : GW} {o q : Nat} (h : WC M 0 g) (hsh : ∀ j, gSh g j ≤ 9999) (ho : o < 5) (hq : q < 5) : callN X (d + 1) 47 [vR 3 0, vI (nI o), vI (nI q)] (M, w, true, fm, l, t, u) = some (some (vI (nI (apN (gSh g) o q))), (M, w, true, fm, l, t, u)) := by
  have loop : ∀ m i, i + m = 6 → nR X (callN X d) hX5_apart 5 [vR 3 0, vI (nI o), vI (nI q), vI (nI (sumN (fun k => dsN (gSh g (o * 6 + k)) (gSh g (q * 6 + k))) i)), vI (nI i)] [] (M, w, true, fm, l, t, u) = some (some (vI (nI (apN (gSh g) o q))), (M, w, true, fm, l, t, u)) := by
    intro m
    induction m with
    | zero =>
      intro i hi
      have hi : i = 6 := hi
      subst hi
      rw [bX5_apart_5, if_pos (by decide)]
      rfl
    | succ m ih =>
      intro i hi
      have b1 := hsh (o * 6 + i)
      have b2 := hsh (q * 6 + i)
      rw [bX5_apart_5, li6, if_neg (nI_ge (by omega) (by omega)), pk_mul, pk_mul, nI_add, nI_add, nin_t (show o * 6 + i < 30 by omega), nin_t (show q * 6 + i < 30 by omega), cond_tt rfl, cond_tt rfl, nI_clamp (by omega), nI_clamp (by omega), h.2.2.2.2.1 _ (by omega), h.2.2.2.2.1 _ (by omega), ds_if (by omega) (by omega), nI_add, nI_1]
      exact ih (i + 1) (by omega)
  rw [aX5_apart]
  exact loop 6 0 rfl
theorem mApart (d : Nat) {M : MM} (w : Int64) (l : List (Nat × Nat × Nat)) (t u : Nat) {g : GW} {o q : Nat} (h : WM M g) (hsh : ∀ j, gSh g j ≤ 9999) (ho : o < 5) (hq : q < 5) : callN X (d + 1) 154 [vR 30 0, vI (nI o), vI (nI q)] (M, w, true, true, l, t, u) = some (some (vI (nI (apN (gSh g) o q))), (M, w, true, true, l, t, u)) := by
  have loop : ∀ m i x5, i + m = 6 → nR X (callN X d) hX7_apart 5 [vR 30 0, vI (nI o), vI (nI q), vI (nI (sumN (fun k => dsN (gSh g (o * 6 + k)) (gSh g (q * 6 + k))) i)), vI (nI i), x5] [] (M, w, true, true, l, t, u) = some (some (vI (nI (apN (gSh g) o q))), (M, w, true, true, l, t, u)) := by
    intro m
    induction m with
    | zero =>
      intro i x5 hi
      have hi : i = 6 := hi
      subst hi
      rw [bX7_apart_5, if_pos (by decide)]
      rfl
    | succ m ih =>
      intro i x5 hi
      have b1 := hsh (o * 6 + i)
      have b2 := hsh (q * 6 + i)
      have e1 := ds_if (a := gSh g (o * 6 + i)) (b := gSh g (q * 6 + i)) (by omega) (by omega)
      rw [bX7_apart_5, li6, if_neg (nI_ge (by omega) (by omega)), pk_mul, pk_mul, nI_add, nI_add, Nat.mul_comm 6 o, Nat.mul_comm 6 q, nin_t (show o * 6 + i < 30 by omega), nin_t (show q * 6 + i < 30 by omega), cond_tt rfl, cond_tt rfl, nI_clamp (by omega), nI_clamp (by omega), h.2.2.2.2.1 _ (by omega), h.2.2.2.2.1 _ (by omega), nI_1, ← Int32.zero_sub]
      by_cases c : (0 : Int32) ≤ nI (gSh g (o * 6 + i)) - nI (gSh g (q * 6 + i))
      · rw [if_pos c] at e1 ⊢
        rw [e1, nI_add]
        exact ih (i + 1) _ (by omega)
      · rw [if_neg c] at e1 ⊢
        rw [e1, nI_add]
        exact ih (i + 1) _ (by omega)
  rw [aX7_apart]
  exact loop 6 0 vX rfl
theorem cTells (d : Nat) {M : MM} (w : Int64) (t u : Nat) {s : GS} {o x : Nat} (h : SC M s) (hB : TB s) (hsh : ∀ j, gSh (sW s) j ≤ 9999) (ho : o < 5) (hx : x < 5) : ∃ M2, callN X (d + 5) 95 [vR 2 0, vI (nI o), vI (nI x)] (M, w, true, true, [], t, u) = some (some (vI (nI (tlN s o x))), (M2, w, true, true, [], t, u)) ∧ fr245 M M2 := by
  have loop : ∀ (m i : Nat) (Mi : MM), i + m = 6 → fr245 M Mi → ∃ M2, nR X (callN X (d + 4)) hX6_tellsExaminer 5 [vR 2 0, vI (nI o), vI (nI x), vI (nI (sumN (fun k => if gSh (sW s) (o * 6 + k) = 0 then 0 else suS s x o k) i)), vI (nI i)] [] (Mi, w, true, true, [], t, u) = some (some (vI (nI (tlN s o x))), (M2, w, true, true, [], t, u)) ∧ fr245 M M2 := by
    intro m
    induction m with
    | zero =>
      intro i Mi hi hf
      have hi : i = 6 := hi
      subst hi
      rw [bX6_tellsExaminer_5, if_pos (by decide)]
      exact ⟨Mi, rfl, hf⟩
    | succ m ih =>
      intro i Mi hi hf
      have b1 := hsh (o * 6 + i)
      have hS : SC Mi s := h.fr hf.C
      rw [bX6_tellsExaminer_5, li6, if_neg (nI_ge (by omega) (by omega)), pk_mul, nI_add, nin_t (show o * 6 + i < 30 by omega), cond_tt rfl, nI_clamp (by omega), hS.1.2.2.2.2.1 _ (by omega), nI_1]
      have e9 : sumN (fun k => if gSh (sW s) (o * 6 + k) = 0 then 0 else suS s x o k) (i + 1) = sumN (fun k => if gSh (sW s) (o * 6 + k) = 0 then 0 else suS s x o k) i + (if gSh (sW s) (o * 6 + i) = 0 then 0 else suS s x o i) := rfl
      by_cases c : gSh (sW s) (o * 6 + i) = 0
      · rw [if_pos (show nI (gSh (sW s) (o * 6 + i)) ≤ 0 by rw [c]; decide)]
        have := ih (i + 1) Mi (by omega) hf
        rw [e9, if_pos c, Nat.add_zero] at this
        exact this
      · obtain ⟨M1, e1, e2⟩ := cSure X d w true [] t u (x := x) (o := o) (mk := i) hS hB hx ho (by omega)
        rw [if_neg (nI_nle (by omega) (by omega)), e1, bnd_s]
        show ∃ M2, nR X (callN X (d + 4)) hX6_tellsExaminer 39 [vR 2 0, vI (nI o), vI (nI x), vI (nI (sumN (fun k => if gSh (sW s) (o * 6 + k) = 0 then 0 else suS s x o k) i)), vI (nI i)] [vI (nI (suS s x o i)), vI (nI (sumN (fun k => if gSh (sW s) (o * 6 + k) = 0 then 0 else suS s x o k) i))] _ = _ ∧ _
        rw [bX6_tellsExaminer_39, nI_add, nI_1]
        have := ih (i + 1) M1 (by omega) (hf.trans e2)
        rw [e9, if_neg c] at this
        exact this
  rw [show d + 5 = d + 4 + 1 from rfl, aX6_tellsExaminer]
  exact loop 6 0 M rfl (fr245.refl M)
theorem mTells (d : Nat) {M : MM} (w : Int64) (t u : Nat) {s : GS} {o x : Nat} (h : SM M s) (hB : TB s) (hsh : ∀ j, gSh (sW s) j ≤ 9999) (ho : o < 5) (hx : x < gP (sW s)) : ∃ (M2 : MM) (w2 : Int64), callN X (d + 55) 155 [vR 30 0, vI (nI o), vI (nI x)] (M, w, true, true, [], t, u) = some (some (vI (nI (tlN s o x))), (M2, w2, true, true, [], t, u)) ∧ frS M M2 := by
  have loop : ∀ (m i : Nat) (Mi : MM) (wi : Int64), i + m = 6 → frS M Mi → ∃ (M2 : MM) (w2 : Int64), nR X (callN X (d + 54)) hX7_tellsOf 5 [vR 30 0, vI (nI o), vI (nI x), vI (nI (sumN (fun k => if gSh (sW s) (o * 6 + k) = 0 then 0 else suS s x o k) i)), vI (nI i)] [] (Mi, wi, true, true, [], t, u) = some (some (vI (nI (tlN s o x))), (M2, w2, true, true, [], t, u)) ∧ frS M M2 := by
    intro m
    induction m with
    | zero =>
      intro i Mi wi hi hf
      have hi : i = 6 := hi
      subst hi
      rw [bX7_tellsOf_5, if_pos (by decide)]
      exact ⟨Mi, wi, rfl, hf⟩
    | succ m ih =>
      intro i Mi wi hi hf
      have b1 := hsh (o * 6 + i)
      have hS : SM Mi s := h.fr hf.M
      rw [bX7_tellsOf_5, li6, if_neg (nI_ge (by omega) (by omega)), pk_mul, nI_add, Nat.mul_comm 6 o, nin_t (show o * 6 + i < 30 by omega), cond_tt rfl, nI_clamp (by omega), hS.1.2.2.2.2.1 _ (by omega), nI_1, Int32.add_zero]
      have e9 : sumN (fun k => if gSh (sW s) (o * 6 + k) = 0 then 0 else suS s x o k) (i + 1) = sumN (fun k => if gSh (sW s) (o * 6 + k) = 0 then 0 else suS s x o k) i + (if gSh (sW s) (o * 6 + i) = 0 then 0 else suS s x o i) := rfl
      by_cases c : gSh (sW s) (o * 6 + i) = 0
      · rw [if_pos (show nI (gSh (sW s) (o * 6 + i)) ≤ 0 by rw [c]; decide)]
        have := ih (i + 1) Mi wi (by omega) hf
        rw [e9, if_pos c, Nat.add_zero] at this
        exact this
      · obtain ⟨M1, w1, e1, e2⟩ := mSure X d wi [] t u (x := x) (o := o) (mk := i) hS hB hx ho (by omega)
        rw [if_neg (nI_nle (by omega) (by omega)), e1, bnd_s]
        show ∃ (M2 : MM) (w2 : Int64), nR X (callN X (d + 54)) hX7_tellsOf 36 [vR 30 0, vI (nI o), vI (nI x), vI (nI (sumN (fun k => if gSh (sW s) (o * 6 + k) = 0 then 0 else suS s x o k) i)), vI (nI i)] [vI (nI (suS s x o i)), vI (nI (sumN (fun k => if gSh (sW s) (o * 6 + k) = 0 then 0 else suS s x o k) i))] _ = _ ∧ _
        rw [bX7_tellsOf_36, nI_add, nI_1]
        have := ih (i + 1) M1 w1 (by omega) (hf.trans e2)
        rw [e9, if_neg c] at this
        exact this
  rw [show d + 55 = d + 54 + 1 from rfl, aX7_tellsOf]
  exact loop 6 0 M w rfl (frS.refl M)
theorem two_ex {a b : Int32} {n : Nat} (h : twoB a b n = true) (hn : n < 2 ^ 31) : ∃ o q : Nat, o < n ∧ q < n ∧ o ≠ q ∧ a = nI o ∧ b = nI q := by
  unfold twoB at h
  rw [Bool.and_eq_true, Bool.and_eq_true, decide_eq_true_eq] at h
  obtain ⟨o, ho, rfl⟩ := in_ex h.1 hn
  obtain ⟨q, hq, rfl⟩ := in_ex h.2.1 hn
  exact ⟨o, q, ho, hq, fun e => h.2.2 (congrArg nI e), rfl, rfl⟩
theorem q_like (a b k : Int32) : Stq X 60 157 [vI a, vI b, vI k] := fun s hB => by
  have hP := hB.1.2.2.2.2.2
  have hsh := hB.2.1.2.2.2.1
  cases c1 : twoB a b (gP (sW s))
  · refine q_bad X hB (vI (-2)) (fun d M w t u h => ?_) (fun d M w t u h => ?_)
    · rw [show d + 200 = d + 199 + 1 from rfl, aX6_like, cTwo X (d + 197) a b w true [] t u h.1 hP, c1, bnd_s, tl_s, bX6_like_6, if_b]
      rfl
    · rw [show d + 200 = d + 199 + 1 from rfl, aX7_like, mTwo X (d + 196) a b w [] t u h.1 hP, c1, bnd_s, tl_s, bX7_like_6, if_b]
      rfl
  cases c2 : nIn k 2
  · refine q_bad X hB (vI (-2)) (fun d M w t u h => ?_) (fun d M w t u h => ?_)
    · rw [show d + 200 = d + 199 + 1 from rfl, aX6_like, cTwo X (d + 197) a b w true [] t u h.1 hP, c1, bnd_s, tl_s, bX6_like_6, if_b, cond_tt rfl, if_in2 (n := 2) rfl, c2]
      rfl
    · rw [show d + 200 = d + 199 + 1 from rfl, aX7_like, mTwo X (d + 196) a b w [] t u h.1 hP, c1, bnd_s, tl_s, bX7_like_6, if_b, cond_tt rfl, mIn X (d + 198) k (n := 2) rfl, c2, bnd_s, tl_s, bX7_like_16, if_b]
      rfl
  obtain ⟨o, q, ho, hq, hoq, rfl, rfl⟩ := two_ex c1 (by omega)
  obtain ⟨k, hk, rfl⟩ := in_ex c2 (by omega)
  have e0 : (nI k = 0) = (k = 0) := by rw [li0]; exact propext (nI_eq (by omega) (by omega))
  by_cases k0 : k = 0
  · refine q_bad X hB (vI (nI (apN (gSh (sW s)) o q))) (fun d M w t u h => ?_) (fun d M w t u h => ?_)
    · rw [show d + 200 = d + 199 + 1 from rfl, aX6_like, cTwo X (d + 197) (nI o) (nI q) w true [] t u h.1 hP, c1, bnd_s, tl_s, bX6_like_6, if_b, cond_tt rfl, if_in2 (n := 2) rfl, c2, cond_tt rfl, if_pos (e0.mpr k0), cApart X (d + 198) w true [] t u h.1 hsh (by omega) (by omega), bnd_s, tl_s, bX6_like_34, bX6_like_43]
    · rw [show d + 200 = d + 199 + 1 from rfl, aX7_like, mTwo X (d + 196) (nI o) (nI q) w [] t u h.1 hP, c1, bnd_s, tl_s, bX7_like_6, if_b, cond_tt rfl, mIn X (d + 198) (nI k) (n := 2) rfl, c2, bnd_s, tl_s, bX7_like_16, if_b, cond_tt rfl, if_pos (e0.mpr k0), mApart X (d + 198) w [] t u h.1 hsh (by omega) (by omega), bnd_s, tl_s, bX7_like_32, bX7_like_41]
  · refine ⟨vI (nI (tlN s o q)), s, CSp.t X (fun d M w t u h => ?_), MSp.t X (fun d M w t u h => ?_), hB⟩
    · obtain ⟨M2, f1, f2⟩ := cTells X (d + 194) w t u h hB.1 hsh (show o < 5 by omega) (show q < 5 by omega)
      refine ⟨M2, ?_, f2⟩
      rw [show d + 200 = d + 199 + 1 from rfl, aX6_like, cTwo X (d + 197) (nI o) (nI q) w true [] t u h.1 hP, c1, bnd_s, tl_s, bX6_like_6, if_b, cond_tt rfl, if_in2 (n := 2) rfl, c2, cond_tt rfl, if_neg (fun z => k0 (e0.mp z)), f1, bnd_s, tl_s, bX6_like_43]
    · obtain ⟨M2, w2, f1, f2⟩ := mTells X (d + 144) w t u h hB.1 hsh (show o < 5 by omega) hq
      refine ⟨M2, w2, ?_, f2⟩
      rw [show d + 200 = d + 199 + 1 from rfl, aX7_like, mTwo X (d + 196) (nI o) (nI q) w [] t u h.1 hP, c1, bnd_s, tl_s, bX7_like_6, if_b, cond_tt rfl, mIn X (d + 198) (nI k) (n := 2) rfl, c2, bnd_s, tl_s, bX7_like_16, if_b, cond_tt rfl, if_neg (fun z => k0 (e0.mp z)), f1, bnd_s, tl_s, bX7_like_41]
theorem cPoor (d : Nat) {M : MM} (w : Int64) (t u : Nat) {g : GW} (h : WC M 0 g) (hco : ∀ j, gCo g j ≤ 99) : callN X (d + 3) 49 [vR 3 0] (M, w, true, true, [], t, u) = some (some (vI (nI (poF (fun c => sumN (fun j => gCo g (c * 6 + j)) 6) 6))), (M, w, true, true, [], t, u)) := by
  have hb : ∀ c, sumN (fun j => gCo g (c * 6 + j)) 6 ≤ 6 * 99 := fun c => sumN_le 6 (fun _ _ => hco _)
  have loop : ∀ m i, i + 1 + m = 6 → nR X (callN X (d + 2)) hX5_poorest 4 [vR 3 0, vI (nI (poF (fun c => sumN (fun j => gCo g (c * 6 + j)) 6) (i + 1))), vI (nI (i + 1))] [] (M, w, true, true, [], t, u) = some (some (vI (nI (poF (fun c => sumN (fun j => gCo g (c * 6 + j)) 6) 6))), (M, w, true, true, [], t, u)) := by
    intro m
    induction m with
    | zero =>
      intro i hi
      have hi : i + 1 = 6 := hi
      rw [hi, bX5_poorest_4, if_pos (by decide)]
    | succ m ih =>
      intro i hi
      have hp := poF_lt (fun c => sumN (fun j => gCo g (c * 6 + j)) 6) (i + 1)
      have b1 := hb (poF (fun c => sumN (fun j => gCo g (c * 6 + j)) 6) (i + 1))
      have b2 := hb (i + 1)
      rw [bX5_poorest_4, li6, if_neg (nI_ge (by omega) (by omega)), sX5_allOnCoast X d 0 w true [] t u h (show i + 1 < 6 by omega), bnd_s, tl_s, bX5_poorest_15, sX5_allOnCoast X d 0 w true [] t u h (show poF (fun c => sumN (fun j => gCo g (c * 6 + j)) 6) (i + 1) < 6 by omega), bnd_s]
      show nR X (callN X (d + 2)) hX5_poorest 20 _ [vI (nI (sumN (fun j => gCo g (poF (fun c => sumN (fun j => gCo g (c * 6 + j)) 6) (i + 1) * 6 + j)) 6)), vI (nI (sumN (fun j => gCo g ((i + 1) * 6 + j)) 6))] _ = _
      rw [bX5_poorest_20, nI_1]
      simp (disch := omega) only [nI_leI]
      have := ih (i + 1) (by omega)
      have e9 : poF (fun c => sumN (fun j => gCo g (c * 6 + j)) 6) (i + 1 + 1) = if sumN (fun j => gCo g (poF (fun c => sumN (fun j => gCo g (c * 6 + j)) 6) (i + 1) * 6 + j)) 6 ≤ sumN (fun j => gCo g ((i + 1) * 6 + j)) 6 then poF (fun c => sumN (fun j => gCo g (c * 6 + j)) 6) (i + 1) else i + 1 := rfl
      rw [e9] at this
      by_cases c : sumN (fun j => gCo g (poF (fun c => sumN (fun j => gCo g (c * 6 + j)) 6) (i + 1) * 6 + j)) 6 ≤ sumN (fun j => gCo g ((i + 1) * 6 + j)) 6
      · rw [if_pos c] at this ⊢
        exact this
      · rw [if_neg c] at this ⊢
        exact this
  rw [show d + 3 = d + 2 + 1 from rfl, aX5_poorest]
  have h1 := loop 5 0 rfl
  rw [show poF (fun c => sumN (fun j => gCo g (c * 6 + j)) 6) (0 + 1) = 0 from if_pos (Nat.le_refl _)] at h1
  exact h1
theorem mPoor (d : Nat) {M : MM} (w : Int64) (t u : Nat) (x1 x2 : Int32) {g : GW} (h : WM M g) (hco : ∀ j, gCo g j ≤ 99) : nR X (callN X (d + 1)) hX7_odd 28 [vR 30 0, vI x1, vI x2, vI 0, vI 1, vX, vX] [] (M, w, true, true, [], t, u) = nR X (callN X (d + 1)) hX7_odd 71 [vR 30 0, vI x1, vI x2, vI (nI (poF (fun c => sumN (fun j => gCo g (c * 6 + j)) 6) 6)), vI (-1), vI (-1), vI 0] [] (M, w, true, true, [], t, u) := by
  have hb : ∀ c, sumN (fun j => gCo g (c * 6 + j)) 6 ≤ 6 * 99 := fun c => sumN_le 6 (fun _ _ => hco _)
  have loop : ∀ m i, i + 1 + m = 6 → nR X (callN X (d + 1)) hX7_odd 28 [vR 30 0, vI x1, vI x2, vI (nI (poF (fun c => sumN (fun j => gCo g (c * 6 + j)) 6) (i + 1))), vI (nI (i + 1)), vX, vX] [] (M, w, true, true, [], t, u) = nR X (callN X (d + 1)) hX7_odd 71 [vR 30 0, vI x1, vI x2, vI (nI (poF (fun c => sumN (fun j => gCo g (c * 6 + j)) 6) 6)), vI (-1), vI (-1), vI 0] [] (M, w, true, true, [], t, u) := by
    intro m
    induction m with
    | zero =>
      intro i hi
      have hi : i + 1 = 6 := hi
      rw [hi, bX7_odd_28, if_pos (by decide)]
    | succ m ih =>
      intro i hi
      have hp := poF_lt (fun c => sumN (fun j => gCo g (c * 6 + j)) 6) (i + 1)
      have b1 := hb (poF (fun c => sumN (fun j => gCo g (c * 6 + j)) 6) (i + 1))
      have b2 := hb (i + 1)
      rw [bX7_odd_28, li6, if_neg (nI_ge (by omega) (by omega)), sX7_coastOf X d w [] t u h (show i + 1 < 6 by omega), bnd_s, tl_s, bX7_odd_41, sX7_coastOf X d w [] t u h (show poF (fun c => sumN (fun j => gCo g (c * 6 + j)) 6) (i + 1) < 6 by omega), bnd_s]
      show nR X (callN X (d + 1)) hX7_odd 46 _ [vI (nI (sumN (fun j => gCo g (poF (fun c => sumN (fun j => gCo g (c * 6 + j)) 6) (i + 1) * 6 + j)) 6)), vI (nI (sumN (fun j => gCo g ((i + 1) * 6 + j)) 6))] _ = _
      rw [bX7_odd_46, nI_1]
      simp (disch := omega) only [nI_leI]
      have := ih (i + 1) (by omega)
      have e9 : poF (fun c => sumN (fun j => gCo g (c * 6 + j)) 6) (i + 1 + 1) = if sumN (fun j => gCo g (poF (fun c => sumN (fun j => gCo g (c * 6 + j)) 6) (i + 1) * 6 + j)) 6 ≤ sumN (fun j => gCo g ((i + 1) * 6 + j)) 6 then poF (fun c => sumN (fun j => gCo g (c * 6 + j)) 6) (i + 1) else i + 1 := rfl
      rw [e9] at this
      by_cases c : sumN (fun j => gCo g (poF (fun c => sumN (fun j => gCo g (c * 6 + j)) 6) (i + 1) * 6 + j)) 6 ≤ sumN (fun j => gCo g ((i + 1) * 6 + j)) 6
      · rw [if_pos c] at this ⊢
        exact this
      · rw [if_neg c] at this ⊢
        exact this
  have h1 := loop 5 0 rfl
  rw [show poF (fun c => sumN (fun j => gCo g (c * 6 + j)) 6) (0 + 1) = 0 from if_pos (Nat.le_refl _)] at h1
  exact h1
theorem cOdd (d : Nat) {M : MM} (w : Int64) (t u : Nat) {g : GW} {o : Nat} (h : WC M 0 g) (hP : gP g ≤ 5) (hsh : ∀ j, gSh g j ≤ 9999) (ho : o < 5) : callN X (d + 2) 48 [vR 3 0, vI (nI o)] (M, w, true, true, [], t, u) = some (some (vI (odF (apN (gSh g) o) o (gP g)).1), (M, w, true, true, [], t, u)) := by
  have loop : ∀ m i, i + m = gP g → nR X (callN X (d + 1)) hX5_oddest 7 [vR 3 0, vI (nI o), vI (odF (apN (gSh g) o) o i).1, vI (odF (apN (gSh g) o) o i).2, vI (nI i)] [] (M, w, true, true, [], t, u) = some (some (vI (odF (apN (gSh g) o) o (gP g)).1), (M, w, true, true, [], t, u)) := by
    intro m
    induction m with
    | zero =>
      intro i hi
      have hi : i = gP g := hi
      subst hi
      rw [bX5_oddest_7, h.2.2.1, if_pos (nI_le (Nat.le_refl _) (by omega))]
    | succ m ih =>
      intro i hi
      have := ih (i + 1) (by omega)
      have e9 : odF (apN (gSh g) o) o (i + 1) = if i = o then odF (apN (gSh g) o) o i else if nI (apN (gSh g) o i) ≤ (odF (apN (gSh g) o) o i).2 then odF (apN (gSh g) o) o i else (nI i, nI (apN (gSh g) o i)) := rfl
      rw [e9] at this
      rw [bX5_oddest_7, h.2.2.1, if_neg (nI_ge (by omega) (by omega))]
      by_cases c : i = o
      · rw [if_pos c] at this
        rw [if_pos (congrArg nI c), nI_1]
        exact this
      rw [if_neg c] at this
      rw [if_neg (fun q => c ((nI_eq (by omega) (by omega)).mp q)), cApart X d w true [] t u h hsh ho (show i < 5 by omega), bnd_s, tl_s, bX5_oddest_29]
      by_cases c2 : nI (apN (gSh g) o i) ≤ (odF (apN (gSh g) o) o i).2
      · rw [if_pos c2] at this
        rw [if_pos c2, nI_1]
        exact this
      · rw [if_neg c2] at this
        rw [if_neg c2, cApart X d w true [] t u h hsh ho (show i < 5 by omega), bnd_s, tl_s, bX5_oddest_43, nI_1]
        exact this
  rw [show d + 2 = d + 1 + 1 from rfl, aX5_oddest]
  exact loop (gP g) 0 (Nat.zero_add _)
theorem mOdd (d : Nat) {M : MM} (w : Int64) (t u : Nat) (x2 x3 : Int32) {g : GW} {o : Nat} (h : WM M g) (hP : gP g ≤ 5) (hsh : ∀ j, gSh g j ≤ 9999) (ho : o < 5) : nR X (callN X (d + 1)) hX7_odd 71 [vR 30 0, vI (nI o), vI x2, vI x3, vI (-1), vI (-1), vI 0] [] (M, w, true, true, [], t, u) = some (some (vI (if x2 = 0 then (odF (apN (gSh g) o) o (gP g)).1 else if x2 = 1 then (odF (apN (gSh g) o) o (gP g)).2 else x3)), (M, w, true, true, [], t, u)) := by
  have loop : ∀ m i, i + m = gP g → nR X (callN X (d + 1)) hX7_odd 71 [vR 30 0, vI (nI o), vI x2, vI x3, vI (odF (apN (gSh g) o) o i).1, vI (odF (apN (gSh g) o) o i).2, vI (nI i)] [] (M, w, true, true, [], t, u) = some (some (vI (if x2 = 0 then (odF (apN (gSh g) o) o (gP g)).1 else if x2 = 1 then (odF (apN (gSh g) o) o (gP g)).2 else x3)), (M, w, true, true, [], t, u)) := by
    intro m
    induction m with
    | zero =>
      intro i hi
      have hi : i = gP g := hi
      subst hi
      rw [bX7_odd_71, h.2.2.1, if_pos (nI_le (Nat.le_refl _) (by omega))]
      by_cases c0 : x2 = 0
      · rw [if_pos c0, if_pos c0]
      rw [if_neg c0, if_neg c0]
      by_cases c1 : x2 = 1
      · rw [if_pos c1, if_pos c1]
      rw [if_neg c1, if_neg c1]
    | succ m ih =>
      intro i hi
      have := ih (i + 1) (by omega)
      have e9 : odF (apN (gSh g) o) o (i + 1) = if i = o then odF (apN (gSh g) o) o i else if nI (apN (gSh g) o i) ≤ (odF (apN (gSh g) o) o i).2 then odF (apN (gSh g) o) o i else (nI i, nI (apN (gSh g) o i)) := rfl
      rw [e9] at this
      rw [bX7_odd_71, h.2.2.1, if_neg (nI_ge (by omega) (by omega))]
      by_cases c : i = o
      · rw [if_pos c] at this
        rw [if_pos (congrArg nI c), nI_1]
        exact this
      rw [if_neg c] at this
      rw [if_neg (fun q => c ((nI_eq (by omega) (by omega)).mp q)), mApart X d w [] t u h hsh ho (show i < 5 by omega), bnd_s, tl_s, bX7_odd_93]
      by_cases c2 : nI (apN (gSh g) o i) ≤ (odF (apN (gSh g) o) o i).2
      · rw [if_pos c2] at this
        rw [if_pos c2, nI_1]
        exact this
      · rw [if_neg c2] at this
        rw [if_neg c2, mApart X d w [] t u h hsh ho (show i < 5 by omega), bnd_s, tl_s, bX7_odd_109, nI_1]
        exact this
  exact loop (gP g) 0 (Nat.zero_add _)
theorem q_odd (a k : Int32) : Stq X 61 158 [vI a, vI k] := fun s hB => by
  have hP := hB.1.2.2.2.2.2
  have hsh := hB.2.1.2.2.2.1
  have hco := hB.2.1.2.2.1
  cases c1 : nIn a (gP (sW s))
  · refine q_bad X hB (vI (-2)) (fun d M w t u h => ?_) (fun d M w t u h => ?_)
    · rw [show d + 200 = d + 199 + 1 from rfl, aX6_odd, cHas X (d + 198) a w true [] t u h.1 hP, c1, bnd_s, tl_s, bX6_odd_8, if_b]
      rfl
    · rw [show d + 200 = d + 199 + 1 from rfl, aX7_odd, mOne X (d + 197) a w [] t u h.1 hP, c1, bnd_s, tl_s, bX7_odd_5, if_b]
      rfl
  cases c2 : nIn k 3
  · refine q_bad X hB (vI (-2)) (fun d M w t u h => ?_) (fun d M w t u h => ?_)
    · rw [show d + 200 = d + 199 + 1 from rfl, aX6_odd, cHas X (d + 198) a w true [] t u h.1 hP, c1, bnd_s, tl_s, bX6_odd_8, if_b, cond_tt rfl, if_in2 (n := 3) rfl, c2]
      rfl
    · rw [show d + 200 = d + 199 + 1 from rfl, aX7_odd, mOne X (d + 197) a w [] t u h.1 hP, c1, bnd_s, tl_s, bX7_odd_5, if_b, cond_tt rfl, mIn X (d + 198) k (n := 3) rfl, c2, bnd_s, tl_s, bX7_odd_17, if_b]
      rfl
  obtain ⟨o, ho, rfl⟩ := in_ex c1 (by omega)
  have ho5 : o < 5 := by omega
  obtain ⟨k, hk, rfl⟩ := in_ex c2 (by omega)
  have hm : ∀ (d : Nat) (M : MM) (w : Int64) (t u : Nat), SM M s → callN X (d + 200) 158 [vR 30 0, vI (nI o), vI (nI k)] (M, w, true, true, [], t, u) = some (some (vI (if nI k = 0 then (odF (apN (gSh (sW s)) o) o (gP (sW s))).1 else if nI k = 1 then (odF (apN (gSh (sW s)) o) o (gP (sW s))).2 else nI (poF (fun c => sumN (fun j => gCo (sW s) (c * 6 + j)) 6) 6))), (M, w, true, true, [], t, u)) := by
    intro d M w t u h
    rw [show d + 200 = d + 199 + 1 from rfl, aX7_odd, mOne X (d + 197) (nI o) w [] t u h.1 hP, c1, bnd_s, tl_s, bX7_odd_5, if_b, cond_tt rfl, mIn X (d + 198) (nI k) (n := 3) rfl, c2, bnd_s, tl_s, bX7_odd_17, if_b, cond_tt rfl, mPoor X (d + 198) w t u (nI o) (nI k) h.1 hco, mOdd X (d + 198) w t u _ _ h.1 hP hsh ho5]
  refine ⟨_, s, CSp.n X (fun d M w t u h => ?_), MSp.n X hm, hB⟩
  rw [show d + 200 = d + 199 + 1 from rfl, aX6_odd, cHas X (d + 198) (nI o) w true [] t u h.1 hP, c1, bnd_s, tl_s, bX6_odd_8, if_b, cond_tt rfl, if_in2 (n := 3) rfl, c2, cond_tt rfl]
  have hk3 : k = 0 ∨ k = 1 ∨ k = 2 := by omega
  rcases hk3 with rfl | rfl | rfl
  · rw [if_neg (by decide), cOdd X (d + 197) w t u h.1 hP hsh ho5, bnd_s, tl_s, bX6_odd_44, if_pos (by decide), bX6_odd_67]
    rfl
  · rw [if_neg (by decide), cOdd X (d + 197) w t u h.1 hP hsh ho5, bnd_s, tl_s, bX6_odd_44, if_neg (show ¬ nI 1 = 0 by decide), if_neg (show ¬ nI 1 = 0 by decide), if_pos (show nI 1 = 1 by decide)]
    rcases odF_is (ap := apN (gSh (sW s)) o) (o := o) (gP (sW s)) with e | ⟨q, hq, hqo, e⟩
    · rw [e, if_pos rfl, bX6_odd_67]
    · rw [e]
      have hne : ¬ nI q = -1 := fun z => by
        have e1 : (-1 : Int32).toInt = -1 := rfl
        rw [← z, nI_toInt (by omega)] at e1
        omega
      rw [if_neg hne, cApart X (d + 198) w true [] t u h.1 hsh ho5 (show q < 5 by omega), bnd_s, tl_s, bX6_odd_67]
  · rw [if_pos (by decide), cPoor X (d + 196) w t u h.1 hco, bnd_s, tl_s, bX6_odd_35]
    rfl
/-! count -/
theorem sum_sum (f : Nat → Nat) : ∀ n, sumN (fun p => sumN (fun j => f (p * 6 + j)) 6) n = sumN f (n * 6)
  | 0 => rfl
  | n + 1 => by
    rw [Nat.succ_mul]
    show sumN (fun p => sumN (fun j => f (p * 6 + j)) 6) n + sumN (fun j => f (n * 6 + j)) 6 = _
    rw [sum_sum f n]
    simp only [sumN, Nat.add_zero, Nat.zero_add]
    show _ = sumN f (n * 6) + f (n * 6) + f (n * 6 + 1) + f (n * 6 + 2) + f (n * 6 + 3) + f (n * 6 + 4) + f (n * 6 + 5)
    omega
theorem q_count (k : Int32) : Stq X 74 185 [vI k] := fun s hB => by
  have hP := hB.1.2.2.2.2.2
  cases c1 : nIn k 6
  · have hne := ne_of_nin c1 (by omega)
    refine q_bad X hB (vI (-2)) (fun d M w t u h => ?_) (fun d M w t u h => ?_)
    · rw [show d + 200 = d + 199 + 1 from rfl, aX6_count, if_neg (show ¬ k = (0 : Int32) from hne 0 (by omega)), if_neg (show ¬ k = (1 : Int32) from hne 1 (by omega)), if_neg (show ¬ k = (2 : Int32) from hne 2 (by omega)), if_neg (show ¬ k = (3 : Int32) from hne 3 (by omega)), if_neg (show ¬ k = (4 : Int32) from hne 4 (by omega)), if_neg (show ¬ k = (5 : Int32) from hne 5 (by omega))]
    · rw [show d + 200 = d + 199 + 1 from rfl, aX7_count, mIn X (d + 198) k (n := 6) rfl, c1, bnd_s, tl_s, bX7_count_9, if_b]
      rfl
  obtain ⟨k, hk, rfl⟩ := in_ex c1 (by omega)
  have loop : ∀ (d : Nat) (M : MM) (w : Int64) (t u : Nat), SM M s → ∀ m i, i + m = gP (sW s) → nR X (callN X (d + 199)) hX7_count 19 [vR 30 0, vI (nI k), vI (nI (sumN (fun p => sumN (fun j => gSh (sW s) (p * 6 + j)) 6) i)), vI (nI i)] [] (M, w, true, true, [], t, u) = nR X (callN X (d + 199)) hX7_count 19 [vR 30 0, vI (nI k), vI (nI (sumN (gSh (sW s)) (gP (sW s) * 6))), vI (nI (gP (sW s)))] [] (M, w, true, true, [], t, u) := by
    intro d M w t u h m
    induction m with
    | zero =>
      intro i hi
      have hi : i = gP (sW s) := hi
      rw [hi, sum_sum]
    | succ m ih =>
      intro i hi
      rw [bX7_count_19, h.1.2.2.1, if_neg (nI_ge (by omega) (by omega)), sX7_shoeOf X (d + 198) w [] t u h.1 (show i < 5 by omega), bnd_s]
      show nR X (callN X (d + 199)) hX7_count 33 _ [vI (nI (sumN (fun j => gSh (sW s) (i * 6 + j)) 6)), vI (nI (sumN (fun p => sumN (fun j => gSh (sW s) (p * 6 + j)) 6) i))] _ = _
      rw [bX7_count_33, nI_add, nI_1]
      exact ih (i + 1) (by omega)
  have hm : ∀ (d : Nat) (M : MM) (w : Int64) (t u : Nat), SM M s → callN X (d + 200) 185 [vR 30 0, vI (nI k)] (M, w, true, true, [], t, u) = if nI k = 0 then some (some (vI (nI (gP (sW s)))), (M, w, true, true, [], t, u)) else if nI k = 1 then some (some (vI (nI (gD (sW s)))), (M, w, true, true, [], t, u)) else if nI k = 2 then some (some (vI (nI (sumN (gSh (sW s)) (gP (sW s) * 6)))), (M, w, true, true, [], t, u)) else if nI k = 3 then some (some (vI (nI (sN s))), (M, w, true, true, [], t, u)) else if nI k = 4 then some (some (vI (nI (sT s).2)), (M, w, true, true, [], t, u)) else some (some (vI (nI (gR (sW s)))), (M, w, true, true, [], t, u)) := by
    intro d M w t u h
    have e1 := loop d M w t u h (gP (sW s)) 0 (Nat.zero_add _)
    have e1 : nR X (callN X (d + 199)) hX7_count 19 [vR 30 0, vI (nI k), vI 0, vI 0] [] (M, w, true, true, [], t, u) = _ := e1
    rw [show d + 200 = d + 199 + 1 from rfl, aX7_count, mIn X (d + 198) (nI k) (n := 6) rfl, c1, bnd_s, tl_s, bX7_count_9, if_b, cond_tt rfl, e1, bX7_count_19, h.1.2.2.1, if_pos (nI_le (Nat.le_refl _) (by omega)), h.1.1, h.2.2.2.1.1, h.2.2.1.1, h.1.2.1]
  have hk6 : k = 0 ∨ k = 1 ∨ k = 2 ∨ k = 3 ∨ k = 4 ∨ k = 5 := by omega
  rcases hk6 with rfl | rfl | rfl | rfl | rfl | rfl
  · refine q_bad X hB (vI (nI (gP (sW s)))) (fun d M w t u h => ?_) (fun d M w t u h => by rw [hm d M w t u h]; rfl)
    rw [show d + 200 = d + 199 + 1 from rfl, aX6_count, h.1.2.2.1]
    rfl
  · refine q_bad X hB (vI (nI (gD (sW s)))) (fun d M w t u h => ?_) (fun d M w t u h => by rw [hm d M w t u h]; rfl)
    rw [show d + 200 = d + 199 + 1 from rfl, aX6_count, h.1.1]
    rfl
  · refine q_bad X hB (vI (nI (sumN (gSh (sW s)) (gP (sW s) * 6)))) (fun d M w t u h => ?_) (fun d M w t u h => by rw [hm d M w t u h]; rfl)
    have e1 := sX6_sum5 X (d + 197) 0 (M := M) w true [] t u (f := 0) (n := gP (sW s) * 6) (by omega)
    have e1 : callN X (d + 198) 109 [vR 5 0, vI 0, vI (nI (gP (sW s) * 6))] (M, w, true, true, [], t, u) = _ := e1
    rw [show d + 200 = d + 199 + 1 from rfl, aX6_count, if_neg (by decide), if_neg (by decide), if_pos (by decide), show d + 199 = d + 198 + 1 from rfl, aX5_allInShoes, h.1.2.2.1, li6, pk_mul, e1, bnd_s, tl_s, bX5_allInShoes_15, bnd_s, tl_s, bX6_count_63, sumI_nI (h := gSh (sW s)) (gP (sW s) * 6) (fun j hj => by rw [Nat.zero_add]; exact h.1.2.2.2.2.1 j (by omega))]
  · refine q_bad X hB (vI (nI (sN s))) (fun d M w t u h => ?_) (fun d M w t u h => by rw [hm d M w t u h]; rfl)
    rw [show d + 200 = d + 199 + 1 from rfl, aX6_count, h.2.2.2.1.1]
    rfl
  · refine q_bad X hB (vI (nI (sT s).2)) (fun d M w t u h => ?_) (fun d M w t u h => by rw [hm d M w t u h]; rfl)
    rw [show d + 200 = d + 199 + 1 from rfl, aX6_count, h.2.2.1.1]
    rfl
  · refine q_bad X hB (vI (nI (gR (sW s)))) (fun d M w t u h => ?_) (fun d M w t u h => by rw [hm d M w t u h]; rfl)
    rw [show d + 200 = d + 199 + 1 from rfl, aX6_count, h.1.2.1]
    rfl
end
