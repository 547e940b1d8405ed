/-! the whole state: the world, the image, the tape, the texts, the sheets -/
abbrev GT : Type := (Nat → Nat) × Nat
abbrev GH : Type := Bool × Nat × Nat × (Nat → Int32)
abbrev GS : Type := GW × (Bool × GW) × GT × (Nat × (Nat → GT)) × (Nat → GH)
abbrev sW (s : GS) : GW := s.1
abbrev sK (s : GS) : Bool := s.2.1.1
abbrev sI (s : GS) : GW := s.2.1.2
abbrev sT (s : GS) : GT := s.2.2.1
abbrev sN (s : GS) : Nat := s.2.2.2.1.1
abbrev sX (s : GS) : Nat → GT := s.2.2.2.1.2
abbrev sH (s : GS) : Nat → GH := s.2.2.2.2
def HC (M : MM) (i : Nat) (h : GH) : Prop := (h.1 = false → M 18 i 0 = -1) ∧ (h.1 = true → M 18 i 0 = nI h.2.1 ∧ M 18 i 1 = nI h.2.2.1 ∧ ∀ j, j < h.2.2.1 → M 19 i j = h.2.2.2 j)
def HM (M : MM) (i : Nat) (h : GH) : Prop := M 45 0 i = cond h.1 1 0 ∧ (h.1 = true → M 46 0 i = nI h.2.1 ∧ M 47 0 i = nI h.2.2.1 ∧ ∀ j, j < h.2.2.1 → M 48 0 (40 * i + j) = h.2.2.2 j)
def IM (M : MM) (k : Bool) (g : GW) : Prop := (k = false → M 30 0 42 = -1) ∧ (k = true → M 30 0 42 = nI (gP g) ∧ M 30 0 43 = nI (gD g) ∧ M 30 0 44 = nI (gR g) ∧ (∀ j, j < 36 → M 42 0 j = nI (gCo g j)) ∧ (∀ j, j < 5 → M 43 0 (2 * j) = nI (gNu g j) ∧ M 43 0 (2 * j + 1) = nI (gOu g j)) ∧ ∀ j, j < 30 → M 44 0 j = nI (gSh g j))
def TpC (M : MM) (p : GT) : Prop := M 9 0 1 = nI p.2 ∧ ∀ j, j < p.2 → M 10 0 j = nI (p.1 j)
def TpM (M : MM) (p : GT) : Prop := M 30 0 6 = nI p.2 ∧ ∀ j, j < p.2 → M 33 0 j = nI (p.1 j)
def XsC (M : MM) (n : Nat) (x : Nat → GT) : Prop := M 2 0 5 = nI n ∧ ∀ j, j < n → TxC M j (pTx (x j).1 (x j).2)
def XsM (M : MM) (n : Nat) (x : Nat → GT) : Prop := M 30 0 3 = nI n ∧ ∀ j, j < n → TxM M j (x j).1 (x j).2
def KpC (M : MM) (k : Bool) (g : GW) : Prop := (M 2 0 2 = cond k 1 0 ∧ M 12 0 0 = 0) ∧ (k = true → WC M 1 g)
def SC (M : MM) (s : GS) : Prop := WC M 0 (sW s) ∧ KpC M (sK s) (sI s) ∧ TpC M (sT s) ∧ XsC M (sN s) (sX s) ∧ ∀ i, i < 4 → HC M i (sH s i)
def SM (M : MM) (s : GS) : Prop := WM M (sW s) ∧ IM M (sK s) (sI s) ∧ TpM M (sT s) ∧ XsM M (sN s) (sX s) ∧ ∀ i, i < 4 → HM M i (sH s i)
def TB (s : GS) : Prop := gR (sW s) < sN s ∧ sN s ≤ 6 ∧ (∀ j, j < sN s → TxG (sX s j).1 (sX s j).2) ∧ (∀ j, gKd (sW s) j ≤ 5) ∧ (∀ j, gNu (sW s) j ≤ 9) ∧ gP (sW s) ≤ 5
def SB (s : GS) : Prop := TB s ∧ WB (sW s) ∧ (sK s = true → WB (sI s) ∧ gR (sI s) < sN s ∧ gP (sI s) ≤ gP (sW s) ∧ ∀ j, j < gP (sI s) → gKd (sI s) j = gKd (sW s) j) ∧ ((sT s).2 ≤ 160 ∧ ∀ j, (sT s).1 j < 256) ∧ ∀ i, i < 4 → (sH s i).1 = true → (sH s i).2.1 ≤ 2 ∧ (sH s i).2.2.1 ≤ 40
def fC (M M' : MM) : Prop := ∀ k i j, k < 20 → M' k i j = M k i j
def fM (M M' : MM) : Prop := ∀ k i j, 30 ≤ k → k ≤ 48 → ¬ (38 ≤ k ∧ k ≤ 41) → ¬ (k = 30 ∧ 13 ≤ j ∧ j ≤ 41) → M' k i j = M k i j
theorem HC.fr {M M' : MM} {i : Nat} {h : GH} (a : HC M i h) (hf : ∀ k i j, k = 18 ∨ k = 19 → M' k i j = M k i j) : HC M' i h :=
  ⟨fun q => (hf 18 i 0 (by omega)).trans (a.1 q), fun q => ⟨(hf 18 i 0 (by omega)).trans (a.2 q).1, (hf 18 i 1 (by omega)).trans (a.2 q).2.1, fun j hj => (hf 19 i j (by omega)).trans ((a.2 q).2.2 j hj)⟩⟩
theorem HM.fr {M M' : MM} {i : Nat} {h : GH} (a : HM M i h) (hf : ∀ k i j, 45 ≤ k → k ≤ 48 → M' k i j = M k i j) : HM M' i h :=
  ⟨(hf 45 0 i (by omega) (by omega)).trans a.1, fun q => ⟨(hf 46 0 i (by omega) (by omega)).trans (a.2 q).1, (hf 47 0 i (by omega) (by omega)).trans (a.2 q).2.1, fun j hj => (hf 48 0 _ (by omega) (by omega)).trans ((a.2 q).2.2 j hj)⟩⟩
theorem IM.fr {M M' : MM} {k : Bool} {g : GW} (a : IM M k g) (hf : ∀ k i j, (k = 30 ∧ 42 ≤ j ∧ j ≤ 44) ∨ (42 ≤ k ∧ k ≤ 44) → M' k i j = M k i j) : IM M' k g :=
  ⟨fun q => (hf 30 0 42 (by omega)).trans (a.1 q), fun q => ⟨(hf 30 0 42 (by omega)).trans (a.2 q).1, (hf 30 0 43 (by omega)).trans (a.2 q).2.1, (hf 30 0 44 (by omega)).trans (a.2 q).2.2.1, fun j hj => (hf 42 0 j (by omega)).trans ((a.2 q).2.2.2.1 j hj), fun j hj => ⟨(hf 43 0 _ (by omega)).trans ((a.2 q).2.2.2.2.1 j hj).1, (hf 43 0 _ (by omega)).trans ((a.2 q).2.2.2.2.1 j hj).2⟩, fun j hj => (hf 44 0 j (by omega)).trans ((a.2 q).2.2.2.2.2 j hj)⟩⟩
theorem TpC.fr {M M' : MM} {p : GT} (a : TpC M p) (hf : ∀ k i j, (k = 9 ∧ j = 1) ∨ k = 10 → M' k i j = M k i j) : TpC M' p := ⟨(hf 9 0 1 (by omega)).trans a.1, fun j hj => (hf 10 0 j (by omega)).trans (a.2 j hj)⟩
theorem TpM.fr {M M' : MM} {p : GT} (a : TpM M p) (hf : ∀ k i j, (k = 30 ∧ j = 6) ∨ k = 33 → M' k i j = M k i j) : TpM M' p := ⟨(hf 30 0 6 (by omega)).trans a.1, fun j hj => (hf 33 0 j (by omega)).trans (a.2 j hj)⟩
theorem TxM.fr {M M' : MM} {x : Nat} {b : Nat → Nat} {n : Nat} (a : TxM M x b n) (hf : ∀ k i j, k = 31 ∨ k = 32 → M' k i j = M k i j) : TxM M' x b n := ⟨(hf 32 0 x (by omega)).trans a.1, fun j hj => (hf 31 0 _ (by omega)).trans (a.2 j hj)⟩
theorem XsC.fr {M M' : MM} {n : Nat} {x : Nat → GT} (a : XsC M n x) (hf : ∀ k i j, (k = 2 ∧ j = 5) ∨ k = 15 ∨ k = 16 → M' k i j = M k i j) : XsC M' n x := ⟨(hf 2 0 5 (by omega)).trans a.1, fun j hj => (a.2 j hj).fr (fun k i j q => hf k i j (by omega))⟩
theorem XsM.fr {M M' : MM} {n : Nat} {x : Nat → GT} (a : XsM M n x) (hf : ∀ k i j, (k = 30 ∧ j = 3) ∨ k = 31 ∨ k = 32 → M' k i j = M k i j) : XsM M' n x := ⟨(hf 30 0 3 (by omega)).trans a.1, fun j hj => (a.2 j hj).fr (fun k i j q => hf k i j (by omega))⟩
theorem KpC.fr {M M' : MM} {k : Bool} {g : GW} (a : KpC M k g) (hf : ∀ k i j, (k = 2 ∧ j = 2) ∨ (3 ≤ k ∧ k ≤ 8 ∧ i = 1) ∨ (k = 12 ∧ j = 0) → M' k i j = M k i j) : KpC M' k g :=
  ⟨⟨(hf 2 0 2 (by omega)).trans a.1.1, (hf 12 0 0 (by omega)).trans a.1.2⟩, fun q => by
    obtain ⟨a1, a2, a3, a4, a5, a6, a7, a8⟩ := a.2 q
    exact ⟨(hf 3 1 0 (by omega)).trans a1, (hf 3 1 1 (by omega)).trans a2, (hf 3 1 2 (by omega)).trans a3, fun j hj => (hf 4 1 j (by omega)).trans (a4 j hj), fun j hj => (hf 5 1 j (by omega)).trans (a5 j hj), fun j hj => (hf 6 1 j (by omega)).trans (a6 j hj), fun j hj => (hf 7 1 j (by omega)).trans (a7 j hj), fun j hj => (hf 8 1 j (by omega)).trans (a8 j hj)⟩⟩
theorem SC.fr {M M' : MM} {s : GS} (h : SC M s) (hf : fC M M') : SC M' s :=
  ⟨h.1.fr (fun k i j _ _ => hf k i j (by omega)), h.2.1.fr (fun k i j _ => hf k i j (by omega)), h.2.2.1.fr (fun k i j _ => hf k i j (by omega)), h.2.2.2.1.fr (fun k i j _ => hf k i j (by omega)), fun i hi => (h.2.2.2.2 i hi).fr (fun k i j _ => hf k i j (by omega))⟩
theorem SM.fr {M M' : MM} {s : GS} (h : SM M s) (hf : fM M M') : SM M' s :=
  ⟨h.1.fr (fun k i j _ => hf k i j (by omega) (by omega) (by omega) (by omega)), h.2.1.fr (fun k i j _ => hf k i j (by omega) (by omega) (by omega) (by omega)), h.2.2.1.fr (fun k i j _ => hf k i j (by omega) (by omega) (by omega) (by omega)), h.2.2.2.1.fr (fun k i j _ => hf k i j (by omega) (by omega) (by omega) (by omega)), fun i hi => (h.2.2.2.2 i hi).fr (fun k i j _ _ => hf k i j (by omega) (by omega) (by omega) (by omega))⟩
theorem fC.refl (M : MM) : fC M M := fun _ _ _ _ => rfl
theorem fC.trans {M M' M2 : MM} (h : fC M M') (h2 : fC M' M2) : fC M M2 := fun k i j q => (h2 k i j q).trans (h k i j q)
theorem fM.refl (M : MM) : fM M M := fun _ _ _ _ _ _ _ => rfl
theorem fM.trans {M M' M2 : MM} (h : fM M M') (h2 : fM M' M2) : fM M M2 := fun k i j q q2 q3 q4 => (h2 k i j q q2 q3 q4).trans (h k i j q q2 q3 q4)
theorem fr245.C {M M' : MM} (h : fr245 M M') : fC M M' := fun k i j q => h k i j (by omega) (by omega)
/-! what one takes, keeps, how sure one is, of a state -/
def sB (s : GS) : Nat → Nat := (sX s (gR (sW s))).1
def sBn (s : GS) : Nat := (sX s (gR (sW s))).2
def shS (s : GS) (o : Nat) : Nat := sumN (fun j => gSh (sW s) (o * 6 + j)) 6
def tkS (s : GS) (o c mk : Nat) : Nat := tkG (sB s) (sBn s) (gKd (sW s) o) (gNu (sW s) o) (gD (sW s)) c mk (gCo (sW s) (c * 6 + mk))
def kpS (s : GS) (o mk : Nat) : Nat := kpN (gKd (sW s) o) (clN (tV (sB s) (sBn s) 1 (nmF (nI (gSh (sW s) (o * 6 + mk))) (nI mk) (nI (gNu (sW s) o)) (nI (gD (sW s))) 0 (nI (shS s o)))) 100) (gSh (sW s) (o * 6 + mk))
def suS (s : GS) (x o mk : Nat) : Nat := suN (gKd (sW s) x) (clN (tV (sB s) (sBn s) 2 (nmF (nI (gSh (sW s) (o * 6 + mk))) (nI mk) (nI (gNu (sW s) x)) (nI (gD (sW s))) 0 (nI (shS s o)))) 99) (gNu (sW s) x)
theorem tkN_le (kd nu mk v : Nat) : tkN kd nu mk v ≤ 99 := Nat.min_le_right _ _
theorem tkS_le (s : GS) (o c mk : Nat) : tkS s o c mk ≤ 99 := tkN_le _ _ _ _
theorem kpN_le {kd v g : Nat} (hv : v ≤ 100) : kpN kd v g ≤ g := by
  unfold kpN
  have h1 : g * v / 100 ≤ g := by
    have : g * v ≤ g * 100 := Nat.mul_le_mul_left g hv
    omega
  split
  · omega
  split
  · omega
  split
  · omega
  split <;> omega
theorem kpS_le (s : GS) (o mk : Nat) : kpS s o mk ≤ gSh (sW s) (o * 6 + mk) := kpN_le (clN_le _ _)
theorem suN_le {kd v nu : Nat} (hv : v ≤ 99) (hn : nu ≤ 9) : suN kd v nu ≤ 216 := by
  unfold suN
  split
  · omega
  split
  · omega
  split
  · omega
  split <;> omega
theorem TB.tx {s : GS} (h : TB s) : TxG (sB s) (sBn s) := h.2.2.1 _ h.1
theorem TB.r {s : GS} (h : TB s) : gR (sW s) < 6 := Nat.lt_of_lt_of_le h.1 h.2.1
section
variable (X : Nat × (Nat → Int32))
theorem cTakes (d : Nat) {M : MM} (w : Int64) (fm : Bool) (l : List (Nat × Nat × Nat)) (t u : Nat) {s : GS} {o c mk : Nat} (h : SC M s) (hB : TB s) (ho : o < 5) (hc : c < 6) (hm : mk < 6) :
    ∃ M', callN X (d + 5) 92 [vR 2 0, vI (nI o), vI (nI c), vI (nI mk)] (M, w, true, fm, l, t, u) = some (some (vI (nI (tkS s o c mk))), (M', w, true, fm, l, t, u)) ∧ fr245 M M' := by
  obtain ⟨M1, e1, e2⟩ := sX6_takesOf X d w fm l t u (M := M) (dy := gD (sW s)) (TB.r hB) (h.2.2.2.1.2 _ hB.1) hB.tx (hB.2.2.2.1 o) (hB.2.2.2.2.1 o) hm hc (h.1.2.2.2.1 (c * 6 + mk) (by omega))
  refine ⟨M1, ?_, e2⟩
  show callN X (d + 4 + 1) 92 _ _ = _
  rw [aX6_takesNow, in_nI (by omega) (by omega), cond_true, cond_true, nI_clamp (by omega), h.1.2.2.2.2.2.1 o ho, h.1.2.2.2.2.2.2.1 o ho, h.1.1, h.1.2.1, e1, bnd_s, tl_s, bX6_takesNow_38]
  rfl
theorem cKeeps (d : Nat) {M : MM} (w : Int64) (fm : Bool) (l : List (Nat × Nat × Nat)) (t u : Nat) {s : GS} {o mk : Nat} (h : SC M s) (hB : TB s) (hW : ∀ j, gSh (sW s) j ≤ 9999) (ho : o < 5) (hm : mk < 6) :
    ∃ M', callN X (d + 4) 93 [vR 2 0, vI (nI o), vI (nI mk)] (M, w, true, fm, l, t, u) = some (some (vI (nI (kpS s o mk))), (M', w, true, fm, l, t, u)) ∧ fr245 M M' := by
  obtain ⟨M1, e1, e2, e3⟩ := sX6_nameAll X (d + 2) (M := M) w fm l t u (nI (gSh (sW s) (o * 6 + mk))) (nI mk) (nI (gNu (sW s) o)) (nI (gD (sW s))) 0 (nI (shS s o))
  obtain ⟨M2, f1, f2⟩ := sX6_valueOf X d (M := M1) w fm l t u (pt := 1) (m := 100) (TB.r hB) (by omega) (by omega) ((h.2.2.2.1.2 _ hB.1).fr (fun k i j q => e2 k i j (by omega))) hB.tx
  refine ⟨M2, ?_, fun k i j q q2 => (f2 k i j q2).trans (e2 k i j q)⟩
  have f1 : callN X (d + 3) 89 [vR 2 0, vI (nI (gR (sW s))), vI 1, vI 100] (M1, w, true, fm, l, t, u) = some (some (vI (nI (clN (tV (sB s) (sBn s) 1 (fun j => M1 24 0 j)) 100))), (M2, w, true, fm, l, t, u)) := f1
  rw [tV_congr hB.tx 1 (nm2 := fun j => M1 24 0 j) e3] at f1
  show callN X (d + 3 + 1) 93 _ _ = _
  rw [aX6_keepsOf, li6, pk_mul, nI_add, in_nI (by omega) (by omega), cond_true, in_nI (by omega) (by omega), cond_true, nI_clamp (by omega), nI_clamp (by omega), h.1.2.2.2.2.1 _ (by omega), h.1.2.2.2.2.2.2.1 o ho, h.1.1, sX5_allInShoe X (d + 1) 0 w fm l t u h.1 ho, bnd_s, tl_s, bX6_keepsOf_43]
  show nBnd (callN X (d + 3) 90 [vR 2 0, vI (nI (gSh (sW s) (o * 6 + mk))), vI (nI mk), vI (nI (gNu (sW s) o)), vI (nI (gD (sW s))), vI 0, vI (nI (shS s o))] _) _ = _
  rw [e1, bnd_s, tl_n, bX6_keepsOf_46, in_nI (by omega) (by omega), cond_true, nI_clamp (by omega), e2 3 0 1 (by omega), h.1.2.1, e2 6 0 o (by omega), h.1.2.2.2.2.2.1 o ho, f1, bnd_s, tl_s, bX6_keepsOf_69, sX1_keeps X (d + 2) w fm l t u (hB.2.2.2.1 o) (hW _) (clN_le _ _), bnd_s, tl_s, bX6_keepsOf_73]
  rfl
theorem cSure (d : Nat) {M : MM} (w : Int64) (fm : Bool) (l : List (Nat × Nat × Nat)) (t u : Nat) {s : GS} {x o mk : Nat} (h : SC M s) (hB : TB s) (hx : x < 5) (ho : o < 5) (hm : mk < 6) :
    ∃ M', callN X (d + 4) 94 [vR 2 0, vI (nI x), vI (nI o), vI (nI mk)] (M, w, true, fm, l, t, u) = some (some (vI (nI (suS s x o mk))), (M', w, true, fm, l, t, u)) ∧ fr245 M M' := by
  obtain ⟨M1, e1, e2, e3⟩ := sX6_nameAll X (d + 2) (M := M) w fm l t u (nI (gSh (sW s) (o * 6 + mk))) (nI mk) (nI (gNu (sW s) x)) (nI (gD (sW s))) 0 (nI (shS s o))
  obtain ⟨M2, f1, f2⟩ := sX6_valueOf X d (M := M1) w fm l t u (pt := 2) (m := 99) (TB.r hB) (by omega) (by omega) ((h.2.2.2.1.2 _ hB.1).fr (fun k i j q => e2 k i j (by omega))) hB.tx
  refine ⟨M2, ?_, fun k i j q q2 => (f2 k i j q2).trans (e2 k i j q)⟩
  have f1 : callN X (d + 3) 89 [vR 2 0, vI (nI (gR (sW s))), vI 2, vI 99] (M1, w, true, fm, l, t, u) = some (some (vI (nI (clN (tV (sB s) (sBn s) 2 (fun j => M1 24 0 j)) 99))), (M2, w, true, fm, l, t, u)) := f1
  rw [tV_congr hB.tx 2 (nm2 := fun j => M1 24 0 j) e3] at f1
  show callN X (d + 3 + 1) 94 _ _ = _
  rw [aX6_sureOf, in_nI hx (by omega), cond_true, li6, pk_mul, nI_add, in_nI (by omega) (by omega), cond_true, nI_clamp (by omega), nI_clamp (by omega), h.1.2.2.2.2.1 _ (by omega), h.1.2.2.2.2.2.2.1 x hx, h.1.1, sX5_allInShoe X (d + 1) 0 w fm l t u h.1 ho, bnd_s, tl_s, bX6_sureOf_45]
  show nBnd (callN X (d + 3) 90 [vR 2 0, vI (nI (gSh (sW s) (o * 6 + mk))), vI (nI mk), vI (nI (gNu (sW s) x)), vI (nI (gD (sW s))), vI 0, vI (nI (shS s o))] _) _ = _
  rw [e1, bnd_s, tl_n, bX6_sureOf_48, in_nI (by omega) (by omega), cond_true, nI_clamp (by omega), e2 3 0 1 (by omega), h.1.2.1, e2 6 0 x (by omega), h.1.2.2.2.2.2.1 x hx, f1, bnd_s, tl_s, bX6_sureOf_71, sX1_sure X (d + 2) w fm l t u (hB.2.2.2.1 x), bnd_s, tl_s, bX6_sureOf_76]
  rfl
end
