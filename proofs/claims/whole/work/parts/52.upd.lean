/-! one place of the world is changed -/
def upF (f : Nat → Nat) (i v : Nat) : Nat → Nat := fun j => if j = i then v else f j
def flF (f : Nat → Nat) (b i : Nat) (h : Nat → Nat) : Nat → Nat := fun j => if b ≤ j ∧ j < b + i then h (j - b) else f j
theorem flF_0 (f : Nat → Nat) (b : Nat) (h : Nat → Nat) : flF f b 0 h = f := funext fun j => if_neg (by omega)
theorem flF_s (f : Nat → Nat) (b i : Nat) (h : Nat → Nat) : upF (flF f b i h) (b + i) (h i) = flF f b (i + 1) h := funext fun j => by
  unfold upF flF
  by_cases c : j = b + i
  · rw [if_pos c, if_pos (by omega), c, Nat.add_sub_cancel_left]
  · rw [if_neg c]
    by_cases c2 : b ≤ j ∧ j < b + i
    · rw [if_pos c2, if_pos (by omega)]
    · rw [if_neg c2, if_neg (by omega)]
theorem flF_in {f : Nat → Nat} {b i : Nat} {h : Nat → Nat} {j : Nat} (hj : j < i) : flF f b i h (b + j) = h j := by
  unfold flF
  rw [if_pos (by omega), Nat.add_sub_cancel_left]
theorem flF_out {f : Nat → Nat} {b i : Nat} {h : Nat → Nat} {j : Nat} (hj : j < b ∨ b + i ≤ j) : flF f b i h j = f j := if_neg (by omega)
theorem flF_le {f : Nat → Nat} {b i m : Nat} {h : Nat → Nat} (h1 : ∀ j, f j ≤ m) (h2 : ∀ j, h j ≤ m) (j : Nat) : flF f b i h j ≤ m := by
  unfold flF
  split
  · exact h2 _
  · exact h1 _
theorem flF_le2 {f : Nat → Nat} {b i m : Nat} {h : Nat → Nat} (h1 : ∀ j, f j ≤ m) (h2 : ∀ j, j < i → h j ≤ m) (j : Nat) : flF f b i h j ≤ m := by
  unfold flF
  split
  · exact h2 _ (by omega)
  · exact h1 _
theorem upF_le {f : Nat → Nat} {i v m : Nat} (h1 : ∀ j, f j ≤ m) (h2 : v ≤ m) (j : Nat) : upF f i v j ≤ m := by
  unfold upF
  split
  · exact h2
  · exact h1 _
theorem nst_up {M : MM} {k a i v n : Nat} {f : Nat → Nat} (h : ∀ j, j < n → M k a j = nI (f j)) : ∀ j, j < n → nSt M k a i (nI v) k a j = nI (upF f i v j) := fun j hj => by
  unfold upF
  by_cases c : j = i
  · subst c
    rw [nst_self, if_pos rfl]
  · rw [nst_j c, if_neg c]
    exact h j hj
theorem WC.day {M : MM} {g : GW} (h : WC M 0 g) (v : Nat) : WC (nSt M 3 0 0 (nI v)) 0 (gP g, v, gR g, gCo g, gSh g, gKd g, gNu g, gOu g) :=
  ⟨nst_self _ _ _ _ _, (nst_j (by omega)).trans h.2.1, (nst_j (by omega)).trans h.2.2.1, fun j hj => (nst_fr (by omega)).trans (h.2.2.2.1 j hj), fun j hj => (nst_fr (by omega)).trans (h.2.2.2.2.1 j hj), fun j hj => (nst_fr (by omega)).trans (h.2.2.2.2.2.1 j hj), fun j hj => (nst_fr (by omega)).trans (h.2.2.2.2.2.2.1 j hj), fun j hj => (nst_fr (by omega)).trans (h.2.2.2.2.2.2.2 j hj)⟩
theorem WC.rule {M : MM} {g : GW} (h : WC M 0 g) (v : Nat) : WC (nSt M 3 0 1 (nI v)) 0 (gP g, gD g, v, gCo g, gSh g, gKd g, gNu g, gOu g) :=
  ⟨(nst_j (by omega)).trans h.1, nst_self _ _ _ _ _, (nst_j (by omega)).trans h.2.2.1, fun j hj => (nst_fr (by omega)).trans (h.2.2.2.1 j hj), fun j hj => (nst_fr (by omega)).trans (h.2.2.2.2.1 j hj), fun j hj => (nst_fr (by omega)).trans (h.2.2.2.2.2.1 j hj), fun j hj => (nst_fr (by omega)).trans (h.2.2.2.2.2.2.1 j hj), fun j hj => (nst_fr (by omega)).trans (h.2.2.2.2.2.2.2 j hj)⟩
theorem WC.ppl {M : MM} {g : GW} (h : WC M 0 g) (v : Nat) : WC (nSt M 3 0 2 (nI v)) 0 (v, gD g, gR g, gCo g, gSh g, gKd g, gNu g, gOu g) :=
  ⟨(nst_j (by omega)).trans h.1, (nst_j (by omega)).trans h.2.1, nst_self _ _ _ _ _, fun j hj => (nst_fr (by omega)).trans (h.2.2.2.1 j hj), fun j hj => (nst_fr (by omega)).trans (h.2.2.2.2.1 j hj), fun j hj => (nst_fr (by omega)).trans (h.2.2.2.2.2.1 j hj), fun j hj => (nst_fr (by omega)).trans (h.2.2.2.2.2.2.1 j hj), fun j hj => (nst_fr (by omega)).trans (h.2.2.2.2.2.2.2 j hj)⟩
theorem WC.co {M : MM} {g : GW} (h : WC M 0 g) (i v : Nat) : WC (nSt M 4 0 i (nI v)) 0 (gP g, gD g, gR g, upF (gCo g) i v, gSh g, gKd g, gNu g, gOu g) :=
  ⟨(nst_fr (by omega)).trans h.1, (nst_fr (by omega)).trans h.2.1, (nst_fr (by omega)).trans h.2.2.1, nst_up h.2.2.2.1, fun j hj => (nst_fr (by omega)).trans (h.2.2.2.2.1 j hj), fun j hj => (nst_fr (by omega)).trans (h.2.2.2.2.2.1 j hj), fun j hj => (nst_fr (by omega)).trans (h.2.2.2.2.2.2.1 j hj), fun j hj => (nst_fr (by omega)).trans (h.2.2.2.2.2.2.2 j hj)⟩
theorem WC.sh {M : MM} {g : GW} (h : WC M 0 g) (i v : Nat) : WC (nSt M 5 0 i (nI v)) 0 (gP g, gD g, gR g, gCo g, upF (gSh g) i v, gKd g, gNu g, gOu g) :=
  ⟨(nst_fr (by omega)).trans h.1, (nst_fr (by omega)).trans h.2.1, (nst_fr (by omega)).trans h.2.2.1, fun j hj => (nst_fr (by omega)).trans (h.2.2.2.1 j hj), nst_up h.2.2.2.2.1, fun j hj => (nst_fr (by omega)).trans (h.2.2.2.2.2.1 j hj), fun j hj => (nst_fr (by omega)).trans (h.2.2.2.2.2.2.1 j hj), fun j hj => (nst_fr (by omega)).trans (h.2.2.2.2.2.2.2 j hj)⟩
theorem WC.kd {M : MM} {g : GW} (h : WC M 0 g) (i v : Nat) : WC (nSt M 6 0 i (nI v)) 0 (gP g, gD g, gR g, gCo g, gSh g, upF (gKd g) i v, gNu g, gOu g) :=
  ⟨(nst_fr (by omega)).trans h.1, (nst_fr (by omega)).trans h.2.1, (nst_fr (by omega)).trans h.2.2.1, fun j hj => (nst_fr (by omega)).trans (h.2.2.2.1 j hj), fun j hj => (nst_fr (by omega)).trans (h.2.2.2.2.1 j hj), nst_up h.2.2.2.2.2.1, fun j hj => (nst_fr (by omega)).trans (h.2.2.2.2.2.2.1 j hj), fun j hj => (nst_fr (by omega)).trans (h.2.2.2.2.2.2.2 j hj)⟩
theorem WC.nu {M : MM} {g : GW} (h : WC M 0 g) (i v : Nat) : WC (nSt M 7 0 i (nI v)) 0 (gP g, gD g, gR g, gCo g, gSh g, gKd g, upF (gNu g) i v, gOu g) :=
  ⟨(nst_fr (by omega)).trans h.1, (nst_fr (by omega)).trans h.2.1, (nst_fr (by omega)).trans h.2.2.1, fun j hj => (nst_fr (by omega)).trans (h.2.2.2.1 j hj), fun j hj => (nst_fr (by omega)).trans (h.2.2.2.2.1 j hj), fun j hj => (nst_fr (by omega)).trans (h.2.2.2.2.2.1 j hj), nst_up h.2.2.2.2.2.2.1, fun j hj => (nst_fr (by omega)).trans (h.2.2.2.2.2.2.2 j hj)⟩
theorem WC.ou {M : MM} {g : GW} (h : WC M 0 g) (i v : Nat) : WC (nSt M 8 0 i (nI v)) 0 (gP g, gD g, gR g, gCo g, gSh g, gKd g, gNu g, upF (gOu g) i v) :=
  ⟨(nst_fr (by omega)).trans h.1, (nst_fr (by omega)).trans h.2.1, (nst_fr (by omega)).trans h.2.2.1, fun j hj => (nst_fr (by omega)).trans (h.2.2.2.1 j hj), fun j hj => (nst_fr (by omega)).trans (h.2.2.2.2.1 j hj), fun j hj => (nst_fr (by omega)).trans (h.2.2.2.2.2.1 j hj), fun j hj => (nst_fr (by omega)).trans (h.2.2.2.2.2.2.1 j hj), nst_up h.2.2.2.2.2.2.2⟩
theorem WM.day {M : MM} {g : GW} (h : WM M g) (v : Nat) : WM (nSt M 30 0 7 (nI v)) (gP g, v, gR g, gCo g, gSh g, gKd g, gNu g, gOu g) :=
  ⟨nst_self _ _ _ _ _, (nst_j (by omega)).trans h.2.1, (nst_j (by omega)).trans h.2.2.1, fun j hj => (nst_fr (by omega)).trans (h.2.2.2.1 j hj), fun j hj => (nst_fr (by omega)).trans (h.2.2.2.2.1 j hj), fun j hj => (nst_fr (by omega)).trans (h.2.2.2.2.2.1 j hj), fun j hj => ⟨(nst_fr (by omega)).trans (h.2.2.2.2.2.2 j hj).1, (nst_fr (by omega)).trans (h.2.2.2.2.2.2 j hj).2⟩⟩
theorem WM.rule {M : MM} {g : GW} (h : WM M g) (v : Nat) : WM (nSt M 30 0 4 (nI v)) (gP g, gD g, v, gCo g, gSh g, gKd g, gNu g, gOu g) :=
  ⟨(nst_j (by omega)).trans h.1, nst_self _ _ _ _ _, (nst_j (by omega)).trans h.2.2.1, fun j hj => (nst_fr (by omega)).trans (h.2.2.2.1 j hj), fun j hj => (nst_fr (by omega)).trans (h.2.2.2.2.1 j hj), fun j hj => (nst_fr (by omega)).trans (h.2.2.2.2.2.1 j hj), fun j hj => ⟨(nst_fr (by omega)).trans (h.2.2.2.2.2.2 j hj).1, (nst_fr (by omega)).trans (h.2.2.2.2.2.2 j hj).2⟩⟩
theorem WM.co {M : MM} {g : GW} (h : WM M g) (i v : Nat) : WM (nSt M 34 0 i (nI v)) (gP g, gD g, gR g, upF (gCo g) i v, gSh g, gKd g, gNu g, gOu g) :=
  ⟨(nst_fr (by omega)).trans h.1, (nst_fr (by omega)).trans h.2.1, (nst_fr (by omega)).trans h.2.2.1, nst_up h.2.2.2.1, fun j hj => (nst_fr (by omega)).trans (h.2.2.2.2.1 j hj), fun j hj => (nst_fr (by omega)).trans (h.2.2.2.2.2.1 j hj), fun j hj => ⟨(nst_fr (by omega)).trans (h.2.2.2.2.2.2 j hj).1, (nst_fr (by omega)).trans (h.2.2.2.2.2.2 j hj).2⟩⟩
theorem WM.sh {M : MM} {g : GW} (h : WM M g) (i v : Nat) : WM (nSt M 37 0 i (nI v)) (gP g, gD g, gR g, gCo g, upF (gSh g) i v, gKd g, gNu g, gOu g) :=
  ⟨(nst_fr (by omega)).trans h.1, (nst_fr (by omega)).trans h.2.1, (nst_fr (by omega)).trans h.2.2.1, fun j hj => (nst_fr (by omega)).trans (h.2.2.2.1 j hj), nst_up h.2.2.2.2.1, fun j hj => (nst_fr (by omega)).trans (h.2.2.2.2.2.1 j hj), fun j hj => ⟨(nst_fr (by omega)).trans (h.2.2.2.2.2.2 j hj).1, (nst_fr (by omega)).trans (h.2.2.2.2.2.2 j hj).2⟩⟩
theorem WM.kd {M : MM} {g : GW} (h : WM M g) (i v : Nat) : WM (nSt M 35 0 i (nI v)) (gP g, gD g, gR g, gCo g, gSh g, upF (gKd g) i v, gNu g, gOu g) :=
  ⟨(nst_fr (by omega)).trans h.1, (nst_fr (by omega)).trans h.2.1, (nst_fr (by omega)).trans h.2.2.1, fun j hj => (nst_fr (by omega)).trans (h.2.2.2.1 j hj), fun j hj => (nst_fr (by omega)).trans (h.2.2.2.2.1 j hj), nst_up h.2.2.2.2.2.1, fun j hj => ⟨(nst_fr (by omega)).trans (h.2.2.2.2.2.2 j hj).1, (nst_fr (by omega)).trans (h.2.2.2.2.2.2 j hj).2⟩⟩
theorem WM.nu {M : MM} {g : GW} (h : WM M g) (i v : Nat) : WM (nSt M 36 0 (2 * i) (nI v)) (gP g, gD g, gR g, gCo g, gSh g, gKd g, upF (gNu g) i v, gOu g) :=
  ⟨(nst_fr (by omega)).trans h.1, (nst_fr (by omega)).trans h.2.1, (nst_fr (by omega)).trans h.2.2.1, fun j hj => (nst_fr (by omega)).trans (h.2.2.2.1 j hj), fun j hj => (nst_fr (by omega)).trans (h.2.2.2.2.1 j hj), fun j hj => (nst_fr (by omega)).trans (h.2.2.2.2.2.1 j hj), fun j hj => ⟨by
    show _ = nI (upF (gNu g) i v j)
    unfold upF
    by_cases c : j = i
    · subst c
      rw [nst_self, if_pos rfl]
    · rw [nst_j (by omega), if_neg c]
      exact (h.2.2.2.2.2.2 j hj).1, (nst_j (by omega)).trans (h.2.2.2.2.2.2 j hj).2⟩⟩
theorem WM.ou {M : MM} {g : GW} (h : WM M g) (i v : Nat) : WM (nSt M 36 0 (2 * i + 1) (nI v)) (gP g, gD g, gR g, gCo g, gSh g, gKd g, gNu g, upF (gOu g) i v) :=
  ⟨(nst_fr (by omega)).trans h.1, (nst_fr (by omega)).trans h.2.1, (nst_fr (by omega)).trans h.2.2.1, fun j hj => (nst_fr (by omega)).trans (h.2.2.2.1 j hj), fun j hj => (nst_fr (by omega)).trans (h.2.2.2.2.1 j hj), fun j hj => (nst_fr (by omega)).trans (h.2.2.2.2.2.1 j hj), fun j hj => ⟨(nst_j (by omega)).trans (h.2.2.2.2.2.2 j hj).1, by
    show _ = nI (upF (gOu g) i v j)
    unfold upF
    by_cases c : j = i
    · subst c
      rw [nst_self, if_pos rfl]
    · rw [nst_j (by omega), if_neg c]
      exact (h.2.2.2.2.2.2 j hj).2⟩⟩
theorem SC.w {M M' : MM} {s : GS} {g : GW} (h : SC M s) (h2 : WC M' 0 g) (hf : ∀ k i j, k < 20 → ¬ (3 ≤ k ∧ k ≤ 8 ∧ i = 0) → M' k i j = M k i j) : SC M' (g, s.2) :=
  ⟨h2, h.2.1.fr (fun k i j _ => hf k i j (by omega) (by omega)), h.2.2.1.fr (fun k i j _ => hf k i j (by omega) (by omega)), h.2.2.2.1.fr (fun k i j _ => hf k i j (by omega) (by omega)), fun i hi => (h.2.2.2.2 i hi).fr (fun k i j _ => hf k i j (by omega) (by omega))⟩
theorem SM.w {M M' : MM} {s : GS} {g : GW} (h : SM M s) (h2 : WM M' g) (hf : ∀ k i j, 30 ≤ k → k ≤ 48 → ¬ (34 ≤ k ∧ k ≤ 41) → ¬ (k = 30 ∧ (j = 4 ∨ j = 7 ∨ (12 ≤ j ∧ j ≤ 41))) → M' k i j = M k i j) : SM M' (g, s.2) :=
  ⟨h2, h.2.1.fr (fun k i j _ => hf k i j (by omega) (by omega) (by omega) (by omega)), h.2.2.1.fr (fun k i j _ => hf k i j (by omega) (by omega) (by omega) (by omega)), h.2.2.2.1.fr (fun k i j _ => hf k i j (by omega) (by omega) (by omega) (by omega)), fun i hi => (h.2.2.2.2 i hi).fr (fun k i j _ _ => hf k i j (by omega) (by omega) (by omega) (by omega))⟩
theorem TB.w {s : GS} {g : GW} (h : TB s) (h1 : gR g < sN s) (h2 : ∀ j, gKd g j ≤ 5) (h3 : ∀ j, gNu g j ≤ 9) (h4 : gP g ≤ 5) : TB (g, s.2) := ⟨h1, h.2.1, h.2.2.1, h2, h3, h4⟩
theorem SB.w {s : GS} {g : GW} (h : SB s) (hW : WB g) (h1 : gR g < sN s) (h2 : sK s = true → gP (sI s) ≤ gP g ∧ ∀ j, j < gP (sI s) → gKd (sI s) j = gKd g j) : SB (g, s.2) :=
  ⟨h.1.w h1 hW.2.2.2.2.1 hW.2.2.2.2.2.1 hW.1.1, hW, fun q => ⟨(h.2.2.1 q).1, (h.2.2.1 q).2.1, (h2 q).1, (h2 q).2⟩, h.2.2.2.1, h.2.2.2.2⟩
/-- kinds and people stay -/
theorem SB.w0 {s : GS} {g : GW} (h : SB s) (hW : WB g) (h1 : gR g < sN s) (h2 : gP g = gP (sW s)) (h3 : gKd g = gKd (sW s)) : SB (g, s.2) :=
  h.w hW h1 (fun q => ⟨by rw [h2]; exact (h.2.2.1 q).2.2.1, fun j hj => by rw [h3]; exact (h.2.2.1 q).2.2.2 j hj⟩)
