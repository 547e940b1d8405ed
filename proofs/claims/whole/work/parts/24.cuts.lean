/-! runs from cut to cut -/
def nMem (pc : Nat) : List Nat → Bool
  | [] => false
  | a :: l => cond (Nat.beq a pc) true (nMem pc l)
section
variable (X : Nat × (Nat → Int32)) (cal : Cal) (h : Hd) (cuts : List Nat)
def nItc (K : Kon) : Nat → Kon
  | 0 => K
  | n + 1 => fun pc ls st s => cond (nMem pc cuts) (K pc ls st s) (nStep X cal h pc ls st s (nItc K n))
theorem nItc_eq (n pc : Nat) (ls st : List AV) (s : Mem) : nR X cal h pc ls st s = nItc X cal h cuts (nR X cal h) n pc ls st s := by
  induction n generalizing pc ls st s with
  | zero => rfl
  | succ n ih =>
    show _ = cond (nMem pc cuts) (nR X cal h pc ls st s) (nStep X cal h pc ls st s (nItc X cal h cuts (nR X cal h) n))
    cases nMem pc cuts
    · rw [nR_step]
      rcases Di_step X cal h pc ls st s with ⟨c, hc⟩ | ⟨pc2, ls2, st2, s2, hc⟩
      · dsimp only at hc; rw [hc]; exact (hc _).symm
      · dsimp only at hc; rw [hc]; exact (ih _ _ _ _).trans (hc _).symm
    · rfl
theorem nR_itc (n pc : Nat) (ls st : List AV) (s : Mem) : nR X cal h pc ls st s = nStep X cal h pc ls st s (nItc X cal h cuts (nR X cal h) n) := by
  rw [nR_step]
  rcases Di_step X cal h pc ls st s with ⟨c, hc⟩ | ⟨pc2, ls2, st2, s2, hc⟩
  · dsimp only at hc; rw [hc]; exact (hc _).symm
  · dsimp only at hc; rw [hc]; exact (nItc_eq X cal h cuts n _ _ _ _).trans (hc _).symm
end
theorem bnd_s (v : Option AV) (s : Mem) (K : Option AV → Mem → Option Res) : nBnd (some (v, s)) K = K v s := rfl
theorem tl_s (v : AV) (r : List AV) : (some v : Option AV).toList ++ r = v :: r := rfl
theorem tl_n (r : List AV) : (none : Option AV).toList ++ r = r := rfl
