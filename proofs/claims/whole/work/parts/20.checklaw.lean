/-! the law's own code, piece by piece -/
theorem all_pieces {p : Nat × En → Bool} (l : List (Nat × En)) (n m : Nat) (hn : 0 < n) (hl : l.length ≤ n * m) (h : ∀ k, k < m → ((l.drop (n * k)).take n).all p = true) : l.all p = true := by
  rw [List.all_eq_true]
  intro x hx
  obtain ⟨i, hi, rfl⟩ := List.getElem_of_mem hx
  have hk : i / n < m := Nat.div_lt_of_lt_mul (Nat.lt_of_lt_of_le hi hl)
  refine List.all_eq_true.mp (h (i / n) hk) _ (List.mem_of_getElem? (i := i % n) ?_)
  rw [List.getElem?_take, if_pos (Nat.mod_lt _ hn), List.getElem?_drop, Nat.div_add_mod, List.getElem?_eq_getElem hi]
theorem ckW0 : ((tL_law.drop (50 * 0)).take 50).all (fun pe => okD cL_law pe && okI RL pe.1 pe.2) = true := by decide +kernel
theorem ckW1 : ((tL_law.drop (50 * 1)).take 50).all (fun pe => okD cL_law pe && okI RL pe.1 pe.2) = true := by decide +kernel
theorem ckW2 : ((tL_law.drop (50 * 2)).take 50).all (fun pe => okD cL_law pe && okI RL pe.1 pe.2) = true := by decide +kernel
theorem ckW3 : ((tL_law.drop (50 * 3)).take 50).all (fun pe => okD cL_law pe && okI RL pe.1 pe.2) = true := by decide +kernel
theorem ckW4 : ((tL_law.drop (50 * 4)).take 50).all (fun pe => okD cL_law pe && okI RL pe.1 pe.2) = true := by decide +kernel
theorem ckW5 : ((tL_law.drop (50 * 5)).take 50).all (fun pe => okD cL_law pe && okI RL pe.1 pe.2) = true := by decide +kernel
theorem ckW6 : ((tL_law.drop (50 * 6)).take 50).all (fun pe => okD cL_law pe && okI RL pe.1 pe.2) = true := by decide +kernel
theorem ckW7 : ((tL_law.drop (50 * 7)).take 50).all (fun pe => okD cL_law pe && okI RL pe.1 pe.2) = true := by decide +kernel
theorem ckW8 : ((tL_law.drop (50 * 8)).take 50).all (fun pe => okD cL_law pe && okI RL pe.1 pe.2) = true := by decide +kernel
theorem ckW9 : ((tL_law.drop (50 * 9)).take 50).all (fun pe => okD cL_law pe && okI RL pe.1 pe.2) = true := by decide +kernel
theorem ckW10 : ((tL_law.drop (50 * 10)).take 50).all (fun pe => okD cL_law pe && okI RL pe.1 pe.2) = true := by decide +kernel
theorem ckW11 : ((tL_law.drop (50 * 11)).take 50).all (fun pe => okD cL_law pe && okI RL pe.1 pe.2) = true := by decide +kernel
theorem ckW12 : ((tL_law.drop (50 * 12)).take 50).all (fun pe => okD cL_law pe && okI RL pe.1 pe.2) = true := by decide +kernel
theorem ckW13 : ((tL_law.drop (50 * 13)).take 50).all (fun pe => okD cL_law pe && okI RL pe.1 pe.2) = true := by decide +kernel
theorem ckW14 : ((tL_law.drop (50 * 14)).take 50).all (fun pe => okD cL_law pe && okI RL pe.1 pe.2) = true := by decide +kernel
theorem ckW15 : ((tL_law.drop (50 * 15)).take 50).all (fun pe => okD cL_law pe && okI RL pe.1 pe.2) = true := by decide +kernel
theorem ckW16 : ((tL_law.drop (50 * 16)).take 50).all (fun pe => okD cL_law pe && okI RL pe.1 pe.2) = true := by decide +kernel
theorem ckW17 : ((tL_law.drop (50 * 17)).take 50).all (fun pe => okD cL_law pe && okI RL pe.1 pe.2) = true := by decide +kernel
theorem ckW18 : ((tL_law.drop (50 * 18)).take 50).all (fun pe => okD cL_law pe && okI RL pe.1 pe.2) = true := by decide +kernel
theorem ckW19 : ((tL_law.drop (50 * 19)).take 50).all (fun pe => okD cL_law pe && okI RL pe.1 pe.2) = true := by decide +kernel
theorem ckLaw : okTbl hL_law cL_law RL = true := by
  refine all_pieces tL_law 50 20 (by decide) (by decide +kernel) ?_
  intro k hk
  match k, hk with
  | 0, _ => exact ckW0
  | 1, _ => exact ckW1
  | 2, _ => exact ckW2
  | 3, _ => exact ckW3
  | 4, _ => exact ckW4
  | 5, _ => exact ckW5
  | 6, _ => exact ckW6
  | 7, _ => exact ckW7
  | 8, _ => exact ckW8
  | 9, _ => exact ckW9
  | 10, _ => exact ckW10
  | 11, _ => exact ckW11
  | 12, _ => exact ckW12
  | 13, _ => exact ckW13
  | 14, _ => exact ckW14
  | 15, _ => exact ckW15
  | 16, _ => exact ckW16
  | 17, _ => exact ckW17
  | 18, _ => exact ckW18
  | 19, _ => exact ckW19
  | n + 20, h => exact absurd h (by omega)
