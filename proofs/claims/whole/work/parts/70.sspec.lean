theorem getD_b {nt : List Nat} (h : ∀ x ∈ nt, x < 2 ^ 31) (i : Nat) : nt.getD i 0 < 2 ^ 31 := by
  rcases Nat.lt_or_ge i nt.length with w | w
  · rw [getD_lt w]; exact h _ (List.getElem_mem w)
  · rw [List.getD_eq_getElem?_getD, List.getElem?_eq_none w]; decide
