theorem dep_inc {a : Nat} (h : a ≤ 17) : nI a - 1 + nI 1 = nI (a + 1) - 1 := by
  have h2 : ∀ a : Fin 18, nI a.1 - 1 + nI 1 = nI (a.1 + 1) - 1 := by decide +kernel
  exact h2 ⟨a, by omega⟩
theorem um_ge {u : Nat} (h : u ≤ 16) (h0 : 0 ≤ nI u - 1) : ¬ u = 0 := by
  have key : ∀ u : Fin 17, 0 ≤ nI u.1 - 1 → ¬ u.1 = 0 := by decide +kernel
  exact key ⟨u, by omega⟩ h0
theorem um_nge {u : Nat} (h : u ≤ 16) (h0 : ¬ 0 ≤ nI u - 1) : u = 0 := by
  have key : ∀ u : Fin 17, ¬ 0 ≤ nI u.1 - 1 → u.1 = 0 := by decide +kernel
  exact key ⟨u, by omega⟩ h0
theorem sN_at {f : Nat → Nat} {n q x : Nat} (hq : q < n) (h : f q = x) : x ≤ sN n f := h ▸ sN_ge hq
theorem asg_one {n u : Nat} (hu : u < n) : ∀ v, (fun v => if v = u then 1 else 0) v ≤ asg n (fun v => if v = u then 1 else 0) := fun v => by
  have h : 1 ≤ asg n (fun v => if v = u then 1 else 0) := sN_at hu (by simp)
  refine Nat.le_trans ?_ h
  dsimp only
  split
  · exact Nat.le_refl _
  · exact Nat.zero_le _
