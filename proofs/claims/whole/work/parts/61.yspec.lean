section
/-! a set by words, as the model lays it: pure -/
def stE (yF : Nat → Nat) (a : Nat) (E : Nat → Nat) : Nat → Nat := fun i => if a ≤ i ∧ i < a + 64 then E (i - a) else yF i
theorem zrF_stE (yF : Nat → Nat) (a : Nat) : zrF yF a 64 = stE yF a (fun _ => 0) := rfl
theorem stE_up {yF : Nat → Nat} {a i v : Nat} {E : Nat → Nat} (hi : i < 64) : va_up (stE yF a E) (a + i) v = stE yF a (va_up E i v) := by
  funext z
  unfold va_up stE
  by_cases h : z = a + i
  · rw [if_pos h, if_pos (by omega)]
    exact (if_pos (by omega)).symm
  · rw [if_neg h]
    by_cases h2 : a ≤ z ∧ z < a + 64
    · rw [if_pos h2, if_pos h2]
      exact (if_neg (by omega)).symm
    · rw [if_neg h2, if_neg h2]
theorem stE_in {yF : Nat → Nat} {a i : Nat} {E : Nat → Nat} (hi : i < 64) : stE yF a E (a + i) = E i := by
  unfold stE
  rw [if_pos (by omega), Nat.add_sub_cancel_left]
theorem gL_ge {nf : Nat} {FL FW : Nat → Nat} {i j : Nat} (hi : i < nf) (hj : j < FL i) : FW (i * 5 + j) ≤ gL nf FL FW := by
  have in1 : ∀ m g, g ≤ rr_fold (fun j g => max g (FW (i * 5 + j))) m g ∧ (j < m → FW (i * 5 + j) ≤ rr_fold (fun j g => max g (FW (i * 5 + j))) m g) := by
    intro m
    induction m with
    | zero => intro g; exact ⟨Nat.le_refl _, fun h => absurd h (Nat.not_lt_zero _)⟩
    | succ m ih =>
      intro g
      obtain ⟨h1, h2⟩ := ih g
      rw [rr_fold_succ]
      refine ⟨Nat.le_trans h1 (Nat.le_max_left _ _), fun h => ?_⟩
      rcases Nat.lt_or_ge j m with q | q
      · exact Nat.le_trans (h2 q) (Nat.le_max_left _ _)
      · rw [show j = m by omega]; exact Nat.le_max_right _ _
  have mono : ∀ z m g, g ≤ rr_fold (fun j g => max g (FW (z * 5 + j))) m g := by
    intro z m
    induction m with
    | zero => intro g; exact Nat.le_refl _
    | succ m ih => intro g; rw [rr_fold_succ]; exact Nat.le_trans (ih g) (Nat.le_max_left _ _)
  have key : ∀ n, i < n → FW (i * 5 + j) ≤ rr_fold (fun i g => rr_fold (fun j g => max g (FW (i * 5 + j))) (FL i) g) n 0 := by
    intro n
    induction n with
    | zero => intro h; exact absurd h (Nat.not_lt_zero _)
    | succ n ih =>
      intro h
      rw [rr_fold_succ]
      rcases Nat.lt_or_ge i n with q | q
      · exact Nat.le_trans (ih q) (mono n _ _)
      · rw [show n = i by omega]; exact (in1 (FL i) _).2 hj
  exact key nf hi
theorem gL_all {nf k : Nat} {FL FW : Nat → Nat} (hk : 0 < k) (h : ∀ i, i < nf → ∀ j, j < FL i → FW (i * 5 + j) < k) : gL nf FL FW < k := by
  have key : ∀ n, n ≤ nf → rr_fold (fun i g => rr_fold (fun j g => max g (FW (i * 5 + j))) (FL i) g) n 0 < k := by
    intro n
    induction n with
    | zero => intro _; exact hk
    | succ n ih =>
      intro hn
      rw [rr_fold_succ]
      have ih := ih (by omega)
      have in1 : ∀ m, m ≤ FL n → ∀ g, g < k → rr_fold (fun j g => max g (FW (n * 5 + j))) m g < k := by
        intro m
        induction m with
        | zero => intro _ g hg; exact hg
        | succ m ih2 =>
          intro hm g hg
          rw [rr_fold_succ]
          exact Nat.max_lt.mpr ⟨ih2 (by omega) g hg, h n (by omega) m (by omega)⟩
      exact in1 (FL n) (Nat.le_refl _) _ ih
  exact key nf (Nat.le_refl _)
/-- a set by words: what is answered, what is laid -/
def bywN (nf : Nat) (FL : Nat → Nat) (x : Int32) : Nat := cN x ^ (lM nf FL - 1)
def bywC (nf : Nat) (FL FW : Nat → Nat) (x : Int32) : Bool := rrin x (nI 2) (nI 4) && decide (gL nf FL FW < cN x)
def bywOK (ns nf : Nat) (FL FW : Nat → Nat) (x : Int32) : Bool := bywC nf FL FW x && (decide (bywN nf FL x ≤ 16) && !(decide (ns = 6)))
def bywA (ns nf : Nat) (FL FW : Nat → Nat) (x : Int32) : Int32 := if bywC nf FL FW x = true then (if bywN nf FL x ≤ 16 then (if ns = 6 then -4 else nI ns) else -3) else -2
def bywE (nf : Nat) (FL FW : Nat → Nat) (x : Int32) : Nat → Nat := lyE (cN x) (bywN nf FL x) (lyB nf FL FW (cN x) (lM nf FL)) (bywN nf FL x * cN x)
/-- the row of a state and a letter behind -/
theorem row_dig {k mm q y j : Nat} (hy : y < k) (hm : 2 ≤ mm) (hj : j < mm) : (q * k + y) / k ^ (mm - 1 - j) % k = if j = mm - 1 then y else q / k ^ (mm - 2 - j) % k := by
  have hk : 0 < k := by omega
  by_cases h : j = mm - 1
  · rw [if_pos h, show mm - 1 - j = 0 by omega, Nat.pow_zero, Nat.div_one, Nat.mul_comm, Nat.mul_add_mod, Nat.mod_eq_of_lt hy]
  · rw [if_neg h, show mm - 1 - j = (mm - 2 - j) + 1 by omega, Nat.pow_succ', ← Nat.div_div_eq_div_mul, Nat.mul_comm q k, Nat.mul_add_div hk, Nat.div_eq_of_lt hy, Nat.add_zero]
theorem row_to {k mm q y : Nat} (hy : y < k) (hm : 2 ≤ mm) : q % (k ^ (mm - 1) / k) * k + y = (q * k + y) % k ^ (mm - 1) := by
  have hk : 0 < k := by omega
  obtain ⟨d, rfl⟩ : ∃ d, mm = d + 2 := ⟨mm - 2, by omega⟩
  rw [show d + 2 - 1 = d + 1 by omega, Nat.pow_succ, Nat.mul_div_cancel _ hk]
  have e := Nat.div_add_mod q (k ^ d)
  have hlt := Nat.mod_lt q (Nat.pow_pos (n := d) hk)
  have h1 : q * k + y = k ^ d * k * (q / k ^ d) + (q % k ^ d * k + y) := by
    calc q * k + y = (k ^ d * (q / k ^ d) + q % k ^ d) * k + y := by rw [e]
      _ = k ^ d * k * (q / k ^ d) + (q % k ^ d * k + y) := by rw [Nat.add_mul, Nat.mul_right_comm, Nat.add_assoc]
  have h2 : q % k ^ d * k + y < k ^ d * k := by
    have h3 : (q % k ^ d + 1) * k ≤ k ^ d * k := Nat.mul_le_mul_right k hlt
    rw [Nat.add_mul, Nat.one_mul] at h3
    omega
  rw [h1, Nat.mul_add_mod, Nat.mod_eq_of_lt h2]
theorem stR_row {nf : Nat} {FL FW R : Nat → Nat} {k mm q y : Nat} (hy : y < k) (hm : 2 ≤ mm) (h1 : ∀ j, j < mm - 1 → R j = q / k ^ (mm - 2 - j) % k) (h2 : R (mm - 1) = y) : stR nf FL FW R mm = lyB nf FL FW k mm (q * k + y) := stR_congr (fun j hj => by
  unfold wrR
  rw [if_pos hj, row_dig hy hm hj]
  by_cases h : j = mm - 1
  · rw [if_pos h, h, h2]
  · rw [if_neg h, h1 j (by omega)])
theorem ly_or {k n : Nat} {bd : Nat → Bool} {q y : Nat} (hy : y < k) (hk4 : k ≤ 4) (hb : bd (q * k + y) = false) : va_up (lyE k n bd (q * k + y)) (q * 4 + y) (lyE k n bd (q * k + y) (q * 4 + y) ||| 1 <<< ((q * k + y) % n)) = lyE k n bd (q * k + y + 1) := by
  have hk : 0 < k := by omega
  have h := lyE_yes (n := n) hk hk4 hb
  have h0 := lyE_here (n := n) (bd := bd) (x := q * k + y) hk hk4
  have e1 : (q * k + y) / k = q := by rw [Nat.mul_comm, Nat.mul_add_div hk, Nat.div_eq_of_lt hy, Nat.add_zero]
  have e2 : (q * k + y) % k = y := by rw [Nat.mul_comm, Nat.mul_add_mod, Nat.mod_eq_of_lt hy]
  rw [e1, e2] at h h0
  rw [h0] at h ⊢
  rw [Nat.zero_xor] at h
  rw [Nat.zero_or]
  exact h
end
