theorem upP_le {nt : List Nat} (h : NOK nt) (h0 : nt.getD 0 0 = 0) {p : Nat} (hp : p < nt.length) : ∀ i, upP nt i p ≤ p
  | 0 => Nat.le_refl p
  | i + 1 => by
    have ih := upP_le h h0 hp i
    show nt.getD (upP nt i p) 0 / 4 ≤ p
    rcases Nat.eq_zero_or_pos (upP nt i p) with q | q
    · rw [q, h0]; omega
    · have := h _ q (by omega); omega
theorem upP_succ (nt : List Nat) (i p : Nat) : upP nt (i + 1) p = nt.getD (upP nt i p) 0 / 4 := rfl
/-- the word written from behind -/
def wdW (nt : List Nat) (p l t : Nat) (WD : Nat → Nat) : Nat → Nat := fun j => if t ≤ j ∧ j < dpP nt p p + 1 ∧ j < 30 then wdP nt p l j else WD j
theorem wdW_top (nt : List Nat) (p l : Nat) (WD : Nat → Nat) : wdW nt p l (dpP nt p p + 1) WD = WD := by
  funext j
  unfold wdW
  rw [if_neg (by omega)]
theorem wdW_put (nt : List Nat) (p l : Nat) (WD : Nat → Nat) {i : Nat} (hi : i < dpP nt p p + 1) (h30 : i < 30) : va_up (wdW nt p l (i + 1) WD) i (wdP nt p l i) = wdW nt p l i WD := by
  funext j
  unfold va_up
  by_cases h : j = i
  · rw [if_pos h, h]; unfold wdW; rw [if_pos (by omega)]
  · rw [if_neg h]
    unfold wdW
    by_cases h2 : i + 1 ≤ j ∧ j < dpP nt p p + 1 ∧ j < 30
    · rw [if_pos h2, if_pos (by omega)]
    · rw [if_neg h2, if_neg (by omega)]
theorem wdW_skip (nt : List Nat) (p l : Nat) (WD : Nat → Nat) {i : Nat} (h30 : 30 ≤ i) : wdW nt p l (i + 1) WD = wdW nt p l i WD := by
  funext j
  unfold wdW
  by_cases h2 : i + 1 ≤ j ∧ j < dpP nt p p + 1 ∧ j < 30
  · omega
  · rw [if_neg h2, if_neg (by omega)]
theorem no_map {kl : List Int32} {nt : List Nat} {cap b : Nat} {ks : Nat → Int32} {no sl : Nat → Nat} (h : MInv kl nt cap b ks no sl) {i : Nat} (hi : i < nt.length) : no i = nt.getD i 0 := by
  rw [h.2.2.2.2.2.2.2.1 i hi, getD_lt hi]
