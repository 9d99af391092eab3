/-! words of the state, and of what is reckoned from it: numbers, sets of states as bits of a number -/
/-- a number in its range -/
def rrin (x lo hi : Int32) : Bool := !(decide (x < lo)) && !(decide (hi < x))
/-- f 0 ||| .. ||| f (n - 1) -/
def orN : Nat → (Nat → Nat) → Nat
  | 0, _ => 0
  | n + 1, f => orN n f ||| f n
/-- where live ways lead from a state by a letter -/
def lvE (al : Nat) (E : Nat → Nat) (q y : Nat) : Nat := if al.testBit q then E (q * 4 + y) &&& al else 0
/-- a Graph: its object, the row of ends, the row of steps -/
def GW (K : rr_K) (go ge gt k n w al lw : Nat) (E T : Nat → Nat) : va_W := [(go, .inr (1, [.int (nI k), .int (nI n), .int (nI w), .int (nI al), .int (nI lw), .ref ge, .ref gt])), (ge, .inl (K.2.1, 64, .inl (fun j => nI (E j)))), (gt, .inl (K.2.1, 256, .inl (fun j => nI (T j))))]
theorem orN_succ (n : Nat) (f : Nat → Nat) : orN (n + 1) f = orN n f ||| f n := rfl
theorem orN_congr {f g : Nat → Nat} : ∀ {n : Nat}, (∀ i, i < n → f i = g i) → orN n f = orN n g
  | 0, _ => rfl
  | n + 1, h => by rw [orN_succ, orN_succ, orN_congr (fun i hi => h i (by omega)), h n (by omega)]
theorem orN_testBit (f : Nat → Nat) (r : Nat) : ∀ n, (orN n f).testBit r = true ↔ ∃ i, i < n ∧ (f i).testBit r = true
  | 0 => by simp [orN]
  | n + 1 => by
    rw [orN_succ, Nat.testBit_or, Bool.or_eq_true, orN_testBit f r n]
    constructor
    · rintro (⟨i, hi, h⟩ | h)
      · exact ⟨i, by omega, h⟩
      · exact ⟨n, by omega, h⟩
    · rintro ⟨i, hi, h⟩
      rcases Nat.lt_or_ge i n with h2 | h2
      · exact Or.inl ⟨i, h2, h⟩
      · obtain rfl : i = n := by omega
        exact Or.inr h
theorem orN_lt {b : Nat} {f : Nat → Nat} : ∀ {n : Nat}, (∀ i, i < n → f i < 2 ^ b) → orN n f < 2 ^ b
  | 0, _ => Nat.two_pow_pos b
  | n + 1, h => by
    rw [orN_succ]
    exact Nat.or_lt_two_pow (orN_lt (fun i hi => h i (by omega))) (h n (by omega))
theorem lvE_lt {b al : Nat} (h : al < 2 ^ b) (E : Nat → Nat) (q y : Nat) : lvE al E q y < 2 ^ b := by
  unfold lvE
  split
  · exact Nat.and_lt_two_pow _ h
  · exact Nat.two_pow_pos b
theorem rrin_nat {x : Int32} {a b : Nat} (hb : b < 2 ^ 31) (h : rrin x (nI a) (nI b) = true) (ha : a ≤ b) : ∃ j : Nat, a ≤ j ∧ j ≤ b ∧ x = nI j := by
  unfold rrin at h
  simp only [Bool.and_eq_true, Bool.not_eq_true', decide_eq_false_iff_not] at h
  obtain ⟨h1, h2⟩ := h
  have e1 : (nI a).toInt = (a : Int) := nI_toInt (by omega)
  have e2 : (nI b).toInt = (b : Int) := nI_toInt hb
  rw [Int32.lt_iff_toInt_lt, e1] at h1
  rw [Int32.lt_iff_toInt_lt, e2] at h2
  have h0 : ¬ x < 0 := by
    rw [Int32.lt_iff_toInt_lt]
    show ¬ x.toInt < 0
    omega
  obtain ⟨j, hj, rfl⟩ := nI_of h0
  rw [nI_toInt hj] at h1 h2
  exact ⟨j, by omega, by omega, rfl⟩
theorem rrin_of {a b j : Nat} (hj : j < 2 ^ 31) (hb : b < 2 ^ 31) : rrin (nI j) (nI a) (nI b) = (decide (¬ j < a) && decide (¬ b < j)) ∨ 2 ^ 31 ≤ a := by
  rcases Nat.lt_or_ge a (2 ^ 31) with ha | ha
  · refine Or.inl ?_
    unfold rrin
    have e1 : nI j < nI a ↔ j < a := nI_ltI hj ha
    have e2 : nI b < nI j ↔ b < j := nI_ltI hb hj
    simp only [e1, e2, decide_not]
  · exact Or.inr ha
