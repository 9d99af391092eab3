/-! running sums: of a digest, and others -/
def rr_fold {α : Type} (f : Nat → α → α) : Nat → α → α
  | 0, x => x
  | n + 1, x => f n (rr_fold f n x)
def dg (h : Int64) (v : Int32) : Int64 := lN 31 * h + v.toInt64
def dgH (h : Int64) (k n w a lw : Nat) : Int64 := dg (dg (dg (dg (dg h (nI k)) (nI n)) (nI w)) (nI a)) (nI lw)
def dgE (k n : Nat) (E : Nat → Nat) (h : Int64) : Int64 := rr_fold (fun q h => rr_fold (fun y h => dg h (nI (E (q * 4 + y)))) k h) n h
theorem rr_fold_succ {α : Type} (f : Nat → α → α) (n : Nat) (x : α) : rr_fold f (n + 1) x = f n (rr_fold f n x) := rfl
theorem rr_fold_congr {α : Type} {f g : Nat → α → α} {x : α} : ∀ {n : Nat}, (∀ i, i < n → ∀ y, f i y = g i y) → rr_fold f n x = rr_fold g n x
  | 0, _ => rfl
  | n + 1, h => by rw [rr_fold_succ, rr_fold_succ, rr_fold_congr (fun i hi => h i (by omega)), h n (by omega)]
/-! the table of steps, filled -/
theorem gdT_zero (n al : Nat) (E : Nat → Nat) (y g : Nat) : gdT n al E y g 0 = 0 := by
  unfold gdT
  simp [orN]
/-- what stands in the table when all states below q, of the letter y, are in it -/
def TFil (n al : Nat) (E T : Nat → Nat) (y q : Nat) : Prop := ∀ g x, g < 4 → x < 16 → (x < 2 ^ (q - 4 * g)) → T (y * 64 + g * 16 + x) = gdT n al E y g x
theorem gdT_add (n al : Nat) (E : Nat → Nat) (y g : Nat) {j lo : Nat} (hj : j < 4) (hlo : lo < 2 ^ j) : gdT n al E y g (2 ^ j + lo) = gdT n al E y g lo ||| (if 4 * g + j < n then lvE al E (4 * g + j) y else 0) := by
  have hb : ∀ i, (2 ^ j + lo).testBit i = (decide (i = j) || lo.testBit i) := by
    intro i
    rcases Nat.lt_trichotomy i j with h | h | h
    · rw [Nat.testBit_two_pow_add_gt h, decide_eq_false (by omega), Bool.false_or]
    · subst h
      rw [Nat.testBit_two_pow_add_eq, Nat.testBit_lt_two_pow hlo]
      simp
    · rw [decide_eq_false (by omega), Bool.false_or]
      have h1 : (2 ^ j + lo).testBit i = false := Nat.testBit_lt_two_pow (by have := Nat.pow_le_pow_right (n := 2) (by decide) (show j + 1 ≤ i by omega); rw [Nat.pow_succ] at this; omega)
      have h2 : lo.testBit i = false := Nat.testBit_lt_two_pow (Nat.lt_of_lt_of_le hlo (Nat.pow_le_pow_right (by decide) (by omega)))
      rw [h1, h2]
  apply Nat.eq_of_testBit_eq
  intro r
  rw [Bool.eq_iff_iff, Nat.testBit_or, Bool.or_eq_true]
  unfold gdT
  rw [orN_testBit, orN_testBit]
  constructor
  · rintro ⟨i, hi, h⟩
    rw [hb i] at h
    by_cases e : i = j
    · subst e
      right
      simpa using h
    · left
      refine ⟨i, hi, ?_⟩
      simpa [e] using h
  · rintro (⟨i, hi, h⟩ | h)
    · refine ⟨i, hi, ?_⟩
      rw [hb i]
      by_cases h1 : lo.testBit i = true
      · rw [if_pos h1] at h
        rw [h1, Bool.or_true, if_pos rfl]
        exact h
      · rw [if_neg h1, Nat.zero_testBit] at h; cases h
    · refine ⟨j, hj, ?_⟩
      rw [hb j, decide_eq_true rfl, Bool.true_or, if_pos rfl]
      exact h
theorem TFil_0 {n al : Nat} {E T : Nat → Nat} {y : Nat} (h : ∀ g, g < 4 → T (y * 64 + g * 16) = 0) : TFil n al E T y 0 := by
  intro g x hg hx hlt
  rw [Nat.zero_sub, Nat.pow_zero] at hlt
  obtain rfl : x = 0 := by omega
  rw [gdT_zero]
  exact h g hg
/-- one state more: the entries with its bit -/
def TLow (n al : Nat) (E T : Nat → Nat) (y q lo : Nat) : Prop := TFil n al E T y q ∧ ∀ x, x < lo → T (y * 64 + q / 4 * 16 + (2 ^ (q % 4) + x)) = gdT n al E y (q / 4) (2 ^ (q % 4) + x)
theorem TLow_step {n al : Nat} {E T : Nat → Nat} {y q lo : Nat} (hq : q < 16) (h : TLow n al E T y q lo) (hlo : lo < 2 ^ (q % 4)) :
    TLow n al E (va_up T (y * 64 + q / 4 * 16 + 2 ^ (q % 4) + lo) (T (y * 64 + q / 4 * 16 + lo) ||| (if q < n then lvE al E q y else 0))) y q (lo + 1) := by
  have p2 : 2 ^ (q % 4) ≤ 8 := by
    have h4 : q % 4 < 4 := Nat.mod_lt _ (by decide)
    rcases (show q % 4 = 0 ∨ q % 4 = 1 ∨ q % 4 = 2 ∨ q % 4 = 3 by omega) with e | e | e | e <;> rw [e] <;> decide
  have e4 : 4 * (q / 4) + q % 4 = q := by omega
  have hold : T (y * 64 + q / 4 * 16 + lo) = gdT n al E y (q / 4) lo := h.1 (q / 4) lo (by omega) (by omega) (by rw [show q - 4 * (q / 4) = q % 4 by omega]; exact hlo)
  have key : T (y * 64 + q / 4 * 16 + lo) ||| (if q < n then lvE al E q y else 0) = gdT n al E y (q / 4) (2 ^ (q % 4) + lo) := by
    rw [gdT_add n al E y (q / 4) (Nat.mod_lt _ (by decide)) hlo, e4, hold]
  rw [key]
  refine ⟨fun g x hg hx hlt => ?_, fun x hx => ?_⟩
  · rw [va_up_ne]
    · exact h.1 g x hg hx hlt
    · intro e
      have hgq : g = q / 4 := by omega
      subst hgq
      rw [show q - 4 * (q / 4) = q % 4 by omega] at hlt
      omega
  · by_cases e : x = lo
    · subst e
      rw [show y * 64 + q / 4 * 16 + (2 ^ (q % 4) + x) = y * 64 + q / 4 * 16 + 2 ^ (q % 4) + x by omega, va_up_self]
    · rw [va_up_ne]
      · exact h.2 x (by omega)
      · omega
theorem TLow_done {n al : Nat} {E T : Nat → Nat} {y q : Nat} (hq : q < 16) (h : TLow n al E T y q (2 ^ (q % 4))) : TFil n al E T y (q + 1) := by
  intro g x hg hx hlt
  by_cases h1 : x < 2 ^ (q - 4 * g)
  · exact h.1 g x hg hx h1
  · have hge : 4 * g ≤ q := by
      rcases Nat.lt_or_ge q (4 * g) with h2 | h2
      · rw [show q + 1 - 4 * g = 0 by omega] at hlt
        rw [show q - 4 * g = 0 by omega] at h1
        omega
      · exact h2
    have hgq : g = q / 4 := by
      have h3 : q - 4 * g < 4 := by
        rcases Nat.lt_or_ge (q - 4 * g) 4 with h3 | h3
        · exact h3
        · have : 2 ^ 4 ≤ 2 ^ (q - 4 * g) := Nat.pow_le_pow_right (by decide) h3
          have : (2 : Nat) ^ 4 = 16 := rfl
          omega
      omega
    subst hgq
    rw [show q - 4 * (q / 4) = q % 4 by omega] at h1
    rw [show q + 1 - 4 * (q / 4) = q % 4 + 1 by omega, Nat.pow_succ] at hlt
    have h4 := h.2 (x - 2 ^ (q % 4)) (by omega)
    rw [show 2 ^ (q % 4) + (x - 2 ^ (q % 4)) = x by omega] at h4
    exact h4
theorem TFil_all {n al : Nat} {E T : Nat → Nat} {y : Nat} (h : TFil n al E T y 16) : ∀ g x, g < 4 → x < 16 → T (y * 64 + g * 16 + x) = gdT n al E y g x := by
  intro g x hg hx
  refine h g x hg hx ?_
  have : 2 ^ 4 ≤ 2 ^ (16 - 4 * g) := Nat.pow_le_pow_right (by decide) (by omega)
  have : (2 : Nat) ^ 4 = 16 := rfl
  omega
theorem TF_next {n al : Nat} {E T : Nat → Nat} {y : Nat} (h : ∀ y', y' < y → ∀ g x, g < 4 → x < 16 → T (y' * 64 + g * 16 + x) = gdT n al E y' g x) (hF : TFil n al E T y 16) : ∀ y', y' < y + 1 → ∀ g x, g < 4 → x < 16 → T (y' * 64 + g * 16 + x) = gdT n al E y' g x := by
  intro y' hy' g x hg hx
  rcases Nat.lt_or_ge y' y with h' | h'
  · exact h y' h' g x hg hx
  · have e : y' = y := by omega
    rw [e]
    exact TFil_all hF g x hg hx
