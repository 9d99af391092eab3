/-! what the calls answer and leave, in numbers -/
abbrev cN (x : Int32) : Nat := x.toNatClampNeg
def SOK (ns : Nat) (kF nF yF : Nat → Nat) : Prop := ns ≤ 6 ∧ ∀ j, j < ns → 2 ≤ kF j ∧ kF j ≤ 4 ∧ 1 ≤ nF j ∧ nF j ≤ 16 ∧ ∀ i, i < 64 → Es yF j i < 65536
def WOK (wl : Nat) (WD : Nat → Nat) : Prop := wl ≤ 30 ∧ ∀ i, i < wl → WD i < 4
theorem okQ_of {ns : Nat} {kF nF yF : Nat → Nat} {x q : Int32} (hS : SOK ns kF nF yF) (h : okQ ns nF x q = true) : ∃ j q', x = nI j ∧ q = nI q' ∧ j < ns ∧ q' < nF j := by
  have h0 := hS.1
  have h1 : isS ns x = true := by unfold okQ at h; rw [Bool.and_eq_true] at h; exact h.1
  obtain ⟨j, hj, rfl⟩ := isS_of (by omega) h1
  rw [okQ_j (by omega) rfl, Bool.and_eq_true] at h
  obtain ⟨q', hq, rfl⟩ := isS_of (by have := (hS.2 j hj).2.2.2.1; omega) h.2
  exact ⟨j, q', rfl, rfl, hj, hq⟩
theorem okQ_nI {ns j q : Nat} {kF nF yF : Nat → Nat} (hS : SOK ns kF nF yF) (hj : j < ns) (hq : q < nF j) : okQ ns nF (nI j) (nI q) = true := by
  have h0 := hS.1
  rw [okQ_j (by omega) rfl, isS_j hj (by omega), isS_j hq (by have := (hS.2 j hj).2.2.2.1; omega)]
  rfl
theorem okW_of {ns : Nat} {kF nF yF : Nat → Nat} {x f y t : Int32} (hS : SOK ns kF nF yF) (h : okW ns kF nF x f y t = true) : ∃ j f' y' t', x = nI j ∧ f = nI f' ∧ y = nI y' ∧ t = nI t' ∧ j < ns ∧ f' < nF j ∧ y' < kF j ∧ t' < nF j := by
  have h0 := hS.1
  have hf : okQ ns nF x f = true := by unfold okW at h; rw [Bool.and_eq_true] at h; exact h.1
  obtain ⟨j, f', rfl, rfl, hj, hf'⟩ := okQ_of hS hf
  rw [okW_j (by omega) rfl, Bool.and_eq_true, Bool.and_eq_true] at h
  obtain ⟨j2, t', e, rfl, hj2, ht'⟩ := okQ_of hS h.2.1
  obtain rfl : j = j2 := nI_inj (by omega) (by omega) e
  obtain ⟨y', hy', rfl⟩ := isS_of (by have := (hS.2 j hj).2.1; omega) h.2.2
  exact ⟨j, f', y', t', rfl, rfl, rfl, rfl, hj, hf', hy', ht'⟩
theorem cN_nI {j : Nat} (h : j < 2 ^ 31) : cN (nI j) = j := nI_clamp h
/-- set -/
def setOK (ns : Nat) (x y : Int32) : Bool := (rrin x (nI 2) (nI 4) && rrin y (nI 1) (nI 16)) && !(decide (ns = 6))
def setA (ns : Nat) (x y : Int32) : Int32 := if (rrin x (nI 2) (nI 4) && rrin y (nI 1) (nI 16)) = true then (if ns = 6 then -4 else nI ns) else -2
/-- way, unway -/
def ixW (x f y : Int32) : Nat := 64 * cN x + (cN f * 4 + cN y)
def bitW (yF : Nat → Nat) (x f y t : Int32) : Bool := (yF (ixW x f y)).testBit (cN t)
def tglW (yF : Nat → Nat) (x f y t : Int32) : Nat → Nat := va_up yF (ixW x f y) (yF (ixW x f y) ^^^ 1 <<< cN t)
def wayA (ns : Nat) (kF nF yF : Nat → Nat) (x f y t : Int32) : Int32 := if okW ns kF nF x f y t = true then (if bitW yF x f y t = true then -3 else nI 1) else -2
def unwA (ns : Nat) (kF nF yF : Nat → Nat) (x f y t : Int32) : Int32 := if okW ns kF nF x f y t = true then (if bitW yF x f y t = true then nI 1 else -3) else -2
def wayOK (ns : Nat) (kF nF yF : Nat → Nat) (x f y t : Int32) : Bool := okW ns kF nF x f y t && !(bitW yF x f y t)
def unwOK (ns : Nat) (kF nF yF : Nat → Nat) (x f y t : Int32) : Bool := okW ns kF nF x f y t && bitW yF x f y t
theorem or_xor {a t : Nat} (h : a.testBit t = false) : a ||| 1 <<< t = a ^^^ 1 <<< t := by
  apply Nat.eq_of_testBit_eq
  intro i
  rw [Nat.testBit_or, Nat.testBit_xor, Nat.one_shiftLeft, Nat.testBit_two_pow]
  by_cases e : t = i
  · subst e; rw [h]; simp
  · simp [e]
theorem andN_xor {a t : Nat} (ha : a < 65536) (h : a.testBit t = true) : andN a (1 <<< t) = a ^^^ 1 <<< t := by
  apply Nat.eq_of_testBit_eq
  intro i
  unfold andN
  rw [Nat.testBit_and, Nat.testBit_xor, Nat.testBit_xor, Nat.one_shiftLeft, Nat.testBit_two_pow, show (65535 : Nat) = 2 ^ 16 - 1 from rfl, Nat.testBit_two_pow_sub_one]
  by_cases e : t = i
  · subst e
    have h16 : t < 16 := bit_lt (n := 16) ha h
    rw [h, decide_eq_true h16, decide_eq_true rfl]; rfl
  · rw [decide_eq_false e, Bool.xor_false, Bool.xor_false]
    by_cases h16 : i < 16
    · rw [decide_eq_true h16, Bool.and_true]
    · rw [decide_eq_false h16, Bool.and_false, Nat.testBit_lt_two_pow (x := a) (i := i) (Nat.lt_of_lt_of_le ha (Nat.pow_le_pow_right (n := 2) (i := 16) (by decide) (by omega)))]
/-- letter, letterAt -/
def letOK (wl : Nat) (x : Int32) : Bool := rrin x (nI 0) (nI 3) && !(decide (wl = 30))
def letA (wl : Nat) (x : Int32) : Int32 := if rrin x (nI 0) (nI 3) = true then (if wl = 30 then -4 else nI (wl + 1)) else -2
def latA (wl : Nat) (WD : Nat → Nat) (x : Int32) : Int32 := if isS wl x = true then nI (WD (cN x)) else -1
/-- forbid -/
def forOK (wl nf : Nat) : Bool := decide (1 ≤ wl ∧ wl ≤ 5) && !(decide (nf = 8))
def forA (wl nf : Nat) : Int32 := if 1 ≤ wl ∧ wl ≤ 5 then (if nf = 8 then -4 else nI (nf + 1)) else -3
/-- live, may -/
def livA (ns : Nat) (kF nF yF : Nat → Nat) (x q : Int32) : Int32 := if okQ ns nF x q = true then bI ((liveS (kF (cN x)) (nF (cN x)) (Es yF (cN x))).testBit (cN q)) else -2
def mayS (k n : Nat) (E : Nat → Nat) (WD : Nat → Nat) (m : Nat) : Nat := rr_fold (fun i S => ldS k n E (liveS k n E) S (WD i)) m (liveS k n E)
def mayA (ns : Nat) (kF nF yF : Nat → Nat) (wl : Nat) (WD : Nat → Nat) (x : Int32) : Int32 := if isS ns x = true then bI (decide (mayS (kF (cN x)) (nF (cN x)) (Es yF (cN x)) WD wl ≠ 0)) else -2
theorem mayS_succ (k n : Nat) (E : Nat → Nat) (WD : Nat → Nat) (m : Nat) : mayS k n E WD (m + 1) = ldS k n E (liveS k n E) (mayS k n E WD m) (WD m) := rfl
theorem mayS_lt {k n : Nat} {E : Nat → Nat} {WD : Nat → Nat} (hn : n ≤ 16) : ∀ m, mayS k n E WD m < 65536
  | 0 => liveS_lt16 hn
  | m + 1 => by rw [mayS_succ]; exact Nat.lt_of_le_of_lt (sub_le (ldS_sub _ _ _ _ _ _)) (liveS_lt16 hn)
/-- window, tells, count -/
def winA (x : Int32) : Int32 := if rrin x (nI 1) (nI 3) = true then nI 1 else -2
def telOK (wd : Nat) (r y : Int32) : Bool := isS (2 ^ (2 * wd)) r && rrin y (nI 0) (nI 3)
def telA (wd : Nat) (TD : Nat → Nat) (r y : Int32) : Int32 := if telOK wd r y = true then nI (TD (cN r)) else -2
def cntA (ns wl nf wd : Nat) (x : Int32) : Int32 := if x = 0 then nI ns else if x = nI 1 then nI wl else if x = nI 2 then nI nf else if x = nI 3 then nI wd else -2
theorem p2w {wd : Nat} (hw : wd ≤ 3) : 2 ^ (2 * wd) ≤ 64 := Nat.le_trans (Nat.pow_le_pow_right (by decide) (show 2 * wd ≤ 6 by omega)) (by decide)
theorem rrin_Nat {x : Int32} {a b : Nat} (hb : b < 2 ^ 31) (hab : a ≤ b) (h : rrin x (nI a) (nI b) = true) : ∃ j, a ≤ j ∧ j ≤ b ∧ x = nI j := rrin_nat hb h hab
theorem rrin_in {a b j : Nat} (hb : b < 2 ^ 31) (h1 : a ≤ j) (h2 : j ≤ b) : rrin (nI j) (nI a) (nI b) = true := by
  rcases rrin_of (a := a) (b := b) (j := j) (by omega) hb with h | h
  · rw [h, decide_eq_true (by omega), decide_eq_true (by omega)]; rfl
  · omega
theorem rrin_out {a b j : Nat} (hj : j < 2 ^ 31) (hb : b < 2 ^ 31) (ha : a < 2 ^ 31) (h : rrin (nI j) (nI a) (nI b) = false) : ¬ (a ≤ j ∧ j ≤ b) := fun q => by
  rw [rrin_in hb q.1 q.2] at h
  cases h
/-- whether a letter follows: products, by what is left of dividing -/
theorem isl_ne {x y z t : Nat} (hy : 0 < y) (ht : 0 < t) (h : ¬ x / y = z / t) : (x / y < z / t ↔ x * t < z * y) := by
  have e1 := Nat.div_add_mod x y
  have e2 := Nat.div_add_mod z t
  have m1 := Nat.mod_lt x hy
  have m2 := Nat.mod_lt z ht
  constructor
  · intro q
    have h1 : x < y * (x / y + 1) := by rw [Nat.mul_add]; omega
    have h2 : y * (x / y + 1) ≤ y * (z / t) := Nat.mul_le_mul_left y q
    have h3 : t * (z / t) ≤ z := by omega
    calc x * t < y * (z / t) * t := (Nat.mul_lt_mul_right ht).mpr (Nat.lt_of_lt_of_le h1 h2)
      _ = y * (t * (z / t)) := by rw [Nat.mul_assoc, Nat.mul_comm (z / t) t]
      _ ≤ y * z := Nat.mul_le_mul_left y h3
      _ = z * y := Nat.mul_comm y z
  · intro q
    rcases Nat.lt_or_ge (x / y) (z / t) with w | w
    · exact w
    · have w2 : z / t < x / y := by omega
      have h1 : z < t * (z / t + 1) := by rw [Nat.mul_add]; omega
      have h2 : t * (z / t + 1) ≤ t * (x / y) := Nat.mul_le_mul_left t w2
      have h3 : y * (x / y) ≤ x := by omega
      have : z * y < x * t := by
        calc z * y < t * (x / y) * y := (Nat.mul_lt_mul_right hy).mpr (Nat.lt_of_lt_of_le h1 h2)
          _ = t * (y * (x / y)) := by rw [Nat.mul_assoc, Nat.mul_comm (x / y) y]
          _ ≤ t * x := Nat.mul_le_mul_left t h3
          _ = x * t := Nat.mul_comm t x
      omega
theorem isl_eq {x y z t : Nat} (h : x / y = z / t) : ((x * t < z * y) ↔ (x % y) * t < (z % t) * y) ∧ ((x * t = z * y) ↔ (x % y) * t = (z % t) * y) := by
  have e1 := Nat.div_add_mod x y
  have e2 := Nat.div_add_mod z t
  have h1 : x * t = y * (x / y) * t + x % y * t := by rw [← Nat.add_mul, e1]
  have h2 : z * y = y * (x / y) * t + z % t * y := by
    rw [h, Nat.mul_assoc, Nat.mul_comm (z / t) t, Nat.mul_comm y (t * (z / t)), ← Nat.add_mul, e2]
  omega
/-- the class's way to compare: right -/
theorem sdF_eq : ∀ (f : Nat) (ng : Bool) (a b c d : Nat), ¬ eRun f a b → (0 < a ∨ 0 < b) → (0 < c ∨ 0 < d) → sdF f ng a b c d = if a * d = c * b then nI 0 else if a * d < c * b then sg (!ng) else sg ng
  | 0, _, _, _, _, _, h, _, _ => absurd trivial h
  | f + 1, ng, a, b, c, d, h, hab, hcd => by
    by_cases hb : b = 0
    · rw [sdF_end (Or.inr (Or.inl hb)), hb, Nat.mul_zero]
      by_cases hd : d = 0
      · rw [if_pos ⟨rfl, hd⟩, if_pos (by rw [hd, Nat.mul_zero])]
      · have : 0 < a * d := Nat.mul_pos (by omega) (by omega)
        rw [if_neg (fun q => hd q.2), if_pos rfl, if_neg (by omega), if_neg (by omega)]
    · by_cases hd : d = 0
      · have : 0 < c * b := Nat.mul_pos (by omega) (by omega)
        rw [sdF_end (Or.inr (Or.inr hd)), hd, Nat.mul_zero, if_neg (fun q => hb q.1), if_neg hb, if_neg (by omega), if_pos this]
      · by_cases hq : a / b = c / d
        · have hr : ¬ eRun f b (a % b) := fun q => h ⟨hb, q⟩
          obtain ⟨i1, i2⟩ := isl_eq hq
          rw [sdF_on hb hd hq, sdF_eq f (!ng) b (a % b) d (c % d) hr (Or.inl (by omega)) (Or.inl (by omega)), Bool.not_not]
          have e1 : b * (c % d) = c % d * b := Nat.mul_comm _ _
          have e2 : d * (a % b) = a % b * d := Nat.mul_comm _ _
          rw [e1, e2]
          by_cases h0 : a * d = c * b
          · have := i2.mp h0
            rw [if_pos h0, if_pos (by omega)]
          · have hne : ¬ a % b * d = c % d * b := fun q => h0 (i2.mpr q)
            rw [if_neg h0, if_neg (by omega)]
            by_cases h1 : a * d < c * b
            · have := i1.mp h1
              rw [if_pos h1, if_neg (by omega)]
            · have : ¬ a % b * d < c % d * b := fun q => h1 (i1.mpr q)
              rw [if_neg h1, if_pos (by omega)]
        · rw [sdF_ne hb hd hq]
          have i1 := isl_ne (x := a) (z := c) (show 0 < b by omega) (show 0 < d by omega) hq
          have i2 := isl_ne (x := c) (z := a) (show 0 < d by omega) (show 0 < b by omega) (fun q => hq q.symm)
          by_cases h1 : a / b < c / d
          · have := i1.mp h1
            rw [if_pos h1, if_neg (by omega), if_pos this]
          · have := i2.mp (by omega)
            rw [if_neg h1, if_neg (by omega), if_neg (by omega)]
