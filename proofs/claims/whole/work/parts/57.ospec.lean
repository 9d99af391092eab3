/-! growth's state, the weights' rounds, rows that come round: pure -/
theorem utC_live {al : Nat} {V B : Nat → Nat} {cp : Nat → Nat → Nat → Nat → Int32} {side : Int32} : ∀ m, utC al V B cp side m ≠ 0 → al.testBit (utC al V B cp side m - 1) = true
  | 0, h => absurd rfl h
  | m + 1, h => by
    have ih := utC_live (al := al) (V := V) (B := B) (cp := cp) (side := side) m
    rw [utC_succ] at h ⊢
    by_cases c : al.testBit m = true ∧ (utC al V B cp side m = 0 ∨ cp (V m) (B m) (V (utC al V B cp side m - 1)) (B (utC al V B cp side m - 1)) = side)
    · rw [if_pos c, Nat.add_sub_cancel]; exact c.1
    · rw [if_neg c] at h ⊢; exact ih h
theorem utC_some {al n : Nat} {V B : Nat → Nat} {cp : Nat → Nat → Nat → Nat → Int32} {side : Int32} {q : Nat} (hq : al.testBit q = true) : ∀ m, q < m → utC al V B cp side m ≠ 0
  | 0, h => absurd h (Nat.not_lt_zero _)
  | m + 1, h => by
    have ih := utC_some (n := n) (V := V) (B := B) (cp := cp) (side := side) hq m
    rw [utC_succ]
    by_cases c : al.testBit m = true ∧ (utC al V B cp side m = 0 ∨ cp (V m) (B m) (V (utC al V B cp side m - 1)) (B (utC al V B cp side m - 1)) = side)
    · rw [if_pos c]; omega
    · rw [if_neg c]
      rcases Nat.lt_or_ge q m with w | w
      · exact ih w
      · obtain rfl : q = m := by omega
        intro e
        exact c ⟨hq, Or.inl e⟩
theorem live_some {k n : Nat} {E : Nat → Nat} (h : ¬ liveS k n E = 0) : ∃ q, q < n ∧ (liveS k n E).testBit q = true := by
  obtain ⟨q, hq⟩ := Nat.exists_testBit_of_ne_zero h
  exact ⟨q, bit_lt (liveS_lt k n E) hq, hq⟩
/-- weights carried on -/
def wV (n : Nat) (M : Nat → Nat → Nat) (w : Nat → Nat) : Nat → Nat → Nat
  | 0, q => w q
  | t + 1, q => sN n (fun r => M q r * wV n M w t r)
theorem wV_pw (n : Nat) (M : Nat → Nat → Nat) (w : Nat → Nat) : ∀ t q, wV n M w (t + 1) q = sN n (fun r => pwS n M t q r * w r)
  | 0, _ => rfl
  | t + 1, q => by
    show sN n (fun o => M q o * wV n M w (t + 1) o) = _
    have e : ∀ o, o < n → M q o * wV n M w (t + 1) o = sN n (fun r => M q o * pwS n M t o r * w r) := fun o _ => by
      rw [wV_pw n M w t o, ← sN_mull]
      exact sN_congr (fun r _ => (Nat.mul_assoc _ _ _).symm)
    rw [sN_congr e, sN_swap]
    exact sN_congr (fun r _ => by rw [sN_mulr (fun o => M q o * pwS n M t o r), pwS_left])
theorem wV_lt {n : Nat} {M : Nat → Nat → Nat} {w : Nat → Nat} {L : Nat} (hn : n ≤ 16) (hM : ∀ i j, M i j ≤ 4) (hw : ∀ q, q < n → w q ≤ L) : ∀ t q, q < n → wV n M w t q ≤ L * 64 ^ t
  | 0, q, hq => by rw [Nat.pow_zero, Nat.mul_one]; exact hw q hq
  | t + 1, q, _ => by
    have h1 := sN_le (f := fun r => M q r * wV n M w t r) (b := 4 * (L * 64 ^ t)) (n := n) (fun r hr => Nat.mul_le_mul (hM q r) (wV_lt hn hM hw t r hr))
    show sN n (fun r => M q r * wV n M w t r) ≤ _
    refine Nat.le_trans h1 (Nat.le_trans (Nat.mul_le_mul_right _ hn) ?_)
    rw [Nat.pow_succ, ← Nat.mul_assoc L]
    omega
theorem suF_wV {k al n t q : Nat} {E v w : Nat → Nat} (hv : ∀ r, r < n → v r = wV n (aMy al E k) w t r) : suF k al E v q n = wV n (aMy al E k) w (t + 1) q := sN_congr (fun r hr => by rw [hv r hr])
theorem suF_xV {k al n t q s : Nat} {E v : Nat → Nat} (hv : ∀ r, r < n → v r = xV n (aMy al E k) s t r) : suF k al E v q n = xV n (aMy al E k) s (t + 1) q := sN_congr (fun r hr => by rw [hv r hr])
theorem wgI_down {n p : Nat} {P : Nat → Nat → Nat} {L al r : Nat} : ∀ i, wgI n p P L al (r + 1) i ≤ wgI n p P L al r i := fun i => by
  by_cases h : i < n
  · rw [wgI_lt h]; exact Nat.min_le_left _ _
  · rw [wgI_ge h]; exact Nat.le_refl _
/-- rows of a word, again and again -/
def mR (sb : Nat → Nat → Nat) (k nn al code : Nat) : Bool := decide (rr_it (rsF sb (fun j => code / k ^ j % k) nn) 17 al ≠ 0)
theorem rsF_0 {sb : Nat → Nat → Nat} {wF : Nat → Nat} (h : ∀ y, sb 0 y = 0) : ∀ m, rsF sb wF m 0 = 0
  | 0 => rfl
  | m + 1 => by rw [rsF_succ, rsF_0 h m, h]
theorem ldS_0 (k n : Nat) (E : Nat → Nat) (al y : Nat) : ldS k n E al 0 y = 0 := by
  unfold ldS
  split
  · have h : ∀ m, orN m (fun q => if (0 : Nat).testBit q = true then E (q * 4 + y) else 0) = 0 := by
      intro m
      induction m with
      | zero => rfl
      | succ m ih => rw [orN_succ, ih, if_neg (by rw [Nat.zero_testBit]; decide)]; rfl
    rw [h n, Nat.zero_and]
  · rfl
theorem it_zero {f : Nat → Nat} {i x : Nat} (h0 : f 0 = 0) (h : rr_it f i x = 0) {j : Nat} (hj : i ≤ j) : rr_it f j x = 0 := by
  rw [rr_it_fix (f := f) (x := x) (i := i) (by rw [h, h0]) j hj, h]
theorem rsF_sub {k n al : Nat} {E wF : Nat → Nat} {S : Nat} (hS : sub S al) : ∀ m, sub (rsF (ldS k n E al) wF m S) al
  | 0 => hS
  | m + 1 => by rw [rsF_succ]; exact ldS_sub _ _ _ _ _ _
def rndA (ns : Nat) (kF nF yF : Nat → Nat) (x y : Int32) : Int32 := if (isS ns x && rrin y (nI 1) (nI 7)) = true then nI (crN (mR (ldS (kF (cN x)) (nF (cN x)) (Es yF (cN x)) (liveS (kF (cN x)) (nF (cN x)) (Es yF (cN x)))) (kF (cN x)) (cN y) (liveS (kF (cN x)) (nF (cN x)) (Es yF (cN x)))) (kF (cN x) ^ cN y)) else -2
/-- a coder's numbers, its weights -/
def cdOK (ns : Nat) (x p q m : Int32) : Bool := isS ns x && (rrin p (nI 1) (nI 8) && (rrin q (nI 1) (nI 4) && rrin m (nI 1) (nI 100)))
def wgT (k n : Nat) (E : Nat → Nat) (p q m : Nat) : Nat → Nat := wgI n p (pwS n (aMy (liveS k n E) E k) (q - 1)) m (liveS k n E) (16 * m + 1)
def wgsA (ns : Nat) (kF nF yF : Nat → Nat) (x p q m : Int32) : Int32 := if cdOK ns x p q m = true then nI (sN (nF (cN x)) (wgT (kF (cN x)) (nF (cN x)) (Es yF (cN x)) (cN p) (cN q) (cN m))) else -2
def wgtA (ns : Nat) (kF nF yF : Nat → Nat) (x p q m s : Int32) : Int32 := if (cdOK ns x p q m && okQ ns nF x s) = true then nI (wgT (kF (cN x)) (nF (cN x)) (Es yF (cN x)) (cN p) (cN q) (cN m) (cN s)) else -2
