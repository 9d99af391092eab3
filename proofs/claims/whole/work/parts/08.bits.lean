/-! Integer.bitCount, and its steps, on numbers below 65536: byte by byte -/
def bc1 (x : Nat) : Nat := x - (x >>> 1 &&& 1431655765)
def bc2 (x : Nat) : Nat := (bc1 x &&& 858993459) + (bc1 x >>> 2 &&& 858993459)
def bc3 (x : Nat) : Nat := (bc2 x + bc2 x >>> 4) &&& 252645135
def bc4 (x : Nat) : Nat := bc3 x + bc3 x >>> 8
def bc5 (x : Nat) : Nat := bc4 x + bc4 x >>> 16
theorem shr_le (x q : Nat) : x >>> q ≤ x := by rw [Nat.shiftRight_eq_div_pow]; exact Nat.div_le_self _ _
theorem bc1_le (x : Nat) : bc1 x ≤ x := Nat.sub_le _ _
theorem bc1_in (x : Nat) : x >>> 1 &&& 1431655765 ≤ x := Nat.le_trans Nat.and_le_left (shr_le x 1)
theorem bc2_le (x : Nat) : bc2 x ≤ 2 * x := by
  have h1 : bc1 x &&& 858993459 ≤ bc1 x := Nat.and_le_left
  have h2 : bc1 x >>> 2 &&& 858993459 ≤ bc1 x := Nat.le_trans Nat.and_le_left (shr_le _ 2)
  have h3 := bc1_le x
  unfold bc2
  omega
theorem bc3_le (x : Nat) : bc3 x ≤ 4 * x := by
  have h1 : bc3 x ≤ bc2 x + bc2 x >>> 4 := Nat.and_le_left
  have h2 := shr_le (bc2 x) 4
  have h3 := bc2_le x
  omega
theorem bc4_le (x : Nat) : bc4 x ≤ 8 * x := by
  have h2 := shr_le (bc3 x) 8
  have h3 := bc3_le x
  unfold bc4
  omega
theorem bc5_le (x : Nat) : bc5 x ≤ 16 * x := by
  have h2 := shr_le (bc4 x) 16
  have h3 := bc4_le x
  unfold bc5
  omega
theorem and_byte (a b : Nat) : a &&& b = 256 * (a / 256 &&& b / 256) + (a % 256 &&& b % 256) := by
  have h := Nat.div_add_mod (a &&& b) (2 ^ 8)
  rw [Nat.and_div_two_pow, Nat.and_mod_two_pow] at h
  exact h.symm
theorem bb1 : ∀ l, l < 256 → ∀ b, b < 2 → (b * 128 + l / 2) &&& 85 = l / 2 &&& 85 := by decide +kernel
theorem bb1h : ∀ l, l < 256 → l / 2 &&& 5592405 = l / 2 &&& 85 := by decide +kernel
theorem bb1s : ∀ l, l < 256 → l / 2 &&& 85 ≤ l := by decide +kernel
theorem bb2 : ∀ l, l < 256 → ∀ b, b < 4 → (b * 64 + l / 4) &&& 51 = l / 4 &&& 51 := by decide +kernel
theorem bb2h : ∀ l, l < 256 → l / 4 &&& 3355443 = l / 4 &&& 51 := by decide +kernel
theorem bb2i : ∀ l, l < 256 → l &&& 3355443 = l &&& 51 := by decide +kernel
theorem bb3 : ∀ l, l < 256 → l &&& 986895 = l % 16 := by decide +kernel
theorem bb3l : ∀ l, l < 256 → l &&& 15 = l % 16 := by decide +kernel
def by1 (l : Nat) : Nat := l - (l / 2 &&& 85)
def by2 (l : Nat) : Nat := (by1 l &&& 51) + (by1 l / 4 &&& 51)
theorem by_all : ∀ l, l < 256 → by1 l < 256 ∧ by2 l ≤ 68 ∧ by2 l % 16 ≤ 4 ∧ (by2 l + by2 l / 16) % 16 ≤ 8 ∧ (by2 l + by2 l / 16) % 16 = pcn 8 l := by decide +kernel
theorem bc_bytes {h l : Nat} (hh : h < 256) (hl : l < 256) : bc5 (256 * h + l) &&& 63 = pcn 8 h + pcn 8 l := by
  obtain ⟨a1, a2, a3, a4, a5⟩ := by_all h hh
  obtain ⟨c1, c2, c3, c4, c5⟩ := by_all l hl
  have e1 : bc1 (256 * h + l) = 256 * by1 h + by1 l := by
    unfold bc1 by1
    rw [Nat.shiftRight_eq_div_pow, and_byte]
    rw [show (256 * h + l) / 2 ^ 1 / 256 = h / 2 by omega, show (256 * h + l) / 2 ^ 1 % 256 = (h % 2) * 128 + l / 2 by omega, show (1431655765 : Nat) / 256 = 5592405 from rfl, show (1431655765 : Nat) % 256 = 85 from rfl, bb1h h hh, bb1 l hl (h % 2) (Nat.mod_lt _ (by decide))]
    have s1 := bb1s h hh
    have s2 := bb1s l hl
    omega
  have e2 : bc2 (256 * h + l) = 256 * by2 h + by2 l := by
    unfold bc2 by2
    rw [e1, Nat.shiftRight_eq_div_pow]
    generalize by1 h = a at a1 ⊢
    generalize by1 l = b at c1 ⊢
    rw [and_byte (256 * a + b), and_byte ((256 * a + b) / 2 ^ 2)]
    rw [show (256 * a + b) / 256 = a by omega, show (256 * a + b) % 256 = b by omega, show (256 * a + b) / 2 ^ 2 / 256 = a / 4 by omega, show (256 * a + b) / 2 ^ 2 % 256 = (a % 4) * 64 + b / 4 by omega, show (858993459 : Nat) / 256 = 3355443 from rfl, show (858993459 : Nat) % 256 = 51 from rfl, bb2i a a1, bb2h a a1, bb2 b c1 (a % 4) (Nat.mod_lt _ (by decide))]
    omega
  have e3 : bc3 (256 * h + l) = 256 * ((by2 h + by2 h / 16) % 16) + (by2 l + by2 l / 16) % 16 := by
    unfold bc3
    rw [e2, Nat.shiftRight_eq_div_pow]
    generalize by2 h = a at a2 a3 a4 ⊢
    generalize by2 l = b at c2 c3 c4 ⊢
    rw [and_byte]
    rw [show (256 * a + b + (256 * a + b) / 2 ^ 4) / 256 = a + a / 16 by omega, show (256 * a + b + (256 * a + b) / 2 ^ 4) % 256 = b + b / 16 + 16 * (a % 16) by omega, show (252645135 : Nat) / 256 = 986895 from rfl, show (252645135 : Nat) % 256 = 15 from rfl, bb3 _ (by omega), bb3l _ (by omega)]
    omega
  have e4 : bc4 (256 * h + l) = 256 * pcn 8 h + pcn 8 l + pcn 8 h := by
    unfold bc4
    rw [e3, a5, c5, Nat.shiftRight_eq_div_pow]
    rw [a5] at a4
    rw [c5] at c4
    omega
  unfold bc5
  rw [e4, Nat.shiftRight_eq_div_pow]
  rw [a5] at a4
  rw [c5] at c4
  have e5 : ∀ x : Nat, x &&& 63 = x % 64 := fun x => Nat.and_two_pow_sub_one_eq_mod x 6
  rw [e5]
  clear e1 e2 e3 e4
  have hz : (256 * pcn 8 h + pcn 8 l + pcn 8 h) / 2 ^ 16 = 0 := Nat.div_eq_of_lt (by omega)
  rw [hz]
  omega
theorem pc_bytes (h : Nat) {l : Nat} (hl : l < 256) : pc (256 * h + l) = pcn 8 h + pcn 8 l := by
  have e1 : ∀ j, j < 8 → (256 * h + l).testBit j = l.testBit j := fun j hj => by
    rw [show 256 * h + l = 2 ^ 8 * h + l from rfl, Nat.testBit_two_pow_mul_add h hl j, if_pos hj]
  have e2 : ∀ j, (256 * h + l).testBit (8 + j) = h.testBit j := fun j => by
    rw [show 256 * h + l = 2 ^ 8 * h + l from rfl, Nat.testBit_two_pow_mul_add h hl (8 + j), if_neg (by omega), Nat.add_sub_cancel_left]
  have f1 : pc (256 * h + l) = pcn 8 (256 * h + l) + sN 8 (fun j => ((256 * h + l).testBit (8 + j)).toNat) := by
    show sN 16 (fun i => ((256 * h + l).testBit i).toNat) = sN 8 (fun i => ((256 * h + l).testBit i).toNat) + _
    simp only [sN, Nat.reduceAdd]
    omega
  rw [f1, Nat.add_comm]
  refine congr (congrArg _ ?_) ?_
  · exact sN_congr (fun j _ => by rw [e2])
  · exact sN_congr (fun j hj => by rw [e1 j hj])
theorem bc_eq {x : Nat} (hx : x < 65536) : bc5 x &&& 63 = pc x := by
  have e : 256 * (x / 256) + x % 256 = x := by omega
  rw [← e, bc_bytes (by omega) (by omega), pc_bytes _ (by omega)]
