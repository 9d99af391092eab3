/-! Euclid's steps, and powers -/
def fbt : Nat → Nat → Nat → Nat
  | 0, a, _ => a
  | n + 1, a, b => fbt n b (a + b)
theorem fbt_add : ∀ n a b : Nat, fbt (n + 2) a b = fbt (n + 1) a b + fbt n a b
  | 0, a, b => Nat.add_comm a b
  | n + 1, a, b => fbt_add n b (a + b)
def eRun : Nat → Nat → Nat → Prop
  | 0, _, _ => True
  | n + 1, a, b => b ≠ 0 ∧ eRun n b (a % b)
theorem eRun_ge : ∀ n a b : Nat, b ≤ a → eRun (n + 1) a b → fbt (n + 1) 0 1 ≤ b ∧ fbt (n + 2) 0 1 ≤ a
  | 0, a, b, h, hr => by
    have : b ≠ 0 := hr.1
    show 1 ≤ b ∧ 0 + 1 ≤ a
    omega
  | n + 1, a, b, h, hr => by
    obtain ⟨h0, h1⟩ := hr
    have hb : 0 < b := by omega
    have hm := Nat.mod_lt a hb
    have ih := eRun_ge n b (a % b) (by omega) h1
    have e := Nat.div_add_mod a b
    have hq : 1 ≤ a / b := (Nat.one_le_div_iff hb).mpr h
    have hq2 : b * 1 ≤ b * (a / b) := Nat.mul_le_mul_left b hq
    rw [show n + 1 + 2 = (n + 1) + 2 from rfl, fbt_add (n + 1)]
    refine ⟨ih.2, ?_⟩
    have := ih.1
    have := ih.2
    rw [show n + 1 + 1 = n + 2 from rfl]
    omega
theorem fbt_99 : 2 ^ 63 ≤ fbt 99 0 1 := by decide +kernel
theorem eRun_100 {a b : Nat} (ha : a < 2 ^ 63) (hb : b < 2 ^ 63) : ¬ eRun 100 a b := by
  intro h
  rcases Nat.lt_or_ge a b with q | q
  · have h1 := h.2
    rw [Nat.mod_eq_of_lt q] at h1
    have h2 : fbt 99 0 1 ≤ a := (eRun_ge 98 b a (by omega) h1).1
    have := fbt_99
    omega
  · have h2 : fbt 100 0 1 ≤ b := (eRun_ge 99 a b q h).1
    have := fbt_99
    have h3 : fbt 100 0 1 = fbt 99 0 1 + fbt 98 0 1 := fbt_add 98 0 1
    omega
/-! rows that come round -/
def rsF (sb : Nat → Nat → Nat) (wF : Nat → Nat) (m S : Nat) : Nat := rr_fold (fun j S => sb S (wF j)) m S
theorem rsF_succ (sb : Nat → Nat → Nat) (wF : Nat → Nat) (m S : Nat) : rsF sb wF (m + 1) S = sb (rsF sb wF m S) (wF m) := rfl
def lsGo (sb : Nat → Nat → Nat) (wF : Nat → Nat) (nn : Nat) : Nat → Nat → Nat → Nat
  | 0, _, x => x
  | f + 1, b, x => if x = b ∨ x = 0 then x else lsGo sb wF nn f x (rsF sb wF nn x)
theorem lsGo_succ (sb : Nat → Nat → Nat) (wF : Nat → Nat) (nn f b x : Nat) : lsGo sb wF nn (f + 1) b x = if x = b ∨ x = 0 then x else lsGo sb wF nn f x (rsF sb wF nn x) := rfl
/-- the letters of the row of a number; the first runs on -/
def dgt (k nn r j : Nat) : Nat := if j = 0 then r / k ^ (nn - 1) else r / k ^ (nn - 1 - j) % k
theorem dgt_pos {k nn r j : Nat} (h : 0 < j) : dgt k nn r j = r / k ^ (nn - 1 - j) % k := by unfold dgt; rw [if_neg (by omega)]
theorem nr_div {M r : Nat} (hM : 0 < M) (h : r % M = M - 1) : r + 1 = M * (r / M + 1) := by
  have e := Nat.div_add_mod r M
  rw [Nat.mul_add, Nat.mul_one]
  omega
theorem nr_dig {k nn r j : Nat} (hk : 1 < k) (hj : j < nn) (hm : r % k ^ (nn - 1 - j) = k ^ (nn - 1 - j) - 1) (hd : 0 < j → r / k ^ (nn - 1 - j) % k < k - 1) : ∀ i, i < nn → dgt k nn (r + 1) i = if i < j then dgt k nn r i else if i = j then dgt k nn r j + 1 else 0 := by
  intro i hi
  have hM : 0 < k ^ (nn - 1 - j) := Nat.pow_pos (by omega)
  have e1 := nr_div hM hm
  have e2 : (r + 1) / k ^ (nn - 1 - j) = r / k ^ (nn - 1 - j) + 1 := by rw [e1, Nat.mul_div_cancel_left _ hM]
  rcases Nat.lt_trichotomy i j with q | q | q
  · rw [if_pos q]
    have hd2 := hd (by omega)
    have e3 : ∀ x : Nat, x / k ^ (nn - 1 - i) = x / k ^ (nn - 1 - j) / k / k ^ (j - i - 1) := fun x => by
      rw [Nat.div_div_eq_div_mul, Nat.div_div_eq_div_mul, ← Nat.pow_succ', ← Nat.pow_add, show nn - 1 - j + (j - i - 1 + 1) = nn - 1 - i by omega]
    have e4 : (r + 1) / k ^ (nn - 1 - i) = r / k ^ (nn - 1 - i) := by
      rw [e3, e3, e2]
      have e5 : (r / k ^ (nn - 1 - j) + 1) / k = r / k ^ (nn - 1 - j) / k := by
        have e6 := Nat.div_add_mod (r / k ^ (nn - 1 - j)) k
        generalize r / k ^ (nn - 1 - j) = X at *
        rw [show X + 1 = k * (X / k) + (X % k + 1) by rw [← Nat.add_assoc, e6], Nat.mul_add_div (by omega), Nat.div_eq_of_lt (a := X % k + 1) (b := k) (by omega), Nat.add_zero]
      rw [e5]
    unfold dgt
    split
    · rename_i h0
      rw [h0] at e4
      rw [Nat.sub_zero] at e4
      exact e4
    · rw [e4]
  · rw [if_neg (by omega), if_pos q, q]
    unfold dgt
    split
    · rename_i h0
      rw [h0, Nat.sub_zero] at e2
      exact e2
    · rename_i h0
      have hd2 := hd (by omega)
      rw [e2, Nat.add_mod, Nat.mod_eq_of_lt (a := 1) hk, Nat.mod_eq_of_lt (by omega)]
  · rw [if_neg (by omega), if_neg (by omega), dgt_pos (by omega), e1]
    have e3 : k ^ (nn - 1 - j) = k ^ (nn - 1 - i) * (k * k ^ (i - j - 1)) := by
      rw [← Nat.pow_succ', ← Nat.pow_add, show nn - 1 - i + (i - j - 1 + 1) = nn - 1 - j by omega]
    have e4 : ∀ y : Nat, k ^ (nn - 1 - j) * y = k ^ (nn - 1 - i) * (k * (k ^ (i - j - 1) * y)) := fun y => by rw [e3, Nat.mul_assoc, Nat.mul_assoc]
    rw [e4, Nat.mul_div_cancel_left _ (Nat.pow_pos (by omega)), Nat.mul_mod_right]
theorem nr_back {k nn r j : Nat} (hk : 1 < k) (h0 : 0 < j) (hj : j < nn) (hm : r % k ^ (nn - 1 - j) = k ^ (nn - 1 - j) - 1) (hd : ¬ r / k ^ (nn - 1 - j) % k < k - 1) : r % k ^ (nn - 1 - (j - 1)) = k ^ (nn - 1 - (j - 1)) - 1 := by
  have hM : 0 < k ^ (nn - 1 - j) := Nat.pow_pos (by omega)
  have h1 := Nat.mod_lt (r / k ^ (nn - 1 - j)) (show 0 < k by omega)
  have e0 : r / k ^ (nn - 1 - j) % k = k - 1 := by omega
  rw [show nn - 1 - (j - 1) = nn - 1 - j + 1 by omega, Nat.pow_succ, Nat.mod_mul, hm, e0, Nat.mul_sub, Nat.mul_one]
  have : k ^ (nn - 1 - j) * 1 ≤ k ^ (nn - 1 - j) * k := Nat.mul_le_mul_left _ (by omega)
  omega
theorem rsF_congr {sb : Nat → Nat → Nat} {f g : Nat → Nat} {S : Nat} : ∀ {m : Nat}, (∀ j, j < m → f j = g j) → rsF sb f m S = rsF sb g m S
  | 0, _ => rfl
  | m + 1, h => by rw [rsF_succ, rsF_succ, rsF_congr (fun j hj => h j (by omega)), h m (by omega)]
theorem lsGo_congr {sb : Nat → Nat → Nat} {f g : Nat → Nat} {nn : Nat} (h : ∀ j, j < nn → f j = g j) : ∀ t b x, lsGo sb f nn t b x = lsGo sb g nn t b x
  | 0, _, _ => rfl
  | t + 1, b, x => by rw [lsGo_succ, lsGo_succ, rsF_congr h, lsGo_congr h t]
/-- the row of a number may go on for ever -/
def lgR (sb : Nat → Nat → Nat) (k nn al r : Nat) : Bool := decide (lsGo sb (dgt k nn r) nn 16 al (rsF sb (dgt k nn r) nn al) ≠ 0)
def crN (g : Nat → Bool) (r : Nat) : Nat := rr_fold (fun i s => if g i = true then s + 1 else s) r 0
theorem crN_succ (g : Nat → Bool) (r : Nat) : crN g (r + 1) = if g r = true then crN g r + 1 else crN g r := rfl
theorem crN_le (g : Nat → Bool) : ∀ r, crN g r ≤ r
  | 0 => Nat.le_refl _
  | r + 1 => by
    have := crN_le g r
    rw [crN_succ]
    split <;> omega
theorem dgt_lt {k nn r j : Nat} (hk : 0 < k) (hn : 0 < nn) (hr : r < k ^ nn) : dgt k nn r j < k := by
  unfold dgt
  split
  · refine Nat.div_lt_of_lt_mul ?_
    rw [← Nat.pow_succ, show (nn - 1).succ = nn by omega]
    exact hr
  · exact Nat.mod_lt _ hk
theorem dgt_0 (k nn j : Nat) : dgt k nn 0 j = 0 := by
  unfold dgt
  split
  · exact Nat.zero_div _
  · rw [Nat.zero_div, Nat.zero_mod]
