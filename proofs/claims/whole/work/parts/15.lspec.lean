/-! the ways by forbidden words -/
/-- g is put into f, the first n places -/
def putZ {α : Type} (f g : Nat → α) (n : Nat) : Nat → α := fun k => if k < n then g k else f k
theorem putZ_0 {α : Type} (f g : Nat → α) : putZ f g 0 = f := by
  funext k
  unfold putZ
  rw [if_neg (by omega)]
theorem putZ_step {α : Type} (f g : Nat → α) (n : Nat) : va_up (putZ f g n) n (g n) = putZ f g (n + 1) := by
  funext k
  unfold va_up putZ
  by_cases h : k = n
  · rw [if_pos h, if_pos (by omega), h]
  · rw [if_neg h]
    by_cases h2 : k < n
    · rw [if_pos h2, if_pos (by omega)]
    · rw [if_neg h2, if_neg (by omega)]
theorem putZ_in {α : Type} {f g : Nat → α} {n k : Nat} (h : k < n) : putZ f g n k = g k := if_pos h
theorem putZ_out {α : Type} {f g : Nat → α} {n k : Nat} (h : n ≤ k) : putZ f g n k = f k := if_neg (by omega)
def lyB (nf : Nat) (FL FW : Nat → Nat) (k len x : Nat) : Bool := stR nf FL FW (wrR x k len (fun _ => 0)) len
def lyE (k n : Nat) (bd : Nat → Bool) (x j : Nat) : Nat := if j % 4 < k ∧ j / 4 * k + j % 4 < x ∧ bd (j / 4 * k + j % 4) = false then 1 <<< ((j / 4 * k + j % 4) % n) else 0
def lyW (bd : Nat → Bool) (x : Nat) : Nat := sN x (fun i => (!bd i).toNat)
theorem stR_congr {nf : Nat} {FL FW R R' : Nat → Nat} {len : Nat} (h : ∀ j, j < len → R j = R' j) : stR nf FL FW R len = stR nf FL FW R' len := by
  unfold stR
  refine anyB_congr (fun i _ => anyB_congr (fun fr hfr => ?_))
  unfold stA
  refine allB_congr (fun j hj => ?_)
  rw [h (fr + j) (by omega)]
theorem wrR_lt {x b len : Nat} {R : Nat → Nat} (hb : 0 < b) (hb4 : b < 5) (hR : ∀ j, j < 5 → R j < 65536) : ∀ j, j < 5 → wrR x b len R j < 65536 := by
  intro j hj
  unfold wrR
  split
  · have := Nat.mod_lt (x / b ^ (len - 1 - j)) hb
    omega
  · exact hR j hj
theorem lyB_eq (nf : Nat) (FL FW R : Nat → Nat) (k len x : Nat) : stR nf FL FW (wrR x k len R) len = lyB nf FL FW k len x := stR_congr (fun j hj => by unfold wrR; rw [if_pos hj, if_pos hj])
theorem lyE_0 (k n : Nat) (bd : Nat → Bool) : lyE k n bd 0 = fun _ => 0 := by
  funext j
  unfold lyE
  rw [if_neg (fun h => Nat.not_lt_zero _ h.2.1)]
theorem ly_ix {k x : Nat} (hk : 0 < k) (hk4 : k ≤ 4) : (x / k * 4 + x % k) % 4 = x % k ∧ (x / k * 4 + x % k) / 4 = x / k ∧ x / k * k + x % k = x := by
  have h1 := Nat.mod_lt x hk
  have h2 := Nat.div_add_mod' x k
  omega
theorem lyE_here {k n : Nat} {bd : Nat → Bool} {x : Nat} (hk : 0 < k) (hk4 : k ≤ 4) : lyE k n bd x (x / k * 4 + x % k) = 0 := by
  obtain ⟨h1, h2, h3⟩ := ly_ix (x := x) hk hk4
  unfold lyE
  rw [h1, h2, h3, if_neg (fun h => Nat.lt_irrefl _ h.2.1)]
theorem lyE_no {k n : Nat} {bd : Nat → Bool} {x : Nat} (hb : bd x = true) : lyE k n bd (x + 1) = lyE k n bd x := by
  funext j
  unfold lyE
  by_cases h : j % 4 < k ∧ j / 4 * k + j % 4 < x ∧ bd (j / 4 * k + j % 4) = false
  · rw [if_pos h, if_pos ⟨h.1, by omega, h.2.2⟩]
  · rw [if_neg h, if_neg]
    rintro ⟨h1, h2, h3⟩
    refine h ⟨h1, ?_, h3⟩
    rcases Nat.lt_or_ge (j / 4 * k + j % 4) x with q | q
    · exact q
    · have e : j / 4 * k + j % 4 = x := by omega
      rw [e, hb] at h3; cases h3
theorem lyE_yes {k n : Nat} {bd : Nat → Bool} {x : Nat} (hk : 0 < k) (hk4 : k ≤ 4) (hb : bd x = false) : va_up (lyE k n bd x) (x / k * 4 + x % k) (lyE k n bd x (x / k * 4 + x % k) ^^^ 1 <<< (x % n)) = lyE k n bd (x + 1) := by
  obtain ⟨i1, i2, i3⟩ := ly_ix (x := x) hk hk4
  have hm := Nat.mod_lt x hk
  funext j
  rw [lyE_here hk hk4, Nat.zero_xor]
  unfold va_up
  by_cases h : j = x / k * 4 + x % k
  · rw [if_pos h]
    unfold lyE
    rw [h, i1, i2, i3, if_pos ⟨hm, Nat.lt_succ_self x, hb⟩]
  · rw [if_neg h]
    unfold lyE
    by_cases h2 : j % 4 < k ∧ j / 4 * k + j % 4 < x ∧ bd (j / 4 * k + j % 4) = false
    · rw [if_pos h2, if_pos ⟨h2.1, by omega, h2.2.2⟩]
    · rw [if_neg h2, if_neg]
      rintro ⟨h3, h4, h5⟩
      refine h2 ⟨h3, ?_, h5⟩
      rcases Nat.lt_or_ge (j / 4 * k + j % 4) x with q | q
      · exact q
      · exfalso
        apply h
        have e : j / 4 * k + j % 4 = x := by omega
        have e1 : x / k = j / 4 := by rw [← e, Nat.mul_comm, Nat.mul_add_div hk, Nat.div_eq_of_lt h3, Nat.add_zero]
        have e2 : x % k = j % 4 := by rw [← e, Nat.mul_comm, Nat.mul_add_mod, Nat.mod_eq_of_lt h3]
        rw [e1, e2]
        omega
theorem lyE_lt (k : Nat) {n : Nat} (bd : Nat → Bool) (x j : Nat) (hn : 0 < n) : lyE k n bd x j < 2 ^ n := by
  unfold lyE
  split
  · rw [Nat.one_shiftLeft]
    exact Nat.pow_lt_pow_right (by decide) (Nat.mod_lt _ hn)
  · exact Nat.two_pow_pos n
def dgB (nf : Nat) (FL FW : Nat → Nat) (h : Int64) : Int64 := rr_fold (fun i h => rr_fold (fun j h => dg h (nI (FW (i * 5 + j)))) (FL i) (dg h (nI (FL i)))) nf h
def dgP (wd : Nat) (TD : Nat → Nat) (h : Int64) : Int64 := rr_fold (fun r h => dg h (nI (TD r))) (2 ^ (2 * wd)) h
theorem dg_def (h : Int64) (v : Int32) : lN 31 * h + v.toInt64 = dg h v := rfl
theorem dg_fold (f : Nat → Int32) (n : Nat) (x : Int64) : lN 31 * rr_fold (fun j h => dg h (f j)) n x + (f n).toInt64 = rr_fold (fun j h => dg h (f j)) (n + 1) x := rfl
theorem dgH_def (h : Int64) (k n w a lw : Nat) : lN 31 * (lN 31 * (lN 31 * (lN 31 * (lN 31 * h + (nI k).toInt64) + (nI n).toInt64) + (nI w).toInt64) + (nI a).toInt64) + (nI lw).toInt64 = dgH h k n w a lw := rfl
theorem dgB_succ (i : Nat) (FL FW : Nat → Nat) (h : Int64) : dgB (i + 1) FL FW h = rr_fold (fun j h => dg h (nI (FW (i * 5 + j)))) (FL i) (dg (dgB i FL FW h) (nI (FL i))) := rfl
theorem dgE_succ (k q : Nat) (E : Nat → Nat) (h : Int64) : dgE k (q + 1) E h = rr_fold (fun y h => dg h (nI (E (q * 4 + y)))) k (dgE k q E h) := rfl
theorem dgE_0 (k : Nat) (E : Nat → Nat) (h : Int64) : dgE k 0 E h = h := rfl
theorem rr_fold_0 {α : Type} (f : Nat → α → α) (x : α) : rr_fold f 0 x = x := rfl
