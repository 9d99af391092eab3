/-! counting words by the sets they lead to -/
def WW3 (K : rr_K) (wo mo bh my lg rw ld room : Nat) (bF : Nat → Int32) (yF gF : Nat → Int64) (wF dF : Nat → Nat) : va_W := [(wo, .inr (8, [.ref mo, .ref bh, .ref my, .ref lg, .ref rw, .ref ld])), (bh, .inl (K.2.1, 4 * room, .inl bF)), (my, .inl (K.2.2.1, room, .inr (.inl yF))), (lg, .inl (K.2.2.1, room, .inr (.inl gF))), (rw, .inl (K.2.1, 7, .inl (fun j => nI (wF j)))), (ld, .inl (K.2.1, 8, .inl (fun j => nI (dF j))))]
def rmN (room cap : Nat) : Nat := if room < cap then cap else room
theorem pow_dbl {a b : Nat} (ha : ∃ e, a = 2 ^ e) (hb : ∃ e, b = 2 ^ e) (h : a < b) : 2 * a ≤ b := by
  obtain ⟨e, rfl⟩ := ha
  obtain ⟨f, rfl⟩ := hb
  rcases Nat.lt_or_ge e f with q | q
  · have : 2 ^ (e + 1) ≤ 2 ^ f := Nat.pow_le_pow_right (by decide) q
    rw [Nat.pow_succ] at this
    omega
  · have : 2 ^ f ≤ 2 ^ e := Nat.pow_le_pow_right (by decide) q
    omega
theorem rmN_pow {a b : Nat} (ha : ∃ e, a = 2 ^ e) (hb : ∃ e, b = 2 ^ e) : ∃ e, rmN a b = 2 ^ e := by
  unfold rmN
  split
  · exact hb
  · exact ha
theorem rmN_le (a b : Nat) : a ≤ rmN a b ∧ b ≤ rmN a b := by unfold rmN; split <;> omega
theorem nodup_le : ∀ (n : Nat) (x : List Nat), x.Nodup → (∀ y ∈ x, y < n) → x.length ≤ n
  | 0, [], _, _ => Nat.le_refl _
  | 0, a :: _, _, h => absurd (h a (List.mem_cons_self)) (Nat.not_lt_zero _)
  | n + 1, x, hd, h => by
    by_cases hm : n ∈ x
    · have h1 := nodup_le n (x.erase n) (hd.erase n) (fun y hy => by
        have h2 := (hd.mem_erase_iff).mp hy
        have h3 := h y h2.2
        have := h2.1
        omega)
      rw [List.length_erase_of_mem hm] at h1
      omega
    · have h1 := nodup_le n x hd (fun y hy => by
        have h3 := h y hy
        have : y ≠ n := fun e => hm (e ▸ hy)
        omega)
      omega
/-- the sum of a row of long numbers, as the machine adds them -/
def sL (n : Nat) (f : Nat → Int64) : Int64 := rr_fold (fun i s => s + f i) n 0
theorem sL_succ (n : Nat) (f : Nat → Int64) : sL (n + 1) f = sL n f + f n := rfl
theorem sL_congr {f g : Nat → Int64} : ∀ {n : Nat}, (∀ i, i < n → f i = g i) → sL n f = sL n g
  | 0, _ => rfl
  | n + 1, h => by rw [sL_succ, sL_succ, sL_congr (fun i hi => h i (by omega)), h n (by omega)]
theorem sL_zero : ∀ n : Nat, sL n (fun _ => 0) = 0
  | 0 => rfl
  | n + 1 => by rw [sL_succ, sL_zero n]; rfl
theorem sL_up {g W : Nat → Int64} {t : Nat} {x : Int64} : ∀ {n : Nat}, t < n → sL n (fun i => va_up g t (g t + x) i * W i) = sL n (fun i => g i * W i) + x * W t
  | 0, h => absurd h (Nat.not_lt_zero _)
  | n + 1, h => by
    rw [sL_succ, sL_succ]
    rcases Nat.lt_or_ge t n with q | q
    · rw [sL_up q]
      have e1 : va_up g t (g t + x) n = g n := by unfold va_up; rw [if_neg (by omega)]
      rw [e1, Int64.add_assoc, Int64.add_comm (x * W t), ← Int64.add_assoc]
    · have e0 : t = n := by omega
      have e1 : va_up g t (g t + x) n = g t + x := by unfold va_up; rw [if_pos e0.symm]
      have e2 : sL n (fun i => va_up g t (g t + x) i * W i) = sL n (fun i => g i * W i) := sL_congr (fun i hi => by unfold va_up; rw [if_neg (by omega)])
      rw [e1, e2, e0, Int64.add_mul, Int64.add_assoc]
