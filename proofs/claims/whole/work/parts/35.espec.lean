/-! Euclid's steps, and powers -/
def fbt : Nat → Nat → Nat → Nat
  | 0, a, _ => a
  | n + 1, a, b => fbt n b (a + b)
theorem fbt_add : ∀ n a b : Nat, fbt (n + 2) a b = fbt (n + 1) a b + fbt n a b
  | 0, a, b => Nat.add_comm a b
  | n + 1, a, b => fbt_add n b (a + b)
def eRun : Nat → Nat → Nat → Prop
  | 0, _, _ => True
  | n + 1, a, b => b ≠ 0 ∧ eRun n b (a % b)
theorem eRun_ge : ∀ n a b : Nat, b ≤ a → eRun (n + 1) a b → fbt (n + 1) 0 1 ≤ b ∧ fbt (n + 2) 0 1 ≤ a
  | 0, a, b, h, hr => by
    have : b ≠ 0 := hr.1
    show 1 ≤ b ∧ 0 + 1 ≤ a
    omega
  | n + 1, a, b, h, hr => by
    obtain ⟨h0, h1⟩ := hr
    have hb : 0 < b := by omega
    have hm := Nat.mod_lt a hb
    have ih := eRun_ge n b (a % b) (by omega) h1
    have e := Nat.div_add_mod a b
    have hq : 1 ≤ a / b := (Nat.one_le_div_iff hb).mpr h
    have hq2 : b * 1 ≤ b * (a / b) := Nat.mul_le_mul_left b hq
    rw [show n + 1 + 2 = (n + 1) + 2 from rfl, fbt_add (n + 1)]
    refine ⟨ih.2, ?_⟩
    have := ih.1
    have := ih.2
    rw [show n + 1 + 1 = n + 2 from rfl]
    omega
theorem fbt_99 : 2 ^ 63 ≤ fbt 99 0 1 := by decide +kernel
theorem eRun_100 {a b : Nat} (ha : a < 2 ^ 63) (hb : b < 2 ^ 63) : ¬ eRun 100 a b := by
  intro h
  rcases Nat.lt_or_ge a b with q | q
  · have h1 := h.2
    rw [Nat.mod_eq_of_lt q] at h1
    have h2 : fbt 99 0 1 ≤ a := (eRun_ge 98 b a (by omega) h1).1
    have := fbt_99
    omega
  · have h2 : fbt 100 0 1 ≤ b := (eRun_ge 99 a b q h).1
    have := fbt_99
    have h3 : fbt 100 0 1 = fbt 99 0 1 + fbt 98 0 1 := fbt_add 98 0 1
    omega
/-! rows that come round -/
def rsF (sb : Nat → Nat → Nat) (wF : Nat → Nat) (m S : Nat) : Nat := rr_fold (fun j S => sb S (wF j)) m S
theorem rsF_succ (sb : Nat → Nat → Nat) (wF : Nat → Nat) (m S : Nat) : rsF sb wF (m + 1) S = sb (rsF sb wF m S) (wF m) := rfl
def lsGo (sb : Nat → Nat → Nat) (wF : Nat → Nat) (nn : Nat) : Nat → Nat → Nat → Nat
  | 0, _, x => x
  | f + 1, b, x => if x = b ∨ x = 0 then x else lsGo sb wF nn f x (rsF sb wF nn x)
theorem lsGo_succ (sb : Nat → Nat → Nat) (wF : Nat → Nat) (nn f b x : Nat) : lsGo sb wF nn (f + 1) b x = if x = b ∨ x = 0 then x else lsGo sb wF nn f x (rsF sb wF nn x) := rfl
