/-! the model's numbers: sums, comparisons, rounds -/
theorem allB_s1 {f : Nat → Bool} {n : Nat} (h : allB n f = false) : allB (n + 1) f = false := by
  show (allB n f && f n) = false
  rw [h]; rfl
theorem allB_s2 {f : Nat → Bool} {n : Nat} (h : f n = false) : allB (n + 1) f = false := by
  show (allB n f && f n) = false
  rw [h, Bool.and_false]
theorem allB_s3 {f : Nat → Bool} {n : Nat} (h1 : allB n f = true) (h2 : f n = true) : allB (n + 1) f = true := by
  show (allB n f && f n) = true
  rw [h1, h2]; rfl
theorem anyB_s1 {a : Bool} {g : Nat → Bool} {n : Nat} (h : (a || anyB n g) = true) : (a || anyB (n + 1) g) = true := by
  show (a || (anyB n g || g n)) = true
  rw [← Bool.or_assoc, h]; rfl
theorem anyB_s2 {a : Bool} {g : Nat → Bool} {n : Nat} (h : g n = true) : (a || anyB (n + 1) g) = true := by
  show (a || (anyB n g || g n)) = true
  rw [h, Bool.or_true, Bool.or_true]
theorem anyB_s3 {a : Bool} {g : Nat → Bool} {n : Nat} (h1 : (a || anyB n g) = false) (h2 : g n = false) : (a || anyB (n + 1) g) = false := by
  show (a || (anyB n g || g n)) = false
  rw [← Bool.or_assoc, h1, h2]; rfl
theorem isl_end {x y z t : Nat} (hy : 0 < y) (ht : 0 < t) (hq : x / y = z / t) (h0 : x % y = 0 ∨ z % t = 0) : decide (x * t < z * y) = decide (x % y = 0 ∧ ¬ z % t = 0) ∧ decide (z * y < x * t) = decide (z % t = 0 ∧ ¬ x % y = 0) := by
  have k1 := (isl_eq hq).1
  have k2 := (isl_eq hq.symm).1
  have key : ∀ {r u a b : Nat}, 0 < a → 0 < b → (r = 0 ∨ u = 0) → ((r * a < u * b) ↔ (r = 0 ∧ ¬ u = 0)) := by
    intro r u a b ha hb h
    constructor
    · intro q
      rcases Nat.eq_zero_or_pos u with hu | hu
      · rw [hu, Nat.zero_mul] at q; omega
      · exact ⟨by omega, by omega⟩
    · rintro ⟨h1, h2⟩
      rw [h1, Nat.zero_mul]
      exact Nat.mul_pos (by omega) hb
  exact ⟨decide_eq_decide.mpr (k1.trans (key ht hy h0)), decide_eq_decide.mpr (k2.trans (key hy ht h0.symm))⟩
theorem isl_on {x y z t : Nat} (hq : x / y = z / t) : decide (x * t < z * y) = decide (t * (x % y) < y * (z % t)) ∧ decide (z * y < x * t) = decide (y * (z % t) < t * (x % y)) := by
  have k1 := (isl_eq hq).1
  have k2 := (isl_eq hq.symm).1
  refine ⟨decide_eq_decide.mpr (k1.trans ?_), decide_eq_decide.mpr (k2.trans ?_)⟩
  · rw [Nat.mul_comm (x % y) t, Nat.mul_comm (z % t) y]
  · rw [Nat.mul_comm (x % y) t, Nat.mul_comm (z % t) y]
theorem mod_sub (x y : Nat) : x - x / y * y = x % y := by
  have h := Nat.div_add_mod x y
  rw [Nat.mul_comm] at h
  omega
/-- one step of sums over live ways -/
def suF (k al : Nat) (E : Nat → Nat) (v : Nat → Nat) (q r : Nat) : Nat := sN r (fun r => aMy al E k q r * v r)
theorem suF_yes {k al : Nat} {E v : Nat → Nat} {q r : Nat} (h1 : al.testBit q = true) (h2 : al.testBit r = true) : suF k al E v q (r + 1) = suF k al E v q r + wB k E q r * v r := by
  unfold suF
  rw [sN_succ, aMy_yes h1 h2]
theorem suF_no {k al : Nat} {E v : Nat → Nat} {q r : Nat} (h2 : al.testBit r = false) : suF k al E v q (r + 1) = suF k al E v q r + 0 := by
  unfold suF
  rw [sN_succ, aMy_no2 h2, Nat.zero_mul]
theorem suF_dead {k al : Nat} {E v : Nat → Nat} {q : Nat} (h1 : al.testBit q = false) : ∀ r, suF k al E v q r = 0
  | 0 => rfl
  | r + 1 => by
    have ih := suF_dead (k := k) (E := E) (v := v) h1 r
    unfold suF at ih ⊢
    rw [sN_succ, ih, aMy_no1 h1, Nat.zero_mul]
/-- rows of live ways to a state, step by step -/
def xV (n : Nat) (M : Nat → Nat → Nat) (q : Nat) : Nat → Nat → Nat
  | 0, r => if r = q then 1 else 0
  | t + 1, r => sN n (fun o => M r o * xV n M q t o)
theorem sN_add (f g : Nat → Nat) : ∀ n, sN n (fun i => f i + g i) = sN n f + sN n g
  | 0 => rfl
  | n + 1 => by rw [sN_succ, sN_succ, sN_succ, sN_add f g n]; omega
theorem sN_mulr (f : Nat → Nat) (c : Nat) : ∀ n, sN n (fun i => f i * c) = sN n f * c
  | 0 => (Nat.zero_mul c).symm
  | n + 1 => by rw [sN_succ, sN_succ, sN_mulr f c n, Nat.add_mul]
theorem sN_mull (f : Nat → Nat) (c : Nat) : ∀ n, sN n (fun i => c * f i) = c * sN n f
  | 0 => rfl
  | n + 1 => by rw [sN_succ, sN_succ, sN_mull f c n, Nat.mul_add]
theorem sN_swap (f : Nat → Nat → Nat) (m : Nat) : ∀ n, sN n (fun i => sN m (fun j => f i j)) = sN m (fun j => sN n (fun i => f i j))
  | 0 => (sN_zero m).symm
  | n + 1 => by
    rw [sN_succ, sN_swap f m n, ← sN_add]
    exact sN_congr (fun j _ => rfl)
theorem sN_one {n q : Nat} (hq : q < n) (f : Nat → Nat) : sN n (fun o => f o * (if o = q then 1 else 0)) = f q := by
  induction n with
  | zero => exact absurd hq (Nat.not_lt_zero _)
  | succ n ih =>
    rw [sN_succ]
    by_cases h : n = q
    · subst h
      rw [if_pos rfl, sN_congr (g := fun _ => 0) (fun i hi => by rw [if_neg (by omega), Nat.mul_zero]), sN_zero]
      omega
    · rw [ih (by omega), if_neg h, Nat.mul_zero, Nat.add_zero]
/-- the row may also be begun from its other end -/
theorem pwS_left (n : Nat) (M : Nat → Nat → Nat) : ∀ t i j, sN n (fun o => M i o * pwS n M t o j) = pwS n M (t + 1) i j
  | 0, _, _ => rfl
  | t + 1, i, j => by
    rw [pwS_succ n M (t + 1) i j]
    have e : ∀ o, o < n → M i o * pwS n M (t + 1) o j = sN n (fun u => M i o * pwS n M t o u * M u j) := fun o _ => by
      rw [pwS_succ, ← sN_mull]
      exact sN_congr (fun u _ => (Nat.mul_assoc _ _ _).symm)
    rw [sN_congr e, sN_swap]
    exact sN_congr (fun u _ => by rw [sN_mulr (fun o => M i o * pwS n M t o u), pwS_left n M t i u])
theorem xV_pw {n : Nat} {M : Nat → Nat → Nat} {q : Nat} (hq : q < n) : ∀ t r, xV n M q (t + 1) r = pwS n M t r q
  | 0, r => sN_one hq (fun o => M r o)
  | t + 1, r => by
    show sN n (fun o => M r o * xV n M q (t + 1) o) = _
    rw [sN_congr (fun o _ => by rw [xV_pw hq t o]), pwS_left]
theorem pwS_dead {n : Nat} {M : Nat → Nat → Nat} {q : Nat} (h : ∀ j, M q j = 0) : ∀ t j, pwS n M t q j = 0
  | 0, j => h j
  | t + 1, j => by
    rw [pwS_succ, sN_congr (g := fun _ => 0) (fun o _ => by rw [pwS_dead h t o, Nat.zero_mul]), sN_zero]
def looS (k n : Nat) (E : Nat → Nat) (nn : Nat) : Nat := sN n (fun q => pwS n (aMy (liveS k n E) E k) (nn - 1) q q)
def looA (ns : Nat) (kF nF yF : Nat → Nat) (x y : Int32) : Int64 := if (isS ns x && rrin y (nI 1) (nI 10)) = true then lN (looS (kF (cN x)) (nF (cN x)) (Es yF (cN x)) (cN y)) else -2
theorem loo_step {k al n t q x : Nat} {E : Nat → Nat} (hq : q < n) (ht : 1 ≤ t) (hx : x = xV n (aMy al E k) q t q) : (if al.testBit q = true then x else 0) = pwS n (aMy al E k) (t - 1) q q := by
  obtain ⟨t, rfl⟩ : ∃ u, t = u + 1 := ⟨t - 1, by omega⟩
  rw [hx, xV_pw hq, Nat.add_sub_cancel]
  by_cases h : al.testBit q = true
  · rw [if_pos h]
  · rw [if_neg h, pwS_dead (fun j => aMy_no1 (Bool.eq_false_iff.mpr h))]
/-- growth: what stands at live states -/
theorem suF_vG {k al n t q : Nat} {E v : Nat → Nat} (hv : ∀ r, r < n → al.testBit r = true → v r = vG n al (aMy al E k) t r) : suF k al E v q n = vG n al (aMy al E k) (t + 1) q := by
  unfold suF
  rw [vG_succ]
  refine sN_congr (fun r hr => ?_)
  rcases Bool.eq_false_or_eq_true (al.testBit r) with h | h
  · rw [hv r hr h]
  · rw [aMy_no2 h, Nat.zero_mul, Nat.zero_mul]
theorem aMy_pos {k al : Nat} {E : Nat → Nat} {q r y : Nat} (hy : y < k) (h : (lvE al E q y).testBit r = true) : 0 < aMy al E k q r := by
  unfold aMy
  have := sN_le (f := fun _ => 0) (b := 0) (n := k) (fun _ _ => Nat.le_refl _)
  have h2 : ∀ k, y < k → 0 < sN k (fun z => ((lvE al E q z).testBit r).toNat) := by
    intro k
    induction k with
    | zero => intro h; exact absurd h (Nat.not_lt_zero _)
    | succ k ih =>
      intro hk
      rw [sN_succ]
      rcases Nat.lt_or_ge y k with w | w
      · have := ih w; omega
      · rw [show k = y by omega, h]
        show 0 < _ + 1
        omega
  exact h2 k hy
theorem sN_ge {f : Nat → Nat} {n q : Nat} (hq : q < n) : f q ≤ sN n f := by
  induction n with
  | zero => exact absurd hq (Nat.not_lt_zero _)
  | succ n ih =>
    rw [sN_succ]
    rcases Nat.lt_or_ge q n with w | w
    · have := ih w; omega
    · rw [show n = q by omega]; omega
/-- from what is live a way leads on to what is live -/
theorem live_on {k n : Nat} {E : Nat → Nat} {q : Nat} (hq : (liveS k n E).testBit q = true) : ∃ r, r < n ∧ (liveS k n E).testBit r = true ∧ 0 < aMy (liveS k n E) E k q r := by
  have hr := liveS_rest k n E
  have h1 : (lst k n E (liveS k n E)).testBit q = true := by rw [hr]; exact hq
  unfold lst at h1
  rw [Nat.testBit_and, Bool.and_eq_true] at h1
  obtain ⟨i, hi, h2⟩ := (orN_testBit _ q n).mp h1.1
  unfold ldg at h2
  by_cases h0 : lO k (liveS k n E) E i = 0
  · rw [if_pos h0, Nat.zero_testBit] at h2; cases h2
  · rw [if_neg h0, Nat.one_shiftLeft, Nat.testBit_two_pow] at h2
    obtain rfl : i = q := of_decide_eq_true h2
    obtain ⟨r, hr2⟩ := Nat.exists_testBit_of_ne_zero h0
    have hl := sub_bit.mp (lO_sub k (liveS k n E) E i) r hr2
    unfold lO at hr2
    obtain ⟨y, hy, h3⟩ := (orN_testBit _ r k).mp hr2
    exact ⟨r, bit_lt (liveS_lt k n E) hl, hl, aMy_pos hy h3⟩
theorem vG_pos {k n : Nat} {E : Nat → Nat} : ∀ t q, (liveS k n E).testBit q = true → 0 < vG n (liveS k n E) (aMy (liveS k n E) E k) t q
  | 0, q, h => by
    show 0 < if (liveS k n E).testBit q = true then 1 else 0
    rw [if_pos h]; decide
  | t + 1, q, h => by
    obtain ⟨r, hr, hl, hp⟩ := live_on h
    have ih := vG_pos (k := k) (n := n) (E := E) t r hl
    rw [vG_succ]
    exact Nat.lt_of_lt_of_le (Nat.mul_pos hp ih) (sN_ge (f := fun r => aMy (liveS k n E) E k q r * vG n (liveS k n E) (aMy (liveS k n E) E k) t r) hr)
theorem sd_less {a b c d : Nat} (ha : a < 2 ^ 63) (hb : b < 2 ^ 63) (h1 : 0 < b) (h2 : 0 < d) : sd a b c d = if a * d = c * b then nI 0 else if a * d < c * b then -1 else nI 1 := sdF_eq 100 false a b c d (eRun_100 ha hb) (Or.inr h1) (Or.inr h2)
theorem sd_neg {a b c d : Nat} (ha : a < 2 ^ 63) (hb : b < 2 ^ 63) (h1 : 0 < b) (h2 : 0 < d) : sd a b c d = -1 ↔ a * d < c * b := by
  rw [sd_less ha hb h1 h2]
  by_cases e : a * d = c * b
  · rw [if_pos e]
    exact ⟨fun q => absurd q (by decide), fun q => by omega⟩
  · rw [if_neg e]
    by_cases g : a * d < c * b
    · rw [if_pos g]; exact ⟨fun _ => g, fun _ => rfl⟩
    · rw [if_neg g]; exact ⟨fun q => absurd q (by decide), fun q => absurd q g⟩
theorem sd_pos {a b c d : Nat} (ha : a < 2 ^ 63) (hb : b < 2 ^ 63) (h1 : 0 < b) (h2 : 0 < d) : sd a b c d = nI 1 ↔ c * b < a * d := by
  rw [sd_less ha hb h1 h2]
  by_cases e : a * d = c * b
  · rw [if_pos e]
    exact ⟨fun q => absurd q (by decide), fun q => by omega⟩
  · rw [if_neg e]
    by_cases g : a * d < c * b
    · rw [if_pos g]; exact ⟨fun q => absurd q (by decide), fun q => by omega⟩
    · rw [if_neg g]; exact ⟨fun _ => by omega, fun _ => rfl⟩
def groA (ns : Nat) (kF nF yF : Nat → Nat) (x t wh : Int32) : Int64 := if (isS ns x && (rrin t (nI 0) (nI 9) && rrin wh (nI 0) (nI 3))) = true then (if liveS (kF (cN x)) (nF (cN x)) (Es yF (cN x)) = 0 then -3 else lN (grV (nF (cN x)) (kF (cN x)) (liveS (kF (cN x)) (nF (cN x)) (Es yF (cN x))) (Es yF (cN x)) (cN t) (cN wh))) else -2
