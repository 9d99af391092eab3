/-! what is reckoned from a graph: live states, ways, where sets of states lead -/
def sN : Nat → (Nat → Nat) → Nat
  | 0, _ => 0
  | n + 1, f => sN n f + f n
theorem sN_succ (n : Nat) (f : Nat → Nat) : sN (n + 1) f = sN n f + f n := rfl
theorem sN_congr {f g : Nat → Nat} : ∀ {n : Nat}, (∀ i, i < n → f i = g i) → sN n f = sN n g
  | 0, _ => rfl
  | n + 1, h => by rw [sN_succ, sN_succ, sN_congr (fun i hi => h i (by omega)), h n (by omega)]
theorem sN_le {f : Nat → Nat} {b : Nat} : ∀ {n : Nat}, (∀ i, i < n → f i ≤ b) → sN n f ≤ n * b
  | 0, _ => Nat.zero_le _
  | n + 1, h => by
    rw [sN_succ, Nat.succ_mul]
    exact Nat.add_le_add (sN_le (fun i hi => h i (by omega))) (h n (by omega))
/-- how many of the first n bits -/
def pcn (n x : Nat) : Nat := sN n (fun i => (x.testBit i).toNat)
abbrev pc (x : Nat) : Nat := pcn 16 x
theorem pcn_le (n x : Nat) : pcn n x ≤ n := by
  have h := sN_le (f := fun i => (x.testBit i).toNat) (b := 1) (n := n) (fun i _ => by cases x.testBit i <;> decide)
  rw [Nat.mul_one] at h
  exact h
/-- x is a part of y -/
def sub (x y : Nat) : Prop := x &&& y = x
theorem sub_bit {x y : Nat} : sub x y ↔ ∀ i, x.testBit i = true → y.testBit i = true := by
  constructor
  · intro h i hi
    have h2 : (x &&& y).testBit i = true := by rw [h]; exact hi
    rw [Nat.testBit_and, Bool.and_eq_true] at h2
    exact h2.2
  · intro h
    apply Nat.eq_of_testBit_eq
    intro i
    rw [Nat.testBit_and]
    cases h2 : x.testBit i
    · rfl
    · rw [h i h2]; rfl
theorem sub_refl (x : Nat) : sub x x := Nat.and_self x
theorem sub_zero (x : Nat) : sub 0 x := Nat.zero_and x
theorem sub_trans {x y z : Nat} (h1 : sub x y) (h2 : sub y z) : sub x z := sub_bit.mpr (fun i hi => sub_bit.mp h2 i (sub_bit.mp h1 i hi))
theorem sub_le {x y : Nat} (h : sub x y) : x ≤ y := by rw [← h]; exact Nat.and_le_right
theorem sub_antisymm {x y : Nat} (h : sub x y) (h2 : sub y x) : x = y := Nat.le_antisymm (sub_le h) (sub_le h2)
theorem sub_and_right (x y : Nat) : sub (x &&& y) y := sub_bit.mpr (fun i hi => by rw [Nat.testBit_and, Bool.and_eq_true] at hi; exact hi.2)
theorem sub_and_left (x y : Nat) : sub (x &&& y) x := sub_bit.mpr (fun i hi => by rw [Nat.testBit_and, Bool.and_eq_true] at hi; exact hi.1)
theorem sub_orN {y : Nat} {f : Nat → Nat} {n : Nat} (h : ∀ i, i < n → sub (f i) y) : sub (orN n f) y := sub_bit.mpr (fun r hr => by
  obtain ⟨i, hi, h2⟩ := (orN_testBit f r n).mp hr
  exact sub_bit.mp (h i hi) r h2)
theorem sN_mono {f g : Nat → Nat} : ∀ {n : Nat}, (∀ i, i < n → f i ≤ g i) → sN n f ≤ sN n g
  | 0, _ => Nat.le_refl _
  | n + 1, h => by
    rw [sN_succ, sN_succ]
    exact Nat.add_le_add (sN_mono (fun i hi => h i (by omega))) (h n (by omega))
theorem sN_lt {f g : Nat → Nat} : ∀ {n : Nat} (j : Nat), j < n → (∀ i, i < n → f i ≤ g i) → f j < g j → sN n f < sN n g
  | 0, j, hj, _, _ => absurd hj (Nat.not_lt_zero j)
  | n + 1, j, hj, h, h2 => by
    rw [sN_succ, sN_succ]
    rcases Nat.lt_or_ge j n with q | q
    · exact Nat.add_lt_add_of_lt_of_le (sN_lt j q (fun i hi => h i (by omega)) h2) (h n (by omega))
    · obtain rfl : j = n := by omega
      exact Nat.add_lt_add_of_le_of_lt (sN_mono (fun i hi => h i (by omega))) h2
theorem bit_lt {x n i : Nat} (hx : x < 2 ^ n) (h : x.testBit i = true) : i < n := by
  rcases Nat.lt_or_ge i n with q | q
  · exact q
  · have := Nat.testBit_lt_two_pow (x := x) (i := i) (Nat.lt_of_lt_of_le hx (Nat.pow_le_pow_right (by decide) q))
    rw [this] at h
    cases h
theorem pcn_sub_lt {n x y : Nat} (hy : y < 2 ^ n) (h : sub x y) (hne : x ≠ y) : pcn n x < pcn n y := by
  have hb := sub_bit.mp h
  have hex : ∃ j, y.testBit j = true ∧ x.testBit j = false := by
    apply Classical.byContradiction
    intro hno
    apply hne
    apply Nat.eq_of_testBit_eq
    intro i
    cases h1 : x.testBit i
    · cases h2 : y.testBit i
      · rfl
      · exact absurd ⟨i, h2, h1⟩ hno
    · rw [hb i h1]
  obtain ⟨j, h1, h2⟩ := hex
  refine sN_lt j (bit_lt hy h1) (fun i _ => ?_) ?_
  · show (x.testBit i).toNat ≤ (y.testBit i).toNat
    cases h3 : x.testBit i
    · exact Nat.zero_le _
    · rw [hb i h3]; exact Nat.le_refl _
  · show (x.testBit j).toNat < (y.testBit j).toNat
    rw [h1, h2]
    decide
theorem pcn_zero {n x : Nat} (hx : x < 2 ^ n) (h : pcn n x = 0) : x = 0 := by
  apply Classical.byContradiction
  intro hne
  have := pcn_sub_lt hx (sub_zero x) (fun e => hne e.symm)
  omega
/-- i times -/
def rr_it {α : Type} (f : α → α) : Nat → α → α
  | 0, x => x
  | n + 1, x => f (rr_it f n x)
theorem rr_it_fix {α : Type} {f : α → α} {x : α} {i : Nat} (h : f (rr_it f i x) = rr_it f i x) : ∀ j, i ≤ j → rr_it f j x = rr_it f i x := by
  intro j hj
  obtain ⟨d, rfl⟩ : ∃ d, j = i + d := ⟨j - i, by omega⟩
  clear hj
  induction d with
  | zero => rfl
  | succ d ih =>
    show f (rr_it f (i + d) x) = _
    rw [ih, h]
/-- what only loses members comes to rest in as many steps as there are places -/
theorem rr_it_rest {f : Nat → Nat} {n x : Nat} (hx : x < 2 ^ n) (hf : ∀ y, sub (f y) y) : f (rr_it f n x) = rr_it f n x := by
  have hlt : ∀ i, rr_it f i x < 2 ^ n := by
    intro i
    induction i with
    | zero => exact hx
    | succ i ih => exact Nat.lt_of_le_of_lt (sub_le (hf _)) ih
  have key : ∀ i, f (rr_it f i x) = rr_it f i x ∨ pcn n (rr_it f i x) + i ≤ n := by
    intro i
    induction i with
    | zero => exact Or.inr (pcn_le n x)
    | succ i ih =>
      rcases ih with h | h
      · refine Or.inl ?_
        show f (f (rr_it f i x)) = f (rr_it f i x)
        rw [h, h]
      · by_cases h2 : f (rr_it f i x) = rr_it f i x
        · refine Or.inl ?_
          show f (f (rr_it f i x)) = f (rr_it f i x)
          rw [h2, h2]
        · have := pcn_sub_lt (hlt i) (hf _) h2
          refine Or.inr ?_
          show pcn n (f (rr_it f i x)) + (i + 1) ≤ n
          omega
  rcases key n with h | h
  · exact h
  · have h0 : rr_it f n x = 0 := pcn_zero (hlt n) (by omega)
    rw [h0]
    have := sub_le (hf 0)
    omega
/-- where live ways lead from a state -/
def lO (k al : Nat) (E : Nat → Nat) (q : Nat) : Nat := orN k (lvE al E q)
def ldg (f : Nat → Nat) (q : Nat) : Nat := if f q = 0 then 0 else 1 <<< q
/-- what is still linked -/
def lst (k n : Nat) (E : Nat → Nat) (al : Nat) : Nat := orN n (ldg (lO k al E)) &&& orN n (lO k al E)
def liveS (k n : Nat) (E : Nat → Nat) : Nat := rr_it (lst k n E) n (2 ^ n - 1)
theorem lvE_sub (al : Nat) (E : Nat → Nat) (q y : Nat) : sub (lvE al E q y) al := by
  unfold lvE
  split
  · exact sub_and_right _ _
  · exact sub_zero _
theorem lO_sub (k al : Nat) (E : Nat → Nat) (q : Nat) : sub (lO k al E q) al := sub_orN (fun i _ => lvE_sub al E q i)
theorem lst_sub (k n : Nat) (E : Nat → Nat) (al : Nat) : sub (lst k n E al) al := sub_trans (sub_and_right _ _) (sub_orN (fun q _ => lO_sub k al E q))
theorem full_lt (n : Nat) : 2 ^ n - 1 < 2 ^ n := by have := Nat.two_pow_pos n; omega
theorem liveS_rest (k n : Nat) (E : Nat → Nat) : lst k n E (liveS k n E) = liveS k n E := rr_it_rest (full_lt n) (lst_sub k n E)
theorem it_lt (k n : Nat) (E : Nat → Nat) : ∀ i, rr_it (lst k n E) i (2 ^ n - 1) < 2 ^ n
  | 0 => full_lt n
  | i + 1 => Nat.lt_of_le_of_lt (sub_le (lst_sub k n E _)) (it_lt k n E i)
theorem liveS_lt (k n : Nat) (E : Nat → Nat) : liveS k n E < 2 ^ n := it_lt k n E n
/-- wherever the road comes to rest, it is the same -/
theorem it_live {k n : Nat} {E : Nat → Nat} {i : Nat} (h : lst k n E (rr_it (lst k n E) i (2 ^ n - 1)) = rr_it (lst k n E) i (2 ^ n - 1)) : rr_it (lst k n E) i (2 ^ n - 1) = liveS k n E := by
  rcases Nat.le_total i n with q | q
  · exact (rr_it_fix h n q).symm
  · exact rr_it_fix (liveS_rest k n E) i q
/-- ways, live ways: how many -/
def waysS (k n : Nat) (E : Nat → Nat) : Nat := sN n (fun q => sN k (fun y => pc (E (q * 4 + y))))
def lwS (k n al : Nat) (E : Nat → Nat) : Nat := sN n (fun q => sN k (fun y => pc (lvE al E q y)))
/-- an entry of the table of steps -/
def gdT (n al : Nat) (E : Nat → Nat) (y g x : Nat) : Nat := orN 4 (fun j => if x.testBit j then (if 4 * g + j < n then lvE al E (4 * g + j) y else 0) else 0)
def TInv (k n al : Nat) (E T : Nat → Nat) : Prop := (∀ y g, y < 4 → g < 4 → T (y * 64 + g * 16) = 0) ∧ ∀ y g x, y < k → g < 4 → x < 16 → T (y * 64 + g * 16 + x) = gdT n al E y g x
/-- where a set of states leads to by a letter -/
def ldS (k n : Nat) (E : Nat → Nat) (lv st y : Nat) : Nat := if y < k then orN n (fun q => if st.testBit q then E (q * 4 + y) else 0) &&& lv else 0
/-- the same, looked up -/
def stp (k : Nat) (T : Nat → Nat) (f y : Nat) : Nat := if y < k then T (y * 64 + (f &&& 15)) ||| T (y * 64 + 16 + (f >>> 4 &&& 15)) ||| T (y * 64 + 32 + (f >>> 8 &&& 15)) ||| T (y * 64 + 48 + (f >>> 12 &&& 15)) else 0
theorem nib_bit (f g j : Nat) (hj : j < 4) : (f >>> (4 * g) &&& 15).testBit j = f.testBit (4 * g + j) := by
  rw [Nat.testBit_and, Nat.testBit_shiftRight]
  have : Nat.testBit 15 j = true := by
    rcases (show j = 0 ∨ j = 1 ∨ j = 2 ∨ j = 3 by omega) with rfl | rfl | rfl | rfl <;> decide
  rw [this, Bool.and_true]
theorem stp_eq {k n al : Nat} {E T : Nat → Nat} (hT : TInv k n al E T) (hn : n ≤ 16) {f y : Nat} (hf : sub f al) (hal : al < 2 ^ n) : stp k T f y = ldS k n E al f y := by
  unfold stp ldS
  by_cases hy : y < k
  · rw [if_pos hy, if_pos hy]
    have l15 : ∀ x : Nat, x &&& 15 < 16 := fun x => Nat.lt_succ_of_le Nat.and_le_right
    have e0 := hT.2 y 0 (f &&& 15) hy (by decide) (l15 _)
    have e1 := hT.2 y 1 (f >>> 4 &&& 15) hy (by decide) (l15 _)
    have e2 := hT.2 y 2 (f >>> 8 &&& 15) hy (by decide) (l15 _)
    have e3 := hT.2 y 3 (f >>> 12 &&& 15) hy (by decide) (l15 _)
    simp only [Nat.zero_mul, Nat.one_mul, Nat.add_zero] at e0 e1
    rw [e0, e1, show y * 64 + 32 = y * 64 + 2 * 16 by omega, e2, show y * 64 + 48 = y * 64 + 3 * 16 by omega, e3]
    have n0 : ∀ j, j < 4 → (f &&& 15).testBit j = f.testBit (4 * 0 + j) := fun j hj => by have := nib_bit f 0 j hj; rw [Nat.mul_zero, Nat.shiftRight_zero] at this; rw [this, Nat.mul_zero]
    have n1 : ∀ j, j < 4 → (f >>> 4 &&& 15).testBit j = f.testBit (4 * 1 + j) := fun j hj => nib_bit f 1 j hj
    have n2 : ∀ j, j < 4 → (f >>> 8 &&& 15).testBit j = f.testBit (4 * 2 + j) := fun j hj => nib_bit f 2 j hj
    have n3 : ∀ j, j < 4 → (f >>> 12 &&& 15).testBit j = f.testBit (4 * 3 + j) := fun j hj => nib_bit f 3 j hj
    generalize f &&& 15 = x0 at n0 ⊢
    generalize f >>> 4 &&& 15 = x1 at n1 ⊢
    generalize f >>> 8 &&& 15 = x2 at n2 ⊢
    generalize f >>> 12 &&& 15 = x3 at n3 ⊢
    apply Nat.eq_of_testBit_eq
    intro r
    rw [Bool.eq_iff_iff]
    simp only [Nat.testBit_or, Nat.testBit_and, Bool.or_eq_true, Bool.and_eq_true, gdT, orN_testBit]
    have one : ∀ (x g : Nat), (∀ j, j < 4 → x.testBit j = f.testBit (4 * g + j)) → ((∃ i, i < 4 ∧ (if x.testBit i = true then if 4 * g + i < n then lvE al E (4 * g + i) y else 0 else 0).testBit r = true) ↔ ∃ q, (4 * g ≤ q ∧ q < 4 * g + 4) ∧ q < n ∧ f.testBit q = true ∧ (lvE al E q y).testBit r = true) := by
      intro x g hx
      constructor
      · rintro ⟨i, hi, h⟩
        rw [hx i hi] at h
        by_cases h1 : f.testBit (4 * g + i) = true
        · rw [if_pos h1] at h
          by_cases h2 : 4 * g + i < n
          · rw [if_pos h2] at h
            exact ⟨4 * g + i, by omega, h2, h1, h⟩
          · rw [if_neg h2, Nat.zero_testBit] at h; cases h
        · rw [if_neg h1, Nat.zero_testBit] at h; cases h
      · rintro ⟨q, h0, h1, h2, h3⟩
        refine ⟨q - 4 * g, by omega, ?_⟩
        have e : 4 * g + (q - 4 * g) = q := by omega
        rw [hx _ (by omega), e, if_pos h2, if_pos h1]
        exact h3
    rw [one _ 0 n0, one _ 1 n1, one _ 2 n2, one _ 3 n3]
    have inl : ∀ q, f.testBit q = true → ((lvE al E q y).testBit r = true ↔ (E (q * 4 + y)).testBit r = true ∧ al.testBit r = true) := by
      intro q hq
      unfold lvE
      rw [if_pos (sub_bit.mp hf q hq), Nat.testBit_and, Bool.and_eq_true]
    constructor
    · rintro (((⟨q, h0, h1, h2, h3⟩ | ⟨q, h0, h1, h2, h3⟩) | ⟨q, h0, h1, h2, h3⟩) | ⟨q, h0, h1, h2, h3⟩)
      all_goals
        rw [inl q h2] at h3
        exact ⟨⟨q, h1, by rw [if_pos h2]; exact h3.1⟩, h3.2⟩
    · rintro ⟨⟨q, h1, h2⟩, h3⟩
      by_cases h4 : f.testBit q = true
      · rw [if_pos h4] at h2
        have h5 := (inl q h4).mpr ⟨h2, h3⟩
        rcases (show q < 4 ∨ (4 ≤ q ∧ q < 8) ∨ (8 ≤ q ∧ q < 12) ∨ 12 ≤ q by omega) with h | h | h | h
        · exact Or.inl (Or.inl (Or.inl ⟨q, by omega, h1, h4, h5⟩))
        · exact Or.inl (Or.inl (Or.inr ⟨q, by omega, h1, h4, h5⟩))
        · exact Or.inl (Or.inr ⟨q, by omega, h1, h4, h5⟩)
        · exact Or.inr ⟨q, by omega, h1, h4, h5⟩
      · rw [if_neg h4, Nat.zero_testBit] at h2; cases h2
  · rw [if_neg hy, if_neg hy]
theorem ldS_sub (k n : Nat) (E : Nat → Nat) (lv st y : Nat) : sub (ldS k n E lv st y) lv := by
  unfold ldS
  split
  · exact sub_and_right _ _
  · exact sub_zero _
theorem stp_lt {k : Nat} {T : Nat → Nat} (hT : ∀ j, j < 256 → T j < 65536) {f y : Nat} (hy : y < 4) : stp k T f y < 65536 := by
  unfold stp
  have l15 : ∀ x : Nat, x &&& 15 ≤ 15 := fun x => Nat.and_le_right
  split
  · have h0 := l15 f
    have h1 := l15 (f >>> 4)
    have h2 := l15 (f >>> 8)
    have h3 := l15 (f >>> 12)
    exact Nat.or_lt_two_pow (n := 16) (Nat.or_lt_two_pow (Nat.or_lt_two_pow (hT _ (by omega)) (hT _ (by omega))) (hT _ (by omega))) (hT _ (by omega))
  · decide
