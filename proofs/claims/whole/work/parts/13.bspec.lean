/-! forbidden words, windows: worlds and words of the state -/
def RA (K : rr_K) (wo n : Nat) (f : Nat → Nat) : va_W := [(wo, .inl (K.2.1, n, .inl (fun j => nI (f j))))]
def BW (K : rr_K) (bo bl bt br nf : Nat) (FL FW RW : Nat → Nat) : va_W := [(bo, .inr (0, [.int (nI nf), .ref bl, .ref bt, .ref br])), (bl, .inl (K.2.1, 8, .inl (fun j => nI (FL j)))), (bt, .inl (K.2.1, 40, .inl (fun j => nI (FW j)))), (br, .inl (K.2.1, 5, .inl (fun j => nI (RW j))))]
def PW (K : rr_K) (po pt wd : Nat) (TD : Nat → Nat) : va_W := [(po, .inr (4, [.int (nI wd), .ref pt])), (pt, .inl (K.2.1, 64, .inl (fun j => nI (TD j))))]
/-- g is put into f from a on, n places -/
def putN {α : Type} (f g : Nat → α) (a n : Nat) : Nat → α := fun k => if a ≤ k ∧ k < a + n then g (k - a) else f k
theorem putN_0 {α : Type} (f g : Nat → α) (a : Nat) : putN f g a 0 = f := by
  funext k
  unfold putN
  rw [if_neg (by omega)]
theorem putN_step {α : Type} (f g : Nat → α) (a n : Nat) : va_up (putN f g a n) (a + n) (g n) = putN f g a (n + 1) := by
  funext k
  unfold va_up putN
  by_cases h : k = a + n
  · rw [if_pos h, if_pos (by omega), h, Nat.add_sub_cancel_left]
  · rw [if_neg h]
    by_cases h2 : a ≤ k ∧ k < a + n
    · rw [if_pos h2, if_pos (by omega)]
    · rw [if_neg h2, if_neg (by omega)]
/-- a counter that runs down to -1 -/
def dI (t : Nat) : Int32 := nI t - 1
theorem dI_succ (i : Nat) : dI (i + 1) = nI i := nI_pred i
theorem dI_lt {t : Nat} (h : dI t < 0) (ht : t < 2 ^ 31) : t = 0 := by
  cases t with
  | zero => rfl
  | succ t =>
    rw [dI_succ] at h
    exact absurd h (nI_pos (by omega))
theorem dI_ge {t : Nat} (h : ¬ dI t < 0) : ∃ i, t = i + 1 := by
  cases t with
  | zero => exact absurd (by decide) h
  | succ t => exact ⟨t, rfl⟩
theorem rr_decr (i : Nat) : nI i + Int32.ofInt (-1) = dI i := by
  show nI i + Int32.ofInt (-1) = nI i - 1
  rw [Int32.sub_eq_add_neg]
  rfl
/-- all below n; some below n -/
def allB : Nat → (Nat → Bool) → Bool
  | 0, _ => true
  | n + 1, f => allB n f && f n
def anyB : Nat → (Nat → Bool) → Bool
  | 0, _ => false
  | n + 1, f => anyB n f || f n
theorem allB_iff (f : Nat → Bool) : ∀ n, allB n f = true ↔ ∀ i, i < n → f i = true
  | 0 => by simp [allB]
  | n + 1 => by
    show (allB n f && f n) = true ↔ _
    rw [Bool.and_eq_true, allB_iff f n]
    constructor
    · rintro ⟨h1, h2⟩ i hi
      rcases Nat.lt_or_ge i n with q | q
      · exact h1 i q
      · obtain rfl : i = n := by omega
        exact h2
    · intro h
      exact ⟨fun i hi => h i (by omega), h n (by omega)⟩
theorem anyB_iff (f : Nat → Bool) : ∀ n, anyB n f = true ↔ ∃ i, i < n ∧ f i = true
  | 0 => by simp [anyB]
  | n + 1 => by
    show (anyB n f || f n) = true ↔ _
    rw [Bool.or_eq_true, anyB_iff f n]
    constructor
    · rintro (⟨i, hi, h⟩ | h)
      · exact ⟨i, by omega, h⟩
      · exact ⟨n, by omega, h⟩
    · rintro ⟨i, hi, h⟩
      rcases Nat.lt_or_ge i n with q | q
      · exact Or.inl ⟨i, q, h⟩
      · obtain rfl : i = n := by omega
        exact Or.inr h
theorem allB_not {f : Nat → Bool} {n i : Nat} (hi : i < n) (h : f i = false) : allB n f = false := by
  cases h2 : allB n f
  · rfl
  · rw [(allB_iff f n).mp h2 i hi] at h; cases h
theorem allB_yes {f : Nat → Bool} {n : Nat} (h : ∀ i, i < n → f i = true) : allB n f = true := (allB_iff f n).mpr h
theorem anyB_yes {f : Nat → Bool} {n i : Nat} (hi : i < n) (h : f i = true) : anyB n f = true := (anyB_iff f n).mpr ⟨i, hi, h⟩
theorem anyB_no {f : Nat → Bool} {n : Nat} (h : ∀ i, i < n → f i = false) : anyB n f = false := by
  cases h2 : anyB n f
  · rfl
  · obtain ⟨i, hi, h3⟩ := (anyB_iff f n).mp h2
    rw [h i hi] at h3; cases h3
theorem allB_congr {f g : Nat → Bool} {n : Nat} (h : ∀ i, i < n → f i = g i) : allB n f = allB n g := by
  rw [Bool.eq_iff_iff, allB_iff, allB_iff]
  exact ⟨fun q i hi => (h i hi) ▸ q i hi, fun q i hi => (h i hi).symm ▸ q i hi⟩
theorem anyB_congr {f g : Nat → Bool} {n : Nat} (h : ∀ i, i < n → f i = g i) : anyB n f = anyB n g := by
  rw [Bool.eq_iff_iff, anyB_iff, anyB_iff]
  exact ⟨fun ⟨i, hi, q⟩ => ⟨i, hi, (h i hi) ▸ q⟩, fun ⟨i, hi, q⟩ => ⟨i, hi, (h i hi).symm ▸ q⟩⟩
/-- the greatest letter of the words, the longest of them -/
def gL (nf : Nat) (FL FW : Nat → Nat) : Nat := rr_fold (fun i g => rr_fold (fun j g => max g (FW (i * 5 + j))) (FL i) g) nf 0
def lM (nf : Nat) (FL : Nat → Nat) : Nat := rr_fold (fun i m => max m (FL i)) nf 2
/-- the row of a number's digits -/
def wrR (x b len : Nat) (RW : Nat → Nat) (j : Nat) : Nat := if j < len then x / b ^ (len - 1 - j) % b else RW j
/-- whether word i stands at a place of the row; whether any stands in its first places -/
def stA (FL FW RW : Nat → Nat) (i fr : Nat) : Bool := allB (FL i) (fun j => RW (fr + j) == FW (i * 5 + j))
def stR (nf : Nat) (FL FW RW : Nat → Nat) (len : Nat) : Bool := anyB nf (fun i => anyB (len + 1 - FL i) (fun fr => stA FL FW RW i fr))
def FOK (nf : Nat) (FL FW : Nat → Nat) : Prop := nf ≤ 8 ∧ ∀ i, i < nf → 1 ≤ FL i ∧ FL i ≤ 5 ∧ ∀ j, j < FL i → FW (i * 5 + j) < 4
theorem rr_max (a b : Nat) (ha : a < 2 ^ 31) (hb : b < 2 ^ 31) : (if nI a < nI b then nI b else nI a) = nI (max a b) := by
  by_cases h : a < b
  · rw [if_pos ((nI_ltI ha hb).mpr h), Nat.max_eq_right (by omega)]
  · rw [if_neg (fun q => h ((nI_ltI ha hb).mp q)), Nat.max_eq_left (by omega)]
theorem rr_min (a b : Nat) (ha : a < 2 ^ 31) (hb : b < 2 ^ 31) : (if nI b < nI a then nI b else nI a) = nI (min a b) := by
  by_cases h : b < a
  · rw [if_pos ((nI_ltI hb ha).mpr h), Nat.min_eq_right (by omega)]
  · rw [if_neg (fun q => h ((nI_ltI hb ha).mp q)), Nat.min_eq_left (by omega)]
theorem gLin_lt {FW : Nat → Nat} {i : Nat} {g : Nat} (hg : g < 4) : ∀ {n : Nat}, (∀ j, j < n → FW (i * 5 + j) < 4) → rr_fold (fun j g => max g (FW (i * 5 + j))) n g < 4
  | 0, _ => hg
  | n + 1, h => Nat.max_lt.mpr ⟨gLin_lt hg (fun j hj => h j (by omega)), h n (by omega)⟩
theorem gL_lt {nf : Nat} {FL FW : Nat → Nat} (h : FOK nf FL FW) : ∀ n, n ≤ nf → rr_fold (fun i g => rr_fold (fun j g => max g (FW (i * 5 + j))) (FL i) g) n 0 < 4
  | 0, _ => (by decide : 0 < 4)
  | n + 1, hn => gLin_lt (gL_lt h n (by omega)) (fun j hj => (h.2 n (by omega)).2.2 j hj)
theorem lM_in {nf : Nat} {FL FW : Nat → Nat} (h : FOK nf FL FW) : ∀ n, n ≤ nf → 2 ≤ rr_fold (fun i m => max m (FL i)) n 2 ∧ rr_fold (fun i m => max m (FL i)) n 2 ≤ 5
  | 0, _ => (by decide : 2 ≤ 2 ∧ 2 ≤ 5)
  | n + 1, hn => by
    obtain ⟨h1, h2⟩ := lM_in h n (by omega)
    have h3 := (h.2 n (by omega)).2.1
    show 2 ≤ max _ _ ∧ max _ _ ≤ 5
    omega
theorem wrR_step (x b len : Nat) (RW : Nat → Nat) {i : Nat} (hi : i < len) : va_up (fun j => if i + 1 ≤ j ∧ j < len then x / b ^ (len - 1 - j) % b else RW j) i (x / b ^ (len - 1 - i) % b) = fun j => if i ≤ j ∧ j < len then x / b ^ (len - 1 - j) % b else RW j := by
  funext j
  unfold va_up
  by_cases h : j = i
  · subst h
    rw [if_pos rfl, if_pos ⟨Nat.le_refl _, hi⟩]
  · rw [if_neg h]
    dsimp only
    by_cases h2 : i + 1 ≤ j ∧ j < len
    · rw [if_pos h2, if_pos (by omega)]
    · rw [if_neg h2, if_neg (by omega)]
