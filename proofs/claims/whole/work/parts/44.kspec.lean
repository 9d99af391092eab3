/-! rows of live ways: how many there are -/
/-- a row of longs, told by numbers -/
def RLw (K : rr_K) (a n : Nat) (f : Nat → Nat) : va_W := [(a, .inl (K.2.2.1, n, .inr (.inl (fun j => lN (f j)))))]
/-- the walks' cells -/
def XW7 (K : rr_K) (xo xs xa xb xv xw : Nat) (S R P V B : Nat → Nat) : va_W := [(xo, .inr (7, [.ref xs, .ref xa, .ref xb, .ref xv, .ref xw])), (xs, .inl (K.2.2.1, 256, .inr (.inl (fun j => lN (S j))))), (xa, .inl (K.2.2.1, 256, .inr (.inl (fun j => lN (R j))))), (xb, .inl (K.2.2.1, 256, .inr (.inl (fun j => lN (P j))))), (xv, .inl (K.2.2.1, 16, .inr (.inl (fun j => lN (V j))))), (xw, .inl (K.2.2.1, 16, .inr (.inl (fun j => lN (B j)))))]
section
variable {p : Program} {l : Launch} {e : Env} {R : Room} {s : State} {m : MethodId} {args : Array Value} {below : List Frame} {meth : Method} {c : Code} {H : Heap} {locs : List Loc} {cells slots : Nat} {Q : State → Prop}
variable {cc : ByteArray} {pc : Nat} {ls : Array Slot} {rest : List Value}
variable {K : rr_K} {ws ws' : va_W} {A : Nat → Prop} {H0 : Heap} {a : Nat}
theorem nv_lastN (hx : p.tables.exec = Jvm.exec) (hb : c.code = cc) (hKK : KK K s) (hP : va_P K.1 vwCl ws H) (hD : va_D A ws) (hS : va_S A H0 H locs) (q0 : Nat) {n : Nat} {f : Nat → Nat} (ha : ws[q0]? = some (a, .inl (K.2.2.1, n, .inr (.inl (fun j => lN (f j)))))) {i x : Nat} (hi : i < n) (hn : n < 2 ^ 31) (hw : ws.set q0 (a, .inl (K.2.2.1, n, .inr (.inl (fun j => lN (va_up f i x j))))) = ws') (hdg : decode cc pc = .ok (.lastore, 1))
    (k : ∀ (H1 : Heap) (locs1 : List Loc), va_P K.1 vwCl ws' H1 → va_D A ws' → va_S A H0 H1 locs1 → W p l e R s m args below meth c H1 locs1 cells slots Q (F0 m (pc + 1) ls rest)) : W p l e R s m args below meth c H locs cells slots Q (F0 m pc ls (.long (lN x) :: .int (nI i) :: .ref a :: rest)) := by
  have e : va_up (fun j => lN (f j)) i (lN x) = fun j => lN (va_up f i x j) := by
    funext j
    unfold va_up
    by_cases h : j = i
    · rw [if_pos h, if_pos h]
    · rw [if_neg h, if_neg h]
  refine nv_last (f := fun j => lN (f j)) (x := lN x) hx hb hKK hP hD hS q0 ha hi hn rfl hdg (fun H1 locs1 h1 h2 h3 => ?_)
  rw [e, hw] at h1 h2
  exact k H1 locs1 h1 h2 h3
end
theorem va_cpyN (f g : Nat → Nat) (a b n : Nat) : va_cpy (fun j => lN (f j)) (fun j => lN (g j)) a b n = fun j => lN (va_cpy f g a b n j) := by
  funext j
  unfold va_cpy
  split <;> rfl
/-- how many live ways lead from one state to another one -/
def aMy (al : Nat) (E : Nat → Nat) (y i j : Nat) : Nat := sN y (fun z => ((lvE al E i z).testBit j).toNat)
/-- what is laid so far: states below f whole, of f the letters below y, and y's bits below t -/
def csF (k al : Nat) (E : Nat → Nat) (f y t i j : Nat) : Nat := if i < f then aMy al E k i j else if i = f then aMy al E (if j < t then y + 1 else y) i j else 0
theorem csF_step {k al : Nat} {E S : Nat → Nat} {f y t n : Nat} (hn : n ≤ 16) (hf : f < n) (ht : t < n) (h : ∀ i j, i < n → j < n → S (i * 16 + j) = csF k al E f y t i j) :
    ∀ i j, i < n → j < n → va_up S (f * 16 + t) (S (f * 16 + t) + ((lvE al E f y).testBit t).toNat) (i * 16 + j) = csF k al E f y (t + 1) i j := by
  intro i j hi hj
  unfold va_up
  split
  · rename_i q
    obtain rfl : i = f := by omega
    obtain rfl : j = t := by omega
    rw [h i j hi hj]
    unfold csF
    rw [if_neg (Nat.lt_irrefl _), if_neg (Nat.lt_irrefl _), if_pos rfl, if_pos rfl, if_neg (Nat.lt_irrefl _), if_pos (Nat.lt_succ_self _)]
    rfl
  · rename_i q
    rw [h i j hi hj]
    unfold csF
    by_cases e1 : i < f
    · rw [if_pos e1, if_pos e1]
    · rw [if_neg e1, if_neg e1]
      by_cases e2 : i = f
      · rw [if_pos e2, if_pos e2]
        have e3 : (if j < t + 1 then y + 1 else y) = if j < t then y + 1 else y := by
          by_cases w : j < t
          · rw [if_pos w, if_pos (by omega)]
          · rw [if_neg w, if_neg (fun z => q (by rw [e2, show j = t by omega]))]
        rw [e3]
      · rw [if_neg e2, if_neg e2]
theorem csF_y {k al : Nat} {E : Nat → Nat} {f y n i j : Nat} (hj : j < n) : csF k al E f y n i j = csF k al E f (y + 1) 0 i j := by
  unfold csF
  rw [if_pos hj, if_neg (Nat.not_lt_zero _)]
theorem csF_f {k al : Nat} {E : Nat → Nat} {f i j : Nat} : csF k al E f k 0 i j = csF k al E (f + 1) 0 0 i j := by
  unfold csF
  rw [if_neg (Nat.not_lt_zero _), if_neg (Nat.not_lt_zero _)]
  by_cases e1 : i < f
  · rw [if_pos e1, if_pos (by omega)]
  · rw [if_neg e1]
    by_cases e2 : i = f
    · rw [if_pos e2, if_pos (by omega)]
    · rw [if_neg e2, if_neg (by omega)]
      by_cases e3 : i = f + 1
      · rw [if_pos e3]; rfl
      · rw [if_neg e3]
theorem csF_0 {k al : Nat} {E : Nat → Nat} {i j : Nat} : csF k al E 0 0 0 i j = 0 := by
  unfold csF
  rw [if_neg (Nat.not_lt_zero _), if_neg (Nat.not_lt_zero _)]
  split <;> rfl
theorem csF_n {k al : Nat} {E : Nat → Nat} {n i j : Nat} (hi : i < n) : csF k al E n 0 0 i j = aMy al E k i j := if_pos hi
/-- rows of q + 1 live ways -/
def pwS (n : Nat) (M : Nat → Nat → Nat) : Nat → Nat → Nat → Nat
  | 0, i, j => M i j
  | q + 1, i, j => sN n (fun o => pwS n M q i o * M o j)
theorem pwS_succ (n : Nat) (M : Nat → Nat → Nat) (q i j : Nat) : pwS n M (q + 1) i j = sN n (fun o => pwS n M q i o * M o j) := rfl
theorem bit_le (b : Bool) : b.toNat ≤ 1 := by cases b <;> decide
theorem aMy_le (al : Nat) (E : Nat → Nat) (y i j : Nat) : aMy al E y i j ≤ y := by
  have := sN_le (f := fun z => ((lvE al E i z).testBit j).toNat) (b := 1) (n := y) (fun z _ => bit_le _)
  unfold aMy
  omega
theorem pwS_le {n : Nat} {M : Nat → Nat → Nat} (hn : n ≤ 16) (hM : ∀ i j, M i j ≤ 4) : ∀ q i j, pwS n M q i j ≤ 4 * 64 ^ q
  | 0, i, j => hM i j
  | q + 1, i, j => by
    have ih := pwS_le hn hM q
    have h1 := sN_le (f := fun o => pwS n M q i o * M o j) (b := 4 * 64 ^ q * 4) (n := n) (fun o _ => Nat.mul_le_mul (ih i o) (hM o j))
    rw [pwS_succ]
    refine Nat.le_trans h1 (Nat.le_trans (Nat.mul_le_mul_right _ hn) ?_)
    rw [Nat.pow_succ]
    omega
/-- growth: what is at each state after t times -/
def vG (n al : Nat) (M : Nat → Nat → Nat) : Nat → Nat → Nat
  | 0, q => if al.testBit q then 1 else 0
  | t + 1, q => sN n (fun r => M q r * vG n al M t r)
theorem vG_succ (n al : Nat) (M : Nat → Nat → Nat) (t q : Nat) : vG n al M (t + 1) q = sN n (fun r => M q r * vG n al M t r) := rfl
theorem vG_le {n al : Nat} {M : Nat → Nat → Nat} (hn : n ≤ 16) (hM : ∀ i j, M i j ≤ 4) : ∀ t q, vG n al M t q ≤ 64 ^ t
  | 0, q => by
    unfold vG
    split <;> decide
  | t + 1, q => by
    have ih := vG_le (al := al) hn hM t
    have h1 := sN_le (f := fun r => M q r * vG n al M t r) (b := 4 * 64 ^ t) (n := n) (fun o _ => Nat.mul_le_mul (hM q o) (ih o))
    rw [vG_succ]
    refine Nat.le_trans h1 (Nat.le_trans (Nat.mul_le_mul_right _ hn) ?_)
    rw [Nat.pow_succ]
    omega
/-- two fractions compared, as the class does it -/
def sg (ng : Bool) : Int32 := if ng then -1 else nI 1
theorem sg_not (ng : Bool) : -(sg ng) = sg (!ng) := by cases ng <;> decide
def sdF : Nat → Bool → Nat → Nat → Nat → Nat → Int32
  | 0, ng, _, b, _, d => if b = 0 ∧ d = 0 then nI 0 else if b = 0 then sg ng else sg (!ng)
  | f + 1, ng, a, b, c, d => if b = 0 ∨ d = 0 then (if b = 0 ∧ d = 0 then nI 0 else if b = 0 then sg ng else sg (!ng)) else if a / b ≠ c / d then (if a / b < c / d then sg (!ng) else sg ng) else sdF f (!ng) b (a % b) d (c % d)
theorem sdF_end {f : Nat} {ng : Bool} {a b c d : Nat} (h : f = 0 ∨ b = 0 ∨ d = 0) : sdF f ng a b c d = if b = 0 ∧ d = 0 then nI 0 else if b = 0 then sg ng else sg (!ng) := by
  cases f with
  | zero => rfl
  | succ f => exact if_pos (by omega)
theorem sdF_ne {f : Nat} {ng : Bool} {a b c d : Nat} (h1 : ¬ b = 0) (h2 : ¬ d = 0) (h3 : ¬ a / b = c / d) : sdF (f + 1) ng a b c d = if a / b < c / d then sg (!ng) else sg ng := by
  show (if b = 0 ∨ d = 0 then _ else if a / b ≠ c / d then _ else _) = _
  rw [if_neg (by omega), if_pos h3]
theorem sdF_on {f : Nat} {ng : Bool} {a b c d : Nat} (h1 : ¬ b = 0) (h2 : ¬ d = 0) (h3 : a / b = c / d) : sdF (f + 1) ng a b c d = sdF f (!ng) b (a % b) d (c % d) := by
  show (if b = 0 ∨ d = 0 then _ else if a / b ≠ c / d then _ else _) = _
  rw [if_neg (by omega), if_neg (fun h => h h3)]
/-- two fractions, with room for all steps -/
def sd (a b c d : Nat) : Int32 := sdF 100 false a b c d
/-- the state with the utmost growth, by one too great; 0: none yet -/
def utC (al : Nat) (V B : Nat → Nat) (cp : Nat → Nat → Nat → Nat → Int32) (side : Int32) (m : Nat) : Nat := rr_fold (fun q x => if al.testBit q = true ∧ (x = 0 ∨ cp (V q) (B q) (V (x - 1)) (B (x - 1)) = side) then q + 1 else x) m 0
theorem utC_succ (al : Nat) (V B : Nat → Nat) (cp : Nat → Nat → Nat → Nat → Int32) (side : Int32) (m : Nat) : utC al V B cp side (m + 1) = if al.testBit m = true ∧ (utC al V B cp side m = 0 ∨ cp (V m) (B m) (V (utC al V B cp side m - 1)) (B (utC al V B cp side m - 1)) = side) then m + 1 else utC al V B cp side m := rfl
theorem utC_yes {al : Nat} {V B : Nat → Nat} {cp : Nat → Nat → Nat → Nat → Int32} {side : Int32} {m : Nat} (h1 : al.testBit m = true) (h2 : utC al V B cp side m = 0 ∨ cp (V m) (B m) (V (utC al V B cp side m - 1)) (B (utC al V B cp side m - 1)) = side) : utC al V B cp side (m + 1) = m + 1 := by rw [utC_succ, if_pos ⟨h1, h2⟩]
theorem utC_no1 {al : Nat} {V B : Nat → Nat} {cp : Nat → Nat → Nat → Nat → Int32} {side : Int32} {m : Nat} (h1 : al.testBit m = false) : utC al V B cp side (m + 1) = utC al V B cp side m := by rw [utC_succ, if_neg (fun h => by rw [h1] at h; exact absurd h.1 (by decide))]
theorem utC_no2 {al : Nat} {V B : Nat → Nat} {cp : Nat → Nat → Nat → Nat → Int32} {side : Int32} {m : Nat} (h0 : ¬ utC al V B cp side m = 0) (h2 : ¬ cp (V m) (B m) (V (utC al V B cp side m - 1)) (B (utC al V B cp side m - 1)) = side) : utC al V B cp side (m + 1) = utC al V B cp side m := by rw [utC_succ, if_neg (fun h => h.2.elim h0 h2)]
theorem utC_le (al : Nat) (V B : Nat → Nat) (cp : Nat → Nat → Nat → Nat → Int32) (side : Int32) : ∀ m, utC al V B cp side m ≤ m
  | 0 => Nat.le_refl _
  | m + 1 => by
    have ih := utC_le al V B cp side m
    rw [utC_succ]
    by_cases h : al.testBit m = true ∧ (utC al V B cp side m = 0 ∨ cp (V m) (B m) (V (utC al V B cp side m - 1)) (B (utC al V B cp side m - 1)) = side)
    · rw [if_pos h]; exact Nat.le_refl _
    · rw [if_neg h]; omega
theorem utC_congr {al : Nat} {V B V' B' : Nat → Nat} {cp : Nat → Nat → Nat → Nat → Int32} {side : Int32} {n : Nat} (h1 : ∀ q, q < n → V q = V' q) (h2 : ∀ q, q < n → B q = B' q) (m : Nat) (hm : m ≤ n) : utC al V B cp side m = utC al V' B' cp side m := by
  induction m with
  | zero => rfl
  | succ m ih =>
    have ih := ih (by omega)
    have hl := utC_le al V' B' cp side m
    rw [utC_succ, utC_succ, ih, h1 m (by omega), h2 m (by omega), h1 (utC al V' B' cp side m - 1) (by omega), h2 (utC al V' B' cp side m - 1) (by omega)]

/-- one round of weights -/
def wgS (n p : Nat) (P : Nat → Nat → Nat) (w : Nat → Nat) : Nat → Nat := fun q => if q < n then min (w q) (sN n (fun t => P q t * w t) >>> p) else w q
/-- the weights after so many rounds -/
def wgI (n p : Nat) (P : Nat → Nat → Nat) (L al : Nat) (r : Nat) : Nat → Nat := rr_it (wgS n p P) r (fun q => if al.testBit q then L else 0)
theorem wgI_succ (n p : Nat) (P : Nat → Nat → Nat) (L al r : Nat) : wgI n p P L al (r + 1) = wgS n p P (wgI n p P L al r) := rfl
theorem wgI_lt {n p : Nat} {P : Nat → Nat → Nat} {L al r q : Nat} (hq : q < n) : wgI n p P L al (r + 1) q = min (wgI n p P L al r q) (sN n (fun t => P q t * wgI n p P L al r t) >>> p) := by
  rw [wgI_succ]
  exact if_pos hq
theorem wgI_ge {n p : Nat} {P : Nat → Nat → Nat} {L al r q : Nat} (hq : ¬ q < n) : wgI n p P L al (r + 1) q = wgI n p P L al r q := by
  rw [wgI_succ]
  exact if_neg hq
theorem wgI_le {n p : Nat} {P : Nat → Nat → Nat} {L al : Nat} : ∀ r q, wgI n p P L al r q ≤ L
  | 0, q => by
    show (if al.testBit q = true then L else 0) ≤ L
    split
    · exact Nat.le_refl _
    · exact Nat.zero_le _
  | r + 1, q => by
    have ih := wgI_le (n := n) (p := p) (P := P) (L := L) (al := al) r q
    by_cases h : q < n
    · rw [wgI_lt h]; exact Nat.le_trans (Nat.min_le_left _ _) ih
    · rw [wgI_ge h]; exact ih
theorem wgI_fix {n p : Nat} {P : Nat → Nat → Nat} {L al r : Nat} (h : ∀ q, q < n → wgI n p P L al (r + 1) q = wgI n p P L al r q) : wgS n p P (wgI n p P L al (r + 1)) = wgI n p P L al (r + 1) := by
  have e : wgI n p P L al (r + 1) = wgI n p P L al r := funext fun q => by
    by_cases hq : q < n
    · exact h q hq
    · exact wgI_ge hq
  have e2 : wgS n p P (wgI n p P L al r) = wgI n p P L al (r + 1) := rfl
  rw [e, e2, e]
theorem wgI_end {n p : Nat} {P : Nat → Nat → Nat} {L al r j : Nat} (h : wgS n p P (wgI n p P L al r) = wgI n p P L al r) (hj : r ≤ j) : wgI n p P L al j = wgI n p P L al r := rr_it_fix h j hj
theorem wg_sum {n : Nat} {P : Nat → Nat → Nat} {w : Nat → Nat} {q L : Nat} (hn : n ≤ 16) (hq : q ≤ 3) (hL : L ≤ 100) (hP : ∀ i j, P i j ≤ 4 * 64 ^ q) (hw : ∀ t, w t ≤ L) (s : Nat) : sN n (fun t => P s t * w t) < 2 ^ 62 := by
  have h1 := sN_le (f := fun t => P s t * w t) (b := 4 * 64 ^ 3 * 100) (n := n) (fun t _ => Nat.mul_le_mul (Nat.le_trans (hP s t) (Nat.mul_le_mul_left 4 (Nat.pow_le_pow_right (by decide) hq))) (Nat.le_trans (hw t) hL))
  have h2 : n * (4 * 64 ^ 3 * 100) ≤ 16 * (4 * 64 ^ 3 * 100) := Nat.mul_le_mul_right _ hn
  have h3 : 16 * (4 * 64 ^ 3 * 100) < 2 ^ 62 := by decide
  omega
theorem rr_sl64 : ∀ n, n < 64 → ((((nI n).toInt64 &&& 63).toBitVec.smod 64).toNat) = n := by decide +kernel
theorem rr_lshr {a p : Nat} (ha : a < 2 ^ 62) (hp : p < 64) : lN a >>> ((nI p).toInt64 &&& 63) = lN (a >>> p) := by
  have hd : a / 2 ^ p ≤ a := Nat.div_le_self _ _
  apply Int64.toInt_inj.mp
  have e : ∀ D : Int64, (lN a >>> D).toInt = (lN a).toInt >>> (D.toBitVec.smod 64).toNat := fun D => by
    exact BitVec.toInt_sshiftRight ..
  rw [e, rr_sl64 p hp, Int.shiftRight_eq_div_pow, pk_lT (by omega), Nat.shiftRight_eq_div_pow, pk_lT (by omega)]
  rfl
theorem rr_minL {a b : Nat} (ha : a < 2 ^ 63) (hb : b < 2 ^ 63) : (if lN b < lN a then lN b else lN a) = lN (min a b) := by
  by_cases h : b < a
  · rw [if_pos ((pk_lLT hb ha).mpr h), Nat.min_eq_right (by omega)]
  · rw [if_neg (fun q => h ((pk_lLT hb ha).mp q)), Nat.min_eq_left (by omega)]
theorem um0 {u : Nat} (h : u ≤ 16) (h0 : nI u - 1 < 0) : u = 0 := by
  have key : ∀ u : Fin 17, nI u.1 - 1 < 0 → u.1 = 0 := by decide +kernel
  exact key ⟨u, by omega⟩ h0
theorem um1 {u : Nat} (h : ¬ u = 0) : nI u - 1 = nI (u - 1) := by
  obtain ⟨k, rfl⟩ : ∃ k, u = k + 1 := ⟨u - 1, by omega⟩
  exact nI_pred k
theorem um2 {u : Nat} (h : u ≤ 16) (h0 : ¬ nI u - 1 < 0) : ¬ u = 0 := fun e => h0 (by rw [e]; decide)
theorem um_max {u : Nat} (h : u ≤ 16) : (if nI u - 1 < nI 0 then nI 0 else nI u - 1) = nI (u - 1) := by
  have key : ∀ u : Fin 17, (if nI u.1 - 1 < nI 0 then nI 0 else nI u.1 - 1) = nI (u.1 - 1) := by decide +kernel
  exact key ⟨u, by omega⟩
theorem um_0 : nI 0 - 1 = (-1 : Int32) := by decide
/-- growth's answer -/
def grB (n k al : Nat) (E : Nat → Nat) (t wh : Nat) : Nat := utC al (vG n al (aMy al E k) (t + 1)) (vG n al (aMy al E k) t) sd (if wh < 2 then -1 else nI 1) n - 1
def grV (n k al : Nat) (E : Nat → Nat) (t wh : Nat) : Nat := (if wh &&& 1 = 0 then vG n al (aMy al E k) (t + 1) (grB n k al E t wh) else vG n al (aMy al E k) t (grB n k al E t wh)) / Nat.gcd (vG n al (aMy al E k) (t + 1) (grB n k al E t wh)) (vG n al (aMy al E k) t (grB n k al E t wh))
theorem aMy4 {k al : Nat} {E : Nat → Nat} (hk : k ≤ 4) (i j : Nat) : aMy al E k i j ≤ 4 := Nat.le_trans (aMy_le al E k i j) hk
theorem cpy_in {f g : Nat → Nat} {j n : Nat} (h : j < n) : va_cpy f g 0 0 n j = f j := by
  unfold va_cpy
  rw [if_pos ⟨Nat.zero_le _, by omega⟩, Nat.sub_zero, Nat.zero_add]
