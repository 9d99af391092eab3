/-! the law's model: its cells, its words -/
def XM (K : rr_K) (om : Nat) (ad : Nat → Nat) (ns wl nf wd mt : Nat) (kF nF yF WD FL FW TD RW pl nw xt vF wF qF bY gF : Nat → Nat) (nm xm : Nat → Int64) (fR oF hF dF : Nat → Int32) : va_W := [(om, .inr (10, [.int (nI ns), .ref (ad 1), .ref (ad 2), .ref (ad 3), .int (nI wl), .ref (ad 5), .int (nI nf), .ref (ad 7), .ref (ad 8), .int (nI wd), .ref (ad 10), .ref (ad 11), .ref (ad 12), .ref (ad 13), .ref (ad 14), .ref (ad 15), .ref (ad 16), .ref (ad 17), .ref (ad 18), .ref (ad 19), .ref (ad 20), .ref (ad 21), .ref (ad 22), .ref (ad 23), .int (nI mt), .ref (ad 25), .ref (ad 26)])),
  (ad 1, .inl (K.2.1, 6, .inl (fun j => nI (kF j)))), (ad 2, .inl (K.2.1, 6, .inl (fun j => nI (nF j)))), (ad 3, .inl (K.2.1, 384, .inl (fun j => nI (yF j)))), (ad 5, .inl (K.2.1, 30, .inl (fun j => nI (WD j)))), (ad 7, .inl (K.2.1, 8, .inl (fun j => nI (FL j)))), (ad 8, .inl (K.2.1, 40, .inl (fun j => nI (FW j)))), (ad 10, .inl (K.2.1, 64, .inl (fun j => nI (TD j)))), (ad 11, .inl (K.2.1, 5, .inl (fun j => nI (RW j)))),
  (ad 12, .inl (K.2.1, 65536, .inl (fun j => nI (pl j)))), (ad 13, .inl (K.2.1, 65536, .inl (fun j => nI (nw j)))), (ad 14, .inl (K.2.2.1, 65536, .inr (.inl nm))), (ad 15, .inl (K.2.1, 65536, .inl (fun j => nI (xt j)))), (ad 16, .inl (K.2.2.1, 65536, .inr (.inl xm))), (ad 17, .inl (K.2.2.1, 16, .inr (.inl (fun j => lN (vF j))))), (ad 18, .inl (K.2.2.1, 16, .inr (.inl (fun j => lN (wF j))))), (ad 19, .inl (K.2.2.1, 20001, .inr (.inl (fun j => lN (qF j))))),
  (ad 20, .inl (K.2.1, 20001, .inl fR)), (ad 21, .inl (K.2.1, 20001, .inl (fun j => nI (bY j)))), (ad 22, .inl (K.2.1, 20001, .inl oF)), (ad 23, .inl (K.2.1, 32768, .inl hF)), (ad 25, .inl (K.2.1, 16, .inl dF)), (ad 26, .inl (K.2.2.1, 16, .inr (.inl (fun j => lN (gF j)))))]
/-- a number of a set -/
def isS (ns : Nat) (x : Int32) : Bool := rrin x (nI 0) (nI ns - nI 1)
theorem isS_pred {ns : Nat} (h : 0 < ns) : nI ns - nI 1 = nI (ns - 1) := pk_sub h
theorem isS_j {ns j : Nat} (hj : j < ns) (hn : ns < 2 ^ 31) : isS ns (nI j) = true := by
  unfold isS
  rw [isS_pred (by omega)]
  exact rrin_yes hj hn
theorem isS_of {ns : Nat} {x : Int32} (hn : ns < 2 ^ 31) (h : isS ns x = true) : ∃ j, j < ns ∧ x = nI j := by
  unfold isS at h
  cases ns with
  | zero =>
    unfold rrin at h
    simp only [Bool.and_eq_true, Bool.not_eq_true', decide_eq_false_iff_not] at h
    obtain ⟨h1, h2⟩ := h
    rw [Int32.lt_iff_toInt_lt] at h1 h2
    have e1 : (nI 0).toInt = 0 := by decide
    have e2 : (nI 0 - nI 1).toInt = -1 := by decide
    rw [e1] at h1
    rw [e2] at h2
    omega
  | succ n =>
    rw [isS_pred (by omega), Nat.add_sub_cancel] at h
    obtain ⟨j, h1, h2, h3⟩ := rrin_nat (by omega) h (by omega)
    exact ⟨j, by omega, h3⟩
/-- a number of a state of a set -/
def okQ (ns : Nat) (nF : Nat → Nat) (x q : Int32) : Bool := isS ns x && isS (nF x.toNatClampNeg) q
theorem okQ_j {ns : Nat} {nF : Nat → Nat} {x q : Int32} {j : Nat} (hj : j < 2 ^ 31) (e : x = nI j) : okQ ns nF x q = (isS ns x && isS (nF j) q) := by
  unfold okQ
  rw [e, nI_clamp hj]
def okW (ns : Nat) (kF nF : Nat → Nat) (x f y t : Int32) : Bool := okQ ns nF x f && (okQ ns nF x t && isS (kF x.toNatClampNeg) y)
theorem okW_j {ns : Nat} {kF nF : Nat → Nat} {x f y t : Int32} {j : Nat} (hj : j < 2 ^ 31) (e : x = nI j) : okW ns kF nF x f y t = (okQ ns nF x f && (okQ ns nF x t && isS (kF j) y)) := by
  unfold okW
  rw [e, nI_clamp hj]
/-- the ends of the ways of a set -/
def Es (yF : Nat → Nat) (x i : Nat) : Nat := yF (64 * x + i)
def oU (k : Nat) (E : Nat → Nat) (q : Nat) : Nat := orN k (fun y => E (q * 4 + y))
theorem oU_lt {k : Nat} {E : Nat → Nat} {q : Nat} (hk : k ≤ 4) (hq : q < 16) (hE : ∀ i, i < 64 → E i < 65536) : ∀ j, j ≤ k → orN j (fun y => E (q * 4 + y)) < 65536
  | 0, _ => (show (0 : Nat) < 65536 by decide)
  | j + 1, hj => by
    rw [orN_succ]
    exact Nat.or_lt_two_pow (n := 16) (oU_lt hk hq hE j (by omega)) (hE _ (by omega))
theorem lO_oU (k al : Nat) (E : Nat → Nat) (q : Nat) : lO k al E q = if al.testBit q = true then oU k E q &&& al else 0 := by
  unfold lO oU
  induction k with
  | zero =>
    show (0 : Nat) = _
    split
    · exact (Nat.zero_and al).symm
    · rfl
  | succ k ih =>
    rw [orN_succ, orN_succ, ih]
    unfold lvE
    by_cases h : al.testBit q = true
    · rw [if_pos h, if_pos h, if_pos h, Nat.and_or_distrib_right]
    · rw [if_neg h, if_neg h, if_neg h]; rfl
/-- ways from a state to another one -/
def wB (k : Nat) (E : Nat → Nat) (q r : Nat) : Nat := sN k (fun y => ((E (q * 4 + y)).testBit r).toNat)
theorem wB_le (k : Nat) (E : Nat → Nat) (q r : Nat) : wB k E q r ≤ k := by
  have := sN_le (f := fun y => ((E (q * 4 + y)).testBit r).toNat) (b := 1) (n := k) (fun z _ => bit_le _)
  unfold wB
  omega
theorem sN_zero : ∀ n, sN n (fun _ => 0) = 0
  | 0 => rfl
  | n + 1 => by rw [sN_succ, sN_zero n]
theorem aMy_yes {k al : Nat} {E : Nat → Nat} {q r : Nat} (h1 : al.testBit q = true) (h2 : al.testBit r = true) : aMy al E k q r = wB k E q r := by
  unfold aMy wB
  refine sN_congr (fun y _ => ?_)
  unfold lvE
  rw [if_pos h1, Nat.testBit_and, h2, Bool.and_true]
theorem aMy_no1 {k al : Nat} {E : Nat → Nat} {q r : Nat} (h1 : al.testBit q = false) : aMy al E k q r = 0 := by
  unfold aMy
  rw [sN_congr (g := fun _ => 0) (fun y _ => by unfold lvE; rw [if_neg (by rw [h1]; decide), Nat.zero_testBit]; rfl), sN_zero]
theorem aMy_no2 {k al : Nat} {E : Nat → Nat} {q r : Nat} (h2 : al.testBit r = false) : aMy al E k q r = 0 := by
  unfold aMy
  rw [sN_congr (g := fun _ => 0) (fun y _ => by
    unfold lvE
    split
    · rw [Nat.testBit_and, h2, Bool.and_false]; rfl
    · rw [Nat.zero_testBit]; rfl), sN_zero]
/-- what a letter leads to, of the states below m -/
def ldq (f : Nat) (E : Nat → Nat) (y q : Nat) : Nat := if f.testBit q = true then E (q * 4 + y) else 0
theorem ldq_lt {f y : Nat} {E : Nat → Nat} (hy : y < 4) (hE : ∀ i, i < 64 → E i < 65536) : ∀ m, m ≤ 16 → orN m (ldq f E y) < 65536
  | 0, _ => (show (0 : Nat) < 65536 by decide)
  | m + 1, hm => by
    rw [orN_succ]
    refine Nat.or_lt_two_pow (n := 16) (ldq_lt hy hE m (by omega)) ?_
    unfold ldq
    split
    · exact hE _ (by omega)
    · decide
theorem ldS_eq {k n al f y m : Nat} {E : Nat → Nat} (hm : y < k ∨ m = 0) (hx : ¬ m < n ∨ ¬ y < k) (hmn : m ≤ n) : orN m (ldq f E y) &&& al = ldS k n E al f y := by
  unfold ldS
  by_cases h : y < k
  · rw [if_pos h, show m = n by omega]; rfl
  · rw [if_neg h, show m = 0 by omega]; exact Nat.zero_and al
/-- what is left, one round more -/
theorem lst_mod (k n : Nat) (E : Nat → Nat) (al : Nat) : (al &&& orN n (lO k al E)) &&& orN n (ldg (lO k al E)) = lst k n E al := by
  unfold lst
  have h1 : al &&& orN n (lO k al E) = orN n (lO k al E) := by
    rw [Nat.and_comm]
    exact sub_orN (fun q _ => lO_sub k al E q)
  rw [h1, Nat.and_comm]
theorem liveS_it {k n : Nat} {E : Nat → Nat} {i x : Nat} (hx : x = rr_it (lst k n E) i (2 ^ n - 1)) (h : lst k n E x = x) : x = liveS k n E := by
  rw [hx] at h ⊢
  exact it_live h
theorem live_more {k n : Nat} {E : Nat → Nat} {i x : Nat} (hx : x = rr_it (lst k n E) i (2 ^ n - 1)) (hi : i ≤ n) (h : ¬ lst k n E x = x) : i + 1 ≤ n := by
  rcases Nat.lt_or_ge i n with q | q
  · exact q
  · obtain rfl : i = n := by omega
    exact absurd (by rw [hx]; exact liveS_rest k i E) h
theorem liveS_lt16 {k n : Nat} {E : Nat → Nat} (hn : n ≤ 16) : liveS k n E < 65536 := Nat.lt_of_lt_of_le (liveS_lt k n E) (Nat.le_trans (Nat.pow_le_pow_right (by decide) hn) (by decide))
def zrF (yF : Nat → Nat) (a m : Nat) : Nat → Nat := fun i => if a ≤ i ∧ i < a + m then 0 else yF i
theorem zrF_0 (yF : Nat → Nat) (a : Nat) : zrF yF a 0 = yF := by
  funext i
  unfold zrF
  rw [if_neg (by omega)]
theorem zrF_step (yF : Nat → Nat) (a m : Nat) : va_up (zrF yF a m) (a + m) 0 = zrF yF a (m + 1) := by
  funext i
  unfold va_up zrF
  by_cases h : i = a + m
  · rw [if_pos h, if_pos (by omega)]
  · rw [if_neg h]
    by_cases h2 : a ≤ i ∧ i < a + m
    · rw [if_pos h2, if_pos (by omega)]
    · rw [if_neg h2, if_neg (by omega)]
