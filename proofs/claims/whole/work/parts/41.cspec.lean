/-! parts of a set: the least state of a row of bits, the members of a part -/
def lstI (x : Nat) : Nat → Nat → Nat
  | 0, i => i
  | f + 1, i => if x.testBit i then i else lstI x f (i + 1)
/-- the least bit below 16, or 16 -/
def lst16 (x : Nat) : Nat := lstI x 16 0
def mbF (rF : Nat → Nat) (st m : Nat) : Nat := rr_fold (fun j x => if (rF st).testBit j ∧ (rF j).testBit st then x ||| 1 <<< j else x) m (1 <<< st)
theorem mbF_succ (rF : Nat → Nat) (st m : Nat) : mbF rF st (m + 1) = if (rF st).testBit m ∧ (rF m).testBit st then mbF rF st m ||| 1 <<< m else mbF rF st m := rfl
def XW6 (K : rr_K) (xo xr xf : Nat) (rF : Nat → Nat) (fF : Nat → Int32) : va_W := [(xo, .inr (6, [.ref xr, .ref xf])), (xr, .inl (K.2.1, 16, .inl (fun j => nI (rF j)))), (xf, .inl (K.2.1, 16, .inl fF))]
theorem lstI_step {x i : Nat} (hi : i < 16) (h : ¬ x.testBit i = true) : lstI x (16 - i) i = lstI x (16 - (i + 1)) (i + 1) := by
  rw [show 16 - i = 16 - (i + 1) + 1 by omega]
  show (if x.testBit i then i else lstI x (16 - (i + 1)) (i + 1)) = _
  rw [if_neg h]
theorem lstI_hit {x i : Nat} (hi : i < 16) (h : x.testBit i = true) : lstI x (16 - i) i = i := by
  rw [show 16 - i = 16 - (i + 1) + 1 by omega]
  show (if x.testBit i then i else lstI x (16 - (i + 1)) (i + 1)) = _
  rw [if_pos h]
theorem mbF_lt {rF : Nat → Nat} {st : Nat} (hs : st < 16) : ∀ {m : Nat}, m ≤ 16 → mbF rF st m < 65536
  | 0, _ => by
    show 1 <<< st < 2 ^ 16
    rw [Nat.one_shiftLeft]
    exact Nat.pow_lt_pow_right (by decide) hs
  | m + 1, h => by
    have ih := mbF_lt (rF := rF) hs (show m ≤ 16 by omega)
    rw [mbF_succ]
    split
    · refine Nat.or_lt_two_pow (n := 16) ih ?_
      rw [Nat.one_shiftLeft]
      exact Nat.pow_lt_pow_right (by decide) (by omega)
    · exact ih
theorem mbF_yes {rF : Nat → Nat} {st m : Nat} (h1 : (rF st).testBit m = true) (h2 : (rF m).testBit st = true) : mbF rF st (m + 1) = mbF rF st m ||| 1 <<< m := by rw [mbF_succ, if_pos ⟨h1, h2⟩]
theorem mbF_no1 {rF : Nat → Nat} {st m : Nat} (h1 : (rF st).testBit m = false) : mbF rF st (m + 1) = mbF rF st m := by rw [mbF_succ, if_neg (fun q => by rw [h1] at q; exact absurd q.1 (by decide))]
theorem mbF_no2 {rF : Nat → Nat} {st m : Nat} (h2 : (rF m).testBit st = false) : mbF rF st (m + 1) = mbF rF st m := by rw [mbF_succ, if_neg (fun q => by rw [h2] at q; exact absurd q.2 (by decide))]
/-- one step of what is reached over a state -/
def fr1 (ov q : Nat) (f : Nat → Nat) : Nat → Nat := if (f q).testBit ov then va_up f q (f q ||| f ov) else f
def frI (ov m : Nat) (f : Nat → Nat) : Nat → Nat := rr_fold (fr1 ov) m f
def frO (n m : Nat) (f : Nat → Nat) : Nat → Nat := rr_fold (fun ov g => frI ov n g) m f
theorem frI_succ (ov m : Nat) (f : Nat → Nat) : frI ov (m + 1) f = fr1 ov m (frI ov m f) := rfl
theorem frO_succ (n m : Nat) (f : Nat → Nat) : frO n (m + 1) f = frI m n (frO n m f) := rfl
theorem fr1_lt {ov q : Nat} {f : Nat → Nat} (ho : ov < 16) (h : ∀ j, j < 16 → f j < 65536) : ∀ j, j < 16 → fr1 ov q f j < 65536 := fun j hj => by
  unfold fr1
  split
  · unfold va_up
    split
    · rename_i e
      exact Nat.or_lt_two_pow (n := 16) (h q (by omega)) (h ov ho)
    · exact h j hj
  · exact h j hj
theorem frI_lt {ov : Nat} {f : Nat → Nat} (ho : ov < 16) (h : ∀ j, j < 16 → f j < 65536) : ∀ m, ∀ j, j < 16 → frI ov m f j < 65536
  | 0 => h
  | m + 1 => by rw [frI_succ]; exact fr1_lt ho (frI_lt ho h m)
theorem frO_lt {n : Nat} {f : Nat → Nat} (h : ∀ j, j < 16 → f j < 65536) : ∀ m, m ≤ 16 → ∀ j, j < 16 → frO n m f j < 65536
  | 0, _ => h
  | m + 1, hm => by rw [frO_succ]; exact frI_lt (by omega) (frO_lt h m (by omega)) n
def fr0 (n k al : Nat) (E : Nat → Nat) : Nat → Nat := fun q => if q < n then orN k (lvE al E q) else 0
theorem fr0_lt {n k al : Nat} {E : Nat → Nat} (h : ∀ q, orN k (lvE al E q) < 65536) : ∀ j, fr0 n k al E j < 65536 := fun j => by
  unfold fr0
  split
  · exact h j
  · decide
theorem orE_lt {k al : Nat} {E : Nat → Nat} (hal : al < 65536) (q : Nat) : orN k (lvE al E q) < 65536 := by
  induction k with
  | zero => exact (show (0 : Nat) < 65536 by decide)
  | succ k ih =>
    rw [orN_succ]
    exact Nat.or_lt_two_pow (n := 16) ih (lvE_lt (b := 16) hal E q k)
theorem fr1_congr {ov q : Nat} {f g : Nat → Nat} (ho : ov < 16) (hq : q < 16) (h : ∀ j, j < 16 → f j = g j) : ∀ j, j < 16 → fr1 ov q f j = fr1 ov q g j := fun j hj => by
  unfold fr1
  rw [h q hq, h ov ho]
  split
  · unfold va_up
    split
    · rfl
    · exact h j hj
  · exact h j hj
theorem frI_congr {ov : Nat} {f g : Nat → Nat} (ho : ov < 16) (h : ∀ j, j < 16 → f j = g j) : ∀ m, m ≤ 16 → ∀ j, j < 16 → frI ov m f j = frI ov m g j
  | 0, _ => h
  | m + 1, hm => by rw [frI_succ, frI_succ]; exact fr1_congr ho (by omega) (frI_congr ho h m (by omega))
theorem frO_congr {n : Nat} {f g : Nat → Nat} (hn : n ≤ 16) (h : ∀ j, j < 16 → f j = g j) : ∀ m, m ≤ 16 → ∀ j, j < 16 → frO n m f j = frO n m g j
  | 0, _ => h
  | m + 1, hm => by rw [frO_succ, frO_succ]; exact frI_congr (by omega) (frO_congr hn h m (by omega)) n hn
theorem mbF_congr {f g : Nat → Nat} {st : Nat} (hs : st < 16) (h : ∀ j, j < 16 → f j = g j) : ∀ m, m ≤ 16 → mbF f st m = mbF g st m
  | 0, _ => rfl
  | m + 1, hm => by rw [mbF_succ, mbF_succ, h st hs, h m (by omega), mbF_congr hs h m (by omega)]
/-- the part of a state, by the ways of the set -/
def prM (n k al : Nat) (E : Nat → Nat) (st : Nat) : Nat := mbF (frO n n (fr0 n k al E)) st 16
def hmP (n k al : Nat) (E : Nat → Nat) (m : Nat) : Nat := rr_fold (fun q s => if al.testBit q ∧ lst16 (prM n k al E q) = q then s + 1 else s) m 0
theorem hmP_succ (n k al : Nat) (E : Nat → Nat) (m : Nat) : hmP n k al E (m + 1) = if al.testBit m ∧ lst16 (prM n k al E m) = m then hmP n k al E m + 1 else hmP n k al E m := rfl
theorem hmP_yes {n k al m : Nat} {E : Nat → Nat} (h1 : al.testBit m = true) (h2 : lst16 (prM n k al E m) = m) : hmP n k al E (m + 1) = hmP n k al E m + 1 := by rw [hmP_succ, if_pos ⟨h1, h2⟩]
theorem hmP_no1 {n k al m : Nat} {E : Nat → Nat} (h1 : al.testBit m = false) : hmP n k al E (m + 1) = hmP n k al E m := by rw [hmP_succ, if_neg (fun q => by rw [h1] at q; exact absurd q.1 (by decide))]
theorem hmP_no2 {n k al m : Nat} {E : Nat → Nat} (h2 : ¬ lst16 (prM n k al E m) = m) : hmP n k al E (m + 1) = hmP n k al E m := by rw [hmP_succ, if_neg (fun q => h2 q.2)]
theorem hmP_le (n k al : Nat) (E : Nat → Nat) : ∀ m, hmP n k al E m ≤ m
  | 0 => Nat.le_refl _
  | m + 1 => by
    have := hmP_le n k al E m
    rw [hmP_succ]
    split <;> omega
theorem lstI_le (x : Nat) : ∀ f i, lstI x f i ≤ i + f
  | 0, i => Nat.le_refl _
  | f + 1, i => by
    have := lstI_le x f (i + 1)
    unfold lstI
    split <;> omega
theorem lst16_le (x : Nat) : lst16 x ≤ 16 := by
  have := lstI_le x 16 0
  unfold lst16
  omega
/-! how far the states of a part are -/
def andN (a s : Nat) : Nat := a &&& (65535 ^^^ s)
/-- one level: distances (by one too great), and what lies behind -/
def mI (lo : Nat → Nat) (d ed m : Nat) (f : Nat → Nat) : (Nat → Nat) × Nat := rr_fold (fun q x => if ed.testBit q then (va_up x.1 q (d + 1), x.2 ||| lo q) else x) m (f, 0)
theorem mI_yes {lo : Nat → Nat} {d ed m : Nat} {f : Nat → Nat} (h : ed.testBit m = true) : mI lo d ed (m + 1) f = (va_up (mI lo d ed m f).1 m (d + 1), (mI lo d ed m f).2 ||| lo m) := by
  unfold mI
  rw [rr_fold_succ, if_pos h]
theorem mI_no {lo : Nat → Nat} {d ed m : Nat} {f : Nat → Nat} (h : ed.testBit m = false) : mI lo d ed (m + 1) f = mI lo d ed m f := by
  unfold mI
  rw [rr_fold_succ, if_neg (by rw [h]; decide)]
theorem mI_lt {lo : Nat → Nat} {d ed : Nat} {f : Nat → Nat} (h : ∀ q, lo q < 65536) : ∀ m, (mI lo d ed m f).2 < 65536
  | 0 => (show (0 : Nat) < 65536 by decide)
  | m + 1 => by
    have ih := mI_lt (d := d) (ed := ed) (f := f) h m
    rcases Bool.eq_false_or_eq_true (ed.testBit m) with q | q
    · rw [mI_yes q]; exact Nat.or_lt_two_pow (n := 16) ih (h m)
    · rw [mI_no q]; exact ih
def bfS (lo : Nat → Nat) (n mb st : Nat) : Nat → (Nat → Nat) × Nat × Nat
  | 0 => (fun _ => 0, 1 <<< st, 1 <<< st)
  | d + 1 => ((mI lo d (bfS lo n mb st d).2.2 n (bfS lo n mb st d).1).1, (bfS lo n mb st d).2.1 ||| andN ((mI lo d (bfS lo n mb st d).2.2 n (bfS lo n mb st d).1).2 &&& mb) (bfS lo n mb st d).2.1, andN ((mI lo d (bfS lo n mb st d).2.2 n (bfS lo n mb st d).1).2 &&& mb) (bfS lo n mb st d).2.1)
theorem andN_eq {a s : Nat} (ha : a < 65536) : nI a &&& (nI s ^^^ (-1)) = nI (andN a s) := by
  rw [show (-1 : Int32) = nI 4294967295 from by decide, rr_xor, rr_and]
  refine congrArg nI ?_
  unfold andN
  apply Nat.eq_of_testBit_eq
  intro i
  rw [Nat.testBit_and, Nat.testBit_and, Nat.testBit_xor, Nat.testBit_xor, show (4294967295 : Nat) = 2 ^ 32 - 1 from rfl, show (65535 : Nat) = 2 ^ 16 - 1 from rfl, Nat.testBit_two_pow_sub_one, Nat.testBit_two_pow_sub_one]
  by_cases h : i < 16
  · rw [decide_eq_true h, decide_eq_true (by omega : i < 32), Bool.xor_comm]
  · rw [Nat.testBit_lt_two_pow (x := a) (i := i) (Nat.lt_of_lt_of_le ha (Nat.pow_le_pow_right (n := 2) (i := 16) (by decide) (by omega)))]
    rfl
theorem andN_le (a s : Nat) : andN a s ≤ a := Nat.and_le_left
theorem bfS_lt {lo : Nat → Nat} {n mb st : Nat} (hst : st < 16) (hm : mb < 65536) : ∀ d, (bfS lo n mb st d).2.1 < 65536 ∧ (bfS lo n mb st d).2.2 < 65536
  | 0 => by
    have : 1 <<< st < 2 ^ 16 := by rw [Nat.one_shiftLeft]; exact Nat.pow_lt_pow_right (by decide) hst
    exact ⟨this, this⟩
  | d + 1 => by
    have ih := bfS_lt (lo := lo) (n := n) hst hm d
    have h1 : andN ((mI lo d (bfS lo n mb st d).2.2 n (bfS lo n mb st d).1).2 &&& mb) (bfS lo n mb st d).2.1 < 65536 := Nat.lt_of_le_of_lt (andN_le _ _) (Nat.lt_of_le_of_lt Nat.and_le_right hm)
    exact ⟨Nat.or_lt_two_pow (n := 16) ih.1 h1, h1⟩
theorem mI_le {lo : Nat → Nat} {d ed c : Nat} {f : Nat → Nat} (h : ∀ j, f j ≤ c) (hc : d + 1 ≤ c) : ∀ m j, (mI lo d ed m f).1 j ≤ c
  | 0 => h
  | m + 1 => fun j => by
    have ih := mI_le (lo := lo) (ed := ed) h hc m
    rcases Bool.eq_false_or_eq_true (ed.testBit m) with q | q
    · rw [mI_yes q]
      show va_up (mI lo d ed m f).1 m (d + 1) j ≤ c
      unfold va_up
      split
      · exact hc
      · exact ih j
    · rw [mI_no q]; exact ih j
theorem bfS_le {lo : Nat → Nat} {n mb st : Nat} : ∀ d j, (bfS lo n mb st d).1 j ≤ d
  | 0, _ => Nat.le_refl _
  | d + 1, j => mI_le (fun j => Nat.le_trans (bfS_le d j) (by omega)) (Nat.le_refl _) n j
def absd (a b : Nat) : Nat := a - b + (b - a)
theorem absd_eq {a b : Nat} (ha : a ≤ 100) (hb : b ≤ 100) : (if 0 ≤ nI a - 1 + 1 - (nI b - 1) then nI a - 1 + 1 - (nI b - 1) else 0 - (nI a - 1 + 1 - (nI b - 1))) = nI (absd (a + 1) b) := by
  have h : ∀ a : Fin 101, ∀ b : Fin 101, (if 0 ≤ nI a.1 - 1 + 1 - (nI b.1 - 1) then nI a.1 - 1 + 1 - (nI b.1 - 1) else 0 - (nI a.1 - 1 + 1 - (nI b.1 - 1))) = nI (absd (a.1 + 1) b.1) := by decide +kernel
  exact h ⟨a, by omega⟩ ⟨b, by omega⟩
def pcF (gF : Nat → Nat) (frm ends m x : Nat) : Nat := rr_fold (fun t x => if ends.testBit t then Nat.gcd x (absd (gF frm + 1) (gF t)) else x) m x
theorem pcF_yes {gF : Nat → Nat} {frm ends m x : Nat} (h : ends.testBit m = true) : pcF gF frm ends (m + 1) x = Nat.gcd (pcF gF frm ends m x) (absd (gF frm + 1) (gF m)) := by
  unfold pcF
  rw [rr_fold_succ, if_pos h]
theorem pcF_no {gF : Nat → Nat} {frm ends m x : Nat} (h : ends.testBit m = false) : pcF gF frm ends (m + 1) x = pcF gF frm ends m x := by
  unfold pcF
  rw [rr_fold_succ, if_neg (by rw [h]; decide)]
theorem gcd_le_max {x y c : Nat} (hx : x ≤ c) (hy : y ≤ c) : Nat.gcd x y ≤ c := by
  rcases Nat.eq_zero_or_pos x with q | q
  · rw [q, Nat.gcd_zero_left]; exact hy
  · exact Nat.le_trans (Nat.gcd_le_left y q) hx
theorem pcF_le {gF : Nat → Nat} {frm ends x c : Nat} (hg : ∀ j, gF j ≤ 16) (hx : x ≤ c) (hc : 17 ≤ c) : ∀ m, pcF gF frm ends m x ≤ c
  | 0 => hx
  | m + 1 => by
    have ih := pcF_le (frm := frm) (ends := ends) hg hx hc m
    rcases Bool.eq_false_or_eq_true (ends.testBit m) with q | q
    · rw [pcF_yes q]
      refine gcd_le_max ih ?_
      have := hg frm
      have := hg m
      unfold absd
      omega
    · rw [pcF_no q]; exact ih
/-! the pace of a part -/
def pcO (gF lo : Nat → Nat) (mb m : Nat) : Nat := rr_fold (fun q x => if mb.testBit q then pcF gF q (lo q &&& mb) 16 x else x) m 0
theorem pcO_yes {gF lo : Nat → Nat} {mb m : Nat} (h : mb.testBit m = true) : pcO gF lo mb (m + 1) = pcF gF m (lo m &&& mb) 16 (pcO gF lo mb m) := by
  unfold pcO
  rw [rr_fold_succ, if_pos h]
theorem pcO_no {gF lo : Nat → Nat} {mb m : Nat} (h : mb.testBit m = false) : pcO gF lo mb (m + 1) = pcO gF lo mb m := by
  unfold pcO
  rw [rr_fold_succ, if_neg (by rw [h]; decide)]
theorem pcO_le {gF lo : Nat → Nat} {mb : Nat} (hg : ∀ j, gF j ≤ 16) : ∀ m, pcO gF lo mb m ≤ 17
  | 0 => Nat.zero_le _
  | m + 1 => by
    have ih := pcO_le (lo := lo) (mb := mb) hg m
    rcases Bool.eq_false_or_eq_true (mb.testBit m) with q | q
    · rw [pcO_yes q]; exact pcF_le hg ih (Nat.le_refl _) 16
    · rw [pcO_no q]; exact ih
theorem nI_u (x : Int32) : nI x.toUInt32.toNat = x := by
  apply Int32.toBitVec_inj.1
  apply BitVec.eq_of_toNat_eq
  show (BitVec.ofNat 32 x.toBitVec.toNat).toNat = x.toBitVec.toNat
  rw [BitVec.toNat_ofNat]
  exact Nat.mod_eq_of_lt x.toBitVec.isLt
theorem nI_m1 : (nI 4294967295 : Int32) = nI 0 - 1 := by decide
/-- a row of numbers as a row of Nats -/
theorem rI_u (f : Nat → Int32) : (fun j => nI ((f j).toUInt32.toNat)) = f := funext fun j => nI_u (f j)
theorem absd_le {a b : Nat} (ha : a ≤ 17) (hb : b ≤ 17) : absd a b ≤ 17 := by
  unfold absd
  omega
