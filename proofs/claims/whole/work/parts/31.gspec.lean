/-! the search whether a window maps, as one machine -/
def QW1 (K : rr_K) (qo mo : Nat) : va_W := [(qo, .inr (2, [.ref mo]))]
def bhdR (key l : Nat) : Nat := (key >>> 16 &&& 15) <<< 2 ||| l
def bhd (wd : Nat) (TD : Nat → Nat) (sb : Nat → Nat → Nat) (key l : Nat) : Nat :=
  if key >>> 20 &&& 3 < wd - 1 then ((key >>> 20 &&& 3) + 1) <<< 20 ||| (bhdR key l &&& 15) <<< 16 ||| (key &&& 65535)
  else (key >>> 20 &&& 3) <<< 20 ||| (bhdR key l &&& (2 ^ (2 * wd) >>> 2) - 1) <<< 16 ||| sb (key &&& 65535) (if bhdR key l < 2 ^ (2 * wd) then TD (bhdR key l) else 0)
def mA1 (sts rest : Nat) (s : Nat) (x : List Nat × Nat) : List Nat × Nat := if sts.testBit s then (adK x.1 (s <<< 22 ||| rest), capN x.2 x.1.length) else x
def mAll (sts rest : Nat) (x : List Nat × Nat) : List Nat × Nat := rr_fold (mA1 sts rest) 16 x
def mgo (ea bh : Nat → Nat → Nat) (k : Nat) : Nat → Nat → Nat → List Nat → Nat → Nat × (List Nat × Nat)
  | 0, _, _, kn, cap => (3, (kn, cap))
  | f + 1, p, l, kn, cap =>
    if p < kn.length then
      if l < k then
        if ea (kn.getD p 0 >>> 22 &&& 15) l = 0 then mgo ea bh k f p (l + 1) kn cap
        else if bh (kn.getD p 0) l &&& 65535 = 0 then (1, (kn, cap))
        else if 20000 < (mAll (ea (kn.getD p 0 >>> 22 &&& 15) l) (bh (kn.getD p 0) l) (kn, cap)).1.length then (2, mAll (ea (kn.getD p 0 >>> 22 &&& 15) l) (bh (kn.getD p 0) l) (kn, cap))
        else mgo ea bh k f p (l + 1) (mAll (ea (kn.getD p 0 >>> 22 &&& 15) l) (bh (kn.getD p 0) l) (kn, cap)).1 (mAll (ea (kn.getD p 0 >>> 22 &&& 15) l) (bh (kn.getD p 0) l) (kn, cap)).2
      else mgo ea bh k f (p + 1) 0 kn cap
    else (0, (kn, cap))
theorem mgo_succ (ea bh : Nat → Nat → Nat) (k f p l : Nat) (kn : List Nat) (cap : Nat) : mgo ea bh k (f + 1) p l kn cap =
    if p < kn.length then
      if l < k then
        if ea (kn.getD p 0 >>> 22 &&& 15) l = 0 then mgo ea bh k f p (l + 1) kn cap
        else if bh (kn.getD p 0) l &&& 65535 = 0 then (1, (kn, cap))
        else if 20000 < (mAll (ea (kn.getD p 0 >>> 22 &&& 15) l) (bh (kn.getD p 0) l) (kn, cap)).1.length then (2, mAll (ea (kn.getD p 0 >>> 22 &&& 15) l) (bh (kn.getD p 0) l) (kn, cap))
        else mgo ea bh k f p (l + 1) (mAll (ea (kn.getD p 0 >>> 22 &&& 15) l) (bh (kn.getD p 0) l) (kn, cap)).1 (mAll (ea (kn.getD p 0 >>> 22 &&& 15) l) (bh (kn.getD p 0) l) (kn, cap)).2
      else mgo ea bh k f (p + 1) 0 kn cap
    else (0, (kn, cap)) := rfl
theorem mF_cap (sts rest : Nat) (x : List Nat × Nat) : ∀ n, x.2 ≤ (rr_fold (mA1 sts rest) n x).2 ∧ x.1.length ≤ (rr_fold (mA1 sts rest) n x).1.length ∧ (rr_fold (mA1 sts rest) n x).1.length ≤ x.1.length + n
  | 0 => ⟨Nat.le_refl _, Nat.le_refl _, Nat.le_refl _⟩
  | n + 1 => by
    obtain ⟨h1, h2, h3⟩ := mF_cap sts rest x n
    rw [rr_fold_succ]
    unfold mA1
    split
    · obtain ⟨g1, g2⟩ := adK_len (rr_fold (mA1 sts rest) n x).1 (n <<< 22 ||| rest)
      have g3 := capN_le (rr_fold (mA1 sts rest) n x).2 (rr_fold (mA1 sts rest) n x).1.length
      unfold mA1 at h1 h2 h3 g1 g2 g3
      dsimp only
      omega
    · unfold mA1 at h1 h2 h3
      omega
theorem mgo_cap (ea bh : Nat → Nat → Nat) (k : Nat) : ∀ f p l kn cap, cap ≤ (mgo ea bh k f p l kn cap).2.2
  | 0, _, _, _, cap => Nat.le_refl cap
  | f + 1, p, l, kn, cap => by
    rw [mgo_succ]
    split
    · split
      · split
        · exact mgo_cap ea bh k f _ _ _ _
        · split
          · exact Nat.le_refl _
          · split
            · exact (mF_cap _ _ (kn, cap) 16).1
            · exact Nat.le_trans (mF_cap _ _ (kn, cap) 16).1 (mgo_cap ea bh k f _ _ _ _)
      · exact mgo_cap ea bh k f _ _ _ _
    · exact Nat.le_refl _
/-- the whole search -/
def skM (k na : Nat) (Ea : Nat → Nat) (ala wd : Nat) (TD : Nat → Nat) (kb nb : Nat) (Eb : Nat → Nat) (alb cap : Nat) : Nat × (List Nat × Nat) :=
  if ala = 0 then (0, ([], cap)) else if alb = 0 then (1, ([], cap)) else mgo (lvE ala Ea) (bhd wd TD (ldS kb nb Eb alb)) k 130000 0 0 (mAll ala alb ([], cap)).1 (mAll ala alb ([], cap)).2
theorem bits3 {a b c : Nat} (ha : a < 4) (hb : b < 16) (hc : c < 65536) : a <<< 20 ||| b <<< 16 ||| c = a * 1048576 + b * 65536 + c := by
  have e1 : b <<< 16 ||| c = b <<< 16 + c := (Nat.shiftLeft_add_eq_or_of_lt (b := c) (i := 16) (by omega) b).symm
  rw [Nat.or_assoc, e1]
  have e2 : a <<< 20 ||| (b <<< 16 + c) = a <<< 20 + (b <<< 16 + c) := (Nat.shiftLeft_add_eq_or_of_lt (i := 20) (by rw [Nat.shiftLeft_eq]; omega) a).symm
  rw [e2, Nat.shiftLeft_eq, Nat.shiftLeft_eq]
  omega
theorem and16 (x : Nat) : x &&& 65535 = x % 65536 := Nat.and_two_pow_sub_one_eq_mod x 16
theorem bhd_in {wd : Nat} {TD : Nat → Nat} {sb : Nat → Nat → Nat} {key l : Nat} (hw : wd ≤ 3) (hl : l < 4) (hs : ∀ x y, sb x y < 65536) : bhd wd TD sb key l < 4194304 ∧ (bhd wd TD sb key l &&& 65535 = key &&& 65535 ∨ ∃ y, bhd wd TD sb key l &&& 65535 = sb (key &&& 65535) y) := by
  have h3 : key >>> 20 &&& 3 ≤ 3 := Nat.and_le_right
  have h15 : ∀ x : Nat, x &&& 15 ≤ 15 := fun x => Nat.and_le_right
  have h65 : key &&& 65535 ≤ 65535 := Nat.and_le_right
  unfold bhd
  split
  · have := h15 (bhdR key l)
    rw [bits3 (by omega) (by omega) (by omega)]
    refine ⟨by omega, Or.inl ?_⟩
    rw [and16]
    omega
  · have hr : bhdR key l &&& (2 ^ (2 * wd) >>> 2) - 1 ≤ 15 := by
      have h1 : bhdR key l &&& (2 ^ (2 * wd) >>> 2) - 1 ≤ (2 ^ (2 * wd) >>> 2) - 1 := Nat.and_le_right
      have h2 : 2 ^ (2 * wd) ≤ 2 ^ 6 := Nat.pow_le_pow_right (by decide) (by omega)
      have h4 : 2 ^ (2 * wd) >>> 2 ≤ 16 := by rw [Nat.shiftRight_eq_div_pow]; omega
      omega
    have hsb := hs (key &&& 65535) (if bhdR key l < 2 ^ (2 * wd) then TD (bhdR key l) else 0)
    rw [bits3 (by omega) (by omega) hsb]
    refine ⟨by omega, Or.inr ⟨if bhdR key l < 2 ^ (2 * wd) then TD (bhdR key l) else 0, ?_⟩⟩
    rw [and16]
    omega
theorem key22 {s rest : Nat} (hs : s < 16) (hr : rest < 4194304) : s <<< 22 ||| rest < 67108864 ∧ (s <<< 22 ||| rest) &&& 65535 = rest &&& 65535 := by
  have e1 : s <<< 22 ||| rest = s <<< 22 + rest := (Nat.shiftLeft_add_eq_or_of_lt (i := 22) (by omega) s).symm
  rw [e1, Nat.shiftLeft_eq, and16, and16]
  omega
theorem mF_all {P : Nat → Prop} {sts rest : Nat} {x : List Nat × Nat} (h : ∀ y ∈ x.1, P y) (hk : ∀ s, s < 16 → P (s <<< 22 ||| rest)) : ∀ n, n ≤ 16 → ∀ y ∈ (rr_fold (mA1 sts rest) n x).1, P y
  | 0, _ => h
  | n + 1, hn => by
    rw [rr_fold_succ]
    unfold mA1
    split
    · exact adK_all (mF_all h hk n (by omega)) (hk n (by omega))
    · exact mF_all h hk n (by omega)
theorem bhdR_lt (key : Nat) {l : Nat} (hl : l < 4) : bhdR key l < 64 := by
  have h15 : key >>> 16 &&& 15 ≤ 15 := Nat.and_le_right
  have e1 : (key >>> 16 &&& 15) <<< 2 ||| l = (key >>> 16 &&& 15) <<< 2 + l := (Nat.shiftLeft_add_eq_or_of_lt (i := 2) (by omega) _).symm
  unfold bhdR
  rw [e1, Nat.shiftLeft_eq]
  omega
theorem mA1_le (sts rest s : Nat) (x : List Nat × Nat) : x.2 ≤ (mA1 sts rest s x).2 := by
  unfold mA1
  split
  · exact capN_le _ _
  · exact Nat.le_refl _
theorem mF_mono (sts rest : Nat) (x : List Nat × Nat) {n m : Nat} (h : n ≤ m) : (rr_fold (mA1 sts rest) n x).2 ≤ (rr_fold (mA1 sts rest) m x).2 := by
  induction h with
  | refl => exact Nat.le_refl _
  | step _ ih => rw [rr_fold_succ]; exact Nat.le_trans ih (mA1_le _ _ _ _)
theorem adK_getD {kn : List Nat} {key i : Nat} (h : i < kn.length) : (adK kn key).getD i 0 = kn.getD i 0 := by
  unfold adK
  split
  · rfl
  · rw [List.getD_eq_getElem?_getD, List.getElem?_append_left h, ← List.getD_eq_getElem?_getD]
theorem mF_getD {sts rest : Nat} {x : List Nat × Nat} {i : Nat} (h : i < x.1.length) : ∀ n, (rr_fold (mA1 sts rest) n x).1.getD i 0 = x.1.getD i 0
  | 0 => rfl
  | n + 1 => by
    have h1 := (mF_cap sts rest x n).2.1
    rw [rr_fold_succ]
    unfold mA1
    split
    · have h2 := adK_getD (kn := (rr_fold (mA1 sts rest) n x).1) (key := n <<< 22 ||| rest) (i := i) (by omega)
      exact h2.trans (mF_getD h n)
    · exact mF_getD h n
/-- what the search answers -/
def ansQ : Nat → Int32
  | 0 => 1
  | 1 => 0
  | 2 => -5
  | _ => 7
