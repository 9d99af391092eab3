section
/-! what rows of live ways lead to: pure -/
def stepR (lo : Nat → Nat) (n S : Nat) : Nat := orN n (fun r => if S.testBit r = true then lo r else 0)
def Rc (lo : Nat → Nat) (n q r : Nat) : Prop := ∃ t, (rr_it (stepR lo n) t (lo q)).testBit r = true
theorem stepR_bit {lo : Nat → Nat} {n S r : Nat} : (stepR lo n S).testBit r = true ↔ ∃ o, o < n ∧ S.testBit o = true ∧ (lo o).testBit r = true := by
  unfold stepR
  rw [orN_testBit]
  constructor
  · rintro ⟨o, ho, h⟩
    by_cases hs : S.testBit o = true
    · rw [if_pos hs] at h; exact ⟨o, ho, hs, h⟩
    · rw [if_neg hs, Nat.zero_testBit] at h; cases h
  · rintro ⟨o, ho, hs, h⟩
    exact ⟨o, ho, by rw [if_pos hs]; exact h⟩
theorem Rc_one {lo : Nat → Nat} {n q r : Nat} (h : (lo q).testBit r = true) : Rc lo n q r := ⟨0, h⟩
theorem Rc_snoc {lo : Nat → Nat} {n q o r : Nat} (h : Rc lo n q o) (ho : o < n) (h2 : (lo o).testBit r = true) : Rc lo n q r := by
  obtain ⟨t, ht⟩ := h
  exact ⟨t + 1, stepR_bit.mpr ⟨o, ho, ht, h2⟩⟩
theorem Rc_ind {lo : Nat → Nat} {n q : Nat} {P : Nat → Prop} (h1 : ∀ r, (lo q).testBit r = true → P r) (h2 : ∀ o r, o < n → P o → (lo o).testBit r = true → P r) : ∀ r, Rc lo n q r → P r := by
  rintro r ⟨t, ht⟩
  revert r
  induction t with
  | zero => exact h1
  | succ t ih =>
    intro r hr
    obtain ⟨o, ho, hs, h⟩ := stepR_bit.mp hr
    exact h2 o r ho (ih o hs) h
theorem Rc_trans {lo : Nat → Nat} {n q o r : Nat} (h : Rc lo n q o) (ho : o < n) (h2 : Rc lo n o r) : Rc lo n q r :=
  Rc_ind (P := fun r => Rc lo n q r) (fun _ hz => Rc_snoc h ho hz) (fun _ _ hx hp hz => Rc_snoc hp hx hz) r h2
theorem Rc_mono {lo : Nat → Nat} {n m q r : Nat} (hm : n ≤ m) (h : Rc lo n q r) : Rc lo m q r :=
  Rc_ind (P := fun r => Rc lo m q r) (fun _ hz => Rc_one hz) (fun _ _ hx hp hz => Rc_snoc hp (by omega) hz) r h
theorem Rc_more {lo : Nat → Nat} {m q r : Nat} : Rc lo (m + 1) q r ↔ Rc lo m q r ∨ (Rc lo m q m ∧ Rc lo m m r) := by
  constructor
  · refine Rc_ind (P := fun r => Rc lo m q r ∨ (Rc lo m q m ∧ Rc lo m m r)) (fun _ hz => Or.inl (Rc_one hz)) (fun o z ho hp hz => ?_) r
    rcases Nat.lt_or_ge o m with w | w
    · rcases hp with hp | ⟨hp, hp2⟩
      · exact Or.inl (Rc_snoc hp w hz)
      · exact Or.inr ⟨hp, Rc_snoc hp2 w hz⟩
    · obtain rfl : o = m := by omega
      rcases hp with hp | ⟨hp, _⟩
      · exact Or.inr ⟨hp, Rc_one hz⟩
      · exact Or.inr ⟨hp, Rc_one hz⟩
  · rintro (h | ⟨h1, h2⟩)
    · exact Rc_mono (by omega) h
    · exact Rc_trans (Rc_mono (by omega) h1) (by omega) (Rc_mono (by omega) h2)
/-- one round over a state, in place -/
theorem frI_val {ov : Nat} {f : Nat → Nat} : ∀ m q, frI ov m f q = if q < m ∧ (f q).testBit ov = true then f q ||| f ov else f q
  | 0, q => by rw [if_neg (by omega)]; rfl
  | m + 1, q => by
    have ih := frI_val (ov := ov) (f := f) m
    have hov : frI ov m f ov = f ov := by
      rw [ih ov]
      split
      · rw [Nat.or_self]
      · rfl
    rw [frI_succ]
    unfold fr1
    have hm : frI ov m f m = f m := by rw [ih m, if_neg (by omega)]
    by_cases hb : (frI ov m f m).testBit ov = true
    · rw [if_pos hb]
      unfold va_up
      by_cases e : q = m
      · rw [if_pos e, hov, hm, e]
        rw [hm] at hb
        rw [if_pos ⟨by omega, hb⟩]
      · rw [if_neg e, ih q]
        by_cases h2 : q < m ∧ (f q).testBit ov = true
        · rw [if_pos h2, if_pos ⟨by omega, h2.2⟩]
        · rw [if_neg h2, if_neg (fun h3 => h2 ⟨by omega, h3.2⟩)]
    · rw [if_neg hb, ih q]
      rw [hm] at hb
      by_cases h2 : q < m ∧ (f q).testBit ov = true
      · rw [if_pos h2, if_pos ⟨by omega, h2.2⟩]
      · rw [if_neg h2, if_neg (fun h3 => (Nat.lt_or_ge q m).elim (fun w => h2 ⟨w, h3.2⟩) (fun w => hb (by rw [show m = q by omega]; exact h3.2)))]
theorem frO_Rc {n k al : Nat} {E : Nat → Nat} : ∀ m, m ≤ n → ∀ q, q < n → ∀ r, (frO n m (fr0 n k al E) q).testBit r = true ↔ Rc (lO k al E) m q r
  | 0, _, q, hq, r => by
    show (fr0 n k al E q).testBit r = true ↔ _
    unfold fr0
    rw [if_pos hq]
    constructor
    · intro h; exact Rc_one h
    · refine Rc_ind (P := fun r => (orN k (lvE al E q)).testBit r = true) (fun _ hz => hz) (fun o _ ho _ _ => absurd ho (Nat.not_lt_zero _)) r
  | m + 1, hm, q, hq, r => by
    have ih := frO_Rc (n := n) (k := k) (al := al) (E := E) m (by omega)
    rw [frO_succ, frI_val, Rc_more]
    by_cases h : (frO n m (fr0 n k al E) q).testBit m = true
    · rw [if_pos ⟨hq, h⟩, Nat.testBit_or, Bool.or_eq_true, ih q hq, ih m (by omega)]
      have h2 := (ih q hq m).mp h
      exact ⟨fun z => z.elim Or.inl (fun z => Or.inr ⟨h2, z⟩), fun z => z.elim Or.inl (fun z => Or.inr z.2)⟩
    · rw [if_neg (fun z => h z.2), ih q hq]
      exact ⟨Or.inl, fun z => z.elim id (fun z => absurd ((ih q hq m).mpr z.1) h)⟩
/-- what is reached from a state -/
abbrev rcF (n k al : Nat) (E : Nat → Nat) : Nat → Nat := frO n n (fr0 n k al E)
theorem rcF_Rc {n k al : Nat} {E : Nat → Nat} {q r : Nat} (hq : q < n) : (rcF n k al E q).testBit r = true ↔ Rc (lO k al E) n q r := frO_Rc n (Nat.le_refl _) q hq r
theorem rcF_sub {n k al : Nat} {E : Nat → Nat} {q : Nat} (hq : q < n) : sub (rcF n k al E q) al := sub_bit.mpr (fun r hr =>
  Rc_ind (P := fun r => al.testBit r = true) (fun z hz => sub_bit.mp (lO_sub k al E q) z hz) (fun o z _ _ hz => sub_bit.mp (lO_sub k al E o) z hz) r ((rcF_Rc hq).mp hr))
theorem andN_bit {a s i : Nat} (ha : a < 65536) : (andN a s).testBit i = (a.testBit i && !(s.testBit i)) := by
  unfold andN
  rw [Nat.testBit_and, Nat.testBit_xor, show (65535 : Nat) = 2 ^ 16 - 1 from rfl, Nat.testBit_two_pow_sub_one]
  by_cases h : i < 16
  · rw [decide_eq_true h, Bool.true_xor]
  · rw [Nat.testBit_lt_two_pow (x := a) (i := i) (Nat.lt_of_lt_of_le ha (Nat.pow_le_pow_right (n := 2) (i := 16) (by decide) (by omega)))]
    rfl
theorem andN_0 {a s : Nat} (ha : a < 65536) : andN a s = 0 ↔ sub a s := by
  rw [sub_bit]
  constructor
  · intro h i hi
    have h1 := andN_bit (s := s) (i := i) ha
    rw [h, Nat.zero_testBit, hi, Bool.true_and] at h1
    cases h2 : s.testBit i
    · rw [h2] at h1; cases h1
    · rfl
  · intro h
    apply Nat.eq_of_testBit_eq
    intro i
    rw [andN_bit ha, Nat.zero_testBit]
    cases h1 : a.testBit i
    · rfl
    · rw [h i h1]; rfl
/-- the search is at its end: nothing new is found -/
theorem reach_end {lo : Nat → Nat} {n q S F : Nat} (hF : sub F S) (hC : (S = 0 ∧ F = lo q) ∨ (F = stepR lo n S ∧ sub (lo q) S)) : ∀ r, Rc lo n q r → S.testBit r = true := by
  have h1 : sub (lo q) S := by
    rcases hC with ⟨h0, h1⟩ | ⟨_, h1⟩
    · rw [← h1]; exact hF
    · exact h1
  have h2 : sub (stepR lo n S) S := by
    rcases hC with ⟨h0, h1⟩ | ⟨h1, _⟩
    · have : stepR lo n S = 0 := by
        apply Nat.eq_of_testBit_eq
        intro i
        rw [Nat.zero_testBit]
        refine Bool.eq_false_iff.mpr (fun h => ?_)
        obtain ⟨o, _, h3, _⟩ := stepR_bit.mp h
        rw [h0, Nat.zero_testBit] at h3
        cases h3
      rw [this]; exact sub_zero _
    · rw [← h1]; exact hF
  exact Rc_ind (P := fun r => S.testBit r = true) (fun r hr => sub_bit.mp h1 r hr) (fun o r ho hp hr => sub_bit.mp h2 r (stepR_bit.mpr ⟨o, ho, hp, hr⟩))
theorem reach_eq {n k al q S F : Nat} {E : Nat → Nat} (hq : q < n) (hS : ∀ r, S.testBit r = true → Rc (lO k al E) n q r) (hF : sub F S) (hC : (S = 0 ∧ F = lO k al E q) ∨ (F = stepR (lO k al E) n S ∧ sub (lO k al E q) S)) : S = rcF n k al E q := by
  have h := reach_end hF hC
  apply Nat.eq_of_testBit_eq
  intro r
  rw [Bool.eq_iff_iff, rcF_Rc hq]
  exact ⟨hS r, h r⟩
/-- the next front -/
def stq (S : Nat) (lo : Nat → Nat) (r : Nat) : Nat := if S.testBit r = true then lo r else 0
theorem stq_step (lo : Nat → Nat) (n S : Nat) : orN n (stq S lo) = stepR lo n S := rfl
theorem reach_front {lo : Nat → Nat} {n q S : Nat} (hS : ∀ r, S.testBit r = true → Rc lo n q r) : ∀ r, (stepR lo n S).testBit r = true → Rc lo n q r := fun _ hr => by
  obtain ⟨o, ho, h1, h2⟩ := stepR_bit.mp hr
  exact Rc_snoc (hS o h1) ho h2
theorem or_pcn {S F : Nat} (hS : S < 65536) (hF : F < 65536) (h : ¬ andN F S = 0) : pcn 16 S < pcn 16 (S ||| F) := pcn_sub_lt (n := 16) (Nat.or_lt_two_pow hS hF) (sub_bit.mpr (fun i hi => by rw [Nat.testBit_or, hi]; rfl)) (fun e => h ((andN_0 hF).mpr (sub_bit.mpr (fun i hi => by rw [e, Nat.testBit_or, hi, Bool.or_true]))))
/-- the least of a part -/
theorem mbF_bit {f : Nat → Nat} {q : Nat} : ∀ m j, (mbF f q m).testBit j = true ↔ j = q ∨ (j < m ∧ (f q).testBit j = true ∧ (f j).testBit q = true)
  | 0, j => by
    show (1 <<< q).testBit j = true ↔ _
    rw [Nat.one_shiftLeft, Nat.testBit_two_pow, decide_eq_true_iff]
    exact ⟨fun h => Or.inl h.symm, fun h => h.elim Eq.symm (fun h => absurd h.1 (Nat.not_lt_zero _))⟩
  | m + 1, j => by
    have ih := mbF_bit (f := f) (q := q) m j
    rw [mbF_succ]
    split
    · rename_i c
      rw [Nat.testBit_or, Bool.or_eq_true, ih, Nat.one_shiftLeft, Nat.testBit_two_pow, decide_eq_true_iff]
      constructor
      · rintro ((h | h) | h)
        · exact Or.inl h
        · exact Or.inr ⟨by omega, h.2⟩
        · exact Or.inr ⟨by omega, by rw [← h]; exact c⟩
      · rintro (h | ⟨h1, h2⟩)
        · exact Or.inl (Or.inl h)
        · rcases Nat.lt_or_ge j m with w | w
          · exact Or.inl (Or.inr ⟨w, h2⟩)
          · exact Or.inr (by omega)
    · rename_i c
      rw [ih]
      constructor
      · rintro (h | h)
        · exact Or.inl h
        · exact Or.inr ⟨by omega, h.2⟩
      · rintro (h | ⟨h1, h2⟩)
        · exact Or.inl h
        · rcases Nat.lt_or_ge j m with w | w
          · exact Or.inr ⟨w, h2⟩
          · exact absurd (by rw [show m = j by omega]; exact h2) c
theorem lstI_eq {x i : Nat} (hx : x.testBit i = true) : ∀ f j, i < j + f → j ≤ i → (∀ z, j ≤ z → z < i → x.testBit z = false) → lstI x f j = i
  | 0, j, h1, h2, _ => absurd h1 (by omega)
  | f + 1, j, h1, h2, h3 => by
    show (if x.testBit j = true then j else lstI x f (j + 1)) = i
    rcases Nat.lt_or_ge j i with w | w
    · rw [h3 j (Nat.le_refl _) w, if_neg (by decide)]
      exact lstI_eq hx f (j + 1) (by omega) (by omega) (fun z h4 h5 => h3 z (by omega) h5)
    · rw [show j = i by omega, if_pos hx]
theorem lst16_eq {x i : Nat} (hi : i < 16) (hx : x.testBit i = true) (h : ∀ z, z < i → x.testBit z = false) : lst16 x = i := lstI_eq hx 16 0 (by omega) (Nat.zero_le _) (fun z _ h2 => h z h2)
theorem part_at {n k al : Nat} {E : Nat → Nat} {q r : Nat} (hn : n ≤ 16) (hr : r < q) (hq : q < n) (h1 : (rcF n k al E q).testBit r = true) (h2 : (rcF n k al E r).testBit q = true) (h : ∀ z, z < r → ¬ ((rcF n k al E q).testBit z = true ∧ (rcF n k al E z).testBit q = true)) : lst16 (prM n k al E q) = r :=
  lst16_eq (by omega) ((mbF_bit 16 r).mpr (Or.inr ⟨by omega, h1, h2⟩)) (fun z hz => Bool.eq_false_iff.mpr (fun e => ((mbF_bit 16 z).mp e).elim (fun e2 => by omega) (fun e2 => h z hz e2.2)))
theorem part_own {n k al : Nat} {E : Nat → Nat} {q : Nat} (hn : n ≤ 16) (hq : q < n) (h : ∀ z, z < q → ¬ ((rcF n k al E q).testBit z = true ∧ (rcF n k al E z).testBit q = true)) : lst16 (prM n k al E q) = q :=
  lst16_eq (by omega) ((mbF_bit 16 q).mpr (Or.inl rfl)) (fun z hz => Bool.eq_false_iff.mpr (fun e => ((mbF_bit 16 z).mp e).elim (fun e2 => by omega) (fun e2 => h z hz e2.2)))
/-- part, about -/
def parA (ns : Nat) (kF nF yF : Nat → Nat) (x q : Int32) : Int32 := if okQ ns nF x q = true then (if (liveS (kF (cN x)) (nF (cN x)) (Es yF (cN x))).testBit (cN q) = true then nI (lst16 (prM (nF (cN x)) (kF (cN x)) (liveS (kF (cN x)) (nF (cN x)) (Es yF (cN x))) (Es yF (cN x)) (cN q))) else -1) else -2
def abtN (k n : Nat) (E : Nat → Nat) (w : Nat) : Nat := if w = 0 then k else if w = 1 then n else if w = 2 then waysS k n E else if w = 3 then pc (liveS k n E) else if w = 4 then lwS k n (liveS k n E) E else hmP n k (liveS k n E) E n
def abtA (ns : Nat) (kF nF yF : Nat → Nat) (x w : Int32) : Int32 := if (isS ns x && rrin w (nI 0) (nI 5)) = true then nI (abtN (kF (cN x)) (nF (cN x)) (Es yF (cN x)) (cN w)) else -2
theorem lvE_or {al q y : Nat} {E : Nat → Nat} (h : al.testBit q = true) : E (q * 4 + y) &&& al = lvE al E q y := by
  unfold lvE
  rw [if_pos h]
theorem pc_0 : pc 0 = 0 := by
  show sN 16 (fun i => (Nat.testBit 0 i).toNat) = 0
  rw [sN_congr (g := fun _ => 0) (fun i _ => by rw [Nat.zero_testBit]; rfl), sN_zero]
theorem lvE_dead {al q y : Nat} {E : Nat → Nat} (h : al.testBit q = false) : pc (lvE al E q y) = 0 := by
  unfold lvE
  rw [if_neg (by rw [h]; decide), pc_0]
end
