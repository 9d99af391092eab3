section
/-! the pace of a part: by whatever lengths of roads it is reckoned, it is the same -/
/-- states at the end of roads of so many ways within a part -/
def PLs (lo : Nat → Nat) (n mb q : Nat) (t : Nat) : Nat := rr_it (fun S => stepR lo n S &&& mb) t (1 <<< q)
def PL (lo : Nat → Nat) (n mb q v t : Nat) : Prop := (PLs lo n mb q t).testBit v = true
theorem PL_0 {lo : Nat → Nat} {n mb q : Nat} : PL lo n mb q q 0 := by
  show (1 <<< q).testBit q = true
  rw [Nat.one_shiftLeft, Nat.testBit_two_pow_self]
theorem PL_0' {lo : Nat → Nat} {n mb q v : Nat} (h : PL lo n mb q v 0) : v = q := by
  have h : (1 <<< q).testBit v = true := h
  rw [Nat.one_shiftLeft, Nat.testBit_two_pow, decide_eq_true_iff] at h
  exact h.symm
theorem PL_snoc {lo : Nat → Nat} {n mb q u v t : Nat} (h : PL lo n mb q u t) (hu : u < n) (he : (lo u).testBit v = true) (hv : mb.testBit v = true) : PL lo n mb q v (t + 1) := by
  show (stepR lo n (PLs lo n mb q t) &&& mb).testBit v = true
  rw [Nat.testBit_and, Bool.and_eq_true]
  exact ⟨stepR_bit.mpr ⟨u, hu, h, he⟩, hv⟩
theorem PL_pred {lo : Nat → Nat} {n mb q v t : Nat} (h : PL lo n mb q v (t + 1)) : ∃ u, u < n ∧ PL lo n mb q u t ∧ (lo u).testBit v = true ∧ mb.testBit v = true := by
  have h : (stepR lo n (PLs lo n mb q t) &&& mb).testBit v = true := h
  rw [Nat.testBit_and, Bool.and_eq_true] at h
  obtain ⟨o, ho, h1, h2⟩ := stepR_bit.mp h.1
  exact ⟨o, ho, h1, h2, h.2⟩
theorem absd_dvd {d a b : Nat} : d ∣ absd a b ↔ (d : Int) ∣ (a : Int) - (b : Int) := by
  have : ((a : Int) - (b : Int)).natAbs = absd a b := by unfold absd; omega
  rw [← Int.natAbs_dvd_natAbs, this]
  exact Iff.rfl
theorem pcF_dvd {g : Nat → Nat} {u ends d x : Nat} : ∀ m, d ∣ pcF g u ends m x ↔ d ∣ x ∧ ∀ v, v < m → ends.testBit v = true → d ∣ absd (g u + 1) (g v)
  | 0 => ⟨fun h => ⟨h, fun v hv => absurd hv (Nat.not_lt_zero _)⟩, fun h => h.1⟩
  | m + 1 => by
    have ih := pcF_dvd (g := g) (u := u) (ends := ends) (d := d) (x := x) m
    rcases Bool.eq_false_or_eq_true (ends.testBit m) with q | q
    · rw [pcF_yes q, Nat.dvd_gcd_iff, ih]
      constructor
      · rintro ⟨⟨h1, h2⟩, h3⟩
        refine ⟨h1, fun v hv hb => ?_⟩
        rcases Nat.lt_or_ge v m with w | w
        · exact h2 v w hb
        · rw [show v = m by omega]; exact h3
      · rintro ⟨h1, h2⟩
        exact ⟨⟨h1, fun v hv hb => h2 v (by omega) hb⟩, h2 m (Nat.lt_succ_self _) q⟩
    · rw [pcF_no q, ih]
      constructor
      · rintro ⟨h1, h2⟩
        refine ⟨h1, fun v hv hb => ?_⟩
        rcases Nat.lt_or_ge v m with w | w
        · exact h2 v w hb
        · rw [show v = m by omega, q] at hb; cases hb
      · rintro ⟨h1, h2⟩
        exact ⟨h1, fun v hv hb => h2 v (by omega) hb⟩
theorem pcO_dvd {g lo : Nat → Nat} {mb d : Nat} : ∀ m, d ∣ pcO g lo mb m ↔ ∀ u, u < m → mb.testBit u = true → ∀ v, v < 16 → (lo u &&& mb).testBit v = true → d ∣ absd (g u + 1) (g v)
  | 0 => ⟨fun _ u hu => absurd hu (Nat.not_lt_zero _), fun _ => Nat.dvd_zero d⟩
  | m + 1 => by
    have ih := pcO_dvd (g := g) (lo := lo) (mb := mb) (d := d) m
    rcases Bool.eq_false_or_eq_true (mb.testBit m) with q | q
    · rw [pcO_yes q, pcF_dvd, ih]
      constructor
      · rintro ⟨h1, h2⟩ u hu hb
        rcases Nat.lt_or_ge u m with w | w
        · exact h1 u w hb
        · rw [show u = m by omega]; exact h2
      · intro h
        exact ⟨fun u hu hb => h u (by omega) hb, h m (Nat.lt_succ_self _) q⟩
    · rw [pcO_no q, ih]
      constructor
      · intro h u hu hb
        rcases Nat.lt_or_ge u m with w | w
        · exact h u w hb
        · rw [show u = m by omega, q] at hb; cases hb
      · intro h u hu hb
        exact h u (by omega) hb
/-- told lengths of roads -/
def LenOK (lo : Nat → Nat) (n mb q : Nat) (g : Nat → Nat) : Prop := g q = 1 ∧ ∀ v, mb.testBit v = true → 1 ≤ g v ∧ PL lo n mb q v (g v - 1)
theorem pc_len {lo g : Nat → Nat} {n mb q d : Nat} (hn : n ≤ 16) (hm : mb < 2 ^ n) (hq : mb.testBit q = true) (h1 : g q = 1) (h : ∀ u, u < n → mb.testBit u = true → ∀ v, v < 16 → (lo u &&& mb).testBit v = true → d ∣ absd (g u + 1) (g v)) : ∀ t v, PL lo n mb q v t → mb.testBit v = true ∧ (d : Int) ∣ ((1 + t : Nat) : Int) - (g v : Int)
  | 0, v, hv => by
    rw [PL_0' hv, h1]
    exact ⟨hq, by rw [show (((1 + 0 : Nat) : Int) - ((1 : Nat) : Int)) = 0 by omega]; exact Int.dvd_zero _⟩
  | t + 1, v, hv => by
    obtain ⟨u, hu, hp, he, hb⟩ := PL_pred hv
    obtain ⟨i1, i2⟩ := pc_len hn hm hq h1 h t u hp
    refine ⟨hb, ?_⟩
    have h2 := absd_dvd.mp (h u hu i1 v (Nat.lt_of_lt_of_le (bit_lt hm hb) hn) (by rw [Nat.testBit_and, he, hb]; rfl))
    have h3 := Int.dvd_add i2 h2
    rwa [show (((1 + t : Nat) : Int) - (g u : Int)) + (((g u + 1 : Nat) : Int) - (g v : Int)) = ((1 + (t + 1) : Nat) : Int) - (g v : Int) by omega] at h3
theorem pcO_len_dvd {lo g g2 : Nat → Nat} {n mb q : Nat} (hn : n ≤ 16) (hm : mb < 2 ^ n) (hq : mb.testBit q = true) (h1 : LenOK lo n mb q g) (h2 : LenOK lo n mb q g2) : pcO g lo mb n ∣ pcO g2 lo mb n := by
  have hd := (pcO_dvd (g := g) (lo := lo) (mb := mb) (d := pcO g lo mb n) n).mp (Nat.dvd_refl _)
  refine (pcO_dvd n).mpr (fun u hu hb v hv he => ?_)
  have hbv : mb.testBit v = true := by rw [Nat.testBit_and, Bool.and_eq_true] at he; exact he.2
  have a1 := (pc_len hn hm hq h1.1 hd _ u (h2.2 u hb).2).2
  have a2 := (pc_len hn hm hq h1.1 hd _ v (h2.2 v hbv).2).2
  have a3 := absd_dvd.mp (hd u hu hb v hv he)
  have p1 := (h2.2 u hb).1
  have p2 := (h2.2 v hbv).1
  refine absd_dvd.mpr ?_
  have a4 := Int.dvd_sub (Int.dvd_add a1 a3) a2
  rwa [show ((1 + (g2 u - 1) : Nat) : Int) - (g u : Int) + (((g u + 1 : Nat) : Int) - (g v : Int)) - (((1 + (g2 v - 1) : Nat) : Int) - (g v : Int)) = ((g2 u + 1 : Nat) : Int) - (g2 v : Int) by omega] at a4
theorem pcO_len {lo g g2 : Nat → Nat} {n mb q : Nat} (hn : n ≤ 16) (hm : mb < 2 ^ n) (hq : mb.testBit q = true) (h1 : LenOK lo n mb q g) (h2 : LenOK lo n mb q g2) : pcO g lo mb n = pcO g2 lo mb n := Nat.dvd_antisymm (pcO_len_dvd hn hm hq h1 h2) (pcO_len_dvd hn hm hq h2 h1)
/-- a part is reached from its state within itself -/
theorem prM_bit {n k al : Nat} {E : Nat → Nat} {q j : Nat} (hn : n ≤ 16) (hal : al < 2 ^ n) (hq : q < n) : (prM n k al E q).testBit j = true ↔ j = q ∨ (Rc (lO k al E) n q j ∧ j < n ∧ Rc (lO k al E) n j q) := by
  have h := mbF_bit (f := rcF n k al E) (q := q) 16 j
  constructor
  · intro h1
    rcases h.mp h1 with h1 | ⟨h1, h2, h3⟩
    · exact Or.inl h1
    · have hj : j < n := bit_lt (Nat.lt_of_le_of_lt (sub_le (rcF_sub hq)) hal) h2
      exact Or.inr ⟨(rcF_Rc hq).mp h2, hj, (rcF_Rc hj).mp h3⟩
  · rintro (h1 | ⟨h1, h2, h3⟩)
    · exact h.mpr (Or.inl h1)
    · exact h.mpr (Or.inr ⟨by omega, (rcF_Rc hq).mpr h1, (rcF_Rc h2).mpr h3⟩)
theorem prM_lt {n k al : Nat} {E : Nat → Nat} {q : Nat} (hn : n ≤ 16) (hal : al < 2 ^ n) (hq : q < n) : prM n k al E q < 2 ^ n := by
  refine Nat.lt_pow_two_of_testBit _ (fun i hi => Bool.eq_false_iff.mpr (fun h => ?_))
  rcases (prM_bit hn hal hq).mp h with h | h
  · omega
  · have := h.2.1; omega
/-- what is closed within a part and holds its state is all of it -/
theorem part_closed {n k al : Nat} {E : Nat → Nat} {q : Nat} {P : Nat → Prop} (hn : n ≤ 16) (hal : al < 2 ^ n) (hq : q < n) (h0 : P q) (h : ∀ u v, u < n → (prM n k al E q).testBit u = true → P u → (lO k al E u).testBit v = true → (prM n k al E q).testBit v = true → P v) : ∀ v, (prM n k al E q).testBit v = true → P v := by
  have hqb : (prM n k al E q).testBit q = true := (prM_bit hn hal hq).mpr (Or.inl rfl)
  have key : ∀ r, Rc (lO k al E) n q r → Rc (lO k al E) n q r ∧ ((prM n k al E q).testBit r = true → P r) := Rc_ind (P := fun r => Rc (lO k al E) n q r ∧ ((prM n k al E q).testBit r = true → P r)) (fun r hr => ⟨Rc_one hr, fun hb => h q r hq hqb h0 hr hb⟩) (fun o r ho hp hr => by
    refine ⟨Rc_snoc hp.1 ho hr, fun hb => ?_⟩
    have hob : (prM n k al E q).testBit o = true := by
      refine (prM_bit hn hal hq).mpr (Or.inr ⟨hp.1, ho, ?_⟩)
      rcases (prM_bit hn hal hq).mp hb with e | e
      · rw [← e]; exact Rc_one hr
      · exact Rc_trans (Rc_one hr) e.2.1 e.2.2
    exact h o r ho hob (hp.2 hob) hr hb)
  intro v hv
  rcases (prM_bit hn hal hq).mp hv with e | e
  · rw [e]; exact h0
  · exact (key v e.1).2 hv
/-! the class's lengths -/
theorem mI_val {lo : Nat → Nat} {d ed : Nat} {f : Nat → Nat} : ∀ m v, (mI lo d ed m f).1 v = if v < m ∧ ed.testBit v = true then d + 1 else f v
  | 0, v => by rw [if_neg (by omega)]; rfl
  | m + 1, v => by
    have ih := mI_val (lo := lo) (d := d) (ed := ed) (f := f) m v
    rcases Bool.eq_false_or_eq_true (ed.testBit m) with q | q
    · rw [mI_yes q]
      show va_up (mI lo d ed m f).1 m (d + 1) v = _
      unfold va_up
      by_cases e : v = m
      · rw [if_pos e, if_pos ⟨by omega, by rw [e]; exact q⟩]
      · rw [if_neg e, ih]
        by_cases h : v < m ∧ ed.testBit v = true
        · rw [if_pos h, if_pos ⟨by omega, h.2⟩]
        · rw [if_neg h, if_neg (fun z => h ⟨by omega, z.2⟩)]
    · rw [mI_no q, ih]
      by_cases h : v < m ∧ ed.testBit v = true
      · rw [if_pos h, if_pos ⟨by omega, h.2⟩]
      · rw [if_neg h, if_neg (fun z => h ⟨by
          rcases Nat.lt_or_ge v m with w | w
          · exact w
          · rw [show v = m by omega, q] at z; exact absurd z.2 (by decide), z.2⟩)]
theorem mI_out {lo : Nat → Nat} {d ed v : Nat} {f : Nat → Nat} : ∀ m, (mI lo d ed m f).2.testBit v = true ↔ ∃ u, u < m ∧ ed.testBit u = true ∧ (lo u).testBit v = true
  | 0 => by
    show (0 : Nat).testBit v = true ↔ _
    rw [Nat.zero_testBit]
    exact ⟨fun h => absurd h (by decide), fun ⟨u, hu, _⟩ => absurd hu (Nat.not_lt_zero _)⟩
  | m + 1 => by
    have ih := mI_out (lo := lo) (d := d) (ed := ed) (v := v) (f := f) m
    rcases Bool.eq_false_or_eq_true (ed.testBit m) with q | q
    · rw [mI_yes q, Nat.testBit_or, Bool.or_eq_true, ih]
      constructor
      · rintro (⟨u, hu, h1, h2⟩ | h)
        · exact ⟨u, by omega, h1, h2⟩
        · exact ⟨m, by omega, q, h⟩
      · rintro ⟨u, hu, h1, h2⟩
        rcases Nat.lt_or_ge u m with w | w
        · exact Or.inl ⟨u, w, h1, h2⟩
        · exact Or.inr (by rw [show m = u by omega]; exact h2)
    · rw [mI_no q, ih]
      constructor
      · rintro ⟨u, hu, h1, h2⟩
        exact ⟨u, by omega, h1, h2⟩
      · rintro ⟨u, hu, h1, h2⟩
        rcases Nat.lt_or_ge u m with w | w
        · exact ⟨u, w, h1, h2⟩
        · rw [show u = m by omega, q] at h1; cases h1
theorem bfS_inv {lo : Nat → Nat} {n mb q : Nat} (hn : n ≤ 16) (hm : mb < 2 ^ n) (hq : mb.testBit q = true) (hlo : ∀ u, lo u < 65536) : ∀ d,
    (∀ v, (bfS lo n mb q d).2.2.testBit v = true → (bfS lo n mb q d).2.1.testBit v = true ∧ mb.testBit v = true ∧ PL lo n mb q v d) ∧
    (∀ v, (bfS lo n mb q d).2.1.testBit v = true → (bfS lo n mb q d).2.2.testBit v = false → 1 ≤ (bfS lo n mb q d).1 v ∧ PL lo n mb q v ((bfS lo n mb q d).1 v - 1)) ∧
    (∀ u v, (bfS lo n mb q d).2.1.testBit u = true → (bfS lo n mb q d).2.2.testBit u = false → (lo u).testBit v = true → mb.testBit v = true → (bfS lo n mb q d).2.1.testBit v = true) ∧
    (∀ v, (bfS lo n mb q d).2.1.testBit v = true → mb.testBit v = true) ∧ (bfS lo n mb q d).2.1.testBit q = true ∧
    ((bfS lo n mb q d).2.2 ≠ 0 → d + 1 ≤ pcn 16 (bfS lo n mb q d).2.1) ∧ (0 < d → (bfS lo n mb q d).1 q = 1 ∧ (bfS lo n mb q d).2.2.testBit q = false)
  | 0 => by
    have hs : ∀ v, (1 <<< q).testBit v = true ↔ v = q := fun v => by
      rw [Nat.one_shiftLeft, Nat.testBit_two_pow, decide_eq_true_iff]
      exact ⟨Eq.symm, Eq.symm⟩
    have hqq : (1 <<< q).testBit q = true := (hs q).mpr rfl
    refine ⟨fun v hv => ?_, fun v hv hf => ?_, fun u v hu hf => ?_, fun v hv => ?_, hqq, fun _ => ?_, fun h => absurd h (Nat.lt_irrefl _)⟩
    · obtain rfl := (hs v).mp hv
      exact ⟨hv, hq, PL_0⟩
    · exact absurd (hf.symm.trans hv) (by decide)
    · exact absurd (hf.symm.trans hu) (by decide)
    · rw [(hs v).mp hv]; exact hq
    · have h1 : pcn 16 0 < pcn 16 (1 <<< q) := pcn_sub_lt (n := 16) (by
        rw [Nat.one_shiftLeft]
        exact Nat.pow_lt_pow_right (by decide) (Nat.lt_of_lt_of_le (bit_lt hm hq) hn)) (sub_zero _) (fun e => by rw [← e, Nat.zero_testBit] at hqq; cases hqq)
      show 0 + 1 ≤ pcn 16 (1 <<< q)
      omega
  | d + 1 => by
    have hm6 : mb < 65536 := Nat.lt_of_lt_of_le hm (Nat.le_trans (Nat.pow_le_pow_right (by decide) hn) (by decide))
    have hl := bfS_lt (lo := lo) (n := n) (st := q) (Nat.lt_of_lt_of_le (bit_lt hm hq) hn) hm6 d
    obtain ⟨i1, i2, i3, i4, i5, i6, i7⟩ := bfS_inv hn hm hq hlo d
    have e1 : (bfS lo n mb q (d + 1)).1 = (mI lo d (bfS lo n mb q d).2.2 n (bfS lo n mb q d).1).1 := rfl
    have e2 : (bfS lo n mb q (d + 1)).2.2 = andN ((mI lo d (bfS lo n mb q d).2.2 n (bfS lo n mb q d).1).2 &&& mb) (bfS lo n mb q d).2.1 := rfl
    have e3 : (bfS lo n mb q (d + 1)).2.1 = (bfS lo n mb q d).2.1 ||| (bfS lo n mb q (d + 1)).2.2 := rfl
    have hx6 : (mI lo d (bfS lo n mb q d).2.2 n (bfS lo n mb q d).1).2 &&& mb < 65536 := Nat.lt_of_le_of_lt Nat.and_le_right hm6
    have hE : ∀ v, (bfS lo n mb q (d + 1)).2.2.testBit v = true ↔ (∃ u, u < n ∧ (bfS lo n mb q d).2.2.testBit u = true ∧ (lo u).testBit v = true) ∧ mb.testBit v = true ∧ (bfS lo n mb q d).2.1.testBit v = false := fun v => by
      rw [e2, andN_bit hx6, Nat.testBit_and, Bool.and_eq_true, Bool.and_eq_true, mI_out, Bool.not_eq_true']
      exact and_assoc
    have hs : ∀ v, (bfS lo n mb q (d + 1)).2.1.testBit v = true ↔ (bfS lo n mb q d).2.1.testBit v = true ∨ (bfS lo n mb q (d + 1)).2.2.testBit v = true := fun v => by rw [e3, Nat.testBit_or, Bool.or_eq_true]
    have hol : ∀ v, (bfS lo n mb q (d + 1)).2.1.testBit v = true → (bfS lo n mb q (d + 1)).2.2.testBit v = false → (bfS lo n mb q d).2.1.testBit v = true := fun v h1 h2 => by
      rcases (hs v).mp h1 with h | h
      · exact h
      · rw [h2] at h; cases h
    refine ⟨fun v hv => ?_, fun v hv hf => ?_, fun u v hu hf he hb => ?_, fun v hv => ?_, (hs q).mpr (Or.inl i5), fun hne => ?_, fun _ => ?_⟩
    · obtain ⟨⟨u, hu, h1, h2⟩, h3, h4⟩ := (hE v).mp hv
      exact ⟨(hs v).mpr (Or.inr hv), h3, PL_snoc (i1 u h1).2.2 hu h2 h3⟩
    · have ho := hol v hv hf
      rw [e1, mI_val]
      rcases Bool.eq_false_or_eq_true ((bfS lo n mb q d).2.2.testBit v) with w | w
      · rw [if_pos ⟨bit_lt hm (i4 v ho), w⟩]
        exact ⟨by omega, (i1 v w).2.2⟩
      · rw [if_neg (by rw [w]; exact fun z => absurd z.2 (by decide))]
        exact i2 v ho w
    · have ho := hol u hu hf
      rcases Bool.eq_false_or_eq_true ((bfS lo n mb q d).2.2.testBit u) with w | w
      · rcases Bool.eq_false_or_eq_true ((bfS lo n mb q d).2.1.testBit v) with z | z
        · exact (hs v).mpr (Or.inl z)
        · exact (hs v).mpr (Or.inr ((hE v).mpr ⟨⟨u, bit_lt hm (i4 u ho), w, he⟩, hb, z⟩))
      · exact (hs v).mpr (Or.inl (i3 u v ho w he hb))
    · rcases (hs v).mp hv with h | h
      · exact i4 v h
      · exact ((hE v).mp h).2.1
    · have hne0 : (bfS lo n mb q d).2.2 ≠ 0 := fun e => by
        obtain ⟨v, hv⟩ := Nat.exists_testBit_of_ne_zero hne
        obtain ⟨⟨u, _, h1, _⟩, _⟩ := (hE v).mp hv
        rw [e, Nat.zero_testBit] at h1
        cases h1
      have h6 := i6 hne0
      have hlt : pcn 16 (bfS lo n mb q d).2.1 < pcn 16 (bfS lo n mb q (d + 1)).2.1 := pcn_sub_lt (n := 16) (bfS_lt (lo := lo) (n := n) (st := q) (Nat.lt_of_lt_of_le (bit_lt hm hq) hn) hm6 (d + 1)).1 (sub_bit.mpr (fun i hi => (hs i).mpr (Or.inl hi))) (fun e => by
        obtain ⟨v, hv⟩ := Nat.exists_testBit_of_ne_zero hne
        have h1 := ((hE v).mp hv).2.2
        rw [e, (hs v).mpr (Or.inr hv)] at h1
        cases h1)
      omega
    · have hqf : (bfS lo n mb q (d + 1)).2.2.testBit q = false := Bool.eq_false_iff.mpr (fun h => by
        have := ((hE q).mp h).2.2
        rw [i5] at this
        cases this)
      refine ⟨?_, hqf⟩
      rw [e1, mI_val]
      cases d with
      | zero => rw [if_pos ⟨bit_lt hm hq, by
          show (1 <<< q).testBit q = true
          rw [Nat.one_shiftLeft, Nat.testBit_two_pow_self]⟩]
      | succ d =>
        rw [(i7 (Nat.succ_pos d)).2, if_neg (fun z => absurd z.2 (by decide))]
        exact (i7 (Nat.succ_pos d)).1
theorem far_len {n k al : Nat} {E : Nat → Nat} {q : Nat} (hn : n ≤ 16) (hal : al < 2 ^ n) (hq : q < n) (hlo : ∀ u, lO k al E u < 65536) : LenOK (lO k al E) n (prM n k al E q) q (bfS (lO k al E) n (prM n k al E q) q 16).1 := by
  have hm := prM_lt (k := k) (E := E) hn hal hq
  have hqb : (prM n k al E q).testBit q = true := (prM_bit hn hal hq).mpr (Or.inl rfl)
  obtain ⟨i1, i2, i3, i4, i5, i6, i7⟩ := bfS_inv hn hm hqb hlo 16
  have hz : (bfS (lO k al E) n (prM n k al E q) q 16).2.2 = 0 := Classical.byContradiction (fun h => by
    have h1 := i6 h
    have h2 := pcn_le 16 (bfS (lO k al E) n (prM n k al E q) q 16).2.1
    omega)
  have hf : ∀ v, (bfS (lO k al E) n (prM n k al E q) q 16).2.2.testBit v = false := fun v => by rw [hz, Nat.zero_testBit]
  refine ⟨(i7 (by decide)).1, fun v hv => i2 v ?_ (hf v)⟩
  exact part_closed (P := fun v => (bfS (lO k al E) n (prM n k al E q) q 16).2.1.testBit v = true) hn hal hq i5 (fun u v hu hb hp he hv => i3 u v hp (hf u) he hv) v hv
/-- the pace -/
def pacN (n k al : Nat) (E : Nat → Nat) (q : Nat) : Nat := pcO (bfS (lO k al E) n (prM n k al E q) q 16).1 (lO k al E) (prM n k al E q) n
theorem pacN_len {n k al : Nat} {E : Nat → Nat} {q : Nat} {g : Nat → Nat} (hn : n ≤ 16) (hal : al < 2 ^ n) (hq : q < n) (hlo : ∀ u, lO k al E u < 65536) (hg : LenOK (lO k al E) n (prM n k al E q) q g) : pcO g (lO k al E) (prM n k al E q) n = pacN n k al E q := pcO_len hn (prM_lt hn hal hq) ((prM_bit hn hal hq).mpr (Or.inl rfl)) hg (far_len hn hal hq hlo)
theorem pacN_0 {n k al : Nat} {E : Nat → Nat} {q : Nat} (hn : n ≤ 16) (hal : al < 2 ^ n) (hq : q < n) (h : ¬ Rc (lO k al E) n q q) : pacN n k al E q = 0 := by
  have h0 : 0 ∣ pacN n k al E q := (pcO_dvd n).mpr (fun u hu hb v hv he => by
    exfalso
    rw [Nat.testBit_and, Bool.and_eq_true] at he
    have key : ∀ z, (prM n k al E q).testBit z = true → z = q := fun z hz => by
      rcases (prM_bit hn hal hq).mp hz with e | e
      · exact e
      · exact absurd (Rc_trans e.1 e.2.1 e.2.2) h
    rw [key u hb, key v he.2] at he
    exact h (Rc_one he.1))
  exact Nat.eq_zero_of_zero_dvd h0
/-- the part as the model gathers it -/
def pmQ (n k al : Nat) (E : Nat → Nat) (q r : Nat) : Nat := if (rcF n k al E q).testBit r = true ∧ (rcF n k al E r).testBit q = true then 1 <<< r else 0
theorem pm_bit {n k al : Nat} {E : Nat → Nat} {q : Nat} : ∀ m j, (orN m (pmQ n k al E q)).testBit j = true ↔ j < m ∧ (rcF n k al E q).testBit j = true ∧ (rcF n k al E j).testBit q = true := fun m j => by
  rw [orN_testBit]
  constructor
  · rintro ⟨i, hi, h⟩
    unfold pmQ at h
    split at h
    · rename_i c
      rw [Nat.one_shiftLeft, Nat.testBit_two_pow, decide_eq_true_iff] at h
      rw [← h]
      exact ⟨hi, c⟩
    · rw [Nat.zero_testBit] at h; cases h
  · rintro ⟨h1, h2⟩
    refine ⟨j, h1, ?_⟩
    unfold pmQ
    rw [if_pos h2, Nat.one_shiftLeft, Nat.testBit_two_pow_self]
theorem pm_part {n k al : Nat} {E : Nat → Nat} {q : Nat} (hn : n ≤ 16) (hal : al < 2 ^ n) (hq : q < n) (h : ¬ orN n (pmQ n k al E q) = 0) : orN n (pmQ n k al E q) = prM n k al E q := by
  obtain ⟨r, hr⟩ := Nat.exists_testBit_of_ne_zero h
  obtain ⟨h1, h2, h3⟩ := (pm_bit n r).mp hr
  have hqq : Rc (lO k al E) n q q := Rc_trans ((rcF_Rc hq).mp h2) h1 ((rcF_Rc h1).mp h3)
  apply Nat.eq_of_testBit_eq
  intro j
  rw [Bool.eq_iff_iff, pm_bit, prM_bit hn hal hq]
  constructor
  · rintro ⟨g1, g2, g3⟩
    exact Or.inr ⟨(rcF_Rc hq).mp g2, g1, (rcF_Rc g1).mp g3⟩
  · rintro (e | ⟨g1, g2, g3⟩)
    · rw [e]; exact ⟨hq, (rcF_Rc hq).mpr hqq, (rcF_Rc hq).mpr hqq⟩
    · exact ⟨g2, (rcF_Rc hq).mpr g1, (rcF_Rc g2).mpr g3⟩
theorem pm_0 {n k al : Nat} {E : Nat → Nat} {q : Nat} (hq : q < n) (h : orN n (pmQ n k al E q) = 0) : ¬ Rc (lO k al E) n q q := fun hr => by
  have h1 := (pm_bit (n := n) (k := k) (al := al) (E := E) (q := q) n q).mpr ⟨hq, (rcF_Rc hq).mpr hr, (rcF_Rc hq).mpr hr⟩
  rw [h, Nat.zero_testBit] at h1
  cases h1
/-- a way between live states -/
theorem wB_lO {k al : Nat} {E : Nat → Nat} {q r : Nat} (h1 : al.testBit q = true) (h2 : al.testBit r = true) : 0 < wB k E q r ↔ (lO k al E q).testBit r = true := by
  unfold lO
  rw [orN_testBit]
  constructor
  · intro h
    refine Classical.byContradiction (fun hno => ?_)
    have h0 : wB k E q r = 0 := by
      unfold wB
      rw [sN_congr (g := fun _ => 0) (fun y hy => ?_), sN_zero]
      cases hb : (E (q * 4 + y)).testBit r with
      | false => rfl
      | true => exact absurd ⟨y, hy, by rw [← lvE_or h1, Nat.testBit_and, hb, h2]; rfl⟩ hno
    omega
  · rintro ⟨y, hy, h⟩
    have h3 : (E (q * 4 + y)).testBit r = true := by
      rw [← lvE_or h1, Nat.testBit_and, Bool.and_eq_true] at h
      exact h.1
    have := sN_ge (f := fun y => ((E (q * 4 + y)).testBit r).toNat) hy
    have h4 : ((E (q * 4 + y)).testBit r).toNat = 1 := by rw [h3]; rfl
    unfold wB
    simp only [h4] at this
    omega
/-- how many states have their length -/
def asg (n : Nat) (D : Nat → Nat) : Nat := sN n (fun v => if D v = 0 then 0 else 1)
theorem asg_le (n : Nat) (D : Nat → Nat) : asg n D ≤ n := by
  have := sN_le (f := fun v => if D v = 0 then 0 else 1) (b := 1) (n := n) (fun i _ => by split <;> omega)
  unfold asg
  omega
theorem asg_up {n t x : Nat} {D : Nat → Nat} (ht : t < n) (h0 : D t = 0) (hx : 0 < x) : asg n (va_up D t x) = asg n D + 1 := by
  unfold asg
  have key : ∀ m, sN m (fun v => if va_up D t x v = 0 then 0 else 1) = sN m (fun v => if D v = 0 then 0 else 1) + (if t < m then 1 else 0) := by
    intro m
    induction m with
    | zero => rfl
    | succ m ih =>
      rw [sN_succ, sN_succ, ih]
      by_cases e : m = t
      · rw [e, va_up_self, if_neg (show ¬ x = 0 by omega), if_pos h0, if_neg (Nat.lt_irrefl _), if_pos (Nat.lt_succ_self _)]
      · rw [va_up_ne _ _ e]
        by_cases w : t < m
        · have w2 : t < m + 1 := by omega
          simp only [if_pos w, if_pos w2]; omega
        · have w2 : ¬ t < m + 1 := by omega
          simp only [if_neg w, if_neg w2]; omega
  rw [key n, if_pos ht]
/-- differences, made long, without sign -/
theorem off_abs {a b : Nat} (ha : a ≤ 17) (hb : b ≤ 17) : ((nI a - 1 + nI 1 - (nI b - 1)).toInt64 < lN 0 → -((nI a - 1 + nI 1 - (nI b - 1)).toInt64) = lN (absd (a + 1) b)) ∧ (lN 0 ≤ (nI a - 1 + nI 1 - (nI b - 1)).toInt64 → (nI a - 1 + nI 1 - (nI b - 1)).toInt64 = lN (absd (a + 1) b)) := by
  have h : ∀ a : Fin 18, ∀ b : Fin 18, ((nI a.1 - 1 + nI 1 - (nI b.1 - 1)).toInt64 < lN 0 → -((nI a.1 - 1 + nI 1 - (nI b.1 - 1)).toInt64) = lN (absd (a.1 + 1) b.1)) ∧ (lN 0 ≤ (nI a.1 - 1 + nI 1 - (nI b.1 - 1)).toInt64 → (nI a.1 - 1 + nI 1 - (nI b.1 - 1)).toInt64 = lN (absd (a.1 + 1) b.1)) := by decide +kernel
  exact h ⟨a, by omega⟩ ⟨b, by omega⟩
/-- the gathering, state by state -/
def pcG (g lo : Nat → Nat) (mb r t : Nat) : Nat := pcF g r (if mb.testBit r = true then lo r &&& mb else 0) t (pcO g lo mb r)
theorem pcG_0 (g lo : Nat → Nat) (mb r : Nat) : pcG g lo mb r 0 = pcO g lo mb r := rfl
theorem pcF_none {g : Nat → Nat} {u x : Nat} : ∀ m, pcF g u 0 m x = x
  | 0 => rfl
  | m + 1 => by rw [pcF_no (Nat.zero_testBit m), pcF_none m]
theorem pcF_more {g : Nat → Nat} {u ends x n : Nat} (h : ends < 2 ^ n) : ∀ d, pcF g u ends (n + d) x = pcF g u ends n x
  | 0 => rfl
  | d + 1 => by
    rw [show n + (d + 1) = n + d + 1 by omega, pcF_no (Nat.testBit_lt_two_pow (Nat.lt_of_lt_of_le h (Nat.pow_le_pow_right (by decide) (by omega)))), pcF_more h d]
theorem pcG_n {g lo : Nat → Nat} {mb r n : Nat} (hn : n ≤ 16) (hm : mb < 2 ^ n) : pcG g lo mb r n = pcO g lo mb (r + 1) := by
  unfold pcG
  rcases Bool.eq_false_or_eq_true (mb.testBit r) with q | q
  · rw [pcO_yes q, if_pos q]
    have h := pcF_more (g := g) (u := r) (ends := lo r &&& mb) (x := pcO g lo mb r) (n := n) (Nat.lt_of_le_of_lt Nat.and_le_right hm) (16 - n)
    rw [show n + (16 - n) = 16 by omega] at h
    exact h.symm
  · rw [pcO_no q, if_neg (by rw [q]; decide), pcF_none]
theorem pcG_yes {g lo : Nat → Nat} {mb r t : Nat} (h1 : mb.testBit r = true) (h2 : (lo r).testBit t = true) (h3 : mb.testBit t = true) : pcG g lo mb r (t + 1) = Nat.gcd (pcG g lo mb r t) (absd (g r + 1) (g t)) := by
  unfold pcG
  rw [if_pos h1, pcF_yes (by rw [Nat.testBit_and, h2, h3]; rfl)]
theorem pcG_no1 {g lo : Nat → Nat} {mb r t : Nat} (h1 : mb.testBit r = false) : pcG g lo mb r (t + 1) = pcG g lo mb r t := by
  unfold pcG
  rw [if_neg (by rw [h1]; decide), pcF_none, pcF_none]
theorem pcG_no2 {g lo : Nat → Nat} {mb r t : Nat} (h : (lo r &&& mb).testBit t = false) : pcG g lo mb r (t + 1) = pcG g lo mb r t := by
  unfold pcG
  by_cases h1 : mb.testBit r = true
  · rw [if_pos h1, pcF_no h]
  · rw [if_neg h1, pcF_none, pcF_none]
theorem pcG_le {g lo : Nat → Nat} {mb r : Nat} (hg : ∀ j, g j ≤ 16) : ∀ t, pcG g lo mb r t ≤ 17 := fun t => pcF_le hg (pcO_le hg r) (Nat.le_refl _) t
def pacA (ns : Nat) (kF nF yF : Nat → Nat) (x q : Int32) : Int32 := if okQ ns nF x q = true then (if (liveS (kF (cN x)) (nF (cN x)) (Es yF (cN x))).testBit (cN q) = true then nI (pacN (nF (cN x)) (kF (cN x)) (liveS (kF (cN x)) (nF (cN x)) (Es yF (cN x))) (Es yF (cN x)) (cN q)) else -1) else -2
end
