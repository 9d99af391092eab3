section
/-! whether a window maps, as the model seeks it: its keys told by the class's -/
def cv (K : Nat) : Nat := K / 4194304 * 1099511627776 + K / 1048576 % 4 * 4294967296 + K / 65536 % 16 * 16777216 + K % 65536
theorem cv_inj {a b : Nat} (ha : a < 67108864) (hb : b < 67108864) (h : cv a = cv b) : a = b := by
  unfold cv at h
  omega
theorem cv_lt {a : Nat} (ha : a < 67108864) : cv a < 2 ^ 62 := by
  unfold cv
  omega
theorem cv_40 {K : Nat} (h : K < 67108864) : cv K >>> 40 = K / 4194304 := by
  rw [Nat.shiftRight_eq_div_pow]
  unfold cv
  omega
theorem cv_32 {K : Nat} (h : K < 67108864) : cv K >>> 32 &&& 3 = K / 1048576 % 4 := by
  rw [Nat.shiftRight_eq_div_pow, show (3 : Nat) = 2 ^ 2 - 1 from rfl, Nat.and_two_pow_sub_one_eq_mod]
  unfold cv
  have h1 : K / 1048576 % 4 < 4 := Nat.mod_lt _ (by decide)
  have h2 : K / 65536 % 16 < 16 := Nat.mod_lt _ (by decide)
  have h3 : K % 65536 < 65536 := Nat.mod_lt _ (by decide)
  generalize K / 4194304 = a
  generalize K / 1048576 % 4 = b at *
  generalize K / 65536 % 16 = c at *
  generalize K % 65536 = d at *
  omega
theorem cv_24 {K : Nat} (h : K < 67108864) : cv K >>> 24 &&& 255 = K / 65536 % 16 := by
  rw [Nat.shiftRight_eq_div_pow, show (255 : Nat) = 2 ^ 8 - 1 from rfl, Nat.and_two_pow_sub_one_eq_mod]
  unfold cv
  omega
theorem cv_0 (K : Nat) : cv K &&& 65535 = K % 65536 := by
  rw [and16]
  unfold cv
  omega
theorem ky_22 {K : Nat} (h : K < 67108864) : K >>> 22 &&& 15 = K / 4194304 := by
  rw [Nat.shiftRight_eq_div_pow, show (15 : Nat) = 2 ^ 4 - 1 from rfl, Nat.and_two_pow_sub_one_eq_mod]
  omega
theorem ky_20 (K : Nat) : K >>> 20 &&& 3 = K / 1048576 % 4 := by
  rw [Nat.shiftRight_eq_div_pow, show (3 : Nat) = 2 ^ 2 - 1 from rfl, Nat.and_two_pow_sub_one_eq_mod]
theorem ky_16 (K : Nat) : K >>> 16 &&& 15 = K / 65536 % 16 := by
  rw [Nat.shiftRight_eq_div_pow, show (15 : Nat) = 2 ^ 4 - 1 from rfl, Nat.and_two_pow_sub_one_eq_mod]
def nwN (K y : Nat) : Nat := 4 * (K / 65536 % 16) + y
def nxN (wd : Nat) (TD : Nat → Nat) (sb : Nat → Nat → Nat) (K y : Nat) : Nat := if K / 1048576 % 4 = wd - 1 then sb (K % 65536) (TD (nwN K y)) else K % 65536
def ctN (wd K : Nat) : Nat := if K / 1048576 % 4 = wd - 1 then K / 1048576 % 4 else K / 1048576 % 4 + 1
def kpN (wd K y : Nat) : Nat := if wd = 1 then 0 else nwN K y % 2 ^ (2 * (wd - 1))
/-- what is known of a key -/
def KOK (wd LA LB K : Nat) : Prop := K < 67108864 ∧ LA.testBit (K / 4194304) = true ∧ sub (K % 65536) LB ∧ K / 1048576 % 4 ≤ wd - 1 ∧ K / 65536 % 16 < 4 ^ (K / 1048576 % 4)
theorem bhdR_nw (K : Nat) {y : Nat} (hy : y < 4) : bhdR K y = nwN K y := by
  have h15 : K >>> 16 &&& 15 ≤ 15 := Nat.and_le_right
  have e1 : (K >>> 16 &&& 15) <<< 2 ||| y = (K >>> 16 &&& 15) <<< 2 + y := (Nat.shiftLeft_add_eq_or_of_lt (i := 2) (by omega) _).symm
  unfold bhdR nwN
  rw [e1, Nat.shiftLeft_eq, ky_16]
  omega
theorem wd_pow {wd h : Nat} (hw1 : 1 ≤ wd) (hw : wd ≤ 3) (hh : h ≤ wd - 1) : 4 ^ h ≤ 2 ^ (2 * (wd - 1)) ∧ 2 ^ (2 * (wd - 1)) ≤ 16 ∧ 2 ^ (2 * wd) = 4 * 2 ^ (2 * (wd - 1)) := by
  have e : (4 : Nat) ^ h = 2 ^ (2 * h) := by rw [Nat.pow_mul]
  refine ⟨by rw [e]; exact Nat.pow_le_pow_right (by decide) (by omega), Nat.le_trans (Nat.pow_le_pow_right (by decide) (show 2 * (wd - 1) ≤ 4 by omega)) (by decide), ?_⟩
  rw [show 2 * wd = 2 * (wd - 1) + 2 by omega, Nat.pow_add]
  omega
theorem bhd_eq {wd LA LB K y : Nat} {TD : Nat → Nat} {sb : Nat → Nat → Nat} (hw1 : 1 ≤ wd) (hw : wd ≤ 3) (hy : y < 4) (hK : KOK wd LA LB K) (hs : ∀ x y, sb x y < 65536) : bhd wd TD sb K y = ctN wd K * 1048576 + kpN wd K y * 65536 + nxN wd TD sb K y ∧ ctN wd K ≤ wd - 1 ∧ kpN wd K y < 4 ^ ctN wd K ∧ kpN wd K y < 16 ∧ nxN wd TD sb K y < 65536 := by
  obtain ⟨h1, h2, h3, h4, h5⟩ := hK
  have hr := bhdR_nw K hy
  have p1 := wd_pow hw1 hw h4
  have hnw : nwN K y < 4 * 4 ^ (K / 1048576 % 4) := by unfold nwN; omega
  have hsb := hs (K % 65536) (TD (nwN K y))
  have hwlt : nwN K y < 2 ^ (2 * wd) := by rw [p1.2.2]; omega
  by_cases c : K / 1048576 % 4 = wd - 1
  · have e0 : ctN wd K = K / 1048576 % 4 := if_pos c
    have e1 : nxN wd TD sb K y = sb (K % 65536) (TD (nwN K y)) := if_pos c
    have e2 : kpN wd K y = nwN K y % 2 ^ (2 * (wd - 1)) := by
      unfold kpN
      by_cases w : wd = 1
      · rw [if_pos w, w]
        exact (Nat.mod_one _).symm
      · rw [if_neg w]
    have e4 : (4 : Nat) ^ (wd - 1) = 2 ^ (2 * (wd - 1)) := by rw [Nat.pow_mul]
    have e3 : kpN wd K y < 2 ^ (2 * (wd - 1)) := by rw [e2]; exact Nat.mod_lt _ (Nat.two_pow_pos _)
    refine ⟨?_, by omega, by rw [e0, c, e4]; exact e3, by omega, by rw [e1]; exact hsb⟩
    unfold bhd
    rw [hr, ky_20, and16, if_neg (by omega), if_pos hwlt, show 2 ^ (2 * wd) >>> 2 = 2 ^ (2 * (wd - 1)) by rw [Nat.shiftRight_eq_div_pow, p1.2.2]; omega, Nat.and_two_pow_sub_one_eq_mod, bits3 (by omega) (by rw [← e2]; omega) hsb, ← e2, e0, e1]
  · have e0 : ctN wd K = K / 1048576 % 4 + 1 := if_neg c
    have e1 : nxN wd TD sb K y = K % 65536 := if_neg c
    have p2 := wd_pow hw1 hw (show K / 1048576 % 4 + 1 ≤ wd - 1 by omega)
    have e5 : (4 : Nat) ^ (K / 1048576 % 4 + 1) = 4 * 4 ^ (K / 1048576 % 4) := by rw [Nat.pow_succ]; omega
    have e2 : kpN wd K y = nwN K y := by
      unfold kpN
      rw [if_neg (by omega), Nat.mod_eq_of_lt (by omega)]
    refine ⟨?_, by omega, by rw [e0, e2, e5]; exact hnw, by omega, by omega⟩
    unfold bhd
    rw [hr, ky_20, and16, if_pos (by omega), show (15 : Nat) = 2 ^ 4 - 1 from rfl, Nat.and_two_pow_sub_one_eq_mod, Nat.mod_eq_of_lt (show nwN K y < 2 ^ 4 by omega), bits3 (by omega) (by omega) (by omega), e0, e1, e2]
theorem mkey {r ct kp nx : Nat} (hr : r < 16) (hc : ct < 4) (hk : kp < 16) (hn : nx < 65536) : ((r <<< 40 ||| ct <<< 32) ||| kp <<< 24) ||| nx = cv (r <<< 22 ||| (ct * 1048576 + kp * 65536 + nx)) := by
  have e1 : kp <<< 24 ||| nx = kp <<< 24 + nx := (Nat.shiftLeft_add_eq_or_of_lt (i := 24) (by omega) kp).symm
  have e2 : ct <<< 32 ||| (kp <<< 24 + nx) = ct <<< 32 + (kp <<< 24 + nx) := (Nat.shiftLeft_add_eq_or_of_lt (i := 32) (by rw [Nat.shiftLeft_eq]; omega) ct).symm
  have e3 : r <<< 40 ||| (ct <<< 32 + (kp <<< 24 + nx)) = r <<< 40 + (ct <<< 32 + (kp <<< 24 + nx)) := (Nat.shiftLeft_add_eq_or_of_lt (i := 40) (by rw [Nat.shiftLeft_eq, Nat.shiftLeft_eq]; omega) r).symm
  have e4 : r <<< 22 ||| (ct * 1048576 + kp * 65536 + nx) = r <<< 22 + (ct * 1048576 + kp * 65536 + nx) := (Nat.shiftLeft_add_eq_or_of_lt (i := 22) (by omega) r).symm
  rw [Nat.or_assoc, Nat.or_assoc, e1, e2, e3, e4]
  simp only [Nat.shiftLeft_eq]
  unfold cv
  omega
theorem mkey0 {r nx : Nat} (hr : r < 16) (hn : nx < 65536) : r <<< 40 ||| nx = cv (r <<< 22 ||| nx) := by
  have e3 : r <<< 40 ||| nx = r <<< 40 + nx := (Nat.shiftLeft_add_eq_or_of_lt (i := 40) (by omega) r).symm
  have e4 : r <<< 22 ||| nx = r <<< 22 + nx := (Nat.shiftLeft_add_eq_or_of_lt (i := 22) (by omega) r).symm
  rw [e3, e4, Nat.shiftLeft_eq, Nat.shiftLeft_eq]
  unfold cv
  omega
theorem KOK_new {wd LA LB r ct kp nx : Nat} (hr : r < 16) (hw : wd ≤ 3) (hl : LA.testBit r = true) (hc : ct ≤ wd - 1) (hk : kp < 4 ^ ct) (hk6 : kp < 16) (hn : nx < 65536) (hs : sub nx LB) : KOK wd LA LB (r <<< 22 ||| (ct * 1048576 + kp * 65536 + nx)) := by
  have e4 : r <<< 22 ||| (ct * 1048576 + kp * 65536 + nx) = r <<< 22 + (ct * 1048576 + kp * 65536 + nx) := (Nat.shiftLeft_add_eq_or_of_lt (i := 22) (by omega) r).symm
  rw [e4, Nat.shiftLeft_eq]
  unfold KOK
  rw [show (r * 2 ^ 22 + (ct * 1048576 + kp * 65536 + nx)) / 4194304 = r by omega, show (r * 2 ^ 22 + (ct * 1048576 + kp * 65536 + nx)) / 1048576 % 4 = ct by omega, show (r * 2 ^ 22 + (ct * 1048576 + kp * 65536 + nx)) / 65536 % 16 = kp by omega, show (r * 2 ^ 22 + (ct * 1048576 + kp * 65536 + nx)) % 65536 = nx by omega]
  exact ⟨by omega, hl, hs, hc, hk⟩
theorem KOK_new0 {wd LA LB r : Nat} (hr : r < 16) (hl : LA.testBit r = true) (hn : LB < 65536) : KOK wd LA LB (r <<< 22 ||| LB) := by
  have e4 : r <<< 22 ||| LB = r <<< 22 + LB := (Nat.shiftLeft_add_eq_or_of_lt (i := 22) (by omega) r).symm
  rw [e4, Nat.shiftLeft_eq]
  unfold KOK
  rw [show (r * 2 ^ 22 + LB) / 4194304 = r by omega, show (r * 2 ^ 22 + LB) / 1048576 % 4 = 0 by omega, show (r * 2 ^ 22 + LB) / 65536 % 16 = 0 by omega, show (r * 2 ^ 22 + LB) % 65536 = LB by omega]
  exact ⟨by omega, hl, sub_refl _, Nat.zero_le _, by decide⟩
/-- the model's list of keys -/
theorem mem_cv {kn : List Nat} {key : Nat} (h : ∀ x ∈ kn, x < 67108864) (hk : key < 67108864) : cv key ∈ kn.map cv ↔ key ∈ kn := by
  rw [List.mem_map]
  constructor
  · rintro ⟨a, ha, e⟩
    rw [← cv_inj (h a ha) hk e]; exact ha
  · intro hm; exact ⟨key, hm, rfl⟩
theorem adK_cv {kn : List Nat} {key : Nat} (h : ∀ x ∈ kn, x < 67108864) (hk : key < 67108864) : adK (kn.map cv) (cv key) = (adK kn key).map cv := by
  unfold adK
  by_cases c : key ∈ kn
  · rw [if_pos c, if_pos ((mem_cv h hk).mpr c)]
  · rw [if_neg c, if_neg (fun q => c ((mem_cv h hk).mp q)), List.map_append]; rfl
theorem getD_cv {kn : List Nat} {i : Nat} (h : i < kn.length) : (kn.map cv).getD i 0 = cv (kn.getD i 0) := by
  rw [getD_lt (by rw [List.length_map]; exact h), getD_lt h, List.getElem_map]
/-- the fold, as far as the states go -/
theorem mF_len {sts rest : Nat} {x : List Nat × Nat} {n m : Nat} (h : n ≤ m) : (rr_fold (mA1 sts rest) n x).1.length ≤ (rr_fold (mA1 sts rest) m x).1.length := by
  induction h with
  | refl => exact Nat.le_refl _
  | @step m _ ih =>
    rw [rr_fold_succ]
    refine Nat.le_trans ih ?_
    unfold mA1
    split
    · exact (adK_len _ _).1
    · exact Nat.le_refl _
theorem mF_stop {sts rest : Nat} {x : List Nat × Nat} {n : Nat} (hs : sts < 2 ^ n) : ∀ d, rr_fold (mA1 sts rest) (n + d) x = rr_fold (mA1 sts rest) n x
  | 0 => rfl
  | d + 1 => by
    show mA1 sts rest (n + d) (rr_fold (mA1 sts rest) (n + d) x) = _
    rw [mF_stop hs d]
    unfold mA1
    rw [if_neg (by rw [Nat.testBit_lt_two_pow (Nat.lt_of_lt_of_le hs (Nat.pow_le_pow_right (by decide) (by omega)))]; decide)]
theorem mF_16 {sts rest : Nat} {x : List Nat × Nat} {n : Nat} (hn : n ≤ 16) (hs : sts < 2 ^ n) : rr_fold (mA1 sts rest) n x = mAll sts rest x := by
  have := mF_stop (rest := rest) (x := x) hs (16 - n)
  rw [show n + (16 - n) = 16 by omega] at this
  exact this.symm
theorem mF_yes {sts rest r : Nat} {x : List Nat × Nat} (h : sts.testBit r = true) : (rr_fold (mA1 sts rest) (r + 1) x).1 = adK (rr_fold (mA1 sts rest) r x).1 (r <<< 22 ||| rest) := by
  rw [rr_fold_succ]
  unfold mA1
  rw [if_pos h]
theorem mF_no {sts rest r : Nat} {x : List Nat × Nat} (h : sts.testBit r = false) : rr_fold (mA1 sts rest) (r + 1) x = rr_fold (mA1 sts rest) r x := by
  rw [rr_fold_succ]
  unfold mA1
  rw [if_neg (by rw [h]; decide)]
/-- what is met does not hang on the room -/
theorem mA_ind (sts rest : Nat) (kn : List Nat) (c c' : Nat) : ∀ n, (rr_fold (mA1 sts rest) n (kn, c)).1 = (rr_fold (mA1 sts rest) n (kn, c')).1
  | 0 => rfl
  | n + 1 => by
    have ih := mA_ind sts rest kn c c' n
    rw [rr_fold_succ, rr_fold_succ]
    unfold mA1 at ih ⊢
    split
    · dsimp only; rw [ih]
    · exact ih
theorem mgo_ind (ea bh : Nat → Nat → Nat) (k : Nat) : ∀ f p l kn c c', (mgo ea bh k f p l kn c).1 = (mgo ea bh k f p l kn c').1
  | 0, _, _, _, _, _ => rfl
  | f + 1, p, l, kn, c, c' => by
    have e := fun a b => mA_ind a b kn c c' 16
    rw [mgo_succ, mgo_succ]
    split
    · split
      · split
        · exact mgo_ind ea bh k f _ _ _ _ _
        · split
          · rfl
          · unfold mAll
            rw [e]
            split
            · rfl
            · exact mgo_ind ea bh k f _ _ _ _ _
      · exact mgo_ind ea bh k f _ _ _ _ _
    · rfl
theorem skM_ind (k na : Nat) (Ea : Nat → Nat) (ala wd : Nat) (TD : Nat → Nat) (kb nb : Nat) (Eb : Nat → Nat) (alb c c' : Nat) : (skM k na Ea ala wd TD kb nb Eb alb c).1 = (skM k na Ea ala wd TD kb nb Eb alb c').1 := by
  unfold skM
  split
  · rfl
  · split
    · rfl
    · unfold mAll
      rw [mA_ind ala alb [] c c' 16]
      exact mgo_ind _ _ _ _ _ _ _ _ _
def mpR (kF nF yF : Nat → Nat) (wd : Nat) (TD : Nat → Nat) (a b : Nat) : Nat := (skM (kF a) (nF a) (Es yF a) (liveS (kF a) (nF a) (Es yF a)) wd TD (kF b) (nF b) (Es yF b) (liveS (kF b) (nF b) (Es yF b)) 0).1
def mapA (ns : Nat) (kF nF yF : Nat → Nat) (wd : Nat) (TD : Nat → Nat) (x y : Int32) : Int32 := if (isS ns x && isS ns y) = true then ansQ (mpR kF nF yF wd TD (cN x) (cN y)) else -2
theorem mgo_ge {ea bh : Nat → Nat → Nat} {k f p l : Nat} {kn : List Nat} {c : Nat} (h : ¬ p < kn.length) : (mgo ea bh k (f + 1) p l kn c).1 = 0 := by rw [mgo_succ, if_neg h]
theorem mgo_row {ea bh : Nat → Nat → Nat} {k f p l : Nat} {kn : List Nat} {c : Nat} (h : p < kn.length) (hl : ¬ l < k) : mgo ea bh k (f + 1) p l kn c = mgo ea bh k f (p + 1) 0 kn c := by rw [mgo_succ, if_pos h, if_neg hl]
theorem mgo_zero {ea bh : Nat → Nat → Nat} {k f p l : Nat} {kn : List Nat} {c : Nat} (h : p < kn.length) (hl : l < k) (h0 : ea (kn.getD p 0 >>> 22 &&& 15) l = 0) : mgo ea bh k (f + 1) p l kn c = mgo ea bh k f p (l + 1) kn c := by rw [mgo_succ, if_pos h, if_pos hl, if_pos h0]
theorem mgo_part {ea bh : Nat → Nat → Nat} {k f p l : Nat} {kn : List Nat} {c : Nat} (h : p < kn.length) (hl : l < k) (h0 : ¬ ea (kn.getD p 0 >>> 22 &&& 15) l = 0) (hb : bh (kn.getD p 0) l &&& 65535 = 0) : (mgo ea bh k (f + 1) p l kn c).1 = 1 := by rw [mgo_succ, if_pos h, if_pos hl, if_neg h0, if_pos hb]
theorem mgo_spent {ea bh : Nat → Nat → Nat} {k f p l : Nat} {kn : List Nat} {c : Nat} (h : p < kn.length) (hl : l < k) (h0 : ¬ ea (kn.getD p 0 >>> 22 &&& 15) l = 0) (hb : ¬ bh (kn.getD p 0) l &&& 65535 = 0) (hs : 20000 < (mAll (ea (kn.getD p 0 >>> 22 &&& 15) l) (bh (kn.getD p 0) l) (kn, c)).1.length) : (mgo ea bh k (f + 1) p l kn c).1 = 2 := by rw [mgo_succ, if_pos h, if_pos hl, if_neg h0, if_neg hb, if_pos hs]
theorem mgo_on {ea bh : Nat → Nat → Nat} {k f p l : Nat} {kn : List Nat} {c : Nat} (h : p < kn.length) (hl : l < k) (h0 : ¬ ea (kn.getD p 0 >>> 22 &&& 15) l = 0) (hb : ¬ bh (kn.getD p 0) l &&& 65535 = 0) (hs : ¬ 20000 < (mAll (ea (kn.getD p 0 >>> 22 &&& 15) l) (bh (kn.getD p 0) l) (kn, c)).1.length) : mgo ea bh k (f + 1) p l kn c = mgo ea bh k f p (l + 1) (mAll (ea (kn.getD p 0 >>> 22 &&& 15) l) (bh (kn.getD p 0) l) (kn, c)).1 (mAll (ea (kn.getD p 0 >>> 22 &&& 15) l) (bh (kn.getD p 0) l) (kn, c)).2 := by rw [mgo_succ, if_pos h, if_pos hl, if_neg h0, if_neg hb, if_neg hs]
theorem ks_all {wd LA LB : Nat} {kn : List Nat} {key : Nat} (h : ∀ x ∈ kn, KOK wd LA LB x) (hk : KOK wd LA LB key) : ∀ x ∈ adK kn key, KOK wd LA LB x := adK_all h hk
theorem cv_all {kn : List Nat} (h : ∀ x ∈ kn, x < 67108864) : ∀ x ∈ kn.map cv, x < 2 ^ 62 := fun x hx => by
  obtain ⟨a, ha, rfl⟩ := List.mem_map.mp hx
  exact cv_lt (h a ha)
/-- what meets leaves, told by the class's keys -/
theorem adK_eqs {kn : List Nat} {key : Nat} {α : Type} {f g : α} (h : ∀ x ∈ kn, x < 67108864) (hk : key < 67108864) : (if cv key ∈ kn.map cv then f else g) = if key ∈ kn then f else g := by
  by_cases c : key ∈ kn
  · rw [if_pos c, if_pos ((mem_cv h hk).mpr c)]
  · rw [if_neg c, if_neg (fun q => c ((mem_cv h hk).mp q))]
theorem KQ_met {kn : List Nat} {qF : Nat → Nat} {key : Nat} (h : KQ kn qF) : KQ (adK kn key) (if key ∈ kn then qF else va_up qF kn.length key) := by
  by_cases c : key ∈ kn
  · rw [if_pos c, adK_in c]; exact h
  · rw [if_neg c, adK_new c]; exact KQ_add h
end
theorem mAll_0 (rest : Nat) (x : List Nat × Nat) : mAll 0 rest x = x := by
  have := mF_stop (sts := 0) (rest := rest) (x := x) (n := 0) (by decide) 16
  exact this
