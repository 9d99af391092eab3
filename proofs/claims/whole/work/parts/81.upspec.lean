section
/-! what is read beside a region -/
theorem rr_ro2 {A : Nat → Prop} {D : va_G} {cl : List vw_C} {ws wc wr : va_W} {H : Heap} (hP : va_P D cl ws H) (hD : va_D A ws) (isC isR : List Nat) (hC : isC.map (fun i => ws[i]?) = wc.map some) (hR : isR.map (fun i => ws[i]?) = wr.map some) (hdis : ∀ i ∈ isR, i ∉ isC) : ∀ (k : Nat) (q : Nat × va_E), wr[k]? = some q → ¬ va_A wc H.size q.1 := by
  have at' : ∀ {is : List Nat} {w : va_W}, is.map (fun i => ws[i]?) = w.map some → ∀ (k : Nat) (q : Nat × va_E), w[k]? = some q → ∃ i ∈ is, ws[i]? = some q := by
    intro is w hs k q hq
    have h1 : (w.map some)[k]? = some (some q) := by rw [List.getElem?_map, hq]; rfl
    rw [← hs, List.getElem?_map] at h1
    cases h2 : is[k]? with
    | none => rw [h2] at h1; cases h1
    | some i =>
      rw [h2] at h1
      exact ⟨i, List.mem_of_getElem? h2, Option.some.inj h1⟩
  intro k q hq hA
  obtain ⟨i, hi, h1⟩ := at' hR k q hq
  rcases hA with ⟨k2, e, h2⟩ | h2
  · obtain ⟨j, hj, h3⟩ := at' hC k2 (q.1, e) h2
    have := hD.1 i j q (q.1, e) h1 h3 rfl
    exact hdis i hi (this ▸ hj)
  · have := (hP i q h1).lt
    omega
theorem rrin_no {x : Int32} {a b : Nat} (ha : a < 2 ^ 31) (hb : b < 2 ^ 31) (h : rrin x (nI a) (nI b) = false) : x.toInt < (a : Int) ∨ (b : Int) < x.toInt := by
  unfold rrin at h
  have e1 : (nI a).toInt = (a : Int) := nI_toInt ha
  have e2 : (nI b).toInt = (b : Int) := nI_toInt hb
  by_cases c : x < nI a
  · rw [Int32.lt_iff_toInt_lt, e1] at c; exact Or.inl c
  · by_cases d : nI b < x
    · rw [Int32.lt_iff_toInt_lt, e2] at d; exact Or.inr d
    · rw [decide_eq_false c, decide_eq_false d] at h; cases h
/-! rows that come round: the digits read from either end -/
theorem lsGo_it {sb : Nat → Nat → Nat} {w : Nat → Nat} {nn al : Nat} (h0 : rsF sb w nn 0 = 0) : ∀ f i, (lsGo sb w nn f (rr_it (rsF sb w nn) i al) (rr_it (rsF sb w nn) (i + 1) al) ≠ 0) ↔ rr_it (rsF sb w nn) (i + 1 + f) al ≠ 0
  | 0, _ => Iff.rfl
  | f + 1, i => by
    rw [lsGo_succ]
    by_cases c : rr_it (rsF sb w nn) (i + 1) al = rr_it (rsF sb w nn) i al ∨ rr_it (rsF sb w nn) (i + 1) al = 0
    · rw [if_pos c]
      rcases c with c | c
      · have h1 := rr_it_fix (f := rsF sb w nn) (x := al) (i := i) c (i + 1 + (f + 1)) (by omega)
        rw [h1, ← c]
      · have h1 := it_zero (f := rsF sb w nn) (x := al) h0 c (show i + 1 ≤ i + 1 + (f + 1) by omega)
        rw [c, h1]
    · rw [if_neg c]
      have ih := lsGo_it (al := al) h0 f (i + 1)
      rw [show i + 1 + (f + 1) = i + 1 + 1 + f by omega]
      exact ih
def revk (k : Nat) : Nat → Nat → Nat
  | 0, _ => 0
  | nn + 1, r => r % k * k ^ nn + revk k nn (r / k)
theorem revk_lt {k : Nat} (hk : 0 < k) : ∀ nn r, revk k nn r < k ^ nn
  | 0, _ => by rw [Nat.pow_zero]; exact Nat.zero_lt_one
  | nn + 1, r => by
    have ih := revk_lt hk nn (r / k)
    have h1 := Nat.mod_lt r hk
    have h2 : (r % k + 1) * k ^ nn ≤ k * k ^ nn := Nat.mul_le_mul_right _ h1
    rw [Nat.add_mul, Nat.one_mul] at h2
    show r % k * k ^ nn + revk k nn (r / k) < k ^ (nn + 1)
    rw [Nat.pow_succ, Nat.mul_comm (k ^ nn) k]
    omega
theorem revk_dig {k : Nat} (hk : 0 < k) : ∀ nn r i, i < nn → revk k nn r / k ^ i % k = r / k ^ (nn - 1 - i) % k
  | 0, _, i, h => absurd h (Nat.not_lt_zero i)
  | nn + 1, r, i, h => by
    have hb := revk_lt hk nn (r / k)
    show (r % k * k ^ nn + revk k nn (r / k)) / k ^ i % k = _
    rcases Nat.lt_or_ge i nn with w | w
    · have ih := revk_dig hk nn (r / k) i w
      obtain ⟨d, rfl⟩ : ∃ d, nn = i + (d + 1) := ⟨nn - i - 1, by omega⟩
      rw [Nat.pow_add, Nat.mul_comm (r % k), Nat.mul_assoc, Nat.mul_add_div (Nat.pow_pos hk), Nat.pow_succ, Nat.mul_comm (k ^ d) k, Nat.mul_assoc, Nat.mul_add_mod, ih, Nat.div_div_eq_div_mul, ← Nat.pow_succ', show (i + (d + 1) - 1 - i).succ = i + (d + 1) + 1 - 1 - i by omega]
    · obtain rfl : i = nn := by omega
      rw [Nat.mul_comm (r % k), Nat.mul_add_div (Nat.pow_pos hk), Nat.div_eq_of_lt hb, Nat.add_zero, Nat.mod_mod, show i + 1 - 1 - i = 0 by omega, Nat.pow_zero, Nat.div_one]
theorem dig_ext {k : Nat} (hk : 0 < k) : ∀ nn x y, x < k ^ nn → y < k ^ nn → (∀ i, i < nn → x / k ^ i % k = y / k ^ i % k) → x = y
  | 0, x, y, hx, hy, _ => by rw [Nat.pow_zero] at hx hy; omega
  | nn + 1, x, y, hx, hy, h => by
    have h0 := h 0 (Nat.succ_pos _)
    rw [Nat.pow_zero, Nat.div_one, Nat.div_one] at h0
    have h1 : x / k = y / k := dig_ext hk nn _ _ (Nat.div_lt_of_lt_mul (by rw [← Nat.pow_succ']; exact hx)) (Nat.div_lt_of_lt_mul (by rw [← Nat.pow_succ']; exact hy)) (fun i hi => by
      have h2 := h (i + 1) (by omega)
      rw [Nat.pow_succ', ← Nat.div_div_eq_div_mul, ← Nat.div_div_eq_div_mul] at h2
      exact h2)
    rw [← Nat.div_add_mod x k, ← Nat.div_add_mod y k, h0, h1]
theorem revk_rev {k nn r : Nat} (hk : 0 < k) (hr : r < k ^ nn) : revk k nn (revk k nn r) = r := dig_ext hk nn _ _ (revk_lt hk nn _) hr (fun i hi => by
  rw [revk_dig hk nn _ i hi, revk_dig hk nn r _ (by omega), show nn - 1 - (nn - 1 - i) = i by omega])
theorem crN_sN (g : Nat → Bool) : ∀ n, crN g n = sN n (fun i => (g i).toNat)
  | 0 => rfl
  | n + 1 => by
    rw [crN_succ, sN_succ, ← crN_sN g n]
    cases g n
    · rfl
    · rfl
theorem crN_inv {g : Nat → Bool} {sg : Nat → Nat} {n : Nat} (h1 : ∀ i, i < n → sg i < n) (h2 : ∀ i, i < n → sg (sg i) = i) : crN (fun i => g (sg i)) n = crN g n := by
  rw [crN_sN, crN_sN]
  have e1 : sN n (fun i => (g (sg i)).toNat) = sN n (fun i => sN n (fun j => (g j).toNat * (if j = sg i then 1 else 0))) := sN_congr (fun i hi => (sN_one (h1 i hi) (fun j => (g j).toNat)).symm)
  rw [e1, sN_swap]
  refine sN_congr (fun j hj => ?_)
  have e2 : sN n (fun i => (g j).toNat * (if j = sg i then 1 else 0)) = sN n (fun i => (g j).toNat * (if i = sg j then 1 else 0)) := sN_congr (fun i hi => by
    by_cases c : j = sg i
    · rw [if_pos c, if_pos (by rw [c, h2 i hi])]
    · rw [if_neg c, if_neg (fun e => c (by rw [e, h2 j hj]))])
  rw [e2]
  exact sN_one (h1 j hj) (fun _ => (g j).toNat)
theorem crN_congr {f g : Nat → Bool} : ∀ {n : Nat}, (∀ i, i < n → f i = g i) → crN f n = crN g n
  | 0, _ => rfl
  | n + 1, h => by rw [crN_succ, crN_succ, h n (Nat.lt_succ_self _), crN_congr (fun i hi => h i (by omega))]
theorem rnd_eq {k n al nn : Nat} {E : Nat → Nat} (hk : 0 < k) (hn : 1 ≤ nn) : crN (lgR (ldS k n E al) k nn al) (k ^ nn) = crN (mR (ldS k n E al) k nn al) (k ^ nn) := by
  have key : ∀ r, r < k ^ nn → lgR (ldS k n E al) k nn al r = mR (ldS k n E al) k nn al (revk k nn r) := fun r hr => by
    unfold lgR mR
    have hd : ∀ j, j < nn → dgt k nn r j = revk k nn r / k ^ j % k := fun j hj => by
      rw [revk_dig hk nn r j hj]
      have h := dgt_lt (j := j) hk (by omega) hr
      by_cases e : j = 0
      · have h2 := dgt_lt (j := 0) hk (by omega) hr
        rw [e]
        unfold dgt at h2 ⊢
        rw [if_pos rfl] at h2 ⊢
        rw [Nat.sub_zero, Nat.mod_eq_of_lt h2]
      · rw [dgt_pos (by omega)]
    rw [rsF_congr (g := fun j => revk k nn r / k ^ j % k) hd, lsGo_congr hd 16]
    refine decide_eq_decide.mpr ?_
    have h := lsGo_it (sb := ldS k n E al) (w := fun j => revk k nn r / k ^ j % k) (nn := nn) (al := al) (rsF_0 (fun y => ldS_0 _ _ _ _ y) nn) 16 0
    exact h
  rw [crN_congr key]
  exact crN_inv (g := mR (ldS k n E al) k nn al) (fun i _ => revk_lt hk nn i) (fun i hi => revk_rev hk hi)
/-! ways counted -/
theorem pc_tgl {a t : Nat} (ht : t < 16) : pc (a ^^^ 1 <<< t) = if a.testBit t = true then pc a - 1 else pc a + 1 := by
  have key : ∀ m, pcn m (a ^^^ 1 <<< t) + (if t < m ∧ a.testBit t = true then 1 else 0) = pcn m a + (if t < m ∧ a.testBit t = false then 1 else 0) := by
    intro m
    induction m with
    | zero => rw [if_neg (by omega), if_neg (by omega)]; rfl
    | succ m ih =>
      show pcn m (a ^^^ 1 <<< t) + ((a ^^^ 1 <<< t).testBit m).toNat + _ = pcn m a + (a.testBit m).toNat + _
      rw [Nat.testBit_xor, Nat.one_shiftLeft, Nat.testBit_two_pow]
      rw [Nat.one_shiftLeft] at ih
      by_cases e : t = m
      · subst e
        rw [if_neg (by omega), if_neg (by omega)] at ih
        rw [decide_eq_true rfl]
        cases h : a.testBit t
        · rw [if_neg (by simp), if_pos ⟨Nat.lt_succ_self _, rfl⟩]
          simp only [Bool.false_xor, Bool.toNat_true, Bool.toNat_false]
          omega
        · rw [if_pos ⟨Nat.lt_succ_self _, rfl⟩, if_neg (by simp)]
          simp only [Bool.true_xor, Bool.not_true, Bool.toNat_true, Bool.toNat_false]
          omega
      · rw [decide_eq_false e, Bool.xor_false]
        have e1 : (t < m + 1 ∧ a.testBit t = true) ↔ (t < m ∧ a.testBit t = true) := ⟨fun h => ⟨by omega, h.2⟩, fun h => ⟨by omega, h.2⟩⟩
        have e2 : (t < m + 1 ∧ a.testBit t = false) ↔ (t < m ∧ a.testBit t = false) := ⟨fun h => ⟨by omega, h.2⟩, fun h => ⟨by omega, h.2⟩⟩
        simp only [e1, e2]
        omega
  have h := key 16
  cases hb : a.testBit t
  · rw [hb] at h
    rw [if_neg (by simp), if_pos ⟨ht, rfl⟩] at h
    rw [if_neg (by decide)]
    exact h
  · rw [hb] at h
    rw [if_pos ⟨ht, rfl⟩, if_neg (by simp)] at h
    rw [if_pos rfl]
    show pcn 16 _ = pcn 16 _ - 1
    omega
theorem sN_up {f g : Nat → Nat} {q : Nat} : ∀ {n : Nat}, q < n → (∀ i, i < n → i ≠ q → g i = f i) → sN n g + f q = sN n f + g q
  | 0, h, _ => absurd h (Nat.not_lt_zero _)
  | n + 1, h, he => by
    rw [sN_succ, sN_succ]
    by_cases e : n = q
    · subst e
      rw [sN_congr (fun i hi => he i (by omega) (by omega))]
      omega
    · have ih := sN_up (f := f) (g := g) (q := q) (n := n) (by omega) (fun i hi hne => he i (by omega) hne)
      rw [he n (Nat.lt_succ_self _) e]
      omega
theorem ways_tgl {k n q y t : Nat} {E : Nat → Nat} (hk : k ≤ 4) (hq : q < n) (hy : y < k) (ht : t < 16) : waysS k n (va_up E (q * 4 + y) (E (q * 4 + y) ^^^ 1 <<< t)) = (if (E (q * 4 + y)).testBit t = true then waysS k n E - 1 else waysS k n E + 1) ∧ ((E (q * 4 + y)).testBit t = true → 0 < waysS k n E) := by
  have hp := pc_tgl (a := E (q * 4 + y)) ht
  have h1 := sN_up (n := k) (q := y) (f := fun y => pc (E (q * 4 + y))) (g := fun z => pc (va_up E (q * 4 + y) (E (q * 4 + y) ^^^ 1 <<< t) (q * 4 + z))) hy (fun i hi hne => by rw [va_up_ne _ _ (by omega)])
  have h2 := sN_up (n := n) (q := q) (f := fun q => sN k (fun y => pc (E (q * 4 + y)))) (g := fun z => sN k (fun w => pc (va_up E (q * 4 + y) (E (q * 4 + y) ^^^ 1 <<< t) (z * 4 + w)))) hq (fun i hi hne => sN_congr (fun w hw => by rw [va_up_ne _ _ (by omega)]))
  rw [va_up_self] at h1
  have h3 : waysS k n (va_up E (q * 4 + y) (E (q * 4 + y) ^^^ 1 <<< t)) = sN n (fun z => sN k (fun w => pc (va_up E (q * 4 + y) (E (q * 4 + y) ^^^ 1 <<< t) (z * 4 + w)))) := rfl
  have h4 : waysS k n E = sN n (fun q => sN k (fun y => pc (E (q * 4 + y)))) := rfl
  have h5 : (E (q * 4 + y)).testBit t = true → 0 < pc (E (q * 4 + y)) := fun h => by
    have := sN_ge (f := fun i => ((E (q * 4 + y)).testBit i).toNat) ht
    have e : ((E (q * 4 + y)).testBit t).toNat = 1 := by rw [h]; rfl
    show 0 < sN 16 _
    rw [e] at this
    omega
  have h6 := sN_ge (f := fun y => pc (E (q * 4 + y))) hy
  have h7 := sN_ge (f := fun q => sN k (fun y => pc (E (q * 4 + y)))) hq
  rw [h3, h4]
  cases hb : (E (q * 4 + y)).testBit t
  · rw [hb, if_neg (by decide)] at hp
    rw [if_neg (by decide)]
    refine ⟨by omega, fun h => by cases h⟩
  · have := h5 hb
    rw [hb, if_pos rfl] at hp
    rw [if_pos rfl]
    refine ⟨by omega, fun _ => by omega⟩
/-! a set without ways -/
theorem oE0 (k al q : Nat) : lO k al (fun _ => 0) q = 0 := by
  unfold lO
  apply Nat.eq_of_testBit_eq
  intro i
  rw [Nat.zero_testBit]
  refine Bool.eq_false_iff.mpr (fun h => ?_)
  obtain ⟨y, _, h2⟩ := (orN_testBit _ i k).mp h
  unfold lvE at h2
  split at h2
  · rw [Nat.zero_and, Nat.zero_testBit] at h2; cases h2
  · rw [Nat.zero_testBit] at h2; cases h2
theorem live_0 {k n : Nat} (hn : 1 ≤ n) : liveS k n (fun _ => 0) = 0 := by
  have h1 : ∀ x, lst k n (fun _ => 0) x = 0 := fun x => by
    unfold lst
    have : orN n (lO k x (fun _ => 0)) = 0 := by
      apply Nat.eq_of_testBit_eq
      intro i
      rw [Nat.zero_testBit]
      refine Bool.eq_false_iff.mpr (fun h => ?_)
      obtain ⟨y, _, h2⟩ := (orN_testBit _ i n).mp h
      rw [oE0, Nat.zero_testBit] at h2
      cases h2
    rw [this, Nat.and_zero]
  obtain ⟨m, rfl⟩ : ∃ m, n = m + 1 := ⟨n - 1, by omega⟩
  exact h1 _
theorem ways_0 (k n : Nat) : waysS k n (fun _ => 0) = 0 := by
  unfold waysS
  rw [sN_congr (g := fun _ => 0) (fun q _ => by rw [sN_congr (g := fun _ => 0) (fun y _ => pc_0), sN_zero]), sN_zero]
theorem lw_0 (k n : Nat) : lwS k n 0 (fun _ => 0) = 0 := by
  unfold lwS
  rw [sN_congr (g := fun _ => 0) (fun q _ => by rw [sN_congr (g := fun _ => 0) (fun y _ => lvE_dead (Nat.zero_testBit q)), sN_zero]), sN_zero]
theorem TInv_0 (k n : Nat) : TInv k n 0 (fun _ => 0) (fun _ => 0) := by
  refine ⟨fun _ _ _ _ => rfl, fun y g x _ _ _ => ?_⟩
  symm
  unfold gdT
  apply Nat.eq_of_testBit_eq
  intro i
  rw [Nat.zero_testBit]
  refine Bool.eq_false_iff.mpr (fun h => ?_)
  obtain ⟨j, _, h2⟩ := (orN_testBit _ i 4).mp h
  split at h2
  · split at h2
    · unfold lvE at h2
      rw [if_neg (by rw [Nat.zero_testBit]; decide), Nat.zero_testBit] at h2
      cases h2
    · rw [Nat.zero_testBit] at h2; cases h2
  · rw [Nat.zero_testBit] at h2; cases h2
theorem sN_mul (f : Nat → Nat) (k : Nat) : ∀ n, sN (n * k) f = sN n (fun q => sN k (fun y => f (q * k + y)))
  | 0 => by rw [Nat.zero_mul]; rfl
  | n + 1 => by
    have h : ∀ m, sN (n * k + m) f = sN (n * k) f + sN m (fun y => f (n * k + y)) := by
      intro m
      induction m with
      | zero => rfl
      | succ m ih => rw [← Nat.add_assoc, sN_succ, ih, sN_succ, Nat.add_assoc]
    rw [Nat.add_mul, Nat.one_mul, h k, sN_succ, sN_mul f k n]
theorem ly_ways {k n : Nat} {bd : Nat → Bool} (hk : 0 < k) (hk4 : k ≤ 4) (hn : 0 < n) (hn16 : n ≤ 16) : waysS k n (lyE k n bd (n * k)) = lyW bd (n * k) := by
  unfold lyW waysS
  rw [sN_mul]
  refine sN_congr (fun q hq => sN_congr (fun y hy => ?_))
  have e1 : (q * 4 + y) % 4 = y := by omega
  have e2 : (q * 4 + y) / 4 = q := by omega
  have e3 : q * k + y < n * k := by
    have : (q + 1) * k ≤ n * k := Nat.mul_le_mul_right k hq
    rw [Nat.add_mul, Nat.one_mul] at this
    omega
  unfold lyE
  rw [e1, e2]
  cases hb : bd (q * k + y)
  · rw [if_pos ⟨hy, e3, rfl⟩]
    have h := pc_tgl (a := 0) (t := (q * k + y) % n) (Nat.lt_of_lt_of_le (Nat.mod_lt _ hn) hn16)
    rw [Nat.zero_xor, Nat.zero_testBit, if_neg (by decide), pc_0] at h
    rw [h]; rfl
  · rw [if_neg (fun h => by cases h.2.2), pc_0]; rfl
theorem isS_in {n : Nat} (hn : 0 < n) (x : Int32) : rrin x (nI 0) (nI (n - 1)) = isS n x := by
  unfold isS
  rw [isS_pred hn]
end
