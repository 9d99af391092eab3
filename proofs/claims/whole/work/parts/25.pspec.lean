/-! the search for the word that parts two sets, as one machine -/
abbrev pgR : Type := (Nat × Nat × Nat) × (List Nat × List Nat × Nat)
def adK (kn : List Nat) (key : Nat) : List Nat := if key ∈ kn then kn else kn ++ [key]
def adN (kn nt : List Nat) (key note : Nat) : List Nat := if key ∈ kn then nt else nt ++ [note]
def pgo (sa sb : Nat → Nat → Nat) (k : Nat) : Nat → Nat → Nat → List Nat → List Nat → Nat → pgR
  | 0, p, l, kn, nt, cap => ((3, p, l), (kn, nt, cap))
  | f + 1, p, l, kn, nt, cap =>
    if p < kn.length then
      if l < k then
        if (sa (kn.getD p 0 >>> 16) l = 0) ≠ (sb (kn.getD p 0 &&& 65535) l = 0) then ((1, p, l), (kn, nt, cap))
        else if sa (kn.getD p 0 >>> 16) l = 0 then pgo sa sb k f p (l + 1) kn nt cap
        else if 20000 < (adK kn (sa (kn.getD p 0 >>> 16) l <<< 16 ||| sb (kn.getD p 0 &&& 65535) l)).length then ((2, p, l), (adK kn (sa (kn.getD p 0 >>> 16) l <<< 16 ||| sb (kn.getD p 0 &&& 65535) l), adN kn nt (sa (kn.getD p 0 >>> 16) l <<< 16 ||| sb (kn.getD p 0 &&& 65535) l) (4 * p + l), capN cap kn.length))
        else pgo sa sb k f p (l + 1) (adK kn (sa (kn.getD p 0 >>> 16) l <<< 16 ||| sb (kn.getD p 0 &&& 65535) l)) (adN kn nt (sa (kn.getD p 0 >>> 16) l <<< 16 ||| sb (kn.getD p 0 &&& 65535) l) (4 * p + l)) (capN cap kn.length)
      else pgo sa sb k f (p + 1) 0 kn nt cap
    else ((0, p, l), (kn, nt, cap))
theorem capN_le (cap n : Nat) : cap ≤ capN cap n := by unfold capN; split <;> omega
theorem pgo_cap (sa sb : Nat → Nat → Nat) (k : Nat) : ∀ f p l kn nt cap, cap ≤ (pgo sa sb k f p l kn nt cap).2.2.2
  | 0, _, _, _, _, cap => Nat.le_refl cap
  | f + 1, p, l, kn, nt, cap => by
    unfold pgo
    split
    · split
      · split
        · exact Nat.le_refl _
        · split
          · exact pgo_cap sa sb k f _ _ _ _ _
          · split
            · exact capN_le _ _
            · exact Nat.le_trans (capN_le _ _) (pgo_cap sa sb k f _ _ _ _ _)
      · exact pgo_cap sa sb k f _ _ _ _ _
    · exact Nat.le_refl _
theorem adK_len (kn : List Nat) (key : Nat) : kn.length ≤ (adK kn key).length ∧ (adK kn key).length ≤ kn.length + 1 := by
  unfold adK
  split
  · omega
  · rw [List.length_append]; exact ⟨by omega, Nat.le_refl _⟩
theorem nI_inj {a b : Nat} (ha : a < 2 ^ 32) (hb : b < 2 ^ 32) (h : nI a = nI b) : a = b := by
  have h2 := congrArg (fun x : Int32 => x.toBitVec.toNat) h
  simp only [pk_tn ha, pk_tn hb] at h2
  exact h2
theorem mem_map_nI {kn : List Nat} {key : Nat} (hkn : ∀ x ∈ kn, x < 2 ^ 32) (hk : key < 2 ^ 32) : nI key ∈ kn.map nI ↔ key ∈ kn := by
  rw [List.mem_map]
  constructor
  · rintro ⟨a, ha, e⟩
    rw [← nI_inj (hkn a ha) hk e]; exact ha
  · intro h; exact ⟨key, h, rfl⟩
theorem plK_map {kn : List Nat} {key : Nat} (hkn : ∀ x ∈ kn, x < 2 ^ 32) (hk : key < 2 ^ 32) : plK (kn.map nI) (nI key) = (adK kn key).map nI := by
  unfold plK adK
  by_cases h : key ∈ kn
  · rw [if_pos h, if_pos ((mem_map_nI hkn hk).mpr h)]
  · rw [if_neg h, if_neg (fun q => h ((mem_map_nI hkn hk).mp q)), List.map_append]; rfl
theorem idx_map {kn : List Nat} {key : Nat} (hkn : ∀ x ∈ kn, x < 2 ^ 32) (hk : key < 2 ^ 32) : (kn.map nI).idxOf (nI key) = kn.idxOf key := by
  induction kn with
  | nil => rfl
  | cons a kn ih =>
    rw [List.map_cons, List.idxOf_cons, List.idxOf_cons, ih (fun x hx => hkn x (List.mem_cons_of_mem _ hx))]
    by_cases h : a = key
    · rw [h]; simp
    · have h2 : (nI a == nI key) = false := by
        rw [beq_eq_false_iff_ne]
        exact fun e => h (nI_inj (hkn a List.mem_cons_self) hk e)
      have h3 : (a == key) = false := beq_eq_false_iff_ne.mpr h
      rw [h2, h3]
theorem getD_lt {l : List Nat} {i : Nat} (h : i < l.length) : l.getD i 0 = l[i] := by simp [h]
theorem adK_lt {kn : List Nat} {key : Nat} (hkn : ∀ x ∈ kn, x < 2 ^ 32) (hk : key < 2 ^ 32) : ∀ x ∈ adK kn key, x < 2 ^ 32 := by
  unfold adK
  split
  · exact hkn
  · intro x hx
    rcases List.mem_append.mp hx with h | h
    · exact hkn x h
    · rw [List.mem_singleton.mp h]; exact hk
theorem MInv_note {kl : List Int32} {nl : List Nat} {cap b : Nat} {ks : Nat → Int32} {no sl : Nat → Nat} {i x : Nat} (h : MInv kl (nl ++ [0]) cap b ks no sl) (hi : i = nl.length) : MInv kl (nl ++ [x]) cap b ks (va_up no i x) sl := by
  obtain ⟨h1, h2, h3, h4, h5, h6, h7, h8, h9, h10, h11⟩ := h
  refine ⟨h1, h2, h3, h4, h5, by rw [← h6, List.length_append, List.length_append]; rfl, h7, fun j hj => ?_, h9, h10, h11⟩
  rw [List.length_append] at hj
  by_cases e : j = i
  · subst e
    rw [va_up_self, List.getElem_append_right (by omega)]
    simp [hi]
  · have hj2 : j < nl.length := by have : j < nl.length + 1 := hj; omega
    rw [va_up_ne _ _ e, List.getElem_append_left hj2, h8 j (by rw [List.length_append]; omega), List.getElem_append_left hj2]
/-- the way back from a pair to the first one -/
def upP (nt : List Nat) : Nat → Nat → Nat
  | 0, p => p
  | i + 1, p => upP nt i p |> fun q => nt.getD q 0 / 4
def dpP (nt : List Nat) : Nat → Nat → Nat
  | 0, _ => 0
  | f + 1, p => if p = 0 then 0 else dpP nt f (nt.getD p 0 / 4) + 1
/-- the letters of the word that parts -/
def wdP (nt : List Nat) (p l j : Nat) : Nat := if j = dpP nt p p then l else nt.getD (upP nt (dpP nt p p - 1 - j) p) 0 % 4
def NOK (nt : List Nat) : Prop := ∀ p, 0 < p → p < nt.length → nt.getD p 0 / 4 < p
theorem dpP_fuel {nt : List Nat} (h : NOK nt) : ∀ f p, p < nt.length → p ≤ f → dpP nt f p = dpP nt p p
  | 0, p, _, hf => by
    obtain rfl : p = 0 := by omega
    rfl
  | f + 1, p, hp, hf => by
    show (if p = 0 then 0 else dpP nt f (nt.getD p 0 / 4) + 1) = _
    by_cases h0 : p = 0
    · rw [if_pos h0, h0]; rfl
    · rw [if_neg h0]
      have h1 := h p (by omega) hp
      rw [dpP_fuel h f _ (by omega) (by omega)]
      obtain ⟨q, rfl⟩ : ∃ q, p = q + 1 := ⟨p - 1, by omega⟩
      show _ = if q + 1 = 0 then 0 else dpP nt q (nt.getD (q + 1) 0 / 4) + 1
      rw [if_neg h0, dpP_fuel h q _ (by omega) (by omega)]
termination_by f => f
theorem dpP_step {nt : List Nat} (h : NOK nt) {p : Nat} (hp : p < nt.length) (h0 : ¬ p = 0) : dpP nt p p = dpP nt (nt.getD p 0 / 4) (nt.getD p 0 / 4) + 1 := by
  have h1 := h p (by omega) hp
  obtain ⟨q, rfl⟩ : ∃ q, p = q + 1 := ⟨p - 1, by omega⟩
  show (if q + 1 = 0 then 0 else dpP nt q (nt.getD (q + 1) 0 / 4) + 1) = _
  rw [if_neg h0, dpP_fuel h q _ (by omega) (by omega)]
theorem dpP_le {nt : List Nat} : ∀ f p, dpP nt f p ≤ f
  | 0, _ => Nat.le_refl 0
  | f + 1, p => by
    show (if p = 0 then 0 else dpP nt f (nt.getD p 0 / 4) + 1) ≤ f + 1
    split
    · omega
    · have := dpP_le (nt := nt) f (nt.getD p 0 / 4); omega
theorem plN_map {kn nt : List Nat} {key : Nat} (hkn : ∀ x ∈ kn, x < 2 ^ 32) (hk : key < 2 ^ 32) : plN (kn.map nI) nt (nI key) = adN kn nt key 0 := by
  unfold plN adN
  by_cases h : key ∈ kn
  · rw [if_pos h, if_pos ((mem_map_nI hkn hk).mpr h)]
  · rw [if_neg h, if_neg (fun q => h ((mem_map_nI hkn hk).mp q))]
/-- the searcher's own cell -/
def PT1 (K : rr_K) (po mo : Nat) (lp ll : Int32) : va_W := [(po, .inr (5, [.ref mo, .int lp, .int ll]))]
theorem pgo_succ (sa sb : Nat → Nat → Nat) (k f p l : Nat) (kn nt : List Nat) (cap : Nat) : pgo sa sb k (f + 1) p l kn nt cap =
    if p < kn.length then
      if l < k then
        if (sa (kn.getD p 0 >>> 16) l = 0) ≠ (sb (kn.getD p 0 &&& 65535) l = 0) then ((1, p, l), (kn, nt, cap))
        else if sa (kn.getD p 0 >>> 16) l = 0 then pgo sa sb k f p (l + 1) kn nt cap
        else if 20000 < (adK kn (sa (kn.getD p 0 >>> 16) l <<< 16 ||| sb (kn.getD p 0 &&& 65535) l)).length then ((2, p, l), (adK kn (sa (kn.getD p 0 >>> 16) l <<< 16 ||| sb (kn.getD p 0 &&& 65535) l), adN kn nt (sa (kn.getD p 0 >>> 16) l <<< 16 ||| sb (kn.getD p 0 &&& 65535) l) (4 * p + l), capN cap kn.length))
        else pgo sa sb k f p (l + 1) (adK kn (sa (kn.getD p 0 >>> 16) l <<< 16 ||| sb (kn.getD p 0 &&& 65535) l)) (adN kn nt (sa (kn.getD p 0 >>> 16) l <<< 16 ||| sb (kn.getD p 0 &&& 65535) l) (4 * p + l)) (capN cap kn.length)
      else pgo sa sb k f (p + 1) 0 kn nt cap
    else ((0, p, l), (kn, nt, cap)) := rfl
/-- the whole search -/
def skP (k na nb : Nat) (Ea Eb : Nat → Nat) (ala alb cap : Nat) : pgR := if (ala = 0) ≠ (alb = 0) then ((4, 0, 0), ([], [], cap)) else pgo (ldS k na Ea ala) (ldS k nb Eb alb) k 130000 0 0 [ala <<< 16 ||| alb] [0] (capN cap 0)
def ansP (c : Nat) : Int32 := if c = 0 then nI 1 else if c = 2 then -5 else nI 0
theorem plK_nil (x : Int32) : plK [] x = [x] := by unfold plK; simp
theorem plN_nil (x : Int32) : plN [] [] x = [0] := by unfold plN; simp
theorem pk16_lt {a b : Nat} (ha : a < 65536) (hb : b < 65536) : a <<< 16 ||| b < 2 ^ 32 := Nat.or_lt_two_pow (by rw [Nat.shiftLeft_eq]; omega) (by omega)
theorem pk16_hi {a b : Nat} (hb : b < 65536) : (a <<< 16 ||| b) >>> 16 = a := by
  apply Nat.eq_of_testBit_eq
  intro i
  rw [Nat.testBit_shiftRight, Nat.testBit_or, Nat.testBit_shiftLeft, Nat.testBit_lt_two_pow (x := b) (i := 16 + i) (Nat.lt_of_lt_of_le hb (Nat.pow_le_pow_right (n := 2) (i := 16) (j := 16 + i) (by decide) (by omega)))]
  simp
theorem pk16_lo {a b : Nat} (hb : b < 65536) : (a <<< 16 ||| b) &&& 65535 = b := by
  apply Nat.eq_of_testBit_eq
  intro i
  rw [Nat.testBit_and, Nat.testBit_or, Nat.testBit_shiftLeft, show (65535 : Nat) = 2 ^ 16 - 1 from rfl, Nat.testBit_two_pow_sub_one]
  by_cases h : i < 16
  · have h2 : ¬ 16 ≤ i := by omega
    simp [h, h2]
  · rw [Nat.testBit_lt_two_pow (x := b) (i := i) (Nat.lt_of_lt_of_le hb (Nat.pow_le_pow_right (n := 2) (i := 16) (j := i) (by decide) (by omega)))]
    simp [h]
theorem adK_all {P : Nat → Prop} {kn : List Nat} {key : Nat} (h : ∀ x ∈ kn, P x) (hk : P key) : ∀ x ∈ adK kn key, P x := by
  unfold adK
  split
  · exact h
  · intro x hx
    rcases List.mem_append.mp hx with h2 | h2
    · exact h x h2
    · rw [List.mem_singleton.mp h2]; exact hk
theorem ks_map {kn nt : List Nat} {cap b : Nat} {ks : Nat → Int32} {no sl : Nat → Nat} (h : MInv (kn.map nI) nt cap b ks no sl) {i : Nat} (hi : i < kn.length) : ks i = nI (kn.getD i 0) := by
  have h7 := h.2.2.2.2.2.2.1 i (by rw [List.length_map]; exact hi)
  rw [h7, List.getElem_map, getD_lt hi]
theorem rr_ne1 {p q : Prop} (h1 : p) (h2 : ¬ q) : p ≠ q := fun e => h2 (e ▸ h1)
theorem rr_ne2 {p q : Prop} (h1 : ¬ p) (h2 : q) : p ≠ q := fun e => h1 (e ▸ h2)
theorem rr_eq1 {p q : Prop} (h1 : p) (h2 : q) : ¬ (p ≠ q) := fun e => e (propext ⟨fun _ => h2, fun _ => h1⟩)
theorem rr_eq2 {p q : Prop} (h1 : ¬ p) (h2 : ¬ q) : ¬ (p ≠ q) := fun e => e (propext ⟨fun h => absurd h h1, fun h => absurd h h2⟩)
