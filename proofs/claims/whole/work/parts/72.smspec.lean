section
/-! whether two sets are the same, as the model seeks it -/
theorem lN_and (a b : Nat) : lN a &&& lN b = lN (a &&& b) := by
  apply Int64.toBitVec_inj.1
  show BitVec.ofNat 64 a &&& BitVec.ofNat 64 b = BitVec.ofNat 64 (a &&& b)
  apply BitVec.eq_of_getLsbD_eq
  intro i hi
  simp [hi]
theorem lN_or (a b : Nat) : lN a ||| lN b = lN (a ||| b) := by
  apply Int64.toBitVec_inj.1
  show BitVec.ofNat 64 a ||| BitVec.ofNat 64 b = BitVec.ofNat 64 (a ||| b)
  apply BitVec.eq_of_getLsbD_eq
  intro i hi
  simp [hi]
theorem lN_shl (a : Nat) {q : Nat} (hq : q < 64) : lN a <<< ((nI q).toInt64 &&& 63) = lN (a <<< q) := by
  apply Int64.toBitVec_inj.1
  have h1 : (lN a <<< ((nI q).toInt64 &&& 63)).toBitVec = BitVec.ofNat 64 a <<< (((nI q).toInt64 &&& 63).toBitVec.smod 64).toNat := rfl
  rw [h1, rr_sl64 q hq]
  show BitVec.ofNat 64 a <<< q = BitVec.ofNat 64 (a <<< q)
  apply BitVec.eq_of_toNat_eq
  rw [BitVec.toNat_shiftLeft, BitVec.toNat_ofNat, BitVec.toNat_ofNat, Nat.shiftLeft_eq, Nat.shiftLeft_eq, Nat.mod_mul_mod]
theorem pgo_ind (sa sb : Nat → Nat → Nat) (k : Nat) : ∀ f p l kn nt cap cap', (pgo sa sb k f p l kn nt cap).1 = (pgo sa sb k f p l kn nt cap').1 ∧ (pgo sa sb k f p l kn nt cap).2.1 = (pgo sa sb k f p l kn nt cap').2.1 ∧ (pgo sa sb k f p l kn nt cap).2.2.1 = (pgo sa sb k f p l kn nt cap').2.2.1
  | 0, _, _, _, _, _, _ => ⟨rfl, rfl, rfl⟩
  | f + 1, p, l, kn, nt, cap, cap' => by
    rw [pgo_succ, pgo_succ]
    split
    · split
      · split
        · exact ⟨rfl, rfl, rfl⟩
        · split
          · exact pgo_ind sa sb k f _ _ _ _ _ _
          · split
            · exact ⟨rfl, rfl, rfl⟩
            · exact pgo_ind sa sb k f _ _ _ _ _ _
      · exact pgo_ind sa sb k f _ _ _ _ _ _
    · exact ⟨rfl, rfl, rfl⟩
theorem skP_ind (k na nb : Nat) (Ea Eb : Nat → Nat) (ala alb cap cap' : Nat) : (skP k na nb Ea Eb ala alb cap).1 = (skP k na nb Ea Eb ala alb cap').1 ∧ (skP k na nb Ea Eb ala alb cap).2.1 = (skP k na nb Ea Eb ala alb cap').2.1 ∧ (skP k na nb Ea Eb ala alb cap).2.2.1 = (skP k na nb Ea Eb ala alb cap').2.2.1 := by
  unfold skP
  split
  · exact ⟨rfl, rfl, rfl⟩
  · exact pgo_ind _ _ _ _ _ _ _ _ _ _
/-- the search between two sets of the model -/
def smR (kF nF yF : Nat → Nat) (a b : Nat) : pgR := skP (kF a) (nF a) (nF b) (Es yF a) (Es yF b) (liveS (kF a) (nF a) (Es yF a)) (liveS (kF b) (nF b) (Es yF b)) 0
def smOK (ns : Nat) (kF : Nat → Nat) (x y : Int32) : Bool := (isS ns x && isS ns y) && decide (kF (cN x) = kF (cN y))
def samA (ns : Nat) (kF nF yF : Nat → Nat) (x y : Int32) : Int32 := if (isS ns x && isS ns y) = true then (if kF (cN x) = kF (cN y) then ansP (smR kF nF yF (cN x) (cN y)).1.1 else -3) else -2
def rsL (r : pgR) (wl : Nat) : Nat := if r.1.1 = 4 then 0 else if r.1.1 = 1 then min (dpP r.2.2.1 r.1.2.1 r.1.2.1 + 1) 30 else wl
def rsW (r : pgR) (WD : Nat → Nat) : Nat → Nat := if r.1.1 = 1 then wdW r.2.2.1 r.1.2.1 r.1.2.2 0 WD else WD
def samL (ns : Nat) (kF nF yF : Nat → Nat) (x y : Int32) (wl : Nat) : Nat := if smOK ns kF x y = true then rsL (smR kF nF yF (cN x) (cN y)) wl else wl
def samW (ns : Nat) (kF nF yF : Nat → Nat) (x y : Int32) (WD : Nat → Nat) : Nat → Nat := if smOK ns kF x y = true then rsW (smR kF nF yF (cN x) (cN y)) WD else WD
/-- what is known of the pairs that were met -/
def PRS (kn nt : List Nat) (LA LB : Nat) : Prop := nt.length = kn.length ∧ kn.length ≤ 20000 ∧ (∀ x ∈ kn, x < 2 ^ 32 ∧ sub (x >>> 16) LA ∧ sub (x &&& 65535) LB) ∧ NOK nt ∧ nt.getD 0 0 = 0 ∧ ∀ x ∈ nt, x < 2 ^ 31
theorem PRS_0 {LA LB : Nat} (ha : LA < 65536) (hb : LB < 65536) : PRS [LA <<< 16 ||| LB] [0] LA LB := by
  refine ⟨rfl, (by show 1 ≤ 20000; decide), fun x hx => ?_, fun p h1 h2 => absurd h2 (by show ¬ p < 1; omega), rfl, fun x hx => ?_⟩
  · rw [List.mem_singleton.mp hx, pk16_hi hb, pk16_lo hb]
    exact ⟨pk16_lt ha hb, sub_refl _, sub_refl _⟩
  · rw [List.mem_singleton.mp hx]; decide
theorem NOK_app {nt : List Nat} {p l : Nat} (h : NOK nt) (hp : p < nt.length) (hl : l < 4) : NOK (nt ++ [4 * p + l]) := fun i h1 h2 => by
  rw [List.length_append] at h2
  by_cases e : i = nt.length
  · rw [e, getD_app]; omega
  · have h3 : i < nt.length := by have : i < nt.length + 1 := h2; omega
    rw [getD_old h3]
    exact h i h1 h3
theorem PRS_add {kn nt : List Nat} {LA LB x y p l : Nat} (h : PRS kn nt LA LB) (ha : LA < 65536) (hb : LB < 65536) (hx : sub x LA) (hy : sub y LB) (hp : p < kn.length) (hl : l < 4) (hlen : (kn ++ [x <<< 16 ||| y]).length ≤ 20000) : PRS (kn ++ [x <<< 16 ||| y]) (nt ++ [4 * p + l]) LA LB := by
  obtain ⟨h1, h2, h3, h4, h5, h6⟩ := h
  have hx6 := Nat.lt_of_le_of_lt (sub_le hx) ha
  have hy6 := Nat.lt_of_le_of_lt (sub_le hy) hb
  refine ⟨by rw [List.length_append, List.length_append, h1]; rfl, hlen, fun z hz => ?_, NOK_app h4 (by omega) hl, ?_, fun z hz => ?_⟩
  · rcases List.mem_append.mp hz with hz | hz
    · exact h3 z hz
    · rw [List.mem_singleton.mp hz, pk16_hi hy6, pk16_lo hy6]
      exact ⟨pk16_lt hx6 hy6, hx, hy⟩
  · rw [getD_old (by omega)]; exact h5
  · rcases List.mem_append.mp hz with hz | hz
    · exact h6 z hz
    · rw [List.mem_singleton.mp hz]; omega
theorem adK_new {kn : List Nat} {x : Nat} (h : x ∉ kn) : adK kn x = kn ++ [x] := if_neg h
theorem adK_in {kn : List Nat} {x : Nat} (h : x ∈ kn) : adK kn x = kn := if_pos h
theorem adN_new {kn nt : List Nat} {x y : Nat} (h : x ∉ kn) : adN kn nt x y = nt ++ [y] := if_neg h
theorem adN_in {kn nt : List Nat} {x y : Nat} (h : x ∈ kn) : adN kn nt x y = nt := if_pos h
theorem pgo_ge {sa sb : Nat → Nat → Nat} {k f p l : Nat} {kn nt : List Nat} {cap : Nat} (h : ¬ p < kn.length) : pgo sa sb k (f + 1) p l kn nt cap = ((0, p, l), (kn, nt, cap)) := by rw [pgo_succ, if_neg h]
theorem pgo_row {sa sb : Nat → Nat → Nat} {k f p l : Nat} {kn nt : List Nat} {cap : Nat} (h : p < kn.length) (hl : ¬ l < k) : pgo sa sb k (f + 1) p l kn nt cap = pgo sa sb k f (p + 1) 0 kn nt cap := by rw [pgo_succ, if_pos h, if_neg hl]
theorem pgo_part {sa sb : Nat → Nat → Nat} {k f p l : Nat} {kn nt : List Nat} {cap : Nat} (h : p < kn.length) (hl : l < k) (hc : (sa (kn.getD p 0 >>> 16) l = 0) ≠ (sb (kn.getD p 0 &&& 65535) l = 0)) : pgo sa sb k (f + 1) p l kn nt cap = ((1, p, l), (kn, nt, cap)) := by rw [pgo_succ, if_pos h, if_pos hl, if_pos hc]
theorem pgo_zero {sa sb : Nat → Nat → Nat} {k f p l : Nat} {kn nt : List Nat} {cap : Nat} (h : p < kn.length) (hl : l < k) (hc : ¬ (sa (kn.getD p 0 >>> 16) l = 0) ≠ (sb (kn.getD p 0 &&& 65535) l = 0)) (h0 : sa (kn.getD p 0 >>> 16) l = 0) : pgo sa sb k (f + 1) p l kn nt cap = pgo sa sb k f p (l + 1) kn nt cap := by rw [pgo_succ, if_pos h, if_pos hl, if_neg hc, if_pos h0]
theorem pgo_spent {sa sb : Nat → Nat → Nat} {k f p l : Nat} {kn nt : List Nat} {cap : Nat} (h : p < kn.length) (hl : l < k) (hc : ¬ (sa (kn.getD p 0 >>> 16) l = 0) ≠ (sb (kn.getD p 0 &&& 65535) l = 0)) (h0 : ¬ sa (kn.getD p 0 >>> 16) l = 0) (hs : 20000 < (adK kn (sa (kn.getD p 0 >>> 16) l <<< 16 ||| sb (kn.getD p 0 &&& 65535) l)).length) : (pgo sa sb k (f + 1) p l kn nt cap).1.1 = 2 := by rw [pgo_succ, if_pos h, if_pos hl, if_neg hc, if_neg h0, if_pos hs]
theorem pgo_on {sa sb : Nat → Nat → Nat} {k f p l : Nat} {kn nt : List Nat} {cap : Nat} (h : p < kn.length) (hl : l < k) (hc : ¬ (sa (kn.getD p 0 >>> 16) l = 0) ≠ (sb (kn.getD p 0 &&& 65535) l = 0)) (h0 : ¬ sa (kn.getD p 0 >>> 16) l = 0) (hs : ¬ 20000 < (adK kn (sa (kn.getD p 0 >>> 16) l <<< 16 ||| sb (kn.getD p 0 &&& 65535) l)).length) : pgo sa sb k (f + 1) p l kn nt cap = pgo sa sb k f p (l + 1) (adK kn (sa (kn.getD p 0 >>> 16) l <<< 16 ||| sb (kn.getD p 0 &&& 65535) l)) (adN kn nt (sa (kn.getD p 0 >>> 16) l <<< 16 ||| sb (kn.getD p 0 &&& 65535) l) (4 * p + l)) (capN cap kn.length) := by rw [pgo_succ, if_pos h, if_pos hl, if_neg hc, if_neg h0, if_neg hs]
theorem NQ_0 {fR : Nat → Int32} {bY : Nat → Nat} {x : Nat} : NQ [x] (va_up fR 0 (-1)) bY := ⟨va_up_self _ _ _, fun i h1 h2 => absurd h2 (by show ¬ i < 1; omega)⟩
theorem KQ_0 {qF : Nat → Nat} {x : Nat} : KQ [x] (va_up qF 0 x) := fun i hi => by
  obtain rfl : i = 0 := by have : i < 1 := hi; omega
  exact va_up_self _ _ _
end
