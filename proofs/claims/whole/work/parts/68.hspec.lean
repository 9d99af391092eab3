section
/-! how many words: the model's places -/
theorem pigeon : ∀ (m n : Nat) (f : Nat → Nat), (∀ i, i < n → f i < m) → (∀ i j, i < j → j < n → f i ≠ f j) → n ≤ m := by
  intro m
  induction m with
  | zero =>
    intro n f h1 _
    rcases Nat.eq_zero_or_pos n with h0 | h0
    · omega
    · exact absurd (h1 0 h0) (Nat.not_lt_zero _)
  | succ m ih =>
    intro n f h1 h2
    by_cases hx : ∃ i, i < n ∧ f i = m
    · obtain ⟨i, hi, hfi⟩ := hx
      have h3 := ih (n - 1) (fun j => if j < i then f j else f (j + 1)) (fun j hj => by
        by_cases hji : j < i
        · rw [if_pos hji]
          have := h1 j (by omega)
          have := h2 j i hji hi
          omega
        · rw [if_neg hji]
          have := h1 (j + 1) (by omega)
          have := h2 i (j + 1) (by omega) (by omega)
          omega) (fun a c hac hc => by
        by_cases ha : a < i
        · rw [if_pos ha]
          by_cases hci : c < i
          · rw [if_pos hci]; exact h2 a c hac (by omega)
          · rw [if_neg hci]; exact h2 a (c + 1) (by omega) (by omega)
        · rw [if_neg ha, if_neg (by omega)]; exact h2 (a + 1) (c + 1) (by omega) (by omega))
      omega
    · have h3 := ih n f (fun j hj => by
        have h4 := h1 j hj
        have h5 : f j ≠ m := fun e => hx ⟨j, hj, e⟩
        omega) h2
      omega
def PLC (pl xt : Nat → Nat) (M : Nat) : Prop := (∀ j, j < 65536 → pl j = 0 ∨ (1 ≤ pl j ∧ pl j ≤ M ∧ xt (pl j - 1) = j)) ∧ ∀ i, i < M → xt i < 65536 ∧ xt i ≠ 0 ∧ pl (xt i) = i + 1
theorem PLC_0 {pl xt : Nat → Nat} (h : ∀ j, j < 65536 → pl j = 0) : PLC pl xt 0 := ⟨fun j hj => Or.inl (h j hj), fun i hi => absurd hi (Nat.not_lt_zero _)⟩
theorem PLC_add {pl xt : Nat → Nat} {M t : Nat} (h : PLC pl xt M) (ht : t < 65536) (h0 : t ≠ 0) (hp : pl t = 0) : PLC (va_up pl t (M + 1)) (va_up xt M t) (M + 1) := by
  refine ⟨fun j hj => ?_, fun i hi => ?_⟩
  · by_cases e : j = t
    · rw [e, va_up_self, Nat.add_sub_cancel, va_up_self]
      exact Or.inr ⟨by omega, Nat.le_refl _, rfl⟩
    · rw [va_up_ne _ _ e]
      rcases h.1 j hj with w | ⟨w1, w2, w3⟩
      · exact Or.inl w
      · exact Or.inr ⟨w1, by omega, by rw [va_up_ne _ _ (by omega)]; exact w3⟩
  · by_cases e : i = M
    · rw [e, va_up_self, va_up_self]
      exact ⟨ht, h0, rfl⟩
    · obtain ⟨w1, w2, w3⟩ := h.2 i (by omega)
      rw [va_up_ne xt _ e, va_up_ne pl _ (fun e2 => by rw [e2, hp] at w3; omega)]
      exact ⟨w1, w2, w3⟩
theorem PLC_len {pl xt : Nat → Nat} {M : Nat} (h : PLC pl xt M) : M ≤ 65535 := pigeon 65535 M (fun i => xt i - 1) (fun i hi => by
  obtain ⟨w1, w2, w3⟩ := h.2 i hi
  omega) (fun i j hij hj e => by
  obtain ⟨w1, w2, w3⟩ := h.2 i (by omega)
  obtain ⟨v1, v2, v3⟩ := h.2 j hj
  rw [show xt i = xt j by omega, v3] at w3
  omega)
theorem PLC_get {pl xt : Nat → Nat} {M j : Nat} (h : PLC pl xt M) (hj : j < 65536) (h0 : ¬ pl j = 0) : 1 ≤ pl j ∧ pl j - 1 < M ∧ xt (pl j - 1) = j := by
  rcases h.1 j hj with w | ⟨w1, w2, w3⟩
  · exact absurd w h0
  · exact ⟨w1, by omega, w3⟩
theorem md_yes {sb : Nat → Nat → Nat} {g W : Nat → Int64} {xt : Nat → Nat} {B x : Int64} {S t y M : Nat} (ht : t < M) (hkt : xt t = sb S y) (h0 : sb S y ≠ 0) (h : sL M (fun i => g i * W (xt i)) = B + x * sL y (fun z => if sb S z = 0 then 0 else W (sb S z))) : sL M (fun i => va_up g t (g t + x) i * W (xt i)) = B + x * sL (y + 1) (fun z => if sb S z = 0 then 0 else W (sb S z)) := by
  have e := sL_up (g := g) (W := fun i => W (xt i)) (x := x) ht
  refine e.trans ?_
  show sL M (fun i => g i * W (xt i)) + x * W (xt t) = _
  rw [h, sL_succ, if_neg h0, Int64.mul_add, ← Int64.add_assoc, hkt]
theorem md_new {g W : Nat → Int64} {xt : Nat → Nat} {v M : Nat} : sL (M + 1) (fun i => va_up g M (lN 0) i * W (va_up xt M v i)) = sL M (fun i => g i * W (xt i)) := by
  rw [sL_succ, va_up_self, va_up_self, show (lN 0 : Int64) = 0 from rfl, Int64.zero_mul, Int64.add_zero]
  exact sL_congr (fun i hi => by rw [va_up_ne _ _ (by omega), va_up_ne _ _ (by omega)])
theorem md_end {sb : Nat → Nat → Nat} {k : Nat} {W nm : Nat → Int64} {nw : Nat → Nat} {T : Int64} {q : Nat} (h : T = sL q (fun j => nm j * nx sb k W (nw j)) + nm q * sL k (fun z => if sb (nw q) z = 0 then 0 else W (sb (nw q) z))) : T = sL (q + 1) (fun j => nm j * nx sb k W (nw j)) := by
  rw [h, sL_succ]; rfl
theorem sL_one (n : Nat) (f : Nat → Int64) : sL n (fun i => f i * 1) = sL n f := sL_congr (fun i _ => Int64.mul_one _)
def hwmA (ns : Nat) (kF nF yF : Nat → Nat) (x y : Int32) : Int64 := if (isS ns x && rrin y (nI 0) (nI 24)) = true then (if liveS (kF (cN x)) (nF (cN x)) (Es yF (cN x)) = 0 then 0 else cntL (ldS (kF (cN x)) (nF (cN x)) (Es yF (cN x)) (liveS (kF (cN x)) (nF (cN x)) (Es yF (cN x)))) (kF (cN x)) (cN y) (liveS (kF (cN x)) (nF (cN x)) (Es yF (cN x)))) else -2
/-! what is met, as the model keeps it: chains of like heads -/
def hkX (key : Nat) : Int64 := (((lN key) * (-7046029254386353131)).toUInt64 >>> ((nI 49).toInt64.toUInt64 &&& Int64.toUInt64 63)).toInt64 &&& (lN 32767)
def hk (key : Nat) : Nat := (hkX key).toBitVec.toNat
theorem lN_u (x : Int64) : lN x.toBitVec.toNat = x := by
  apply Int64.toBitVec_inj.1
  apply BitVec.eq_of_toNat_eq
  show (BitVec.ofNat 64 x.toBitVec.toNat).toNat = x.toBitVec.toNat
  rw [BitVec.toNat_ofNat]
  exact Nat.mod_eq_of_lt x.toBitVec.isLt
theorem hk_lt (key : Nat) : hk key < 32768 := by
  unfold hk hkX
  have h : ∀ x : Int64, (x &&& lN 32767).toBitVec.toNat ≤ 32767 := fun x => by
    show (x.toBitVec &&& (lN 32767).toBitVec).toNat ≤ 32767
    rw [BitVec.toNat_and]
    exact Nat.le_trans Nat.and_le_right (by decide)
  exact Nat.lt_succ_of_le (h _)
theorem hk_eq (key : Nat) : (hkX key).toInt32 = nI (hk key) := by
  have h := lN_i (hk key)
  unfold hk at h ⊢
  rw [lN_u] at h
  exact h
/-- the last place below m with a head, by one too great *-/
def prv (kn : List Nat) (h : Nat) : Nat → Nat
  | 0 => 0
  | m + 1 => if hk (kn.getD m 0) = h then m + 1 else prv kn h m
theorem prv_le (kn : List Nat) (h : Nat) : ∀ m, prv kn h m ≤ m
  | 0 => Nat.le_refl _
  | m + 1 => by
    have := prv_le kn h m
    show (if hk (kn.getD m 0) = h then m + 1 else prv kn h m) ≤ m + 1
    split <;> omega
theorem prv_none {kn : List Nat} {h : Nat} : ∀ {m}, prv kn h m = 0 → ∀ i, i < m → hk (kn.getD i 0) ≠ h
  | 0, _, i, hi => absurd hi (Nat.not_lt_zero _)
  | m + 1, h0, i, hi => by
    have h0 : (if hk (kn.getD m 0) = h then m + 1 else prv kn h m) = 0 := h0
    by_cases c : hk (kn.getD m 0) = h
    · rw [if_pos c] at h0; omega
    · rw [if_neg c] at h0
      rcases Nat.lt_or_ge i m with w | w
      · exact prv_none h0 i w
      · rw [show i = m by omega]; exact c
theorem prv_some {kn : List Nat} {h j : Nat} : ∀ {m}, prv kn h m = j + 1 → j < m ∧ hk (kn.getD j 0) = h ∧ ∀ i, j < i → i < m → hk (kn.getD i 0) ≠ h
  | 0, h0 => by cases h0
  | m + 1, h0 => by
    have h0 : (if hk (kn.getD m 0) = h then m + 1 else prv kn h m) = j + 1 := h0
    by_cases c : hk (kn.getD m 0) = h
    · rw [if_pos c] at h0
      obtain rfl : m = j := by omega
      exact ⟨Nat.lt_succ_self _, c, fun i h1 h2 => by omega⟩
    · rw [if_neg c] at h0
      obtain ⟨w1, w2, w3⟩ := prv_some h0
      refine ⟨by omega, w2, fun i h1 h2 => ?_⟩
      rcases Nat.lt_or_ge i m with w | w
      · exact w3 i h1 w
      · rw [show i = m by omega]; exact c
theorem prv_congr {kn kn' : List Nat} {h : Nat} : ∀ {m}, (∀ i, i < m → kn'.getD i 0 = kn.getD i 0) → prv kn' h m = prv kn h m
  | 0, _ => rfl
  | m + 1, he => by
    show (if hk (kn'.getD m 0) = h then m + 1 else prv kn' h m) = if hk (kn.getD m 0) = h then m + 1 else prv kn h m
    rw [he m (Nat.lt_succ_self _), prv_congr (fun i hi => he i (by omega))]
def HC (kn : List Nat) (oF hF : Nat → Int32) : Prop := (∀ h, h < 32768 → hF h = dI (prv kn h kn.length)) ∧ ∀ i, i < kn.length → oF i = dI (prv kn (hk (kn.getD i 0)) i)
theorem HC_0 {oF hF : Nat → Int32} : HC [] oF (putZ hF (fun _ => -1) 32768) := ⟨fun h hh => by rw [putZ_in hh]; rfl, fun i hi => absurd hi (Nat.not_lt_zero _)⟩
theorem getD_app (kn : List Nat) (x : Nat) : (kn ++ [x]).getD kn.length 0 = x := by
  rw [List.getD_eq_getElem?_getD, List.getElem?_append_right (Nat.le_refl _), Nat.sub_self]
  rfl
theorem getD_old {kn : List Nat} {x i : Nat} (h : i < kn.length) : (kn ++ [x]).getD i 0 = kn.getD i 0 := by
  rw [List.getD_eq_getElem?_getD, List.getElem?_append_left h, ← List.getD_eq_getElem?_getD]
theorem HC_add {kn : List Nat} {oF hF : Nat → Int32} {key : Nat} (h : HC kn oF hF) : HC (kn ++ [key]) (va_up oF kn.length (dI (prv kn (hk key) kn.length))) (va_up hF (hk key) (nI kn.length)) := by
  have hl : (kn ++ [key]).length = kn.length + 1 := by rw [List.length_append]; rfl
  have hc : ∀ hh m, m ≤ kn.length → prv (kn ++ [key]) hh m = prv kn hh m := fun hh m hm => prv_congr (fun i hi => getD_old (by omega))
  refine ⟨fun hh h2 => ?_, fun i hi => ?_⟩
  · rw [hl]
    show va_up hF (hk key) (nI kn.length) hh = dI (if hk ((kn ++ [key]).getD kn.length 0) = hh then kn.length + 1 else prv (kn ++ [key]) hh kn.length)
    rw [getD_app, hc hh kn.length (Nat.le_refl _)]
    by_cases e : hh = hk key
    · rw [e, va_up_self, if_pos rfl, dI_succ]
    · rw [va_up_ne _ _ e, if_neg (fun q => e q.symm)]
      exact h.1 hh h2
  · rw [hl] at hi
    by_cases e : i = kn.length
    · rw [e, va_up_self, getD_app, hc _ _ (Nat.le_refl _)]
    · rw [va_up_ne _ _ e, getD_old (by omega), hc _ _ (by omega)]
      exact h.2 i (by omega)
theorem not_mem_getD {kn : List Nat} {key : Nat} (h : ∀ i, i < kn.length → kn.getD i 0 ≠ key) : key ∉ kn := fun hm => by
  obtain ⟨i, hi, e⟩ := List.getElem_of_mem hm
  exact h i hi (by rw [getD_lt hi]; exact e)
theorem mem_getD {kn : List Nat} {i : Nat} (h : i < kn.length) : kn.getD i 0 ∈ kn := by
  rw [getD_lt h]
  exact List.getElem_mem h
/-- the keys as they are kept -/
def KQ (kn : List Nat) (qF : Nat → Nat) : Prop := ∀ i, i < kn.length → qF i = kn.getD i 0
theorem KQ_add {kn : List Nat} {qF : Nat → Nat} {key : Nat} (h : KQ kn qF) : KQ (kn ++ [key]) (va_up qF kn.length key) := fun i hi => by
  rw [List.length_append] at hi
  by_cases e : i = kn.length
  · rw [e, va_up_self, getD_app]
  · have hi2 : i < kn.length := by have : i < kn.length + 1 := hi; omega
    rw [va_up_ne _ _ e, getD_old hi2]; exact h i hi2
/-- where keys came from, by which letter -/
def NQ (nt : List Nat) (fR : Nat → Int32) (bY : Nat → Nat) : Prop := fR 0 = -1 ∧ ∀ i, 0 < i → i < nt.length → fR i = nI (nt.getD i 0 / 4) ∧ bY i = nt.getD i 0 % 4
theorem NQ_add {nt : List Nat} {fR : Nat → Int32} {bY : Nat → Nat} {b y : Nat} (hy : y < 4) (h0 : 0 < nt.length) (h : NQ nt fR bY) : NQ (nt ++ [4 * b + y]) (va_up fR nt.length (nI b)) (va_up bY nt.length y) := by
  refine ⟨(va_up_ne _ _ (by omega)).trans h.1, fun i hi hi2 => ?_⟩
  rw [List.length_append] at hi2
  by_cases e : i = nt.length
  · rw [e, va_up_self, va_up_self, getD_app]
    exact ⟨by rw [show (4 * b + y) / 4 = b by omega], by omega⟩
  · have hi3 : i < nt.length := by have : i < nt.length + 1 := hi2; omega
    rw [va_up_ne _ _ e, va_up_ne _ _ e, getD_old hi3]
    exact h.2 i hi hi3
end
