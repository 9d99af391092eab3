/-! the table of what was met -/
def MW3 (K : rr_K) (mo mk mn ms N b cap : Nat) (ks : Nat → Int32) (no sl : Nat → Nat) : va_W := [(mo, .inr (3, [.int (nI N), .ref mk, .ref mn, .ref ms, .int (nI b)])), (mk, .inl (K.2.1, cap, .inl ks)), (mn, .inl (K.2.1, cap, .inl (fun j => nI (no j)))), (ms, .inl (K.2.1, 2 * cap, .inl (fun j => nI (sl j))))]
def hshI (key : Int32) : Int32 := (key * (-1640531535)) ^^^ ((key * (-1640531535)).toUInt32 >>> ((nI 15).toUInt32 &&& Int32.toUInt32 31)).toInt32
def hsh (key : Int32) (m : Nat) : Nat := (hshI key).toBitVec.toNat % m
def slGo (sl : Nat → Nat) (b N : Nat) (ks : Nat → Int32) (key : Int32) (m : Nat) : Nat → Nat → Nat
  | 0, s => s
  | f + 1, s => if sl s < b ∨ b + N ≤ sl s ∨ ks (sl s - b) = key then s else slGo sl b N ks key m f ((s + 1) &&& (m - 1))
def HT (sl : Nat → Nat) (b P : Nat) (ks : Nat → Int32) (m : Nat) : Prop :=
  (∀ s, s < m → sl s < b + P) ∧ (∀ s s', s < m → s' < m → b ≤ sl s → sl s = sl s' → s = s') ∧
  ∀ i, i < P → ∃ d, d < m ∧ sl ((hsh (ks i) m + d) % m) = b + i ∧ ∀ d', d' ≤ d → b ≤ sl ((hsh (ks i) m + d') % m)
theorem and_mask {m : Nat} (hm : ∃ e, m = 2 ^ e) (x : Nat) : x &&& (m - 1) = x % m := by
  obtain ⟨e, rfl⟩ := hm
  exact Nat.and_two_pow_sub_one_eq_mod x e
theorem hsh_eq (key : Int32) {m : Nat} (hm : ∃ e, m = 2 ^ e ∧ e < 32) : hshI key &&& nI (m - 1) = nI (hsh key m) := by
  obtain ⟨e, rfl, he⟩ := hm
  refine pk_and (hshI key) e ?_
  have h1 : 2 ^ e < 2 ^ 32 := Nat.pow_lt_pow_right (by decide) he
  exact pk_tn (by omega)
/-- not every slot is taken -/
theorem HT_free {sl : Nat → Nat} {b P m : Nat} {ks : Nat → Int32} (h : HT sl b P ks m) (hP : P < m) (hall : ∀ s, s < m → b ≤ sl s) : False := by
  have key : ∀ (m n : Nat) (f : Nat → Nat), (∀ i, i < n → f i < m) → (∀ i j, i < j → j < n → f i ≠ f j) → n ≤ m := by
    intro m
    induction m with
    | zero =>
      intro n f h1 _
      rcases Nat.eq_zero_or_pos n with h0 | h0
      · omega
      · exact absurd (h1 0 h0) (Nat.not_lt_zero _)
    | succ m ih =>
      intro n f h1 h2
      by_cases hx : ∃ i, i < n ∧ f i = m
      · obtain ⟨i, hi, hfi⟩ := hx
        have h3 := ih (n - 1) (fun j => if j < i then f j else f (j + 1)) (fun j hj => by
          by_cases hji : j < i
          · rw [if_pos hji]
            have := h1 j (by omega)
            have := h2 j i hji hi
            omega
          · rw [if_neg hji]
            have := h1 (j + 1) (by omega)
            have := h2 i (j + 1) (by omega) (by omega)
            omega) (fun a c hac hc => by
          by_cases ha : a < i
          · rw [if_pos ha]
            by_cases hci : c < i
            · rw [if_pos hci]; exact h2 a c hac (by omega)
            · rw [if_neg hci]; exact h2 a (c + 1) (by omega) (by omega)
          · rw [if_neg ha, if_neg (by omega)]; exact h2 (a + 1) (c + 1) (by omega) (by omega))
        omega
      · have h3 := ih n f (fun j hj => by
          have h4 := h1 j hj
          have h5 : f j ≠ m := fun e => hx ⟨j, hj, e⟩
          omega) h2
        omega
  have h3 := key P m (fun s => sl s - b) (fun s hs => by have := h.1 s hs; have := hall s hs; omega) (fun i j hij hj e => by
    have h4 := hall i (by omega)
    have h5 := hall j hj
    have := h.2.1 i j (by omega) hj h4 (by omega)
    omega)
  omega
theorem slGo_scan {sl : Nat → Nat} {b P N m : Nat} {ks : Nat → Int32} {key : Int32} (hm : ∃ e, m = 2 ^ e) (h : HT sl b P ks m) (hP : P < m) (hN : P ≤ N) (h0 : Nat) : ∀ (f t : Nat), f + t = m → (∀ d, d < t → b ≤ sl ((h0 + d) % m) ∧ ks (sl ((h0 + d) % m) - b) ≠ key) →
    ∃ d, d < m ∧ slGo sl b N ks key m f ((h0 + t) % m) = (h0 + d) % m ∧ (sl ((h0 + d) % m) < b ∨ (b ≤ sl ((h0 + d) % m) ∧ ks (sl ((h0 + d) % m) - b) = key)) ∧ ∀ d', d' < d → b ≤ sl ((h0 + d') % m) ∧ ks (sl ((h0 + d') % m) - b) ≠ key := by
  have hm0 : 0 < m := by omega
  intro f
  induction f with
  | zero =>
    intro t ht hpre
    exfalso
    refine HT_free h hP (fun s hs => ?_)
    have h1 := hpre ((s + m - h0 % m) % m) (by have := Nat.mod_lt (s + m - h0 % m) hm0; omega)
    have e1 : (h0 + (s + m - h0 % m) % m) % m = s := by
      have hl := Nat.mod_lt h0 hm0
      have hd := Nat.div_add_mod h0 m
      rw [Nat.add_mod_mod, show h0 + (s + m - h0 % m) = s + m * (h0 / m + 1) by rw [Nat.mul_add]; omega, Nat.add_mul_mod_self_left, Nat.mod_eq_of_lt hs]
    rw [e1] at h1
    exact h1.1
  | succ f ih =>
    intro t ht hpre
    show ∃ d, d < m ∧ (if sl ((h0 + t) % m) < b ∨ b + N ≤ sl ((h0 + t) % m) ∨ ks (sl ((h0 + t) % m) - b) = key then (h0 + t) % m else slGo sl b N ks key m f (((h0 + t) % m + 1) &&& (m - 1))) = (h0 + d) % m ∧ _
    have hlt := h.1 ((h0 + t) % m) (Nat.mod_lt _ hm0)
    by_cases c : sl ((h0 + t) % m) < b ∨ b + N ≤ sl ((h0 + t) % m) ∨ ks (sl ((h0 + t) % m) - b) = key
    · rw [if_pos c]
      refine ⟨t, by omega, rfl, ?_, hpre⟩
      rcases c with c | c | c
      · exact Or.inl c
      · omega
      · rcases Nat.lt_or_ge (sl ((h0 + t) % m)) b with q | q
        · exact Or.inl q
        · exact Or.inr ⟨q, c⟩
    · rw [if_neg c, and_mask hm, Nat.mod_add_mod]
      refine ih (t + 1) (by omega) (fun d hd => ?_)
      rcases Nat.lt_or_ge d t with q | q
      · exact hpre d q
      · have e : d = t := by omega
        subst e
        exact ⟨Nat.le_of_not_lt (fun q => c (Or.inl q)), fun q => c (Or.inr (Or.inr q))⟩
/-- the slot of a key: its own, if it is there; else a free one -/
theorem slGo_spec {sl : Nat → Nat} {b P N m : Nat} {ks : Nat → Int32} {key : Int32} (hm : ∃ e, m = 2 ^ e) (h : HT sl b P ks m) (hP : P < m) (hN : P ≤ N) (hinj : ∀ i j, i < P → j < P → ks i = ks j → i = j) :
    ∃ d, d < m ∧ slGo sl b N ks key m m (hsh key m) = (hsh key m + d) % m ∧ (∀ d', d' < d → b ≤ sl ((hsh key m + d') % m)) ∧
      ((∃ i, i < P ∧ ks i = key ∧ sl ((hsh key m + d) % m) = b + i) ∨ ((∀ i, i < P → ks i ≠ key) ∧ sl ((hsh key m + d) % m) < b)) := by
  have hm0 : 0 < m := by omega
  have hh : hsh key m < m := Nat.mod_lt _ hm0
  obtain ⟨d, h1, h2, h3, h4⟩ := slGo_scan (key := key) hm h hP hN (hsh key m) m 0 (by omega) (fun d hd => absurd hd (Nat.not_lt_zero d))
  rw [Nat.add_zero, Nat.mod_eq_of_lt hh] at h2
  refine ⟨d, h1, h2, fun d' hd' => (h4 d' hd').1, ?_⟩
  by_cases hx : ∃ i, i < P ∧ ks i = key
  · obtain ⟨i, hi, hki⟩ := hx
    refine Or.inl ⟨i, hi, hki, ?_⟩
    obtain ⟨di, g1, g2, g3⟩ := h.2.2 i hi
    rw [hki] at g2 g3
    have hle : d ≤ di := by
      rcases Nat.lt_or_ge di d with q | q
      · have h5 := h4 di q
        rw [g2, Nat.add_sub_cancel_left] at h5
        exact absurd hki h5.2
      · exact q
    have hb := g3 d hle
    rcases h3 with h3 | ⟨-, h3⟩
    · omega
    · have hlt := h.1 ((hsh key m + d) % m) (Nat.mod_lt _ hm0)
      have := hinj (sl ((hsh key m + d) % m) - b) i (by omega) hi (by rw [h3, hki])
      omega
  · refine Or.inr ⟨fun i hi e => hx ⟨i, hi, e⟩, ?_⟩
    rcases h3 with h3 | ⟨hb, h3⟩
    · exact h3
    · have hlt := h.1 ((hsh key m + d) % m) (Nat.mod_lt _ hm0)
      exact absurd ⟨sl ((hsh key m + d) % m) - b, by omega, h3⟩ hx
theorem HT_add {sl : Nat → Nat} {b P m : Nat} {ks ks' : Nat → Int32} {key : Int32} (hm0 : 0 < m) (h : HT sl b P ks m) {d : Nat} (hd : d < m) (hpre : ∀ d', d' < d → b ≤ sl ((hsh key m + d') % m)) (hfree : sl ((hsh key m + d) % m) < b) (hk : ∀ i, i < P → ks' i = ks i) (hkP : ks' P = key) :
    HT (va_up sl ((hsh key m + d) % m) (b + P)) b (P + 1) ks' m := by
  have out : ∀ s, b ≤ sl s → va_up sl ((hsh key m + d) % m) (b + P) s = sl s := fun s hs => va_up_ne _ _ (fun e => by rw [e] at hs; omega)
  refine ⟨fun s hs => ?_, fun s s' hs hs' hb e => ?_, fun i hi => ?_⟩
  · by_cases e : s = (hsh key m + d) % m
    · rw [e, va_up_self]; omega
    · rw [va_up_ne _ _ e]; have := h.1 s hs; omega
  · by_cases e1 : s = (hsh key m + d) % m
    · by_cases e2 : s' = (hsh key m + d) % m
      · rw [e1, e2]
      · rw [e1, va_up_self, va_up_ne _ _ e2] at e
        have := h.1 s' hs'
        omega
    · by_cases e2 : s' = (hsh key m + d) % m
      · rw [e2, va_up_self, va_up_ne _ _ e1] at e
        have := h.1 s hs
        omega
      · rw [va_up_ne _ _ e1] at hb e
        rw [va_up_ne _ _ e2] at e
        exact h.2.1 s s' hs hs' hb e
  · rcases Nat.lt_or_ge i P with q | q
    · obtain ⟨di, g1, g2, g3⟩ := h.2.2 i q
      rw [hk i q]
      refine ⟨di, g1, ?_, fun d' hd' => ?_⟩
      · rw [out _ (by rw [g2]; omega), g2]
      · rw [out _ (g3 d' hd')]; exact g3 d' hd'
    · have e : i = P := by omega
      rw [e, hkP]
      refine ⟨d, hd, by rw [va_up_self], fun d' hd' => ?_⟩
      rcases Nat.lt_or_ge d' d with q2 | q2
      · rw [out _ (hpre d' q2)]; exact hpre d' q2
      · have e2 : d' = d := by omega
        rw [e2, va_up_self]; omega
theorem HT_0 {sl : Nat → Nat} {b m : Nat} {ks : Nat → Int32} (h : ∀ s, s < m → sl s < b) : HT sl b 0 ks m := ⟨fun s hs => h s hs, fun s s' hs _ hb _ => absurd (h s hs) (by omega), fun i hi => absurd hi (Nat.not_lt_zero i)⟩
theorem HT_ks {sl : Nat → Nat} {b P m : Nat} {ks ks' : Nat → Int32} (h : HT sl b P ks m) (hk : ∀ i, i < P → ks' i = ks i) : HT sl b P ks' m := ⟨h.1, h.2.1, fun i hi => by rw [hk i hi]; exact h.2.2 i hi⟩
theorem nodup_inj {α : Type} : ∀ {l : List α}, l.Nodup → ∀ {i j : Nat} (hi : i < l.length) (hj : j < l.length), l[i] = l[j] → i = j
  | [], _, i, _, hi, _, _ => absurd hi (Nat.not_lt_zero i)
  | a :: l, h, i, j, hi, hj, e => by
    obtain ⟨h1, h2⟩ := List.nodup_cons.mp h
    cases i with
    | zero =>
      cases j with
      | zero => rfl
      | succ j =>
        simp only [List.getElem_cons_zero, List.getElem_cons_succ] at e
        exact absurd (e ▸ List.getElem_mem _) h1
    | succ i =>
      cases j with
      | zero =>
        simp only [List.getElem_cons_zero, List.getElem_cons_succ] at e
        exact absurd (e ▸ List.getElem_mem _) h1
      | succ j =>
        simp only [List.getElem_cons_succ] at e
        rw [nodup_inj h2 (by simpa using hi) (by simpa using hj) e]
/-- the state of the table -/
def MInv (kl : List Int32) (nl : List Nat) (cap b : Nat) (ks : Nat → Int32) (no sl : Nat → Nat) : Prop :=
  kl.length ≤ cap ∧ 64 ≤ cap ∧ cap ≤ 65536 ∧ (∃ e, cap = 2 ^ e) ∧ kl.Nodup ∧ nl.length = kl.length ∧ (∀ j (h : j < kl.length), ks j = kl[j]) ∧ (∀ j (h : j < nl.length), no j = nl[j]) ∧ 1 ≤ b ∧ b ≤ 1000000000 ∧ HT sl b kl.length ks (2 * cap)
theorem MInv.inj {kl : List Int32} {nl : List Nat} {cap b : Nat} {ks : Nat → Int32} {no sl : Nat → Nat} (h : MInv kl nl cap b ks no sl) : ∀ i j, i < kl.length → j < kl.length → ks i = ks j → i = j := by
  intro i j hi hj e
  rw [h.2.2.2.2.2.2.1 i hi, h.2.2.2.2.2.2.1 j hj] at e
  exact nodup_inj h.2.2.2.2.1 hi hj e
