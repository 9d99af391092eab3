section
/-! the numbers that both sides hold stay what they are to be -/
variable {ns wl nf wd : Nat} {kF nF yF WD FL FW TD : Nat → Nat}
theorem SOK_new {k n : Nat} {E : Nat → Nat} (h : SOK ns kF nF yF) (h6 : ns ≠ 6) (k1 : 2 ≤ k) (k2 : k ≤ 4) (n1 : 1 ≤ n) (n2 : n ≤ 16) (hE : ∀ z, z < 64 → E z < 65536) : SOK (ns + 1) (va_up kF ns k) (va_up nF ns n) (stE yF (64 * ns) E) := by
  refine ⟨by have := h.1; omega, fun j hj => ?_⟩
  by_cases e : j = ns
  · subst e
    rw [va_up_self, va_up_self]
    exact ⟨k1, k2, n1, n2, fun i hi => by rw [stE_new hi]; exact hE i hi⟩
  · rw [va_up_ne _ _ e, va_up_ne _ _ e]
    obtain ⟨a1, a2, a3, a4, a5⟩ := h.2 j (by omega)
    exact ⟨a1, a2, a3, a4, fun i hi => by rw [stE_out e hi]; exact a5 i hi⟩
theorem SOK_way {x f y t : Int32} {d : Bool} (h : SOK ns kF nF yF) (hd : d = true → okW ns kF nF x f y t = true) : SOK ns kF nF (cond d (tglW yF x f y t) yF) := by
  cases d with
  | false => exact h
  | true =>
    dsimp only [cond]
    obtain ⟨j, f', y', t', rfl, rfl, rfl, rfl, hj, hf', hy', ht'⟩ := okW_of h (hd rfl)
    have h0 := h.1
    obtain ⟨b1, b2, b3, b4, b5⟩ := h.2 j hj
    refine ⟨h0, fun i hi => ?_⟩
    obtain ⟨a1, a2, a3, a4, a5⟩ := h.2 i hi
    refine ⟨a1, a2, a3, a4, fun z hz => ?_⟩
    by_cases e : i = j
    · subst e
      rw [Es_tgl (by omega) (by omega) (by omega) (by omega) (by omega)]
      by_cases e2 : z = f' * 4 + y'
      · subst e2
        rw [va_up_self]
        have h1 : 1 <<< t' < 2 ^ 16 := by rw [Nat.one_shiftLeft]; exact Nat.pow_lt_pow_right (by decide) (by omega)
        exact Nat.xor_lt_two_pow (n := 16) (b5 _ (by omega)) h1
      · rw [va_up_ne _ _ e2]; exact b5 z hz
    · rw [Es_tgl2 (by omega) (by omega) (by omega) (by omega) e z hz]
      exact a5 z hz
theorem N_set {x y : Int32} (h : NI ns wl nf wd kF nF yF WD FL FW TD) : NI (cond (setOK ns x y) (ns + 1) ns) wl nf wd (cond (setOK ns x y) (va_up kF ns (cN x)) kF) (cond (setOK ns x y) (va_up nF ns (cN y)) nF) (cond (setOK ns x y) (zrF yF (64 * ns) 64) yF) WD FL FW TD := by
  cases c : setOK ns x y with
  | false => exact h
  | true =>
    obtain ⟨k1, k2, n1, n2, h6⟩ := setOK_of c
    refine ⟨?_, h.2⟩
    show SOK (ns + 1) (va_up kF ns (cN x)) (va_up nF ns (cN y)) (zrF yF (64 * ns) 64)
    rw [zrF_stE]
    exact SOK_new h.1 h6 k1 k2 n1 n2 (fun _ _ => by decide)
theorem N_byWords {x : Int32} (h : NI ns wl nf wd kF nF yF WD FL FW TD) : NI (cond (bywOK ns nf FL FW x) (ns + 1) ns) wl nf wd (cond (bywOK ns nf FL FW x) (va_up kF ns (cN x)) kF) (cond (bywOK ns nf FL FW x) (va_up nF ns (bywN nf FL x)) nF) (cond (bywOK ns nf FL FW x) (stE yF (64 * ns) (bywE nf FL FW x)) yF) WD FL FW TD := by
  cases c : bywOK ns nf FL FW x with
  | false => exact h
  | true =>
    obtain ⟨k1, k2, n1, n2, h6⟩ := bywOK_of c
    refine ⟨?_, h.2⟩
    show SOK (ns + 1) (va_up kF ns (cN x)) (va_up nF ns (bywN nf FL x)) (stE yF (64 * ns) (bywE nf FL FW x))
    refine SOK_new h.1 h6 k1 k2 n1 n2 (fun z _ => ?_)
    unfold bywE
    have h1 := lyE_lt (cN x) (lyB nf FL FW (cN x) (lM nf FL)) (bywN nf FL x * cN x) z n1
    have h2 : 2 ^ bywN nf FL x ≤ 2 ^ 16 := Nat.pow_le_pow_right (by decide) n2
    omega
theorem N_way {x f y t : Int32} (h : NI ns wl nf wd kF nF yF WD FL FW TD) : NI ns wl nf wd kF nF (cond (wayOK ns kF nF yF x f y t) (tglW yF x f y t) yF) WD FL FW TD := ⟨SOK_way h.1 (fun q => by unfold wayOK at q; exact ((Bool.and_eq_true _ _).mp q).1), h.2⟩
theorem N_unway {x f y t : Int32} (h : NI ns wl nf wd kF nF yF WD FL FW TD) : NI ns wl nf wd kF nF (cond (unwOK ns kF nF yF x f y t) (tglW yF x f y t) yF) WD FL FW TD := ⟨SOK_way h.1 (fun q => by unfold unwOK at q; exact ((Bool.and_eq_true _ _).mp q).1), h.2⟩
theorem N_empty (h : NI ns wl nf wd kF nF yF WD FL FW TD) : NI ns 0 nf wd kF nF yF WD FL FW TD := ⟨h.1, ⟨Nat.zero_le _, fun i hi => absurd hi (Nat.not_lt_zero i)⟩, h.2.2⟩
theorem N_unforbid (h : NI ns wl nf wd kF nF yF WD FL FW TD) : NI ns wl 0 wd kF nF yF WD FL FW TD := ⟨h.1, h.2.1, ⟨Nat.zero_le _, fun i hi => absurd hi (Nat.not_lt_zero i)⟩, h.2.2.2⟩
theorem N_letter {x : Int32} (h : NI ns wl nf wd kF nF yF WD FL FW TD) : NI ns (cond (letOK wl x) (wl + 1) wl) nf wd kF nF yF (cond (letOK wl x) (va_up WD wl (cN x)) WD) FL FW TD := by
  cases c : letOK wl x with
  | false => exact h
  | true =>
    unfold letOK at c
    rw [Bool.and_eq_true] at c
    obtain ⟨c1, c2⟩ := c
    obtain ⟨a, _, ha, rfl⟩ := rrin_nat (by decide) c1 (by decide)
    have h30 : wl ≠ 30 := fun e => by rw [decide_eq_true e] at c2; cases c2
    have h1 := h.2.1.1
    refine ⟨h.1, ⟨by show wl + 1 ≤ 30; omega, fun i hi => ?_⟩, h.2.2⟩
    show va_up WD wl (cN (nI a)) i < 4
    have hi : i < wl + 1 := hi
    rw [cN_nI (by omega)]
    by_cases e : i = wl
    · subst e; rw [va_up_self]; omega
    · rw [va_up_ne _ _ e]; exact h.2.1.2 i (by omega)
theorem N_forbid (h : NI ns wl nf wd kF nF yF WD FL FW TD) : NI ns wl (cond (forOK wl nf) (nf + 1) nf) wd kF nF yF WD (cond (forOK wl nf) (va_up FL nf wl) FL) (cond (forOK wl nf) (putN FW WD (nf * 5) wl) FW) TD := by
  cases c : forOK wl nf with
  | false => exact h
  | true =>
    unfold forOK at c
    rw [Bool.and_eq_true] at c
    obtain ⟨c1, c2⟩ := c
    have hw5 := of_decide_eq_true c1
    have h8 : nf ≠ 8 := fun e => by rw [decide_eq_true e] at c2; cases c2
    have h1 := h.2.2.1.1
    refine ⟨h.1, h.2.1, ⟨by show nf + 1 ≤ 8; omega, fun i hi => ?_⟩, h.2.2.2⟩
    show 1 ≤ va_up FL nf wl i ∧ va_up FL nf wl i ≤ 5 ∧ ∀ j, j < va_up FL nf wl i → putN FW WD (nf * 5) wl (i * 5 + j) < 4
    have hi : i < nf + 1 := hi
    by_cases e : i = nf
    · subst e
      rw [va_up_self]
      refine ⟨hw5.1, hw5.2, fun j hj => ?_⟩
      unfold putN
      rw [if_pos (by omega), show i * 5 + j - i * 5 = j by omega]
      exact h.2.1.2 j hj
    · rw [va_up_ne _ _ e]
      obtain ⟨a1, a2, a3⟩ := h.2.2.1.2 i (by omega)
      refine ⟨a1, a2, fun j hj => ?_⟩
      unfold putN
      rw [if_neg (by omega)]
      exact a3 j hj
theorem N_window {x : Int32} (h : NI ns wl nf wd kF nF yF WD FL FW TD) : NI ns wl nf (cond (rrin x (nI 1) (nI 3)) (cN x) wd) kF nF yF WD FL FW (cond (rrin x (nI 1) (nI 3)) (putZ TD (fun _ => 0) 64) TD) := by
  cases c : rrin x (nI 1) (nI 3) with
  | false => exact h
  | true =>
    obtain ⟨a, a1, a2, rfl⟩ := rrin_nat (by decide) c (by decide)
    refine ⟨h.1, h.2.1, h.2.2.1, ?_, ?_, fun r hr => ?_⟩
    · show 1 ≤ cN (nI a); rw [cN_nI (by omega)]; exact a1
    · show cN (nI a) ≤ 3; rw [cN_nI (by omega)]; exact a2
    · show putZ TD (fun _ => 0) 64 r < 4
      unfold putZ
      rw [if_pos hr]
      exact Nat.zero_lt_succ 3
theorem N_tells {x y : Int32} (h : NI ns wl nf wd kF nF yF WD FL FW TD) : NI ns wl nf wd kF nF yF WD FL FW (cond (telOK wd x y) (va_up TD (cN x) (cN y)) TD) := by
  cases c : telOK wd x y with
  | false => exact h
  | true =>
    unfold telOK at c
    rw [Bool.and_eq_true] at c
    obtain ⟨b, _, hb, e⟩ := rrin_nat (by decide) c.2 (by decide)
    refine ⟨h.1, h.2.1, h.2.2.1, h.2.2.2.1, h.2.2.2.2.1, fun r hr => ?_⟩
    show va_up TD (cN x) (cN y) r < 4
    by_cases e2 : r = cN x
    · rw [e2, va_up_self, e, cN_nI (by omega)]; omega
    · rw [va_up_ne _ _ e2]; exact h.2.2.2.2.2 r hr
theorem N_same {x y : Int32} (h : NI ns wl nf wd kF nF yF WD FL FW TD) : NI ns (samL ns kF nF yF x y wl) nf wd kF nF yF (samW ns kF nF yF x y WD) FL FW TD := by
  refine ⟨h.1, ?_, h.2.2⟩
  unfold samL samW
  by_cases c : smOK ns kF x y = true
  · rw [if_pos c, if_pos c]
    have h0 := h.1.1
    unfold smOK at c
    rw [Bool.and_eq_true, Bool.and_eq_true] at c
    obtain ⟨⟨c1, c2⟩, c3⟩ := c
    obtain ⟨j, hj, rfl⟩ := isS_of (by omega) c1
    obtain ⟨g, hg, rfl⟩ := isS_of (by omega) c2
    rw [cN_nI (by omega), cN_nI (by omega)]
    obtain ⟨j1, j2, j3, j4, j5⟩ := h.1.2 j hj
    obtain ⟨g1, g2, g3, g4, g5⟩ := h.1.2 g hg
    have hi := skP_inv (k := kF j) (na := nF j) (nb := nF g) (Ea := Es yF j) (Eb := Es yF g) (cap := 0) j2 (liveS_lt16 (k := kF j) (E := Es yF j) j4) (liveS_lt16 (k := kF g) (E := Es yF g) g4)
    unfold smR
    generalize skP (kF j) (nF j) (nF g) (Es yF j) (Es yF g) (liveS (kF j) (nF j) (Es yF j)) (liveS (kF g) (nF g) (Es yF g)) 0 = R9 at hi
    unfold rsL rsW
    by_cases d4 : R9.1.1 = 4
    · rw [if_pos d4]
      exact ⟨Nat.zero_le _, fun i hi => absurd hi (Nat.not_lt_zero i)⟩
    · rw [if_neg d4]
      by_cases d1 : R9.1.1 = 1
      · rw [if_pos d1, if_pos d1]
        obtain ⟨_, hl, _⟩ := hi.2 d1
        refine ⟨Nat.min_le_right _ _, fun i hi => ?_⟩
        have h1 := Nat.lt_of_lt_of_le hi (Nat.min_le_left _ _)
        have h2 := Nat.lt_of_lt_of_le hi (Nat.min_le_right _ _)
        unfold wdW
        rw [if_pos ⟨Nat.zero_le _, h1, h2⟩]
        unfold wdP
        split
        · omega
        · exact Nat.mod_lt _ (by decide)
      · rw [if_neg d1, if_neg d1]
        exact h.2.1
  · rw [if_neg c, if_neg c]
    exact h.2.1
end
