section
theorem GW_D {K : rr_K} {A : Nat → Prop} {go ge gt k n w al lw k' n' w' al' lw' : Nat} {E T E' T' : Nat → Nat} (h : va_D A (GW K go ge gt k n w al lw E T)) : va_D A (GW K go ge gt k' n' w' al' lw' E' T') := rr_D h rfl
theorem GJ_D {K : rr_K} {A : Nat → Prop} {go ge gt j : Nat} {kF nF yF T : Nat → Nat} (h : va_D A (GJ K go ge gt kF nF yF j T)) (k' n' w' al' lw' : Nat) (E' T' : Nat → Nat) : va_D A (GW K go ge gt k' n' w' al' lw' E' T') := GW_D (by unfold GJ at h; exact h)
theorem Es_tgl {yF : Nat → Nat} {j f y t : Nat} (hj : j < 2 ^ 31) (hf : f < 2 ^ 31) (hy : y < 2 ^ 31) (ht : t < 2 ^ 31) (h64 : f * 4 + y < 64) : Es (tglW yF (nI j) (nI f) (nI y) (nI t)) j = va_up (Es yF j) (f * 4 + y) (Es yF j (f * 4 + y) ^^^ 1 <<< t) := by
  funext i
  unfold tglW ixW Es
  rw [cN_nI hj, cN_nI hf, cN_nI hy, cN_nI ht]
  unfold va_up
  by_cases h : i = f * 4 + y
  · rw [if_pos h, if_pos (by omega)]
  · rw [if_neg h, if_neg (by omega)]
theorem Es_tgl2 {yF : Nat → Nat} {i j f y t : Nat} (hj : j < 2 ^ 31) (hf : f < 2 ^ 31) (hy : y < 2 ^ 31) (h64 : f * 4 + y < 64) (hne : i ≠ j) : ∀ z, z < 64 → Es (tglW yF (nI j) (nI f) (nI y) (nI t)) i z = Es yF i z := by
  intro z hz
  unfold tglW ixW Es
  rw [cN_nI hj, cN_nI hf, cN_nI hy]
  exact va_up_ne _ _ (by omega)
theorem okW_has {ns j : Nat} {kF nF yF : Nat → Nat} {f y t : Int32} (hS : SOK ns kF nF yF) (hj : j < ns) : (rrin f (nI 0) (nI (nF j - 1)) && (rrin y (nI 0) (nI (kF j - 1)) && rrin t (nI 0) (nI (nF j - 1)))) = okW ns kF nF (nI j) f y t := by
  have h0 := hS.1
  obtain ⟨h1, h2, h3, h4, _⟩ := hS.2 j hj
  rw [isS_in (by omega), isS_in (by omega), isS_in (by omega), okW_j (by omega) rfl, okQ_j (by omega) rfl, okQ_j (by omega) rfl, isS_j hj (by omega)]
  cases isS (nF j) f <;> cases isS (nF j) t <;> cases isS (kF j) y <;> rfl
theorem bit_tgl {yF : Nat → Nat} {j f y t : Nat} (hj : j < 2 ^ 31) (hf : f < 2 ^ 31) (hy : y < 2 ^ 31) (ht : t < 2 ^ 31) : bitW yF (nI j) (nI f) (nI y) (nI t) = (Es yF j (f * 4 + y)).testBit t := by
  unfold bitW ixW Es
  rw [cN_nI hj, cN_nI hf, cN_nI hy, cN_nI ht]
/-! the search between two sets comes to its end -/
theorem pgo_inv {sa sb : Nat → Nat → Nat} {k LA LB : Nat} (hk : k ≤ 4) (ha : LA < 65536) (hb : LB < 65536) (hsa : ∀ x y, sub (sa x y) LA) (hsb : ∀ x y, sub (sb x y) LB) : ∀ f p l kn nt cap, PRS kn nt LA LB → p ≤ kn.length → l ≤ k → 130000 ≤ f + 5 * p + l →
    ((pgo sa sb k f p l kn nt cap).1.1 = 0 ∨ (pgo sa sb k f p l kn nt cap).1.1 = 1 ∨ (pgo sa sb k f p l kn nt cap).1.1 = 2) ∧ ((pgo sa sb k f p l kn nt cap).1.1 = 1 → (pgo sa sb k f p l kn nt cap).1.2.1 < (pgo sa sb k f p l kn nt cap).2.1.length ∧ (pgo sa sb k f p l kn nt cap).1.2.2 < k ∧ PRS (pgo sa sb k f p l kn nt cap).2.1 (pgo sa sb k f p l kn nt cap).2.2.1 LA LB)
  | 0, p, l, kn, nt, cap, h, hp, hl, hf => absurd hf (by have := h.2.1; omega)
  | f + 1, p, l, kn, nt, cap, h, hp, hl, hf => by
    by_cases c1 : p < kn.length
    · by_cases c2 : l < k
      · by_cases c3 : (sa (kn.getD p 0 >>> 16) l = 0) ≠ (sb (kn.getD p 0 &&& 65535) l = 0)
        · rw [pgo_part c1 c2 c3]
          exact ⟨Or.inr (Or.inl rfl), fun _ => ⟨c1, c2, h⟩⟩
        · by_cases c4 : sa (kn.getD p 0 >>> 16) l = 0
          · rw [pgo_zero c1 c2 c3 c4]
            exact pgo_inv hk ha hb hsa hsb f p (l + 1) kn nt cap h hp (by omega) (by omega)
          · by_cases c5 : 20000 < (adK kn (sa (kn.getD p 0 >>> 16) l <<< 16 ||| sb (kn.getD p 0 &&& 65535) l)).length
            · have e := pgo_spent (f := f) (nt := nt) (cap := cap) c1 c2 c3 c4 c5
              rw [e]
              exact ⟨Or.inr (Or.inr rfl), fun q => by cases q⟩
            · rw [pgo_on c1 c2 c3 c4 c5]
              have hl2 := adK_len kn (sa (kn.getD p 0 >>> 16) l <<< 16 ||| sb (kn.getD p 0 &&& 65535) l)
              refine pgo_inv hk ha hb hsa hsb f p (l + 1) _ _ _ ?_ (by omega) (by omega) (by omega)
              by_cases c6 : (sa (kn.getD p 0 >>> 16) l <<< 16 ||| sb (kn.getD p 0 &&& 65535) l) ∈ kn
              · rw [adK_in c6, adN_in c6]; exact h
              · rw [adK_new c6] at c5 ⊢
                rw [adN_new c6]
                exact PRS_add h ha hb (hsa _ _) (hsb _ _) c1 (by omega) (by omega)
      · rw [pgo_row c1 c2]
        exact pgo_inv hk ha hb hsa hsb f (p + 1) 0 kn nt cap h (by omega) (Nat.zero_le _) (by omega)
    · rw [pgo_ge c1]
      exact ⟨Or.inl rfl, fun q => by cases q⟩
theorem skP_inv {k na nb : Nat} {Ea Eb : Nat → Nat} {ala alb cap : Nat} (hk : k ≤ 4) (ha : ala < 65536) (hb : alb < 65536) : ((skP k na nb Ea Eb ala alb cap).1.1 = 0 ∨ (skP k na nb Ea Eb ala alb cap).1.1 = 1 ∨ (skP k na nb Ea Eb ala alb cap).1.1 = 2 ∨ (skP k na nb Ea Eb ala alb cap).1.1 = 4) ∧ ((skP k na nb Ea Eb ala alb cap).1.1 = 1 → (skP k na nb Ea Eb ala alb cap).1.2.1 < (skP k na nb Ea Eb ala alb cap).2.1.length ∧ (skP k na nb Ea Eb ala alb cap).1.2.2 < k ∧ PRS (skP k na nb Ea Eb ala alb cap).2.1 (skP k na nb Ea Eb ala alb cap).2.2.1 ala alb) := by
  unfold skP
  by_cases c : (ala = 0) ≠ (alb = 0)
  · rw [if_pos c]
    exact ⟨Or.inr (Or.inr (Or.inr rfl)), fun q => by cases q⟩
  · rw [if_neg c]
    have h := pgo_inv hk ha hb (fun x y => ldS_sub k na Ea ala x y) (fun x y => ldS_sub k nb Eb alb x y) 130000 0 0 [ala <<< 16 ||| alb] [0] (capN cap 0) (PRS_0 ha hb) (Nat.zero_le _) (Nat.zero_le _) (by decide)
    exact ⟨h.1.elim Or.inl (fun z => Or.inr (z.elim Or.inl (fun z => Or.inr (Or.inl z)))), h.2⟩
end
