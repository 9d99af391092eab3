section
/-! the room of what was met stays a power of two, at most 65536 -/
def P2 (n : Nat) : Prop := (∃ e, n = 2 ^ e) ∧ n ≤ 65536
theorem capN_PW {cap n : Nat} (h : P2 cap) (hn : n < 65536) : P2 (capN cap n) := by
  unfold capN
  split
  · rename_i c
    obtain ⟨⟨e, rfl⟩, h2⟩ := h
    have h3 : 2 ^ e < 2 ^ 16 := Nat.lt_of_le_of_lt c hn
    have h4 : e < 16 := (Nat.pow_lt_pow_iff_right (by decide)).mp h3
    have h5 : 2 ^ (e + 1) ≤ 2 ^ 16 := Nat.pow_le_pow_right (by decide) (by omega)
    have h6 : 2 * 2 ^ e = 2 ^ (e + 1) := by rw [Nat.pow_succ]; omega
    exact ⟨⟨e + 1, h6⟩, by rw [h6]; exact h5⟩
  · exact h
theorem PW_of {kl : List Int32} {nl : List Nat} {cap b : Nat} {ks : Nat → Int32} {no sl : Nat → Nat} (h : MInv kl nl cap b ks no sl) : P2 cap := ⟨h.2.2.2.1, h.2.2.1⟩
theorem pgo_PW (sa sb : Nat → Nat → Nat) (k : Nat) : ∀ f p l kn nt cap, kn.length ≤ 20000 → P2 cap → P2 (pgo sa sb k f p l kn nt cap).2.2.2
  | 0, _, _, kn, _, _, _, hc => hc
  | f + 1, p, l, kn, nt, cap, h, hc => by
    rw [pgo_succ]
    split
    · split
      · split
        · exact hc
        · split
          · exact pgo_PW sa sb k f _ _ _ _ _ h hc
          · split
            · exact capN_PW hc (by omega)
            · exact pgo_PW sa sb k f _ _ _ _ _ (by omega) (capN_PW hc (by omega))
      · exact pgo_PW sa sb k f _ _ _ _ _ h hc
    · exact hc
theorem skP_PW {k na nb : Nat} {Ea Eb : Nat → Nat} {ala alb cap : Nat} (hc : P2 cap) : P2 (skP k na nb Ea Eb ala alb cap).2.2.2 := by
  unfold skP
  split
  · exact hc
  · exact pgo_PW _ _ _ _ _ _ _ _ _ (by show 1 ≤ 20000; decide) (capN_PW hc (by decide))
theorem mF_PW (sts rest : Nat) (x : List Nat × Nat) (hx : x.1.length ≤ 20000) (hc : P2 x.2) : ∀ n, n ≤ 16 → P2 (rr_fold (mA1 sts rest) n x).2
  | 0, _ => hc
  | n + 1, hn => by
    have h1 := mF_PW sts rest x hx hc n (by omega)
    have h2 := (mF_cap sts rest x n).2.2
    rw [rr_fold_succ]
    show P2 (mA1 sts rest n (rr_fold (mA1 sts rest) n x)).2
    generalize rr_fold (mA1 sts rest) n x = z at h1 h2 ⊢
    unfold mA1
    split
    · exact capN_PW h1 (by omega)
    · exact h1
theorem mgo_PW (ea bh : Nat → Nat → Nat) (k : Nat) : ∀ f p l kn cap, kn.length ≤ 20000 → P2 cap → P2 (mgo ea bh k f p l kn cap).2.2
  | 0, _, _, kn, _, _, hc => hc
  | f + 1, p, l, kn, cap, h, hc => by
    rw [mgo_succ]
    split
    · split
      · split
        · exact mgo_PW ea bh k f _ _ _ _ h hc
        · split
          · exact hc
          · split
            · exact mF_PW _ _ (kn, cap) h hc 16 (Nat.le_refl _)
            · exact mgo_PW ea bh k f _ _ _ _ (by omega) (mF_PW _ _ (kn, cap) h hc 16 (Nat.le_refl _))
      · exact mgo_PW ea bh k f _ _ _ _ h hc
    · exact hc
theorem skM_PW {k na : Nat} {Ea : Nat → Nat} {ala wd : Nat} {TD : Nat → Nat} {kb nb : Nat} {Eb : Nat → Nat} {alb cap : Nat} (hc : P2 cap) : P2 (skM k na Ea ala wd TD kb nb Eb alb cap).2.2 := by
  unfold skM
  split
  · exact hc
  · split
    · exact hc
    · refine mgo_PW _ _ _ _ _ _ _ _ ?_ (mF_PW _ _ ([], cap) (Nat.zero_le _) hc 16 (Nat.le_refl _))
      exact Nat.le_trans (mF_cap ala alb ([], cap) 16).2.2 (by show 0 + 16 ≤ 20000; decide)
/-- sets of states that were met: each but once, none empty -/
def KZ (z : List Nat × Nat) : Prop := z.1.Nodup ∧ (∀ x ∈ z.1, x ≠ 0 ∧ x < 65536) ∧ P2 z.2
theorem KZ.len {z : List Nat × Nat} (h : KZ z) : z.1.length < 65536 := by
  have h2 := nodup_le 65536 (0 :: z.1) (List.nodup_cons.mpr ⟨fun q => (h.2.1 0 q).1 rfl, h.1⟩) (fun y hy => by
    rcases List.mem_cons.mp hy with q | q
    · rw [q]; decide
    · exact (h.2.1 y q).2)
  rw [List.length_cons] at h2
  omega
theorem adK_nodup {kn : List Nat} {x : Nat} (h : kn.Nodup) : (adK kn x).Nodup := by
  unfold adK
  split
  · exact h
  · rename_i c
    refine List.nodup_append.mpr ⟨h, List.nodup_cons.mpr ⟨List.not_mem_nil, List.nodup_nil⟩, fun a ha b hb e => ?_⟩
    rw [List.mem_singleton] at hb
    exact c (by rw [← hb, ← e]; exact ha)
theorem stF_KZ {sb : Nat → Nat → Nat} {k al cap n : Nat} (ha : al < 65536) (hs : ∀ x y, sb x y < 65536) (hc : P2 cap) : KZ (stF sb k al cap n) := by
  unfold stF
  by_cases c : al = 0
  · rw [if_pos c]; exact ⟨List.nodup_nil, fun x hx => absurd hx List.not_mem_nil, hc⟩
  · rw [if_neg c]
    have hk1 : ∀ frm y (z : List Nat × Nat), KZ z → KZ (lk1 sb frm y z) := fun frm y z hz => by
      unfold lk1
      split
      · exact hz
      · rename_i h0
        exact ⟨adK_nodup hz.1, adK_all hz.2.1 ⟨h0, hs _ _⟩, capN_PW hz.2.2 hz.len⟩
    have hkY : ∀ frm m (z : List Nat × Nat), KZ z → KZ (lkY sb frm m z) := fun frm m z hz => by
      induction m with
      | zero => exact hz
      | succ m ih => rw [lkY_succ]; exact hk1 _ _ _ ih
    have hkP : ∀ lo m (z : List Nat × Nat), KZ z → KZ (lkP sb k lo m z) := fun lo m z hz => by
      induction m with
      | zero => exact hz
      | succ m ih => rw [lkP_succ]; exact hkY _ _ _ ih
    have key : ∀ n, KZ (stN sb k al cap n).1 := by
      intro n
      induction n with
      | zero => exact ⟨List.nodup_cons.mpr ⟨List.not_mem_nil, List.nodup_nil⟩, fun x hx => by rw [List.mem_singleton.mp hx]; exact ⟨c, ha⟩, capN_PW hc (by decide)⟩
      | succ n ih => rw [stN_succ]; exact hkP _ _ _ ih
    exact key n
theorem stRm_PW {sb : Nat → Nat → Nat} {k al cap n room : Nat} (hz : KZ (stF sb k al cap n)) (hr : P2 room) : P2 (stRm sb k al cap n room) := by
  unfold stRm
  split
  · exact hr
  · unfold rmN; split
    · exact hz.2.2
    · exact hr
theorem stRm_ge (sb : Nat → Nat → Nat) (k al cap n room : Nat) : room ≤ stRm sb k al cap n room := by
  unfold stRm
  split
  · exact Nat.le_refl _
  · exact (rmN_le _ _).1
/-! worlds side by side: only addresses count -/
theorem AW_fst {w w' : va_W} {q : Nat} (e : w.map Prod.fst = w'.map Prod.fst) (h : AW w q) : AW w' q := by
  obtain ⟨k, x, hk⟩ := h
  have h1 : (w.map Prod.fst)[k]? = some q := by rw [List.getElem?_map, hk]; rfl
  rw [e, List.getElem?_map] at h1
  cases h2 : w'[k]? with
  | none => rw [h2] at h1; cases h1
  | some z =>
    rw [h2] at h1
    have h3 : z.1 = q := Option.some.inj h1
    exact ⟨k, z.2, by rw [h2, ← h3]⟩
theorem XG_D {K : rr_K} {A : Nat → Prop} {w : va_W} {go ge gt k n gw al lw k' n' gw' al' lw' : Nat} {E T E' T' : Nat → Nat} (h : va_D A (w ++ GW K go ge gt k n gw al lw E T)) : va_D A (w ++ GW K go ge gt k' n' gw' al' lw' E' T') := rr_D h (by rw [List.map_append, List.map_append]; rfl)
theorem XG_GJ {K : rr_K} {A : Nat → Prop} {w : va_W} {go ge gt k n gw al lw i : Nat} {E T T' kF nF yF : Nat → Nat} (h : va_D A (w ++ GW K go ge gt k n gw al lw E T)) : va_D A (w ++ GJ K go ge gt kF nF yF i T') := XG_D h
/-- a set that was made just now -/
theorem new_GJ {K : rr_K} {go ge gt k n i : Nat} {E T kF nF yF : Nat → Nat} {H : Heap} (hE : ∀ z, z < 64 → Es yF i z = E z) (hk : k ≤ 4) (hn : n ≤ 16) (hP : va_P K.1 vwCl (GW K go ge gt k n (waysS k n E) (liveS k n E) (lwS k n (liveS k n E) E) E T) H) : va_P K.1 vwCl (GJ K go ge gt (va_up kF i k) (va_up nF i n) yF i T) H := by
  unfold GJ
  rw [va_up_self, va_up_self, ways_congr hE hk hn, live_congr hE hk hn, lw_congr hE hk hn]
  exact GW_E (fun z hz => (hE z hz).symm) hP
theorem new_TJ {k n i : Nat} {E T kF nF yF : Nat → Nat} (hE : ∀ z, z < 64 → Es yF i z = E z) (hk : k ≤ 4) (hn : n ≤ 16) (hT : TInv k n (liveS k n E) E T) : TJ (va_up kF i k) (va_up nF i n) yF i T := by
  unfold TJ
  rw [va_up_self, va_up_self, live_congr hE hk hn]
  exact T_congr (fun z hz => (hE z hz).symm) hk hn hT
theorem stE_out {yF E : Nat → Nat} {i j z : Nat} (h : i ≠ j) (hz : z < 64) : Es (stE yF (64 * j) E) i z = Es yF i z := by
  unfold Es stE
  exact if_neg (by omega)
theorem stE_new {yF E : Nat → Nat} {j z : Nat} (hz : z < 64) : Es (stE yF (64 * j) E) j z = E z := stE_in hz
theorem XC_map {K : rr_K} {ca : Nat → Nat} {bh my lg mk mn ms xa xb xv xw ns wl nf wd room mb cap : Nat} {gF : Nat → Option Nat} {WD FL FW BR TD wB dB no sl wS wR wP wV wW pR : Nat → Nat} {bF : Nat → Int32} {yB gB : Nat → Int64} {ks pF : Nat → Int32} {kn : List Nat} {lp ll : Int32} (ns' wl' nf' wd' room' mb' cap' : Nat) (gF' : Nat → Option Nat) (WD' FL' FW' BR' TD' wB' dB' no' sl' wS' wR' wP' wV' wW' pR' : Nat → Nat) (bF' : Nat → Int32) (yB' gB' : Nat → Int64) (ks' pF' : Nat → Int32) (kn' : List Nat) (lp' ll' : Int32) : (XC K ca bh my lg mk mn ms xa xb xv xw ns wl nf wd room mb cap gF WD FL FW BR TD wB dB no sl wS wR wP wV wW pR bF yB gB ks pF kn lp ll).map Prod.fst = (XC K ca bh my lg mk mn ms xa xb xv xw ns' wl' nf' wd' room' mb' cap' gF' WD' FL' FW' BR' TD' wB' dB' no' sl' wS' wR' wP' wV' wW' pR' bF' yB' gB' ks' pF' kn' lp' ll').map Prod.fst := rfl
theorem way_E {ns j : Nat} {kF nF yF : Nat → Nat} {f y t : Int32} {d : Bool} (hS : SOK ns kF nF yF) (hj : j < ns) (hd : d = true → okW ns kF nF (nI j) f y t = true) : ∀ i, i ≠ j → ∀ z, z < 64 → Es (cond d (tglW yF (nI j) f y t) yF) i z = Es yF i z := by
  intro i hi z hz
  cases d with
  | false => rfl
  | true =>
    obtain ⟨j', f', y', t', e1, rfl, rfl, rfl, hj', hf', hy', ht'⟩ := okW_of hS (hd rfl)
    have h0 := hS.1
    obtain rfl : j = j' := nI_inj (by omega) (by omega) e1
    obtain ⟨_, h2, _, h4, _⟩ := hS.2 j hj
    exact Es_tgl2 (by omega) (by omega) (by omega) (by omega) hi z hz
end
