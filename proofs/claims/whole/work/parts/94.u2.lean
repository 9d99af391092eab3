section
theorem CI_new {K : rr_K} {A : Nat → Prop} {co : Nat} {ca : Nat → Nat} {bh my lg mk mn ms xa xb xv xw ns wl nf wd room mb cap : Nat} {gF : Nat → Option Nat} {WD FL FW BR TD wB dB no sl wS wR wP wV wW pR : Nat → Nat} {bF : Nat → Int32} {yB gB : Nat → Int64} {ks pF : Nat → Int32} {kn : List Nat} {lp ll : Int32} {kF nF yF : Nat → Nat} {nt : List Nat} {g1 g2 g3 : Nat → Nat} {TT : Nat → Nat → Nat} {H H1 : Heap} {BR' : Nat → Nat} {go ge gt k n : Nat} {E T : Nat → Nat} (hA : ∀ q, H.size ≤ q → A q) (hS : SOK ns kF nF yF) (h0 : ca 0 = co) (hD : va_D A (XC K ca bh my lg mk mn ms xa xb xv xw ns wl nf wd room mb cap gF WD FL FW BR TD wB dB no sl wS wR wP wV wW pR bF yB gB ks pF kn lp ll)) (hG : CG K A (XC K ca bh my lg mk mn ms xa xb xv xw ns wl nf wd room mb cap gF WD FL FW BR TD wB dB no sl wS wR wP wV wW pR bF yB gB ks pF kn lp ll) ns gF kF nF yF H g1 g2 g3 TT) (hF : ∀ q : Nat, q < H.size → ¬ va_A (XC K ca bh my lg mk mn ms xa xb xv xw ns wl nf wd room mb cap gF WD FL FW BR TD wB dB no sl wS wR wP wV wW pR bF yB gB ks pF kn lp ll) H.size q → H1[q]? = H[q]?) (hP1 : va_P K.1 vwCl (XC K ca bh my lg mk mn ms xa xb xv xw (ns + 1) wl nf wd room mb cap (va_up gF ns (some go)) WD FL FW BR' TD wB dB no sl wS wR wP wV wW pR bF yB gB ks pF kn lp ll ++ GW K go ge gt k n (waysS k n E) (liveS k n E) (lwS k n (liveS k n E) E) E T) H1) (hD1 : va_D (va_A (XC K ca bh my lg mk mn ms xa xb xv xw ns wl nf wd room mb cap gF WD FL FW BR TD wB dB no sl wS wR wP wV wW pR bF yB gB ks pF kn lp ll) H.size) (XC K ca bh my lg mk mn ms xa xb xv xw (ns + 1) wl nf wd room mb cap (va_up gF ns (some go)) WD FL FW BR' TD wB dB no sl wS wR wP wV wW pR bF yB gB ks pF kn lp ll ++ GW K go ge gt k n (waysS k n E) (liveS k n E) (lwS k n (liveS k n E) E) E T)) (hk : k ≤ 4) (hn : n ≤ 16) (hT : TInv k n (liveS k n E) E T) (hM : MInv (kn.map nI) nt cap mb ks no sl) (hl : kn.length < 65536) (hr : ∃ e, room = 2 ^ e) (hrb : room ≤ 65536) (hBR : ∀ j, j < 5 → BR' j < 65536) : CI K A co cap room (ns + 1) wl nf wd (va_up kF ns k) (va_up nF ns n) (stE yF (64 * ns) E) WD FL FW TD H1 := by
  have hap := rr_apart hD1
  have hDr := rr_Dright hD1
  refine CI_mk h0 (rr_left hP1) (D_in (rr_Dleft hD1) (A1_in hD hA)) (CG_new hS hG hA hF (fun i hi z hz => stE_out (by omega) hz) (XG_GJ hD1) (fun q hq => ?_) (new_TJ (fun z hz => stE_new hz) hk hn hT) (new_GJ (fun z hz => stE_new hz) hk hn (rr_right hP1))) hM hl hr hrb hBR
  obtain ⟨k9, e9, h9⟩ := AW_GW (K := K) (k := k) (n := n) (w := waysS k n E) (al := liveS k n E) (lw := lwS k n (liveS k n E) E) (E := E) (T := T) |>.mpr hq
  exact (hDr.2 k9 (q, e9) h9).elim (fun z => absurd (AW_fst (w := XC K ca bh my lg mk mn ms xa xb xv xw ns wl nf wd room mb cap gF WD FL FW BR TD wB dB no sl wS wR wP wV wW pR bF yB gB ks pF kn lp ll) (q := q) (w' := XC K ca bh my lg mk mn ms xa xb xv xw (ns + 1) wl nf wd room mb cap (va_up gF ns (some go)) WD FL FW BR' TD wB dB no sl wS wR wP wV wW pR bF yB gB ks pF kn lp ll) rfl z) (hap k9 (q, e9) h9)) id
theorem z3n (n a b : Nat) : 3 * (n + 1 - n) + (a - a) + (b - b) = 3 := by omega
theorem z327n (n a b : Nat) : 327 * (n + 1 - n) + 8 * (a - a) + 12 * (b - b) = 327 := by omega
theorem z3a (n a b c : Nat) : 3 * (n - n) + (a - b) + (c - c) = a - b := by omega
theorem z327a (n a b c : Nat) : 327 * (n - n) + 8 * (a - b) + 12 * (c - c) = 8 * (a - b) := by omega
theorem z3b (n a b c d : Nat) : 3 * (n - n) + (a - b) + (c - d) = (a - b) + (c - d) := by omega
theorem z327b (n a b c d : Nat) : 327 * (n - n) + 8 * (a - b) + 12 * (c - d) = 8 * (a - b) + 12 * (c - d) := by omega
theorem setOK_of {ns : Nat} {x y : Int32} (h : setOK ns x y = true) : 2 ≤ cN x ∧ cN x ≤ 4 ∧ 1 ≤ cN y ∧ cN y ≤ 16 ∧ ns ≠ 6 := by
  unfold setOK at h
  rw [Bool.and_eq_true, Bool.and_eq_true] at h
  obtain ⟨⟨h1, h2⟩, h3⟩ := h
  obtain ⟨a, ha1, ha2, rfl⟩ := rrin_nat (by decide) h1 (by decide)
  obtain ⟨b, hb1, hb2, rfl⟩ := rrin_nat (by decide) h2 (by decide)
  rw [cN_nI (by omega), cN_nI (by omega)]
  exact ⟨ha1, ha2, hb1, hb2, fun e => by rw [decide_eq_true e] at h3; cases h3⟩
theorem bywOK_of {ns nf : Nat} {FL FW : Nat → Nat} {x : Int32} (h : bywOK ns nf FL FW x = true) : 2 ≤ cN x ∧ cN x ≤ 4 ∧ 1 ≤ bywN nf FL x ∧ bywN nf FL x ≤ 16 ∧ ns ≠ 6 := by
  unfold bywOK bywC at h
  rw [Bool.and_eq_true, Bool.and_eq_true, Bool.and_eq_true] at h
  obtain ⟨⟨h1, _⟩, h2, h3⟩ := h
  obtain ⟨a, ha1, ha2, e⟩ := rrin_nat (by decide) h1 (by decide)
  have e2 : cN x = a := by rw [e]; exact cN_nI (by omega)
  refine ⟨by omega, by omega, ?_, of_decide_eq_true h2, fun e => by rw [decide_eq_true e] at h3; cases h3⟩
  unfold bywN
  exact Nat.pow_pos (by omega)
theorem u_X9_way (l : Launch) (K : rr_K) (A : Nat → Prop) {co cap room : Nat} {ns wl nf wd : Nat} {kF nF yF WD FL FW TD : Nat → Nat} (x : Int32) (f : Int32) (y : Int32) (t : Int32) (hN : NI ns wl nf wd kF nF yF WD FL FW TD) {H0 : Heap} (hA : ∀ q, H0.size ≤ q → A q) (hC : CI K A co cap room ns wl nf wd kF nF yF WD FL FW TD H0) : UX l K A yX9_way wsX9_way (fun _ _ => rmX9_way) [.ref co, .int x, .int f, .int y, .int t] co cap room ns ns wl nf wd kF nF (cond (wayOK ns kF nF yF x f y t) (tglW yF x f y t) yF) WD FL FW TD (.int (wayA ns kF nF yF x f y t)) H0 := by
  obtain ⟨ca, bh, my, lg, mk, mn, ms, xa, xb, xv, xw, mb, gF, BR, wB, dB, no, sl, wS, wR, wP, wV, wW, pR, bF, yB, gB, ks, pF, kn, nt, lp, ll, g1, g2, g3, TT, rfl, hP, hD, hG, hM, hl, hr, hrb, hBR⟩ := hC
  obtain ⟨hcap, hroom⟩ : cap ≤ 65536 ∧ room ≤ 65536 := ⟨hM.2.2.1, hrb⟩
  have hS9 := hN.1; have hW9 := hN.2.1; have hF9 := hN.2.2.1; have hw1 := hN.2.2.2.1; have hw := hN.2.2.2.2.1; have hTD := hN.2.2.2.2.2
  have hwl := hW9.1; have hnf := hF9.1; have hns := hS9.1
  have hga : ∀ i, i < ns → gF i = some (g1 i) := fun i hi => (hG i hi).1
  cases hx : isS ns x with
  | false =>
    rw [show wayOK ns kF nF yF x f y t = false by unfold wayOK okW okQ; rw [hx]; rfl]
    dsimp only [cond]
    refine ⟨cap, room, Nat.le_refl _, Nat.le_refl _, hcap, hroom, ?_⟩
    rw [z3, z327]
    refine Met_or (fun a s h => ?_)
    obtain ⟨ha, hKK, rfl⟩ := h
    exact ⟨_, _, _, cb_X9_way l K ca bh my lg mk mn ms xa xb xv xw ns wl nf wd room mb cap gF WD FL FW BR TD wB dB no sl wS wR wP wV wW pR bF yB gB ks pF kn lp ll kF nF yF x f y t hx, ⟨ha, hKK, hP⟩, PQ_GQ ⟨rfl, CI_mk rfl hP hD hG hM hl hr hrb hBR⟩, fun q h => h.elim⟩
  | true =>
    obtain ⟨j, hj, rfl⟩ := isS_of (by omega) hx
    obtain ⟨hgj, hGP, hGD, hT, hap, _⟩ := hG j hj
    have hok : wayOK ns kF nF yF (nI j) f y t = true → okW ns kF nF (nI j) f y t = true := fun h => by unfold wayOK at h; exact ((Bool.and_eq_true _ _).mp h).1
    refine ⟨cap, room, Nat.le_refl _, Nat.le_refl _, hcap, hroom, ?_⟩
    rw [z3, z327]
    refine Met_or (fun a s h => ?_)
    obtain ⟨ha, hKK, rfl⟩ := h
    have hA1 := A1_in hGD hA
    exact ⟨_, _, _, cg_X9_way l K (va_A (GJ K (g1 j) (g2 j) (g3 j) kF nF yF j (TT j)) s.heap.size) s.heap.size ca bh my lg mk mn ms xa xb xv xw ns wl nf wd room mb cap gF WD FL FW BR TD wB dB no sl wS wR wP wV wW pR bF yB gB ks pF kn lp ll kF nF yF j (g1 j) (g2 j) (g3 j) (TT j) f y t hS9 hj hgj hT (fun q h => Or.inr h) hGD.self (XC_out hP hap), ⟨ha, hKK, rfl, hGP, hP⟩, GQ_mono hA1 (fun v H1 hY hF => by
      obtain ⟨hv, T', hT', hP1⟩ := hY
      exact ⟨hv, CI_mk rfl (P_keep hP hF (fun q hq => by
        obtain ⟨k9, e9, h9⟩ := hq
        exact XC_out hP hap k9 (q, e9) h9)) hD (CG_way hS9 hG hj hF (way_E hS9 hj hok) hT' hP1) hM hl hr hrb hBR⟩), hA1⟩
theorem u_X9_unway (l : Launch) (K : rr_K) (A : Nat → Prop) {co cap room : Nat} {ns wl nf wd : Nat} {kF nF yF WD FL FW TD : Nat → Nat} (x : Int32) (f : Int32) (y : Int32) (t : Int32) (hN : NI ns wl nf wd kF nF yF WD FL FW TD) {H0 : Heap} (hA : ∀ q, H0.size ≤ q → A q) (hC : CI K A co cap room ns wl nf wd kF nF yF WD FL FW TD H0) : UX l K A yX9_unway wsX9_unway (fun _ _ => rmX9_unway) [.ref co, .int x, .int f, .int y, .int t] co cap room ns ns wl nf wd kF nF (cond (unwOK ns kF nF yF x f y t) (tglW yF x f y t) yF) WD FL FW TD (.int (unwA ns kF nF yF x f y t)) H0 := by
  obtain ⟨ca, bh, my, lg, mk, mn, ms, xa, xb, xv, xw, mb, gF, BR, wB, dB, no, sl, wS, wR, wP, wV, wW, pR, bF, yB, gB, ks, pF, kn, nt, lp, ll, g1, g2, g3, TT, rfl, hP, hD, hG, hM, hl, hr, hrb, hBR⟩ := hC
  obtain ⟨hcap, hroom⟩ : cap ≤ 65536 ∧ room ≤ 65536 := ⟨hM.2.2.1, hrb⟩
  have hS9 := hN.1; have hW9 := hN.2.1; have hF9 := hN.2.2.1; have hw1 := hN.2.2.2.1; have hw := hN.2.2.2.2.1; have hTD := hN.2.2.2.2.2
  have hwl := hW9.1; have hnf := hF9.1; have hns := hS9.1
  have hga : ∀ i, i < ns → gF i = some (g1 i) := fun i hi => (hG i hi).1
  cases hx : isS ns x with
  | false =>
    rw [show unwOK ns kF nF yF x f y t = false by unfold unwOK okW okQ; rw [hx]; rfl]
    dsimp only [cond]
    refine ⟨cap, room, Nat.le_refl _, Nat.le_refl _, hcap, hroom, ?_⟩
    rw [z3, z327]
    refine Met_or (fun a s h => ?_)
    obtain ⟨ha, hKK, rfl⟩ := h
    exact ⟨_, _, _, cb_X9_unway l K ca bh my lg mk mn ms xa xb xv xw ns wl nf wd room mb cap gF WD FL FW BR TD wB dB no sl wS wR wP wV wW pR bF yB gB ks pF kn lp ll kF nF yF x f y t hx, ⟨ha, hKK, hP⟩, PQ_GQ ⟨rfl, CI_mk rfl hP hD hG hM hl hr hrb hBR⟩, fun q h => h.elim⟩
  | true =>
    obtain ⟨j, hj, rfl⟩ := isS_of (by omega) hx
    obtain ⟨hgj, hGP, hGD, hT, hap, _⟩ := hG j hj
    have hok : unwOK ns kF nF yF (nI j) f y t = true → okW ns kF nF (nI j) f y t = true := fun h => by unfold unwOK at h; exact ((Bool.and_eq_true _ _).mp h).1
    refine ⟨cap, room, Nat.le_refl _, Nat.le_refl _, hcap, hroom, ?_⟩
    rw [z3, z327]
    refine Met_or (fun a s h => ?_)
    obtain ⟨ha, hKK, rfl⟩ := h
    have hA1 := A1_in hGD hA
    exact ⟨_, _, _, cg_X9_unway l K (va_A (GJ K (g1 j) (g2 j) (g3 j) kF nF yF j (TT j)) s.heap.size) s.heap.size ca bh my lg mk mn ms xa xb xv xw ns wl nf wd room mb cap gF WD FL FW BR TD wB dB no sl wS wR wP wV wW pR bF yB gB ks pF kn lp ll kF nF yF j (g1 j) (g2 j) (g3 j) (TT j) f y t hS9 hj hgj hT (fun q h => Or.inr h) hGD.self (XC_out hP hap), ⟨ha, hKK, rfl, hGP, hP⟩, GQ_mono hA1 (fun v H1 hY hF => by
      obtain ⟨hv, T', hT', hP1⟩ := hY
      exact ⟨hv, CI_mk rfl (P_keep hP hF (fun q hq => by
        obtain ⟨k9, e9, h9⟩ := hq
        exact XC_out hP hap k9 (q, e9) h9)) hD (CG_way hS9 hG hj hF (way_E hS9 hj hok) hT' hP1) hM hl hr hrb hBR⟩), hA1⟩
theorem u_X9_set (l : Launch) (K : rr_K) (A : Nat → Prop) {co cap room : Nat} {ns wl nf wd : Nat} {kF nF yF WD FL FW TD : Nat → Nat} (x : Int32) (y : Int32) (hN : NI ns wl nf wd kF nF yF WD FL FW TD) {H0 : Heap} (hA : ∀ q, H0.size ≤ q → A q) (hC : CI K A co cap room ns wl nf wd kF nF yF WD FL FW TD H0) : UX l K A yX9_set wsX9_set (fun _ _ => rmX9_set) [.ref co, .int x, .int y] co cap room ns (cond (setOK ns x y) (ns + 1) ns) wl nf wd (cond (setOK ns x y) (va_up kF ns (cN x)) kF) (cond (setOK ns x y) (va_up nF ns (cN y)) nF) (cond (setOK ns x y) (zrF yF (64 * ns) 64) yF) WD FL FW TD (.int (setA ns x y)) H0 := by
  obtain ⟨ca, bh, my, lg, mk, mn, ms, xa, xb, xv, xw, mb, gF, BR, wB, dB, no, sl, wS, wR, wP, wV, wW, pR, bF, yB, gB, ks, pF, kn, nt, lp, ll, g1, g2, g3, TT, rfl, hP, hD, hG, hM, hl, hr, hrb, hBR⟩ := hC
  obtain ⟨hcap, hroom⟩ : cap ≤ 65536 ∧ room ≤ 65536 := ⟨hM.2.2.1, hrb⟩
  have hS9 := hN.1; have hW9 := hN.2.1; have hF9 := hN.2.2.1; have hw1 := hN.2.2.2.1; have hw := hN.2.2.2.2.1; have hTD := hN.2.2.2.2.2
  have hwl := hW9.1; have hnf := hF9.1; have hns := hS9.1
  have hga : ∀ i, i < ns → gF i = some (g1 i) := fun i hi => (hG i hi).1
  cases hx : setOK ns x y with
  | false =>
    dsimp only [cond]
    refine ⟨cap, room, Nat.le_refl _, Nat.le_refl _, hcap, hroom, ?_⟩
    rw [z3, z327]
    refine Met_or (fun a s h => ?_)
    obtain ⟨ha, hKK, rfl⟩ := h
    exact ⟨_, _, _, cb_X9_set l K ca bh my lg mk mn ms xa xb xv xw ns wl nf wd room mb cap gF WD FL FW BR TD wB dB no sl wS wR wP wV wW pR bF yB gB ks pF kn lp ll x y hns hx, ⟨ha, hKK, hP⟩, PQ_GQ ⟨rfl, CI_mk rfl hP hD hG hM hl hr hrb hBR⟩, fun q h => h.elim⟩
  | true =>
    dsimp only [cond]
    obtain ⟨k1, k2, n1, n2, hn6⟩ := setOK_of hx
    rw [zrF_stE]
    refine ⟨cap, room, Nat.le_refl _, Nat.le_refl _, hcap, hroom, ?_⟩
    rw [z3n, z327n]
    refine Met_or (fun a s h => ?_)
    obtain ⟨ha, hKK, rfl⟩ := h
    have hA1 := A1_in hD hA
    have e0 : ∀ go ge gt, GW K go ge gt (cN x) (cN y) (waysS (cN x) (cN y) (fun _ => 0)) (liveS (cN x) (cN y) (fun _ => 0)) (lwS (cN x) (cN y) (liveS (cN x) (cN y) (fun _ => 0)) (fun _ => 0)) (fun _ => 0) (fun _ => 0) = GW K go ge gt (cN x) (cN y) 0 0 0 (fun _ => 0) (fun _ => 0) := fun go ge gt => by rw [live_0 n1, ways_0, lw_0]
    have hT0 : TInv (cN x) (cN y) (liveS (cN x) (cN y) (fun _ => 0)) (fun _ => 0) (fun _ => 0) := by rw [live_0 n1]; exact TInv_0 _ _
    exact ⟨_, _, _, cg_X9_set l K (va_A (XC K ca bh my lg mk mn ms xa xb xv xw ns wl nf wd room mb cap gF WD FL FW BR TD wB dB no sl wS wR wP wV wW pR bF yB gB ks pF kn lp ll) s.heap.size) s.heap.size ca bh my lg mk mn ms xa xb xv xw ns wl nf wd room mb cap gF WD FL FW BR TD wB dB no sl wS wR wP wV wW pR bF yB gB ks pF kn lp ll x y hns hx (fun q h => Or.inr h) hD.self, ⟨ha, hKK, rfl, hP⟩, GQ_mono hA1 (fun v H1 hY hF => by
      obtain ⟨hv, go, ge, gt, hP1, hD1⟩ := hY
      exact ⟨hv, CI_new (go := go) (ge := ge) (gt := gt) (k := cN x) (n := cN y) (E := fun _ => 0) (T := fun _ => 0) hA hS9 rfl hD hG hF (by rw [e0]; exact hP1) (by rw [e0]; exact hD1) k2 n2 hT0 hM hl hr hrb hBR⟩), hA1⟩
theorem u_X9_byWords (l : Launch) (K : rr_K) (A : Nat → Prop) {co cap room : Nat} {ns wl nf wd : Nat} {kF nF yF WD FL FW TD : Nat → Nat} (x : Int32) (hN : NI ns wl nf wd kF nF yF WD FL FW TD) {H0 : Heap} (hA : ∀ q, H0.size ≤ q → A q) (hC : CI K A co cap room ns wl nf wd kF nF yF WD FL FW TD H0) : UX l K A yX9_byWords wsX9_byWords (fun _ _ => rmX9_byWords) [.ref co, .int x] co cap room ns (cond (bywOK ns nf FL FW x) (ns + 1) ns) wl nf wd (cond (bywOK ns nf FL FW x) (va_up kF ns (cN x)) kF) (cond (bywOK ns nf FL FW x) (va_up nF ns (bywN nf FL x)) nF) (cond (bywOK ns nf FL FW x) (stE yF (64 * ns) (bywE nf FL FW x)) yF) WD FL FW TD (.int (bywA ns nf FL FW x)) H0 := by
  obtain ⟨ca, bh, my, lg, mk, mn, ms, xa, xb, xv, xw, mb, gF, BR, wB, dB, no, sl, wS, wR, wP, wV, wW, pR, bF, yB, gB, ks, pF, kn, nt, lp, ll, g1, g2, g3, TT, rfl, hP, hD, hG, hM, hl, hr, hrb, hBR⟩ := hC
  obtain ⟨hcap, hroom⟩ : cap ≤ 65536 ∧ room ≤ 65536 := ⟨hM.2.2.1, hrb⟩
  have hS9 := hN.1; have hW9 := hN.2.1; have hF9 := hN.2.2.1; have hw1 := hN.2.2.2.1; have hw := hN.2.2.2.2.1; have hTD := hN.2.2.2.2.2
  have hwl := hW9.1; have hnf := hF9.1; have hns := hS9.1
  have hga : ∀ i, i < ns → gF i = some (g1 i) := fun i hi => (hG i hi).1
  cases hx : bywOK ns nf FL FW x with
  | false =>
    dsimp only [cond]
    refine ⟨cap, room, Nat.le_refl _, Nat.le_refl _, hcap, hroom, ?_⟩
    rw [z3, z327]
    refine Met_or (fun a s h => ?_)
    obtain ⟨ha, hKK, rfl⟩ := h
    exact ⟨_, _, _, cb_X9_byWords l K ca bh my lg mk mn ms xa xb xv xw ns wl nf wd room mb cap gF WD FL FW BR TD wB dB no sl wS wR wP wV wW pR bF yB gB ks pF kn lp ll x hns hF9 hx, ⟨ha, hKK, hP⟩, PQ_GQ ⟨rfl, CI_mk rfl hP hD hG hM hl hr hrb hBR⟩, fun q h => h.elim⟩
  | true =>
    dsimp only [cond]
    obtain ⟨k1, k2, n1, n2, hn6⟩ := bywOK_of hx
    refine ⟨cap, room, Nat.le_refl _, Nat.le_refl _, hcap, hroom, ?_⟩
    rw [z3n, z327n]
    refine Met_or (fun a s h => ?_)
    obtain ⟨ha, hKK, rfl⟩ := h
    have hA1 := A1_in hD hA
    exact ⟨_, _, _, cg_X9_byWords l K (va_A (XC K ca bh my lg mk mn ms xa xb xv xw ns wl nf wd room mb cap gF WD FL FW BR TD wB dB no sl wS wR wP wV wW pR bF yB gB ks pF kn lp ll) s.heap.size) s.heap.size ca bh my lg mk mn ms xa xb xv xw ns wl nf wd room mb cap gF WD FL FW BR TD wB dB no sl wS wR wP wV wW pR bF yB gB ks pF kn lp ll x hns hF9 hBR hx (fun q h => Or.inr h) hD.self, ⟨ha, hKK, rfl, hP⟩, GQ_mono hA1 (fun v H1 hY hF => by
      obtain ⟨hv, go, ge, gt, T', BR', hBR', hT', hP1, hD1⟩ := hY
      exact ⟨hv, CI_new hA hS9 rfl hD hG hF hP1 hD1 k2 n2 hT' hM hl hr hrb hBR'⟩), hA1⟩
theorem u_X9_howMany (l : Launch) (K : rr_K) (A : Nat → Prop) {co cap room : Nat} {ns wl nf wd : Nat} {kF nF yF WD FL FW TD : Nat → Nat} (x : Int32) (y : Int32) (hN : NI ns wl nf wd kF nF yF WD FL FW TD) {H0 : Heap} (hA : ∀ q, H0.size ≤ q → A q) (hC : CI K A co cap room ns wl nf wd kF nF yF WD FL FW TD H0) : UX l K A yX9_howMany wsX9_howMany rmX9_howMany [.ref co, .int x, .int y] co cap room ns ns wl nf wd kF nF yF WD FL FW TD (.long (hwmA ns kF nF yF x y)) H0 := by
  obtain ⟨ca, bh, my, lg, mk, mn, ms, xa, xb, xv, xw, mb, gF, BR, wB, dB, no, sl, wS, wR, wP, wV, wW, pR, bF, yB, gB, ks, pF, kn, nt, lp, ll, g1, g2, g3, TT, rfl, hP, hD, hG, hM, hl, hr, hrb, hBR⟩ := hC
  obtain ⟨hcap, hroom⟩ : cap ≤ 65536 ∧ room ≤ 65536 := ⟨hM.2.2.1, hrb⟩
  have hS9 := hN.1; have hW9 := hN.2.1; have hF9 := hN.2.2.1; have hw1 := hN.2.2.2.1; have hw := hN.2.2.2.2.1; have hTD := hN.2.2.2.2.2
  have hwl := hW9.1; have hnf := hF9.1; have hns := hS9.1
  have hga : ∀ i, i < ns → gF i = some (g1 i) := fun i hi => (hG i hi).1
  cases hx : isS ns x with
  | false =>
    refine ⟨cap, room, Nat.le_refl _, Nat.le_refl _, hcap, hroom, ?_⟩
    rw [z3, z327]
    refine Met_or (fun a s h => ?_)
    obtain ⟨ha, hKK, rfl⟩ := h
    exact ⟨_, _, _, cb_X9_howMany l K ca bh my lg mk mn ms xa xb xv xw ns wl nf wd room mb cap gF WD FL FW BR TD wB dB no sl wS wR wP wV wW pR bF yB gB ks pF kn lp ll kF nF yF x y hx, ⟨ha, hKK, hP⟩, PQ_GQ ⟨rfl, CI_mk rfl hP hD hG hM hl hr hrb hBR⟩, fun q h => h.elim⟩
  | true =>
    obtain ⟨j, hj, rfl⟩ := isS_of (by omega) hx
    obtain ⟨hgj, hGP, hGD, hT, hap, _⟩ := hG j hj
    obtain ⟨_, _, _, n16, _⟩ := hS9.2 j hj
    cases hy : rrin y (nI 0) (nI 24) with
    | false =>
      refine ⟨cap, room, Nat.le_refl _, Nat.le_refl _, hcap, hroom, ?_⟩
      rw [z3, z327]
      refine Met_or (fun a s h => ?_)
      obtain ⟨ha, hKK, rfl⟩ := h
      exact ⟨_, _, _, cn_X9_howMany l K ca bh my lg mk mn ms xa xb xv xw ns wl nf wd room mb cap gF WD FL FW BR TD wB dB no sl wS wR wP wV wW pR bF yB gB ks pF kn lp ll kF nF yF j (g1 j) y hj hns hgj hy, ⟨ha, hKK, hP⟩, PQ_GQ ⟨rfl, CI_mk rfl hP hD hG hM hl hr hrb hBR⟩, fun q h => h.elim⟩
    | true =>
      obtain ⟨b, _, hb2, rfl⟩ := rrin_nat (by decide) hy (by decide)
      have hlv : (liveS (kF j) (nF j) (Es yF j)) < 65536 := liveS_lt16 n16
      have hz : KZ (stF (ldS (kF j) (nF j) (Es yF j) (liveS (kF j) (nF j) (Es yF j))) (kF j) (liveS (kF j) (nF j) (Es yF j)) cap b) := stF_KZ hlv (fun a9 b9 => Nat.lt_of_le_of_lt (sub_le (ldS_sub _ _ _ _ _ _)) hlv) (PW_of hM)
      have hrm : P2 (stRm (ldS (kF j) (nF j) (Es yF j) (liveS (kF j) (nF j) (Es yF j))) (kF j) (liveS (kF j) (nF j) (Es yF j)) cap b room) := stRm_PW hz ⟨hr, hrb⟩
      refine ⟨(stF (ldS (kF j) (nF j) (Es yF j) (liveS (kF j) (nF j) (Es yF j))) (kF j) (liveS (kF j) (nF j) (Es yF j)) cap b).2, stRm (ldS (kF j) (nF j) (Es yF j) (liveS (kF j) (nF j) (Es yF j))) (kF j) (liveS (kF j) (nF j) (Es yF j)) cap b room, stF_cap _ _ _ _ _, stRm_ge _ _ _ _ _ _, hz.2.2.2, hrm.2, ?_⟩
      rw [z3b, z327b]
      refine Met_or (fun a s h => ?_)
      obtain ⟨ha, hKK, rfl⟩ := h
      have hA1 := A1_in hD hA
      exact ⟨_, _, _, cg_X9_howMany l K (va_A (XC K ca bh my lg mk mn ms xa xb xv xw ns wl nf wd room mb cap gF WD FL FW BR TD wB dB no sl wS wR wP wV wW pR bF yB gB ks pF kn lp ll) s.heap.size) s.heap.size ca bh my lg mk mn ms xa xb xv xw ns wl nf wd room mb cap gF WD FL FW BR TD wB dB no sl wS wR wP wV wW pR bF yB gB ks pF kn lp ll kF nF yF j (g1 j) (g2 j) (g3 j) (TT j) b nt hS9 hj hgj hT hb2 hM hr hrb (fun q h => Or.inr h) hD.self (GJ_out hGP hap), ⟨ha, hKK, rfl, hP, hGP⟩, GQ_mono hA1 (fun v H1 hY hF => by
        obtain ⟨hv, bh', my', lg', bF', yB', gB', mk', mn', ms', mb', ks', no', sl', nt', hM1, hP1, hD1⟩ := hY
        exact ⟨hv, CI_upd hA1 hG rfl hF hP1 hD1 hM1 hz.len hrm.1 hrm.2 hBR⟩), hA1⟩
theorem u_X9_same (l : Launch) (K : rr_K) (A : Nat → Prop) {co cap room : Nat} {ns wl nf wd : Nat} {kF nF yF WD FL FW TD : Nat → Nat} (x : Int32) (y : Int32) (hN : NI ns wl nf wd kF nF yF WD FL FW TD) {H0 : Heap} (hA : ∀ q, H0.size ≤ q → A q) (hC : CI K A co cap room ns wl nf wd kF nF yF WD FL FW TD H0) : UX l K A yX9_same wsX9_same rmX9_same [.ref co, .int x, .int y] co cap room ns ns (samL ns kF nF yF x y wl) nf wd kF nF yF (samW ns kF nF yF x y WD) FL FW TD (.int (samA ns kF nF yF x y)) H0 := by
  obtain ⟨ca, bh, my, lg, mk, mn, ms, xa, xb, xv, xw, mb, gF, BR, wB, dB, no, sl, wS, wR, wP, wV, wW, pR, bF, yB, gB, ks, pF, kn, nt, lp, ll, g1, g2, g3, TT, rfl, hP, hD, hG, hM, hl, hr, hrb, hBR⟩ := hC
  obtain ⟨hcap, hroom⟩ : cap ≤ 65536 ∧ room ≤ 65536 := ⟨hM.2.2.1, hrb⟩
  have hS9 := hN.1; have hW9 := hN.2.1; have hF9 := hN.2.2.1; have hw1 := hN.2.2.2.1; have hw := hN.2.2.2.2.1; have hTD := hN.2.2.2.2.2
  have hwl := hW9.1; have hnf := hF9.1; have hns := hS9.1
  have hga : ∀ i, i < ns → gF i = some (g1 i) := fun i hi => (hG i hi).1
  cases hx : isS ns x with
  | false =>
    have hsm : ¬ smOK ns kF x y = true := by unfold smOK; rw [hx]; simp
    rw [show samL ns kF nF yF x y wl = wl from if_neg hsm, show samW ns kF nF yF x y WD = WD from if_neg hsm]
    cases hy : isS ns y with
    | false =>
      refine ⟨cap, room, Nat.le_refl _, Nat.le_refl _, hcap, hroom, ?_⟩
      rw [z3, z327]
      refine Met_or (fun a s h => ?_)
      obtain ⟨ha, hKK, rfl⟩ := h
      exact ⟨_, _, _, cb1_X9_same l K ca bh my lg mk mn ms xa xb xv xw ns wl nf wd room mb cap gF WD FL FW BR TD wB dB no sl wS wR wP wV wW pR bF yB gB ks pF kn lp ll kF nF yF x y hx hy, ⟨ha, hKK, hP⟩, PQ_GQ ⟨rfl, CI_mk rfl hP hD hG hM hl hr hrb hBR⟩, fun q h => h.elim⟩
    | true =>
      obtain ⟨j, hj, rfl⟩ := isS_of (by omega) hy
      obtain ⟨hgj, _⟩ := hG j hj
      refine ⟨cap, room, Nat.le_refl _, Nat.le_refl _, hcap, hroom, ?_⟩
      rw [z3, z327]
      refine Met_or (fun a s h => ?_)
      obtain ⟨ha, hKK, rfl⟩ := h
      exact ⟨_, _, _, cb2_X9_same l K ca bh my lg mk mn ms xa xb xv xw ns wl nf wd room mb cap gF WD FL FW BR TD wB dB no sl wS wR wP wV wW pR bF yB gB ks pF kn lp ll kF nF yF x j (g1 j) hx hns hj hgj, ⟨ha, hKK, hP⟩, PQ_GQ ⟨rfl, CI_mk rfl hP hD hG hM hl hr hrb hBR⟩, fun q h => h.elim⟩
  | true =>
    obtain ⟨j, hj, rfl⟩ := isS_of (by omega) hx
    obtain ⟨hgj, hGP, hGD, hT, hap, _⟩ := hG j hj
    obtain ⟨_, _, _, n16, _⟩ := hS9.2 j hj
    cases hy : isS ns y with
    | false =>
      have hsm : ¬ smOK ns kF (nI j) y = true := by unfold smOK; rw [hy]; simp
      rw [show samL ns kF nF yF (nI j) y wl = wl from if_neg hsm, show samW ns kF nF yF (nI j) y WD = WD from if_neg hsm]
      refine ⟨cap, room, Nat.le_refl _, Nat.le_refl _, hcap, hroom, ?_⟩
      rw [z3, z327]
      refine Met_or (fun a s h => ?_)
      obtain ⟨ha, hKK, rfl⟩ := h
      exact ⟨_, _, _, cb3_X9_same l K ca bh my lg mk mn ms xa xb xv xw ns wl nf wd room mb cap gF WD FL FW BR TD wB dB no sl wS wR wP wV wW pR bF yB gB ks pF kn lp ll kF nF yF y j (g1 j) hy hns hj hgj, ⟨ha, hKK, hP⟩, PQ_GQ ⟨rfl, CI_mk rfl hP hD hG hM hl hr hrb hBR⟩, fun q h => h.elim⟩
    | true =>
      obtain ⟨g, hj2, rfl⟩ := isS_of (by omega) hy
      obtain ⟨hgj2, hGP2, hGD2, hT2, hap2, _⟩ := hG g hj2
      by_cases hkk : kF j = kF g
      case neg =>
        have hsm : ¬ smOK ns kF (nI j) (nI g) = true := by
          intro h9
          unfold smOK at h9
          rw [Bool.and_eq_true] at h9
          have h8 := of_decide_eq_true h9.2
          rw [cN_nI (by omega), cN_nI (by omega)] at h8
          exact hkk h8
        rw [show samL ns kF nF yF (nI j) (nI g) wl = wl from if_neg hsm, show samW ns kF nF yF (nI j) (nI g) WD = WD from if_neg hsm]
        refine ⟨cap, room, Nat.le_refl _, Nat.le_refl _, hcap, hroom, ?_⟩
        rw [z3, z327]
        refine Met_or (fun a s h => ?_)
        obtain ⟨ha, hKK, rfl⟩ := h
        exact ⟨_, _, _, cn_X9_same l K ca bh my lg mk mn ms xa xb xv xw ns wl nf wd room mb cap gF WD FL FW BR TD wB dB no sl wS wR wP wV wW pR bF yB gB ks pF kn lp ll kF nF yF j (g1 j) (g2 j) (g3 j) (TT j) g (g1 g) (g2 g) (g3 g) (TT g) hS9 hj hgj hT hj2 hgj2 hT2 hkk, ⟨ha, hKK, hP, hGP, hGP2⟩, PQ_GQ ⟨rfl, CI_mk rfl hP hD hG hM hl hr hrb hBR⟩, fun q h => h.elim⟩
      case pos =>
        have hpw : P2 ((skP (kF j) (nF j) (nF g) (Es yF j) (Es yF g) (liveS (kF j) (nF j) (Es yF j)) (liveS (kF g) (nF g) (Es yF g)) cap).2.2.2) := skP_PW (PW_of hM)
        refine ⟨(skP (kF j) (nF j) (nF g) (Es yF j) (Es yF g) (liveS (kF j) (nF j) (Es yF j)) (liveS (kF g) (nF g) (Es yF g)) cap).2.2.2, room, skP_cap _ _ _ _ _ _ _ _, Nat.le_refl _, hpw.2, hroom, ?_⟩
        rw [z3a, z327a]
        refine Met_or (fun a s h => ?_)
        obtain ⟨ha, hKK, rfl⟩ := h
        have hA1 := A1_in hD hA
        exact ⟨_, _, _, cg_X9_same l K (va_A (XC K ca bh my lg mk mn ms xa xb xv xw ns wl nf wd room mb cap gF WD FL FW BR TD wB dB no sl wS wR wP wV wW pR bF yB gB ks pF kn lp ll) s.heap.size) s.heap.size ca bh my lg mk mn ms xa xb xv xw ns wl nf wd room mb cap gF WD FL FW BR TD wB dB no sl wS wR wP wV wW pR bF yB gB ks pF kn lp ll kF nF yF j (g1 j) (g2 j) (g3 j) (TT j) g (g1 g) (g2 g) (g3 g) (TT g) nt hS9 hj hgj hT hj2 hgj2 hT2 hkk hM hl (fun q h => Or.inr h) hD.self (GJ_out hGP hap) (GJ_out hGP2 hap2), ⟨ha, hKK, rfl, hP, hGP, hGP2⟩, GQ_mono hA1 (fun v H1 hY hF => by
          obtain ⟨hv, mk', mn', ms', mb', ks', no', sl', lp', ll', hM1, hP1, hD1⟩ := hY
          exact ⟨hv, CI_upd hA1 hG rfl hF hP1 hD1 hM1 (by have := skP_len (kF j) (nF j) (nF g) (Es yF j) (Es yF g) (liveS (kF j) (nF j) (Es yF j)) (liveS (kF g) (nF g) (Es yF g)) cap; omega) hr hrb hBR⟩), hA1⟩
theorem u_X9_maps (l : Launch) (K : rr_K) (A : Nat → Prop) {co cap room : Nat} {ns wl nf wd : Nat} {kF nF yF WD FL FW TD : Nat → Nat} (x : Int32) (y : Int32) (hN : NI ns wl nf wd kF nF yF WD FL FW TD) {H0 : Heap} (hA : ∀ q, H0.size ≤ q → A q) (hC : CI K A co cap room ns wl nf wd kF nF yF WD FL FW TD H0) : UX l K A yX9_maps wsX9_maps rmX9_maps [.ref co, .int x, .int y] co cap room ns ns wl nf wd kF nF yF WD FL FW TD (.int (mapA ns kF nF yF wd TD x y)) H0 := by
  obtain ⟨ca, bh, my, lg, mk, mn, ms, xa, xb, xv, xw, mb, gF, BR, wB, dB, no, sl, wS, wR, wP, wV, wW, pR, bF, yB, gB, ks, pF, kn, nt, lp, ll, g1, g2, g3, TT, rfl, hP, hD, hG, hM, hl, hr, hrb, hBR⟩ := hC
  obtain ⟨hcap, hroom⟩ : cap ≤ 65536 ∧ room ≤ 65536 := ⟨hM.2.2.1, hrb⟩
  have hS9 := hN.1; have hW9 := hN.2.1; have hF9 := hN.2.2.1; have hw1 := hN.2.2.2.1; have hw := hN.2.2.2.2.1; have hTD := hN.2.2.2.2.2
  have hwl := hW9.1; have hnf := hF9.1; have hns := hS9.1
  have hga : ∀ i, i < ns → gF i = some (g1 i) := fun i hi => (hG i hi).1
  cases hx : isS ns x with
  | false =>
    cases hy : isS ns y with
    | false =>
      refine ⟨cap, room, Nat.le_refl _, Nat.le_refl _, hcap, hroom, ?_⟩
      rw [z3, z327]
      refine Met_or (fun a s h => ?_)
      obtain ⟨ha, hKK, rfl⟩ := h
      exact ⟨_, _, _, cb1_X9_maps l K ca bh my lg mk mn ms xa xb xv xw ns wl nf wd room mb cap gF WD FL FW BR TD wB dB no sl wS wR wP wV wW pR bF yB gB ks pF kn lp ll kF nF yF x y hx hy, ⟨ha, hKK, hP⟩, PQ_GQ ⟨rfl, CI_mk rfl hP hD hG hM hl hr hrb hBR⟩, fun q h => h.elim⟩
    | true =>
      obtain ⟨j, hj, rfl⟩ := isS_of (by omega) hy
      obtain ⟨hgj, _⟩ := hG j hj
      refine ⟨cap, room, Nat.le_refl _, Nat.le_refl _, hcap, hroom, ?_⟩
      rw [z3, z327]
      refine Met_or (fun a s h => ?_)
      obtain ⟨ha, hKK, rfl⟩ := h
      exact ⟨_, _, _, cb2_X9_maps l K ca bh my lg mk mn ms xa xb xv xw ns wl nf wd room mb cap gF WD FL FW BR TD wB dB no sl wS wR wP wV wW pR bF yB gB ks pF kn lp ll kF nF yF x j (g1 j) hx hns hj hgj, ⟨ha, hKK, hP⟩, PQ_GQ ⟨rfl, CI_mk rfl hP hD hG hM hl hr hrb hBR⟩, fun q h => h.elim⟩
  | true =>
    obtain ⟨j, hj, rfl⟩ := isS_of (by omega) hx
    obtain ⟨hgj, hGP, hGD, hT, hap, _⟩ := hG j hj
    obtain ⟨_, _, _, n16, _⟩ := hS9.2 j hj
    cases hy : isS ns y with
    | false =>
      refine ⟨cap, room, Nat.le_refl _, Nat.le_refl _, hcap, hroom, ?_⟩
      rw [z3, z327]
      refine Met_or (fun a s h => ?_)
      obtain ⟨ha, hKK, rfl⟩ := h
      exact ⟨_, _, _, cb3_X9_maps l K ca bh my lg mk mn ms xa xb xv xw ns wl nf wd room mb cap gF WD FL FW BR TD wB dB no sl wS wR wP wV wW pR bF yB gB ks pF kn lp ll kF nF yF y j (g1 j) hy hns hj hgj, ⟨ha, hKK, hP⟩, PQ_GQ ⟨rfl, CI_mk rfl hP hD hG hM hl hr hrb hBR⟩, fun q h => h.elim⟩
    | true =>
      obtain ⟨g, hj2, rfl⟩ := isS_of (by omega) hy
      obtain ⟨hgj2, hGP2, hGD2, hT2, hap2, _⟩ := hG g hj2
      have hpw : P2 ((skM (kF j) (nF j) (Es yF j) (liveS (kF j) (nF j) (Es yF j)) wd TD (kF g) (nF g) (Es yF g) (liveS (kF g) (nF g) (Es yF g)) cap).2.2) := skM_PW (PW_of hM)
      refine ⟨(skM (kF j) (nF j) (Es yF j) (liveS (kF j) (nF j) (Es yF j)) wd TD (kF g) (nF g) (Es yF g) (liveS (kF g) (nF g) (Es yF g)) cap).2.2, room, skM_cap _ _ _ _ _ _ _ _ _ _ _, Nat.le_refl _, hpw.2, hroom, ?_⟩
      rw [z3a, z327a]
      refine Met_or (fun a s h => ?_)
      obtain ⟨ha, hKK, rfl⟩ := h
      have hA1 := A1_in hD hA
      exact ⟨_, _, _, cg_X9_maps l K (va_A (XC K ca bh my lg mk mn ms xa xb xv xw ns wl nf wd room mb cap gF WD FL FW BR TD wB dB no sl wS wR wP wV wW pR bF yB gB ks pF kn lp ll) s.heap.size) s.heap.size ca bh my lg mk mn ms xa xb xv xw ns wl nf wd room mb cap gF WD FL FW BR TD wB dB no sl wS wR wP wV wW pR bF yB gB ks pF kn lp ll kF nF yF j (g1 j) (g2 j) (g3 j) (TT j) g (g1 g) (g2 g) (g3 g) (TT g) nt hS9 hj hgj hT hj2 hgj2 hT2 hM hw1 hw hTD (fun q h => Or.inr h) hD.self (GJ_out hGP hap) (GJ_out hGP2 hap2), ⟨ha, hKK, rfl, hP, hGP, hGP2⟩, GQ_mono hA1 (fun v H1 hY hF => by
        obtain ⟨hv, mk', mn', ms', mb', ks', no', sl', nt', hM1, hP1, hD1⟩ := hY
        exact ⟨hv, CI_upd hA1 hG rfl hF hP1 hD1 hM1 (by have := skM_len (kF j) (nF j) (Es yF j) (liveS (kF j) (nF j) (Es yF j)) wd TD (kF g) (nF g) (Es yF g) (liveS (kF g) (nF g) (Es yF g)) cap; omega) hr hrb hBR⟩), hA1⟩
end
