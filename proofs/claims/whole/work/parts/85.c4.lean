abbrev rmX9_way : Room := { frames := 5, cells := 0, slots := 0, locals := 114 }
set_option maxHeartbeats 4000000 in
set_option maxRecDepth 100000 in
theorem cb_X9_way (l : Launch) (K : rr_K) (ca : Nat → Nat) (bh my lg mk mn ms xa xb xv xw ns wl nf wd room mb cap : Nat) (gF : Nat → Option Nat) (WD FL FW BR TD wB dB no sl wS wR wP wV wW pR : Nat → Nat) (bF : Nat → Int32) (yB gB : Nat → Int64) (ks pF : Nat → Int32) (kn : List Nat) (lp ll : Int32) (kF nF yF : Nat → Nat) (x f y t : Int32) (hb9 : isS ns x = false) : MetP l K yX9_way wsX9_way rmX9_way [.ref (ca 0), .int x, .int f, .int y, .int t] (fun H => va_P K.1 vwCl (XC K ca bh my lg mk mn ms xa xb xv xw ns wl nf wd room mb cap gF WD FL FW BR TD wB dB no sl wS wR wP wV wW pR bF yB gB ks pF kn lp ll) H) (.int (wayA ns kF nF yF x f y t)) := by
  refine metP_of (cc := cX9_way) (maxL := 6) (ret := (some .int)) (rt := .int) (by decide) rfl rfl (Nat.le_of_ble_eq_true rfl) ?_
  intro p e s m args below meth c Q ls hEnt hKK hX hret hl
  obtain ⟨hx, hb, hml, hown, hts⟩ := hEnt
  have hP : va_P K.1 vwCl (XC K ca bh my lg mk mn ms xa xb xv xw ns wl nf wd room mb cap gF WD FL FW BR TD wB dB no sl wS wR wP wV wW pR bF yB gB ks pF kn lp ll) s.heap := hX
  have hl : lv_has ls 6 [(0, .ref (ca 0)), (1, .int x), (2, .int f), (3, .int y), (4, .int t)] := hl
  refine lv_aload_n hx hb (pc := 0) dX9_way_0 rfl (lv_at hl 0 rfl) ?_
  refine lv_iload_n hx hb (pc := 1) dX9_way_1 rfl (lv_at hl 1 rfl) ?_
  refine rr_callP (rv := .null) (pc := 2) (va_runV (As := [.int x]) (rest := []) ⟨hx, hb, hml, hown, hts⟩ (cb_X9_graphAt l K ca bh my lg mk mn ms xa xb xv xw ns wl nf wd room mb cap gF WD FL FW BR TD wB dB no sl wS wR wP wV wW pR bF yB gB ks pF kn lp ll x hb9) (cwV 1 hts gX9_way_X9_graphAt rfl rfl rfl (by decide +kernel) ⟨Nat.le_of_ble_eq_true rfl, Nat.le_of_ble_eq_true rfl⟩) (rr_preV hKK (hP) (va_recv hKK.1 hP (ci := 9) (q0 := 0) rfl rfl)) rfl rfl hl.1 rfl (lv_room (Nat.le_of_ble_eq_true rfl)) dX9_way_2 ⟨Nat.le_refl _, Nat.le_refl _⟩) ?_
  refine lv_astoreN (lv' := [(5, .null), (0, .ref (ca 0)), (1, .int x), (2, .int f), (3, .int y), (4, .int t)]) hx hb (pc := 5) dX9_way_5 hl (by decide) rfl (fun ls hl => ?_)
  refine lv_aloadN hx hb (pc := 7) dX9_way_7 (lv_at hl 0 rfl) ?_
  refine lv_ifnullN (tgt := 24) hx hb (pc := 9) dX9_way_9 (by decide) ?_
  refine lv_bipush (v := -2) hx hb (pc := 24) dX9_way_24 (by decide) ?_
  have hb8 : okW ns kF nF x f y t = false := by unfold okW okQ; rw [hb9]; rfl
  exact hret.1 26 _ (-2) dX9_way_26 (by unfold wayA; rw [if_neg (by rw [hb8]; decide)]) (rfl)

set_option maxHeartbeats 4000000 in
set_option maxRecDepth 100000 in
theorem cg_X9_way (l : Launch) (K : rr_K) (A : Nat → Prop) (sz : Nat) (ca : Nat → Nat) (bh my lg mk mn ms xa xb xv xw ns wl nf wd room mb cap : Nat) (gF : Nat → Option Nat) (WD FL FW BR TD wB dB no sl wS wR wP wV wW pR : Nat → Nat) (bF : Nat → Int32) (yB gB : Nat → Int64) (ks pF : Nat → Int32) (kn : List Nat) (lp ll : Int32) (kF nF yF : Nat → Nat) (j go ge gt : Nat) (T : Nat → Nat) (f y t : Int32) (hS9 : SOK ns kF nF yF) (hj : j < ns) (hgj : gF j = some go) (hT : TJ kF nF yF j T) (hA : ∀ q, sz ≤ q → A q) (hD : va_D A (GJ K go ge gt kF nF yF j T)) (hCA : ∀ (k_ : Nat) (q_ : Nat × va_E), (XC K ca bh my lg mk mn ms xa xb xv xw ns wl nf wd room mb cap gF WD FL FW BR TD wB dB no sl wS wR wP wV wW pR bF yB gB ks pF kn lp ll)[k_]? = some q_ → ¬ A q_.1) : MetR l K yX9_way wsX9_way rmX9_way [.ref (ca 0), .int (nI j), .int f, .int y, .int t] (fun H => H.size = sz ∧ va_P K.1 vwCl (GJ K go ge gt kF nF yF j T) H ∧ va_P K.1 vwCl (XC K ca bh my lg mk mn ms xa xb xv xw ns wl nf wd room mb cap gF WD FL FW BR TD wB dB no sl wS wR wP wV wW pR bF yB gB ks pF kn lp ll) H) A (fun v H => v = .int (wayA ns kF nF yF (nI j) f y t) ∧ ∃ T', TJ kF nF (cond (wayOK ns kF nF yF (nI j) f y t) (tglW yF (nI j) f y t) yF) j T' ∧ va_P K.1 vwCl (GJ K go ge gt kF nF (cond (wayOK ns kF nF yF (nI j) f y t) (tglW yF (nI j) f y t) yF) j T') H) 0 0 := by
  refine metR_of (cc := cX9_way) (maxL := 6) (ret := (some .int)) (rt := .int) (by decide) rfl rfl rfl rfl (Nat.le_of_ble_eq_true rfl) ?_
  intro p e s m args below meth c Q ls hEnt hKK hX hret hl
  obtain ⟨hx, hb, hml, hown, hts⟩ := hEnt
  obtain ⟨hsz0, hX⟩ := hX
  have hA : ∀ q, s.heap.size ≤ q → A q := fun q h => hA q (hsz0 ▸ h)
  obtain ⟨hP, hC⟩ := hX
  have hP : va_P K.1 vwCl (GJ K go ge gt kF nF yF j T) s.heap := hP
  have hC : va_P K.1 vwCl (XC K ca bh my lg mk mn ms xa xb xv xw ns wl nf wd room mb cap gF WD FL FW BR TD wB dB no sl wS wR wP wV wW pR bF yB gB ks pF kn lp ll) s.heap := hC
  have hl : lv_has ls 6 [(0, .ref (ca 0)), (1, .int (nI j)), (2, .int f), (3, .int y), (4, .int t)] := hl
  have hS : va_S A s.heap s.heap [] := va_S.rf
  have hns := hS9.1
  obtain ⟨s1j, s2j, s3j, s4j, s5j⟩ := hS9.2 j hj
  have hlvj := liveS_lt16 (k := kF j) (E := Es yF j) s4j
  have hlwj := liveS_lt (kF j) (nF j) (Es yF j)
  have ecj : cN (nI j) = j := cN_nI (by omega)
  have hsj : isS ns (nI j) = true := isS_j hj (by omega)
  refine lv_aload_n hx hb (pc := 0) dX9_way_0 rfl (lv_at hl 0 rfl) ?_
  refine lv_iload_n hx hb (pc := 1) dX9_way_1 rfl (lv_at hl 1 rfl) ?_
  refine rr_callP (rv := .ref go) (pc := 2) (va_runV (As := [.int (nI j)]) (rest := []) ⟨hx, hb, hml, hown, hts⟩ (cg_X9_graphAt l K ca bh my lg mk mn ms xa xb xv xw ns wl nf wd room mb cap gF WD FL FW BR TD wB dB no sl wS wR wP wV wW pR bF yB gB ks pF kn lp ll j go hj hS9.1 hgj) (cwV 1 hts gX9_way_X9_graphAt rfl rfl rfl (by decide +kernel) ⟨Nat.le_of_ble_eq_true rfl, Nat.le_of_ble_eq_true rfl⟩) (rr_preV hKK ((rr_ro (A := A) hC hCA hS)) (va_recv hKK.1 (rr_ro (A := A) hC hCA hS) (ci := 9) (q0 := 0) rfl rfl)) rfl rfl hl.1 rfl (lv_room (Nat.le_of_ble_eq_true rfl)) dX9_way_2 ⟨Nat.le_refl _, Nat.le_refl _⟩) ?_
  refine lv_astore (lv' := [(5, .ref go), (0, .ref (ca 0)), (1, .int (nI j)), (2, .int f), (3, .int y), (4, .int t)]) hx hb (pc := 5) dX9_way_5 hl (by decide) rfl (fun ls hl => ?_)
  refine lv_aload hx hb (pc := 7) dX9_way_7 (lv_at hl 0 rfl) ?_
  refine lv_ifnull hx hb (pc := 9) dX9_way_9 ?_
  refine lv_aload hx hb (pc := 12) dX9_way_12 (lv_at hl 0 rfl) ?_
  refine lv_iload_n hx hb (pc := 14) dX9_way_14 rfl (lv_at hl 3 rfl) ?_
  refine lv_iload_n hx hb (pc := 15) dX9_way_15 rfl (lv_at hl 4 rfl) ?_
  refine lv_iload hx hb (pc := 16) dX9_way_16 (lv_at hl 5 rfl) ?_
  refine rr_callP (rv := .int (bI (rrin f (nI 0) (nI (nF j - 1)) && (rrin y (nI 0) (nI (kF j - 1)) && rrin t (nI 0) (nI (nF j - 1)))))) (pc := 18) (va_runV (As := [.int f, .int y, .int t]) (rest := []) ⟨hx, hb, hml, hown, hts⟩ (c_X1_hasWayNumbers l K go ge gt (kF j) (nF j) (waysS (kF j) (nF j) (Es yF j)) (liveS (kF j) (nF j) (Es yF j)) (lwS (kF j) (nF j) (liveS (kF j) (nF j) (Es yF j)) (Es yF j)) (Es yF j) T f y t (by omega) (by omega)) (cwV 3 hts gX9_way_X1_hasWayNumbers rfl rfl rfl (by decide +kernel) ⟨Nat.le_of_ble_eq_true rfl, Nat.le_of_ble_eq_true rfl⟩) (rr_preV hKK (hP) (va_recv hKK.1 hP (ci := 1) (q0 := 0) rfl rfl)) rfl rfl hl.1 rfl (lv_room (Nat.le_of_ble_eq_true rfl)) dX9_way_18 ⟨Nat.le_refl _, Nat.le_refl _⟩) ?_
  refine nv_if_ne_b (a := (rrin f (nI 0) (nI (nF j - 1)) && (rrin y (nI 0) (nI (kF j - 1)) && rrin t (nI 0) (nI (nF j - 1))))) (tgt := 27) hx hb (pc := 21) dX9_way_21 (by decide) (fun c21 => ?_) (fun c21 => ?_)
  · rw [okW_has hS9 hj] at c21
    obtain ⟨j2, f9, y9, t9, hx9, rfl, rfl, rfl, hj9, hf9, hy9, ht9⟩ := okW_of hS9 c21
    obtain rfl : j = j2 := nI_inj (by omega) (by omega) hx9
    have hix : f9 * 4 + y9 < 64 := by omega
    have hbt := bit_tgl (yF := yF) (j := j) (f := f9) (y := y9) (t := t9) (by omega) (by omega) (by omega) (by omega)
    have hwt := ways_tgl (E := Es yF j) s2j hf9 hy9 (show t9 < 16 by omega)
    have hEt := Es_tgl (yF := yF) (j := j) (f := f9) (y := y9) (t := t9) (by omega) (by omega) (by omega) (by omega) hix
    refine lv_aload hx hb (pc := 27) dX9_way_27 (lv_at hl 0 rfl) ?_
    refine lv_iload_n hx hb (pc := 29) dX9_way_29 rfl (lv_at hl 3 rfl) ?_
    refine lv_iload_n hx hb (pc := 30) dX9_way_30 rfl (lv_at hl 4 rfl) ?_
    refine lv_iload hx hb (pc := 31) dX9_way_31 (lv_at hl 5 rfl) ?_
    refine rr_callP (rv := .int (bI ((Es yF j (f9 * 4 + y9)).testBit t9))) (pc := 33) (va_runV (As := [.int (nI f9), .int (nI y9), .int (nI t9)]) (rest := []) ⟨hx, hb, hml, hown, hts⟩ (c_X1_leads l K go ge gt (kF j) (nF j) (waysS (kF j) (nF j) (Es yF j)) (liveS (kF j) (nF j) (Es yF j)) (lwS (kF j) (nF j) (liveS (kF j) (nF j) (Es yF j)) (Es yF j)) (Es yF j) T f9 y9 t9 s5j (by omega) (by omega) (by omega)) (cwV 3 hts gX9_way_X1_leads rfl rfl rfl (by decide +kernel) ⟨Nat.le_of_ble_eq_true rfl, Nat.le_of_ble_eq_true rfl⟩) (rr_preV hKK (hP) (va_recv hKK.1 hP (ci := 1) (q0 := 0) rfl rfl)) rfl rfl hl.1 rfl (lv_room (Nat.le_of_ble_eq_true rfl)) dX9_way_33 ⟨Nat.le_refl _, Nat.le_refl _⟩) ?_
    refine nv_if_eq_b (a := ((Es yF j (f9 * 4 + y9)).testBit t9)) (tgt := 42) hx hb (pc := 36) dX9_way_36 (by decide) (fun c36 => ?_) (fun c36 => ?_)
    · refine lv_aload hx hb (pc := 42) dX9_way_42 (lv_at hl 0 rfl) ?_
      refine lv_iload_n hx hb (pc := 44) dX9_way_44 rfl (lv_at hl 3 rfl) ?_
      refine lv_iload_n hx hb (pc := 45) dX9_way_45 rfl (lv_at hl 4 rfl) ?_
      refine lv_iload hx hb (pc := 46) dX9_way_46 (lv_at hl 5 rfl) ?_
      refine rr_callV (pc := 48) (va_runV (As := [.int (nI f9), .int (nI y9), .int (nI t9)]) (rest := []) ⟨hx, hb, hml, hown, hts⟩ (c_X1_turnWay l K A go ge gt (kF j) (nF j) (waysS (kF j) (nF j) (Es yF j)) (liveS (kF j) (nF j) (Es yF j)) (lwS (kF j) (nF j) (liveS (kF j) (nF j) (Es yF j)) (Es yF j)) (Es yF j) T f9 y9 t9 s5j (by omega) (by omega) (by omega) hwt.2 hD) (cwV 3 hts gX9_way_X1_turnWay rfl rfl rfl (by decide +kernel) ⟨Nat.le_of_ble_eq_true rfl, Nat.le_of_ble_eq_true rfl⟩) (rr_preV hKK (hP) (va_recv hKK.1 hP (ci := 1) (q0 := 0) rfl rfl)) rfl rfl hl.1 rfl (lv_room (Nat.le_of_ble_eq_true rfl)) dX9_way_48 ⟨by omega, by omega⟩) hS (fun _ h => h) (fun H locs hY hsz hfr hS => ?_)
      have hP := hY
      have hD : va_D A (GW K go ge gt (kF j) (nF j) (if (Es yF j (f9 * 4 + y9)).testBit t9 then (waysS (kF j) (nF j) (Es yF j)) - 1 else (waysS (kF j) (nF j) (Es yF j)) + 1) (liveS (kF j) (nF j) (Es yF j)) (lwS (kF j) (nF j) (liveS (kF j) (nF j) (Es yF j)) (Es yF j)) (va_up (Es yF j) (f9 * 4 + y9) (Es yF j (f9 * 4 + y9) ^^^ 1 <<< t9)) T) := GJ_D hD _ _ _ _ _ _ _
      have hP : va_P K.1 vwCl (GW K go ge gt (kF j) (nF j) (if (Es yF j (f9 * 4 + y9)).testBit t9 then (waysS (kF j) (nF j) (Es yF j)) - 1 else (waysS (kF j) (nF j) (Es yF j)) + 1) (liveS (kF j) (nF j) (Es yF j)) (lwS (kF j) (nF j) (liveS (kF j) (nF j) (Es yF j)) (Es yF j)) (va_up (Es yF j) (f9 * 4 + y9) (Es yF j (f9 * 4 + y9) ^^^ 1 <<< t9)) T) H := hP
      rw [← hwt.1] at hP hD
      refine lv_aload hx hb (pc := 51) dX9_way_51 (lv_at hl 0 rfl) ?_
      refine rr_callV (pc := 53) (va_runV (As := []) (rest := []) ⟨hx, hb, hml, hown, hts⟩ (c_X1_settle l K A go ge gt (kF j) (nF j) (waysS (kF j) (nF j) (va_up (Es yF j) (f9 * 4 + y9) (Es yF j (f9 * 4 + y9) ^^^ 1 <<< t9))) (liveS (kF j) (nF j) (Es yF j)) (lwS (kF j) (nF j) (liveS (kF j) (nF j) (Es yF j)) (Es yF j)) (va_up (Es yF j) (f9 * 4 + y9) (Es yF j (f9 * 4 + y9) ^^^ 1 <<< t9)) T s2j s4j hT.1 hD) (cwV 0 hts gX9_way_X1_settle rfl rfl rfl (by decide +kernel) ⟨Nat.le_of_ble_eq_true rfl, Nat.le_of_ble_eq_true rfl⟩) (rr_preV hKK (hP) (va_recv hKK.1 hP (ci := 1) (q0 := 0) rfl rfl)) rfl rfl hl.1 rfl (lv_room (Nat.le_of_ble_eq_true rfl)) dX9_way_53 ⟨by omega, by omega⟩) hS (fun _ h => h) (fun H locs hY hsz hfr hS => ?_)
      obtain ⟨T', hT', hP⟩ := hY
      have hD : va_D A (GW K go ge gt (kF j) (nF j) (waysS (kF j) (nF j) (va_up (Es yF j) (f9 * 4 + y9) (Es yF j (f9 * 4 + y9) ^^^ 1 <<< t9))) (liveS (kF j) (nF j) (va_up (Es yF j) (f9 * 4 + y9) (Es yF j (f9 * 4 + y9) ^^^ 1 <<< t9))) (lwS (kF j) (nF j) (liveS (kF j) (nF j) (va_up (Es yF j) (f9 * 4 + y9) (Es yF j (f9 * 4 + y9) ^^^ 1 <<< t9))) (va_up (Es yF j) (f9 * 4 + y9) (Es yF j (f9 * 4 + y9) ^^^ 1 <<< t9))) (va_up (Es yF j) (f9 * 4 + y9) (Es yF j (f9 * 4 + y9) ^^^ 1 <<< t9)) T') := GW_D hD
      have hP : va_P K.1 vwCl (GW K go ge gt (kF j) (nF j) (waysS (kF j) (nF j) (va_up (Es yF j) (f9 * 4 + y9) (Es yF j (f9 * 4 + y9) ^^^ 1 <<< t9))) (liveS (kF j) (nF j) (va_up (Es yF j) (f9 * 4 + y9) (Es yF j (f9 * 4 + y9) ^^^ 1 <<< t9))) (lwS (kF j) (nF j) (liveS (kF j) (nF j) (va_up (Es yF j) (f9 * 4 + y9) (Es yF j (f9 * 4 + y9) ^^^ 1 <<< t9))) (va_up (Es yF j) (f9 * 4 + y9) (Es yF j (f9 * 4 + y9) ^^^ 1 <<< t9))) (va_up (Es yF j) (f9 * 4 + y9) (Es yF j (f9 * 4 + y9) ^^^ 1 <<< t9)) T') H := hP
      refine lv_iconst (v := nI 1) hx hb (pc := 56) dX9_way_56 (by decide) ?_
      rw [c36] at hbt
      have hok : wayOK ns kF nF yF (nI j) (nI f9) (nI y9) (nI t9) = true := by unfold wayOK; rw [c21, hbt]; rfl
      rw [← hEt] at hP hT'
      exact hret.1 _ _ 0 0 57 _ (nI 1) dX9_way_57 (by omega) (by omega) hS (⟨by unfold wayA; rw [if_pos c21, if_neg (by rw [hbt]; decide)], T', by rw [hok]; exact hT', by rw [hok]; exact hP⟩) (rfl)
    · refine lv_bipush (v := -3) hx hb (pc := 39) dX9_way_39 (by decide) ?_
      rw [c36] at hbt
      have hno : wayOK ns kF nF yF (nI j) (nI f9) (nI y9) (nI t9) = false := by unfold wayOK; rw [c21, hbt]; rfl
      exact hret.1 _ _ 0 0 41 _ (-3) dX9_way_41 (by omega) (by omega) hS (⟨by unfold wayA; rw [if_pos c21, if_pos hbt], T, by rw [hno]; exact hT, by rw [hno]; exact hP⟩) (rfl)
  · refine lv_bipush (v := -2) hx hb (pc := 24) dX9_way_24 (by decide) ?_
    rw [okW_has hS9 hj] at c21
    have hno : wayOK ns kF nF yF (nI j) f y t = false := by unfold wayOK; rw [c21]; rfl
    exact hret.1 _ _ 0 0 26 _ (-2) dX9_way_26 (by omega) (by omega) hS (⟨by unfold wayA; rw [if_neg (by rw [c21]; decide)], T, by rw [hno]; exact hT, by rw [hno]; exact hP⟩) (rfl)

abbrev rmX9_unway : Room := { frames := 5, cells := 0, slots := 0, locals := 114 }
set_option maxHeartbeats 4000000 in
set_option maxRecDepth 100000 in
theorem cb_X9_unway (l : Launch) (K : rr_K) (ca : Nat → Nat) (bh my lg mk mn ms xa xb xv xw ns wl nf wd room mb cap : Nat) (gF : Nat → Option Nat) (WD FL FW BR TD wB dB no sl wS wR wP wV wW pR : Nat → Nat) (bF : Nat → Int32) (yB gB : Nat → Int64) (ks pF : Nat → Int32) (kn : List Nat) (lp ll : Int32) (kF nF yF : Nat → Nat) (x f y t : Int32) (hb9 : isS ns x = false) : MetP l K yX9_unway wsX9_unway rmX9_unway [.ref (ca 0), .int x, .int f, .int y, .int t] (fun H => va_P K.1 vwCl (XC K ca bh my lg mk mn ms xa xb xv xw ns wl nf wd room mb cap gF WD FL FW BR TD wB dB no sl wS wR wP wV wW pR bF yB gB ks pF kn lp ll) H) (.int (unwA ns kF nF yF x f y t)) := by
  refine metP_of (cc := cX9_unway) (maxL := 6) (ret := (some .int)) (rt := .int) (by decide) rfl rfl (Nat.le_of_ble_eq_true rfl) ?_
  intro p e s m args below meth c Q ls hEnt hKK hX hret hl
  obtain ⟨hx, hb, hml, hown, hts⟩ := hEnt
  have hP : va_P K.1 vwCl (XC K ca bh my lg mk mn ms xa xb xv xw ns wl nf wd room mb cap gF WD FL FW BR TD wB dB no sl wS wR wP wV wW pR bF yB gB ks pF kn lp ll) s.heap := hX
  have hl : lv_has ls 6 [(0, .ref (ca 0)), (1, .int x), (2, .int f), (3, .int y), (4, .int t)] := hl
  refine lv_aload_n hx hb (pc := 0) dX9_unway_0 rfl (lv_at hl 0 rfl) ?_
  refine lv_iload_n hx hb (pc := 1) dX9_unway_1 rfl (lv_at hl 1 rfl) ?_
  refine rr_callP (rv := .null) (pc := 2) (va_runV (As := [.int x]) (rest := []) ⟨hx, hb, hml, hown, hts⟩ (cb_X9_graphAt l K ca bh my lg mk mn ms xa xb xv xw ns wl nf wd room mb cap gF WD FL FW BR TD wB dB no sl wS wR wP wV wW pR bF yB gB ks pF kn lp ll x hb9) (cwV 1 hts gX9_unway_X9_graphAt rfl rfl rfl (by decide +kernel) ⟨Nat.le_of_ble_eq_true rfl, Nat.le_of_ble_eq_true rfl⟩) (rr_preV hKK (hP) (va_recv hKK.1 hP (ci := 9) (q0 := 0) rfl rfl)) rfl rfl hl.1 rfl (lv_room (Nat.le_of_ble_eq_true rfl)) dX9_unway_2 ⟨Nat.le_refl _, Nat.le_refl _⟩) ?_
  refine lv_astoreN (lv' := [(5, .null), (0, .ref (ca 0)), (1, .int x), (2, .int f), (3, .int y), (4, .int t)]) hx hb (pc := 5) dX9_unway_5 hl (by decide) rfl (fun ls hl => ?_)
  refine lv_aloadN hx hb (pc := 7) dX9_unway_7 (lv_at hl 0 rfl) ?_
  refine lv_ifnullN (tgt := 24) hx hb (pc := 9) dX9_unway_9 (by decide) ?_
  refine lv_bipush (v := -2) hx hb (pc := 24) dX9_unway_24 (by decide) ?_
  have hb8 : okW ns kF nF x f y t = false := by unfold okW okQ; rw [hb9]; rfl
  exact hret.1 26 _ (-2) dX9_unway_26 (by unfold unwA; rw [if_neg (by rw [hb8]; decide)]) (rfl)

set_option maxHeartbeats 4000000 in
set_option maxRecDepth 100000 in
theorem cg_X9_unway (l : Launch) (K : rr_K) (A : Nat → Prop) (sz : Nat) (ca : Nat → Nat) (bh my lg mk mn ms xa xb xv xw ns wl nf wd room mb cap : Nat) (gF : Nat → Option Nat) (WD FL FW BR TD wB dB no sl wS wR wP wV wW pR : Nat → Nat) (bF : Nat → Int32) (yB gB : Nat → Int64) (ks pF : Nat → Int32) (kn : List Nat) (lp ll : Int32) (kF nF yF : Nat → Nat) (j go ge gt : Nat) (T : Nat → Nat) (f y t : Int32) (hS9 : SOK ns kF nF yF) (hj : j < ns) (hgj : gF j = some go) (hT : TJ kF nF yF j T) (hA : ∀ q, sz ≤ q → A q) (hD : va_D A (GJ K go ge gt kF nF yF j T)) (hCA : ∀ (k_ : Nat) (q_ : Nat × va_E), (XC K ca bh my lg mk mn ms xa xb xv xw ns wl nf wd room mb cap gF WD FL FW BR TD wB dB no sl wS wR wP wV wW pR bF yB gB ks pF kn lp ll)[k_]? = some q_ → ¬ A q_.1) : MetR l K yX9_unway wsX9_unway rmX9_unway [.ref (ca 0), .int (nI j), .int f, .int y, .int t] (fun H => H.size = sz ∧ va_P K.1 vwCl (GJ K go ge gt kF nF yF j T) H ∧ va_P K.1 vwCl (XC K ca bh my lg mk mn ms xa xb xv xw ns wl nf wd room mb cap gF WD FL FW BR TD wB dB no sl wS wR wP wV wW pR bF yB gB ks pF kn lp ll) H) A (fun v H => v = .int (unwA ns kF nF yF (nI j) f y t) ∧ ∃ T', TJ kF nF (cond (unwOK ns kF nF yF (nI j) f y t) (tglW yF (nI j) f y t) yF) j T' ∧ va_P K.1 vwCl (GJ K go ge gt kF nF (cond (unwOK ns kF nF yF (nI j) f y t) (tglW yF (nI j) f y t) yF) j T') H) 0 0 := by
  refine metR_of (cc := cX9_unway) (maxL := 6) (ret := (some .int)) (rt := .int) (by decide) rfl rfl rfl rfl (Nat.le_of_ble_eq_true rfl) ?_
  intro p e s m args below meth c Q ls hEnt hKK hX hret hl
  obtain ⟨hx, hb, hml, hown, hts⟩ := hEnt
  obtain ⟨hsz0, hX⟩ := hX
  have hA : ∀ q, s.heap.size ≤ q → A q := fun q h => hA q (hsz0 ▸ h)
  obtain ⟨hP, hC⟩ := hX
  have hP : va_P K.1 vwCl (GJ K go ge gt kF nF yF j T) s.heap := hP
  have hC : va_P K.1 vwCl (XC K ca bh my lg mk mn ms xa xb xv xw ns wl nf wd room mb cap gF WD FL FW BR TD wB dB no sl wS wR wP wV wW pR bF yB gB ks pF kn lp ll) s.heap := hC
  have hl : lv_has ls 6 [(0, .ref (ca 0)), (1, .int (nI j)), (2, .int f), (3, .int y), (4, .int t)] := hl
  have hS : va_S A s.heap s.heap [] := va_S.rf
  have hns := hS9.1
  obtain ⟨s1j, s2j, s3j, s4j, s5j⟩ := hS9.2 j hj
  have hlvj := liveS_lt16 (k := kF j) (E := Es yF j) s4j
  have hlwj := liveS_lt (kF j) (nF j) (Es yF j)
  have ecj : cN (nI j) = j := cN_nI (by omega)
  have hsj : isS ns (nI j) = true := isS_j hj (by omega)
  refine lv_aload_n hx hb (pc := 0) dX9_unway_0 rfl (lv_at hl 0 rfl) ?_
  refine lv_iload_n hx hb (pc := 1) dX9_unway_1 rfl (lv_at hl 1 rfl) ?_
  refine rr_callP (rv := .ref go) (pc := 2) (va_runV (As := [.int (nI j)]) (rest := []) ⟨hx, hb, hml, hown, hts⟩ (cg_X9_graphAt l K ca bh my lg mk mn ms xa xb xv xw ns wl nf wd room mb cap gF WD FL FW BR TD wB dB no sl wS wR wP wV wW pR bF yB gB ks pF kn lp ll j go hj hS9.1 hgj) (cwV 1 hts gX9_unway_X9_graphAt rfl rfl rfl (by decide +kernel) ⟨Nat.le_of_ble_eq_true rfl, Nat.le_of_ble_eq_true rfl⟩) (rr_preV hKK ((rr_ro (A := A) hC hCA hS)) (va_recv hKK.1 (rr_ro (A := A) hC hCA hS) (ci := 9) (q0 := 0) rfl rfl)) rfl rfl hl.1 rfl (lv_room (Nat.le_of_ble_eq_true rfl)) dX9_unway_2 ⟨Nat.le_refl _, Nat.le_refl _⟩) ?_
  refine lv_astore (lv' := [(5, .ref go), (0, .ref (ca 0)), (1, .int (nI j)), (2, .int f), (3, .int y), (4, .int t)]) hx hb (pc := 5) dX9_unway_5 hl (by decide) rfl (fun ls hl => ?_)
  refine lv_aload hx hb (pc := 7) dX9_unway_7 (lv_at hl 0 rfl) ?_
  refine lv_ifnull hx hb (pc := 9) dX9_unway_9 ?_
  refine lv_aload hx hb (pc := 12) dX9_unway_12 (lv_at hl 0 rfl) ?_
  refine lv_iload_n hx hb (pc := 14) dX9_unway_14 rfl (lv_at hl 3 rfl) ?_
  refine lv_iload_n hx hb (pc := 15) dX9_unway_15 rfl (lv_at hl 4 rfl) ?_
  refine lv_iload hx hb (pc := 16) dX9_unway_16 (lv_at hl 5 rfl) ?_
  refine rr_callP (rv := .int (bI (rrin f (nI 0) (nI (nF j - 1)) && (rrin y (nI 0) (nI (kF j - 1)) && rrin t (nI 0) (nI (nF j - 1)))))) (pc := 18) (va_runV (As := [.int f, .int y, .int t]) (rest := []) ⟨hx, hb, hml, hown, hts⟩ (c_X1_hasWayNumbers l K go ge gt (kF j) (nF j) (waysS (kF j) (nF j) (Es yF j)) (liveS (kF j) (nF j) (Es yF j)) (lwS (kF j) (nF j) (liveS (kF j) (nF j) (Es yF j)) (Es yF j)) (Es yF j) T f y t (by omega) (by omega)) (cwV 3 hts gX9_unway_X1_hasWayNumbers rfl rfl rfl (by decide +kernel) ⟨Nat.le_of_ble_eq_true rfl, Nat.le_of_ble_eq_true rfl⟩) (rr_preV hKK (hP) (va_recv hKK.1 hP (ci := 1) (q0 := 0) rfl rfl)) rfl rfl hl.1 rfl (lv_room (Nat.le_of_ble_eq_true rfl)) dX9_unway_18 ⟨Nat.le_refl _, Nat.le_refl _⟩) ?_
  refine nv_if_ne_b (a := (rrin f (nI 0) (nI (nF j - 1)) && (rrin y (nI 0) (nI (kF j - 1)) && rrin t (nI 0) (nI (nF j - 1))))) (tgt := 27) hx hb (pc := 21) dX9_unway_21 (by decide) (fun c21 => ?_) (fun c21 => ?_)
  · rw [okW_has hS9 hj] at c21
    obtain ⟨j2, f9, y9, t9, hx9, rfl, rfl, rfl, hj9, hf9, hy9, ht9⟩ := okW_of hS9 c21
    obtain rfl : j = j2 := nI_inj (by omega) (by omega) hx9
    have hix : f9 * 4 + y9 < 64 := by omega
    have hbt := bit_tgl (yF := yF) (j := j) (f := f9) (y := y9) (t := t9) (by omega) (by omega) (by omega) (by omega)
    have hwt := ways_tgl (E := Es yF j) s2j hf9 hy9 (show t9 < 16 by omega)
    have hEt := Es_tgl (yF := yF) (j := j) (f := f9) (y := y9) (t := t9) (by omega) (by omega) (by omega) (by omega) hix
    refine lv_aload hx hb (pc := 27) dX9_unway_27 (lv_at hl 0 rfl) ?_
    refine lv_iload_n hx hb (pc := 29) dX9_unway_29 rfl (lv_at hl 3 rfl) ?_
    refine lv_iload_n hx hb (pc := 30) dX9_unway_30 rfl (lv_at hl 4 rfl) ?_
    refine lv_iload hx hb (pc := 31) dX9_unway_31 (lv_at hl 5 rfl) ?_
    refine rr_callP (rv := .int (bI ((Es yF j (f9 * 4 + y9)).testBit t9))) (pc := 33) (va_runV (As := [.int (nI f9), .int (nI y9), .int (nI t9)]) (rest := []) ⟨hx, hb, hml, hown, hts⟩ (c_X1_leads l K go ge gt (kF j) (nF j) (waysS (kF j) (nF j) (Es yF j)) (liveS (kF j) (nF j) (Es yF j)) (lwS (kF j) (nF j) (liveS (kF j) (nF j) (Es yF j)) (Es yF j)) (Es yF j) T f9 y9 t9 s5j (by omega) (by omega) (by omega)) (cwV 3 hts gX9_unway_X1_leads rfl rfl rfl (by decide +kernel) ⟨Nat.le_of_ble_eq_true rfl, Nat.le_of_ble_eq_true rfl⟩) (rr_preV hKK (hP) (va_recv hKK.1 hP (ci := 1) (q0 := 0) rfl rfl)) rfl rfl hl.1 rfl (lv_room (Nat.le_of_ble_eq_true rfl)) dX9_unway_33 ⟨Nat.le_refl _, Nat.le_refl _⟩) ?_
    refine nv_if_ne_b (a := ((Es yF j (f9 * 4 + y9)).testBit t9)) (tgt := 42) hx hb (pc := 36) dX9_unway_36 (by decide) (fun c36 => ?_) (fun c36 => ?_)
    · refine lv_aload hx hb (pc := 42) dX9_unway_42 (lv_at hl 0 rfl) ?_
      refine lv_iload_n hx hb (pc := 44) dX9_unway_44 rfl (lv_at hl 3 rfl) ?_
      refine lv_iload_n hx hb (pc := 45) dX9_unway_45 rfl (lv_at hl 4 rfl) ?_
      refine lv_iload hx hb (pc := 46) dX9_unway_46 (lv_at hl 5 rfl) ?_
      refine rr_callV (pc := 48) (va_runV (As := [.int (nI f9), .int (nI y9), .int (nI t9)]) (rest := []) ⟨hx, hb, hml, hown, hts⟩ (c_X1_turnWay l K A go ge gt (kF j) (nF j) (waysS (kF j) (nF j) (Es yF j)) (liveS (kF j) (nF j) (Es yF j)) (lwS (kF j) (nF j) (liveS (kF j) (nF j) (Es yF j)) (Es yF j)) (Es yF j) T f9 y9 t9 s5j (by omega) (by omega) (by omega) hwt.2 hD) (cwV 3 hts gX9_unway_X1_turnWay rfl rfl rfl (by decide +kernel) ⟨Nat.le_of_ble_eq_true rfl, Nat.le_of_ble_eq_true rfl⟩) (rr_preV hKK (hP) (va_recv hKK.1 hP (ci := 1) (q0 := 0) rfl rfl)) rfl rfl hl.1 rfl (lv_room (Nat.le_of_ble_eq_true rfl)) dX9_unway_48 ⟨by omega, by omega⟩) hS (fun _ h => h) (fun H locs hY hsz hfr hS => ?_)
      have hP := hY
      have hD : va_D A (GW K go ge gt (kF j) (nF j) (if (Es yF j (f9 * 4 + y9)).testBit t9 then (waysS (kF j) (nF j) (Es yF j)) - 1 else (waysS (kF j) (nF j) (Es yF j)) + 1) (liveS (kF j) (nF j) (Es yF j)) (lwS (kF j) (nF j) (liveS (kF j) (nF j) (Es yF j)) (Es yF j)) (va_up (Es yF j) (f9 * 4 + y9) (Es yF j (f9 * 4 + y9) ^^^ 1 <<< t9)) T) := GJ_D hD _ _ _ _ _ _ _
      have hP : va_P K.1 vwCl (GW K go ge gt (kF j) (nF j) (if (Es yF j (f9 * 4 + y9)).testBit t9 then (waysS (kF j) (nF j) (Es yF j)) - 1 else (waysS (kF j) (nF j) (Es yF j)) + 1) (liveS (kF j) (nF j) (Es yF j)) (lwS (kF j) (nF j) (liveS (kF j) (nF j) (Es yF j)) (Es yF j)) (va_up (Es yF j) (f9 * 4 + y9) (Es yF j (f9 * 4 + y9) ^^^ 1 <<< t9)) T) H := hP
      rw [← hwt.1] at hP hD
      refine lv_aload hx hb (pc := 51) dX9_unway_51 (lv_at hl 0 rfl) ?_
      refine rr_callV (pc := 53) (va_runV (As := []) (rest := []) ⟨hx, hb, hml, hown, hts⟩ (c_X1_settle l K A go ge gt (kF j) (nF j) (waysS (kF j) (nF j) (va_up (Es yF j) (f9 * 4 + y9) (Es yF j (f9 * 4 + y9) ^^^ 1 <<< t9))) (liveS (kF j) (nF j) (Es yF j)) (lwS (kF j) (nF j) (liveS (kF j) (nF j) (Es yF j)) (Es yF j)) (va_up (Es yF j) (f9 * 4 + y9) (Es yF j (f9 * 4 + y9) ^^^ 1 <<< t9)) T s2j s4j hT.1 hD) (cwV 0 hts gX9_unway_X1_settle rfl rfl rfl (by decide +kernel) ⟨Nat.le_of_ble_eq_true rfl, Nat.le_of_ble_eq_true rfl⟩) (rr_preV hKK (hP) (va_recv hKK.1 hP (ci := 1) (q0 := 0) rfl rfl)) rfl rfl hl.1 rfl (lv_room (Nat.le_of_ble_eq_true rfl)) dX9_unway_53 ⟨by omega, by omega⟩) hS (fun _ h => h) (fun H locs hY hsz hfr hS => ?_)
      obtain ⟨T', hT', hP⟩ := hY
      have hD : va_D A (GW K go ge gt (kF j) (nF j) (waysS (kF j) (nF j) (va_up (Es yF j) (f9 * 4 + y9) (Es yF j (f9 * 4 + y9) ^^^ 1 <<< t9))) (liveS (kF j) (nF j) (va_up (Es yF j) (f9 * 4 + y9) (Es yF j (f9 * 4 + y9) ^^^ 1 <<< t9))) (lwS (kF j) (nF j) (liveS (kF j) (nF j) (va_up (Es yF j) (f9 * 4 + y9) (Es yF j (f9 * 4 + y9) ^^^ 1 <<< t9))) (va_up (Es yF j) (f9 * 4 + y9) (Es yF j (f9 * 4 + y9) ^^^ 1 <<< t9))) (va_up (Es yF j) (f9 * 4 + y9) (Es yF j (f9 * 4 + y9) ^^^ 1 <<< t9)) T') := GW_D hD
      have hP : va_P K.1 vwCl (GW K go ge gt (kF j) (nF j) (waysS (kF j) (nF j) (va_up (Es yF j) (f9 * 4 + y9) (Es yF j (f9 * 4 + y9) ^^^ 1 <<< t9))) (liveS (kF j) (nF j) (va_up (Es yF j) (f9 * 4 + y9) (Es yF j (f9 * 4 + y9) ^^^ 1 <<< t9))) (lwS (kF j) (nF j) (liveS (kF j) (nF j) (va_up (Es yF j) (f9 * 4 + y9) (Es yF j (f9 * 4 + y9) ^^^ 1 <<< t9))) (va_up (Es yF j) (f9 * 4 + y9) (Es yF j (f9 * 4 + y9) ^^^ 1 <<< t9))) (va_up (Es yF j) (f9 * 4 + y9) (Es yF j (f9 * 4 + y9) ^^^ 1 <<< t9)) T') H := hP
      refine lv_iconst (v := nI 1) hx hb (pc := 56) dX9_unway_56 (by decide) ?_
      rw [c36] at hbt
      have hok : unwOK ns kF nF yF (nI j) (nI f9) (nI y9) (nI t9) = true := by unfold unwOK; rw [c21, hbt]; rfl
      rw [← hEt] at hP hT'
      exact hret.1 _ _ 0 0 57 _ (nI 1) dX9_unway_57 (by omega) (by omega) hS (⟨by unfold unwA; rw [if_pos c21, if_pos hbt], T', by rw [hok]; exact hT', by rw [hok]; exact hP⟩) (rfl)
    · refine lv_bipush (v := -3) hx hb (pc := 39) dX9_unway_39 (by decide) ?_
      rw [c36] at hbt
      have hno : unwOK ns kF nF yF (nI j) (nI f9) (nI y9) (nI t9) = false := by unfold unwOK; rw [c21, hbt]; rfl
      exact hret.1 _ _ 0 0 41 _ (-3) dX9_unway_41 (by omega) (by omega) hS (⟨by unfold unwA; rw [if_pos c21, if_neg (by rw [hbt]; decide)], T, by rw [hno]; exact hT, by rw [hno]; exact hP⟩) (rfl)
  · refine lv_bipush (v := -2) hx hb (pc := 24) dX9_unway_24 (by decide) ?_
    rw [okW_has hS9 hj] at c21
    have hno : unwOK ns kF nF yF (nI j) f y t = false := by unfold unwOK; rw [c21]; rfl
    exact hret.1 _ _ 0 0 26 _ (-2) dX9_unway_26 (by omega) (by omega) hS (⟨by unfold unwA; rw [if_neg (by rw [c21]; decide)], T, by rw [hno]; exact hT, by rw [hno]; exact hP⟩) (rfl)

abbrev rmX9_digest : Room := { frames := 2, cells := 0, slots := 0, locals := 46 }
theorem inX9_digest_9 : ∀ w ∈ wsX90, w ∈ wsX9_digest := fun _ h => List.mem_cons_of_mem _ (List.mem_append_left _ (List.mem_append_left _ (List.mem_append_left _ (List.mem_append_right _ h))))
set_option maxHeartbeats 4000000 in
set_option maxRecDepth 100000 in
theorem c_X9_digest (l : Launch) (K : rr_K) (ca : Nat → Nat) (bh my lg mk mn ms xa xb xv xw ns wl nf wd room mb cap : Nat) (gF : Nat → Option Nat) (WD FL FW BR TD wB dB no sl wS wR wP wV wW pR : Nat → Nat) (bF : Nat → Int32) (yB gB : Nat → Int64) (ks pF : Nat → Int32) (kn : List Nat) (lp ll : Int32) (kF nF yF : Nat → Nat) (ga ge gt : Nat → Nat) (TT : Nat → Nat → Nat) (hS9 : SOK ns kF nF yF) (hga : ∀ i, i < ns → gF i = some (ga i)) (hw : wd ≤ 3) (hwl : wl ≤ 30) (hF9 : FOK nf FL FW) : MetP l K yX9_digest wsX9_digest rmX9_digest [.ref (ca 0)] (fun H => va_P K.1 vwCl (XC K ca bh my lg mk mn ms xa xb xv xw ns wl nf wd room mb cap gF WD FL FW BR TD wB dB no sl wS wR wP wV wW pR bF yB gB ks pF kn lp ll) H ∧ ∀ i, i < ns → va_P K.1 vwCl (GJ K (ga i) (ge i) (gt i) kF nF yF i (TT i)) H) (.long (dgT ns wl nf wd kF nF yF WD FL FW TD)) := by
  refine metP_of (cc := cX9_digest) (maxL := 5) (ret := (some .long)) (rt := .long) (by decide) rfl rfl (Nat.le_of_ble_eq_true rfl) ?_
  intro p e s m args below meth c Q ls hEnt hKK hX hret hl
  obtain ⟨hx, hb, hml, hown, hts⟩ := hEnt
  obtain ⟨hP, hGs⟩ := hX
  have hl : lv_has ls 5 [(0, .ref (ca 0))] := hl
  have hns := hS9.1
  have hnf := hF9.1
  refine lv_ldc2 (v := lN 193) hx hb (pc := 0) hown (hts _ (List.mem_of_getElem? (i := 1) (by decide +kernel))) dX9_digest_0 ?_
  refine lv_lstore_n (lv' := [(1, .long (lN (193))), (0, .ref (ca 0))]) hx hb (pc := 3) dX9_digest_3 rfl hl (by decide) rfl (fun ls hl => ?_)
  refine lv_iconst (v := nI 0) hx hb (pc := 4) dX9_digest_4 (by decide) ?_
  refine lv_istore_n (lv' := [(3, .int (nI 0)), (1, .long (lN (193))), (0, .ref (ca 0))]) hx hb (pc := 5) dX9_digest_5 rfl hl (by decide) rfl (fun ls hl => ?_)
  have L6 : ∀ (fz : Nat) (i : Nat) (hfz : 4 - i < fz) (hi : i ≤ 4) (ls : Array Slot) (hl : lv_has ls 5 [(0, .ref (ca 0)), (1, .long (rr_fold (fun i h => dg h (cntA ns wl nf wd (nI i))) i (lN 193))), (3, .int (nI i))]), W p l e rmX9_digest s m args below meth c s.heap [] 0 0 Q (F0 m 6 ls []) := by
    intro fz; induction fz with
    | zero => intro i hfz hi ls hl; exact absurd hfz (Nat.not_lt_zero _)
    | succ fz ih6 =>
      intro i hfz hi ls hl
      refine lv_iload_n hx hb (pc := 6) dX9_digest_6 rfl (lv_at hl 2 rfl) ?_
      refine lv_iconst (v := nI 3) hx hb (pc := 7) dX9_digest_7 (by decide) ?_
      refine nv_icmp_gt (a := i) (b := 3) (tgt := 30) hx hb (pc := 8) dX9_digest_8 (by decide) (by omega) (by omega) (fun c8 => ?_) (fun c8 => ?_)
      · obtain ⟨h4, hh4⟩ : ∃ z, z = dg4 ns wl nf wd := ⟨_, rfl⟩
        have e9 : i = 4 := by omega
        refine lv_iconst (v := nI 0) hx hb (pc := 30) dX9_digest_30 (by decide) ?_
        refine lv_istore_n (lv' := [(3, .int (nI 0)), (0, .ref (ca 0)), (1, .long (rr_fold (fun i h => dg h (cntA ns wl nf wd (nI i))) i (lN 193)))]) hx hb (pc := 31) dX9_digest_31 rfl hl (by decide) rfl (fun ls hl => ?_)
        have L32 : ∀ (fz : Nat) (z : Nat) (hfz : ns - z < fz) (hzn : z ≤ ns) (ls : Array Slot) (hl : lv_has ls 5 [(0, .ref (ca 0)), (1, .long (dgS kF nF yF z h4)), (3, .int (nI z))]), W p l e rmX9_digest s m args below meth c s.heap [] 0 0 Q (F0 m 32 ls []) := by
          intro fz; induction fz with
          | zero => intro z hfz hzn ls hl; exact absurd hfz (Nat.not_lt_zero _)
          | succ fz ih32 =>
            intro z hfz hzn ls hl
            refine lv_iload_n hx hb (pc := 32) dX9_digest_32 rfl (lv_at hl 2 rfl) ?_
            refine lv_aload_n hx hb (pc := 33) dX9_digest_33 rfl (lv_at hl 0 rfl) ?_
            refine va_get (v := .int (nI ns)) hx hb hts (inX9_digest_9) hown hKK.1 hP 0 rfl rfl 1 (by decide) (hts _ (List.mem_of_getElem? (i := 3) (by decide +kernel))) (fun _ h9 => h9) rfl (pc := 34) dX9_digest_34 ?_
            refine nv_icmp_ge (a := z) (b := ns) (tgt := 69) hx hb (pc := 37) dX9_digest_37 (by decide) (by omega) (by omega) (fun c37 => ?_) (fun c37 => ?_)
            · obtain ⟨h7, hh7⟩ : ∃ z, z = dgS kF nF yF ns h4 := ⟨_, rfl⟩
              refine lv_iconst (v := nI 0) hx hb (pc := 69) dX9_digest_69 (by decide) ?_
              refine lv_istore_n (lv' := [(3, .int (nI 0)), (0, .ref (ca 0)), (1, .long (dgS kF nF yF z h4))]) hx hb (pc := 70) dX9_digest_70 rfl hl (by decide) rfl (fun ls hl => ?_)
              have L71 : ∀ (fz : Nat) (i : Nat) (hfz : wl - i < fz) (hi : i ≤ wl) (ls : Array Slot) (hl : lv_has ls 5 [(0, .ref (ca 0)), (1, .long (dgW WD i h7)), (3, .int (nI i))]), W p l e rmX9_digest s m args below meth c s.heap [] 0 0 Q (F0 m 71 ls []) := by
                intro fz; induction fz with
                | zero => intro i hfz hi ls hl; exact absurd hfz (Nat.not_lt_zero _)
                | succ fz ih71 =>
                  intro i hfz hi ls hl
                  refine lv_iload_n hx hb (pc := 71) dX9_digest_71 rfl (lv_at hl 2 rfl) ?_
                  refine lv_aload_n hx hb (pc := 72) dX9_digest_72 rfl (lv_at hl 0 rfl) ?_
                  refine va_get (v := .int (nI wl)) hx hb hts (inX9_digest_9) hown hKK.1 hP 0 rfl rfl 3 (by decide) (hts _ (List.mem_of_getElem? (i := 4) (by decide +kernel))) (fun _ h9 => h9) rfl (pc := 73) dX9_digest_73 ?_
                  refine nv_icmp_ge (a := i) (b := wl) (tgt := 99) hx hb (pc := 76) dX9_digest_76 (by decide) (by omega) (by omega) (fun c76 => ?_) (fun c76 => ?_)
                  · have e7 : i = wl := by omega
                    refine lv_aload_n hx hb (pc := 99) dX9_digest_99 rfl (lv_at hl 0 rfl) ?_
                    refine va_get (v := .ref (ca 7)) hx hb hts (inX9_digest_9) hown hKK.1 hP 0 rfl rfl 5 (by decide) (hts _ (List.mem_of_getElem? (i := 6) (by decide +kernel))) (fun _ h9 => h9) rfl (pc := 100) dX9_digest_100 ?_
                    refine lv_aload_n hx hb (pc := 103) dX9_digest_103 rfl (lv_at hl 0 rfl) ?_
                    refine va_get (v := .ref (ca 3)) hx hb hts (inX9_digest_9) hown hKK.1 hP 0 rfl rfl 4 (by decide) (hts _ (List.mem_of_getElem? (i := 7) (by decide +kernel))) (fun _ h9 => h9) rfl (pc := 104) dX9_digest_104 ?_
                    refine lv_lload_n hx hb (pc := 107) dX9_digest_107 rfl (lv_at hl 1 rfl) ?_
                    refine rr_callP (rv := .long (dgB nf FL FW (dgW WD i h7))) (pc := 108) (va_runV (As := [.long (dgW WD i h7)]) (rest := [.ref (ca 7)]) ⟨hx, hb, hml, hown, hts⟩ (c_X0_digestOn l K (ca 3) (ca 4) (ca 5) (ca 6) nf FL FW BR (dgW WD i h7) hF9) (cwV 1 hts gX9_digest_X0_digestOn rfl rfl rfl (by decide +kernel) ⟨Nat.le_of_ble_eq_true rfl, Nat.le_of_ble_eq_true rfl⟩) (rr_preV hKK (hP.sub (ws' := BW K (ca 3) (ca 4) (ca 5) (ca 6) nf FL FW BR) [3, 4, 5, 6] rfl) (va_recv hKK.1 hP (ci := 0) (q0 := 3) rfl rfl)) rfl rfl hl.1 rfl (lv_room (Nat.le_of_ble_eq_true rfl)) dX9_digest_108 ⟨Nat.le_refl _, Nat.le_refl _⟩) ?_
                    refine rr_callP (rv := .long (dgP wd TD (dgB nf FL FW (dgW WD i h7)))) (pc := 111) (va_runV (As := [.long (dgB nf FL FW (dgW WD i h7))]) (rest := []) ⟨hx, hb, hml, hown, hts⟩ (c_X4_digestOn l K (ca 7) (ca 8) wd TD (dgB nf FL FW (dgW WD i h7)) hw) (cwV 1 hts gX9_digest_X4_digestOn rfl rfl rfl (by decide +kernel) ⟨Nat.le_of_ble_eq_true rfl, Nat.le_of_ble_eq_true rfl⟩) (rr_preV hKK (hP.sub (ws' := PW K (ca 7) (ca 8) wd TD) [7, 8] rfl) (va_recv hKK.1 hP (ci := 4) (q0 := 7) rfl rfl)) rfl rfl hl.1 rfl (lv_room (Nat.le_of_ble_eq_true rfl)) dX9_digest_111 ⟨Nat.le_refl _, Nat.le_refl _⟩) ?_
                    exact hret.2.1 114 _ (dgP wd TD (dgB nf FL FW (dgW WD i h7))) dX9_digest_114 (by rw [e7]; unfold dgT; rw [← hh4, ← hh7]) rfl
                  · refine lv_ldc2 (v := lN 31) hx hb (pc := 79) hown (hts _ (List.mem_of_getElem? (i := 2) (by decide +kernel))) dX9_digest_79 ?_
                    refine lv_lload_n hx hb (pc := 82) dX9_digest_82 rfl (lv_at hl 1 rfl) ?_
                    refine lv_lmul hx hb (pc := 83) dX9_digest_83 ?_
                    refine lv_aload_n hx hb (pc := 84) dX9_digest_84 rfl (lv_at hl 0 rfl) ?_
                    refine va_get (v := .ref (ca 2)) hx hb hts (inX9_digest_9) hown hKK.1 hP 0 rfl rfl 2 (by decide) (hts _ (List.mem_of_getElem? (i := 5) (by decide +kernel))) (fun _ h9 => h9) rfl (pc := 85) dX9_digest_85 ?_
                    refine lv_iload_n hx hb (pc := 88) dX9_digest_88 rfl (lv_at hl 2 rfl) ?_
                    refine nv_iald (v := nI (WD i)) (i := i) hx hb hKK hP 2 rfl (by omega) (by decide) (rfl) (pc := 89) dX9_digest_89 ?_
                    refine lv_i2l (v := (nI (WD i)).toInt64) hx hb (pc := 90) dX9_digest_90 (rfl) ?_
                    refine lv_ladd hx hb (pc := 91) dX9_digest_91 ?_
                    refine lv_lstore_n (lv' := [(1, .long (((lN 31) * (dgW WD i h7)) + ((nI (WD i)).toInt64))), (0, .ref (ca 0)), (3, .int (nI i))]) hx hb (pc := 92) dX9_digest_92 rfl hl (by decide) rfl (fun ls hl => ?_)
                    refine lv_iinc (v := nI (i + 1)) (lv' := [(3, .int (nI (i + 1))), (1, .long (((lN 31) * (dgW WD i h7)) + ((nI (WD i)).toInt64))), (0, .ref (ca 0))]) hx hb (pc := 93) dX9_digest_93 hl (k := 2) rfl (rr_inc _) (by decide) rfl (fun ls hl => ?_)
                    refine lv_goto (tgt := 71) hx hb (pc := 96) dX9_digest_96 (by decide) ?_
                    have hl : lv_has ls 5 [(3, .int (nI (i + 1))), (1, .long (dgW WD (i + 1) h7)), (0, .ref (ca 0))] := by rw [show dgW WD (i + 1) h7 = ((lN 31) * (dgW WD i h7)) + ((nI (WD i)).toInt64) from (dg_fold (fun i => nI (WD i)) i h7).symm]; exact hl
                    exact ih71 (i + 1) (by omega) (by omega) ls (lv_sub hl [2, 1, 0] rfl)
              have hl : lv_has ls 5 [(3, .int (nI 0)), (0, .ref (ca 0)), (1, .long (dgW WD 0 h7))] := by rw [show dgW WD 0 h7 = dgS kF nF yF z h4 from by rw [dgW_0, hh7, show z = ns by omega]]; exact hl
              exact L71 (31) 0 (by omega) (Nat.zero_le _) ls (lv_sub hl [1, 2, 0] rfl)
            · obtain ⟨s1j, s2j, s3j, s4j, s5j⟩ := hS9.2 z (by omega)
              have hlvj := liveS_lt16 (k := kF z) (E := Es yF z) s4j
              refine lv_aload_n hx hb (pc := 40) dX9_digest_40 rfl (lv_at hl 0 rfl) ?_
              refine lv_iload_n hx hb (pc := 41) dX9_digest_41 rfl (lv_at hl 2 rfl) ?_
              refine rr_callP (rv := .ref (ga z)) (pc := 42) (va_runV (As := [.int (nI z)]) (rest := []) ⟨hx, hb, hml, hown, hts⟩ (cg_X9_graphAt l K ca bh my lg mk mn ms xa xb xv xw ns wl nf wd room mb cap gF WD FL FW BR TD wB dB no sl wS wR wP wV wW pR bF yB gB ks pF kn lp ll z (ga z) (by omega) hns (hga z (by omega))) (cwV 1 hts gX9_digest_X9_graphAt rfl rfl rfl (by decide +kernel) ⟨Nat.le_of_ble_eq_true rfl, Nat.le_of_ble_eq_true rfl⟩) (rr_preV hKK (hP) (va_recv hKK.1 hP (ci := 9) (q0 := 0) rfl rfl)) rfl rfl hl.1 rfl (lv_room (Nat.le_of_ble_eq_true rfl)) dX9_digest_42 ⟨Nat.le_refl _, Nat.le_refl _⟩) ?_
              refine lv_astore (lv' := [(4, .ref (ga z)), (0, .ref (ca 0)), (1, .long (dgS kF nF yF z h4)), (3, .int (nI z))]) hx hb (pc := 45) dX9_digest_45 hl (by decide) rfl (fun ls hl => ?_)
              refine lv_aload hx hb (pc := 47) dX9_digest_47 (lv_at hl 0 rfl) ?_
              refine lv_ifnonnull (tgt := 56) hx hb (pc := 49) dX9_digest_49 (by decide) ?_
              refine lv_aload hx hb (pc := 56) dX9_digest_56 (lv_at hl 0 rfl) ?_
              refine lv_lload_n hx hb (pc := 58) dX9_digest_58 rfl (lv_at hl 2 rfl) ?_
              refine rr_callP (rv := .long (dgS1 kF nF yF z (dgS kF nF yF z h4))) (pc := 59) (va_runV (As := [.long (dgS kF nF yF z h4)]) (rest := []) ⟨hx, hb, hml, hown, hts⟩ (c_X1_digestOn l K (ga z) (ge z) (gt z) (kF z) (nF z) (waysS (kF z) (nF z) (Es yF z)) (liveS (kF z) (nF z) (Es yF z)) (lwS (kF z) (nF z) (liveS (kF z) (nF z) (Es yF z)) (Es yF z)) (Es yF z) (TT z) (dgS kF nF yF z h4) hlvj s2j s4j) (cwV 1 hts gX9_digest_X1_digestOn rfl rfl rfl (by decide +kernel) ⟨Nat.le_of_ble_eq_true rfl, Nat.le_of_ble_eq_true rfl⟩) (rr_preV hKK ((hGs z (by omega))) (va_recv hKK.1 (hGs z (by omega)) (ci := 1) (q0 := 0) rfl rfl)) rfl rfl hl.1 rfl (lv_room (Nat.le_of_ble_eq_true rfl)) dX9_digest_59 ⟨Nat.le_refl _, Nat.le_refl _⟩) ?_
              refine lv_lstore_n (lv' := [(1, .long (dgS1 kF nF yF z (dgS kF nF yF z h4))), (4, .ref (ga z)), (0, .ref (ca 0)), (3, .int (nI z))]) hx hb (pc := 62) dX9_digest_62 rfl hl (by decide) rfl (fun ls hl => ?_)
              refine lv_iinc (v := nI (z + 1)) (lv' := [(3, .int (nI (z + 1))), (1, .long (dgS1 kF nF yF z (dgS kF nF yF z h4))), (4, .ref (ga z)), (0, .ref (ca 0))]) hx hb (pc := 63) dX9_digest_63 hl (k := 3) rfl (rr_inc _) (by decide) rfl (fun ls hl => ?_)
              refine lv_goto (tgt := 32) hx hb (pc := 66) dX9_digest_66 (by decide) ?_
              have hl : lv_has ls 5 [(3, .int (nI (z + 1))), (1, .long (dgS kF nF yF (z + 1) h4)), (4, .ref (ga z)), (0, .ref (ca 0))] := by rw [show dgS kF nF yF (z + 1) h4 = dgS1 kF nF yF z (dgS kF nF yF z h4) from dgS_succ _ _ _ _ _]; exact hl
              exact ih32 (z + 1) (by omega) (by omega) ls (lv_sub hl [3, 1, 0] rfl)
        have hl : lv_has ls 5 [(3, .int (nI 0)), (0, .ref (ca 0)), (1, .long (dgS kF nF yF 0 h4))] := by rw [show dgS kF nF yF 0 h4 = rr_fold (fun i h => dg h (cntA ns wl nf wd (nI i))) i (lN 193) from by rw [e9, dg4_fold, dgS_0, hh4]]; exact hl
        exact L32 (7) 0 (by omega) (Nat.zero_le _) ls (lv_sub hl [1, 2, 0] rfl)
      · refine lv_ldc2 (v := lN 31) hx hb (pc := 11) hown (hts _ (List.mem_of_getElem? (i := 2) (by decide +kernel))) dX9_digest_11 ?_
        refine lv_lload_n hx hb (pc := 14) dX9_digest_14 rfl (lv_at hl 1 rfl) ?_
        refine lv_lmul hx hb (pc := 15) dX9_digest_15 ?_
        refine lv_aload_n hx hb (pc := 16) dX9_digest_16 rfl (lv_at hl 0 rfl) ?_
        refine lv_iload_n hx hb (pc := 17) dX9_digest_17 rfl (lv_at hl 2 rfl) ?_
        refine rr_callP (rv := .int (cntA ns wl nf wd (nI i))) (pc := 18) (va_runV (As := [.int (nI i)]) (rest := [.long ((lN 31) * (rr_fold (fun i h => dg h (cntA ns wl nf wd (nI i))) i (lN 193)))]) ⟨hx, hb, hml, hown, hts⟩ (c_X9_count l K ca bh my lg mk mn ms xa xb xv xw ns wl nf wd room mb cap gF WD FL FW BR TD wB dB no sl wS wR wP wV wW pR bF yB gB ks pF kn lp ll (nI i)) (cwV 1 hts gX9_digest_X9_count rfl rfl rfl (by decide +kernel) ⟨Nat.le_of_ble_eq_true rfl, Nat.le_of_ble_eq_true rfl⟩) (rr_preV hKK (hP) (va_recv hKK.1 hP (ci := 9) (q0 := 0) rfl rfl)) rfl rfl hl.1 rfl (lv_room (Nat.le_of_ble_eq_true rfl)) dX9_digest_18 ⟨Nat.le_refl _, Nat.le_refl _⟩) ?_
        refine lv_i2l (v := (cntA ns wl nf wd (nI i)).toInt64) hx hb (pc := 21) dX9_digest_21 (rfl) ?_
        refine lv_ladd hx hb (pc := 22) dX9_digest_22 ?_
        refine lv_lstore_n (lv' := [(1, .long (((lN 31) * (rr_fold (fun i h => dg h (cntA ns wl nf wd (nI i))) i (lN 193))) + ((cntA ns wl nf wd (nI i)).toInt64))), (0, .ref (ca 0)), (3, .int (nI i))]) hx hb (pc := 23) dX9_digest_23 rfl hl (by decide) rfl (fun ls hl => ?_)
        refine lv_iinc (v := nI (i + 1)) (lv' := [(3, .int (nI (i + 1))), (1, .long (((lN 31) * (rr_fold (fun i h => dg h (cntA ns wl nf wd (nI i))) i (lN 193))) + ((cntA ns wl nf wd (nI i)).toInt64))), (0, .ref (ca 0))]) hx hb (pc := 24) dX9_digest_24 hl (k := 2) rfl (rr_inc _) (by decide) rfl (fun ls hl => ?_)
        refine lv_goto (tgt := 6) hx hb (pc := 27) dX9_digest_27 (by decide) ?_
        have hl : lv_has ls 5 [(3, .int (nI (i + 1))), (1, .long (rr_fold (fun i h => dg h (cntA ns wl nf wd (nI i))) (i + 1) (lN 193))), (0, .ref (ca 0))] := by rw [show rr_fold (fun i h => dg h (cntA ns wl nf wd (nI i))) (i + 1) (lN 193) = ((lN 31) * (rr_fold (fun i h => dg h (cntA ns wl nf wd (nI i))) i (lN 193))) + ((cntA ns wl nf wd (nI i)).toInt64) from (dg_fold (fun i => cntA ns wl nf wd (nI i)) i (lN 193)).symm]; exact hl
        exact ih6 (i + 1) (by omega) (by omega) ls (lv_sub hl [2, 1, 0] rfl)
  have hl : lv_has ls 5 [(3, .int (nI 0)), (1, .long (rr_fold (fun i h => dg h (cntA ns wl nf wd (nI i))) 0 (lN 193))), (0, .ref (ca 0))] := by rw [show rr_fold (fun i h => dg h (cntA ns wl nf wd (nI i))) 0 (lN 193) = 193 from rfl]; exact hl
  exact L6 (5) 0 (by omega) (Nat.zero_le _) ls (lv_sub hl [2, 1, 0] rfl)

