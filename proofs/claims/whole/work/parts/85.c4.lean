abbrev rmX9_way : Room := { frames := 5, cells := 0, slots := 0, locals := 114 }
set_option maxHeartbeats 4000000 in
set_option maxRecDepth 100000 in
theorem cb_X9_way (l : Launch) (K : rr_K) (ca : Nat → Nat) (bh my lg mk mn ms xa xb xv xw ns wl nf wd room mb cap : Nat) (gF : Nat → Option Nat) (WD FL FW BR TD wB dB no sl wS wR wP wV wW pR : Nat → Nat) (bF : Nat → Int32) (yB gB : Nat → Int64) (ks pF : Nat → Int32) (kn : List Nat) (lp ll : Int32) (kF nF yF : Nat → Nat) (x f y t : Int32) (hb9 : isS ns x = false) : MetP l K yX9_way wsX9_way rmX9_way [.ref (ca 0), .int x, .int f, .int y, .int t] (fun H => va_P K.1 vwCl (XC K ca bh my lg mk mn ms xa xb xv xw ns wl nf wd room mb cap gF WD FL FW BR TD wB dB no sl wS wR wP wV wW pR bF yB gB ks pF kn lp ll) H) (.int (wayA ns kF nF yF x f y t)) := by
  refine metP_of (cc := cX9_way) (maxL := 6) (ret := (some .int)) (rt := .int) (by decide) rfl rfl (Nat.le_of_ble_eq_true rfl) ?_
  intro p e s m args below meth c Q ls hEnt hKK hX hret hl
  obtain ⟨hx, hb, hml, hown, hts⟩ := hEnt
  have hP : va_P K.1 vwCl (XC K ca bh my lg mk mn ms xa xb xv xw ns wl nf wd room mb cap gF WD FL FW BR TD wB dB no sl wS wR wP wV wW pR bF yB gB ks pF kn lp ll) s.heap := hX
  have hl : lv_has ls 6 [(0, .ref (ca 0)), (1, .int x), (2, .int f), (3, .int y), (4, .int t)] := hl
  refine lv_aload_n hx hb (pc := 0) dX9_way_0 rfl (lv_at hl 0 rfl) ?_
  refine lv_iload_n hx hb (pc := 1) dX9_way_1 rfl (lv_at hl 1 rfl) ?_
  refine rr_callP (rv := .null) (pc := 2) (va_runV (As := [.int x]) (rest := []) ⟨hx, hb, hml, hown, hts⟩ (cb_X9_graphAt l K ca bh my lg mk mn ms xa xb xv xw ns wl nf wd room mb cap gF WD FL FW BR TD wB dB no sl wS wR wP wV wW pR bF yB gB ks pF kn lp ll x hb9) (cwV 1 hts gX9_way_X9_graphAt rfl rfl rfl (by decide +kernel) ⟨Nat.le_of_ble_eq_true rfl, Nat.le_of_ble_eq_true rfl⟩) (rr_preV hKK (hP) (va_recv hKK.1 hP (ci := 9) (q0 := 0) rfl rfl)) rfl rfl hl.1 rfl (lv_room (Nat.le_of_ble_eq_true rfl)) dX9_way_2 ⟨Nat.le_refl _, Nat.le_refl _⟩) ?_
  refine lv_astoreN (lv' := [(5, .null), (0, .ref (ca 0)), (1, .int x), (2, .int f), (3, .int y), (4, .int t)]) hx hb (pc := 5) dX9_way_5 hl (by decide) rfl (fun ls hl => ?_)
  refine lv_aloadN hx hb (pc := 7) dX9_way_7 (lv_at hl 0 rfl) ?_
  refine lv_ifnullN (tgt := 24) hx hb (pc := 9) dX9_way_9 (by decide) ?_
  refine lv_bipush (v := -2) hx hb (pc := 24) dX9_way_24 (by decide) ?_
  have hb8 : okW ns kF nF x f y t = false := by unfold okW okQ; rw [hb9]; rfl
  exact hret.1 26 _ (-2) dX9_way_26 (by unfold wayA; rw [if_neg (by rw [hb8]; decide)]) (rfl)

set_option maxHeartbeats 4000000 in
set_option maxRecDepth 100000 in
theorem cg_X9_way (l : Launch) (K : rr_K) (A : Nat → Prop) (sz : Nat) (ca : Nat → Nat) (bh my lg mk mn ms xa xb xv xw ns wl nf wd room mb cap : Nat) (gF : Nat → Option Nat) (WD FL FW BR TD wB dB no sl wS wR wP wV wW pR : Nat → Nat) (bF : Nat → Int32) (yB gB : Nat → Int64) (ks pF : Nat → Int32) (kn : List Nat) (lp ll : Int32) (kF nF yF : Nat → Nat) (j go ge gt : Nat) (T : Nat → Nat) (f y t : Int32) (hS9 : SOK ns kF nF yF) (hj : j < ns) (hgj : gF j = some go) (hT : TJ kF nF yF j T) (hA : ∀ q, sz ≤ q → A q) (hD : va_D A (GJ K go ge gt kF nF yF j T)) (hCA : ∀ (k_ : Nat) (q_ : Nat × va_E), (XC K ca bh my lg mk mn ms xa xb xv xw ns wl nf wd room mb cap gF WD FL FW BR TD wB dB no sl wS wR wP wV wW pR bF yB gB ks pF kn lp ll)[k_]? = some q_ → ¬ A q_.1) : MetR l K yX9_way wsX9_way rmX9_way [.ref (ca 0), .int (nI j), .int f, .int y, .int t] (fun H => H.size = sz ∧ va_P K.1 vwCl (GJ K go ge gt kF nF yF j T) H ∧ va_P K.1 vwCl (XC K ca bh my lg mk mn ms xa xb xv xw ns wl nf wd room mb cap gF WD FL FW BR TD wB dB no sl wS wR wP wV wW pR bF yB gB ks pF kn lp ll) H) A (fun v H => v = .int (wayA ns kF nF yF (nI j) f y t) ∧ ∃ T', TJ kF nF (cond (wayOK ns kF nF yF (nI j) f y t) (tglW yF (nI j) f y t) yF) j T' ∧ va_P K.1 vwCl (GJ K go ge gt kF nF (cond (wayOK ns kF nF yF (nI j) f y t) (tglW yF (nI j) f y t) yF) j T') H) 0 0 := by
  refine metR_of (cc := cX9_way) (maxL := 6) (ret := (some .int)) (rt := .int) (by decide) rfl rfl rfl rfl (Nat.le_of_ble_eq_true rfl) ?_
  intro p e s m args below meth c Q ls hEnt hKK hX hret hl
  obtain ⟨hx, hb, hml, hown, hts⟩ := hEnt
  obtain ⟨hsz0, hX⟩ := hX
  have hA : ∀ q, s.heap.size ≤ q → A q := fun q h => hA q (hsz0 ▸ h)
  obtain ⟨hP, hC⟩ := hX
  have hP : va_P K.1 vwCl (GJ K go ge gt kF nF yF j T) s.heap := hP
  have hC : va_P K.1 vwCl (XC K ca bh my lg mk mn ms xa xb xv xw ns wl nf wd room mb cap gF WD FL FW BR TD wB dB no sl wS wR wP wV wW pR bF yB gB ks pF kn lp ll) s.heap := hC
  have hl : lv_has ls 6 [(0, .ref (ca 0)), (1, .int (nI j)), (2, .int f), (3, .int y), (4, .int t)] := hl
  have hS : va_S A s.heap s.heap [] := va_S.rf
  have hns := hS9.1
  obtain ⟨s1j, s2j, s3j, s4j, s5j⟩ := hS9.2 j hj
  have hlvj := liveS_lt16 (k := kF j) (E := Es yF j) s4j
  have hlwj := liveS_lt (kF j) (nF j) (Es yF j)
  have ecj : cN (nI j) = j := cN_nI (by omega)
  have hsj : isS ns (nI j) = true := isS_j hj (by omega)
  refine lv_aload_n hx hb (pc := 0) dX9_way_0 rfl (lv_at hl 0 rfl) ?_
  refine lv_iload_n hx hb (pc := 1) dX9_way_1 rfl (lv_at hl 1 rfl) ?_
  refine rr_callP (rv := .ref go) (pc := 2) (va_runV (As := [.int (nI j)]) (rest := []) ⟨hx, hb, hml, hown, hts⟩ (cg_X9_graphAt l K ca bh my lg mk mn ms xa xb xv xw ns wl nf wd room mb cap gF WD FL FW BR TD wB dB no sl wS wR wP wV wW pR bF yB gB ks pF kn lp ll j go hj hS9.1 hgj) (cwV 1 hts gX9_way_X9_graphAt rfl rfl rfl (by decide +kernel) ⟨Nat.le_of_ble_eq_true rfl, Nat.le_of_ble_eq_true rfl⟩) (rr_preV hKK ((rr_ro (A := A) hC hCA hS)) (va_recv hKK.1 (rr_ro (A := A) hC hCA hS) (ci := 9) (q0 := 0) rfl rfl)) rfl rfl hl.1 rfl (lv_room (Nat.le_of_ble_eq_true rfl)) dX9_way_2 ⟨Nat.le_refl _, Nat.le_refl _⟩) ?_
  refine lv_astore (lv' := [(5, .ref go), (0, .ref (ca 0)), (1, .int (nI j)), (2, .int f), (3, .int y), (4, .int t)]) hx hb (pc := 5) dX9_way_5 hl (by decide) rfl (fun ls hl => ?_)
  refine lv_aload hx hb (pc := 7) dX9_way_7 (lv_at hl 0 rfl) ?_
  refine lv_ifnull hx hb (pc := 9) dX9_way_9 ?_
  refine lv_aload hx hb (pc := 12) dX9_way_12 (lv_at hl 0 rfl) ?_
  refine lv_iload_n hx hb (pc := 14) dX9_way_14 rfl (lv_at hl 3 rfl) ?_
  refine lv_iload_n hx hb (pc := 15) dX9_way_15 rfl (lv_at hl 4 rfl) ?_
  refine lv_iload hx hb (pc := 16) dX9_way_16 (lv_at hl 5 rfl) ?_
  refine rr_callP (rv := .int (bI (rrin f (nI 0) (nI (nF j - 1)) && (rrin y (nI 0) (nI (kF j - 1)) && rrin t (nI 0) (nI (nF j - 1)))))) (pc := 18) (va_runV (As := [.int f, .int y, .int t]) (rest := []) ⟨hx, hb, hml, hown, hts⟩ (c_X1_hasWayNumbers l K go ge gt (kF j) (nF j) (waysS (kF j) (nF j) (Es yF j)) (liveS (kF j) (nF j) (Es yF j)) (lwS (kF j) (nF j) (liveS (kF j) (nF j) (Es yF j)) (Es yF j)) (Es yF j) T f y t (by omega) (by omega)) (cwV 3 hts gX9_way_X1_hasWayNumbers rfl rfl rfl (by decide +kernel) ⟨Nat.le_of_ble_eq_true rfl, Nat.le_of_ble_eq_true rfl⟩) (rr_preV hKK (hP) (va_recv hKK.1 hP (ci := 1) (q0 := 0) rfl rfl)) rfl rfl hl.1 rfl (lv_room (Nat.le_of_ble_eq_true rfl)) dX9_way_18 ⟨Nat.le_refl _, Nat.le_refl _⟩) ?_
  refine nv_if_ne_b (a := (rrin f (nI 0) (nI (nF j - 1)) && (rrin y (nI 0) (nI (kF j - 1)) && rrin t (nI 0) (nI (nF j - 1))))) (tgt := 27) hx hb (pc := 21) dX9_way_21 (by decide) (fun c21 => ?_) (fun c21 => ?_)
  · rw [okW_has hS9 hj] at c21
    obtain ⟨j2, f9, y9, t9, hx9, rfl, rfl, rfl, hj9, hf9, hy9, ht9⟩ := okW_of hS9 c21
    obtain rfl : j = j2 := nI_inj (by omega) (by omega) hx9
    have hix : f9 * 4 + y9 < 64 := by omega
    have hbt := bit_tgl (yF := yF) (j := j) (f := f9) (y := y9) (t := t9) (by omega) (by omega) (by omega) (by omega)
    have hwt := ways_tgl (E := Es yF j) s2j hf9 hy9 (show t9 < 16 by omega)
    have hEt := Es_tgl (yF := yF) (j := j) (f := f9) (y := y9) (t := t9) (by omega) (by omega) (by omega) (by omega) hix
    refine lv_aload hx hb (pc := 27) dX9_way_27 (lv_at hl 0 rfl) ?_
    refine lv_iload_n hx hb (pc := 29) dX9_way_29 rfl (lv_at hl 3 rfl) ?_
    refine lv_iload_n hx hb (pc := 30) dX9_way_30 rfl (lv_at hl 4 rfl) ?_
    refine lv_iload hx hb (pc := 31) dX9_way_31 (lv_at hl 5 rfl) ?_
    refine rr_callP (rv := .int (bI ((Es yF j (f9 * 4 + y9)).testBit t9))) (pc := 33) (va_runV (As := [.int (nI f9), .int (nI y9), .int (nI t9)]) (rest := []) ⟨hx, hb, hml, hown, hts⟩ (c_X1_leads l K go ge gt (kF j) (nF j) (waysS (kF j) (nF j) (Es yF j)) (liveS (kF j) (nF j) (Es yF j)) (lwS (kF j) (nF j) (liveS (kF j) (nF j) (Es yF j)) (Es yF j)) (Es yF j) T f9 y9 t9 s5j (by omega) (by omega) (by omega)) (cwV 3 hts gX9_way_X1_leads rfl rfl rfl (by decide +kernel) ⟨Nat.le_of_ble_eq_true rfl, Nat.le_of_ble_eq_true rfl⟩) (rr_preV hKK (hP) (va_recv hKK.1 hP (ci := 1) (q0 := 0) rfl rfl)) rfl rfl hl.1 rfl (lv_room (Nat.le_of_ble_eq_true rfl)) dX9_way_33 ⟨Nat.le_refl _, Nat.le_refl _⟩) ?_
    refine nv_if_eq_b (a := ((Es yF j (f9 * 4 + y9)).testBit t9)) (tgt := 42) hx hb (pc := 36) dX9_way_36 (by decide) (fun c36 => ?_) (fun c36 => ?_)
    · refine lv_aload hx hb (pc := 42) dX9_way_42 (lv_at hl 0 rfl) ?_
      refine lv_iload_n hx hb (pc := 44) dX9_way_44 rfl (lv_at hl 3 rfl) ?_
      refine lv_iload_n hx hb (pc := 45) dX9_way_45 rfl (lv_at hl 4 rfl) ?_
      refine lv_iload hx hb (pc := 46) dX9_way_46 (lv_at hl 5 rfl) ?_
      refine rr_callV (pc := 48) (va_runV (As := [.int (nI f9), .int (nI y9), .int (nI t9)]) (rest := []) ⟨hx, hb, hml, hown, hts⟩ (c_X1_turnWay l K A go ge gt (kF j) (nF j) (waysS (kF j) (nF j) (Es yF j)) (liveS (kF j) (nF j) (Es yF j)) (lwS (kF j) (nF j) (liveS (kF j) (nF j) (Es yF j)) (Es yF j)) (Es yF j) T f9 y9 t9 s5j (by omega) (by omega) (by omega) hwt.2 hD) (cwV 3 hts gX9_way_X1_turnWay rfl rfl rfl (by decide +kernel) ⟨Nat.le_of_ble_eq_true rfl, Nat.le_of_ble_eq_true rfl⟩) (rr_preV hKK (hP) (va_recv hKK.1 hP (ci := 1) (q0 := 0) rfl rfl)) rfl rfl hl.1 rfl (lv_room (Nat.le_of_ble_eq_true rfl)) dX9_way_48 ⟨by omega, by omega⟩) hS (fun _ h => h) (fun H locs hY hsz hfr hS => ?_)
      have hP := hY
      have hD : va_D A (GW K go ge gt (kF j) (nF j) (if (Es yF j (f9 * 4 + y9)).testBit t9 then (waysS (kF j) (nF j) (Es yF j)) - 1 else (waysS (kF j) (nF j) (Es yF j)) + 1) (liveS (kF j) (nF j) (Es yF j)) (lwS (kF j) (nF j) (liveS (kF j) (nF j) (Es yF j)) (Es yF j)) (va_up (Es yF j) (f9 * 4 + y9) (Es yF j (f9 * 4 + y9) ^^^ 1 <<< t9)) T) := GJ_D hD _ _ _ _ _ _ _
      have hP : va_P K.1 vwCl (GW K go ge gt (kF j) (nF j) (if (Es yF j (f9 * 4 + y9)).testBit t9 then (waysS (kF j) (nF j) (Es yF j)) - 1 else (waysS (kF j) (nF j) (Es yF j)) + 1) (liveS (kF j) (nF j) (Es yF j)) (lwS (kF j) (nF j) (liveS (kF j) (nF j) (Es yF j)) (Es yF j)) (va_up (Es yF j) (f9 * 4 + y9) (Es yF j (f9 * 4 + y9) ^^^ 1 <<< t9)) T) H := hP
      rw [← hwt.1] at hP hD
      refine lv_aload hx hb (pc := 51) dX9_way_51 (lv_at hl 0 rfl) ?_
      refine rr_callV (pc := 53) (va_runV (As := []) (rest := []) ⟨hx, hb, hml, hown, hts⟩ (c_X1_settle l K A go ge gt (kF j) (nF j) (waysS (kF j) (nF j) (va_up (Es yF j) (f9 * 4 + y9) (Es yF j (f9 * 4 + y9) ^^^ 1 <<< t9))) (liveS (kF j) (nF j) (Es yF j)) (lwS (kF j) (nF j) (liveS (kF j) (nF j) (Es yF j)) (Es yF j)) (va_up (Es yF j) (f9 * 4 + y9) (Es yF j (f9 * 4 + y9) ^^^ 1 <<< t9)) T s2j s4j hT.1 hD) (cwV 0 hts gX9_way_X1_settle rfl rfl rfl (by decide +kernel) ⟨Nat.le_of_ble_eq_true rfl, Nat.le_of_ble_eq_true rfl⟩) (rr_preV hKK (hP) (va_recv hKK.1 hP (ci := 1) (q0 := 0) rfl rfl)) rfl rfl hl.1 rfl (lv_room (Nat.le_of_ble_eq_true rfl)) dX9_way_53 ⟨by omega, by omega⟩) hS (fun _ h => h) (fun H locs hY hsz hfr hS => ?_)
      obtain ⟨T', hT', hP⟩ := hY
      have hD : va_D A (GW K go ge gt (kF j) (nF j) (waysS (kF j) (nF j) (va_up (Es yF j) (f9 * 4 + y9) (Es yF j (f9 * 4 + y9) ^^^ 1 <<< t9))) (liveS (kF j) (nF j) (va_up (Es yF j) (f9 * 4 + y9) (Es yF j (f9 * 4 + y9) ^^^ 1 <<< t9))) (lwS (kF j) (nF j) (liveS (kF j) (nF j) (va_up (Es yF j) (f9 * 4 + y9) (Es yF j (f9 * 4 + y9) ^^^ 1 <<< t9))) (va_up (Es yF j) (f9 * 4 + y9) (Es yF j (f9 * 4 + y9) ^^^ 1 <<< t9))) (va_up (Es yF j) (f9 * 4 + y9) (Es yF j (f9 * 4 + y9) ^^^ 1 <<< t9)) T') := GW_D hD
      have hP : va_P K.1 vwCl (GW K go ge gt (kF j) (nF j) (waysS (kF j) (nF j) (va_up (Es yF j) (f9 * 4 + y9) (Es yF j (f9 * 4 + y9) ^^^ 1 <<< t9))) (liveS (kF j) (nF j) (va_up (Es yF j) (f9 * 4 + y9) (Es yF j (f9 * 4 + y9) ^^^ 1 <<< t9))) (lwS (kF j) (nF j) (liveS (kF j) (nF j) (va_up (Es yF j) (f9 * 4 + y9) (Es yF j (f9 * 4 + y9) ^^^ 1 <<< t9))) (va_up (Es yF j) (f9 * 4 + y9) (Es yF j (f9 * 4 + y9) ^^^ 1 <<< t9))) (va_up (Es yF j) (f9 * 4 + y9) (Es yF j (f9 * 4 + y9) ^^^ 1 <<< t9)) T') H := hP
      refine lv_iconst (v := nI 1) hx hb (pc := 56) dX9_way_56 (by decide) ?_
      rw [c36] at hbt
      have hok : wayOK ns kF nF yF (nI j) (nI f9) (nI y9) (nI t9) = true := by unfold wayOK; rw [c21, hbt]; rfl
      rw [← hEt] at hP hT'
      exact hret.1 _ _ 0 0 57 _ (nI 1) dX9_way_57 (by omega) (by omega) hS (⟨by unfold wayA; rw [if_pos c21, if_neg (by rw [hbt]; decide)], T', by rw [hok]; exact hT', by rw [hok]; exact hP⟩) (rfl)
    · refine lv_bipush (v := -3) hx hb (pc := 39) dX9_way_39 (by decide) ?_
      rw [c36] at hbt
      have hno : wayOK ns kF nF yF (nI j) (nI f9) (nI y9) (nI t9) = false := by unfold wayOK; rw [c21, hbt]; rfl
      exact hret.1 _ _ 0 0 41 _ (-3) dX9_way_41 (by omega) (by omega) hS (⟨by unfold wayA; rw [if_pos c21, if_pos hbt], T, by rw [hno]; exact hT, by rw [hno]; exact hP⟩) (rfl)
  · refine lv_bipush (v := -2) hx hb (pc := 24) dX9_way_24 (by decide) ?_
    rw [okW_has hS9 hj] at c21
    have hno : wayOK ns kF nF yF (nI j) f y t = false := by unfold wayOK; rw [c21]; rfl
    exact hret.1 _ _ 0 0 26 _ (-2) dX9_way_26 (by omega) (by omega) hS (⟨by unfold wayA; rw [if_neg (by rw [c21]; decide)], T, by rw [hno]; exact hT, by rw [hno]; exact hP⟩) (rfl)

