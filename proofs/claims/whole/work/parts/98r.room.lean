theorem Met_room {l : Launch} {y : MethodName} {ws : List Cond} {rm rm' : Room} {Pc : Array Value → State → Prop} {Qc : Array Value → State → Outcome → State → Prop} {mc ms : Nat} {free : Addr → Prop} (h : Met l y ws rm Pc Qc mc ms free) (h1 : rm.frames ≤ rm'.frames) (h2 : rm.cells ≤ rm'.cells) (h3 : rm.slots ≤ rm'.slots) (h4 : rm.locals ≤ rm'.locals) : Met l y ws rm' Pc Qc mc ms free := by
  intro p e a b c s m args below hf happ hP hK
  refine h p e a b c s m args below hf ?_ hP hK
  unfold Spec.appliesLoose at happ ⊢
  rw [hf] at happ ⊢
  dsimp only at happ ⊢
  rw [Bool.and_eq_true, Bool.and_eq_true] at happ ⊢
  refine ⟨⟨happ.1.1, ?_⟩, happ.2⟩
  have hr : s.hasRoom e.platform rm' = true := happ.1.2
  show s.hasRoom e.platform rm = true
  unfold State.hasRoom at hr ⊢
  simp only [Bool.and_eq_true, decide_eq_true_eq] at hr ⊢
  obtain ⟨⟨⟨⟨r1, r2, r3, r4, r5, r6⟩, r7⟩, r8⟩, r9⟩ := hr
  exact ⟨⟨⟨⟨by omega, by omega, by omega, by omega, by omega, r6⟩, by omega⟩, by omega⟩, r9⟩
abbrev rm0X9_set : Room := { frames := 2, cells := 0, slots := 0, locals := 42 }
abbrev rm0X9_byWords : Room := { frames := 5, cells := 0, slots := 0, locals := 114 }
set_option maxHeartbeats 4000000 in
set_option maxRecDepth 100000 in
theorem cb0_X9_set (l : Launch) (K : rr_K) (ca : Nat → Nat) (bh my lg mk mn ms xa xb xv xw ns wl nf wd room mb cap : Nat) (gF : Nat → Option Nat) (WD FL FW BR TD wB dB no sl wS wR wP wV wW pR : Nat → Nat) (bF : Nat → Int32) (yB gB : Nat → Int64) (ks pF : Nat → Int32) (kn : List Nat) (lp ll : Int32) (x y : Int32) (hns : ns ≤ 6) (hb9 : setOK ns x y = false) : MetP l K yX9_set wsX9_set rm0X9_set [.ref (ca 0), .int x, .int y] (fun H => va_P K.1 vwCl (XC K ca bh my lg mk mn ms xa xb xv xw ns wl nf wd room mb cap gF WD FL FW BR TD wB dB no sl wS wR wP wV wW pR bF yB gB ks pF kn lp ll) H) (.int (setA ns x y)) := by
  refine metP_of (cc := cX9_set) (maxL := 3) (ret := (some .int)) (rt := .int) (by decide) rfl rfl (Nat.le_of_ble_eq_true rfl) ?_
  intro p e s m args below meth c Q ls hEnt hKK hX hret hl
  obtain ⟨hx, hb, hml, hown, hts⟩ := hEnt
  have hP : va_P K.1 vwCl (XC K ca bh my lg mk mn ms xa xb xv xw ns wl nf wd room mb cap gF WD FL FW BR TD wB dB no sl wS wR wP wV wW pR bF yB gB ks pF kn lp ll) s.heap := hX
  have hl : lv_has ls 3 [(0, .ref (ca 0)), (1, .int x), (2, .int y)] := hl
  refine lv_iload_n hx hb (pc := 0) dX9_set_0 rfl (lv_at hl 1 rfl) ?_
  refine lv_iconst (v := nI 2) hx hb (pc := 1) dX9_set_1 (by decide) ?_
  refine lv_iconst (v := nI 4) hx hb (pc := 2) dX9_set_2 (by decide) ?_
  refine rr_callP (rv := .int (bI (rrin x (nI 2) (nI 4)))) (pc := 3) (va_runS (As := [.int x, .int (nI 2), .int (nI 4)]) (rest := []) ⟨hx, hb, hml, hown, hts⟩ (c_X9_within l K x (nI 2) (nI 4)) (cwS 3 hts gX9_set_X9_within rfl rfl rfl (by decide +kernel) ⟨Nat.le_of_ble_eq_true rfl, Nat.le_of_ble_eq_true rfl⟩) (rr_preS hKK (trivial)) rfl rfl hl.1 rfl (lv_room (Nat.le_of_ble_eq_true rfl)) dX9_set_3 ⟨Nat.le_of_ble_eq_true rfl, Nat.le_of_ble_eq_true rfl⟩) ?_
  refine nv_if_eq_b (a := (rrin x (nI 2) (nI 4))) (tgt := 19) hx hb (pc := 6) dX9_set_6 (by decide) (fun c6 => ?_) (fun c6 => ?_)
  · refine lv_bipush (v := -2) hx hb (pc := 19) dX9_set_19 (by decide) ?_
    have hc : (rrin x (nI 2) (nI 4) && rrin y (nI 1) (nI 16)) = false := by first | (rw [c6, Bool.false_and]; done) | (rw [c16, Bool.and_false]; done)
    exact hret.1 21 _ (-2) dX9_set_21 (by unfold setA; rw [if_neg (by rw [hc]; decide)]) (rfl)
  · refine lv_iload_n hx hb (pc := 9) dX9_set_9 rfl (lv_at hl 2 rfl) ?_
    refine lv_iconst (v := nI 1) hx hb (pc := 10) dX9_set_10 (by decide) ?_
    refine lv_bipush (v := nI 16) hx hb (pc := 11) dX9_set_11 (by decide) ?_
    refine rr_callP (rv := .int (bI (rrin y (nI 1) (nI 16)))) (pc := 13) (va_runS (As := [.int y, .int (nI 1), .int (nI 16)]) (rest := []) ⟨hx, hb, hml, hown, hts⟩ (c_X9_within l K y (nI 1) (nI 16)) (cwS 3 hts gX9_set_X9_within rfl rfl rfl (by decide +kernel) ⟨Nat.le_of_ble_eq_true rfl, Nat.le_of_ble_eq_true rfl⟩) (rr_preS hKK (trivial)) rfl rfl hl.1 rfl (lv_room (Nat.le_of_ble_eq_true rfl)) dX9_set_13 ⟨Nat.le_of_ble_eq_true rfl, Nat.le_of_ble_eq_true rfl⟩) ?_
    refine nv_if_ne_b (a := (rrin y (nI 1) (nI 16))) (tgt := 22) hx hb (pc := 16) dX9_set_16 (by decide) (fun c16 => ?_) (fun c16 => ?_)
    · have e6 : ns = 6 := Classical.byContradiction (fun h => by unfold setOK at hb9; rw [c6, c16, decide_eq_false h] at hb9; cases hb9)
      refine lv_aload_n hx hb (pc := 22) dX9_set_22 rfl (lv_at hl 0 rfl) ?_
      refine va_get (v := .int (nI ns)) hx hb hts (inX9_set_9) hown hKK.1 hP 0 rfl rfl 1 (by decide) (hts _ (List.mem_of_getElem? (i := 1) (by decide +kernel))) (fun _ h9 => h9) rfl (pc := 23) dX9_set_23 ?_
      refine lv_bipush (v := nI 6) hx hb (pc := 26) dX9_set_26 (by decide) ?_
      refine nv_icmp_lt (a := ns) (b := 6) (tgt := 34) hx hb (pc := 28) dX9_set_28 (by decide) (by omega) (by omega) (fun c28 => absurd c28 (by omega)) (fun c28 => ?_)
      refine lv_bipush (v := -4) hx hb (pc := 31) dX9_set_31 (by decide) ?_
      exact hret.1 33 _ (-4) dX9_set_33 (by unfold setA; rw [c6, c16, if_pos (show (true && true) = true from rfl), if_pos e6]) (rfl)
    · refine lv_bipush (v := -2) hx hb (pc := 19) dX9_set_19 (by decide) ?_
      have hc : (rrin x (nI 2) (nI 4) && rrin y (nI 1) (nI 16)) = false := by first | (rw [c6, Bool.false_and]; done) | (rw [c16, Bool.and_false]; done)
      exact hret.1 21 _ (-2) dX9_set_21 (by unfold setA; rw [if_neg (by rw [hc]; decide)]) (rfl)
set_option maxHeartbeats 4000000 in
set_option maxRecDepth 100000 in
theorem cb0_X9_byWords (l : Launch) (K : rr_K) (ca : Nat → Nat) (bh my lg mk mn ms xa xb xv xw ns wl nf wd room mb cap : Nat) (gF : Nat → Option Nat) (WD FL FW BR TD wB dB no sl wS wR wP wV wW pR : Nat → Nat) (bF : Nat → Int32) (yB gB : Nat → Int64) (ks pF : Nat → Int32) (kn : List Nat) (lp ll : Int32) (x : Int32) (hns : ns ≤ 6) (hF9 : FOK nf FL FW) (hb9 : bywOK ns nf FL FW x = false) : MetP l K yX9_byWords wsX9_byWords rm0X9_byWords [.ref (ca 0), .int x] (fun H => va_P K.1 vwCl (XC K ca bh my lg mk mn ms xa xb xv xw ns wl nf wd room mb cap gF WD FL FW BR TD wB dB no sl wS wR wP wV wW pR bF yB gB ks pF kn lp ll) H) (.int (bywA ns nf FL FW x)) := by
  refine metP_of (cc := cX9_byWords) (maxL := 5) (ret := (some .int)) (rt := .int) (by decide) rfl rfl (Nat.le_of_ble_eq_true rfl) ?_
  intro p e s m args below meth c Q ls hEnt hKK hX hret hl
  obtain ⟨hx, hb, hml, hown, hts⟩ := hEnt
  have hP : va_P K.1 vwCl (XC K ca bh my lg mk mn ms xa xb xv xw ns wl nf wd room mb cap gF WD FL FW BR TD wB dB no sl wS wR wP wV wW pR bF yB gB ks pF kn lp ll) s.heap := hX
  have hl : lv_has ls 5 [(0, .ref (ca 0)), (1, .int x)] := hl
  obtain ⟨hl3, hl4⟩ : 2 ≤ lM nf FL ∧ lM nf FL ≤ 5 := lM_in hF9 nf (Nat.le_refl _)
  refine lv_iload_n hx hb (pc := 0) dX9_byWords_0 rfl (lv_at hl 1 rfl) ?_
  refine lv_iconst (v := nI 2) hx hb (pc := 1) dX9_byWords_1 (by decide) ?_
  refine lv_iconst (v := nI 4) hx hb (pc := 2) dX9_byWords_2 (by decide) ?_
  refine rr_callP (rv := .int (bI (rrin x (nI 2) (nI 4)))) (pc := 3) (va_runS (As := [.int x, .int (nI 2), .int (nI 4)]) (rest := []) ⟨hx, hb, hml, hown, hts⟩ (c_X9_within l K x (nI 2) (nI 4)) (cwS 3 hts gX9_byWords_X9_within rfl rfl rfl (by decide +kernel) ⟨Nat.le_of_ble_eq_true rfl, Nat.le_of_ble_eq_true rfl⟩) (rr_preS hKK (trivial)) rfl rfl hl.1 rfl (lv_room (Nat.le_of_ble_eq_true rfl)) dX9_byWords_3 ⟨Nat.le_of_ble_eq_true rfl, Nat.le_of_ble_eq_true rfl⟩) ?_
  refine nv_if_eq_b (a := (rrin x (nI 2) (nI 4))) (tgt := 20) hx hb (pc := 6) dX9_byWords_6 (by decide) (fun c6 => ?_) (fun c6 => ?_)
  · refine lv_bipush (v := -2) hx hb (pc := 20) dX9_byWords_20 (by decide) ?_
    have hcb : bywC nf FL FW x = false := by unfold bywC; rw [c6, Bool.false_and]
    exact hret.1 22 _ (-2) dX9_byWords_22 (by unfold bywA; rw [if_neg (by rw [hcb]; decide)]) (rfl)
  · obtain ⟨k, hk1, hk2, rfl⟩ := rrin_Nat (by decide) (by decide) c6
    have eck : cN (nI k) = k := cN_nI (by omega)
    refine lv_aload_n hx hb (pc := 9) dX9_byWords_9 rfl (lv_at hl 0 rfl) ?_
    refine va_get (v := .ref (ca 3)) hx hb hts (inX9_byWords_9) hown hKK.1 hP 0 rfl rfl 4 (by decide) (hts _ (List.mem_of_getElem? (i := 1) (by decide +kernel))) (fun _ h9 => h9) rfl (pc := 10) dX9_byWords_10 ?_
    refine rr_callP (rv := .int (nI (gL nf FL FW))) (pc := 13) (va_runV (As := []) (rest := []) ⟨hx, hb, hml, hown, hts⟩ (c_X0_greatestLetter l K (ca 3) (ca 4) (ca 5) (ca 6) nf FL FW BR hF9) (cwV 0 hts gX9_byWords_X0_greatestLetter rfl rfl rfl (by decide +kernel) ⟨Nat.le_of_ble_eq_true rfl, Nat.le_of_ble_eq_true rfl⟩) (rr_preV hKK (hP.sub (ws' := BW K (ca 3) (ca 4) (ca 5) (ca 6) nf FL FW BR) [3, 4, 5, 6] rfl) (va_recv hKK.1 hP (ci := 0) (q0 := 3) rfl rfl)) rfl rfl hl.1 rfl (lv_room (Nat.le_of_ble_eq_true rfl)) dX9_byWords_13 ⟨Nat.le_of_ble_eq_true rfl, Nat.le_of_ble_eq_true rfl⟩) ?_
    refine lv_iload_n hx hb (pc := 16) dX9_byWords_16 rfl (lv_at hl 1 rfl) ?_
    refine nv_icmp_lt (a := (gL nf FL FW)) (b := k) (tgt := 23) hx hb (pc := 17) dX9_byWords_17 (by decide) (by have := gL_lt hF9 nf (Nat.le_refl _); exact Nat.lt_trans this (by decide)) (by omega) (fun c17 => ?_) (fun c17 => ?_)
    · have hcb : bywC nf FL FW (nI k) = true := by unfold bywC; rw [c6, eck, decide_eq_true c17]; rfl
      have ebn : bywN nf FL (nI k) = (k ^ (lM nf FL - 1)) := by unfold bywN; rw [eck]
      have hpw : (k ^ (lM nf FL - 1)) ≤ 256 := Nat.le_trans (Nat.pow_le_pow_left hk2 _) (Nat.le_trans (Nat.pow_le_pow_right (by decide) (show lM nf FL - 1 ≤ 4 by omega)) (by decide))
      refine lv_aload_n hx hb (pc := 23) dX9_byWords_23 rfl (lv_at hl 0 rfl) ?_
      refine va_get (v := .ref (ca 3)) hx hb hts (inX9_byWords_9) hown hKK.1 hP 0 rfl rfl 4 (by decide) (hts _ (List.mem_of_getElem? (i := 1) (by decide +kernel))) (fun _ h9 => h9) rfl (pc := 24) dX9_byWords_24 ?_
      refine rr_callP (rv := .int (nI (lM nf FL))) (pc := 27) (va_runV (As := []) (rest := []) ⟨hx, hb, hml, hown, hts⟩ (c_X0_longest l K (ca 3) (ca 4) (ca 5) (ca 6) nf FL FW BR hF9) (cwV 0 hts gX9_byWords_X0_longest rfl rfl rfl (by decide +kernel) ⟨Nat.le_of_ble_eq_true rfl, Nat.le_of_ble_eq_true rfl⟩) (rr_preV hKK (hP.sub (ws' := BW K (ca 3) (ca 4) (ca 5) (ca 6) nf FL FW BR) [3, 4, 5, 6] rfl) (va_recv hKK.1 hP (ci := 0) (q0 := 3) rfl rfl)) rfl rfl hl.1 rfl (lv_room (Nat.le_of_ble_eq_true rfl)) dX9_byWords_27 ⟨Nat.le_of_ble_eq_true rfl, Nat.le_of_ble_eq_true rfl⟩) ?_
      refine lv_istore_n (lv' := [(2, .int (nI (lM nf FL))), (0, .ref (ca 0)), (1, .int (nI k))]) hx hb (pc := 30) dX9_byWords_30 rfl hl (by decide) rfl (fun ls hl => ?_)
      refine lv_iload_n hx hb (pc := 31) dX9_byWords_31 rfl (lv_at hl 2 rfl) ?_
      refine lv_iload_n hx hb (pc := 32) dX9_byWords_32 rfl (lv_at hl 0 rfl) ?_
      refine lv_iconst (v := nI 1) hx hb (pc := 33) dX9_byWords_33 (by decide) ?_
      refine nv_isub (a := (lM nf FL)) (b := 1) hx hb (pc := 34) dX9_byWords_34 (by omega) ?_
      refine rr_callP (rv := .int (nI (k ^ (lM nf FL - 1)))) (pc := 35) (va_runS (As := [.int (nI k), .int (nI ((lM nf FL) - 1))]) (rest := []) ⟨hx, hb, hml, hown, hts⟩ (c_X9_power l K k (lM nf FL - 1) hk2 (by omega)) (cwS 2 hts gX9_byWords_X9_power rfl rfl rfl (by decide +kernel) ⟨Nat.le_of_ble_eq_true rfl, Nat.le_of_ble_eq_true rfl⟩) (rr_preS hKK (trivial)) rfl rfl hl.1 rfl (lv_room (Nat.le_of_ble_eq_true rfl)) dX9_byWords_35 ⟨Nat.le_of_ble_eq_true rfl, Nat.le_of_ble_eq_true rfl⟩) ?_
      refine lv_istore_n (lv' := [(3, .int (nI (k ^ (lM nf FL - 1)))), (2, .int (nI (lM nf FL))), (0, .ref (ca 0)), (1, .int (nI k))]) hx hb (pc := 38) dX9_byWords_38 rfl hl (by decide) rfl (fun ls hl => ?_)
      refine lv_iload_n hx hb (pc := 39) dX9_byWords_39 rfl (lv_at hl 0 rfl) ?_
      refine lv_bipush (v := nI 16) hx hb (pc := 40) dX9_byWords_40 (by decide) ?_
      refine nv_icmp_le (a := (k ^ (lM nf FL - 1))) (b := 16) (tgt := 48) hx hb (pc := 42) dX9_byWords_42 (by decide) (by omega) (by omega) (fun c42 => ?_) (fun c42 => ?_)
      · have e6 : ns = 6 := Classical.byContradiction (fun h => by unfold bywOK at hb9; rw [hcb, ebn, decide_eq_true c42, decide_eq_false h] at hb9; cases hb9)
        refine lv_aload_n hx hb (pc := 48) dX9_byWords_48 rfl (lv_at hl 2 rfl) ?_
        refine va_get (v := .int (nI ns)) hx hb hts (inX9_byWords_9) hown hKK.1 hP 0 rfl rfl 1 (by decide) (hts _ (List.mem_of_getElem? (i := 2) (by decide +kernel))) (fun _ h9 => h9) rfl (pc := 49) dX9_byWords_49 ?_
        refine lv_bipush (v := nI 6) hx hb (pc := 52) dX9_byWords_52 (by decide) ?_
        refine nv_icmp_lt (a := ns) (b := 6) (tgt := 60) hx hb (pc := 54) dX9_byWords_54 (by decide) (by omega) (by omega) (fun c54 => absurd c54 (by omega)) (fun c54 => ?_)
        refine lv_bipush (v := -4) hx hb (pc := 57) dX9_byWords_57 (by decide) ?_
        exact hret.1 59 _ (-4) dX9_byWords_59 (by unfold bywA; rw [if_pos hcb, ebn, if_pos c42, if_pos e6]) (rfl)
      · refine lv_bipush (v := -3) hx hb (pc := 45) dX9_byWords_45 (by decide) ?_
        exact hret.1 47 _ (-3) dX9_byWords_47 (by unfold bywA; rw [if_pos hcb, ebn, if_neg (by omega)]) (rfl)
    · refine lv_bipush (v := -2) hx hb (pc := 20) dX9_byWords_20 (by decide) ?_
      have hcb : bywC nf FL FW (nI k) = false := by unfold bywC; rw [eck, decide_eq_false (by omega), Bool.and_false]
      exact hret.1 22 _ (-2) dX9_byWords_22 (by unfold bywA; rw [if_neg (by rw [hcb]; decide)]) (rfl)
theorem u0_X9_set (l : Launch) (K : rr_K) (A : Nat → Prop) {co cap room : Nat} {ns wl nf wd : Nat} {kF nF yF WD FL FW TD : Nat → Nat} (x : Int32) (y : Int32) (hN : NI ns wl nf wd kF nF yF WD FL FW TD) {H0 : Heap} (hA : ∀ q, H0.size ≤ q → A q) (hC : CI K A co cap room ns wl nf wd kF nF yF WD FL FW TD H0) : UX l K A yX9_set wsX9_set (fun mc9 ms9 => { frames := rmX9_set.frames, cells := mc9, slots := ms9, locals := rmX9_set.locals }) [.ref co, .int x, .int y] co cap room ns (cond (setOK ns x y) (ns + 1) ns) wl nf wd (cond (setOK ns x y) (va_up kF ns (cN x)) kF) (cond (setOK ns x y) (va_up nF ns (cN y)) nF) (cond (setOK ns x y) (zrF yF (64 * ns) 64) yF) WD FL FW TD (.int (setA ns x y)) H0 := by
  obtain ⟨ca, bh, my, lg, mk, mn, ms, xa, xb, xv, xw, mb, gF, BR, wB, dB, no, sl, wS, wR, wP, wV, wW, pR, bF, yB, gB, ks, pF, kn, nt, lp, ll, g1, g2, g3, TT, rfl, hP, hD, hG, hM, hl, hr, hrb, hBR⟩ := hC
  obtain ⟨hcap, hroom⟩ : cap ≤ 65536 ∧ room ≤ 65536 := ⟨hM.2.2.1, hrb⟩
  have hS9 := hN.1; have hW9 := hN.2.1; have hF9 := hN.2.2.1; have hw1 := hN.2.2.2.1; have hw := hN.2.2.2.2.1; have hTD := hN.2.2.2.2.2
  have hwl := hW9.1; have hnf := hF9.1; have hns := hS9.1
  have hga : ∀ i, i < ns → gF i = some (g1 i) := fun i hi => (hG i hi).1
  cases hx : setOK ns x y with
  | false =>
    dsimp only [cond]
    refine ⟨cap, room, Nat.le_refl _, Nat.le_refl _, hcap, hroom, ?_⟩
    rw [z3, z327]
    refine Met_or (fun a s h => ?_)
    obtain ⟨ha, hKK, rfl⟩ := h
    exact ⟨_, _, _, cb0_X9_set l K ca bh my lg mk mn ms xa xb xv xw ns wl nf wd room mb cap gF WD FL FW BR TD wB dB no sl wS wR wP wV wW pR bF yB gB ks pF kn lp ll x y hns hx, ⟨ha, hKK, hP⟩, PQ_GQ ⟨rfl, CI_mk rfl hP hD hG hM hl hr hrb hBR⟩, fun q h => h.elim⟩
  | true =>
    dsimp only [cond]
    obtain ⟨k1, k2, n1, n2, hn6⟩ := setOK_of hx
    rw [zrF_stE]
    refine ⟨cap, room, Nat.le_refl _, Nat.le_refl _, hcap, hroom, ?_⟩
    rw [z3n, z327n]
    refine Met_or (fun a s h => ?_)
    obtain ⟨ha, hKK, rfl⟩ := h
    have hA1 := A1_in hD hA
    have e0 : ∀ go ge gt, GW K go ge gt (cN x) (cN y) (waysS (cN x) (cN y) (fun _ => 0)) (liveS (cN x) (cN y) (fun _ => 0)) (lwS (cN x) (cN y) (liveS (cN x) (cN y) (fun _ => 0)) (fun _ => 0)) (fun _ => 0) (fun _ => 0) = GW K go ge gt (cN x) (cN y) 0 0 0 (fun _ => 0) (fun _ => 0) := fun go ge gt => by rw [live_0 n1, ways_0, lw_0]
    have hT0 : TInv (cN x) (cN y) (liveS (cN x) (cN y) (fun _ => 0)) (fun _ => 0) (fun _ => 0) := by rw [live_0 n1]; exact TInv_0 _ _
    exact ⟨_, _, _, cg_X9_set l K (va_A (XC K ca bh my lg mk mn ms xa xb xv xw ns wl nf wd room mb cap gF WD FL FW BR TD wB dB no sl wS wR wP wV wW pR bF yB gB ks pF kn lp ll) s.heap.size) s.heap.size ca bh my lg mk mn ms xa xb xv xw ns wl nf wd room mb cap gF WD FL FW BR TD wB dB no sl wS wR wP wV wW pR bF yB gB ks pF kn lp ll x y hns hx (fun q h => Or.inr h) hD.self, ⟨ha, hKK, rfl, hP⟩, GQ_mono hA1 (fun v H1 hY hF => by
      obtain ⟨hv, go, ge, gt, hP1, hD1⟩ := hY
      exact ⟨hv, CI_new (go := go) (ge := ge) (gt := gt) (k := cN x) (n := cN y) (E := fun _ => 0) (T := fun _ => 0) hA hS9 rfl hD hG hF (by rw [e0]; exact hP1) (by rw [e0]; exact hD1) k2 n2 hT0 hM hl hr hrb hBR⟩), hA1⟩
theorem u0_X9_byWords (l : Launch) (K : rr_K) (A : Nat → Prop) {co cap room : Nat} {ns wl nf wd : Nat} {kF nF yF WD FL FW TD : Nat → Nat} (x : Int32) (hN : NI ns wl nf wd kF nF yF WD FL FW TD) {H0 : Heap} (hA : ∀ q, H0.size ≤ q → A q) (hC : CI K A co cap room ns wl nf wd kF nF yF WD FL FW TD H0) : UX l K A yX9_byWords wsX9_byWords (fun mc9 ms9 => { frames := rmX9_byWords.frames, cells := mc9, slots := ms9, locals := rmX9_byWords.locals }) [.ref co, .int x] co cap room ns (cond (bywOK ns nf FL FW x) (ns + 1) ns) wl nf wd (cond (bywOK ns nf FL FW x) (va_up kF ns (cN x)) kF) (cond (bywOK ns nf FL FW x) (va_up nF ns (bywN nf FL x)) nF) (cond (bywOK ns nf FL FW x) (stE yF (64 * ns) (bywE nf FL FW x)) yF) WD FL FW TD (.int (bywA ns nf FL FW x)) H0 := by
  obtain ⟨ca, bh, my, lg, mk, mn, ms, xa, xb, xv, xw, mb, gF, BR, wB, dB, no, sl, wS, wR, wP, wV, wW, pR, bF, yB, gB, ks, pF, kn, nt, lp, ll, g1, g2, g3, TT, rfl, hP, hD, hG, hM, hl, hr, hrb, hBR⟩ := hC
  obtain ⟨hcap, hroom⟩ : cap ≤ 65536 ∧ room ≤ 65536 := ⟨hM.2.2.1, hrb⟩
  have hS9 := hN.1; have hW9 := hN.2.1; have hF9 := hN.2.2.1; have hw1 := hN.2.2.2.1; have hw := hN.2.2.2.2.1; have hTD := hN.2.2.2.2.2
  have hwl := hW9.1; have hnf := hF9.1; have hns := hS9.1
  have hga : ∀ i, i < ns → gF i = some (g1 i) := fun i hi => (hG i hi).1
  cases hx : bywOK ns nf FL FW x with
  | false =>
    dsimp only [cond]
    refine ⟨cap, room, Nat.le_refl _, Nat.le_refl _, hcap, hroom, ?_⟩
    rw [z3, z327]
    refine Met_or (fun a s h => ?_)
    obtain ⟨ha, hKK, rfl⟩ := h
    exact ⟨_, _, _, cb0_X9_byWords l K ca bh my lg mk mn ms xa xb xv xw ns wl nf wd room mb cap gF WD FL FW BR TD wB dB no sl wS wR wP wV wW pR bF yB gB ks pF kn lp ll x hns hF9 hx, ⟨ha, hKK, hP⟩, PQ_GQ ⟨rfl, CI_mk rfl hP hD hG hM hl hr hrb hBR⟩, fun q h => h.elim⟩
  | true =>
    dsimp only [cond]
    obtain ⟨k1, k2, n1, n2, hn6⟩ := bywOK_of hx
    refine ⟨cap, room, Nat.le_refl _, Nat.le_refl _, hcap, hroom, ?_⟩
    rw [z3n, z327n]
    refine Met_or (fun a s h => ?_)
    obtain ⟨ha, hKK, rfl⟩ := h
    have hA1 := A1_in hD hA
    exact ⟨_, _, _, cg_X9_byWords l K (va_A (XC K ca bh my lg mk mn ms xa xb xv xw ns wl nf wd room mb cap gF WD FL FW BR TD wB dB no sl wS wR wP wV wW pR bF yB gB ks pF kn lp ll) s.heap.size) s.heap.size ca bh my lg mk mn ms xa xb xv xw ns wl nf wd room mb cap gF WD FL FW BR TD wB dB no sl wS wR wP wV wW pR bF yB gB ks pF kn lp ll x hns hF9 hBR hx (fun q h => Or.inr h) hD.self, ⟨ha, hKK, rfl, hP⟩, GQ_mono hA1 (fun v H1 hY hF => by
      obtain ⟨hv, go, ge, gt, T', BR', hBR', hT', hP1, hD1⟩ := hY
      exact ⟨hv, CI_new hA hS9 rfl hD hG hF hP1 hD1 k2 n2 hT' hM hl hr hrb hBR'⟩), hA1⟩
