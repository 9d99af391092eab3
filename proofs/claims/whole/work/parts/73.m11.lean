abbrev rmX10_same : Room := { frames := 3, cells := 0, slots := 0, locals := 73 }
theorem inX10_same_10 : ∀ w ∈ wsX100, w ∈ wsX10_same := fun _ h => List.mem_cons_of_mem _ (List.mem_append_right _ h)
set_option maxHeartbeats 4000000 in
set_option maxRecDepth 100000 in
theorem c_X10_same (l : Launch) (K : rr_K) (A : Nat → Prop) (om : Nat) (ad : Nat → Nat) (ns wl nf wd mt : Nat) (kF nF yF WD FL FW TD RW pl nw xt vF wF qF bY gF : Nat → Nat) (nm xm : Nat → Int64) (fR oF hF dF : Nat → Int32) (x y : Int32) (hS9 : SOK ns kF nF yF) (hD : va_D A (XM K om ad ns wl nf wd mt kF nF yF WD FL FW TD RW pl nw xt vF wF qF bY gF nm xm fR oF hF dF)) : MetR l K yX10_same wsX10_same rmX10_same [.ref om, .int x, .int y] (fun H => va_P K.1 vwCl (XM K om ad ns wl nf wd mt kF nF yF WD FL FW TD RW pl nw xt vF wF qF bY gF nm xm fR oF hF dF) H) A (fun v H => v = .int (samA ns kF nF yF x y) ∧ ∃ mt' qF' fR' bY' oF' hF', va_P K.1 vwCl (XM K om ad ns (samL ns kF nF yF x y wl) nf wd mt' kF nF yF (samW ns kF nF yF x y WD) FL FW TD RW pl nw xt vF wF qF' bY' gF nm xm fR' oF' hF' dF) H) 0 0 := by
  refine metR_of (cc := cX10_same) (maxL := 12) (ret := (some .int)) (rt := .int) (by decide) rfl rfl rfl rfl (Nat.le_of_ble_eq_true rfl) ?_
  intro p e s m args below meth c Q ls hEnt hKK hX hret hl
  obtain ⟨hx, hb, hml, hown, hts⟩ := hEnt
  have hP : va_P K.1 vwCl (XM K om ad ns wl nf wd mt kF nF yF WD FL FW TD RW pl nw xt vF wF qF bY gF nm xm fR oF hF dF) s.heap := hX
  have hl : lv_has ls 12 [(0, .ref om), (1, .int x), (2, .int y)] := hl
  have hS : va_S A s.heap s.heap [] := va_S.rf
  refine lv_aload_n hx hb (pc := 0) dX10_same_0 rfl (lv_at hl 0 rfl) ?_
  refine lv_iload_n hx hb (pc := 1) dX10_same_1 rfl (lv_at hl 1 rfl) ?_
  refine rr_callP (rv := .int (bI (isS ns x))) (pc := 2) (va_runV (As := [.int x]) (rest := []) ⟨hx, hb, hml, hown, hts⟩ (c_X10_isSet l K om ad ns wl nf wd mt kF nF yF WD FL FW TD RW pl nw xt vF wF qF bY gF nm xm fR oF hF dF x) (cwV 1 hts gX10_same_X10_isSet rfl rfl rfl (by decide +kernel) ⟨Nat.le_of_ble_eq_true rfl, Nat.le_of_ble_eq_true rfl⟩) (rr_preV hKK (hP) (va_recv hKK.1 hP (ci := 10) (q0 := 0) rfl rfl)) rfl rfl hl.1 rfl (lv_room (Nat.le_of_ble_eq_true rfl)) dX10_same_2 ⟨Nat.le_refl _, Nat.le_refl _⟩) ?_
  refine nv_if_eq_b (a := (isS ns x)) (tgt := 16) hx hb (pc := 5) dX10_same_5 (by decide) (fun c5 => ?_) (fun c5 => ?_)
  · refine lv_bipush (v := -2) hx hb (pc := 16) dX10_same_16 (by decide) ?_
    have hno : smOK ns kF x y = false := by unfold smOK; rw [show (isS ns x && isS ns y) = false from by first | (rw [c5, c13]; rfl) | (rw [c5]; rfl)]; rfl
    exact hret.1 _ _ 0 0 18 _ (-2) dX10_same_18 (by omega) (by omega) hS (⟨by unfold samA; rw [if_neg (by rw [show (isS ns x && isS ns y) = false from by first | (rw [c5, c13]; rfl) | (rw [c5]; rfl)]; decide)], _, _, _, _, _, _, by unfold samL samW; rw [if_neg (by rw [hno]; decide), if_neg (by rw [hno]; decide)]; exact hP⟩) (rfl)
  · refine lv_aload_n hx hb (pc := 8) dX10_same_8 rfl (lv_at hl 0 rfl) ?_
    refine lv_iload_n hx hb (pc := 9) dX10_same_9 rfl (lv_at hl 2 rfl) ?_
    refine rr_callP (rv := .int (bI (isS ns y))) (pc := 10) (va_runV (As := [.int y]) (rest := []) ⟨hx, hb, hml, hown, hts⟩ (c_X10_isSet l K om ad ns wl nf wd mt kF nF yF WD FL FW TD RW pl nw xt vF wF qF bY gF nm xm fR oF hF dF y) (cwV 1 hts gX10_same_X10_isSet rfl rfl rfl (by decide +kernel) ⟨Nat.le_of_ble_eq_true rfl, Nat.le_of_ble_eq_true rfl⟩) (rr_preV hKK (hP) (va_recv hKK.1 hP (ci := 10) (q0 := 0) rfl rfl)) rfl rfl hl.1 rfl (lv_room (Nat.le_of_ble_eq_true rfl)) dX10_same_10 ⟨Nat.le_refl _, Nat.le_refl _⟩) ?_
    refine nv_if_ne_b (a := (isS ns y)) (tgt := 19) hx hb (pc := 13) dX10_same_13 (by decide) (fun c13 => ?_) (fun c13 => ?_)
    · have hns := hS9.1
      obtain ⟨j, hj6, rfl⟩ := isS_of (by omega) c5
      obtain ⟨s1j, s2j, s3j, s4j, s5j⟩ := hS9.2 j hj6
      have ecj : cN (nI j) = j := cN_nI (by omega)
      have hns := hS9.1
      obtain ⟨g, hg6, rfl⟩ := isS_of (by omega) c13
      obtain ⟨s1g, s2g, s3g, s4g, s5g⟩ := hS9.2 g hg6
      have ecg : cN (nI g) = g := cN_nI (by omega)
      have hlva := liveS_lt16 (k := kF j) (E := Es yF j) s4j
      have hlvb := liveS_lt16 (k := kF g) (E := Es yF g) s4g
      refine lv_aload_n hx hb (pc := 19) dX10_same_19 rfl (lv_at hl 0 rfl) ?_
      refine va_get (v := .ref (ad 1)) hx hb hts (inX10_same_10) hown hKK.1 hP 0 rfl rfl 1 (by decide) (hts _ (List.mem_of_getElem? (i := 1) (by decide +kernel))) (fun _ h9 => h9) rfl (pc := 20) dX10_same_20 ?_
      refine lv_iload_n hx hb (pc := 23) dX10_same_23 rfl (lv_at hl 1 rfl) ?_
      refine nv_iald (v := nI (kF j)) (i := j) hx hb hKK hP 1 rfl (by omega) (by decide) (rfl) (pc := 24) dX10_same_24 ?_
      refine lv_aload_n hx hb (pc := 25) dX10_same_25 rfl (lv_at hl 0 rfl) ?_
      refine va_get (v := .ref (ad 1)) hx hb hts (inX10_same_10) hown hKK.1 hP 0 rfl rfl 1 (by decide) (hts _ (List.mem_of_getElem? (i := 1) (by decide +kernel))) (fun _ h9 => h9) rfl (pc := 26) dX10_same_26 ?_
      refine lv_iload_n hx hb (pc := 29) dX10_same_29 rfl (lv_at hl 2 rfl) ?_
      refine nv_iald (v := nI (kF g)) (i := g) hx hb hKK hP 1 rfl (by omega) (by decide) (rfl) (pc := 30) dX10_same_30 ?_
      refine nv_icmp_eq (a := (kF j)) (b := (kF g)) (tgt := 37) hx hb (pc := 31) dX10_same_31 (by decide) (by omega) (by omega) (fun c31 => ?_) (fun c31 => ?_)
      · refine lv_aload_n hx hb (pc := 37) dX10_same_37 rfl (lv_at hl 0 rfl) ?_
        refine lv_iload_n hx hb (pc := 38) dX10_same_38 rfl (lv_at hl 1 rfl) ?_
        refine rr_callP (rv := .int (nI (liveS (kF j) (nF j) (Es yF j)))) (pc := 39) (va_runV (As := [.int (nI j)]) (rest := []) ⟨hx, hb, hml, hown, hts⟩ (c_X10_liveOf l K om ad ns wl nf wd mt kF nF yF WD FL FW TD RW pl nw xt vF wF qF bY gF nm xm fR oF hF dF j (by omega) s2j s4j s5j) (cwV 1 hts gX10_same_X10_liveOf rfl rfl rfl (by decide +kernel) ⟨Nat.le_of_ble_eq_true rfl, Nat.le_of_ble_eq_true rfl⟩) (rr_preV hKK (hP) (va_recv hKK.1 hP (ci := 10) (q0 := 0) rfl rfl)) rfl rfl hl.1 rfl (lv_room (Nat.le_of_ble_eq_true rfl)) dX10_same_39 ⟨Nat.le_refl _, Nat.le_refl _⟩) ?_
        refine lv_istore_n (lv' := [(3, .int (nI (liveS (kF j) (nF j) (Es yF j)))), (0, .ref om), (1, .int (nI j)), (2, .int (nI g))]) hx hb (pc := 42) dX10_same_42 rfl hl (by decide) rfl (fun ls hl => ?_)
        refine lv_aload_n hx hb (pc := 43) dX10_same_43 rfl (lv_at hl 1 rfl) ?_
        refine lv_iload_n hx hb (pc := 44) dX10_same_44 rfl (lv_at hl 3 rfl) ?_
        refine rr_callP (rv := .int (nI (liveS (kF g) (nF g) (Es yF g)))) (pc := 45) (va_runV (As := [.int (nI g)]) (rest := []) ⟨hx, hb, hml, hown, hts⟩ (c_X10_liveOf l K om ad ns wl nf wd mt kF nF yF WD FL FW TD RW pl nw xt vF wF qF bY gF nm xm fR oF hF dF g (by omega) s2g s4g s5g) (cwV 1 hts gX10_same_X10_liveOf rfl rfl rfl (by decide +kernel) ⟨Nat.le_of_ble_eq_true rfl, Nat.le_of_ble_eq_true rfl⟩) (rr_preV hKK (hP) (va_recv hKK.1 hP (ci := 10) (q0 := 0) rfl rfl)) rfl rfl hl.1 rfl (lv_room (Nat.le_of_ble_eq_true rfl)) dX10_same_45 ⟨Nat.le_refl _, Nat.le_refl _⟩) ?_
        refine lv_istore (lv' := [(4, .int (nI (liveS (kF g) (nF g) (Es yF g)))), (3, .int (nI (liveS (kF j) (nF j) (Es yF j)))), (0, .ref om), (1, .int (nI j)), (2, .int (nI g))]) hx hb (pc := 48) dX10_same_48 hl (by decide) rfl (fun ls hl => ?_)
        refine lv_aload_n hx hb (pc := 50) dX10_same_50 rfl (lv_at hl 2 rfl) ?_
        refine rr_callV (pc := 51) (va_runV (As := []) (rest := []) ⟨hx, hb, hml, hown, hts⟩ (c_X10_forget l K A om ad ns wl nf wd mt kF nF yF WD FL FW TD RW pl nw xt vF wF qF bY gF nm xm fR oF hF dF hD) (cwV 0 hts gX10_same_X10_forget rfl rfl rfl (by decide +kernel) ⟨Nat.le_of_ble_eq_true rfl, Nat.le_of_ble_eq_true rfl⟩) (rr_preV hKK (hP) (va_recv hKK.1 hP (ci := 10) (q0 := 0) rfl rfl)) rfl rfl hl.1 rfl (lv_room (Nat.le_of_ble_eq_true rfl)) dX10_same_51 ⟨by omega, by omega⟩) hS (fun _ h => h) (fun H locs hY hsz hfr hS => ?_)
        have hP := hY
        have hD : va_D A (XM K om ad ns wl nf wd 0 kF nF yF WD FL FW TD RW pl nw xt vF wF qF bY gF nm xm fR oF (putZ hF (fun _ => -1) 32768) dF) := rr_D hD rfl
        have hP : va_P K.1 vwCl (XM K om ad ns wl nf wd 0 kF nF yF WD FL FW TD RW pl nw xt vF wF qF bY gF nm xm fR oF (putZ hF (fun _ => -1) 32768) dF) H := hP
        refine lv_aload_n hx hb (pc := 54) dX10_same_54 rfl (lv_at hl 2 rfl) ?_
        refine lv_iload_n hx hb (pc := 55) dX10_same_55 rfl (lv_at hl 1 rfl) ?_
        refine lv_i2l (v := lN (liveS (kF j) (nF j) (Es yF j))) hx hb (pc := 56) dX10_same_56 (nI_l (by omega)) ?_
        refine lv_bipush (v := nI 16) hx hb (pc := 57) dX10_same_57 (by decide) ?_
        refine lv_lshl (v := lN ((liveS (kF j) (nF j) (Es yF j)) <<< 16)) hx hb (pc := 59) dX10_same_59 (lN_shl _ (by decide)) ?_
        refine lv_iload hx hb (pc := 60) dX10_same_60 (lv_at hl 0 rfl) ?_
        refine lv_i2l (v := lN (liveS (kF g) (nF g) (Es yF g))) hx hb (pc := 62) dX10_same_62 (nI_l (by omega)) ?_
        refine lv_lor hx hb (pc := 63) dX10_same_63 ?_
        refine rr_top (v := .long (lN ((liveS (kF j) (nF j) (Es yF j)) <<< 16 ||| (liveS (kF g) (nF g) (Es yF g))))) (congrArg Value.long (lN_or _ _)) ?_
        refine lv_iconst (v := -1) hx hb (pc := 64) dX10_same_64 (by decide) ?_
        refine lv_iconst (v := nI 0) hx hb (pc := 65) dX10_same_65 (by decide) ?_
        refine rr_callR (pc := 66) (va_runV (As := [.long (lN ((liveS (kF j) (nF j) (Es yF j)) <<< 16 ||| (liveS (kF g) (nF g) (Es yF g)))), .int (-1), .int (nI 0)]) (rest := []) ⟨hx, hb, hml, hown, hts⟩ (c_X10_meets l K A om ad ns wl nf wd 0 kF nF yF WD FL FW TD RW pl nw xt vF wF qF bY gF nm xm fR oF (putZ hF (fun _ => -1) 32768) dF ((liveS (kF j) (nF j) (Es yF j)) <<< 16 ||| (liveS (kF g) (nF g) (Es yF g))) 0 (-1) [] rfl (by decide) HC_0 (fun i hi => absurd hi (Nat.not_lt_zero _)) (fun x hx => absurd hx List.not_mem_nil) (Nat.lt_trans (pk16_lt hlva hlvb) (by decide)) hD) (cwV 3 hts gX10_same_X10_meets rfl rfl rfl (by decide +kernel) ⟨Nat.le_of_ble_eq_true rfl, Nat.le_of_ble_eq_true rfl⟩) (rr_preV hKK (hP) (va_recv hKK.1 hP (ci := 10) (q0 := 0) rfl rfl)) rfl rfl hl.1 rfl (lv_room (Nat.le_of_ble_eq_true rfl)) dX10_same_66 ⟨by omega, by omega⟩) hS (fun _ h => h) (fun v H locs hY hsz hfr hS => ?_)
        obtain ⟨rfl, oF', hF', hHC0, hP⟩ := hY
        have hn9 : ((liveS (kF j) (nF j) (Es yF j)) <<< 16 ||| (liveS (kF g) (nF g) (Es yF g))) ∉ ([] : List Nat) := List.not_mem_nil
        rw [adK_new hn9] at hHC0
        have hD : va_D A (XM K om ad ns wl nf wd (([((liveS (kF j) (nF j) (Es yF j)) <<< 16 ||| (liveS (kF g) (nF g) (Es yF g)))] : List Nat).length) kF nF yF WD FL FW TD RW pl nw xt vF wF (va_up qF 0 ((liveS (kF j) (nF j) (Es yF j)) <<< 16 ||| (liveS (kF g) (nF g) (Es yF g)))) (va_up bY 0 0) gF nm xm (va_up fR 0 (-1)) oF' hF' dF) := rr_D hD rfl
        rw [adK_new hn9, if_neg hn9, if_neg hn9, if_neg hn9] at hP
        have hP : va_P K.1 vwCl (XM K om ad ns wl nf wd (([((liveS (kF j) (nF j) (Es yF j)) <<< 16 ||| (liveS (kF g) (nF g) (Es yF g)))] : List Nat).length) kF nF yF WD FL FW TD RW pl nw xt vF wF (va_up qF 0 ((liveS (kF j) (nF j) (Es yF j)) <<< 16 ||| (liveS (kF g) (nF g) (Es yF g)))) (va_up bY 0 0) gF nm xm (va_up fR 0 (-1)) oF' hF' dF) H := hP
        refine lv_istore (lv' := [(5, .int (bI (!(decide (((liveS (kF j) (nF j) (Es yF j)) <<< 16 ||| (liveS (kF g) (nF g) (Es yF g))) ∈ ([] : List Nat)))))), (4, .int (nI (liveS (kF g) (nF g) (Es yF g)))), (3, .int (nI (liveS (kF j) (nF j) (Es yF j)))), (0, .ref om), (1, .int (nI j)), (2, .int (nI g))]) hx hb (pc := 69) dX10_same_69 hl (by decide) rfl (fun ls hl => ?_)
        have L103 : ∀ (fz : Nat) (pp : Nat) (f : Nat) (kn : List Nat) (nt : List Nat) (cp : Nat) (qF1 : Nat → Nat) (bY1 : Nat → Nat) (fR1 : Nat → Int32) (oF1 : Nat → Int32) (hF1 : Nat → Int32) (H : Heap) (locs : List Loc) (hP : va_P K.1 vwCl (XM K om ad ns wl nf wd kn.length kF nF yF WD FL FW TD RW pl nw xt vF wF qF1 bY1 gF nm xm fR1 oF1 hF1 dF) H) (hD : va_D A (XM K om ad ns wl nf wd kn.length kF nF yF WD FL FW TD RW pl nw xt vF wF qF1 bY1 gF nm xm fR1 oF1 hF1 dF)) (hS : va_S A s.heap H locs) (hfz : 20001 - pp < fz) (hR : (smR kF nF yF j g) = pgo (ldS (kF j) (nF j) (Es yF j) (liveS (kF j) (nF j) (Es yF j))) (ldS (kF j) (nF g) (Es yF g) (liveS (kF g) (nF g) (Es yF g))) (kF j) f pp 0 kn nt cp) (hf : 130000 ≤ f + 5 * pp) (hpp : pp ≤ kn.length) (hPR : PRS kn nt (liveS (kF j) (nF j) (Es yF j)) (liveS (kF g) (nF g) (Es yF g))) (hHC : HC kn oF1 hF1) (hKQ : KQ kn qF1) (hNQ : NQ nt fR1 bY1) (ls : Array Slot) (hl : lv_has ls 12 [(0, .ref om), (1, .int (nI j)), (2, .int (nI g)), (3, .int (nI (liveS (kF j) (nF j) (Es yF j)))), (4, .int (nI (liveS (kF g) (nF g) (Es yF g)))), (6, .int (nI pp))]), W p l e rmX10_same s m args below meth c H locs 0 0 Q (F0 m 103 ls []) := by
          intro fz; induction fz with
          | zero => intro pp f kn nt cp qF1 bY1 fR1 oF1 hF1 H locs hP hD hS hfz hR hf hpp hPR hHC hKQ hNQ ls hl; exact absurd hfz (Nat.not_lt_zero _)
          | succ fz ih103 =>
            intro pp f kn nt cp qF1 bY1 fR1 oF1 hF1 H locs hP hD hS hfz hR hf hpp hPR hHC hKQ hNQ ls hl
            obtain ⟨hnl, hk20, hkb, hnok, h00, hn31⟩ := hPR
            have hPR : PRS kn nt (liveS (kF j) (nF j) (Es yF j)) (liveS (kF g) (nF g) (Es yF g)) := ⟨hnl, hk20, hkb, hnok, h00, hn31⟩
            have hkl9 := hk20
            refine lv_iload hx hb (pc := 103) dX10_same_103 (lv_at hl 5 rfl) ?_
            refine lv_aload_n hx hb (pc := 105) dX10_same_105 rfl (lv_at hl 0 rfl) ?_
            refine va_get (v := .int (nI kn.length)) hx hb hts (inX10_same_10) hown hKK.1 hP 0 rfl rfl 24 (by decide) (hts _ (List.mem_of_getElem? (i := 3) (by decide +kernel))) (fun _ h9 => h9) rfl (pc := 106) dX10_same_106 ?_
            refine nv_icmp_ge (a := pp) (b := kn.length) (tgt := 262) hx hb (pc := 109) dX10_same_109 (by decide) (by omega) (by omega) (fun c109 => ?_) (fun c109 => ?_)
            · refine lv_iconst (v := nI 1) hx hb (pc := 262) dX10_same_262 (by decide) ?_
              obtain ⟨f0, hf0⟩ : ∃ f0, f = f0 + 1 := ⟨f - 1, by omega⟩
              have hok : smOK ns kF (nI j) (nI g) = true := by unfold smOK; rw [c5, c13, ecj, ecg, decide_eq_true c31]; rfl
              have hcd : (smR kF nF yF j g).1.1 = 0 := by rw [hR, hf0, pgo_ge (by omega)]
              have hwl9 : samL ns kF nF yF (nI j) (nI g) wl = wl := by unfold samL rsL; rw [if_pos hok, ecj, ecg, hcd, if_neg (by decide), if_neg (by decide)]
              have hwd9 : samW ns kF nF yF (nI j) (nI g) WD = WD := by unfold samW rsW; rw [if_pos hok, ecj, ecg, hcd, if_neg (by decide)]
              exact hret.1 _ _ 0 0 263 _ (nI 1) dX10_same_263 (by omega) (by omega) hS (⟨by unfold samA; rw [if_pos (by rw [c5, c13]; rfl), ecj, ecg, if_pos c31, hcd]; rfl, _, _, _, _, _, _, by rw [hwl9, hwd9]; exact hP⟩) (rfl)
            · obtain ⟨f0, hf0⟩ : ∃ f0, f = f0 + 1 := ⟨f - 1, by omega⟩
              obtain ⟨K9, hK9⟩ : ∃ K9, K9 = kn.getD pp 0 := ⟨_, rfl⟩
              obtain ⟨hK1, hK2, hK3⟩ := hkb _ (mem_getD c109)
              rw [← hK9] at hK1 hK2 hK3
              have hKr := shr_le K9 16
              have hKx := Nat.lt_of_le_of_lt (sub_le hK2) hlva
              have hKy := Nat.lt_of_le_of_lt (sub_le hK3) hlvb
              refine lv_aload_n hx hb (pc := 112) dX10_same_112 rfl (lv_at hl 0 rfl) ?_
              refine va_get (v := .ref (ad 19)) hx hb hts (inX10_same_10) hown hKK.1 hP 0 rfl rfl 19 (by decide) (hts _ (List.mem_of_getElem? (i := 4) (by decide +kernel))) (fun _ h9 => h9) rfl (pc := 113) dX10_same_113 ?_
              refine lv_iload hx hb (pc := 116) dX10_same_116 (lv_at hl 5 rfl) ?_
              refine nv_lald (v := lN K9) (i := pp) hx hb hKK hP 16 rfl (by omega) (by decide) (congrArg lN ((hKQ pp c109).trans hK9.symm)) (pc := 118) dX10_same_118 ?_
              refine lv_bipush (v := nI 16) hx hb (pc := 119) dX10_same_119 (by decide) ?_
              refine lv_lshr (v := lN (K9 >>> 16)) hx hb (pc := 121) dX10_same_121 (rr_lshr (by omega) (by decide)) ?_
              refine lv_l2i (v := nI (K9 >>> 16)) hx hb (pc := 122) dX10_same_122 (lN_i _) ?_
              refine lv_istore (lv' := [(7, .int (nI (K9 >>> 16))), (0, .ref om), (1, .int (nI j)), (2, .int (nI g)), (3, .int (nI (liveS (kF j) (nF j) (Es yF j)))), (4, .int (nI (liveS (kF g) (nF g) (Es yF g)))), (6, .int (nI pp))]) hx hb (pc := 123) dX10_same_123 hl (by decide) rfl (fun ls hl => ?_)
              refine lv_aload_n hx hb (pc := 125) dX10_same_125 rfl (lv_at hl 1 rfl) ?_
              refine va_get (v := .ref (ad 19)) hx hb hts (inX10_same_10) hown hKK.1 hP 0 rfl rfl 19 (by decide) (hts _ (List.mem_of_getElem? (i := 4) (by decide +kernel))) (fun _ h9 => h9) rfl (pc := 126) dX10_same_126 ?_
              refine lv_iload hx hb (pc := 129) dX10_same_129 (lv_at hl 6 rfl) ?_
              refine nv_lald (v := lN K9) (i := pp) hx hb hKK hP 16 rfl (by omega) (by decide) (congrArg lN ((hKQ pp c109).trans hK9.symm)) (pc := 131) dX10_same_131 ?_
              refine lv_ldc2 (v := lN 65535) hx hb (pc := 132) hown (hts _ (List.mem_of_getElem? (i := 5) (by decide +kernel))) dX10_same_132 ?_
              refine lv_land hx hb (pc := 135) dX10_same_135 ?_
              refine rr_top (v := .long (lN (K9 &&& 65535))) (congrArg Value.long (lN_and _ _)) ?_
              refine lv_l2i (v := nI (K9 &&& 65535)) hx hb (pc := 136) dX10_same_136 (lN_i _) ?_
              refine lv_istore (lv' := [(8, .int (nI (K9 &&& 65535))), (7, .int (nI (K9 >>> 16))), (0, .ref om), (1, .int (nI j)), (2, .int (nI g)), (3, .int (nI (liveS (kF j) (nF j) (Es yF j)))), (4, .int (nI (liveS (kF g) (nF g) (Es yF g)))), (6, .int (nI pp))]) hx hb (pc := 137) dX10_same_137 hl (by decide) rfl (fun ls hl => ?_)
              refine lv_iconst (v := nI 0) hx hb (pc := 139) dX10_same_139 (by decide) ?_
              refine lv_istore (lv' := [(9, .int (nI 0)), (8, .int (nI (K9 &&& 65535))), (7, .int (nI (K9 >>> 16))), (0, .ref om), (1, .int (nI j)), (2, .int (nI g)), (3, .int (nI (liveS (kF j) (nF j) (Es yF j)))), (4, .int (nI (liveS (kF g) (nF g) (Es yF g)))), (6, .int (nI pp))]) hx hb (pc := 140) dX10_same_140 hl (by decide) rfl (fun ls hl => ?_)
              have L142 : ∀ (fz : Nat) (l9 : Nat) (f : Nat) (kn : List Nat) (nt : List Nat) (cp : Nat) (qF1 : Nat → Nat) (bY1 : Nat → Nat) (fR1 : Nat → Int32) (oF1 : Nat → Int32) (hF1 : Nat → Int32) (H : Heap) (locs : List Loc) (hP : va_P K.1 vwCl (XM K om ad ns wl nf wd kn.length kF nF yF WD FL FW TD RW pl nw xt vF wF qF1 bY1 gF nm xm fR1 oF1 hF1 dF) H) (hD : va_D A (XM K om ad ns wl nf wd kn.length kF nF yF WD FL FW TD RW pl nw xt vF wF qF1 bY1 gF nm xm fR1 oF1 hF1 dF)) (hS : va_S A s.heap H locs) (hfz : kF j - l9 < fz) (hl9 : l9 ≤ kF j) (hR2 : (smR kF nF yF j g) = pgo (ldS (kF j) (nF j) (Es yF j) (liveS (kF j) (nF j) (Es yF j))) (ldS (kF j) (nF g) (Es yF g) (liveS (kF g) (nF g) (Es yF g))) (kF j) (f + 1) pp l9 kn nt cp) (hf2 : 130000 ≤ f + 1 + 5 * pp + l9) (hpl2 : pp < kn.length) (hK9 : kn.getD pp 0 = K9) (hPR2 : PRS kn nt (liveS (kF j) (nF j) (Es yF j)) (liveS (kF g) (nF g) (Es yF g))) (hHC2 : HC kn oF1 hF1) (hKQ2 : KQ kn qF1) (hNQ2 : NQ nt fR1 bY1) (ls : Array Slot) (hl : lv_has ls 12 [(0, .ref om), (1, .int (nI j)), (2, .int (nI g)), (3, .int (nI (liveS (kF j) (nF j) (Es yF j)))), (4, .int (nI (liveS (kF g) (nF g) (Es yF g)))), (6, .int (nI pp)), (7, .int (nI (K9 >>> 16))), (8, .int (nI (K9 &&& 65535))), (9, .int (nI l9))]), W p l e rmX10_same s m args below meth c H locs 0 0 Q (F0 m 142 ls []) := by
                intro fz; induction fz with
                | zero => intro l9 f kn nt cp qF1 bY1 fR1 oF1 hF1 H locs hP hD hS hfz hl9 hR2 hf2 hpl2 hK9 hPR2 hHC2 hKQ2 hNQ2 ls hl; exact absurd hfz (Nat.not_lt_zero _)
                | succ fz ih142 =>
                  intro l9 f kn nt cp qF1 bY1 fR1 oF1 hF1 H locs hP hD hS hfz hl9 hR2 hf2 hpl2 hK9 hPR2 hHC2 hKQ2 hNQ2 ls hl
                  have hk29 := hPR2.2.1
                  refine lv_iload hx hb (pc := 142) dX10_same_142 (lv_at hl 8 rfl) ?_
                  refine lv_aload_n hx hb (pc := 144) dX10_same_144 rfl (lv_at hl 0 rfl) ?_
                  refine va_get (v := .ref (ad 1)) hx hb hts (inX10_same_10) hown hKK.1 hP 0 rfl rfl 1 (by decide) (hts _ (List.mem_of_getElem? (i := 1) (by decide +kernel))) (fun _ h9 => h9) rfl (pc := 145) dX10_same_145 ?_
                  refine lv_iload_n hx hb (pc := 148) dX10_same_148 rfl (lv_at hl 1 rfl) ?_
                  refine nv_iald (v := nI (kF j)) (i := j) hx hb hKK hP 1 rfl (by omega) (by decide) (rfl) (pc := 149) dX10_same_149 ?_
                  refine nv_icmp_ge (a := l9) (b := (kF j)) (tgt := 256) hx hb (pc := 150) dX10_same_150 (by decide) (by omega) (by omega) (fun c150 => ?_) (fun c150 => ?_)
                  · refine lv_iinc (v := nI (pp + 1)) (lv' := [(6, .int (nI (pp + 1))), (0, .ref om), (1, .int (nI j)), (2, .int (nI g)), (3, .int (nI (liveS (kF j) (nF j) (Es yF j)))), (4, .int (nI (liveS (kF g) (nF g) (Es yF g)))), (7, .int (nI (K9 >>> 16))), (8, .int (nI (K9 &&& 65535))), (9, .int (nI l9))]) hx hb (pc := 256) dX10_same_256 hl (k := 5) rfl (rr_inc _) (by decide) rfl (fun ls hl => ?_)
                    refine lv_goto (tgt := 103) hx hb (pc := 259) dX10_same_259 (by decide) ?_
                    exact ih103 (pp + 1) _ _ _ _ qF1 bY1 fR1 oF1 hF1 _ _ hP hD hS (by have := hPR2.2.1; omega) (by rw [hR2, pgo_row hpl2 (by omega)]) (by omega) (by omega) (hPR2) (hHC2) (hKQ2) (hNQ2) ls (lv_sub hl [1, 2, 3, 4, 5, 0] rfl)
                  · obtain ⟨f1, hf1⟩ : ∃ f1, f = f1 + 1 := ⟨f - 1, by omega⟩
                    have hlk : l9 < 4 := by omega
                    refine lv_aload_n hx hb (pc := 153) dX10_same_153 rfl (lv_at hl 0 rfl) ?_
                    refine lv_iload_n hx hb (pc := 154) dX10_same_154 rfl (lv_at hl 1 rfl) ?_
                    refine lv_iload_n hx hb (pc := 155) dX10_same_155 rfl (lv_at hl 3 rfl) ?_
                    refine lv_iload hx hb (pc := 156) dX10_same_156 (lv_at hl 6 rfl) ?_
                    refine lv_iload hx hb (pc := 158) dX10_same_158 (lv_at hl 8 rfl) ?_
                    refine rr_callP (rv := .int (nI (ldS (kF j) (nF j) (Es yF j) (liveS (kF j) (nF j) (Es yF j)) (K9 >>> 16) l9))) (pc := 160) (va_runV (As := [.int (nI j), .int (nI (liveS (kF j) (nF j) (Es yF j))), .int (nI (K9 >>> 16)), .int (nI l9)]) (rest := []) ⟨hx, hb, hml, hown, hts⟩ (c_X10_lead l K om ad ns wl nf wd kn.length kF nF yF WD FL FW TD RW pl nw xt vF wF qF1 bY1 gF nm xm fR1 oF1 hF1 dF j (liveS (kF j) (nF j) (Es yF j)) (K9 >>> 16) l9 (by omega) s2j s4j s5j hKx hlk) (cwV 4 hts gX10_same_X10_lead rfl rfl rfl (by decide +kernel) ⟨Nat.le_of_ble_eq_true rfl, Nat.le_of_ble_eq_true rfl⟩) (rr_preV hKK (hP) (va_recv hKK.1 hP (ci := 10) (q0 := 0) rfl rfl)) rfl rfl hl.1 rfl (lv_room (Nat.le_of_ble_eq_true rfl)) dX10_same_160 ⟨Nat.le_refl _, Nat.le_refl _⟩) ?_
                    refine lv_istore (lv' := [(10, .int (nI (ldS (kF j) (nF j) (Es yF j) (liveS (kF j) (nF j) (Es yF j)) (K9 >>> 16) l9))), (0, .ref om), (1, .int (nI j)), (2, .int (nI g)), (3, .int (nI (liveS (kF j) (nF j) (Es yF j)))), (4, .int (nI (liveS (kF g) (nF g) (Es yF g)))), (6, .int (nI pp)), (7, .int (nI (K9 >>> 16))), (8, .int (nI (K9 &&& 65535))), (9, .int (nI l9))]) hx hb (pc := 163) dX10_same_163 hl (by decide) rfl (fun ls hl => ?_)
                    refine lv_aload_n hx hb (pc := 165) dX10_same_165 rfl (lv_at hl 1 rfl) ?_
                    refine lv_iload_n hx hb (pc := 166) dX10_same_166 rfl (lv_at hl 3 rfl) ?_
                    refine lv_iload hx hb (pc := 167) dX10_same_167 (lv_at hl 5 rfl) ?_
                    refine lv_iload hx hb (pc := 169) dX10_same_169 (lv_at hl 8 rfl) ?_
                    refine lv_iload hx hb (pc := 171) dX10_same_171 (lv_at hl 9 rfl) ?_
                    refine rr_callP (rv := .int (nI (ldS (kF g) (nF g) (Es yF g) (liveS (kF g) (nF g) (Es yF g)) (K9 &&& 65535) l9))) (pc := 173) (va_runV (As := [.int (nI g), .int (nI (liveS (kF g) (nF g) (Es yF g))), .int (nI (K9 &&& 65535)), .int (nI l9)]) (rest := []) ⟨hx, hb, hml, hown, hts⟩ (c_X10_lead l K om ad ns wl nf wd kn.length kF nF yF WD FL FW TD RW pl nw xt vF wF qF1 bY1 gF nm xm fR1 oF1 hF1 dF g (liveS (kF g) (nF g) (Es yF g)) (K9 &&& 65535) l9 (by omega) s2g s4g s5g hKy hlk) (cwV 4 hts gX10_same_X10_lead rfl rfl rfl (by decide +kernel) ⟨Nat.le_of_ble_eq_true rfl, Nat.le_of_ble_eq_true rfl⟩) (rr_preV hKK (hP) (va_recv hKK.1 hP (ci := 10) (q0 := 0) rfl rfl)) rfl rfl hl.1 rfl (lv_room (Nat.le_of_ble_eq_true rfl)) dX10_same_173 ⟨Nat.le_refl _, Nat.le_refl _⟩) ?_
                    refine rr_top (v := .int (nI (ldS (kF j) (nF g) (Es yF g) (liveS (kF g) (nF g) (Es yF g)) (K9 &&& 65535) l9))) (by rw [← c31]) ?_
                    have hxs : sub (ldS (kF j) (nF j) (Es yF j) (liveS (kF j) (nF j) (Es yF j)) (K9 >>> 16) l9) (liveS (kF j) (nF j) (Es yF j)) := ldS_sub _ _ _ _ _ _
                    have hys : sub (ldS (kF j) (nF g) (Es yF g) (liveS (kF g) (nF g) (Es yF g)) (K9 &&& 65535) l9) (liveS (kF g) (nF g) (Es yF g)) := ldS_sub _ _ _ _ _ _
                    have hx6 := Nat.lt_of_le_of_lt (sub_le hxs) hlva
                    have hy6 := Nat.lt_of_le_of_lt (sub_le hys) hlvb
                    have hkey := pk16_lt hx6 hy6
                    refine lv_istore (lv' := [(11, .int (nI (ldS (kF j) (nF g) (Es yF g) (liveS (kF g) (nF g) (Es yF g)) (K9 &&& 65535) l9))), (10, .int (nI (ldS (kF j) (nF j) (Es yF j) (liveS (kF j) (nF j) (Es yF j)) (K9 >>> 16) l9))), (0, .ref om), (1, .int (nI j)), (2, .int (nI g)), (3, .int (nI (liveS (kF j) (nF j) (Es yF j)))), (4, .int (nI (liveS (kF g) (nF g) (Es yF g)))), (6, .int (nI pp)), (7, .int (nI (K9 >>> 16))), (8, .int (nI (K9 &&& 65535))), (9, .int (nI l9))]) hx hb (pc := 176) dX10_same_176 hl (by decide) rfl (fun ls hl => ?_)
                    refine lv_iload hx hb (pc := 178) dX10_same_178 (lv_at hl 1 rfl) ?_
                    refine nv_if_ne (a := (ldS (kF j) (nF j) (Es yF j) (liveS (kF j) (nF j) (Es yF j)) (K9 >>> 16) l9)) (tgt := 187) hx hb (pc := 180) dX10_same_180 (by decide) (by omega) (fun c180 => ?_) (fun c180 => ?_)
                    · refine lv_iconst (v := nI 0) hx hb (pc := 187) dX10_same_187 (by decide) ?_
                      refine lv_iload hx hb (pc := 188) dX10_same_188 (lv_at hl 0 rfl) ?_
                      refine nv_if_ne (a := (ldS (kF j) (nF g) (Es yF g) (liveS (kF g) (nF g) (Es yF g)) (K9 &&& 65535) l9)) (tgt := 197) hx hb (pc := 190) dX10_same_190 (by decide) (by omega) (fun c190 => ?_) (fun c190 => ?_)
                      · refine lv_iconst (v := nI 0) hx hb (pc := 197) dX10_same_197 (by decide) ?_
                        refine nv_icmp_eq (a := 0) (b := 0) (tgt := 211) hx hb (pc := 198) dX10_same_198 (by decide) (by decide) (by decide) (fun _ => ?_) (fun h => absurd h (by decide))
                        have hnc : ¬ (((ldS (kF j) (nF j) (Es yF j) (liveS (kF j) (nF j) (Es yF j))) (kn.getD pp 0 >>> 16) l9 = 0) ≠ ((ldS (kF j) (nF g) (Es yF g) (liveS (kF g) (nF g) (Es yF g))) (kn.getD pp 0 &&& 65535) l9 = 0)) := by rw [hK9]; first | exact rr_eq1 c180 c190 | exact rr_eq2 c180 c190
                        have hx00 := c180
                        refine lv_iload hx hb (pc := 211) dX10_same_211 (lv_at hl 1 rfl) ?_
                        refine nv_if_eq (a := (ldS (kF j) (nF j) (Es yF j) (liveS (kF j) (nF j) (Es yF j)) (K9 >>> 16) l9)) (tgt := 250) hx hb (pc := 213) dX10_same_213 (by decide) (by omega) (fun c213 => absurd c213 c180) (fun c213 => ?_)
                        refine lv_aload_n hx hb (pc := 216) dX10_same_216 rfl (lv_at hl 2 rfl) ?_
                        refine lv_iload hx hb (pc := 217) dX10_same_217 (lv_at hl 1 rfl) ?_
                        refine lv_i2l (v := lN (ldS (kF j) (nF j) (Es yF j) (liveS (kF j) (nF j) (Es yF j)) (K9 >>> 16) l9)) hx hb (pc := 219) dX10_same_219 (nI_l (by omega)) ?_
                        refine lv_bipush (v := nI 16) hx hb (pc := 220) dX10_same_220 (by decide) ?_
                        refine lv_lshl (v := lN ((ldS (kF j) (nF j) (Es yF j) (liveS (kF j) (nF j) (Es yF j)) (K9 >>> 16) l9) <<< 16)) hx hb (pc := 222) dX10_same_222 (lN_shl _ (by decide)) ?_
                        refine lv_iload hx hb (pc := 223) dX10_same_223 (lv_at hl 0 rfl) ?_
                        refine lv_i2l (v := lN (ldS (kF j) (nF g) (Es yF g) (liveS (kF g) (nF g) (Es yF g)) (K9 &&& 65535) l9)) hx hb (pc := 225) dX10_same_225 (nI_l (by omega)) ?_
                        refine lv_lor hx hb (pc := 226) dX10_same_226 ?_
                        refine rr_top (v := .long (lN (ldS (kF j) (nF j) (Es yF j) (liveS (kF j) (nF j) (Es yF j)) (K9 >>> 16) l9 <<< 16 ||| ldS (kF j) (nF g) (Es yF g) (liveS (kF g) (nF g) (Es yF g)) (K9 &&& 65535) l9))) (congrArg Value.long (lN_or _ _)) ?_
                        refine lv_iload hx hb (pc := 227) dX10_same_227 (lv_at hl 7 rfl) ?_
                        refine lv_iload hx hb (pc := 229) dX10_same_229 (lv_at hl 10 rfl) ?_
                        refine rr_callR (pc := 231) (va_runV (As := [.long (lN (ldS (kF j) (nF j) (Es yF j) (liveS (kF j) (nF j) (Es yF j)) (K9 >>> 16) l9 <<< 16 ||| ldS (kF j) (nF g) (Es yF g) (liveS (kF g) (nF g) (Es yF g)) (K9 &&& 65535) l9)), .int (nI pp), .int (nI l9)]) (rest := []) ⟨hx, hb, hml, hown, hts⟩ (c_X10_meets l K A om ad ns wl nf wd kn.length kF nF yF WD FL FW TD RW pl nw xt vF wF qF1 bY1 gF nm xm fR1 oF1 hF1 dF (ldS (kF j) (nF j) (Es yF j) (liveS (kF j) (nF j) (Es yF j)) (K9 >>> 16) l9 <<< 16 ||| ldS (kF j) (nF g) (Es yF g) (liveS (kF g) (nF g) (Es yF g)) (K9 &&& 65535) l9) l9 (nI pp) kn rfl (by omega) hHC2 hKQ2 (fun x hx => Nat.lt_trans (hPR2.2.2.1 x hx).1 (by decide)) (Nat.lt_trans hkey (by decide)) hD) (cwV 3 hts gX10_same_X10_meets rfl rfl rfl (by decide +kernel) ⟨Nat.le_of_ble_eq_true rfl, Nat.le_of_ble_eq_true rfl⟩) (rr_preV hKK (hP) (va_recv hKK.1 hP (ci := 10) (q0 := 0) rfl rfl)) rfl rfl hl.1 rfl (lv_room (Nat.le_of_ble_eq_true rfl)) dX10_same_231 ⟨by omega, by omega⟩) hS (fun _ h => h) (fun v H locs hY hsz hfr hS => ?_)
                        obtain ⟨rfl, oF', hF', hHC3, hP⟩ := hY
                        have hD : va_D A (XM K om ad ns wl nf wd ((adK kn (ldS (kF j) (nF j) (Es yF j) (liveS (kF j) (nF j) (Es yF j)) (K9 >>> 16) l9 <<< 16 ||| ldS (kF j) (nF g) (Es yF g) (liveS (kF g) (nF g) (Es yF g)) (K9 &&& 65535) l9)).length) kF nF yF WD FL FW TD RW pl nw xt vF wF (if (ldS (kF j) (nF j) (Es yF j) (liveS (kF j) (nF j) (Es yF j)) (K9 >>> 16) l9 <<< 16 ||| ldS (kF j) (nF g) (Es yF g) (liveS (kF g) (nF g) (Es yF g)) (K9 &&& 65535) l9) ∈ kn then qF1 else va_up qF1 kn.length (ldS (kF j) (nF j) (Es yF j) (liveS (kF j) (nF j) (Es yF j)) (K9 >>> 16) l9 <<< 16 ||| ldS (kF j) (nF g) (Es yF g) (liveS (kF g) (nF g) (Es yF g)) (K9 &&& 65535) l9)) (if (ldS (kF j) (nF j) (Es yF j) (liveS (kF j) (nF j) (Es yF j)) (K9 >>> 16) l9 <<< 16 ||| ldS (kF j) (nF g) (Es yF g) (liveS (kF g) (nF g) (Es yF g)) (K9 &&& 65535) l9) ∈ kn then bY1 else va_up bY1 kn.length l9) gF nm xm (if (ldS (kF j) (nF j) (Es yF j) (liveS (kF j) (nF j) (Es yF j)) (K9 >>> 16) l9 <<< 16 ||| ldS (kF j) (nF g) (Es yF g) (liveS (kF g) (nF g) (Es yF g)) (K9 &&& 65535) l9) ∈ kn then fR1 else va_up fR1 kn.length (nI pp)) oF' hF' dF) := rr_D hD rfl
                        have hP : va_P K.1 vwCl (XM K om ad ns wl nf wd ((adK kn (ldS (kF j) (nF j) (Es yF j) (liveS (kF j) (nF j) (Es yF j)) (K9 >>> 16) l9 <<< 16 ||| ldS (kF j) (nF g) (Es yF g) (liveS (kF g) (nF g) (Es yF g)) (K9 &&& 65535) l9)).length) kF nF yF WD FL FW TD RW pl nw xt vF wF (if (ldS (kF j) (nF j) (Es yF j) (liveS (kF j) (nF j) (Es yF j)) (K9 >>> 16) l9 <<< 16 ||| ldS (kF j) (nF g) (Es yF g) (liveS (kF g) (nF g) (Es yF g)) (K9 &&& 65535) l9) ∈ kn then qF1 else va_up qF1 kn.length (ldS (kF j) (nF j) (Es yF j) (liveS (kF j) (nF j) (Es yF j)) (K9 >>> 16) l9 <<< 16 ||| ldS (kF j) (nF g) (Es yF g) (liveS (kF g) (nF g) (Es yF g)) (K9 &&& 65535) l9)) (if (ldS (kF j) (nF j) (Es yF j) (liveS (kF j) (nF j) (Es yF j)) (K9 >>> 16) l9 <<< 16 ||| ldS (kF j) (nF g) (Es yF g) (liveS (kF g) (nF g) (Es yF g)) (K9 &&& 65535) l9) ∈ kn then bY1 else va_up bY1 kn.length l9) gF nm xm (if (ldS (kF j) (nF j) (Es yF j) (liveS (kF j) (nF j) (Es yF j)) (K9 >>> 16) l9 <<< 16 ||| ldS (kF j) (nF g) (Es yF g) (liveS (kF g) (nF g) (Es yF g)) (K9 &&& 65535) l9) ∈ kn then fR1 else va_up fR1 kn.length (nI pp)) oF' hF' dF) H := hP
                        refine nv_if_eq_b (a := (!(decide ((ldS (kF j) (nF j) (Es yF j) (liveS (kF j) (nF j) (Es yF j)) (K9 >>> 16) l9 <<< 16 ||| ldS (kF j) (nF g) (Es yF g) (liveS (kF g) (nF g) (Es yF g)) (K9 &&& 65535) l9) ∈ kn)))) (tgt := 250) hx hb (pc := 234) dX10_same_234 (by decide) (fun c234 => ?_) (fun c234 => ?_)
                        · have hx0 := hx00
                          rw [← hK9] at hx0
                          have hin : (ldS (kF j) (nF j) (Es yF j) (liveS (kF j) (nF j) (Es yF j)) (K9 >>> 16) l9 <<< 16 ||| ldS (kF j) (nF g) (Es yF g) (liveS (kF g) (nF g) (Es yF g)) (K9 &&& 65535) l9) ∈ kn := of_decide_eq_true (by have := c234; rw [Bool.not_eq_false'] at this; exact this)
                          rw [adK_in hin] at hHC3
                          rw [adK_in hin, if_pos hin, if_pos hin, if_pos hin] at hP hD
                          have hRn : (smR kF nF yF j g) = pgo (ldS (kF j) (nF j) (Es yF j) (liveS (kF j) (nF j) (Es yF j))) (ldS (kF j) (nF g) (Es yF g) (liveS (kF g) (nF g) (Es yF g))) (kF j) (f1 + 1) pp (l9 + 1) kn nt (capN cp kn.length) := by
                            rw [hR2, pgo_on hpl2 c150 hnc hx0 (by rw [hK9, adK_in hin]; omega), hK9, adK_in hin, adN_in hin, hf1]
                          have hpln := hpl2
                          have hK9n := hK9
                          have hPRn := hPR2
                          have hHCn := hHC3
                          have hKQn := hKQ2
                          have hNQn := hNQ2
                          refine lv_iinc (v := nI (l9 + 1)) (lv' := [(9, .int (nI (l9 + 1))), (11, .int (nI (ldS (kF j) (nF g) (Es yF g) (liveS (kF g) (nF g) (Es yF g)) (K9 &&& 65535) l9))), (10, .int (nI (ldS (kF j) (nF j) (Es yF j) (liveS (kF j) (nF j) (Es yF j)) (K9 >>> 16) l9))), (0, .ref om), (1, .int (nI j)), (2, .int (nI g)), (3, .int (nI (liveS (kF j) (nF j) (Es yF j)))), (4, .int (nI (liveS (kF g) (nF g) (Es yF g)))), (6, .int (nI pp)), (7, .int (nI (K9 >>> 16))), (8, .int (nI (K9 &&& 65535)))]) hx hb (pc := 250) dX10_same_250 hl (k := 10) rfl (rr_inc _) (by decide) rfl (fun ls hl => ?_)
                          refine lv_goto (tgt := 142) hx hb (pc := 253) dX10_same_253 (by decide) ?_
                          exact ih142 (l9 + 1) f1 _ _ _ qF1 bY1 fR1 oF' hF' _ _ hP hD hS (by omega) (by omega) (hRn) (by omega) (hpln) (hK9n) (hPRn) (hHCn) (hKQn) (hNQn) ls (lv_sub hl [3, 4, 5, 6, 7, 8, 9, 10, 0] rfl)
                        · have hni : (ldS (kF j) (nF j) (Es yF j) (liveS (kF j) (nF j) (Es yF j)) (K9 >>> 16) l9 <<< 16 ||| ldS (kF j) (nF g) (Es yF g) (liveS (kF g) (nF g) (Es yF g)) (K9 &&& 65535) l9) ∉ kn := of_decide_eq_false (by have := c234; rw [Bool.not_eq_true'] at this; exact this)
                          refine lv_aload_n hx hb (pc := 237) dX10_same_237 rfl (lv_at hl 2 rfl) ?_
                          refine va_get (v := .int (nI ((adK kn (ldS (kF j) (nF j) (Es yF j) (liveS (kF j) (nF j) (Es yF j)) (K9 >>> 16) l9 <<< 16 ||| ldS (kF j) (nF g) (Es yF g) (liveS (kF g) (nF g) (Es yF g)) (K9 &&& 65535) l9)).length))) hx hb hts (inX10_same_10) hown hKK.1 hP 0 rfl rfl 24 (by decide) (hts _ (List.mem_of_getElem? (i := 3) (by decide +kernel))) (fun _ h9 => h9) rfl (pc := 238) dX10_same_238 ?_
                          refine lv_sipush (v := nI 20000) hx hb (pc := 241) dX10_same_241 (by decide) ?_
                          refine nv_icmp_le (a := ((adK kn (ldS (kF j) (nF j) (Es yF j) (liveS (kF j) (nF j) (Es yF j)) (K9 >>> 16) l9 <<< 16 ||| ldS (kF j) (nF g) (Es yF g) (liveS (kF g) (nF g) (Es yF g)) (K9 &&& 65535) l9)).length)) (b := 20000) (tgt := 250) hx hb (pc := 244) dX10_same_244 (by decide) (by have := adK_len kn (ldS (kF j) (nF j) (Es yF j) (liveS (kF j) (nF j) (Es yF j)) (K9 >>> 16) l9 <<< 16 ||| ldS (kF j) (nF g) (Es yF g) (liveS (kF g) (nF g) (Es yF g)) (K9 &&& 65535) l9); omega) (by omega) (fun c244 => ?_) (fun c244 => ?_)
                          · have hx0 := hx00
                            rw [← hK9] at hx0
                            rw [adK_new hni] at hHC3 c244
                            rw [adK_new hni, if_neg hni, if_neg hni, if_neg hni] at hP hD
                            have hRn : (smR kF nF yF j g) = pgo (ldS (kF j) (nF j) (Es yF j) (liveS (kF j) (nF j) (Es yF j))) (ldS (kF j) (nF g) (Es yF g) (liveS (kF g) (nF g) (Es yF g))) (kF j) (f1 + 1) pp (l9 + 1) (kn ++ [(ldS (kF j) (nF j) (Es yF j) (liveS (kF j) (nF j) (Es yF j)) (K9 >>> 16) l9 <<< 16 ||| ldS (kF j) (nF g) (Es yF g) (liveS (kF g) (nF g) (Es yF g)) (K9 &&& 65535) l9)]) (nt ++ [4 * pp + l9]) (capN cp kn.length) := by
                              rw [hR2, pgo_on hpl2 c150 hnc hx0 (by rw [hK9, adK_new hni]; omega), hK9, adK_new hni, adN_new hni, hf1]
                            have hpln : pp < (kn ++ [(ldS (kF j) (nF j) (Es yF j) (liveS (kF j) (nF j) (Es yF j)) (K9 >>> 16) l9 <<< 16 ||| ldS (kF j) (nF g) (Es yF g) (liveS (kF g) (nF g) (Es yF g)) (K9 &&& 65535) l9)]).length := by rw [List.length_append]; omega
                            have hK9n : (kn ++ [(ldS (kF j) (nF j) (Es yF j) (liveS (kF j) (nF j) (Es yF j)) (K9 >>> 16) l9 <<< 16 ||| ldS (kF j) (nF g) (Es yF g) (liveS (kF g) (nF g) (Es yF g)) (K9 &&& 65535) l9)]).getD pp 0 = K9 := by rw [getD_old hpl2]; exact hK9
                            have hPRn := PRS_add hPR2 hlva hlvb hxs hys hpl2 (show l9 < 4 by omega) (show _ ≤ 20000 by omega)
                            have hHCn := hHC3
                            have hKQn := KQ_add (key := (ldS (kF j) (nF j) (Es yF j) (liveS (kF j) (nF j) (Es yF j)) (K9 >>> 16) l9 <<< 16 ||| ldS (kF j) (nF g) (Es yF g) (liveS (kF g) (nF g) (Es yF g)) (K9 &&& 65535) l9)) hKQ2
                            have hNQn := NQ_add (b := pp) (y := l9) (by omega) (by have := hPR2.1; omega) hNQ2
                            rw [hPR2.1] at hNQn
                            refine lv_iinc (v := nI (l9 + 1)) (lv' := [(9, .int (nI (l9 + 1))), (11, .int (nI (ldS (kF j) (nF g) (Es yF g) (liveS (kF g) (nF g) (Es yF g)) (K9 &&& 65535) l9))), (10, .int (nI (ldS (kF j) (nF j) (Es yF j) (liveS (kF j) (nF j) (Es yF j)) (K9 >>> 16) l9))), (0, .ref om), (1, .int (nI j)), (2, .int (nI g)), (3, .int (nI (liveS (kF j) (nF j) (Es yF j)))), (4, .int (nI (liveS (kF g) (nF g) (Es yF g)))), (6, .int (nI pp)), (7, .int (nI (K9 >>> 16))), (8, .int (nI (K9 &&& 65535)))]) hx hb (pc := 250) dX10_same_250 hl (k := 10) rfl (rr_inc _) (by decide) rfl (fun ls hl => ?_)
                            refine lv_goto (tgt := 142) hx hb (pc := 253) dX10_same_253 (by decide) ?_
                            exact ih142 (l9 + 1) f1 _ _ _ (va_up qF1 kn.length (ldS (kF j) (nF j) (Es yF j) (liveS (kF j) (nF j) (Es yF j)) (K9 >>> 16) l9 <<< 16 ||| ldS (kF j) (nF g) (Es yF g) (liveS (kF g) (nF g) (Es yF g)) (K9 &&& 65535) l9)) (va_up bY1 kn.length l9) (va_up fR1 kn.length (nI pp)) oF' hF' _ _ hP hD hS (by omega) (by omega) (hRn) (by omega) (hpln) (hK9n) (hPRn) (hHCn) (hKQn) (hNQn) ls (lv_sub hl [3, 4, 5, 6, 7, 8, 9, 10, 0] rfl)
                          · refine lv_bipush (v := -5) hx hb (pc := 247) dX10_same_247 (by decide) ?_
                            have hx0 := hx00
                            rw [← hK9] at hx0
                            have hok : smOK ns kF (nI j) (nI g) = true := by unfold smOK; rw [c5, c13, ecj, ecg, decide_eq_true c31]; rfl
                            have hcd : (smR kF nF yF j g).1.1 = 2 := by rw [hR2]; exact pgo_spent hpl2 c150 hnc hx0 (by rw [hK9]; omega)
                            have hwl9 : samL ns kF nF yF (nI j) (nI g) wl = wl := by unfold samL rsL; rw [if_pos hok, ecj, ecg, hcd, if_neg (by decide), if_neg (by decide)]
                            have hwd9 : samW ns kF nF yF (nI j) (nI g) WD = WD := by unfold samW rsW; rw [if_pos hok, ecj, ecg, hcd, if_neg (by decide)]
                            exact hret.1 _ _ 0 0 249 _ (-5) dX10_same_249 (by omega) (by omega) hS (⟨by unfold samA; rw [if_pos (by rw [c5, c13]; rfl), ecj, ecg, if_pos c31, hcd]; rfl, _, _, _, _, _, _, by rw [hwl9, hwd9]; exact hP⟩) (rfl)
                      · refine lv_iconst (v := nI 1) hx hb (pc := 193) dX10_same_193 (by decide) ?_
                        refine lv_goto (tgt := 198) hx hb (pc := 194) dX10_same_194 (by decide) ?_
                        refine nv_icmp_eq (a := 0) (b := 1) (tgt := 211) hx hb (pc := 198) dX10_same_198 (by decide) (by decide) (by decide) (fun h => absurd h (by decide)) (fun _ => ?_)
                        have hpc : (smR kF nF yF j g) = ((1, pp, l9), (kn, nt, cp)) := by
                          rw [hR2]
                          exact pgo_part hpl2 c150 (by rw [hK9]; first | exact rr_ne1 c180 c190 | exact rr_ne2 c180 c190)
                        refine lv_aload_n hx hb (pc := 201) dX10_same_201 rfl (lv_at hl 2 rfl) ?_
                        refine lv_iload hx hb (pc := 202) dX10_same_202 (lv_at hl 7 rfl) ?_
                        refine lv_iload hx hb (pc := 204) dX10_same_204 (lv_at hl 10 rfl) ?_
                        refine rr_callV (pc := 206) (va_runV (As := [.int (nI pp), .int (nI l9)]) (rest := []) ⟨hx, hb, hml, hown, hts⟩ (c_X10_layWord l K A om ad ns wl nf wd kn.length kF nF yF WD FL FW TD RW pl nw xt vF wF qF1 bY1 gF nm xm fR1 oF1 hF1 dF nt pp l9 hNQ2 hPR2.2.2.2.1 hPR2.2.2.2.2.1 hPR2.2.2.2.2.2 (by have := hPR2.1; omega) (by omega) hD) (cwV 2 hts gX10_same_X10_layWord rfl rfl rfl (by decide +kernel) ⟨Nat.le_of_ble_eq_true rfl, Nat.le_of_ble_eq_true rfl⟩) (rr_preV hKK (hP) (va_recv hKK.1 hP (ci := 10) (q0 := 0) rfl rfl)) rfl rfl hl.1 rfl (lv_room (Nat.le_of_ble_eq_true rfl)) dX10_same_206 ⟨by omega, by omega⟩) hS (fun _ h => h) (fun H locs hY hsz hfr hS => ?_)
                        have hP := hY
                        have hD : va_D A (XM K om ad ns (min (dpP nt pp pp + 1) 30) nf wd kn.length kF nF yF (wdW nt pp l9 0 WD) FL FW TD RW pl nw xt vF wF qF1 bY1 gF nm xm fR1 oF1 hF1 dF) := rr_D hD rfl
                        have hP : va_P K.1 vwCl (XM K om ad ns (min (dpP nt pp pp + 1) 30) nf wd kn.length kF nF yF (wdW nt pp l9 0 WD) FL FW TD RW pl nw xt vF wF qF1 bY1 gF nm xm fR1 oF1 hF1 dF) H := hP
                        refine lv_iconst (v := nI 0) hx hb (pc := 209) dX10_same_209 (by decide) ?_
                        have hok : smOK ns kF (nI j) (nI g) = true := by unfold smOK; rw [c5, c13, ecj, ecg, decide_eq_true c31]; rfl
                        have hcd : (smR kF nF yF j g).1.1 = 1 := by rw [hpc]
                        have hwl9 : samL ns kF nF yF (nI j) (nI g) wl = (min (dpP nt pp pp + 1) 30) := by unfold samL rsL; rw [if_pos hok, ecj, ecg, hcd, if_neg (by decide), if_pos rfl, hpc]
                        have hwd9 : samW ns kF nF yF (nI j) (nI g) WD = (wdW nt pp l9 0 WD) := by unfold samW rsW; rw [if_pos hok, ecj, ecg, hcd, if_pos rfl, hpc]
                        exact hret.1 _ _ 0 0 210 _ (nI 0) dX10_same_210 (by omega) (by omega) hS (⟨by unfold samA; rw [if_pos (by rw [c5, c13]; rfl), ecj, ecg, if_pos c31, hcd]; rfl, _, _, _, _, _, _, by rw [hwl9, hwd9]; exact hP⟩) (rfl)
                    · refine lv_iconst (v := nI 1) hx hb (pc := 183) dX10_same_183 (by decide) ?_
                      refine lv_goto (tgt := 188) hx hb (pc := 184) dX10_same_184 (by decide) ?_
                      refine lv_iload hx hb (pc := 188) dX10_same_188 (lv_at hl 0 rfl) ?_
                      refine nv_if_ne (a := (ldS (kF j) (nF g) (Es yF g) (liveS (kF g) (nF g) (Es yF g)) (K9 &&& 65535) l9)) (tgt := 197) hx hb (pc := 190) dX10_same_190 (by decide) (by omega) (fun c190 => ?_) (fun c190 => ?_)
                      · refine lv_iconst (v := nI 0) hx hb (pc := 197) dX10_same_197 (by decide) ?_
                        refine nv_icmp_eq (a := 1) (b := 0) (tgt := 211) hx hb (pc := 198) dX10_same_198 (by decide) (by decide) (by decide) (fun h => absurd h (by decide)) (fun _ => ?_)
                        have hpc : (smR kF nF yF j g) = ((1, pp, l9), (kn, nt, cp)) := by
                          rw [hR2]
                          exact pgo_part hpl2 c150 (by rw [hK9]; first | exact rr_ne1 c180 c190 | exact rr_ne2 c180 c190)
                        refine lv_aload_n hx hb (pc := 201) dX10_same_201 rfl (lv_at hl 2 rfl) ?_
                        refine lv_iload hx hb (pc := 202) dX10_same_202 (lv_at hl 7 rfl) ?_
                        refine lv_iload hx hb (pc := 204) dX10_same_204 (lv_at hl 10 rfl) ?_
                        refine rr_callV (pc := 206) (va_runV (As := [.int (nI pp), .int (nI l9)]) (rest := []) ⟨hx, hb, hml, hown, hts⟩ (c_X10_layWord l K A om ad ns wl nf wd kn.length kF nF yF WD FL FW TD RW pl nw xt vF wF qF1 bY1 gF nm xm fR1 oF1 hF1 dF nt pp l9 hNQ2 hPR2.2.2.2.1 hPR2.2.2.2.2.1 hPR2.2.2.2.2.2 (by have := hPR2.1; omega) (by omega) hD) (cwV 2 hts gX10_same_X10_layWord rfl rfl rfl (by decide +kernel) ⟨Nat.le_of_ble_eq_true rfl, Nat.le_of_ble_eq_true rfl⟩) (rr_preV hKK (hP) (va_recv hKK.1 hP (ci := 10) (q0 := 0) rfl rfl)) rfl rfl hl.1 rfl (lv_room (Nat.le_of_ble_eq_true rfl)) dX10_same_206 ⟨by omega, by omega⟩) hS (fun _ h => h) (fun H locs hY hsz hfr hS => ?_)
                        have hP := hY
                        have hD : va_D A (XM K om ad ns (min (dpP nt pp pp + 1) 30) nf wd kn.length kF nF yF (wdW nt pp l9 0 WD) FL FW TD RW pl nw xt vF wF qF1 bY1 gF nm xm fR1 oF1 hF1 dF) := rr_D hD rfl
                        have hP : va_P K.1 vwCl (XM K om ad ns (min (dpP nt pp pp + 1) 30) nf wd kn.length kF nF yF (wdW nt pp l9 0 WD) FL FW TD RW pl nw xt vF wF qF1 bY1 gF nm xm fR1 oF1 hF1 dF) H := hP
                        refine lv_iconst (v := nI 0) hx hb (pc := 209) dX10_same_209 (by decide) ?_
                        have hok : smOK ns kF (nI j) (nI g) = true := by unfold smOK; rw [c5, c13, ecj, ecg, decide_eq_true c31]; rfl
                        have hcd : (smR kF nF yF j g).1.1 = 1 := by rw [hpc]
                        have hwl9 : samL ns kF nF yF (nI j) (nI g) wl = (min (dpP nt pp pp + 1) 30) := by unfold samL rsL; rw [if_pos hok, ecj, ecg, hcd, if_neg (by decide), if_pos rfl, hpc]
                        have hwd9 : samW ns kF nF yF (nI j) (nI g) WD = (wdW nt pp l9 0 WD) := by unfold samW rsW; rw [if_pos hok, ecj, ecg, hcd, if_pos rfl, hpc]
                        exact hret.1 _ _ 0 0 210 _ (nI 0) dX10_same_210 (by omega) (by omega) hS (⟨by unfold samA; rw [if_pos (by rw [c5, c13]; rfl), ecj, ecg, if_pos c31, hcd]; rfl, _, _, _, _, _, _, by rw [hwl9, hwd9]; exact hP⟩) (rfl)
                      · refine lv_iconst (v := nI 1) hx hb (pc := 193) dX10_same_193 (by decide) ?_
                        refine lv_goto (tgt := 198) hx hb (pc := 194) dX10_same_194 (by decide) ?_
                        refine nv_icmp_eq (a := 1) (b := 1) (tgt := 211) hx hb (pc := 198) dX10_same_198 (by decide) (by decide) (by decide) (fun _ => ?_) (fun h => absurd h (by decide))
                        have hnc : ¬ (((ldS (kF j) (nF j) (Es yF j) (liveS (kF j) (nF j) (Es yF j))) (kn.getD pp 0 >>> 16) l9 = 0) ≠ ((ldS (kF j) (nF g) (Es yF g) (liveS (kF g) (nF g) (Es yF g))) (kn.getD pp 0 &&& 65535) l9 = 0)) := by rw [hK9]; first | exact rr_eq1 c180 c190 | exact rr_eq2 c180 c190
                        have hx00 := c180
                        refine lv_iload hx hb (pc := 211) dX10_same_211 (lv_at hl 1 rfl) ?_
                        refine nv_if_eq (a := (ldS (kF j) (nF j) (Es yF j) (liveS (kF j) (nF j) (Es yF j)) (K9 >>> 16) l9)) (tgt := 250) hx hb (pc := 213) dX10_same_213 (by decide) (by omega) (fun c213 => ?_) (fun c213 => absurd c180 c213)
                        have hx0 := hx00
                        rw [← hK9] at hx0
                        have hRn : (smR kF nF yF j g) = pgo (ldS (kF j) (nF j) (Es yF j) (liveS (kF j) (nF j) (Es yF j))) (ldS (kF j) (nF g) (Es yF g) (liveS (kF g) (nF g) (Es yF g))) (kF j) (f1 + 1) pp (l9 + 1) kn nt cp := by rw [hR2, pgo_zero hpl2 c150 hnc hx0, hf1]
                        have hpln := hpl2
                        have hK9n := hK9
                        have hPRn := hPR2
                        have hHCn := hHC2
                        have hKQn := hKQ2
                        have hNQn := hNQ2
                        refine lv_iinc (v := nI (l9 + 1)) (lv' := [(9, .int (nI (l9 + 1))), (11, .int (nI (ldS (kF j) (nF g) (Es yF g) (liveS (kF g) (nF g) (Es yF g)) (K9 &&& 65535) l9))), (10, .int (nI (ldS (kF j) (nF j) (Es yF j) (liveS (kF j) (nF j) (Es yF j)) (K9 >>> 16) l9))), (0, .ref om), (1, .int (nI j)), (2, .int (nI g)), (3, .int (nI (liveS (kF j) (nF j) (Es yF j)))), (4, .int (nI (liveS (kF g) (nF g) (Es yF g)))), (6, .int (nI pp)), (7, .int (nI (K9 >>> 16))), (8, .int (nI (K9 &&& 65535)))]) hx hb (pc := 250) dX10_same_250 hl (k := 10) rfl (rr_inc _) (by decide) rfl (fun ls hl => ?_)
                        refine lv_goto (tgt := 142) hx hb (pc := 253) dX10_same_253 (by decide) ?_
                        exact ih142 (l9 + 1) f1 _ _ _ qF1 bY1 fR1 oF1 hF1 _ _ hP hD hS (by omega) (by omega) (hRn) (by omega) (hpln) (hK9n) (hPRn) (hHCn) (hKQn) (hNQn) ls (lv_sub hl [3, 4, 5, 6, 7, 8, 9, 10, 0] rfl)
              exact L142 (5) 0 f0 _ _ _ qF1 bY1 fR1 oF1 hF1 _ _ hP hD hS (by omega) (Nat.zero_le _) (by rw [hR, hf0]) (by omega) (c109) (hK9.symm) (hPR) (hHC) (hKQ) (hNQ) ls (lv_sub hl [3, 4, 5, 6, 7, 8, 2, 1, 0] rfl)
        refine lv_iload_n hx hb (pc := 71) dX10_same_71 rfl (lv_at hl 2 rfl) ?_
        refine nv_if_ne (a := (liveS (kF j) (nF j) (Es yF j))) (tgt := 79) hx hb (pc := 72) dX10_same_72 (by decide) (by omega) (fun c72 => ?_) (fun c72 => ?_)
        · refine lv_iconst (v := nI 0) hx hb (pc := 79) dX10_same_79 (by decide) ?_
          refine lv_iload hx hb (pc := 80) dX10_same_80 (lv_at hl 1 rfl) ?_
          refine nv_if_ne (a := (liveS (kF g) (nF g) (Es yF g))) (tgt := 89) hx hb (pc := 82) dX10_same_82 (by decide) (by omega) (fun c82 => ?_) (fun c82 => ?_)
          · refine lv_iconst (v := nI 0) hx hb (pc := 89) dX10_same_89 (by decide) ?_
            refine nv_icmp_eq (a := 0) (b := 0) (tgt := 100) hx hb (pc := 90) dX10_same_90 (by decide) (by decide) (by decide) (fun _ => ?_) (fun h => absurd h (by decide))
            refine lv_iconst (v := nI 0) hx hb (pc := 100) dX10_same_100 (by decide) ?_
            refine lv_istore (lv' := [(6, .int (nI 0)), (5, .int (bI (!(decide (((liveS (kF j) (nF j) (Es yF j)) <<< 16 ||| (liveS (kF g) (nF g) (Es yF g))) ∈ ([] : List Nat)))))), (4, .int (nI (liveS (kF g) (nF g) (Es yF g)))), (3, .int (nI (liveS (kF j) (nF j) (Es yF j)))), (0, .ref om), (1, .int (nI j)), (2, .int (nI g))]) hx hb (pc := 101) dX10_same_101 hl (by decide) rfl (fun ls hl => ?_)
            have hq9 : ¬ (((liveS (kF j) (nF j) (Es yF j)) = 0) ≠ ((liveS (kF g) (nF g) (Es yF g)) = 0)) := by first | exact rr_eq1 c72 c82 | exact rr_eq2 c72 c82
            exact L103 (20002) 0 130000 ([(liveS (kF j) (nF j) (Es yF j)) <<< 16 ||| (liveS (kF g) (nF g) (Es yF g))]) ([0]) (capN 0 0) (va_up qF 0 ((liveS (kF j) (nF j) (Es yF j)) <<< 16 ||| (liveS (kF g) (nF g) (Es yF g)))) (va_up bY 0 0) (va_up fR 0 (-1)) oF' hF' _ _ hP hD hS (by omega) (by unfold smR skP; rw [if_neg hq9, ← c31]) (by decide) (Nat.zero_le _) (PRS_0 hlva hlvb) (hHC0) (KQ_0) (NQ_0) ls (lv_sub hl [4, 5, 6, 3, 2, 0] rfl)
          · refine lv_iconst (v := nI 1) hx hb (pc := 85) dX10_same_85 (by decide) ?_
            refine lv_goto (tgt := 90) hx hb (pc := 86) dX10_same_86 (by decide) ?_
            refine nv_icmp_eq (a := 0) (b := 1) (tgt := 100) hx hb (pc := 90) dX10_same_90 (by decide) (by decide) (by decide) (fun h => absurd h (by decide)) (fun _ => ?_)
            refine lv_aload_n hx hb (pc := 93) dX10_same_93 rfl (lv_at hl 3 rfl) ?_
            refine lv_iconst (v := nI 0) hx hb (pc := 94) dX10_same_94 (by decide) ?_
            refine rr_put (v := .int (nI 0)) (ty := tyX10 4) (ws' := XM K om ad ns 0 nf wd (([((liveS (kF j) (nF j) (Es yF j)) <<< 16 ||| (liveS (kF g) (nF g) (Es yF g)))] : List Nat).length) kF nF yF WD FL FW TD RW pl nw xt vF wF (va_up qF 0 ((liveS (kF j) (nF j) (Es yF j)) <<< 16 ||| (liveS (kF g) (nF g) (Es yF g)))) (va_up bY 0 0) gF nm xm (va_up fR 0 (-1)) oF' hF' dF) hx hb hts (inX10_same_10) tyX10 tyX10_ok nmX10 hown hKK.1 hP hD hS 0 rfl rfl 4 (by decide) (hts _ (List.mem_of_getElem? (i := 2) (by decide +kernel))) (fun _ h9 => h9) rfl (tyX10_ok 4 (by decide)) rfl rfl (Nat.le_of_ble_eq_true rfl) rfl (pc := 95) dX10_same_95 (fun H locs hP hD hS => ?_)
            refine lv_iconst (v := nI 0) hx hb (pc := 98) dX10_same_98 (by decide) ?_
            have hok : smOK ns kF (nI j) (nI g) = true := by unfold smOK; rw [c5, c13, ecj, ecg, decide_eq_true c31]; rfl
            have hcd : (smR kF nF yF j g).1.1 = 4 := by unfold smR skP; rw [if_pos (by first | exact rr_ne1 c72 c82 | exact rr_ne2 c72 c82)]
            have hwl9 : samL ns kF nF yF (nI j) (nI g) wl = 0 := by unfold samL rsL; rw [if_pos hok, ecj, ecg, hcd, if_pos rfl]
            have hwd9 : samW ns kF nF yF (nI j) (nI g) WD = WD := by unfold samW rsW; rw [if_pos hok, ecj, ecg, hcd, if_neg (by decide)]
            exact hret.1 _ _ 0 0 99 _ (nI 0) dX10_same_99 (by omega) (by omega) hS (⟨by unfold samA; rw [if_pos (by rw [c5, c13]; rfl), ecj, ecg, if_pos c31, hcd]; rfl, _, _, _, _, _, _, by rw [hwl9, hwd9]; exact hP⟩) (rfl)
        · refine lv_iconst (v := nI 1) hx hb (pc := 75) dX10_same_75 (by decide) ?_
          refine lv_goto (tgt := 80) hx hb (pc := 76) dX10_same_76 (by decide) ?_
          refine lv_iload hx hb (pc := 80) dX10_same_80 (lv_at hl 1 rfl) ?_
          refine nv_if_ne (a := (liveS (kF g) (nF g) (Es yF g))) (tgt := 89) hx hb (pc := 82) dX10_same_82 (by decide) (by omega) (fun c82 => ?_) (fun c82 => ?_)
          · refine lv_iconst (v := nI 0) hx hb (pc := 89) dX10_same_89 (by decide) ?_
            refine nv_icmp_eq (a := 1) (b := 0) (tgt := 100) hx hb (pc := 90) dX10_same_90 (by decide) (by decide) (by decide) (fun h => absurd h (by decide)) (fun _ => ?_)
            refine lv_aload_n hx hb (pc := 93) dX10_same_93 rfl (lv_at hl 3 rfl) ?_
            refine lv_iconst (v := nI 0) hx hb (pc := 94) dX10_same_94 (by decide) ?_
            refine rr_put (v := .int (nI 0)) (ty := tyX10 4) (ws' := XM K om ad ns 0 nf wd (([((liveS (kF j) (nF j) (Es yF j)) <<< 16 ||| (liveS (kF g) (nF g) (Es yF g)))] : List Nat).length) kF nF yF WD FL FW TD RW pl nw xt vF wF (va_up qF 0 ((liveS (kF j) (nF j) (Es yF j)) <<< 16 ||| (liveS (kF g) (nF g) (Es yF g)))) (va_up bY 0 0) gF nm xm (va_up fR 0 (-1)) oF' hF' dF) hx hb hts (inX10_same_10) tyX10 tyX10_ok nmX10 hown hKK.1 hP hD hS 0 rfl rfl 4 (by decide) (hts _ (List.mem_of_getElem? (i := 2) (by decide +kernel))) (fun _ h9 => h9) rfl (tyX10_ok 4 (by decide)) rfl rfl (Nat.le_of_ble_eq_true rfl) rfl (pc := 95) dX10_same_95 (fun H locs hP hD hS => ?_)
            refine lv_iconst (v := nI 0) hx hb (pc := 98) dX10_same_98 (by decide) ?_
            have hok : smOK ns kF (nI j) (nI g) = true := by unfold smOK; rw [c5, c13, ecj, ecg, decide_eq_true c31]; rfl
            have hcd : (smR kF nF yF j g).1.1 = 4 := by unfold smR skP; rw [if_pos (by first | exact rr_ne1 c72 c82 | exact rr_ne2 c72 c82)]
            have hwl9 : samL ns kF nF yF (nI j) (nI g) wl = 0 := by unfold samL rsL; rw [if_pos hok, ecj, ecg, hcd, if_pos rfl]
            have hwd9 : samW ns kF nF yF (nI j) (nI g) WD = WD := by unfold samW rsW; rw [if_pos hok, ecj, ecg, hcd, if_neg (by decide)]
            exact hret.1 _ _ 0 0 99 _ (nI 0) dX10_same_99 (by omega) (by omega) hS (⟨by unfold samA; rw [if_pos (by rw [c5, c13]; rfl), ecj, ecg, if_pos c31, hcd]; rfl, _, _, _, _, _, _, by rw [hwl9, hwd9]; exact hP⟩) (rfl)
          · refine lv_iconst (v := nI 1) hx hb (pc := 85) dX10_same_85 (by decide) ?_
            refine lv_goto (tgt := 90) hx hb (pc := 86) dX10_same_86 (by decide) ?_
            refine nv_icmp_eq (a := 1) (b := 1) (tgt := 100) hx hb (pc := 90) dX10_same_90 (by decide) (by decide) (by decide) (fun _ => ?_) (fun h => absurd h (by decide))
            refine lv_iconst (v := nI 0) hx hb (pc := 100) dX10_same_100 (by decide) ?_
            refine lv_istore (lv' := [(6, .int (nI 0)), (5, .int (bI (!(decide (((liveS (kF j) (nF j) (Es yF j)) <<< 16 ||| (liveS (kF g) (nF g) (Es yF g))) ∈ ([] : List Nat)))))), (4, .int (nI (liveS (kF g) (nF g) (Es yF g)))), (3, .int (nI (liveS (kF j) (nF j) (Es yF j)))), (0, .ref om), (1, .int (nI j)), (2, .int (nI g))]) hx hb (pc := 101) dX10_same_101 hl (by decide) rfl (fun ls hl => ?_)
            have hq9 : ¬ (((liveS (kF j) (nF j) (Es yF j)) = 0) ≠ ((liveS (kF g) (nF g) (Es yF g)) = 0)) := by first | exact rr_eq1 c72 c82 | exact rr_eq2 c72 c82
            exact L103 (20002) 0 130000 ([(liveS (kF j) (nF j) (Es yF j)) <<< 16 ||| (liveS (kF g) (nF g) (Es yF g))]) ([0]) (capN 0 0) (va_up qF 0 ((liveS (kF j) (nF j) (Es yF j)) <<< 16 ||| (liveS (kF g) (nF g) (Es yF g)))) (va_up bY 0 0) (va_up fR 0 (-1)) oF' hF' _ _ hP hD hS (by omega) (by unfold smR skP; rw [if_neg hq9, ← c31]) (by decide) (Nat.zero_le _) (PRS_0 hlva hlvb) (hHC0) (KQ_0) (NQ_0) ls (lv_sub hl [4, 5, 6, 3, 2, 0] rfl)
      · refine lv_bipush (v := -3) hx hb (pc := 34) dX10_same_34 (by decide) ?_
        have hno : smOK ns kF (nI j) (nI g) = false := by unfold smOK; rw [ecj, ecg, decide_eq_false c31, Bool.and_false]
        exact hret.1 _ _ 0 0 36 _ (-3) dX10_same_36 (by omega) (by omega) hS (⟨by unfold samA; rw [if_pos (by rw [c5, c13]; rfl), ecj, ecg, if_neg c31], _, _, _, _, _, _, by unfold samL samW; rw [if_neg (by rw [hno]; decide), if_neg (by rw [hno]; decide)]; exact hP⟩) (rfl)
    · refine lv_bipush (v := -2) hx hb (pc := 16) dX10_same_16 (by decide) ?_
      have hno : smOK ns kF x y = false := by unfold smOK; rw [show (isS ns x && isS ns y) = false from by first | (rw [c5, c13]; rfl) | (rw [c5]; rfl)]; rfl
      exact hret.1 _ _ 0 0 18 _ (-2) dX10_same_18 (by omega) (by omega) hS (⟨by unfold samA; rw [if_neg (by rw [show (isS ns x && isS ns y) = false from by first | (rw [c5, c13]; rfl) | (rw [c5]; rfl)]; decide)], _, _, _, _, _, _, by unfold samL samW; rw [if_neg (by rw [hno]; decide), if_neg (by rw [hno]; decide)]; exact hP⟩) (rfl)

