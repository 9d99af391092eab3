abbrev rmX10_maps : Room := { frames := 3, cells := 0, slots := 0, locals := 73 }
theorem inX10_maps_10 : ∀ w ∈ wsX100, w ∈ wsX10_maps := fun _ h => List.mem_cons_of_mem _ (List.mem_append_right _ h)
set_option maxHeartbeats 4000000 in
set_option maxRecDepth 100000 in
theorem c_X10_maps (l : Launch) (K : rr_K) (A : Nat → Prop) (om : Nat) (ad : Nat → Nat) (ns wl nf wd mt : Nat) (kF nF yF WD FL FW TD RW pl nw xt vF wF qF bY gF : Nat → Nat) (nm xm : Nat → Int64) (fR oF hF dF : Nat → Int32) (x y : Int32) (hS9 : SOK ns kF nF yF) (hw1 : 1 ≤ wd) (hw : wd ≤ 3) (hTD : ∀ r, r < 64 → TD r < 4) (hD : va_D A (XM K om ad ns wl nf wd mt kF nF yF WD FL FW TD RW pl nw xt vF wF qF bY gF nm xm fR oF hF dF)) : MetR l K yX10_maps wsX10_maps rmX10_maps [.ref om, .int x, .int y] (fun H => va_P K.1 vwCl (XM K om ad ns wl nf wd mt kF nF yF WD FL FW TD RW pl nw xt vF wF qF bY gF nm xm fR oF hF dF) H) A (fun v H => v = .int (mapA ns kF nF yF wd TD x y) ∧ ∃ mt' qF' fR' bY' oF' hF', va_P K.1 vwCl (XM K om ad ns wl nf wd mt' kF nF yF WD FL FW TD RW pl nw xt vF wF qF' bY' gF nm xm fR' oF' hF' dF) H) 0 0 := by
  refine metR_of (cc := cX10_maps) (maxL := 17) (ret := (some .int)) (rt := .int) (by decide) rfl rfl rfl rfl (Nat.le_of_ble_eq_true rfl) ?_
  intro p e s m args below meth c Q ls hEnt hKK hX hret hl
  obtain ⟨hx, hb, hml, hown, hts⟩ := hEnt
  have hP : va_P K.1 vwCl (XM K om ad ns wl nf wd mt kF nF yF WD FL FW TD RW pl nw xt vF wF qF bY gF nm xm fR oF hF dF) s.heap := hX
  have hl : lv_has ls 17 [(0, .ref om), (1, .int x), (2, .int y)] := hl
  have hS : va_S A s.heap s.heap [] := va_S.rf
  refine lv_aload_n hx hb (pc := 0) dX10_maps_0 rfl (lv_at hl 0 rfl) ?_
  refine lv_iload_n hx hb (pc := 1) dX10_maps_1 rfl (lv_at hl 1 rfl) ?_
  refine rr_callP (rv := .int (bI (isS ns x))) (pc := 2) (va_runV (As := [.int x]) (rest := []) ⟨hx, hb, hml, hown, hts⟩ (c_X10_isSet l K om ad ns wl nf wd mt kF nF yF WD FL FW TD RW pl nw xt vF wF qF bY gF nm xm fR oF hF dF x) (cwV 1 hts gX10_maps_X10_isSet rfl rfl rfl (by decide +kernel) ⟨Nat.le_of_ble_eq_true rfl, Nat.le_of_ble_eq_true rfl⟩) (rr_preV hKK (hP) (va_recv hKK.1 hP (ci := 10) (q0 := 0) rfl rfl)) rfl rfl hl.1 rfl (lv_room (Nat.le_of_ble_eq_true rfl)) dX10_maps_2 ⟨Nat.le_refl _, Nat.le_refl _⟩) ?_
  refine nv_if_eq_b (a := (isS ns x)) (tgt := 16) hx hb (pc := 5) dX10_maps_5 (by decide) (fun c5 => ?_) (fun c5 => ?_)
  · refine lv_bipush (v := -2) hx hb (pc := 16) dX10_maps_16 (by decide) ?_
    have hc : (isS ns x && isS ns y) = false := by first | (rw [c5, c13]; rfl) | (rw [c5]; rfl)
    exact hret.1 _ _ 0 0 18 _ (-2) dX10_maps_18 (by omega) (by omega) hS (⟨by unfold mapA; rw [if_neg (by rw [hc]; decide)], _, _, _, _, _, _, hP⟩) (rfl)
  · refine lv_aload_n hx hb (pc := 8) dX10_maps_8 rfl (lv_at hl 0 rfl) ?_
    refine lv_iload_n hx hb (pc := 9) dX10_maps_9 rfl (lv_at hl 2 rfl) ?_
    refine rr_callP (rv := .int (bI (isS ns y))) (pc := 10) (va_runV (As := [.int y]) (rest := []) ⟨hx, hb, hml, hown, hts⟩ (c_X10_isSet l K om ad ns wl nf wd mt kF nF yF WD FL FW TD RW pl nw xt vF wF qF bY gF nm xm fR oF hF dF y) (cwV 1 hts gX10_maps_X10_isSet rfl rfl rfl (by decide +kernel) ⟨Nat.le_of_ble_eq_true rfl, Nat.le_of_ble_eq_true rfl⟩) (rr_preV hKK (hP) (va_recv hKK.1 hP (ci := 10) (q0 := 0) rfl rfl)) rfl rfl hl.1 rfl (lv_room (Nat.le_of_ble_eq_true rfl)) dX10_maps_10 ⟨Nat.le_refl _, Nat.le_refl _⟩) ?_
    refine nv_if_ne_b (a := (isS ns y)) (tgt := 19) hx hb (pc := 13) dX10_maps_13 (by decide) (fun c13 => ?_) (fun c13 => ?_)
    · have hns := hS9.1
      obtain ⟨j, hj6, rfl⟩ := isS_of (by omega) c5
      obtain ⟨s1j, s2j, s3j, s4j, s5j⟩ := hS9.2 j hj6
      have ecj : cN (nI j) = j := cN_nI (by omega)
      have hns := hS9.1
      obtain ⟨g, hg6, rfl⟩ := isS_of (by omega) c13
      obtain ⟨s1g, s2g, s3g, s4g, s5g⟩ := hS9.2 g hg6
      have ecg : cN (nI g) = g := cN_nI (by omega)
      have hlva := liveS_lt16 (k := kF j) (E := Es yF j) s4j
      have hlvb := liveS_lt16 (k := kF g) (E := Es yF g) s4g
      have hlv2 := liveS_lt (kF j) (nF j) (Es yF j)
      refine lv_aload_n hx hb (pc := 19) dX10_maps_19 rfl (lv_at hl 0 rfl) ?_
      refine lv_iload_n hx hb (pc := 20) dX10_maps_20 rfl (lv_at hl 1 rfl) ?_
      refine rr_callP (rv := .int (nI (liveS (kF j) (nF j) (Es yF j)))) (pc := 21) (va_runV (As := [.int (nI j)]) (rest := []) ⟨hx, hb, hml, hown, hts⟩ (c_X10_liveOf l K om ad ns wl nf wd mt kF nF yF WD FL FW TD RW pl nw xt vF wF qF bY gF nm xm fR oF hF dF j (by omega) s2j s4j s5j) (cwV 1 hts gX10_maps_X10_liveOf rfl rfl rfl (by decide +kernel) ⟨Nat.le_of_ble_eq_true rfl, Nat.le_of_ble_eq_true rfl⟩) (rr_preV hKK (hP) (va_recv hKK.1 hP (ci := 10) (q0 := 0) rfl rfl)) rfl rfl hl.1 rfl (lv_room (Nat.le_of_ble_eq_true rfl)) dX10_maps_21 ⟨Nat.le_refl _, Nat.le_refl _⟩) ?_
      refine lv_istore_n (lv' := [(3, .int (nI (liveS (kF j) (nF j) (Es yF j)))), (0, .ref om), (1, .int (nI j)), (2, .int (nI g))]) hx hb (pc := 24) dX10_maps_24 rfl hl (by decide) rfl (fun ls hl => ?_)
      refine lv_aload_n hx hb (pc := 25) dX10_maps_25 rfl (lv_at hl 1 rfl) ?_
      refine lv_iload_n hx hb (pc := 26) dX10_maps_26 rfl (lv_at hl 3 rfl) ?_
      refine rr_callP (rv := .int (nI (liveS (kF g) (nF g) (Es yF g)))) (pc := 27) (va_runV (As := [.int (nI g)]) (rest := []) ⟨hx, hb, hml, hown, hts⟩ (c_X10_liveOf l K om ad ns wl nf wd mt kF nF yF WD FL FW TD RW pl nw xt vF wF qF bY gF nm xm fR oF hF dF g (by omega) s2g s4g s5g) (cwV 1 hts gX10_maps_X10_liveOf rfl rfl rfl (by decide +kernel) ⟨Nat.le_of_ble_eq_true rfl, Nat.le_of_ble_eq_true rfl⟩) (rr_preV hKK (hP) (va_recv hKK.1 hP (ci := 10) (q0 := 0) rfl rfl)) rfl rfl hl.1 rfl (lv_room (Nat.le_of_ble_eq_true rfl)) dX10_maps_27 ⟨Nat.le_refl _, Nat.le_refl _⟩) ?_
      refine lv_istore (lv' := [(4, .int (nI (liveS (kF g) (nF g) (Es yF g)))), (3, .int (nI (liveS (kF j) (nF j) (Es yF j)))), (0, .ref om), (1, .int (nI j)), (2, .int (nI g))]) hx hb (pc := 30) dX10_maps_30 hl (by decide) rfl (fun ls hl => ?_)
      refine lv_iload_n hx hb (pc := 32) dX10_maps_32 rfl (lv_at hl 1 rfl) ?_
      refine nv_if_ne (a := (liveS (kF j) (nF j) (Es yF j))) (tgt := 38) hx hb (pc := 33) dX10_maps_33 (by decide) (by omega) (fun c33 => ?_) (fun c33 => ?_)
      · refine lv_iload hx hb (pc := 38) dX10_maps_38 (lv_at hl 0 rfl) ?_
        refine nv_if_ne (a := (liveS (kF g) (nF g) (Es yF g))) (tgt := 45) hx hb (pc := 40) dX10_maps_40 (by decide) (by omega) (fun c40 => ?_) (fun c40 => ?_)
        · refine lv_aload_n hx hb (pc := 45) dX10_maps_45 rfl (lv_at hl 2 rfl) ?_
          refine rr_callV (pc := 46) (va_runV (As := []) (rest := []) ⟨hx, hb, hml, hown, hts⟩ (c_X10_forget l K A om ad ns wl nf wd mt kF nF yF WD FL FW TD RW pl nw xt vF wF qF bY gF nm xm fR oF hF dF hD) (cwV 0 hts gX10_maps_X10_forget rfl rfl rfl (by decide +kernel) ⟨Nat.le_of_ble_eq_true rfl, Nat.le_of_ble_eq_true rfl⟩) (rr_preV hKK (hP) (va_recv hKK.1 hP (ci := 10) (q0 := 0) rfl rfl)) rfl rfl hl.1 rfl (lv_room (Nat.le_of_ble_eq_true rfl)) dX10_maps_46 ⟨by omega, by omega⟩) hS (fun _ h => h) (fun H locs hY hsz hfr hS => ?_)
          have hP := hY
          have hD : va_D A (XM K om ad ns wl nf wd 0 kF nF yF WD FL FW TD RW pl nw xt vF wF qF bY gF nm xm fR oF (putZ hF (fun _ => -1) 32768) dF) := rr_D hD rfl
          have hP : va_P K.1 vwCl (XM K om ad ns wl nf wd 0 kF nF yF WD FL FW TD RW pl nw xt vF wF qF bY gF nm xm fR oF (putZ hF (fun _ => -1) 32768) dF) H := hP
          refine lv_iconst (v := nI 0) hx hb (pc := 49) dX10_maps_49 (by decide) ?_
          refine lv_istore (lv' := [(5, .int (nI 0)), (4, .int (nI (liveS (kF g) (nF g) (Es yF g)))), (3, .int (nI (liveS (kF j) (nF j) (Es yF j)))), (0, .ref om), (1, .int (nI j)), (2, .int (nI g))]) hx hb (pc := 50) dX10_maps_50 hl (by decide) rfl (fun ls hl => ?_)
          have L52 : ∀ (fz : Nat) (q : Nat) (kn : List Nat) (qF1 : Nat → Nat) (bY1 : Nat → Nat) (fR1 : Nat → Int32) (oF1 : Nat → Int32) (hF1 : Nat → Int32) (H : Heap) (locs : List Loc) (hP : va_P K.1 vwCl (XM K om ad ns wl nf wd kn.length kF nF yF WD FL FW TD RW pl nw xt vF wF qF1 bY1 gF nm xm fR1 oF1 hF1 dF) H) (hD : va_D A (XM K om ad ns wl nf wd kn.length kF nF yF WD FL FW TD RW pl nw xt vF wF qF1 bY1 gF nm xm fR1 oF1 hF1 dF)) (hS : va_S A s.heap H locs) (hfz : nF j - q < fz) (hq : q ≤ nF j) (hkn : kn = (rr_fold (mA1 (liveS (kF j) (nF j) (Es yF j)) (liveS (kF g) (nF g) (Es yF g))) q ([], 0)).1) (hKO1 : ∀ x ∈ kn, KOK wd (liveS (kF j) (nF j) (Es yF j)) (liveS (kF g) (nF g) (Es yF g)) x) (hHC1 : HC (kn.map cv) oF1 hF1) (hKQ1 : KQ (kn.map cv) qF1) (ls : Array Slot) (hl : lv_has ls 17 [(0, .ref om), (1, .int (nI j)), (2, .int (nI g)), (3, .int (nI (liveS (kF j) (nF j) (Es yF j)))), (4, .int (nI (liveS (kF g) (nF g) (Es yF g)))), (5, .int (nI q))]), W p l e rmX10_maps s m args below meth c H locs 0 0 Q (F0 m 52 ls []) := by
            intro fz; induction fz with
            | zero => intro q kn qF1 bY1 fR1 oF1 hF1 H locs hP hD hS hfz hq hkn hKO1 hHC1 hKQ1 ls hl; exact absurd hfz (Nat.not_lt_zero _)
            | succ fz ih52 =>
              intro q kn qF1 bY1 fR1 oF1 hF1 H locs hP hD hS hfz hq hkn hKO1 hHC1 hKQ1 ls hl
              have hkl : kn.length ≤ q := by rw [hkn]; exact Nat.le_trans (mF_cap (liveS (kF j) (nF j) (Es yF j)) (liveS (kF g) (nF g) (Es yF g)) ([], 0) q).2.2 (by show 0 + q ≤ q; omega)
              refine lv_iload hx hb (pc := 52) dX10_maps_52 (lv_at hl 5 rfl) ?_
              refine lv_aload_n hx hb (pc := 54) dX10_maps_54 rfl (lv_at hl 0 rfl) ?_
              refine va_get (v := .ref (ad 2)) hx hb hts (inX10_maps_10) hown hKK.1 hP 0 rfl rfl 2 (by decide) (hts _ (List.mem_of_getElem? (i := 1) (by decide +kernel))) (fun _ h9 => h9) rfl (pc := 55) dX10_maps_55 ?_
              refine lv_iload_n hx hb (pc := 58) dX10_maps_58 rfl (lv_at hl 1 rfl) ?_
              refine nv_iald (v := nI (nF j)) (i := j) hx hb hKK hP 2 rfl (by omega) (by decide) (rfl) (pc := 59) dX10_maps_59 ?_
              refine nv_icmp_ge (a := q) (b := (nF j)) (tgt := 97) hx hb (pc := 60) dX10_maps_60 (by decide) (by omega) (by omega) (fun c60 => ?_) (fun c60 => ?_)
              · have e9 : q = nF j := by omega
                have hR0 : (mpR kF nF yF wd TD j g) = (mgo (lvE (liveS (kF j) (nF j) (Es yF j)) (Es yF j)) (bhd wd TD (ldS (kF g) (nF g) (Es yF g) (liveS (kF g) (nF g) (Es yF g)))) (kF j) 130000 0 0 kn 0).1 := by
                  rw [e9, mF_16 s4j hlv2] at hkn
                  unfold mpR skM
                  rw [if_neg c33, if_neg c40, ← hkn]
                  exact mgo_ind _ _ _ _ _ _ _ _ _
                refine lv_iconst (v := nI 0) hx hb (pc := 97) dX10_maps_97 (by decide) ?_
                refine lv_istore (lv' := [(5, .int (nI 0)), (0, .ref om), (1, .int (nI j)), (2, .int (nI g)), (3, .int (nI (liveS (kF j) (nF j) (Es yF j)))), (4, .int (nI (liveS (kF g) (nF g) (Es yF g))))]) hx hb (pc := 98) dX10_maps_98 hl (by decide) rfl (fun ls hl => ?_)
                have L100 : ∀ (fz : Nat) (pp : Nat) (f : Nat) (kn : List Nat) (qF1 : Nat → Nat) (bY1 : Nat → Nat) (fR1 : Nat → Int32) (oF1 : Nat → Int32) (hF1 : Nat → Int32) (H : Heap) (locs : List Loc) (hP : va_P K.1 vwCl (XM K om ad ns wl nf wd kn.length kF nF yF WD FL FW TD RW pl nw xt vF wF qF1 bY1 gF nm xm fR1 oF1 hF1 dF) H) (hD : va_D A (XM K om ad ns wl nf wd kn.length kF nF yF WD FL FW TD RW pl nw xt vF wF qF1 bY1 gF nm xm fR1 oF1 hF1 dF)) (hS : va_S A s.heap H locs) (hfz : 20001 - pp < fz) (hR : (mpR kF nF yF wd TD j g) = (mgo (lvE (liveS (kF j) (nF j) (Es yF j)) (Es yF j)) (bhd wd TD (ldS (kF g) (nF g) (Es yF g) (liveS (kF g) (nF g) (Es yF g)))) (kF j) f pp 0 kn 0).1) (hf : 130000 ≤ f + 5 * pp) (hpp : pp ≤ kn.length) (hlen : kn.length ≤ 20000) (hKO : ∀ x ∈ kn, KOK wd (liveS (kF j) (nF j) (Es yF j)) (liveS (kF g) (nF g) (Es yF g)) x) (hHC : HC (kn.map cv) oF1 hF1) (hKQ : KQ (kn.map cv) qF1) (ls : Array Slot) (hl : lv_has ls 17 [(0, .ref om), (1, .int (nI j)), (2, .int (nI g)), (3, .int (nI (liveS (kF j) (nF j) (Es yF j)))), (4, .int (nI (liveS (kF g) (nF g) (Es yF g)))), (5, .int (nI pp))]), W p l e rmX10_maps s m args below meth c H locs 0 0 Q (F0 m 100 ls []) := by
                  intro fz; induction fz with
                  | zero => intro pp f kn qF1 bY1 fR1 oF1 hF1 H locs hP hD hS hfz hR hf hpp hlen hKO hHC hKQ ls hl; exact absurd hfz (Nat.not_lt_zero _)
                  | succ fz ih100 =>
                    intro pp f kn qF1 bY1 fR1 oF1 hF1 H locs hP hD hS hfz hR hf hpp hlen hKO hHC hKQ ls hl
                    refine lv_iload hx hb (pc := 100) dX10_maps_100 (lv_at hl 5 rfl) ?_
                    refine lv_aload_n hx hb (pc := 102) dX10_maps_102 rfl (lv_at hl 0 rfl) ?_
                    refine va_get (v := .int (nI kn.length)) hx hb hts (inX10_maps_10) hown hKK.1 hP 0 rfl rfl 24 (by decide) (hts _ (List.mem_of_getElem? (i := 2) (by decide +kernel))) (fun _ h9 => h9) rfl (pc := 103) dX10_maps_103 ?_
                    refine nv_icmp_ge (a := pp) (b := kn.length) (tgt := 396) hx hb (pc := 106) dX10_maps_106 (by decide) (by omega) (by omega) (fun c106 => ?_) (fun c106 => ?_)
                    · refine lv_iconst (v := nI 1) hx hb (pc := 396) dX10_maps_396 (by decide) ?_
                      obtain ⟨f0, hf0⟩ : ∃ f0, f = f0 + 1 := ⟨f - 1, by omega⟩
                      have hcd : (mpR kF nF yF wd TD j g) = 0 := by rw [hR, hf0, mgo_ge (by omega)]
                      exact hret.1 _ _ 0 0 397 _ (nI 1) dX10_maps_397 (by omega) (by omega) hS (⟨by unfold mapA; rw [if_pos (by rw [c5, c13]; rfl), ecj, ecg, hcd]; rfl, _, _, _, _, _, _, hP⟩) (rfl)
                    · obtain ⟨f0, hf0⟩ : ∃ f0, f = f0 + 1 := ⟨f - 1, by omega⟩
                      obtain ⟨K9, hK9⟩ : ∃ K9, K9 = kn.getD pp 0 := ⟨_, rfl⟩
                      have hKK9 := hKO _ (mem_getD c106)
                      rw [← hK9] at hKK9
                      obtain ⟨hK26, hK2, hK3, hK4, hK5⟩ := id hKK9
                      have hcvl := cv_lt hK26
                      have hz6 : K9 % 65536 < 65536 := Nat.mod_lt _ (by decide)
                      have hs16 : K9 / 4194304 < 16 := by omega
                      have hqv : qF1 pp = cv K9 := by rw [hKQ pp (by rw [List.length_map]; exact c106), getD_cv c106, hK9]
                      refine lv_aload_n hx hb (pc := 109) dX10_maps_109 rfl (lv_at hl 0 rfl) ?_
                      refine va_get (v := .ref (ad 19)) hx hb hts (inX10_maps_10) hown hKK.1 hP 0 rfl rfl 19 (by decide) (hts _ (List.mem_of_getElem? (i := 3) (by decide +kernel))) (fun _ h9 => h9) rfl (pc := 110) dX10_maps_110 ?_
                      refine lv_iload hx hb (pc := 113) dX10_maps_113 (lv_at hl 5 rfl) ?_
                      refine nv_lald (v := lN (cv K9)) (i := pp) hx hb hKK hP 16 rfl (by omega) (by decide) (congrArg lN hqv) (pc := 115) dX10_maps_115 ?_
                      refine lv_bipush (v := nI 40) hx hb (pc := 116) dX10_maps_116 (by decide) ?_
                      refine lv_lshr (v := lN (cv K9 >>> 40)) hx hb (pc := 118) dX10_maps_118 (rr_lshr hcvl (by decide)) ?_
                      refine rr_top (v := .long (lN (K9 / 4194304))) (by rw [cv_40 hK26]) ?_
                      refine lv_l2i (v := nI (K9 / 4194304)) hx hb (pc := 119) dX10_maps_119 (lN_i _) ?_
                      refine lv_istore (lv' := [(6, .int (nI (K9 / 4194304))), (0, .ref om), (1, .int (nI j)), (2, .int (nI g)), (3, .int (nI (liveS (kF j) (nF j) (Es yF j)))), (4, .int (nI (liveS (kF g) (nF g) (Es yF g)))), (5, .int (nI pp))]) hx hb (pc := 120) dX10_maps_120 hl (by decide) rfl (fun ls hl => ?_)
                      refine lv_aload_n hx hb (pc := 122) dX10_maps_122 rfl (lv_at hl 1 rfl) ?_
                      refine va_get (v := .ref (ad 19)) hx hb hts (inX10_maps_10) hown hKK.1 hP 0 rfl rfl 19 (by decide) (hts _ (List.mem_of_getElem? (i := 3) (by decide +kernel))) (fun _ h9 => h9) rfl (pc := 123) dX10_maps_123 ?_
                      refine lv_iload hx hb (pc := 126) dX10_maps_126 (lv_at hl 6 rfl) ?_
                      refine nv_lald (v := lN (cv K9)) (i := pp) hx hb hKK hP 16 rfl (by omega) (by decide) (congrArg lN hqv) (pc := 128) dX10_maps_128 ?_
                      refine lv_bipush (v := nI 32) hx hb (pc := 129) dX10_maps_129 (by decide) ?_
                      refine lv_lshr (v := lN (cv K9 >>> 32)) hx hb (pc := 131) dX10_maps_131 (rr_lshr hcvl (by decide)) ?_
                      refine lv_ldc2 (v := lN 3) hx hb (pc := 132) hown (hts _ (List.mem_of_getElem? (i := 4) (by decide +kernel))) dX10_maps_132 ?_
                      refine lv_land hx hb (pc := 135) dX10_maps_135 ?_
                      refine rr_top (v := .long (lN (K9 / 1048576 % 4))) (congrArg Value.long ((lN_and _ _).trans (congrArg lN (cv_32 hK26)))) ?_
                      refine lv_l2i (v := nI (K9 / 1048576 % 4)) hx hb (pc := 136) dX10_maps_136 (lN_i _) ?_
                      refine lv_istore (lv' := [(7, .int (nI (K9 / 1048576 % 4))), (6, .int (nI (K9 / 4194304))), (0, .ref om), (1, .int (nI j)), (2, .int (nI g)), (3, .int (nI (liveS (kF j) (nF j) (Es yF j)))), (4, .int (nI (liveS (kF g) (nF g) (Es yF g)))), (5, .int (nI pp))]) hx hb (pc := 137) dX10_maps_137 hl (by decide) rfl (fun ls hl => ?_)
                      refine lv_aload_n hx hb (pc := 139) dX10_maps_139 rfl (lv_at hl 2 rfl) ?_
                      refine va_get (v := .ref (ad 19)) hx hb hts (inX10_maps_10) hown hKK.1 hP 0 rfl rfl 19 (by decide) (hts _ (List.mem_of_getElem? (i := 3) (by decide +kernel))) (fun _ h9 => h9) rfl (pc := 140) dX10_maps_140 ?_
                      refine lv_iload hx hb (pc := 143) dX10_maps_143 (lv_at hl 7 rfl) ?_
                      refine nv_lald (v := lN (cv K9)) (i := pp) hx hb hKK hP 16 rfl (by omega) (by decide) (congrArg lN hqv) (pc := 145) dX10_maps_145 ?_
                      refine lv_bipush (v := nI 24) hx hb (pc := 146) dX10_maps_146 (by decide) ?_
                      refine lv_lshr (v := lN (cv K9 >>> 24)) hx hb (pc := 148) dX10_maps_148 (rr_lshr hcvl (by decide)) ?_
                      refine lv_ldc2 (v := lN 255) hx hb (pc := 149) hown (hts _ (List.mem_of_getElem? (i := 5) (by decide +kernel))) dX10_maps_149 ?_
                      refine lv_land hx hb (pc := 152) dX10_maps_152 ?_
                      refine rr_top (v := .long (lN (K9 / 65536 % 16))) (congrArg Value.long ((lN_and _ _).trans (congrArg lN (cv_24 hK26)))) ?_
                      refine lv_l2i (v := nI (K9 / 65536 % 16)) hx hb (pc := 153) dX10_maps_153 (lN_i _) ?_
                      refine lv_istore (lv' := [(8, .int (nI (K9 / 65536 % 16))), (7, .int (nI (K9 / 1048576 % 4))), (6, .int (nI (K9 / 4194304))), (0, .ref om), (1, .int (nI j)), (2, .int (nI g)), (3, .int (nI (liveS (kF j) (nF j) (Es yF j)))), (4, .int (nI (liveS (kF g) (nF g) (Es yF g)))), (5, .int (nI pp))]) hx hb (pc := 154) dX10_maps_154 hl (by decide) rfl (fun ls hl => ?_)
                      refine lv_aload_n hx hb (pc := 156) dX10_maps_156 rfl (lv_at hl 3 rfl) ?_
                      refine va_get (v := .ref (ad 19)) hx hb hts (inX10_maps_10) hown hKK.1 hP 0 rfl rfl 19 (by decide) (hts _ (List.mem_of_getElem? (i := 3) (by decide +kernel))) (fun _ h9 => h9) rfl (pc := 157) dX10_maps_157 ?_
                      refine lv_iload hx hb (pc := 160) dX10_maps_160 (lv_at hl 8 rfl) ?_
                      refine nv_lald (v := lN (cv K9)) (i := pp) hx hb hKK hP 16 rfl (by omega) (by decide) (congrArg lN hqv) (pc := 162) dX10_maps_162 ?_
                      refine lv_ldc2 (v := lN 65535) hx hb (pc := 163) hown (hts _ (List.mem_of_getElem? (i := 6) (by decide +kernel))) dX10_maps_163 ?_
                      refine lv_land hx hb (pc := 166) dX10_maps_166 ?_
                      refine rr_top (v := .long (lN (K9 % 65536))) (congrArg Value.long ((lN_and _ _).trans (congrArg lN (cv_0 K9)))) ?_
                      refine lv_l2i (v := nI (K9 % 65536)) hx hb (pc := 167) dX10_maps_167 (lN_i _) ?_
                      refine lv_istore (lv' := [(9, .int (nI (K9 % 65536))), (8, .int (nI (K9 / 65536 % 16))), (7, .int (nI (K9 / 1048576 % 4))), (6, .int (nI (K9 / 4194304))), (0, .ref om), (1, .int (nI j)), (2, .int (nI g)), (3, .int (nI (liveS (kF j) (nF j) (Es yF j)))), (4, .int (nI (liveS (kF g) (nF g) (Es yF g)))), (5, .int (nI pp))]) hx hb (pc := 168) dX10_maps_168 hl (by decide) rfl (fun ls hl => ?_)
                      refine lv_iconst (v := nI 0) hx hb (pc := 170) dX10_maps_170 (by decide) ?_
                      refine lv_istore (lv' := [(10, .int (nI 0)), (9, .int (nI (K9 % 65536))), (8, .int (nI (K9 / 65536 % 16))), (7, .int (nI (K9 / 1048576 % 4))), (6, .int (nI (K9 / 4194304))), (0, .ref om), (1, .int (nI j)), (2, .int (nI g)), (3, .int (nI (liveS (kF j) (nF j) (Es yF j)))), (4, .int (nI (liveS (kF g) (nF g) (Es yF g)))), (5, .int (nI pp))]) hx hb (pc := 171) dX10_maps_171 hl (by decide) rfl (fun ls hl => ?_)
                      have L173 : ∀ (fz : Nat) (l9 : Nat) (f : Nat) (kn : List Nat) (qF1 : Nat → Nat) (bY1 : Nat → Nat) (fR1 : Nat → Int32) (oF1 : Nat → Int32) (hF1 : Nat → Int32) (H : Heap) (locs : List Loc) (hP : va_P K.1 vwCl (XM K om ad ns wl nf wd kn.length kF nF yF WD FL FW TD RW pl nw xt vF wF qF1 bY1 gF nm xm fR1 oF1 hF1 dF) H) (hD : va_D A (XM K om ad ns wl nf wd kn.length kF nF yF WD FL FW TD RW pl nw xt vF wF qF1 bY1 gF nm xm fR1 oF1 hF1 dF)) (hS : va_S A s.heap H locs) (hfz : kF j - l9 < fz) (hl9 : l9 ≤ kF j) (hR2 : (mpR kF nF yF wd TD j g) = (mgo (lvE (liveS (kF j) (nF j) (Es yF j)) (Es yF j)) (bhd wd TD (ldS (kF g) (nF g) (Es yF g) (liveS (kF g) (nF g) (Es yF g)))) (kF j) (f + 1) pp l9 kn 0).1) (hf2 : 130000 ≤ f + 1 + 5 * pp + l9) (hpl2 : pp < kn.length) (hK9 : kn.getD pp 0 = K9) (hlen2 : kn.length ≤ 20000) (hKO2 : ∀ x ∈ kn, KOK wd (liveS (kF j) (nF j) (Es yF j)) (liveS (kF g) (nF g) (Es yF g)) x) (hHC2 : HC (kn.map cv) oF1 hF1) (hKQ2 : KQ (kn.map cv) qF1) (ls : Array Slot) (hl : lv_has ls 17 [(0, .ref om), (1, .int (nI j)), (2, .int (nI g)), (3, .int (nI (liveS (kF j) (nF j) (Es yF j)))), (4, .int (nI (liveS (kF g) (nF g) (Es yF g)))), (5, .int (nI pp)), (6, .int (nI (K9 / 4194304))), (7, .int (nI (K9 / 1048576 % 4))), (8, .int (nI (K9 / 65536 % 16))), (9, .int (nI (K9 % 65536))), (10, .int (nI l9))]), W p l e rmX10_maps s m args below meth c H locs 0 0 Q (F0 m 173 ls []) := by
                        intro fz; induction fz with
                        | zero => intro l9 f kn qF1 bY1 fR1 oF1 hF1 H locs hP hD hS hfz hl9 hR2 hf2 hpl2 hK9 hlen2 hKO2 hHC2 hKQ2 ls hl; exact absurd hfz (Nat.not_lt_zero _)
                        | succ fz ih173 =>
                          intro l9 f kn qF1 bY1 fR1 oF1 hF1 H locs hP hD hS hfz hl9 hR2 hf2 hpl2 hK9 hlen2 hKO2 hHC2 hKQ2 ls hl
                          refine lv_iload hx hb (pc := 173) dX10_maps_173 (lv_at hl 10 rfl) ?_
                          refine lv_aload_n hx hb (pc := 175) dX10_maps_175 rfl (lv_at hl 0 rfl) ?_
                          refine va_get (v := .ref (ad 1)) hx hb hts (inX10_maps_10) hown hKK.1 hP 0 rfl rfl 1 (by decide) (hts _ (List.mem_of_getElem? (i := 7) (by decide +kernel))) (fun _ h9 => h9) rfl (pc := 176) dX10_maps_176 ?_
                          refine lv_iload_n hx hb (pc := 179) dX10_maps_179 rfl (lv_at hl 1 rfl) ?_
                          refine nv_iald (v := nI (kF j)) (i := j) hx hb hKK hP 1 rfl (by omega) (by decide) (rfl) (pc := 180) dX10_maps_180 ?_
                          refine nv_icmp_ge (a := l9) (b := (kF j)) (tgt := 390) hx hb (pc := 181) dX10_maps_181 (by decide) (by omega) (by omega) (fun c181 => ?_) (fun c181 => ?_)
                          · refine lv_iinc (v := nI (pp + 1)) (lv' := [(5, .int (nI (pp + 1))), (0, .ref om), (1, .int (nI j)), (2, .int (nI g)), (3, .int (nI (liveS (kF j) (nF j) (Es yF j)))), (4, .int (nI (liveS (kF g) (nF g) (Es yF g)))), (6, .int (nI (K9 / 4194304))), (7, .int (nI (K9 / 1048576 % 4))), (8, .int (nI (K9 / 65536 % 16))), (9, .int (nI (K9 % 65536))), (10, .int (nI l9))]) hx hb (pc := 390) dX10_maps_390 hl (k := 5) rfl (rr_inc _) (by decide) rfl (fun ls hl => ?_)
                            refine lv_goto (tgt := 100) hx hb (pc := 393) dX10_maps_393 (by decide) ?_
                            exact ih100 (pp + 1) _ _ qF1 bY1 fR1 oF1 hF1 _ _ hP hD hS (by omega) (by rw [hR2, mgo_row hpl2 (by omega)]) (by omega) (by omega) (hlen2) (hKO2) (hHC2) (hKQ2) ls (lv_sub hl [1, 2, 3, 4, 5, 0] rfl)
                          · obtain ⟨f1, hf1⟩ : ∃ f1, f = f1 + 1 := ⟨f - 1, by omega⟩
                            have hlk : l9 < kF j := by omega
                            have hl4 : l9 < 4 := by omega
                            have hbe := bhd_eq (TD := TD) (sb := (ldS (kF g) (nF g) (Es yF g) (liveS (kF g) (nF g) (Es yF g)))) hw1 hw hl4 hKK9 (fun a b => Nat.lt_of_le_of_lt (sub_le (ldS_sub _ _ _ _ _ _)) hlvb)
                            obtain ⟨hb1, hb2, hb3, hb4, hb5⟩ := hbe
                            have hbn : (bhd wd TD (ldS (kF g) (nF g) (Es yF g) (liveS (kF g) (nF g) (Es yF g))) K9 l9) &&& 65535 = nxN wd TD (ldS (kF g) (nF g) (Es yF g) (liveS (kF g) (nF g) (Es yF g))) K9 l9 := by rw [hb1, and16]; omega
                            have hnw : nwN K9 l9 < 64 := by unfold nwN; omega
                            have hen6 : lvE (liveS (kF j) (nF j) (Es yF j)) (Es yF j) (K9 / 4194304) l9 < 65536 := Nat.lt_of_le_of_lt (sub_le (lvE_sub _ _ _ _)) hlva
                            have hen2 : lvE (liveS (kF j) (nF j) (Es yF j)) (Es yF j) (K9 / 4194304) l9 < 2 ^ nF j := Nat.lt_of_le_of_lt (sub_le (lvE_sub _ _ _ _)) hlv2
                            have hnxs : sub (nxN wd TD (ldS (kF g) (nF g) (Es yF g) (liveS (kF g) (nF g) (Es yF g))) K9 l9) (liveS (kF g) (nF g) (Es yF g)) := by unfold nxN; split; exact ldS_sub _ _ _ _ _ _; exact hK3
                            obtain ⟨kn0, hkn0⟩ : ∃ z, z = kn := ⟨_, rfl⟩
                            subst hkn0
                            refine lv_aload_n hx hb (pc := 184) dX10_maps_184 rfl (lv_at hl 0 rfl) ?_
                            refine va_get (v := .ref (ad 3)) hx hb hts (inX10_maps_10) hown hKK.1 hP 0 rfl rfl 3 (by decide) (hts _ (List.mem_of_getElem? (i := 8) (by decide +kernel))) (fun _ h9 => h9) rfl (pc := 185) dX10_maps_185 ?_
                            refine lv_iload_n hx hb (pc := 188) dX10_maps_188 rfl (lv_at hl 1 rfl) ?_
                            refine lv_iload hx hb (pc := 189) dX10_maps_189 (lv_at hl 6 rfl) ?_
                            refine lv_iload hx hb (pc := 191) dX10_maps_191 (lv_at hl 10 rfl) ?_
                            refine rr_callP (rv := .int (nI (64 * j + ((K9 / 4194304) * 4 + l9)))) (pc := 193) (va_runS (As := [.int (nI j), .int (nI (K9 / 4194304)), .int (nI l9)]) (rest := [.ref (ad 3)]) ⟨hx, hb, hml, hown, hts⟩ (c_X10_at l K j (K9 / 4194304) l9) (cwS 3 hts gX10_maps_X10_at rfl rfl rfl (by decide +kernel) ⟨Nat.le_of_ble_eq_true rfl, Nat.le_of_ble_eq_true rfl⟩) (rr_preS hKK (trivial)) rfl rfl hl.1 rfl (lv_room (Nat.le_of_ble_eq_true rfl)) dX10_maps_193 ⟨Nat.le_refl _, Nat.le_refl _⟩) ?_
                            refine nv_iald (v := nI (Es yF j (K9 / 4194304 * 4 + l9))) (i := (64 * j + ((K9 / 4194304) * 4 + l9))) hx hb hKK hP 3 rfl (by omega) (by decide) (rfl) (pc := 196) dX10_maps_196 ?_
                            refine lv_iload_n hx hb (pc := 197) dX10_maps_197 rfl (lv_at hl 3 rfl) ?_
                            refine nv_iand (a := (Es yF j (K9 / 4194304 * 4 + l9))) (b := (liveS (kF j) (nF j) (Es yF j))) hx hb (pc := 198) dX10_maps_198 ?_
                            refine rr_top (v := .int (nI (lvE (liveS (kF j) (nF j) (Es yF j)) (Es yF j) (K9 / 4194304) l9))) (by rw [lvE_or hK2]) ?_
                            refine lv_istore (lv' := [(11, .int (nI (lvE (liveS (kF j) (nF j) (Es yF j)) (Es yF j) (K9 / 4194304) l9))), (0, .ref om), (1, .int (nI j)), (2, .int (nI g)), (3, .int (nI (liveS (kF j) (nF j) (Es yF j)))), (4, .int (nI (liveS (kF g) (nF g) (Es yF g)))), (5, .int (nI pp)), (6, .int (nI (K9 / 4194304))), (7, .int (nI (K9 / 1048576 % 4))), (8, .int (nI (K9 / 65536 % 16))), (9, .int (nI (K9 % 65536))), (10, .int (nI l9))]) hx hb (pc := 199) dX10_maps_199 hl (by decide) rfl (fun ls hl => ?_)
                            refine lv_iconst (v := nI 4) hx hb (pc := 201) dX10_maps_201 (by decide) ?_
                            refine lv_iload hx hb (pc := 202) dX10_maps_202 (lv_at hl 9 rfl) ?_
                            refine nv_imul (a := 4) (b := (K9 / 65536 % 16)) hx hb (pc := 204) dX10_maps_204 ?_
                            refine lv_iload hx hb (pc := 205) dX10_maps_205 (lv_at hl 11 rfl) ?_
                            refine nv_iadd (a := (4 * (K9 / 65536 % 16))) (b := l9) hx hb (pc := 207) dX10_maps_207 ?_
                            refine rr_top (v := .int (nI (nwN K9 l9))) (rfl) ?_
                            refine lv_istore (lv' := [(12, .int (nI (nwN K9 l9))), (11, .int (nI (lvE (liveS (kF j) (nF j) (Es yF j)) (Es yF j) (K9 / 4194304) l9))), (0, .ref om), (1, .int (nI j)), (2, .int (nI g)), (3, .int (nI (liveS (kF j) (nF j) (Es yF j)))), (4, .int (nI (liveS (kF g) (nF g) (Es yF g)))), (5, .int (nI pp)), (6, .int (nI (K9 / 4194304))), (7, .int (nI (K9 / 1048576 % 4))), (8, .int (nI (K9 / 65536 % 16))), (9, .int (nI (K9 % 65536))), (10, .int (nI l9))]) hx hb (pc := 208) dX10_maps_208 hl (by decide) rfl (fun ls hl => ?_)
                            have L244 : ∀ (ls : Array Slot) (hl : lv_has ls 17 [(0, .ref om), (1, .int (nI j)), (2, .int (nI g)), (3, .int (nI (liveS (kF j) (nF j) (Es yF j)))), (4, .int (nI (liveS (kF g) (nF g) (Es yF g)))), (5, .int (nI pp)), (6, .int (nI (K9 / 4194304))), (7, .int (nI (K9 / 1048576 % 4))), (8, .int (nI (K9 / 65536 % 16))), (9, .int (nI (K9 % 65536))), (10, .int (nI l9)), (11, .int (nI (lvE (liveS (kF j) (nF j) (Es yF j)) (Es yF j) (K9 / 4194304) l9))), (12, .int (nI (nwN K9 l9))), (13, .int (nI (nxN wd TD (ldS (kF g) (nF g) (Es yF g) (liveS (kF g) (nF g) (Es yF g))) K9 l9)))]), W p l e rmX10_maps s m args below meth c H locs 0 0 Q (F0 m 244 ls []) := by
                              intro ls hl
                              have L256 : ∀ (hen : lvE (liveS (kF j) (nF j) (Es yF j)) (Es yF j) (K9 / 4194304) l9 = 0 ∨ (¬ lvE (liveS (kF j) (nF j) (Es yF j)) (Es yF j) (K9 / 4194304) l9 = 0 ∧ ¬ nxN wd TD (ldS (kF g) (nF g) (Es yF g) (liveS (kF g) (nF g) (Es yF g))) K9 l9 = 0)) (ls : Array Slot) (hl : lv_has ls 17 [(0, .ref om), (1, .int (nI j)), (2, .int (nI g)), (3, .int (nI (liveS (kF j) (nF j) (Es yF j)))), (4, .int (nI (liveS (kF g) (nF g) (Es yF g)))), (5, .int (nI pp)), (6, .int (nI (K9 / 4194304))), (7, .int (nI (K9 / 1048576 % 4))), (8, .int (nI (K9 / 65536 % 16))), (9, .int (nI (K9 % 65536))), (10, .int (nI l9)), (11, .int (nI (lvE (liveS (kF j) (nF j) (Es yF j)) (Es yF j) (K9 / 4194304) l9))), (12, .int (nI (nwN K9 l9))), (13, .int (nI (nxN wd TD (ldS (kF g) (nF g) (Es yF g) (liveS (kF g) (nF g) (Es yF g))) K9 l9)))]), W p l e rmX10_maps s m args below meth c H locs 0 0 Q (F0 m 256 ls []) := by
                                intro hen ls hl
                                have L278 : ∀ (ls : Array Slot) (hl : lv_has ls 17 [(0, .ref om), (1, .int (nI j)), (2, .int (nI g)), (3, .int (nI (liveS (kF j) (nF j) (Es yF j)))), (4, .int (nI (liveS (kF g) (nF g) (Es yF g)))), (5, .int (nI pp)), (6, .int (nI (K9 / 4194304))), (7, .int (nI (K9 / 1048576 % 4))), (8, .int (nI (K9 / 65536 % 16))), (9, .int (nI (K9 % 65536))), (10, .int (nI l9)), (11, .int (nI (lvE (liveS (kF j) (nF j) (Es yF j)) (Es yF j) (K9 / 4194304) l9))), (12, .int (nI (nwN K9 l9))), (13, .int (nI (nxN wd TD (ldS (kF g) (nF g) (Es yF g) (liveS (kF g) (nF g) (Es yF g))) K9 l9))), (14, .int (nI (ctN wd K9)))]), W p l e rmX10_maps s m args below meth c H locs 0 0 Q (F0 m 278 ls []) := by
                                  intro ls hl
                                  have L305 : ∀ (ls : Array Slot) (hl : lv_has ls 17 [(0, .ref om), (1, .int (nI j)), (2, .int (nI g)), (3, .int (nI (liveS (kF j) (nF j) (Es yF j)))), (4, .int (nI (liveS (kF g) (nF g) (Es yF g)))), (5, .int (nI pp)), (6, .int (nI (K9 / 4194304))), (7, .int (nI (K9 / 1048576 % 4))), (8, .int (nI (K9 / 65536 % 16))), (9, .int (nI (K9 % 65536))), (10, .int (nI l9)), (11, .int (nI (lvE (liveS (kF j) (nF j) (Es yF j)) (Es yF j) (K9 / 4194304) l9))), (13, .int (nI (nxN wd TD (ldS (kF g) (nF g) (Es yF g) (liveS (kF g) (nF g) (Es yF g))) K9 l9))), (14, .int (nI (ctN wd K9))), (15, .int (nI (kpN wd K9 l9)))]), W p l e rmX10_maps s m args below meth c H locs 0 0 Q (F0 m 305 ls []) := by
                                    intro ls hl
                                    refine lv_iconst (v := nI 0) hx hb (pc := 305) dX10_maps_305 (by decide) ?_
                                    refine lv_istore (lv' := [(16, .int (nI 0)), (0, .ref om), (1, .int (nI j)), (2, .int (nI g)), (3, .int (nI (liveS (kF j) (nF j) (Es yF j)))), (4, .int (nI (liveS (kF g) (nF g) (Es yF g)))), (5, .int (nI pp)), (6, .int (nI (K9 / 4194304))), (7, .int (nI (K9 / 1048576 % 4))), (8, .int (nI (K9 / 65536 % 16))), (9, .int (nI (K9 % 65536))), (10, .int (nI l9)), (11, .int (nI (lvE (liveS (kF j) (nF j) (Es yF j)) (Es yF j) (K9 / 4194304) l9))), (13, .int (nI (nxN wd TD (ldS (kF g) (nF g) (Es yF g) (liveS (kF g) (nF g) (Es yF g))) K9 l9))), (14, .int (nI (ctN wd K9))), (15, .int (nI (kpN wd K9 l9)))]) hx hb (pc := 306) dX10_maps_306 hl (by decide) rfl (fun ls hl => ?_)
                                    have L308 : ∀ (fz : Nat) (r : Nat) (kn : List Nat) (qF1 : Nat → Nat) (bY1 : Nat → Nat) (fR1 : Nat → Int32) (oF1 : Nat → Int32) (hF1 : Nat → Int32) (H : Heap) (locs : List Loc) (hP : va_P K.1 vwCl (XM K om ad ns wl nf wd kn.length kF nF yF WD FL FW TD RW pl nw xt vF wF qF1 bY1 gF nm xm fR1 oF1 hF1 dF) H) (hD : va_D A (XM K om ad ns wl nf wd kn.length kF nF yF WD FL FW TD RW pl nw xt vF wF qF1 bY1 gF nm xm fR1 oF1 hF1 dF)) (hS : va_S A s.heap H locs) (hfz : nF j - r < fz) (hr : r ≤ nF j) (hkn4 : kn = (rr_fold (mA1 (lvE (liveS (kF j) (nF j) (Es yF j)) (Es yF j) (K9 / 4194304) l9) (bhd wd TD (ldS (kF g) (nF g) (Es yF g) (liveS (kF g) (nF g) (Es yF g))) K9 l9)) r (kn0, 0)).1) (hlen4 : kn.length ≤ 20000) (hKO4 : ∀ x ∈ kn, KOK wd (liveS (kF j) (nF j) (Es yF j)) (liveS (kF g) (nF g) (Es yF g)) x) (hHC4 : HC (kn.map cv) oF1 hF1) (hKQ4 : KQ (kn.map cv) qF1) (ls : Array Slot) (hl : lv_has ls 17 [(0, .ref om), (1, .int (nI j)), (2, .int (nI g)), (3, .int (nI (liveS (kF j) (nF j) (Es yF j)))), (4, .int (nI (liveS (kF g) (nF g) (Es yF g)))), (5, .int (nI pp)), (6, .int (nI (K9 / 4194304))), (7, .int (nI (K9 / 1048576 % 4))), (8, .int (nI (K9 / 65536 % 16))), (9, .int (nI (K9 % 65536))), (10, .int (nI l9)), (11, .int (nI (lvE (liveS (kF j) (nF j) (Es yF j)) (Es yF j) (K9 / 4194304) l9))), (13, .int (nI (nxN wd TD (ldS (kF g) (nF g) (Es yF g) (liveS (kF g) (nF g) (Es yF g))) K9 l9))), (14, .int (nI (ctN wd K9))), (15, .int (nI (kpN wd K9 l9))), (16, .int (nI r))]), W p l e rmX10_maps s m args below meth c H locs 0 0 Q (F0 m 308 ls []) := by
                                      intro fz; induction fz with
                                      | zero => intro r kn qF1 bY1 fR1 oF1 hF1 H locs hP hD hS hfz hr hkn4 hlen4 hKO4 hHC4 hKQ4 ls hl; exact absurd hfz (Nat.not_lt_zero _)
                                      | succ fz ih308 =>
                                        intro r kn qF1 bY1 fR1 oF1 hF1 H locs hP hD hS hfz hr hkn4 hlen4 hKO4 hHC4 hKQ4 ls hl
                                        refine lv_iload hx hb (pc := 308) dX10_maps_308 (lv_at hl 15 rfl) ?_
                                        refine lv_aload_n hx hb (pc := 310) dX10_maps_310 rfl (lv_at hl 0 rfl) ?_
                                        refine va_get (v := .ref (ad 2)) hx hb hts (inX10_maps_10) hown hKK.1 hP 0 rfl rfl 2 (by decide) (hts _ (List.mem_of_getElem? (i := 1) (by decide +kernel))) (fun _ h9 => h9) rfl (pc := 311) dX10_maps_311 ?_
                                        refine lv_iload_n hx hb (pc := 314) dX10_maps_314 rfl (lv_at hl 1 rfl) ?_
                                        refine nv_iald (v := nI (nF j)) (i := j) hx hb hKK hP 2 rfl (by omega) (by decide) (rfl) (pc := 315) dX10_maps_315 ?_
                                        refine nv_icmp_ge (a := r) (b := (nF j)) (tgt := 384) hx hb (pc := 316) dX10_maps_316 (by decide) (by omega) (by omega) (fun c316 => ?_) (fun c316 => ?_)
                                        · refine lv_iinc (v := nI (l9 + 1)) (lv' := [(10, .int (nI (l9 + 1))), (0, .ref om), (1, .int (nI j)), (2, .int (nI g)), (3, .int (nI (liveS (kF j) (nF j) (Es yF j)))), (4, .int (nI (liveS (kF g) (nF g) (Es yF g)))), (5, .int (nI pp)), (6, .int (nI (K9 / 4194304))), (7, .int (nI (K9 / 1048576 % 4))), (8, .int (nI (K9 / 65536 % 16))), (9, .int (nI (K9 % 65536))), (11, .int (nI (lvE (liveS (kF j) (nF j) (Es yF j)) (Es yF j) (K9 / 4194304) l9))), (13, .int (nI (nxN wd TD (ldS (kF g) (nF g) (Es yF g) (liveS (kF g) (nF g) (Es yF g))) K9 l9))), (14, .int (nI (ctN wd K9))), (15, .int (nI (kpN wd K9 l9))), (16, .int (nI r))]) hx hb (pc := 384) dX10_maps_384 hl (k := 10) rfl (rr_inc _) (by decide) rfl (fun ls hl => ?_)
                                          refine lv_goto (tgt := 173) hx hb (pc := 387) dX10_maps_387 (by decide) ?_
                                          have e6 : r = nF j := by omega
                                          rw [e6, mF_16 s4j hen2] at hkn4
                                          have hln9 := (mF_cap (lvE (liveS (kF j) (nF j) (Es yF j)) (Es yF j) (K9 / 4194304) l9) (bhd wd TD (ldS (kF g) (nF g) (Es yF g) (liveS (kF g) (nF g) (Es yF g))) K9 l9) (kn0, 0) 16).2.1
                                          have hln8 : kn0.length ≤ kn.length := by rw [hkn4]; exact hln9
                                          have hgt9 : kn.getD pp 0 = K9 := by rw [hkn4, ← hK9]; exact mF_getD hpl2 16
                                          have hRn : (mpR kF nF yF wd TD j g) = (mgo (lvE (liveS (kF j) (nF j) (Es yF j)) (Es yF j)) (bhd wd TD (ldS (kF g) (nF g) (Es yF g) (liveS (kF g) (nF g) (Es yF g)))) (kF j) (f1 + 1) pp (l9 + 1) kn 0).1 := by
                                            rcases hen with h0 | ⟨h0, h1⟩
                                            · rw [hR2, mgo_zero hpl2 hlk (by rw [hK9, ky_22 hK26]; exact h0), hf1]
                                              rw [h0, mAll_0] at hkn4
                                              rw [hkn4]
                                            · have hb5 : ¬ (bhd wd TD (ldS (kF g) (nF g) (Es yF g) (liveS (kF g) (nF g) (Es yF g)))) (kn0.getD pp 0) l9 &&& 65535 = 0 := by rw [hK9, hbn]; exact h1
                                              have ha5 : ¬ (lvE (liveS (kF j) (nF j) (Es yF j)) (Es yF j)) (kn0.getD pp 0 >>> 22 &&& 15) l9 = 0 := by rw [hK9, ky_22 hK26]; exact h0
                                              have hc5 : kn = (mAll ((lvE (liveS (kF j) (nF j) (Es yF j)) (Es yF j)) (kn0.getD pp 0 >>> 22 &&& 15) l9) ((bhd wd TD (ldS (kF g) (nF g) (Es yF g) (liveS (kF g) (nF g) (Es yF g)))) (kn0.getD pp 0) l9) (kn0, 0)).1 := by rw [hK9, ky_22 hK26]; exact hkn4
                                              rw [hR2, mgo_on hpl2 hlk ha5 hb5 (by rw [← hc5]; omega), ← hc5, hf1]
                                              exact mgo_ind _ _ _ _ _ _ _ _ _
                                          exact ih173 (l9 + 1) f1 _ qF1 bY1 fR1 oF1 hF1 _ _ hP hD hS (by omega) (by omega) (hRn) (by omega) (by omega) (hgt9) (hlen4) (hKO4) (hHC4) (hKQ4) ls (lv_sub hl [1, 2, 3, 4, 5, 6, 7, 8, 9, 10, 0] rfl)
                                        · refine lv_iload hx hb (pc := 319) dX10_maps_319 (lv_at hl 11 rfl) ?_
                                          refine lv_iload hx hb (pc := 321) dX10_maps_321 (lv_at hl 15 rfl) ?_
                                          refine nv_ishr (a := (lvE (liveS (kF j) (nF j) (Es yF j)) (Es yF j) (K9 / 4194304) l9)) (b := r) hx hb (pc := 323) dX10_maps_323 (by omega) (by omega) ?_
                                          refine lv_iconst (v := nI 1) hx hb (pc := 324) dX10_maps_324 (by decide) ?_
                                          refine nv_bit (a := (lvE (liveS (kF j) (nF j) (Es yF j)) (Es yF j) (K9 / 4194304) l9)) (q := r) hx hb (pc := 325) dX10_maps_325 ?_
                                          refine lv_iconst (v := nI 1) hx hb (pc := 326) dX10_maps_326 (by decide) ?_
                                          refine nv_icmp_ne_b1 (tgt := 378) hx hb (pc := 327) dX10_maps_327 (by decide) (fun c327 => ?_) (fun c327 => ?_)
                                          · refine lv_iinc (v := nI (r + 1)) (lv' := [(16, .int (nI (r + 1))), (0, .ref om), (1, .int (nI j)), (2, .int (nI g)), (3, .int (nI (liveS (kF j) (nF j) (Es yF j)))), (4, .int (nI (liveS (kF g) (nF g) (Es yF g)))), (5, .int (nI pp)), (6, .int (nI (K9 / 4194304))), (7, .int (nI (K9 / 1048576 % 4))), (8, .int (nI (K9 / 65536 % 16))), (9, .int (nI (K9 % 65536))), (10, .int (nI l9)), (11, .int (nI (lvE (liveS (kF j) (nF j) (Es yF j)) (Es yF j) (K9 / 4194304) l9))), (13, .int (nI (nxN wd TD (ldS (kF g) (nF g) (Es yF g) (liveS (kF g) (nF g) (Es yF g))) K9 l9))), (14, .int (nI (ctN wd K9))), (15, .int (nI (kpN wd K9 l9)))]) hx hb (pc := 378) dX10_maps_378 hl (k := 15) rfl (rr_inc _) (by decide) rfl (fun ls hl => ?_)
                                            refine lv_goto (tgt := 308) hx hb (pc := 381) dX10_maps_381 (by decide) ?_
                                            exact ih308 (r + 1) kn qF1 bY1 fR1 oF1 hF1 _ _ hP hD hS (by omega) (by omega) (by rw [mF_no c327, hkn4]) (hlen4) (hKO4) (hHC4) (hKQ4) ls (lv_sub hl [1, 2, 3, 4, 5, 6, 7, 8, 9, 10, 11, 12, 13, 14, 15, 0] rfl)
                                          · have hra := sub_bit.mp (lvE_sub _ _ _ _) r c327
                                            have hkok : KOK wd (liveS (kF j) (nF j) (Es yF j)) (liveS (kF g) (nF g) (Es yF g)) (r <<< 22 ||| (bhd wd TD (ldS (kF g) (nF g) (Es yF g) (liveS (kF g) (nF g) (Es yF g))) K9 l9)) := by rw [hb1]; exact KOK_new (by omega) hw hra hb2 hb3 hb4 hb5 hnxs
                                            have hk26 : (r <<< 22 ||| (bhd wd TD (ldS (kF g) (nF g) (Es yF g) (liveS (kF g) (nF g) (Es yF g))) K9 l9)) < 67108864 := hkok.1
                                            have hmk : ((r <<< 40 ||| (ctN wd K9) <<< 32) ||| (kpN wd K9 l9) <<< 24) ||| (nxN wd TD (ldS (kF g) (nF g) (Es yF g) (liveS (kF g) (nF g) (Es yF g))) K9 l9) = cv (r <<< 22 ||| (bhd wd TD (ldS (kF g) (nF g) (Es yF g) (liveS (kF g) (nF g) (Es yF g))) K9 l9)) := by rw [hb1]; exact mkey (by omega) (by omega) hb4 hb5
                                            refine lv_aload_n hx hb (pc := 330) dX10_maps_330 rfl (lv_at hl 0 rfl) ?_
                                            refine lv_iload hx hb (pc := 331) dX10_maps_331 (lv_at hl 15 rfl) ?_
                                            refine lv_i2l (v := lN r) hx hb (pc := 333) dX10_maps_333 (nI_l (by omega)) ?_
                                            refine lv_bipush (v := nI 40) hx hb (pc := 334) dX10_maps_334 (by decide) ?_
                                            refine lv_lshl (v := lN (r <<< 40)) hx hb (pc := 336) dX10_maps_336 (lN_shl _ (by decide)) ?_
                                            refine lv_iload hx hb (pc := 337) dX10_maps_337 (lv_at hl 13 rfl) ?_
                                            refine lv_i2l (v := lN (ctN wd K9)) hx hb (pc := 339) dX10_maps_339 (nI_l (by omega)) ?_
                                            refine lv_bipush (v := nI 32) hx hb (pc := 340) dX10_maps_340 (by decide) ?_
                                            refine lv_lshl (v := lN ((ctN wd K9) <<< 32)) hx hb (pc := 342) dX10_maps_342 (lN_shl _ (by decide)) ?_
                                            refine lv_lor hx hb (pc := 343) dX10_maps_343 ?_
                                            refine rr_top (v := .long (lN (r <<< 40 ||| (ctN wd K9) <<< 32))) (congrArg Value.long (lN_or _ _)) ?_
                                            refine lv_iload hx hb (pc := 344) dX10_maps_344 (lv_at hl 14 rfl) ?_
                                            refine lv_i2l (v := lN (kpN wd K9 l9)) hx hb (pc := 346) dX10_maps_346 (nI_l (by omega)) ?_
                                            refine lv_bipush (v := nI 24) hx hb (pc := 347) dX10_maps_347 (by decide) ?_
                                            refine lv_lshl (v := lN ((kpN wd K9 l9) <<< 24)) hx hb (pc := 349) dX10_maps_349 (lN_shl _ (by decide)) ?_
                                            refine lv_lor hx hb (pc := 350) dX10_maps_350 ?_
                                            refine rr_top (v := .long (lN ((r <<< 40 ||| (ctN wd K9) <<< 32) ||| (kpN wd K9 l9) <<< 24))) (congrArg Value.long (lN_or _ _)) ?_
                                            refine lv_iload hx hb (pc := 351) dX10_maps_351 (lv_at hl 12 rfl) ?_
                                            refine lv_i2l (v := lN (nxN wd TD (ldS (kF g) (nF g) (Es yF g) (liveS (kF g) (nF g) (Es yF g))) K9 l9)) hx hb (pc := 353) dX10_maps_353 (nI_l (by omega)) ?_
                                            refine lv_lor hx hb (pc := 354) dX10_maps_354 ?_
                                            refine rr_top (v := .long (lN (cv (r <<< 22 ||| (bhd wd TD (ldS (kF g) (nF g) (Es yF g) (liveS (kF g) (nF g) (Es yF g))) K9 l9))))) (congrArg Value.long ((lN_or _ _).trans (congrArg lN hmk))) ?_
                                            refine lv_iload hx hb (pc := 355) dX10_maps_355 (lv_at hl 5 rfl) ?_
                                            refine lv_iload hx hb (pc := 357) dX10_maps_357 (lv_at hl 10 rfl) ?_
                                            refine rr_callR (pc := 359) (va_runV (As := [.long (lN (cv (r <<< 22 ||| (bhd wd TD (ldS (kF g) (nF g) (Es yF g) (liveS (kF g) (nF g) (Es yF g))) K9 l9)))), .int (nI pp), .int (nI l9)]) (rest := []) ⟨hx, hb, hml, hown, hts⟩ (c_X10_meets l K A om ad ns wl nf wd kn.length kF nF yF WD FL FW TD RW pl nw xt vF wF qF1 bY1 gF nm xm fR1 oF1 hF1 dF (cv (r <<< 22 ||| (bhd wd TD (ldS (kF g) (nF g) (Es yF g) (liveS (kF g) (nF g) (Es yF g))) K9 l9))) l9 (nI pp) (kn.map cv) (by rw [List.length_map]) (by rw [List.length_map]; omega) hHC4 hKQ4 (cv_all (fun x hx => (hKO4 x hx).1)) (cv_lt hk26) hD) (cwV 3 hts gX10_maps_X10_meets rfl rfl rfl (by decide +kernel) ⟨Nat.le_of_ble_eq_true rfl, Nat.le_of_ble_eq_true rfl⟩) (rr_preV hKK (hP) (va_recv hKK.1 hP (ci := 10) (q0 := 0) rfl rfl)) rfl rfl hl.1 rfl (lv_room (Nat.le_of_ble_eq_true rfl)) dX10_maps_359 ⟨by omega, by omega⟩) hS (fun _ h => h) (fun v H locs hY hsz hfr hS => ?_)
                                            obtain ⟨rfl, oF', hF', hHC3, hP⟩ := hY
                                            have h26k : ∀ x ∈ kn, x < 67108864 := fun x hx => (hKO4 x hx).1
                                            have hade := adK_cv h26k hk26
                                            have hKQ3 := KQ_met (key := cv (r <<< 22 ||| (bhd wd TD (ldS (kF g) (nF g) (Es yF g) (liveS (kF g) (nF g) (Es yF g))) K9 l9))) hKQ4
                                            obtain ⟨qF2, hq2⟩ : ∃ z, z = (if cv (r <<< 22 ||| (bhd wd TD (ldS (kF g) (nF g) (Es yF g) (liveS (kF g) (nF g) (Es yF g))) K9 l9)) ∈ kn.map cv then qF1 else va_up qF1 (kn.map cv).length (cv (r <<< 22 ||| (bhd wd TD (ldS (kF g) (nF g) (Es yF g) (liveS (kF g) (nF g) (Es yF g))) K9 l9)))) := ⟨_, rfl⟩
                                            obtain ⟨fR2, hr2⟩ : ∃ z, z = (if cv (r <<< 22 ||| (bhd wd TD (ldS (kF g) (nF g) (Es yF g) (liveS (kF g) (nF g) (Es yF g))) K9 l9)) ∈ kn.map cv then fR1 else va_up fR1 (kn.map cv).length (nI pp)) := ⟨_, rfl⟩
                                            obtain ⟨bY2, hb2⟩ : ∃ z, z = (if cv (r <<< 22 ||| (bhd wd TD (ldS (kF g) (nF g) (Es yF g) (liveS (kF g) (nF g) (Es yF g))) K9 l9)) ∈ kn.map cv then bY1 else va_up bY1 (kn.map cv).length l9) := ⟨_, rfl⟩
                                            rw [← hq2, hade] at hKQ3
                                            rw [hade] at hHC3
                                            rw [← hq2, ← hr2, ← hb2, hade, List.length_map] at hP
                                            have hKO3 := ks_all hKO4 hkok
                                            have hD : va_D A (XM K om ad ns wl nf wd ((adK kn (r <<< 22 ||| (bhd wd TD (ldS (kF g) (nF g) (Es yF g) (liveS (kF g) (nF g) (Es yF g))) K9 l9))).length) kF nF yF WD FL FW TD RW pl nw xt vF wF qF2 bY2 gF nm xm fR2 oF' hF' dF) := rr_D hD rfl
                                            have hP : va_P K.1 vwCl (XM K om ad ns wl nf wd ((adK kn (r <<< 22 ||| (bhd wd TD (ldS (kF g) (nF g) (Es yF g) (liveS (kF g) (nF g) (Es yF g))) K9 l9))).length) kF nF yF WD FL FW TD RW pl nw xt vF wF qF2 bY2 gF nm xm fR2 oF' hF' dF) H := hP
                                            refine nv_if_eq_b (a := (!(decide (cv (r <<< 22 ||| (bhd wd TD (ldS (kF g) (nF g) (Es yF g) (liveS (kF g) (nF g) (Es yF g))) K9 l9)) ∈ kn.map cv)))) (tgt := 378) hx hb (pc := 362) dX10_maps_362 (by decide) (fun c362 => ?_) (fun c362 => ?_)
                                            · refine lv_iinc (v := nI (r + 1)) (lv' := [(16, .int (nI (r + 1))), (0, .ref om), (1, .int (nI j)), (2, .int (nI g)), (3, .int (nI (liveS (kF j) (nF j) (Es yF j)))), (4, .int (nI (liveS (kF g) (nF g) (Es yF g)))), (5, .int (nI pp)), (6, .int (nI (K9 / 4194304))), (7, .int (nI (K9 / 1048576 % 4))), (8, .int (nI (K9 / 65536 % 16))), (9, .int (nI (K9 % 65536))), (10, .int (nI l9)), (11, .int (nI (lvE (liveS (kF j) (nF j) (Es yF j)) (Es yF j) (K9 / 4194304) l9))), (13, .int (nI (nxN wd TD (ldS (kF g) (nF g) (Es yF g) (liveS (kF g) (nF g) (Es yF g))) K9 l9))), (14, .int (nI (ctN wd K9))), (15, .int (nI (kpN wd K9 l9)))]) hx hb (pc := 378) dX10_maps_378 hl (k := 15) rfl (rr_inc _) (by decide) rfl (fun ls hl => ?_)
                                              refine lv_goto (tgt := 308) hx hb (pc := 381) dX10_maps_381 (by decide) ?_
                                              exact ih308 (r + 1) (adK kn (r <<< 22 ||| (bhd wd TD (ldS (kF g) (nF g) (Es yF g) (liveS (kF g) (nF g) (Es yF g))) K9 l9))) qF2 bY2 fR2 oF' hF' _ _ hP hD hS (by omega) (by omega) (by rw [mF_yes c327, hkn4]) (by first | omega | (have h9 := of_decide_eq_true (by have := c362; rw [Bool.not_eq_false'] at this; exact this); rw [adK_in ((mem_cv (fun x hx => (hKO4 x hx).1) hk26).mp h9)]; exact hlen4)) (hKO3) (hHC3) (hKQ3) ls (lv_sub hl [1, 2, 3, 4, 5, 6, 7, 8, 9, 10, 11, 12, 13, 14, 15, 0] rfl)
                                            · refine lv_aload_n hx hb (pc := 365) dX10_maps_365 rfl (lv_at hl 0 rfl) ?_
                                              refine va_get (v := .int (nI ((adK kn (r <<< 22 ||| (bhd wd TD (ldS (kF g) (nF g) (Es yF g) (liveS (kF g) (nF g) (Es yF g))) K9 l9))).length))) hx hb hts (inX10_maps_10) hown hKK.1 hP 0 rfl rfl 24 (by decide) (hts _ (List.mem_of_getElem? (i := 2) (by decide +kernel))) (fun _ h9 => h9) rfl (pc := 366) dX10_maps_366 ?_
                                              refine lv_sipush (v := nI 20000) hx hb (pc := 369) dX10_maps_369 (by decide) ?_
                                              refine nv_icmp_le (a := ((adK kn (r <<< 22 ||| (bhd wd TD (ldS (kF g) (nF g) (Es yF g) (liveS (kF g) (nF g) (Es yF g))) K9 l9))).length)) (b := 20000) (tgt := 378) hx hb (pc := 372) dX10_maps_372 (by decide) (by have := adK_len kn (r <<< 22 ||| (bhd wd TD (ldS (kF g) (nF g) (Es yF g) (liveS (kF g) (nF g) (Es yF g))) K9 l9)); omega) (by omega) (fun c372 => ?_) (fun c372 => ?_)
                                              · refine lv_iinc (v := nI (r + 1)) (lv' := [(16, .int (nI (r + 1))), (0, .ref om), (1, .int (nI j)), (2, .int (nI g)), (3, .int (nI (liveS (kF j) (nF j) (Es yF j)))), (4, .int (nI (liveS (kF g) (nF g) (Es yF g)))), (5, .int (nI pp)), (6, .int (nI (K9 / 4194304))), (7, .int (nI (K9 / 1048576 % 4))), (8, .int (nI (K9 / 65536 % 16))), (9, .int (nI (K9 % 65536))), (10, .int (nI l9)), (11, .int (nI (lvE (liveS (kF j) (nF j) (Es yF j)) (Es yF j) (K9 / 4194304) l9))), (13, .int (nI (nxN wd TD (ldS (kF g) (nF g) (Es yF g) (liveS (kF g) (nF g) (Es yF g))) K9 l9))), (14, .int (nI (ctN wd K9))), (15, .int (nI (kpN wd K9 l9)))]) hx hb (pc := 378) dX10_maps_378 hl (k := 15) rfl (rr_inc _) (by decide) rfl (fun ls hl => ?_)
                                                refine lv_goto (tgt := 308) hx hb (pc := 381) dX10_maps_381 (by decide) ?_
                                                exact ih308 (r + 1) (adK kn (r <<< 22 ||| (bhd wd TD (ldS (kF g) (nF g) (Es yF g) (liveS (kF g) (nF g) (Es yF g))) K9 l9))) qF2 bY2 fR2 oF' hF' _ _ hP hD hS (by omega) (by omega) (by rw [mF_yes c327, hkn4]) (by first | omega | (have h9 := of_decide_eq_true (by have := c362; rw [Bool.not_eq_false'] at this; exact this); rw [adK_in ((mem_cv (fun x hx => (hKO4 x hx).1) hk26).mp h9)]; exact hlen4)) (hKO3) (hHC3) (hKQ3) ls (lv_sub hl [1, 2, 3, 4, 5, 6, 7, 8, 9, 10, 11, 12, 13, 14, 15, 0] rfl)
                                              · refine lv_bipush (v := -5) hx hb (pc := 375) dX10_maps_375 (by decide) ?_
                                                have hcd : (mpR kF nF yF wd TD j g) = 2 := by rw [hR2]; exact mgo_spent hpl2 hlk (fun h0 => by rw [hK9, ky_22 hK26] at h0; rw [h0, Nat.zero_testBit] at c327; cases c327) (fun h0 => by rw [hK9, hbn] at h0; exact hen.elim (fun z => by rw [z, Nat.zero_testBit] at c327; cases c327) (fun z => z.2 h0)) (by rw [hK9, ky_22 hK26]; have h8 := mF_len (sts := lvE (liveS (kF j) (nF j) (Es yF j)) (Es yF j) (K9 / 4194304) l9) (rest := (bhd wd TD (ldS (kF g) (nF g) (Es yF g) (liveS (kF g) (nF g) (Es yF g))) K9 l9)) (x := (kn0, 0)) (show r + 1 ≤ 16 by omega); rw [mF_yes c327, ← hkn4] at h8; exact Nat.lt_of_lt_of_le (by omega) h8)
                                                exact hret.1 _ _ 0 0 377 _ (-5) dX10_maps_377 (by omega) (by omega) hS (⟨by unfold mapA; rw [if_pos (by rw [c5, c13]; rfl), ecj, ecg, hcd]; rfl, _, _, _, _, _, _, hP⟩) (rfl)
                                    exact L308 (17) 0 kn0 qF1 bY1 fR1 oF1 hF1 _ _ hP hD hS (by omega) (Nat.zero_le _) (rfl) (hlen2) (hKO2) (hHC2) (hKQ2) ls (lv_sub hl [1, 2, 3, 4, 5, 6, 7, 8, 9, 10, 11, 12, 13, 14, 15, 0] rfl)
                                  refine lv_aload_n hx hb (pc := 278) dX10_maps_278 rfl (lv_at hl 0 rfl) ?_
                                  refine va_get (v := .int (nI wd)) hx hb hts (inX10_maps_10) hown hKK.1 hP 0 rfl rfl 9 (by decide) (hts _ (List.mem_of_getElem? (i := 9) (by decide +kernel))) (fun _ h9 => h9) rfl (pc := 279) dX10_maps_279 ?_
                                  refine lv_iconst (v := nI 1) hx hb (pc := 282) dX10_maps_282 (by decide) ?_
                                  refine nv_icmp_ne (a := wd) (b := 1) (tgt := 290) hx hb (pc := 283) dX10_maps_283 (by decide) (by omega) (by omega) (fun c283 => ?_) (fun c283 => ?_)
                                  · refine lv_iload hx hb (pc := 290) dX10_maps_290 (lv_at hl 12 rfl) ?_
                                    refine lv_iconst (v := nI 1) hx hb (pc := 292) dX10_maps_292 (by decide) ?_
                                    refine lv_iconst (v := nI 2) hx hb (pc := 293) dX10_maps_293 (by decide) ?_
                                    refine lv_aload_n hx hb (pc := 294) dX10_maps_294 rfl (lv_at hl 0 rfl) ?_
                                    refine va_get (v := .int (nI wd)) hx hb hts (inX10_maps_10) hown hKK.1 hP 0 rfl rfl 9 (by decide) (hts _ (List.mem_of_getElem? (i := 9) (by decide +kernel))) (fun _ h9 => h9) rfl (pc := 295) dX10_maps_295 ?_
                                    refine lv_iconst (v := nI 1) hx hb (pc := 298) dX10_maps_298 (by decide) ?_
                                    refine nv_isub (a := wd) (b := 1) hx hb (pc := 299) dX10_maps_299 (by omega) ?_
                                    refine nv_imul (a := 2) (b := (wd - 1)) hx hb (pc := 300) dX10_maps_300 ?_
                                    refine nv_ishl (a := 1) (b := (2 * (wd - 1))) hx hb (pc := 301) dX10_maps_301 (by omega) ?_
                                    have hwp := wd_pow hw1 hw (Nat.le_refl (wd - 1))
                                    have h2p := Nat.two_pow_pos (2 * (wd - 1))
                                    have hsh : 1 <<< (2 * (wd - 1)) = 2 ^ (2 * (wd - 1)) := Nat.one_shiftLeft _
                                    refine nv_irem (a := (nwN K9 l9)) (b := (1 <<< (2 * (wd - 1)))) hx hb (pc := 302) dX10_maps_302 (by omega) (by omega) (by omega) ?_
                                    refine rr_top (v := .int (nI (kpN wd K9 l9))) (by unfold kpN; first | (rw [if_pos c283]; done) | (rw [if_neg c283, hsh]; done)) ?_
                                    refine lv_istore (lv' := [(15, .int (nI (kpN wd K9 l9))), (0, .ref om), (1, .int (nI j)), (2, .int (nI g)), (3, .int (nI (liveS (kF j) (nF j) (Es yF j)))), (4, .int (nI (liveS (kF g) (nF g) (Es yF g)))), (5, .int (nI pp)), (6, .int (nI (K9 / 4194304))), (7, .int (nI (K9 / 1048576 % 4))), (8, .int (nI (K9 / 65536 % 16))), (9, .int (nI (K9 % 65536))), (10, .int (nI l9)), (11, .int (nI (lvE (liveS (kF j) (nF j) (Es yF j)) (Es yF j) (K9 / 4194304) l9))), (12, .int (nI (nwN K9 l9))), (13, .int (nI (nxN wd TD (ldS (kF g) (nF g) (Es yF g) (liveS (kF g) (nF g) (Es yF g))) K9 l9))), (14, .int (nI (ctN wd K9)))]) hx hb (pc := 303) dX10_maps_303 hl (by decide) rfl (fun ls hl => ?_)
                                    exact L305 ls (lv_sub hl [1, 2, 3, 4, 5, 6, 7, 8, 9, 10, 11, 12, 14, 15, 0] rfl)
                                  · refine lv_iconst (v := nI 0) hx hb (pc := 286) dX10_maps_286 (by decide) ?_
                                    refine lv_goto (tgt := 303) hx hb (pc := 287) dX10_maps_287 (by decide) ?_
                                    refine rr_top (v := .int (nI (kpN wd K9 l9))) (by unfold kpN; first | (rw [if_pos c283]; done) | (rw [if_neg c283, hsh]; done)) ?_
                                    refine lv_istore (lv' := [(15, .int (nI (kpN wd K9 l9))), (0, .ref om), (1, .int (nI j)), (2, .int (nI g)), (3, .int (nI (liveS (kF j) (nF j) (Es yF j)))), (4, .int (nI (liveS (kF g) (nF g) (Es yF g)))), (5, .int (nI pp)), (6, .int (nI (K9 / 4194304))), (7, .int (nI (K9 / 1048576 % 4))), (8, .int (nI (K9 / 65536 % 16))), (9, .int (nI (K9 % 65536))), (10, .int (nI l9)), (11, .int (nI (lvE (liveS (kF j) (nF j) (Es yF j)) (Es yF j) (K9 / 4194304) l9))), (12, .int (nI (nwN K9 l9))), (13, .int (nI (nxN wd TD (ldS (kF g) (nF g) (Es yF g) (liveS (kF g) (nF g) (Es yF g))) K9 l9))), (14, .int (nI (ctN wd K9)))]) hx hb (pc := 303) dX10_maps_303 hl (by decide) rfl (fun ls hl => ?_)
                                    exact L305 ls (lv_sub hl [1, 2, 3, 4, 5, 6, 7, 8, 9, 10, 11, 12, 14, 15, 0] rfl)
                                refine lv_iload hx hb (pc := 256) dX10_maps_256 (lv_at hl 7 rfl) ?_
                                refine lv_aload_n hx hb (pc := 258) dX10_maps_258 rfl (lv_at hl 0 rfl) ?_
                                refine va_get (v := .int (nI wd)) hx hb hts (inX10_maps_10) hown hKK.1 hP 0 rfl rfl 9 (by decide) (hts _ (List.mem_of_getElem? (i := 9) (by decide +kernel))) (fun _ h9 => h9) rfl (pc := 259) dX10_maps_259 ?_
                                refine lv_iconst (v := nI 1) hx hb (pc := 262) dX10_maps_262 (by decide) ?_
                                refine nv_isub (a := wd) (b := 1) hx hb (pc := 263) dX10_maps_263 (by omega) ?_
                                refine nv_icmp_ne (a := (K9 / 1048576 % 4)) (b := (wd - 1)) (tgt := 272) hx hb (pc := 264) dX10_maps_264 (by decide) (by omega) (by omega) (fun c264 => ?_) (fun c264 => ?_)
                                · refine lv_iload hx hb (pc := 272) dX10_maps_272 (lv_at hl 7 rfl) ?_
                                  refine lv_iconst (v := nI 1) hx hb (pc := 274) dX10_maps_274 (by decide) ?_
                                  refine nv_iadd (a := (K9 / 1048576 % 4)) (b := 1) hx hb (pc := 275) dX10_maps_275 ?_
                                  refine rr_top (v := .int (nI (ctN wd K9))) (by unfold ctN; first | (rw [if_pos c264]; done) | (rw [if_neg c264]; done)) ?_
                                  refine lv_istore (lv' := [(14, .int (nI (ctN wd K9))), (0, .ref om), (1, .int (nI j)), (2, .int (nI g)), (3, .int (nI (liveS (kF j) (nF j) (Es yF j)))), (4, .int (nI (liveS (kF g) (nF g) (Es yF g)))), (5, .int (nI pp)), (6, .int (nI (K9 / 4194304))), (7, .int (nI (K9 / 1048576 % 4))), (8, .int (nI (K9 / 65536 % 16))), (9, .int (nI (K9 % 65536))), (10, .int (nI l9)), (11, .int (nI (lvE (liveS (kF j) (nF j) (Es yF j)) (Es yF j) (K9 / 4194304) l9))), (12, .int (nI (nwN K9 l9))), (13, .int (nI (nxN wd TD (ldS (kF g) (nF g) (Es yF g) (liveS (kF g) (nF g) (Es yF g))) K9 l9)))]) hx hb (pc := 276) dX10_maps_276 hl (by decide) rfl (fun ls hl => ?_)
                                  exact L278 ls (lv_sub hl [1, 2, 3, 4, 5, 6, 7, 8, 9, 10, 11, 12, 13, 14, 0] rfl)
                                · refine lv_iload hx hb (pc := 267) dX10_maps_267 (lv_at hl 7 rfl) ?_
                                  refine lv_goto (tgt := 276) hx hb (pc := 269) dX10_maps_269 (by decide) ?_
                                  refine rr_top (v := .int (nI (ctN wd K9))) (by unfold ctN; first | (rw [if_pos c264]; done) | (rw [if_neg c264]; done)) ?_
                                  refine lv_istore (lv' := [(14, .int (nI (ctN wd K9))), (0, .ref om), (1, .int (nI j)), (2, .int (nI g)), (3, .int (nI (liveS (kF j) (nF j) (Es yF j)))), (4, .int (nI (liveS (kF g) (nF g) (Es yF g)))), (5, .int (nI pp)), (6, .int (nI (K9 / 4194304))), (7, .int (nI (K9 / 1048576 % 4))), (8, .int (nI (K9 / 65536 % 16))), (9, .int (nI (K9 % 65536))), (10, .int (nI l9)), (11, .int (nI (lvE (liveS (kF j) (nF j) (Es yF j)) (Es yF j) (K9 / 4194304) l9))), (12, .int (nI (nwN K9 l9))), (13, .int (nI (nxN wd TD (ldS (kF g) (nF g) (Es yF g) (liveS (kF g) (nF g) (Es yF g))) K9 l9)))]) hx hb (pc := 276) dX10_maps_276 hl (by decide) rfl (fun ls hl => ?_)
                                  exact L278 ls (lv_sub hl [1, 2, 3, 4, 5, 6, 7, 8, 9, 10, 11, 12, 13, 14, 0] rfl)
                              refine lv_iload hx hb (pc := 244) dX10_maps_244 (lv_at hl 11 rfl) ?_
                              refine nv_if_eq (a := (lvE (liveS (kF j) (nF j) (Es yF j)) (Es yF j) (K9 / 4194304) l9)) (tgt := 256) hx hb (pc := 246) dX10_maps_246 (by decide) (by omega) (fun c246 => ?_) (fun c246 => ?_)
                              · exact L256 (by first | exact Or.inl c246 | exact Or.inr ⟨c246, c251⟩) ls (lv_sub hl [0, 1, 2, 3, 4, 5, 6, 7, 8, 9, 10, 11, 12, 13] rfl)
                              · refine lv_iload hx hb (pc := 249) dX10_maps_249 (lv_at hl 13 rfl) ?_
                                refine nv_if_ne (a := (nxN wd TD (ldS (kF g) (nF g) (Es yF g) (liveS (kF g) (nF g) (Es yF g))) K9 l9)) (tgt := 256) hx hb (pc := 251) dX10_maps_251 (by decide) (by omega) (fun c251 => ?_) (fun c251 => ?_)
                                · exact L256 (by first | exact Or.inl c246 | exact Or.inr ⟨c246, c251⟩) ls (lv_sub hl [0, 1, 2, 3, 4, 5, 6, 7, 8, 9, 10, 11, 12, 13] rfl)
                                · refine lv_iconst (v := nI 0) hx hb (pc := 254) dX10_maps_254 (by decide) ?_
                                  have hcd : (mpR kF nF yF wd TD j g) = 1 := by rw [hR2]; exact mgo_part hpl2 hlk (by rw [hK9, ky_22 hK26]; exact c246) (by rw [hK9, hbn]; exact c251)
                                  exact hret.1 _ _ 0 0 255 _ (nI 0) dX10_maps_255 (by omega) (by omega) hS (⟨by unfold mapA; rw [if_pos (by rw [c5, c13]; rfl), ecj, ecg, hcd]; rfl, _, _, _, _, _, _, hP⟩) (rfl)
                            refine lv_iload hx hb (pc := 210) dX10_maps_210 (lv_at hl 9 rfl) ?_
                            refine lv_aload_n hx hb (pc := 212) dX10_maps_212 rfl (lv_at hl 2 rfl) ?_
                            refine va_get (v := .int (nI wd)) hx hb hts (inX10_maps_10) hown hKK.1 hP 0 rfl rfl 9 (by decide) (hts _ (List.mem_of_getElem? (i := 9) (by decide +kernel))) (fun _ h9 => h9) rfl (pc := 213) dX10_maps_213 ?_
                            refine lv_iconst (v := nI 1) hx hb (pc := 216) dX10_maps_216 (by decide) ?_
                            refine nv_isub (a := wd) (b := 1) hx hb (pc := 217) dX10_maps_217 (by omega) ?_
                            refine nv_icmp_ne (a := (K9 / 1048576 % 4)) (b := (wd - 1)) (tgt := 240) hx hb (pc := 218) dX10_maps_218 (by decide) (by omega) (by omega) (fun c218 => ?_) (fun c218 => ?_)
                            · refine lv_iload hx hb (pc := 240) dX10_maps_240 (lv_at hl 11 rfl) ?_
                              refine rr_top (v := .int (nI (nxN wd TD (ldS (kF g) (nF g) (Es yF g) (liveS (kF g) (nF g) (Es yF g))) K9 l9))) (by unfold nxN; first | (rw [if_pos c218]; done) | (rw [if_neg c218]; done)) ?_
                              refine lv_istore (lv' := [(13, .int (nI (nxN wd TD (ldS (kF g) (nF g) (Es yF g) (liveS (kF g) (nF g) (Es yF g))) K9 l9))), (12, .int (nI (nwN K9 l9))), (11, .int (nI (lvE (liveS (kF j) (nF j) (Es yF j)) (Es yF j) (K9 / 4194304) l9))), (0, .ref om), (1, .int (nI j)), (2, .int (nI g)), (3, .int (nI (liveS (kF j) (nF j) (Es yF j)))), (4, .int (nI (liveS (kF g) (nF g) (Es yF g)))), (5, .int (nI pp)), (6, .int (nI (K9 / 4194304))), (7, .int (nI (K9 / 1048576 % 4))), (8, .int (nI (K9 / 65536 % 16))), (9, .int (nI (K9 % 65536))), (10, .int (nI l9))]) hx hb (pc := 242) dX10_maps_242 hl (by decide) rfl (fun ls hl => ?_)
                              exact L244 ls (lv_sub hl [3, 4, 5, 6, 7, 8, 9, 10, 11, 12, 13, 2, 1, 0] rfl)
                            · refine lv_aload_n hx hb (pc := 221) dX10_maps_221 rfl (lv_at hl 2 rfl) ?_
                              refine lv_iload_n hx hb (pc := 222) dX10_maps_222 rfl (lv_at hl 4 rfl) ?_
                              refine lv_iload hx hb (pc := 223) dX10_maps_223 (lv_at hl 6 rfl) ?_
                              refine lv_iload hx hb (pc := 225) dX10_maps_225 (lv_at hl 11 rfl) ?_
                              refine lv_aload_n hx hb (pc := 227) dX10_maps_227 rfl (lv_at hl 2 rfl) ?_
                              refine va_get (v := .ref (ad 10)) hx hb hts (inX10_maps_10) hown hKK.1 hP 0 rfl rfl 10 (by decide) (hts _ (List.mem_of_getElem? (i := 10) (by decide +kernel))) (fun _ h9 => h9) rfl (pc := 228) dX10_maps_228 ?_
                              refine lv_iload hx hb (pc := 231) dX10_maps_231 (lv_at hl 0 rfl) ?_
                              refine nv_iald (v := nI (TD (nwN K9 l9))) (i := (nwN K9 l9)) hx hb hKK hP 7 rfl (by omega) (by decide) (rfl) (pc := 233) dX10_maps_233 ?_
                              refine rr_callP (rv := .int (nI (ldS (kF g) (nF g) (Es yF g) (liveS (kF g) (nF g) (Es yF g)) (K9 % 65536) (TD (nwN K9 l9))))) (pc := 234) (va_runV (As := [.int (nI g), .int (nI (liveS (kF g) (nF g) (Es yF g))), .int (nI (K9 % 65536)), .int (nI (TD (nwN K9 l9)))]) (rest := []) ⟨hx, hb, hml, hown, hts⟩ (c_X10_lead l K om ad ns wl nf wd kn0.length kF nF yF WD FL FW TD RW pl nw xt vF wF qF1 bY1 gF nm xm fR1 oF1 hF1 dF g (liveS (kF g) (nF g) (Es yF g)) (K9 % 65536) (TD (nwN K9 l9)) (by omega) s2g s4g s5g (by omega) (hTD _ hnw)) (cwV 4 hts gX10_maps_X10_lead rfl rfl rfl (by decide +kernel) ⟨Nat.le_of_ble_eq_true rfl, Nat.le_of_ble_eq_true rfl⟩) (rr_preV hKK (hP) (va_recv hKK.1 hP (ci := 10) (q0 := 0) rfl rfl)) rfl rfl hl.1 rfl (lv_room (Nat.le_of_ble_eq_true rfl)) dX10_maps_234 ⟨Nat.le_refl _, Nat.le_refl _⟩) ?_
                              refine lv_goto (tgt := 242) hx hb (pc := 237) dX10_maps_237 (by decide) ?_
                              refine rr_top (v := .int (nI (nxN wd TD (ldS (kF g) (nF g) (Es yF g) (liveS (kF g) (nF g) (Es yF g))) K9 l9))) (by unfold nxN; first | (rw [if_pos c218]; done) | (rw [if_neg c218]; done)) ?_
                              refine lv_istore (lv' := [(13, .int (nI (nxN wd TD (ldS (kF g) (nF g) (Es yF g) (liveS (kF g) (nF g) (Es yF g))) K9 l9))), (12, .int (nI (nwN K9 l9))), (11, .int (nI (lvE (liveS (kF j) (nF j) (Es yF j)) (Es yF j) (K9 / 4194304) l9))), (0, .ref om), (1, .int (nI j)), (2, .int (nI g)), (3, .int (nI (liveS (kF j) (nF j) (Es yF j)))), (4, .int (nI (liveS (kF g) (nF g) (Es yF g)))), (5, .int (nI pp)), (6, .int (nI (K9 / 4194304))), (7, .int (nI (K9 / 1048576 % 4))), (8, .int (nI (K9 / 65536 % 16))), (9, .int (nI (K9 % 65536))), (10, .int (nI l9))]) hx hb (pc := 242) dX10_maps_242 hl (by decide) rfl (fun ls hl => ?_)
                              exact L244 ls (lv_sub hl [3, 4, 5, 6, 7, 8, 9, 10, 11, 12, 13, 2, 1, 0] rfl)
                      exact L173 (5) 0 f0 _ qF1 bY1 fR1 oF1 hF1 _ _ hP hD hS (by omega) (Nat.zero_le _) (by rw [hR, hf0]) (by omega) (c106) (hK9.symm) (hlen) (hKO) (hHC) (hKQ) ls (lv_sub hl [5, 6, 7, 8, 9, 10, 4, 3, 2, 1, 0] rfl)
                exact L100 (20002) 0 130000 _ qF1 bY1 fR1 oF1 hF1 _ _ hP hD hS (by omega) (hR0) (by decide) (Nat.zero_le _) (by omega) (hKO1) (hHC1) (hKQ1) ls (lv_sub hl [1, 2, 3, 4, 5, 0] rfl)
              · refine lv_iload_n hx hb (pc := 63) dX10_maps_63 rfl (lv_at hl 3 rfl) ?_
                refine lv_iload hx hb (pc := 64) dX10_maps_64 (lv_at hl 5 rfl) ?_
                refine nv_ishr (a := (liveS (kF j) (nF j) (Es yF j))) (b := q) hx hb (pc := 66) dX10_maps_66 (by omega) (by omega) ?_
                refine lv_iconst (v := nI 1) hx hb (pc := 67) dX10_maps_67 (by decide) ?_
                refine nv_bit (a := (liveS (kF j) (nF j) (Es yF j))) (q := q) hx hb (pc := 68) dX10_maps_68 ?_
                refine lv_iconst (v := nI 1) hx hb (pc := 69) dX10_maps_69 (by decide) ?_
                refine nv_icmp_ne_b1 (tgt := 91) hx hb (pc := 70) dX10_maps_70 (by decide) (fun c70 => ?_) (fun c70 => ?_)
                · refine lv_iinc (v := nI (q + 1)) (lv' := [(5, .int (nI (q + 1))), (0, .ref om), (1, .int (nI j)), (2, .int (nI g)), (3, .int (nI (liveS (kF j) (nF j) (Es yF j)))), (4, .int (nI (liveS (kF g) (nF g) (Es yF g))))]) hx hb (pc := 91) dX10_maps_91 hl (k := 5) rfl (rr_inc _) (by decide) rfl (fun ls hl => ?_)
                  refine lv_goto (tgt := 52) hx hb (pc := 94) dX10_maps_94 (by decide) ?_
                  exact ih52 (q + 1) kn qF1 bY1 fR1 oF1 hF1 _ _ hP hD hS (by omega) (by omega) (by rw [mF_no c70, hkn]) (hKO1) (hHC1) (hKQ1) ls (lv_sub hl [1, 2, 3, 4, 5, 0] rfl)
                · have hk26 : (q <<< 22 ||| (liveS (kF g) (nF g) (Es yF g))) < 67108864 := (key22 (show q < 16 by omega) (show (liveS (kF g) (nF g) (Es yF g)) < 4194304 by omega)).1
                  have hkok : KOK wd (liveS (kF j) (nF j) (Es yF j)) (liveS (kF g) (nF g) (Es yF g)) (q <<< 22 ||| (liveS (kF g) (nF g) (Es yF g))) := KOK_new0 (by omega) c70 hlvb
                  refine lv_aload_n hx hb (pc := 73) dX10_maps_73 rfl (lv_at hl 0 rfl) ?_
                  refine lv_iload hx hb (pc := 74) dX10_maps_74 (lv_at hl 5 rfl) ?_
                  refine lv_i2l (v := lN q) hx hb (pc := 76) dX10_maps_76 (nI_l (by omega)) ?_
                  refine lv_bipush (v := nI 40) hx hb (pc := 77) dX10_maps_77 (by decide) ?_
                  refine lv_lshl (v := lN (q <<< 40)) hx hb (pc := 79) dX10_maps_79 (lN_shl _ (by decide)) ?_
                  refine lv_iload hx hb (pc := 80) dX10_maps_80 (lv_at hl 4 rfl) ?_
                  refine lv_i2l (v := lN (liveS (kF g) (nF g) (Es yF g))) hx hb (pc := 82) dX10_maps_82 (nI_l (by omega)) ?_
                  refine lv_lor hx hb (pc := 83) dX10_maps_83 ?_
                  refine rr_top (v := .long (lN (cv (q <<< 22 ||| (liveS (kF g) (nF g) (Es yF g)))))) (congrArg Value.long ((lN_or _ _).trans (congrArg lN (mkey0 (show q < 16 by omega) hlvb)))) ?_
                  refine lv_iconst (v := -1) hx hb (pc := 84) dX10_maps_84 (by decide) ?_
                  refine lv_iconst (v := nI 0) hx hb (pc := 85) dX10_maps_85 (by decide) ?_
                  refine rr_callR (pc := 86) (va_runV (As := [.long (lN (cv (q <<< 22 ||| (liveS (kF g) (nF g) (Es yF g))))), .int (-1), .int (nI 0)]) (rest := []) ⟨hx, hb, hml, hown, hts⟩ (c_X10_meets l K A om ad ns wl nf wd kn.length kF nF yF WD FL FW TD RW pl nw xt vF wF qF1 bY1 gF nm xm fR1 oF1 hF1 dF (cv (q <<< 22 ||| (liveS (kF g) (nF g) (Es yF g)))) 0 (-1) (kn.map cv) (by rw [List.length_map]) (by rw [List.length_map]; omega) hHC1 hKQ1 (cv_all (fun x hx => (hKO1 x hx).1)) (cv_lt hk26) hD) (cwV 3 hts gX10_maps_X10_meets rfl rfl rfl (by decide +kernel) ⟨Nat.le_of_ble_eq_true rfl, Nat.le_of_ble_eq_true rfl⟩) (rr_preV hKK (hP) (va_recv hKK.1 hP (ci := 10) (q0 := 0) rfl rfl)) rfl rfl hl.1 rfl (lv_room (Nat.le_of_ble_eq_true rfl)) dX10_maps_86 ⟨by omega, by omega⟩) hS (fun _ h => h) (fun v H locs hY hsz hfr hS => ?_)
                  obtain ⟨rfl, oF', hF', hHC3, hP⟩ := hY
                  have h26k : ∀ x ∈ kn, x < 67108864 := fun x hx => (hKO1 x hx).1
                  have hade := adK_cv h26k hk26
                  have hKQ3 := KQ_met (key := cv (q <<< 22 ||| (liveS (kF g) (nF g) (Es yF g)))) hKQ1
                  obtain ⟨qF2, hq2⟩ : ∃ z, z = (if cv (q <<< 22 ||| (liveS (kF g) (nF g) (Es yF g))) ∈ kn.map cv then qF1 else va_up qF1 (kn.map cv).length (cv (q <<< 22 ||| (liveS (kF g) (nF g) (Es yF g))))) := ⟨_, rfl⟩
                  obtain ⟨fR2, hr2⟩ : ∃ z, z = (if cv (q <<< 22 ||| (liveS (kF g) (nF g) (Es yF g))) ∈ kn.map cv then fR1 else va_up fR1 (kn.map cv).length (-1)) := ⟨_, rfl⟩
                  obtain ⟨bY2, hb2⟩ : ∃ z, z = (if cv (q <<< 22 ||| (liveS (kF g) (nF g) (Es yF g))) ∈ kn.map cv then bY1 else va_up bY1 (kn.map cv).length 0) := ⟨_, rfl⟩
                  rw [← hq2, hade] at hKQ3
                  rw [hade] at hHC3
                  rw [← hq2, ← hr2, ← hb2, hade, List.length_map] at hP
                  have hKO3 := ks_all hKO1 hkok
                  have hD : va_D A (XM K om ad ns wl nf wd ((adK kn (q <<< 22 ||| (liveS (kF g) (nF g) (Es yF g)))).length) kF nF yF WD FL FW TD RW pl nw xt vF wF qF2 bY2 gF nm xm fR2 oF' hF' dF) := rr_D hD rfl
                  have hP : va_P K.1 vwCl (XM K om ad ns wl nf wd ((adK kn (q <<< 22 ||| (liveS (kF g) (nF g) (Es yF g)))).length) kF nF yF WD FL FW TD RW pl nw xt vF wF qF2 bY2 gF nm xm fR2 oF' hF' dF) H := hP
                  refine lv_istore (lv' := [(6, .int (bI (!(decide (cv (q <<< 22 ||| (liveS (kF g) (nF g) (Es yF g))) ∈ kn.map cv))))), (0, .ref om), (1, .int (nI j)), (2, .int (nI g)), (3, .int (nI (liveS (kF j) (nF j) (Es yF j)))), (4, .int (nI (liveS (kF g) (nF g) (Es yF g)))), (5, .int (nI q))]) hx hb (pc := 89) dX10_maps_89 hl (by decide) rfl (fun ls hl => ?_)
                  refine lv_iinc (v := nI (q + 1)) (lv' := [(5, .int (nI (q + 1))), (6, .int (bI (!(decide (cv (q <<< 22 ||| (liveS (kF g) (nF g) (Es yF g))) ∈ kn.map cv))))), (0, .ref om), (1, .int (nI j)), (2, .int (nI g)), (3, .int (nI (liveS (kF j) (nF j) (Es yF j)))), (4, .int (nI (liveS (kF g) (nF g) (Es yF g))))]) hx hb (pc := 91) dX10_maps_91 hl (k := 6) rfl (rr_inc _) (by decide) rfl (fun ls hl => ?_)
                  refine lv_goto (tgt := 52) hx hb (pc := 94) dX10_maps_94 (by decide) ?_
                  exact ih52 (q + 1) (adK kn (q <<< 22 ||| (liveS (kF g) (nF g) (Es yF g)))) qF2 bY2 fR2 oF' hF' _ _ hP hD hS (by omega) (by omega) (by rw [mF_yes c70, hkn]) (hKO3) (hHC3) (hKQ3) ls (lv_sub hl [2, 3, 4, 5, 6, 0] rfl)
          exact L52 (17) 0 ([] : List Nat) qF bY fR oF (putZ hF (fun _ => -1) 32768) _ _ hP hD hS (by omega) (Nat.zero_le _) (rfl) (fun x hx => absurd hx List.not_mem_nil) (HC_0) (fun i hi => absurd hi (Nat.not_lt_zero _)) ls (lv_sub hl [3, 4, 5, 2, 1, 0] rfl)
        · refine lv_iconst (v := nI 0) hx hb (pc := 43) dX10_maps_43 (by decide) ?_
          have hcd : (mpR kF nF yF wd TD j g) = 1 := by unfold mpR skM; rw [if_neg c33, if_pos c40]
          exact hret.1 _ _ 0 0 44 _ (nI 0) dX10_maps_44 (by omega) (by omega) hS (⟨by unfold mapA; rw [if_pos (by rw [c5, c13]; rfl), ecj, ecg, hcd]; rfl, _, _, _, _, _, _, hP⟩) (rfl)
      · refine lv_iconst (v := nI 1) hx hb (pc := 36) dX10_maps_36 (by decide) ?_
        have hcd : (mpR kF nF yF wd TD j g) = 0 := by unfold mpR skM; rw [if_pos c33]
        exact hret.1 _ _ 0 0 37 _ (nI 1) dX10_maps_37 (by omega) (by omega) hS (⟨by unfold mapA; rw [if_pos (by rw [c5, c13]; rfl), ecj, ecg, hcd]; rfl, _, _, _, _, _, _, hP⟩) (rfl)
    · refine lv_bipush (v := -2) hx hb (pc := 16) dX10_maps_16 (by decide) ?_
      have hc : (isS ns x && isS ns y) = false := by first | (rw [c5, c13]; rfl) | (rw [c5]; rfl)
      exact hret.1 _ _ 0 0 18 _ (-2) dX10_maps_18 (by omega) (by omega) hS (⟨by unfold mapA; rw [if_neg (by rw [hc]; decide)], _, _, _, _, _, _, hP⟩) (rfl)

