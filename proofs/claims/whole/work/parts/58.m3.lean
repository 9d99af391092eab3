abbrev rmX10_sumUp : Room := { frames := 2, cells := 0, slots := 0, locals := 47 }
theorem inX10_sumUp_10 : ∀ w ∈ wsX100, w ∈ wsX10_sumUp := fun _ h => List.mem_cons_of_mem _ (List.mem_append_right _ h)
set_option maxHeartbeats 4000000 in
set_option maxRecDepth 100000 in
theorem c_X10_sumUp (l : Launch) (K : rr_K) (A : Nat → Prop) (om : Nat) (ad : Nat → Nat) (ns wl nf wd mt : Nat) (kF nF yF WD FL FW TD RW pl nw xt vF wF qF bY gF : Nat → Nat) (nm xm : Nat → Int64) (fR oF hF dF : Nat → Int32) (x al : Nat) (hx6 : x < 6) (hk4 : kF x ≤ 4) (hn : nF x ≤ 16) (hE : ∀ i, i < 64 → Es yF x i < 65536) (hal : al < 65536) (hD : va_D A (XM K om ad ns wl nf wd mt kF nF yF WD FL FW TD RW pl nw xt vF wF qF bY gF nm xm fR oF hF dF)) : MetV l K yX10_sumUp wsX10_sumUp rmX10_sumUp [.ref om, .int (nI x), .int (nI al)] (fun H => va_P K.1 vwCl (XM K om ad ns wl nf wd mt kF nF yF WD FL FW TD RW pl nw xt vF wF qF bY gF nm xm fR oF hF dF) H) A (fun H => ∃ wF', (∀ q, q < nF x → wF' q = suF (kF x) al (Es yF x) vF q (nF x)) ∧ va_P K.1 vwCl (XM K om ad ns wl nf wd mt kF nF yF WD FL FW TD RW pl nw xt vF wF' qF bY gF nm xm fR oF hF dF) H) 0 0 := by
  refine metV_of (cc := cX10_sumUp) (maxL := 5) (by decide) rfl rfl rfl (Nat.le_of_ble_eq_true rfl) ?_
  intro p e s m args below meth c Q ls hEnt hin hKK hX hret hl
  obtain ⟨hx, hb, hml, hown, hts⟩ := hEnt
  have hP : va_P K.1 vwCl (XM K om ad ns wl nf wd mt kF nF yF WD FL FW TD RW pl nw xt vF wF qF bY gF nm xm fR oF hF dF) s.heap := hX
  have hl : lv_has ls 5 [(0, .ref om), (1, .int (nI x)), (2, .int (nI al))] := hl
  have hS : va_S A s.heap s.heap [] := va_S.rf
  refine lv_iconst (v := nI 0) hx hb (pc := 0) dX10_sumUp_0 (by decide) ?_
  refine lv_istore_n (lv' := [(3, .int (nI 0)), (0, .ref om), (1, .int (nI x)), (2, .int (nI al))]) hx hb (pc := 1) dX10_sumUp_1 rfl hl (by decide) rfl (fun ls hl => ?_)
  have L2 : ∀ (fz : Nat) (q : Nat) (wF1 : Nat → Nat) (H : Heap) (locs : List Loc) (hP : va_P K.1 vwCl (XM K om ad ns wl nf wd mt kF nF yF WD FL FW TD RW pl nw xt vF wF1 qF bY gF nm xm fR oF hF dF) H) (hD : va_D A (XM K om ad ns wl nf wd mt kF nF yF WD FL FW TD RW pl nw xt vF wF1 qF bY gF nm xm fR oF hF dF)) (hS : va_S A s.heap H locs) (hfz : nF x - q < fz) (hq : q ≤ nF x) (hw1 : ∀ i, i < q → wF1 i = suF (kF x) al (Es yF x) vF i (nF x)) (ls : Array Slot) (hl : lv_has ls 5 [(0, .ref om), (1, .int (nI x)), (2, .int (nI al)), (3, .int (nI q))]), W p l e rmX10_sumUp s m args below meth c H locs 0 0 Q (F0 m 2 ls []) := by
    intro fz; induction fz with
    | zero => intro q wF1 H locs hP hD hS hfz hq hw1 ls hl; exact absurd hfz (Nat.not_lt_zero _)
    | succ fz ih2 =>
      intro q wF1 H locs hP hD hS hfz hq hw1 ls hl
      refine lv_iload_n hx hb (pc := 2) dX10_sumUp_2 rfl (lv_at hl 3 rfl) ?_
      refine lv_aload_n hx hb (pc := 3) dX10_sumUp_3 rfl (lv_at hl 0 rfl) ?_
      refine va_get (v := .ref (ad 2)) hx hb hts (inX10_sumUp_10) hown hKK.1 hP 0 rfl rfl 2 (by decide) (hts _ (List.mem_of_getElem? (i := 1) (by decide +kernel))) (fun _ h9 => h9) rfl (pc := 4) dX10_sumUp_4 ?_
      refine lv_iload_n hx hb (pc := 7) dX10_sumUp_7 rfl (lv_at hl 1 rfl) ?_
      refine nv_iald (v := nI (nF x)) (i := x) hx hb hKK hP 2 rfl (by omega) (by decide) (rfl) (pc := 8) dX10_sumUp_8 ?_
      refine nv_icmp_ge (a := q) (b := (nF x)) (tgt := 94) hx hb (pc := 9) dX10_sumUp_9 (by decide) (by omega) (by omega) (fun c9 => ?_) (fun c9 => ?_)
      · have e9 : q = nF x := by omega
        rw [e9] at hw1
        exact hret _ _ 0 0 94 _ dX10_sumUp_94 (by omega) (by omega) hS (⟨_, hw1, hP⟩)
      · refine lv_aload_n hx hb (pc := 12) dX10_sumUp_12 rfl (lv_at hl 0 rfl) ?_
        refine va_get (v := .ref (ad 18)) hx hb hts (inX10_sumUp_10) hown hKK.1 hP 0 rfl rfl 18 (by decide) (hts _ (List.mem_of_getElem? (i := 2) (by decide +kernel))) (fun _ h9 => h9) rfl (pc := 13) dX10_sumUp_13 ?_
        refine lv_iload_n hx hb (pc := 16) dX10_sumUp_16 rfl (lv_at hl 3 rfl) ?_
        refine lv_lconst (v := lN 0) hx hb (pc := 17) dX10_sumUp_17 (by decide) ?_
        refine nv_lastN (f := wF1) (x := 0) (ws' := XM K om ad ns wl nf wd mt kF nF yF WD FL FW TD RW pl nw xt vF (va_up wF1 q 0) qF bY gF nm xm fR oF hF dF) (i := q) hx hb hKK hP hD hS 15 rfl (by omega) (by decide) (rfl) (pc := 18) dX10_sumUp_18 (fun H locs hP hD hS => ?_)
        refine lv_iconst (v := nI 0) hx hb (pc := 19) dX10_sumUp_19 (by decide) ?_
        refine lv_istore (lv' := [(4, .int (nI 0)), (0, .ref om), (1, .int (nI x)), (2, .int (nI al)), (3, .int (nI q))]) hx hb (pc := 20) dX10_sumUp_20 hl (by decide) rfl (fun ls hl => ?_)
        have L22 : ∀ (fz : Nat) (r : Nat) (wF2 : Nat → Nat) (H : Heap) (locs : List Loc) (hP : va_P K.1 vwCl (XM K om ad ns wl nf wd mt kF nF yF WD FL FW TD RW pl nw xt vF wF2 qF bY gF nm xm fR oF hF dF) H) (hD : va_D A (XM K om ad ns wl nf wd mt kF nF yF WD FL FW TD RW pl nw xt vF wF2 qF bY gF nm xm fR oF hF dF)) (hS : va_S A s.heap H locs) (hfz : nF x - r < fz) (hr : r ≤ nF x) (hw2 : ∀ i, i < q → wF2 i = suF (kF x) al (Es yF x) vF i (nF x)) (hwq : wF2 q = suF (kF x) al (Es yF x) vF q r) (ls : Array Slot) (hl : lv_has ls 5 [(0, .ref om), (1, .int (nI x)), (2, .int (nI al)), (3, .int (nI q)), (4, .int (nI r))]), W p l e rmX10_sumUp s m args below meth c H locs 0 0 Q (F0 m 22 ls []) := by
          intro fz; induction fz with
          | zero => intro r wF2 H locs hP hD hS hfz hr hw2 hwq ls hl; exact absurd hfz (Nat.not_lt_zero _)
          | succ fz ih22 =>
            intro r wF2 H locs hP hD hS hfz hr hw2 hwq ls hl
            refine lv_iload hx hb (pc := 22) dX10_sumUp_22 (lv_at hl 4 rfl) ?_
            refine lv_aload_n hx hb (pc := 24) dX10_sumUp_24 rfl (lv_at hl 0 rfl) ?_
            refine va_get (v := .ref (ad 2)) hx hb hts (inX10_sumUp_10) hown hKK.1 hP 0 rfl rfl 2 (by decide) (hts _ (List.mem_of_getElem? (i := 1) (by decide +kernel))) (fun _ h9 => h9) rfl (pc := 25) dX10_sumUp_25 ?_
            refine lv_iload_n hx hb (pc := 28) dX10_sumUp_28 rfl (lv_at hl 1 rfl) ?_
            refine nv_iald (v := nI (nF x)) (i := x) hx hb hKK hP 2 rfl (by omega) (by decide) (rfl) (pc := 29) dX10_sumUp_29 ?_
            refine nv_icmp_ge (a := r) (b := (nF x)) (tgt := 88) hx hb (pc := 30) dX10_sumUp_30 (by decide) (by omega) (by omega) (fun c30 => ?_) (fun c30 => ?_)
            · refine lv_iinc (v := nI (q + 1)) (lv' := [(3, .int (nI (q + 1))), (0, .ref om), (1, .int (nI x)), (2, .int (nI al)), (4, .int (nI r))]) hx hb (pc := 88) dX10_sumUp_88 hl (k := 3) rfl (rr_inc _) (by decide) rfl (fun ls hl => ?_)
              refine lv_goto (tgt := 2) hx hb (pc := 91) dX10_sumUp_91 (by decide) ?_
              have hw3 : ∀ i, i < q + 1 → wF2 i = suF (kF x) al (Es yF x) vF i (nF x) := by
                intro i hi
                rcases Nat.lt_or_ge i q with w | w
                · exact hw2 i w
                · obtain rfl : i = q := by omega
                  rw [hwq]
                  first
                  | (rw [show r = nF x by omega]; done)
                  | (rw [suF_dead c39, suF_dead c39]; done)
              exact ih2 (q + 1) wF2 _ _ hP hD hS (by omega) (by omega) (hw3) ls (lv_sub hl [1, 2, 3, 0] rfl)
            · refine lv_iload_n hx hb (pc := 33) dX10_sumUp_33 rfl (lv_at hl 2 rfl) ?_
              refine lv_iload_n hx hb (pc := 34) dX10_sumUp_34 rfl (lv_at hl 3 rfl) ?_
              refine nv_ishr (a := al) (b := q) hx hb (pc := 35) dX10_sumUp_35 (by omega) (by omega) ?_
              refine lv_iconst (v := nI 1) hx hb (pc := 36) dX10_sumUp_36 (by decide) ?_
              refine nv_bit (a := al) (q := q) hx hb (pc := 37) dX10_sumUp_37 ?_
              refine lv_iconst (v := nI 1) hx hb (pc := 38) dX10_sumUp_38 (by decide) ?_
              refine nv_icmp_ne_b1 (tgt := 88) hx hb (pc := 39) dX10_sumUp_39 (by decide) (fun c39 => ?_) (fun c39 => ?_)
              · refine lv_iinc (v := nI (q + 1)) (lv' := [(3, .int (nI (q + 1))), (0, .ref om), (1, .int (nI x)), (2, .int (nI al)), (4, .int (nI r))]) hx hb (pc := 88) dX10_sumUp_88 hl (k := 3) rfl (rr_inc _) (by decide) rfl (fun ls hl => ?_)
                refine lv_goto (tgt := 2) hx hb (pc := 91) dX10_sumUp_91 (by decide) ?_
                have hw3 : ∀ i, i < q + 1 → wF2 i = suF (kF x) al (Es yF x) vF i (nF x) := by
                  intro i hi
                  rcases Nat.lt_or_ge i q with w | w
                  · exact hw2 i w
                  · obtain rfl : i = q := by omega
                    rw [hwq]
                    first
                    | (rw [show r = nF x by omega]; done)
                    | (rw [suF_dead c39, suF_dead c39]; done)
                exact ih2 (q + 1) wF2 _ _ hP hD hS (by omega) (by omega) (hw3) ls (lv_sub hl [1, 2, 3, 0] rfl)
              · refine lv_aload_n hx hb (pc := 42) dX10_sumUp_42 rfl (lv_at hl 0 rfl) ?_
                refine va_get (v := .ref (ad 18)) hx hb hts (inX10_sumUp_10) hown hKK.1 hP 0 rfl rfl 18 (by decide) (hts _ (List.mem_of_getElem? (i := 2) (by decide +kernel))) (fun _ h9 => h9) rfl (pc := 43) dX10_sumUp_43 ?_
                refine lv_iload_n hx hb (pc := 46) dX10_sumUp_46 rfl (lv_at hl 3 rfl) ?_
                refine lv_dup2_11 hx hb (pc := 47) dX10_sumUp_47 rfl rfl ?_
                refine nv_lald (v := lN (suF (kF x) al (Es yF x) vF q r)) (i := q) hx hb hKK hP 15 rfl (by omega) (by decide) (congrArg lN hwq) (pc := 48) dX10_sumUp_48 ?_
                refine lv_iload_n hx hb (pc := 49) dX10_sumUp_49 rfl (lv_at hl 2 rfl) ?_
                refine lv_iload hx hb (pc := 50) dX10_sumUp_50 (lv_at hl 4 rfl) ?_
                refine nv_ishr (a := al) (b := r) hx hb (pc := 52) dX10_sumUp_52 (by omega) (by omega) ?_
                refine lv_iconst (v := nI 1) hx hb (pc := 53) dX10_sumUp_53 (by decide) ?_
                refine nv_bit (a := al) (q := r) hx hb (pc := 54) dX10_sumUp_54 ?_
                refine lv_iconst (v := nI 1) hx hb (pc := 55) dX10_sumUp_55 (by decide) ?_
                refine nv_icmp_ne_b1 (tgt := 79) hx hb (pc := 56) dX10_sumUp_56 (by decide) (fun c56 => ?_) (fun c56 => ?_)
                · refine lv_lconst (v := lN 0) hx hb (pc := 79) dX10_sumUp_79 (by decide) ?_
                  refine nv_ladd (a := (suF (kF x) al (Es yF x) vF q r)) (b := 0) hx hb (pc := 80) dX10_sumUp_80 ?_
                  refine nv_lastN (f := wF2) (x := ((suF (kF x) al (Es yF x) vF q r) + 0)) (ws' := XM K om ad ns wl nf wd mt kF nF yF WD FL FW TD RW pl nw xt vF (va_up wF2 q ((suF (kF x) al (Es yF x) vF q r) + 0)) qF bY gF nm xm fR oF hF dF) (i := q) hx hb hKK hP hD hS 15 rfl (by omega) (by decide) (rfl) (pc := 81) dX10_sumUp_81 (fun H locs hP hD hS => ?_)
                  refine lv_iinc (v := nI (r + 1)) (lv' := [(4, .int (nI (r + 1))), (0, .ref om), (1, .int (nI x)), (2, .int (nI al)), (3, .int (nI q))]) hx hb (pc := 82) dX10_sumUp_82 hl (k := 4) rfl (rr_inc _) (by decide) rfl (fun ls hl => ?_)
                  refine lv_goto (tgt := 22) hx hb (pc := 85) dX10_sumUp_85 (by decide) ?_
                  exact ih22 (r + 1) (va_up wF2 q ((suF (kF x) al (Es yF x) vF q r) + 0)) _ _ hP hD hS (by omega) (by omega) (fun i hi => (va_up_ne _ _ (by omega)).trans (hw2 i hi)) ((va_up_self _ _ _).trans (by first | exact (suF_yes c39 c56).symm | exact (suF_no c56).symm)) ls (lv_sub hl [1, 2, 3, 4, 0] rfl)
                · refine lv_aload_n hx hb (pc := 59) dX10_sumUp_59 rfl (lv_at hl 0 rfl) ?_
                  refine lv_iload_n hx hb (pc := 60) dX10_sumUp_60 rfl (lv_at hl 1 rfl) ?_
                  refine lv_iload_n hx hb (pc := 61) dX10_sumUp_61 rfl (lv_at hl 3 rfl) ?_
                  refine lv_iload hx hb (pc := 62) dX10_sumUp_62 (lv_at hl 4 rfl) ?_
                  have hwb := wB_le (kF x) (Es yF x) q r
                  refine rr_callP (rv := .int (nI (wB (kF x) (Es yF x) q r))) (pc := 64) (va_runV (As := [.int (nI x), .int (nI q), .int (nI r)]) (rest := [.long (lN (suF (kF x) al (Es yF x) vF q r)), .int (nI q), .ref (ad 18)]) ⟨hx, hb, hml, hown, hts⟩ (c_X10_waysBetween l K om ad ns wl nf wd mt kF nF yF WD FL FW TD RW pl nw xt vF wF2 qF bY gF nm xm fR oF hF dF x q r hx6 hk4 hn hE (by omega) (by omega)) (cwV 3 hts gX10_sumUp_X10_waysBetween rfl rfl rfl (by decide +kernel) ⟨Nat.le_of_ble_eq_true rfl, Nat.le_of_ble_eq_true rfl⟩) (rr_preV hKK (hP) (va_recv hKK.1 hP (ci := 10) (q0 := 0) rfl rfl)) rfl rfl hl.1 rfl (lv_room (Nat.le_of_ble_eq_true rfl)) dX10_sumUp_64 ⟨Nat.le_refl _, Nat.le_refl _⟩) ?_
                  refine lv_i2l (v := lN (wB (kF x) (Es yF x) q r)) hx hb (pc := 67) dX10_sumUp_67 (nI_l (by omega)) ?_
                  refine lv_aload_n hx hb (pc := 68) dX10_sumUp_68 rfl (lv_at hl 0 rfl) ?_
                  refine va_get (v := .ref (ad 17)) hx hb hts (inX10_sumUp_10) hown hKK.1 hP 0 rfl rfl 17 (by decide) (hts _ (List.mem_of_getElem? (i := 3) (by decide +kernel))) (fun _ h9 => h9) rfl (pc := 69) dX10_sumUp_69 ?_
                  refine lv_iload hx hb (pc := 72) dX10_sumUp_72 (lv_at hl 4 rfl) ?_
                  refine nv_lald (v := lN (vF r)) (i := r) hx hb hKK hP 14 rfl (by omega) (by decide) (rfl) (pc := 74) dX10_sumUp_74 ?_
                  refine nv_lmul (a := (wB (kF x) (Es yF x) q r)) (b := (vF r)) hx hb (pc := 75) dX10_sumUp_75 ?_
                  refine lv_goto (tgt := 80) hx hb (pc := 76) dX10_sumUp_76 (by decide) ?_
                  refine nv_ladd (a := (suF (kF x) al (Es yF x) vF q r)) (b := ((wB (kF x) (Es yF x) q r) * (vF r))) hx hb (pc := 80) dX10_sumUp_80 ?_
                  refine nv_lastN (f := wF2) (x := ((suF (kF x) al (Es yF x) vF q r) + ((wB (kF x) (Es yF x) q r) * (vF r)))) (ws' := XM K om ad ns wl nf wd mt kF nF yF WD FL FW TD RW pl nw xt vF (va_up wF2 q ((suF (kF x) al (Es yF x) vF q r) + ((wB (kF x) (Es yF x) q r) * (vF r)))) qF bY gF nm xm fR oF hF dF) (i := q) hx hb hKK hP hD hS 15 rfl (by omega) (by decide) (rfl) (pc := 81) dX10_sumUp_81 (fun H locs hP hD hS => ?_)
                  refine lv_iinc (v := nI (r + 1)) (lv' := [(4, .int (nI (r + 1))), (0, .ref om), (1, .int (nI x)), (2, .int (nI al)), (3, .int (nI q))]) hx hb (pc := 82) dX10_sumUp_82 hl (k := 4) rfl (rr_inc _) (by decide) rfl (fun ls hl => ?_)
                  refine lv_goto (tgt := 22) hx hb (pc := 85) dX10_sumUp_85 (by decide) ?_
                  exact ih22 (r + 1) (va_up wF2 q ((suF (kF x) al (Es yF x) vF q r) + ((wB (kF x) (Es yF x) q r) * (vF r)))) _ _ hP hD hS (by omega) (by omega) (fun i hi => (va_up_ne _ _ (by omega)).trans (hw2 i hi)) ((va_up_self _ _ _).trans (by first | exact (suF_yes c39 c56).symm | exact (suF_no c56).symm)) ls (lv_sub hl [1, 2, 3, 4, 0] rfl)
        exact L22 (17) 0 (va_up wF1 q 0) _ _ hP hD hS (by omega) (Nat.zero_le _) (fun i hi => (va_up_ne _ _ (by omega)).trans (hw1 i hi)) (va_up_self _ _ _) ls (lv_sub hl [1, 2, 3, 4, 0] rfl)
  exact L2 (17) 0 wF _ _ hP hD hS (by omega) (Nat.zero_le _) (fun i hi => absurd hi (Nat.not_lt_zero _)) ls (lv_sub hl [1, 2, 3, 0] rfl)

abbrev rmX10_goOn : Room := { frames := 0, cells := 0, slots := 0, locals := 0 }
theorem inX10_goOn_10 : ∀ w ∈ wsX100, w ∈ wsX10_goOn := fun _ h => List.mem_cons_of_mem _ (List.mem_append_right _ h)
set_option maxHeartbeats 4000000 in
set_option maxRecDepth 100000 in
theorem c_X10_goOn (l : Launch) (K : rr_K) (A : Nat → Prop) (om : Nat) (ad : Nat → Nat) (ns wl nf wd mt : Nat) (kF nF yF WD FL FW TD RW pl nw xt vF wF qF bY gF : Nat → Nat) (nm xm : Nat → Int64) (fR oF hF dF : Nat → Int32) (x : Nat) (hx6 : x < 6) (hn : nF x ≤ 16) (hD : va_D A (XM K om ad ns wl nf wd mt kF nF yF WD FL FW TD RW pl nw xt vF wF qF bY gF nm xm fR oF hF dF)) : MetV l K yX10_goOn wsX10_goOn rmX10_goOn [.ref om, .int (nI x)] (fun H => va_P K.1 vwCl (XM K om ad ns wl nf wd mt kF nF yF WD FL FW TD RW pl nw xt vF wF qF bY gF nm xm fR oF hF dF) H) A (fun H => va_P K.1 vwCl (XM K om ad ns wl nf wd mt kF nF yF WD FL FW TD RW pl nw xt (putZ vF wF (nF x)) wF qF bY gF nm xm fR oF hF dF) H) 0 0 := by
  refine metV_of (cc := cX10_goOn) (maxL := 3) (by decide) rfl rfl rfl (Nat.le_of_ble_eq_true rfl) ?_
  intro p e s m args below meth c Q ls hEnt hin hKK hX hret hl
  obtain ⟨hx, hb, hml, hown, hts⟩ := hEnt
  have hP : va_P K.1 vwCl (XM K om ad ns wl nf wd mt kF nF yF WD FL FW TD RW pl nw xt vF wF qF bY gF nm xm fR oF hF dF) s.heap := hX
  have hl : lv_has ls 3 [(0, .ref om), (1, .int (nI x))] := hl
  have hS : va_S A s.heap s.heap [] := va_S.rf
  refine lv_iconst (v := nI 0) hx hb (pc := 0) dX10_goOn_0 (by decide) ?_
  refine lv_istore_n (lv' := [(2, .int (nI 0)), (0, .ref om), (1, .int (nI x))]) hx hb (pc := 1) dX10_goOn_1 rfl hl (by decide) rfl (fun ls hl => ?_)
  have L2 : ∀ (fz : Nat) (q : Nat) (H : Heap) (locs : List Loc) (hP : va_P K.1 vwCl (XM K om ad ns wl nf wd mt kF nF yF WD FL FW TD RW pl nw xt (putZ vF wF q) wF qF bY gF nm xm fR oF hF dF) H) (hD : va_D A (XM K om ad ns wl nf wd mt kF nF yF WD FL FW TD RW pl nw xt (putZ vF wF q) wF qF bY gF nm xm fR oF hF dF)) (hS : va_S A s.heap H locs) (hfz : nF x - q < fz) (hq : q ≤ nF x) (ls : Array Slot) (hl : lv_has ls 3 [(0, .ref om), (1, .int (nI x)), (2, .int (nI q))]), W p l e rmX10_goOn s m args below meth c H locs 0 0 Q (F0 m 2 ls []) := by
    intro fz; induction fz with
    | zero => intro q H locs hP hD hS hfz hq ls hl; exact absurd hfz (Nat.not_lt_zero _)
    | succ fz ih2 =>
      intro q H locs hP hD hS hfz hq ls hl
      refine lv_iload_n hx hb (pc := 2) dX10_goOn_2 rfl (lv_at hl 2 rfl) ?_
      refine lv_aload_n hx hb (pc := 3) dX10_goOn_3 rfl (lv_at hl 0 rfl) ?_
      refine va_get (v := .ref (ad 2)) hx hb hts (inX10_goOn_10) hown hKK.1 hP 0 rfl rfl 2 (by decide) (hts _ (List.mem_of_getElem? (i := 1) (by decide +kernel))) (fun _ h9 => h9) rfl (pc := 4) dX10_goOn_4 ?_
      refine lv_iload_n hx hb (pc := 7) dX10_goOn_7 rfl (lv_at hl 1 rfl) ?_
      refine nv_iald (v := nI (nF x)) (i := x) hx hb hKK hP 2 rfl (by omega) (by decide) (rfl) (pc := 8) dX10_goOn_8 ?_
      refine nv_icmp_ge (a := q) (b := (nF x)) (tgt := 30) hx hb (pc := 9) dX10_goOn_9 (by decide) (by omega) (by omega) (fun c9 => ?_) (fun c9 => ?_)
      · have e9 : q = nF x := by omega
        exact hret _ _ 0 0 30 _ dX10_goOn_30 (by omega) (by omega) hS (by rw [e9] at hP; exact hP)
      · refine lv_aload_n hx hb (pc := 12) dX10_goOn_12 rfl (lv_at hl 0 rfl) ?_
        refine va_get (v := .ref (ad 17)) hx hb hts (inX10_goOn_10) hown hKK.1 hP 0 rfl rfl 17 (by decide) (hts _ (List.mem_of_getElem? (i := 2) (by decide +kernel))) (fun _ h9 => h9) rfl (pc := 13) dX10_goOn_13 ?_
        refine lv_iload_n hx hb (pc := 16) dX10_goOn_16 rfl (lv_at hl 2 rfl) ?_
        refine lv_aload_n hx hb (pc := 17) dX10_goOn_17 rfl (lv_at hl 0 rfl) ?_
        refine va_get (v := .ref (ad 18)) hx hb hts (inX10_goOn_10) hown hKK.1 hP 0 rfl rfl 18 (by decide) (hts _ (List.mem_of_getElem? (i := 3) (by decide +kernel))) (fun _ h9 => h9) rfl (pc := 18) dX10_goOn_18 ?_
        refine lv_iload_n hx hb (pc := 21) dX10_goOn_21 rfl (lv_at hl 2 rfl) ?_
        refine nv_lald (v := lN (wF q)) (i := q) hx hb hKK hP 15 rfl (by omega) (by decide) (rfl) (pc := 22) dX10_goOn_22 ?_
        refine nv_lastN (f := (putZ vF wF q)) (x := (wF q)) (ws' := XM K om ad ns wl nf wd mt kF nF yF WD FL FW TD RW pl nw xt (va_up (putZ vF wF q) q (wF q)) wF qF bY gF nm xm fR oF hF dF) (i := q) hx hb hKK hP hD hS 14 rfl (by omega) (by decide) (rfl) (pc := 23) dX10_goOn_23 (fun H locs hP hD hS => ?_)
        refine lv_iinc (v := nI (q + 1)) (lv' := [(2, .int (nI (q + 1))), (0, .ref om), (1, .int (nI x))]) hx hb (pc := 24) dX10_goOn_24 hl (k := 2) rfl (rr_inc _) (by decide) rfl (fun ls hl => ?_)
        refine lv_goto (tgt := 2) hx hb (pc := 27) dX10_goOn_27 (by decide) ?_
        rw [putZ_step vF wF q] at hP hD
        exact ih2 (q + 1) _ _ hP hD hS (by omega) (by omega) ls (lv_sub hl [1, 2, 0] rfl)
  rw [← putZ_0 vF wF] at hP hD
  exact L2 (17) 0 _ _ hP hD hS (by omega) (Nat.zero_le _) ls (lv_sub hl [1, 2, 0] rfl)

abbrev rmX10_isLess : Room := { frames := 0, cells := 0, slots := 0, locals := 0 }
set_option maxHeartbeats 4000000 in
set_option maxRecDepth 100000 in
theorem c_X10_isLess (l : Launch) (K : rr_K) (aa bb cc dd : Nat) (haa : aa < 2 ^ 63) (hbb : bb < 2 ^ 63) (hcc : cc < 2 ^ 63) (hdd : dd < 2 ^ 63) (hb0 : 0 < bb) (hd0 : 0 < dd) : MetP l K yX10_isLess wsX10_isLess rmX10_isLess [.long (lN (aa)), .long (lN (bb)), .long (lN (cc)), .long (lN (dd))] (fun H => True) (.int (bI (decide (aa * dd < cc * bb)))) := by
  refine metP_of (cc := cX10_isLess) (maxL := 25) (ret := (some .boolean)) (rt := .boolean) (by decide) rfl rfl (Nat.le_of_ble_eq_true rfl) ?_
  intro p e s m args below meth c Q ls hEnt hKK hX hret hl
  obtain ⟨hx, hb, hml, hown, hts⟩ := hEnt
  have hl : lv_has ls 25 [(0, .long (lN (aa))), (2, .long (lN (bb))), (4, .long (lN (cc))), (6, .long (lN (dd)))] := hl
  refine lv_lload_n hx hb (pc := 0) dX10_isLess_0 rfl (lv_at hl 0 rfl) ?_
  refine lv_lstore (lv' := [(8, .long (lN (aa))), (0, .long (lN (aa))), (2, .long (lN (bb))), (4, .long (lN (cc))), (6, .long (lN (dd)))]) hx hb (pc := 1) dX10_isLess_1 hl (by decide) rfl (fun ls hl => ?_)
  refine lv_lload_n hx hb (pc := 3) dX10_isLess_3 rfl (lv_at hl 2 rfl) ?_
  refine lv_lstore (lv' := [(10, .long (lN (bb))), (8, .long (lN (aa))), (0, .long (lN (aa))), (2, .long (lN (bb))), (4, .long (lN (cc))), (6, .long (lN (dd)))]) hx hb (pc := 4) dX10_isLess_4 hl (by decide) rfl (fun ls hl => ?_)
  refine lv_lload hx hb (pc := 6) dX10_isLess_6 (lv_at hl 4 rfl) ?_
  refine lv_lstore (lv' := [(12, .long (lN (cc))), (10, .long (lN (bb))), (8, .long (lN (aa))), (0, .long (lN (aa))), (2, .long (lN (bb))), (4, .long (lN (cc))), (6, .long (lN (dd)))]) hx hb (pc := 8) dX10_isLess_8 hl (by decide) rfl (fun ls hl => ?_)
  refine lv_lload hx hb (pc := 10) dX10_isLess_10 (lv_at hl 6 rfl) ?_
  refine lv_lstore (lv' := [(14, .long (lN (dd))), (12, .long (lN (cc))), (10, .long (lN (bb))), (8, .long (lN (aa))), (0, .long (lN (aa))), (2, .long (lN (bb))), (4, .long (lN (cc))), (6, .long (lN (dd)))]) hx hb (pc := 12) dX10_isLess_12 hl (by decide) rfl (fun ls hl => ?_)
  refine lv_iconst (v := nI 0) hx hb (pc := 14) dX10_isLess_14 (by decide) ?_
  refine lv_istore (lv' := [(16, .int (nI 0)), (14, .long (lN (dd))), (12, .long (lN (cc))), (10, .long (lN (bb))), (8, .long (lN (aa))), (0, .long (lN (aa))), (2, .long (lN (bb))), (4, .long (lN (cc))), (6, .long (lN (dd)))]) hx hb (pc := 15) dX10_isLess_15 hl (by decide) rfl (fun ls hl => ?_)
  have L17 : ∀ (fz : Nat) (x : Nat) (y : Nat) (z : Nat) (t : Nat) (g : Bool) (hfz : y < fz) (hx9 : x < 2 ^ 63) (hy9 : y < 2 ^ 63) (hz9 : z < 2 ^ 63) (ht9 : t < 2 ^ 63) (hy : 0 < y) (ht : 0 < t) (hI : decide (aa * dd < cc * bb) = if g = true then decide (z * y < x * t) else decide (x * t < z * y)) (ls : Array Slot) (hl : lv_has ls 25 [(8, .long (lN (x))), (10, .long (lN (y))), (12, .long (lN (z))), (14, .long (lN (t))), (16, .int (bI (g)))]), W p l e rmX10_isLess s m args below meth c s.heap [] 0 0 Q (F0 m 17 ls []) := by
    intro fz; induction fz with
    | zero => intro x y z t g hfz hx9 hy9 hz9 ht9 hy ht hI ls hl; exact absurd hfz (Nat.not_lt_zero _)
    | succ fz ih17 =>
      intro x y z t g hfz hx9 hy9 hz9 ht9 hy ht hI ls hl
      have hq1 : x / y ≤ x := Nat.div_le_self _ _
      have hq2 : z / t ≤ z := Nat.div_le_self _ _
      have hm1 := Nat.mod_lt x hy
      have hm2 := Nat.mod_lt z ht
      have hq3 : x / y * y ≤ x := Nat.div_mul_le_self _ _
      have hq4 : z / t * t ≤ z := Nat.div_mul_le_self _ _
      refine lv_lload hx hb (pc := 17) dX10_isLess_17 (lv_at hl 0 rfl) ?_
      refine lv_lload hx hb (pc := 19) dX10_isLess_19 (lv_at hl 1 rfl) ?_
      refine nv_ldiv (a := x) (b := y) hx hb (pc := 21) dX10_isLess_21 (by omega) (by omega) (by omega) ?_
      refine lv_lstore (lv' := [(17, .long (lN (x / y))), (8, .long (lN (x))), (10, .long (lN (y))), (12, .long (lN (z))), (14, .long (lN (t))), (16, .int (bI (g)))]) hx hb (pc := 22) dX10_isLess_22 hl (by decide) rfl (fun ls hl => ?_)
      refine lv_lload hx hb (pc := 24) dX10_isLess_24 (lv_at hl 3 rfl) ?_
      refine lv_lload hx hb (pc := 26) dX10_isLess_26 (lv_at hl 4 rfl) ?_
      refine nv_ldiv (a := z) (b := t) hx hb (pc := 28) dX10_isLess_28 (by omega) (by omega) (by omega) ?_
      refine lv_lstore (lv' := [(19, .long (lN (z / t))), (17, .long (lN (x / y))), (8, .long (lN (x))), (10, .long (lN (y))), (12, .long (lN (z))), (14, .long (lN (t))), (16, .int (bI (g)))]) hx hb (pc := 29) dX10_isLess_29 hl (by decide) rfl (fun ls hl => ?_)
      refine lv_lload hx hb (pc := 31) dX10_isLess_31 (lv_at hl 1 rfl) ?_
      refine lv_lload hx hb (pc := 33) dX10_isLess_33 (lv_at hl 0 rfl) ?_
      refine nv_lcmp_eq (a := (x / y)) (b := (z / t)) (tgt := 74) hx hb (pc := 35) dX10_isLess_35 dX10_isLess_36 (by decide) (by omega) (by omega) (fun c35 => ?_) (fun c35 => ?_)
      · refine lv_lload hx hb (pc := 74) dX10_isLess_74 (lv_at hl 2 rfl) ?_
        refine lv_lload hx hb (pc := 76) dX10_isLess_76 (lv_at hl 1 rfl) ?_
        refine lv_lload hx hb (pc := 78) dX10_isLess_78 (lv_at hl 3 rfl) ?_
        refine nv_lmul (a := (x / y)) (b := y) hx hb (pc := 80) dX10_isLess_80 ?_
        refine nv_lsub (a := x) (b := ((x / y) * y)) hx hb (pc := 81) dX10_isLess_81 (by omega) ?_
        refine rr_top (v := .long (lN (x % y))) (by rw [mod_sub]) ?_
        refine lv_lstore (lv' := [(21, .long (lN (x % y))), (19, .long (lN (z / t))), (17, .long (lN (x / y))), (8, .long (lN (x))), (10, .long (lN (y))), (12, .long (lN (z))), (14, .long (lN (t))), (16, .int (bI (g)))]) hx hb (pc := 82) dX10_isLess_82 hl (by decide) rfl (fun ls hl => ?_)
        refine lv_lload hx hb (pc := 84) dX10_isLess_84 (lv_at hl 5 rfl) ?_
        refine lv_lload hx hb (pc := 86) dX10_isLess_86 (lv_at hl 1 rfl) ?_
        refine lv_lload hx hb (pc := 88) dX10_isLess_88 (lv_at hl 6 rfl) ?_
        refine nv_lmul (a := (z / t)) (b := t) hx hb (pc := 90) dX10_isLess_90 ?_
        refine nv_lsub (a := z) (b := ((z / t) * t)) hx hb (pc := 91) dX10_isLess_91 (by omega) ?_
        refine rr_top (v := .long (lN (z % t))) (by rw [mod_sub]) ?_
        refine lv_lstore (lv' := [(23, .long (lN (z % t))), (21, .long (lN (x % y))), (19, .long (lN (z / t))), (17, .long (lN (x / y))), (8, .long (lN (x))), (10, .long (lN (y))), (12, .long (lN (z))), (14, .long (lN (t))), (16, .int (bI (g)))]) hx hb (pc := 92) dX10_isLess_92 hl (by decide) rfl (fun ls hl => ?_)
        refine lv_lload hx hb (pc := 94) dX10_isLess_94 (lv_at hl 1 rfl) ?_
        refine lv_lconst (v := lN 0) hx hb (pc := 96) dX10_isLess_96 (by decide) ?_
        refine nv_lcmp_eq (a := (x % y)) (b := 0) (tgt := 108) hx hb (pc := 97) dX10_isLess_97 dX10_isLess_98 (by decide) (by omega) (by omega) (fun c97 => ?_) (fun c97 => ?_)
        · refine lv_iload hx hb (pc := 108) dX10_isLess_108 (lv_at hl 8 rfl) ?_
          refine nv_if_eq_b (a := g) (tgt := 135) hx hb (pc := 110) dX10_isLess_110 (by decide) (fun c110 => ?_) (fun c110 => ?_)
          · refine lv_lload hx hb (pc := 135) dX10_isLess_135 (lv_at hl 1 rfl) ?_
            refine lv_lconst (v := lN 0) hx hb (pc := 137) dX10_isLess_137 (by decide) ?_
            refine nv_lcmp_ne (a := (x % y)) (b := 0) (tgt := 153) hx hb (pc := 138) dX10_isLess_138 dX10_isLess_139 (by decide) (by omega) (by omega) (fun c138 => ?_) (fun c138 => ?_)
            · refine lv_iconst (v := nI 0) hx hb (pc := 153) dX10_isLess_153 (by decide) ?_
              exact hret.1 154 _ (nI 0) dX10_isLess_154 (by rw [hI]; first | (rw [if_pos c110, (isl_end hy ht c35 (by omega)).2, decide_eq_true (by omega)]; rfl) | (rw [if_pos c110, (isl_end hy ht c35 (by omega)).2, decide_eq_false (by omega)]; rfl) | (rw [if_neg (by rw [c110]; decide), (isl_end hy ht c35 (by omega)).1, decide_eq_true (by omega)]; rfl) | (rw [if_neg (by rw [c110]; decide), (isl_end hy ht c35 (by omega)).1, decide_eq_false (by omega)]; rfl)) (by decide)
            · refine lv_lload hx hb (pc := 142) dX10_isLess_142 (lv_at hl 0 rfl) ?_
              refine lv_lconst (v := lN 0) hx hb (pc := 144) dX10_isLess_144 (by decide) ?_
              refine nv_lcmp_eq (a := (z % t)) (b := 0) (tgt := 153) hx hb (pc := 145) dX10_isLess_145 dX10_isLess_146 (by decide) (by omega) (by omega) (fun c145 => ?_) (fun c145 => ?_)
              · refine lv_iconst (v := nI 0) hx hb (pc := 153) dX10_isLess_153 (by decide) ?_
                exact hret.1 154 _ (nI 0) dX10_isLess_154 (by rw [hI]; first | (rw [if_pos c110, (isl_end hy ht c35 (by omega)).2, decide_eq_true (by omega)]; rfl) | (rw [if_pos c110, (isl_end hy ht c35 (by omega)).2, decide_eq_false (by omega)]; rfl) | (rw [if_neg (by rw [c110]; decide), (isl_end hy ht c35 (by omega)).1, decide_eq_true (by omega)]; rfl) | (rw [if_neg (by rw [c110]; decide), (isl_end hy ht c35 (by omega)).1, decide_eq_false (by omega)]; rfl)) (by decide)
              · refine lv_iconst (v := nI 1) hx hb (pc := 149) dX10_isLess_149 (by decide) ?_
                refine lv_goto (tgt := 154) hx hb (pc := 150) dX10_isLess_150 (by decide) ?_
                exact hret.1 154 _ (nI 1) dX10_isLess_154 (by rw [hI]; first | (rw [if_pos c110, (isl_end hy ht c35 (by omega)).2, decide_eq_true (by omega)]; rfl) | (rw [if_pos c110, (isl_end hy ht c35 (by omega)).2, decide_eq_false (by omega)]; rfl) | (rw [if_neg (by rw [c110]; decide), (isl_end hy ht c35 (by omega)).1, decide_eq_true (by omega)]; rfl) | (rw [if_neg (by rw [c110]; decide), (isl_end hy ht c35 (by omega)).1, decide_eq_false (by omega)]; rfl)) (by decide)
          · refine lv_lload hx hb (pc := 113) dX10_isLess_113 (lv_at hl 0 rfl) ?_
            refine lv_lconst (v := lN 0) hx hb (pc := 115) dX10_isLess_115 (by decide) ?_
            refine nv_lcmp_ne (a := (z % t)) (b := 0) (tgt := 131) hx hb (pc := 116) dX10_isLess_116 dX10_isLess_117 (by decide) (by omega) (by omega) (fun c116 => ?_) (fun c116 => ?_)
            · refine lv_iconst (v := nI 0) hx hb (pc := 131) dX10_isLess_131 (by decide) ?_
              refine lv_goto (tgt := 154) hx hb (pc := 132) dX10_isLess_132 (by decide) ?_
              exact hret.1 154 _ (nI 0) dX10_isLess_154 (by rw [hI]; first | (rw [if_pos c110, (isl_end hy ht c35 (by omega)).2, decide_eq_true (by omega)]; rfl) | (rw [if_pos c110, (isl_end hy ht c35 (by omega)).2, decide_eq_false (by omega)]; rfl) | (rw [if_neg (by rw [c110]; decide), (isl_end hy ht c35 (by omega)).1, decide_eq_true (by omega)]; rfl) | (rw [if_neg (by rw [c110]; decide), (isl_end hy ht c35 (by omega)).1, decide_eq_false (by omega)]; rfl)) (by decide)
            · refine lv_lload hx hb (pc := 120) dX10_isLess_120 (lv_at hl 1 rfl) ?_
              refine lv_lconst (v := lN 0) hx hb (pc := 122) dX10_isLess_122 (by decide) ?_
              refine nv_lcmp_eq (a := (x % y)) (b := 0) (tgt := 131) hx hb (pc := 123) dX10_isLess_123 dX10_isLess_124 (by decide) (by omega) (by omega) (fun c123 => ?_) (fun c123 => ?_)
              · refine lv_iconst (v := nI 0) hx hb (pc := 131) dX10_isLess_131 (by decide) ?_
                refine lv_goto (tgt := 154) hx hb (pc := 132) dX10_isLess_132 (by decide) ?_
                exact hret.1 154 _ (nI 0) dX10_isLess_154 (by rw [hI]; first | (rw [if_pos c110, (isl_end hy ht c35 (by omega)).2, decide_eq_true (by omega)]; rfl) | (rw [if_pos c110, (isl_end hy ht c35 (by omega)).2, decide_eq_false (by omega)]; rfl) | (rw [if_neg (by rw [c110]; decide), (isl_end hy ht c35 (by omega)).1, decide_eq_true (by omega)]; rfl) | (rw [if_neg (by rw [c110]; decide), (isl_end hy ht c35 (by omega)).1, decide_eq_false (by omega)]; rfl)) (by decide)
              · refine lv_iconst (v := nI 1) hx hb (pc := 127) dX10_isLess_127 (by decide) ?_
                refine lv_goto (tgt := 154) hx hb (pc := 128) dX10_isLess_128 (by decide) ?_
                exact hret.1 154 _ (nI 1) dX10_isLess_154 (by rw [hI]; first | (rw [if_pos c110, (isl_end hy ht c35 (by omega)).2, decide_eq_true (by omega)]; rfl) | (rw [if_pos c110, (isl_end hy ht c35 (by omega)).2, decide_eq_false (by omega)]; rfl) | (rw [if_neg (by rw [c110]; decide), (isl_end hy ht c35 (by omega)).1, decide_eq_true (by omega)]; rfl) | (rw [if_neg (by rw [c110]; decide), (isl_end hy ht c35 (by omega)).1, decide_eq_false (by omega)]; rfl)) (by decide)
        · refine lv_lload hx hb (pc := 101) dX10_isLess_101 (lv_at hl 0 rfl) ?_
          refine lv_lconst (v := lN 0) hx hb (pc := 103) dX10_isLess_103 (by decide) ?_
          refine nv_lcmp_ne (a := (z % t)) (b := 0) (tgt := 155) hx hb (pc := 104) dX10_isLess_104 dX10_isLess_105 (by decide) (by omega) (by omega) (fun c104 => ?_) (fun c104 => ?_)
          · refine lv_lload hx hb (pc := 155) dX10_isLess_155 (lv_at hl 5 rfl) ?_
            refine lv_lstore (lv' := [(8, .long (lN (y))), (23, .long (lN (z % t))), (21, .long (lN (x % y))), (19, .long (lN (z / t))), (17, .long (lN (x / y))), (10, .long (lN (y))), (12, .long (lN (z))), (14, .long (lN (t))), (16, .int (bI (g)))]) hx hb (pc := 157) dX10_isLess_157 hl (by decide) rfl (fun ls hl => ?_)
            refine lv_lload hx hb (pc := 159) dX10_isLess_159 (lv_at hl 2 rfl) ?_
            refine lv_lstore (lv' := [(10, .long (lN (x % y))), (8, .long (lN (y))), (23, .long (lN (z % t))), (21, .long (lN (x % y))), (19, .long (lN (z / t))), (17, .long (lN (x / y))), (12, .long (lN (z))), (14, .long (lN (t))), (16, .int (bI (g)))]) hx hb (pc := 161) dX10_isLess_161 hl (by decide) rfl (fun ls hl => ?_)
            refine lv_lload hx hb (pc := 163) dX10_isLess_163 (lv_at hl 7 rfl) ?_
            refine lv_lstore (lv' := [(12, .long (lN (t))), (10, .long (lN (x % y))), (8, .long (lN (y))), (23, .long (lN (z % t))), (21, .long (lN (x % y))), (19, .long (lN (z / t))), (17, .long (lN (x / y))), (14, .long (lN (t))), (16, .int (bI (g)))]) hx hb (pc := 165) dX10_isLess_165 hl (by decide) rfl (fun ls hl => ?_)
            refine lv_lload hx hb (pc := 167) dX10_isLess_167 (lv_at hl 3 rfl) ?_
            refine lv_lstore (lv' := [(14, .long (lN (z % t))), (12, .long (lN (t))), (10, .long (lN (x % y))), (8, .long (lN (y))), (23, .long (lN (z % t))), (21, .long (lN (x % y))), (19, .long (lN (z / t))), (17, .long (lN (x / y))), (16, .int (bI (g)))]) hx hb (pc := 169) dX10_isLess_169 hl (by decide) rfl (fun ls hl => ?_)
            refine lv_iload hx hb (pc := 171) dX10_isLess_171 (lv_at hl 8 rfl) ?_
            refine nv_if_ne_b (a := g) (tgt := 180) hx hb (pc := 173) dX10_isLess_173 (by decide) (fun c173 => ?_) (fun c173 => ?_)
            · refine lv_iconst (v := nI 0) hx hb (pc := 180) dX10_isLess_180 (by decide) ?_
              refine lv_istore (lv' := [(16, .int (nI 0)), (14, .long (lN (z % t))), (12, .long (lN (t))), (10, .long (lN (x % y))), (8, .long (lN (y))), (23, .long (lN (z % t))), (21, .long (lN (x % y))), (19, .long (lN (z / t))), (17, .long (lN (x / y)))]) hx hb (pc := 181) dX10_isLess_181 hl (by decide) rfl (fun ls hl => ?_)
              refine lv_goto (tgt := 17) hx hb (pc := 183) dX10_isLess_183 (by decide) ?_
              exact ih17 y (x % y) t (z % t) false (by omega) (hy9) (by omega) (ht9) (by omega) (by omega) (by omega) (by rw [hI]; first | (rw [if_pos c173, if_neg (by decide), (isl_on c35).2]; done) | (rw [if_neg (by rw [c173]; decide), if_pos rfl, (isl_on c35).1]; done)) ls (lv_sub hl [4, 3, 2, 1, 0] rfl)
            · refine lv_iconst (v := nI 1) hx hb (pc := 176) dX10_isLess_176 (by decide) ?_
              refine lv_goto (tgt := 181) hx hb (pc := 177) dX10_isLess_177 (by decide) ?_
              refine lv_istore (lv' := [(16, .int (nI 1)), (14, .long (lN (z % t))), (12, .long (lN (t))), (10, .long (lN (x % y))), (8, .long (lN (y))), (23, .long (lN (z % t))), (21, .long (lN (x % y))), (19, .long (lN (z / t))), (17, .long (lN (x / y)))]) hx hb (pc := 181) dX10_isLess_181 hl (by decide) rfl (fun ls hl => ?_)
              refine lv_goto (tgt := 17) hx hb (pc := 183) dX10_isLess_183 (by decide) ?_
              exact ih17 y (x % y) t (z % t) true (by omega) (hy9) (by omega) (ht9) (by omega) (by omega) (by omega) (by rw [hI]; first | (rw [if_pos c173, if_neg (by decide), (isl_on c35).2]; done) | (rw [if_neg (by rw [c173]; decide), if_pos rfl, (isl_on c35).1]; done)) ls (lv_sub hl [4, 3, 2, 1, 0] rfl)
          · refine lv_iload hx hb (pc := 108) dX10_isLess_108 (lv_at hl 8 rfl) ?_
            refine nv_if_eq_b (a := g) (tgt := 135) hx hb (pc := 110) dX10_isLess_110 (by decide) (fun c110 => ?_) (fun c110 => ?_)
            · refine lv_lload hx hb (pc := 135) dX10_isLess_135 (lv_at hl 1 rfl) ?_
              refine lv_lconst (v := lN 0) hx hb (pc := 137) dX10_isLess_137 (by decide) ?_
              refine nv_lcmp_ne (a := (x % y)) (b := 0) (tgt := 153) hx hb (pc := 138) dX10_isLess_138 dX10_isLess_139 (by decide) (by omega) (by omega) (fun c138 => ?_) (fun c138 => ?_)
              · refine lv_iconst (v := nI 0) hx hb (pc := 153) dX10_isLess_153 (by decide) ?_
                exact hret.1 154 _ (nI 0) dX10_isLess_154 (by rw [hI]; first | (rw [if_pos c110, (isl_end hy ht c35 (by omega)).2, decide_eq_true (by omega)]; rfl) | (rw [if_pos c110, (isl_end hy ht c35 (by omega)).2, decide_eq_false (by omega)]; rfl) | (rw [if_neg (by rw [c110]; decide), (isl_end hy ht c35 (by omega)).1, decide_eq_true (by omega)]; rfl) | (rw [if_neg (by rw [c110]; decide), (isl_end hy ht c35 (by omega)).1, decide_eq_false (by omega)]; rfl)) (by decide)
              · refine lv_lload hx hb (pc := 142) dX10_isLess_142 (lv_at hl 0 rfl) ?_
                refine lv_lconst (v := lN 0) hx hb (pc := 144) dX10_isLess_144 (by decide) ?_
                refine nv_lcmp_eq (a := (z % t)) (b := 0) (tgt := 153) hx hb (pc := 145) dX10_isLess_145 dX10_isLess_146 (by decide) (by omega) (by omega) (fun c145 => ?_) (fun c145 => ?_)
                · refine lv_iconst (v := nI 0) hx hb (pc := 153) dX10_isLess_153 (by decide) ?_
                  exact hret.1 154 _ (nI 0) dX10_isLess_154 (by rw [hI]; first | (rw [if_pos c110, (isl_end hy ht c35 (by omega)).2, decide_eq_true (by omega)]; rfl) | (rw [if_pos c110, (isl_end hy ht c35 (by omega)).2, decide_eq_false (by omega)]; rfl) | (rw [if_neg (by rw [c110]; decide), (isl_end hy ht c35 (by omega)).1, decide_eq_true (by omega)]; rfl) | (rw [if_neg (by rw [c110]; decide), (isl_end hy ht c35 (by omega)).1, decide_eq_false (by omega)]; rfl)) (by decide)
                · refine lv_iconst (v := nI 1) hx hb (pc := 149) dX10_isLess_149 (by decide) ?_
                  refine lv_goto (tgt := 154) hx hb (pc := 150) dX10_isLess_150 (by decide) ?_
                  exact hret.1 154 _ (nI 1) dX10_isLess_154 (by rw [hI]; first | (rw [if_pos c110, (isl_end hy ht c35 (by omega)).2, decide_eq_true (by omega)]; rfl) | (rw [if_pos c110, (isl_end hy ht c35 (by omega)).2, decide_eq_false (by omega)]; rfl) | (rw [if_neg (by rw [c110]; decide), (isl_end hy ht c35 (by omega)).1, decide_eq_true (by omega)]; rfl) | (rw [if_neg (by rw [c110]; decide), (isl_end hy ht c35 (by omega)).1, decide_eq_false (by omega)]; rfl)) (by decide)
            · refine lv_lload hx hb (pc := 113) dX10_isLess_113 (lv_at hl 0 rfl) ?_
              refine lv_lconst (v := lN 0) hx hb (pc := 115) dX10_isLess_115 (by decide) ?_
              refine nv_lcmp_ne (a := (z % t)) (b := 0) (tgt := 131) hx hb (pc := 116) dX10_isLess_116 dX10_isLess_117 (by decide) (by omega) (by omega) (fun c116 => ?_) (fun c116 => ?_)
              · refine lv_iconst (v := nI 0) hx hb (pc := 131) dX10_isLess_131 (by decide) ?_
                refine lv_goto (tgt := 154) hx hb (pc := 132) dX10_isLess_132 (by decide) ?_
                exact hret.1 154 _ (nI 0) dX10_isLess_154 (by rw [hI]; first | (rw [if_pos c110, (isl_end hy ht c35 (by omega)).2, decide_eq_true (by omega)]; rfl) | (rw [if_pos c110, (isl_end hy ht c35 (by omega)).2, decide_eq_false (by omega)]; rfl) | (rw [if_neg (by rw [c110]; decide), (isl_end hy ht c35 (by omega)).1, decide_eq_true (by omega)]; rfl) | (rw [if_neg (by rw [c110]; decide), (isl_end hy ht c35 (by omega)).1, decide_eq_false (by omega)]; rfl)) (by decide)
              · refine lv_lload hx hb (pc := 120) dX10_isLess_120 (lv_at hl 1 rfl) ?_
                refine lv_lconst (v := lN 0) hx hb (pc := 122) dX10_isLess_122 (by decide) ?_
                refine nv_lcmp_eq (a := (x % y)) (b := 0) (tgt := 131) hx hb (pc := 123) dX10_isLess_123 dX10_isLess_124 (by decide) (by omega) (by omega) (fun c123 => ?_) (fun c123 => ?_)
                · refine lv_iconst (v := nI 0) hx hb (pc := 131) dX10_isLess_131 (by decide) ?_
                  refine lv_goto (tgt := 154) hx hb (pc := 132) dX10_isLess_132 (by decide) ?_
                  exact hret.1 154 _ (nI 0) dX10_isLess_154 (by rw [hI]; first | (rw [if_pos c110, (isl_end hy ht c35 (by omega)).2, decide_eq_true (by omega)]; rfl) | (rw [if_pos c110, (isl_end hy ht c35 (by omega)).2, decide_eq_false (by omega)]; rfl) | (rw [if_neg (by rw [c110]; decide), (isl_end hy ht c35 (by omega)).1, decide_eq_true (by omega)]; rfl) | (rw [if_neg (by rw [c110]; decide), (isl_end hy ht c35 (by omega)).1, decide_eq_false (by omega)]; rfl)) (by decide)
                · refine lv_iconst (v := nI 1) hx hb (pc := 127) dX10_isLess_127 (by decide) ?_
                  refine lv_goto (tgt := 154) hx hb (pc := 128) dX10_isLess_128 (by decide) ?_
                  exact hret.1 154 _ (nI 1) dX10_isLess_154 (by rw [hI]; first | (rw [if_pos c110, (isl_end hy ht c35 (by omega)).2, decide_eq_true (by omega)]; rfl) | (rw [if_pos c110, (isl_end hy ht c35 (by omega)).2, decide_eq_false (by omega)]; rfl) | (rw [if_neg (by rw [c110]; decide), (isl_end hy ht c35 (by omega)).1, decide_eq_true (by omega)]; rfl) | (rw [if_neg (by rw [c110]; decide), (isl_end hy ht c35 (by omega)).1, decide_eq_false (by omega)]; rfl)) (by decide)
      · refine lv_iload hx hb (pc := 39) dX10_isLess_39 (lv_at hl 6 rfl) ?_
        refine nv_if_eq_b (a := g) (tgt := 60) hx hb (pc := 41) dX10_isLess_41 (by decide) (fun c41 => ?_) (fun c41 => ?_)
        · refine lv_lload hx hb (pc := 60) dX10_isLess_60 (lv_at hl 1 rfl) ?_
          refine lv_lload hx hb (pc := 62) dX10_isLess_62 (lv_at hl 0 rfl) ?_
          refine nv_lcmp_ge (a := (x / y)) (b := (z / t)) (tgt := 72) hx hb (pc := 64) dX10_isLess_64 dX10_isLess_65 (by decide) (by omega) (by omega) (fun c64 => ?_) (fun c64 => ?_)
          · refine lv_iconst (v := nI 0) hx hb (pc := 72) dX10_isLess_72 (by decide) ?_
            exact hret.1 73 _ (nI 0) dX10_isLess_73 (by rw [hI]; first | (rw [if_pos c41, ← decide_eq_decide.mpr (isl_ne (x := z) (y := t) (z := x) (t := y) ht hy (fun q => c35 q.symm)), decide_eq_true c48]; rfl) | (rw [if_pos c41, ← decide_eq_decide.mpr (isl_ne (x := z) (y := t) (z := x) (t := y) ht hy (fun q => c35 q.symm)), decide_eq_false (by omega)]; rfl) | (rw [if_neg (by rw [c41]; decide), ← decide_eq_decide.mpr (isl_ne hy ht c35), decide_eq_true (by omega)]; rfl) | (rw [if_neg (by rw [c41]; decide), ← decide_eq_decide.mpr (isl_ne hy ht c35), decide_eq_false (by omega)]; rfl)) (by decide)
          · refine lv_iconst (v := nI 1) hx hb (pc := 68) dX10_isLess_68 (by decide) ?_
            refine lv_goto (tgt := 73) hx hb (pc := 69) dX10_isLess_69 (by decide) ?_
            exact hret.1 73 _ (nI 1) dX10_isLess_73 (by rw [hI]; first | (rw [if_pos c41, ← decide_eq_decide.mpr (isl_ne (x := z) (y := t) (z := x) (t := y) ht hy (fun q => c35 q.symm)), decide_eq_true c48]; rfl) | (rw [if_pos c41, ← decide_eq_decide.mpr (isl_ne (x := z) (y := t) (z := x) (t := y) ht hy (fun q => c35 q.symm)), decide_eq_false (by omega)]; rfl) | (rw [if_neg (by rw [c41]; decide), ← decide_eq_decide.mpr (isl_ne hy ht c35), decide_eq_true (by omega)]; rfl) | (rw [if_neg (by rw [c41]; decide), ← decide_eq_decide.mpr (isl_ne hy ht c35), decide_eq_false (by omega)]; rfl)) (by decide)
        · refine lv_lload hx hb (pc := 44) dX10_isLess_44 (lv_at hl 1 rfl) ?_
          refine lv_lload hx hb (pc := 46) dX10_isLess_46 (lv_at hl 0 rfl) ?_
          refine nv_lcmp_le (a := (x / y)) (b := (z / t)) (tgt := 56) hx hb (pc := 48) dX10_isLess_48 dX10_isLess_49 (by decide) (by omega) (by omega) (fun c48 => ?_) (fun c48 => ?_)
          · refine lv_iconst (v := nI 0) hx hb (pc := 56) dX10_isLess_56 (by decide) ?_
            refine lv_goto (tgt := 73) hx hb (pc := 57) dX10_isLess_57 (by decide) ?_
            exact hret.1 73 _ (nI 0) dX10_isLess_73 (by rw [hI]; first | (rw [if_pos c41, ← decide_eq_decide.mpr (isl_ne (x := z) (y := t) (z := x) (t := y) ht hy (fun q => c35 q.symm)), decide_eq_true c48]; rfl) | (rw [if_pos c41, ← decide_eq_decide.mpr (isl_ne (x := z) (y := t) (z := x) (t := y) ht hy (fun q => c35 q.symm)), decide_eq_false (by omega)]; rfl) | (rw [if_neg (by rw [c41]; decide), ← decide_eq_decide.mpr (isl_ne hy ht c35), decide_eq_true (by omega)]; rfl) | (rw [if_neg (by rw [c41]; decide), ← decide_eq_decide.mpr (isl_ne hy ht c35), decide_eq_false (by omega)]; rfl)) (by decide)
          · refine lv_iconst (v := nI 1) hx hb (pc := 52) dX10_isLess_52 (by decide) ?_
            refine lv_goto (tgt := 73) hx hb (pc := 53) dX10_isLess_53 (by decide) ?_
            exact hret.1 73 _ (nI 1) dX10_isLess_73 (by rw [hI]; first | (rw [if_pos c41, ← decide_eq_decide.mpr (isl_ne (x := z) (y := t) (z := x) (t := y) ht hy (fun q => c35 q.symm)), decide_eq_true c48]; rfl) | (rw [if_pos c41, ← decide_eq_decide.mpr (isl_ne (x := z) (y := t) (z := x) (t := y) ht hy (fun q => c35 q.symm)), decide_eq_false (by omega)]; rfl) | (rw [if_neg (by rw [c41]; decide), ← decide_eq_decide.mpr (isl_ne hy ht c35), decide_eq_true (by omega)]; rfl) | (rw [if_neg (by rw [c41]; decide), ← decide_eq_decide.mpr (isl_ne hy ht c35), decide_eq_false (by omega)]; rfl)) (by decide)
  exact L17 (bb + 1) aa bb cc dd false (by omega) (haa) (hbb) (hcc) (hdd) (hb0) (hd0) (by rw [if_neg (by decide)]) ls (lv_sub hl [4, 3, 2, 1, 0] rfl)

abbrev rmX10_common : Room := { frames := 0, cells := 0, slots := 0, locals := 0 }
set_option maxHeartbeats 4000000 in
set_option maxRecDepth 100000 in
theorem c_X10_common (l : Launch) (K : rr_K) (aa bb : Nat) (haa : aa < 2 ^ 63) (hbb : bb < 2 ^ 63) : MetP l K yX10_common wsX10_common rmX10_common [.long (lN (aa)), .long (lN (bb))] (fun H => True) (.long (lN (Nat.gcd aa bb))) := by
  refine metP_of (cc := cX10_common) (maxL := 10) (ret := (some .long)) (rt := .long) (by decide) rfl rfl (Nat.le_of_ble_eq_true rfl) ?_
  intro p e s m args below meth c Q ls hEnt hKK hX hret hl
  obtain ⟨hx, hb, hml, hown, hts⟩ := hEnt
  have hl : lv_has ls 10 [(0, .long (lN (aa))), (2, .long (lN (bb)))] := hl
  refine lv_lload_n hx hb (pc := 0) dX10_common_0 rfl (lv_at hl 0 rfl) ?_
  refine lv_lstore (lv' := [(4, .long (lN (aa))), (0, .long (lN (aa))), (2, .long (lN (bb)))]) hx hb (pc := 1) dX10_common_1 hl (by decide) rfl (fun ls hl => ?_)
  refine lv_lload_n hx hb (pc := 3) dX10_common_3 rfl (lv_at hl 2 rfl) ?_
  refine lv_lstore (lv' := [(6, .long (lN (bb))), (4, .long (lN (aa))), (0, .long (lN (aa))), (2, .long (lN (bb)))]) hx hb (pc := 4) dX10_common_4 hl (by decide) rfl (fun ls hl => ?_)
  have L6 : ∀ (fz : Nat) (x : Nat) (y : Nat) (hfz : y < fz) (hx9 : x < 2 ^ 63) (hy9 : y < 2 ^ 63) (hg : Nat.gcd x y = Nat.gcd aa bb) (ls : Array Slot) (hl : lv_has ls 10 [(4, .long (lN (x))), (6, .long (lN (y)))]), W p l e rmX10_common s m args below meth c s.heap [] 0 0 Q (F0 m 6 ls []) := by
    intro fz; induction fz with
    | zero => intro x y hfz hx9 hy9 hg ls hl; exact absurd hfz (Nat.not_lt_zero _)
    | succ fz ih6 =>
      intro x y hfz hx9 hy9 hg ls hl
      refine lv_lload hx hb (pc := 6) dX10_common_6 (lv_at hl 1 rfl) ?_
      refine lv_lconst (v := lN 0) hx hb (pc := 8) dX10_common_8 (by decide) ?_
      refine nv_lcmp_eq (a := y) (b := 0) (tgt := 31) hx hb (pc := 9) dX10_common_9 dX10_common_10 (by decide) (by omega) (by omega) (fun c9 => ?_) (fun c9 => ?_)
      · refine lv_lload hx hb (pc := 31) dX10_common_31 (lv_at hl 0 rfl) ?_
        have hy0 : y = 0 := by omega
        exact hret.2.1 33 _ (lN x) dX10_common_33 (by rw [← hg, hy0, Nat.gcd_zero_right]) rfl
      · refine lv_lload hx hb (pc := 13) dX10_common_13 (lv_at hl 0 rfl) ?_
        refine lv_lload hx hb (pc := 15) dX10_common_15 (lv_at hl 1 rfl) ?_
        refine nv_lrem (a := x) (b := y) hx hb (pc := 17) dX10_common_17 (by omega) (by omega) (by omega) ?_
        refine lv_lstore (lv' := [(8, .long (lN (x % y))), (4, .long (lN (x))), (6, .long (lN (y)))]) hx hb (pc := 18) dX10_common_18 hl (by decide) rfl (fun ls hl => ?_)
        refine lv_lload hx hb (pc := 20) dX10_common_20 (lv_at hl 2 rfl) ?_
        refine lv_lstore (lv' := [(4, .long (lN (y))), (8, .long (lN (x % y))), (6, .long (lN (y)))]) hx hb (pc := 22) dX10_common_22 hl (by decide) rfl (fun ls hl => ?_)
        refine lv_lload hx hb (pc := 24) dX10_common_24 (lv_at hl 1 rfl) ?_
        refine lv_lstore (lv' := [(6, .long (lN (x % y))), (4, .long (lN (y))), (8, .long (lN (x % y)))]) hx hb (pc := 26) dX10_common_26 hl (by decide) rfl (fun ls hl => ?_)
        refine lv_goto (tgt := 6) hx hb (pc := 28) dX10_common_28 (by decide) ?_
        have hm9 := Nat.mod_lt x (show 0 < y by omega)
        exact ih6 y (x % y) (by omega) (hy9) (by omega) (by rw [← hg, Nat.gcd_comm x y, Nat.gcd_rec y x, Nat.gcd_comm]) ls (lv_sub hl [1, 0] rfl)
  exact L6 (bb + 1) aa bb (by omega) (haa) (hbb) (rfl) ls (lv_sub hl [1, 0] rfl)

abbrev rmX10_loops : Room := { frames := 3, cells := 0, slots := 0, locals := 73 }
theorem inX10_loops_10 : ∀ w ∈ wsX100, w ∈ wsX10_loops := fun _ h => List.mem_cons_of_mem _ (List.mem_append_right _ h)
set_option maxHeartbeats 4000000 in
set_option maxRecDepth 100000 in
theorem c_X10_loops (l : Launch) (K : rr_K) (A : Nat → Prop) (om : Nat) (ad : Nat → Nat) (ns wl nf wd mt : Nat) (kF nF yF WD FL FW TD RW pl nw xt vF wF qF bY gF : Nat → Nat) (nm xm : Nat → Int64) (fR oF hF dF : Nat → Int32) (x y : Int32) (hS9 : SOK ns kF nF yF) (hD : va_D A (XM K om ad ns wl nf wd mt kF nF yF WD FL FW TD RW pl nw xt vF wF qF bY gF nm xm fR oF hF dF)) : MetR l K yX10_loops wsX10_loops rmX10_loops [.ref om, .int x, .int y] (fun H => va_P K.1 vwCl (XM K om ad ns wl nf wd mt kF nF yF WD FL FW TD RW pl nw xt vF wF qF bY gF nm xm fR oF hF dF) H) A (fun v H => v = .long (looA ns kF nF yF x y) ∧ ∃ vF' wF', va_P K.1 vwCl (XM K om ad ns wl nf wd mt kF nF yF WD FL FW TD RW pl nw xt vF' wF' qF bY gF nm xm fR oF hF dF) H) 0 0 := by
  refine metR_of (cc := cX10_loops) (maxL := 8) (ret := (some .long)) (rt := .long) (by decide) rfl rfl rfl rfl (Nat.le_of_ble_eq_true rfl) ?_
  intro p e s m args below meth c Q ls hEnt hKK hX hret hl
  obtain ⟨hx, hb, hml, hown, hts⟩ := hEnt
  have hP : va_P K.1 vwCl (XM K om ad ns wl nf wd mt kF nF yF WD FL FW TD RW pl nw xt vF wF qF bY gF nm xm fR oF hF dF) s.heap := hX
  have hl : lv_has ls 8 [(0, .ref om), (1, .int x), (2, .int y)] := hl
  have hS : va_S A s.heap s.heap [] := va_S.rf
  refine lv_aload_n hx hb (pc := 0) dX10_loops_0 rfl (lv_at hl 0 rfl) ?_
  refine lv_iload_n hx hb (pc := 1) dX10_loops_1 rfl (lv_at hl 1 rfl) ?_
  refine rr_callP (rv := .int (bI (isS ns x))) (pc := 2) (va_runV (As := [.int x]) (rest := []) ⟨hx, hb, hml, hown, hts⟩ (c_X10_isSet l K om ad ns wl nf wd mt kF nF yF WD FL FW TD RW pl nw xt vF wF qF bY gF nm xm fR oF hF dF x) (cwV 1 hts gX10_loops_X10_isSet rfl rfl rfl (by decide +kernel) ⟨Nat.le_of_ble_eq_true rfl, Nat.le_of_ble_eq_true rfl⟩) (rr_preV hKK (hP) (va_recv hKK.1 hP (ci := 10) (q0 := 0) rfl rfl)) rfl rfl hl.1 rfl (lv_room (Nat.le_of_ble_eq_true rfl)) dX10_loops_2 ⟨Nat.le_refl _, Nat.le_refl _⟩) ?_
  refine nv_if_eq_b (a := (isS ns x)) (tgt := 18) hx hb (pc := 5) dX10_loops_5 (by decide) (fun c5 => ?_) (fun c5 => ?_)
  · refine lv_ldc2 (v := -2) hx hb (pc := 18) hown (hts _ (List.mem_of_getElem? (i := 1) (by decide +kernel))) dX10_loops_18 ?_
    have hc : (isS ns x && rrin y (nI 1) (nI 10)) = false := by first | (rw [c5, c15]; rfl) | (rw [c5]; rfl)
    exact hret.2.1 _ _ 0 0 21 _ (-2) dX10_loops_21 (by omega) (by omega) hS (⟨by unfold looA; rw [if_neg (by rw [hc]; decide)], _, _, hP⟩) rfl
  · refine lv_iload_n hx hb (pc := 8) dX10_loops_8 rfl (lv_at hl 2 rfl) ?_
    refine lv_iconst (v := nI 1) hx hb (pc := 9) dX10_loops_9 (by decide) ?_
    refine lv_bipush (v := nI 10) hx hb (pc := 10) dX10_loops_10 (by decide) ?_
    refine rr_callP (rv := .int (bI (rrin y (nI 1) (nI 10)))) (pc := 12) (va_runS (As := [.int y, .int (nI 1), .int (nI 10)]) (rest := []) ⟨hx, hb, hml, hown, hts⟩ (c_X10_in l K y (nI 1) (nI 10)) (cwS 3 hts gX10_loops_X10_in rfl rfl rfl (by decide +kernel) ⟨Nat.le_of_ble_eq_true rfl, Nat.le_of_ble_eq_true rfl⟩) (rr_preS hKK (trivial)) rfl rfl hl.1 rfl (lv_room (Nat.le_of_ble_eq_true rfl)) dX10_loops_12 ⟨Nat.le_refl _, Nat.le_refl _⟩) ?_
    refine nv_if_ne_b (a := (rrin y (nI 1) (nI 10))) (tgt := 22) hx hb (pc := 15) dX10_loops_15 (by decide) (fun c15 => ?_) (fun c15 => ?_)
    · have hns := hS9.1
      obtain ⟨j, hj6, rfl⟩ := isS_of (by omega) c5
      obtain ⟨s1j, s2j, s3j, s4j, s5j⟩ := hS9.2 j hj6
      have ecj : cN (nI j) = j := cN_nI (by omega)
      obtain ⟨b, hb1, hb2, rfl⟩ := rrin_Nat (by decide) (by decide) c15
      have ecb : cN (nI b) = b := cN_nI (by omega)
      have hlv := liveS_lt16 (k := kF j) (E := Es yF j) s4j
      refine lv_aload_n hx hb (pc := 22) dX10_loops_22 rfl (lv_at hl 0 rfl) ?_
      refine lv_iload_n hx hb (pc := 23) dX10_loops_23 rfl (lv_at hl 1 rfl) ?_
      refine rr_callP (rv := .int (nI (liveS (kF j) (nF j) (Es yF j)))) (pc := 24) (va_runV (As := [.int (nI j)]) (rest := []) ⟨hx, hb, hml, hown, hts⟩ (c_X10_liveOf l K om ad ns wl nf wd mt kF nF yF WD FL FW TD RW pl nw xt vF wF qF bY gF nm xm fR oF hF dF j (by omega) s2j s4j s5j) (cwV 1 hts gX10_loops_X10_liveOf rfl rfl rfl (by decide +kernel) ⟨Nat.le_of_ble_eq_true rfl, Nat.le_of_ble_eq_true rfl⟩) (rr_preV hKK (hP) (va_recv hKK.1 hP (ci := 10) (q0 := 0) rfl rfl)) rfl rfl hl.1 rfl (lv_room (Nat.le_of_ble_eq_true rfl)) dX10_loops_24 ⟨Nat.le_refl _, Nat.le_refl _⟩) ?_
      refine lv_istore_n (lv' := [(3, .int (nI (liveS (kF j) (nF j) (Es yF j)))), (0, .ref om), (1, .int (nI j)), (2, .int (nI b))]) hx hb (pc := 27) dX10_loops_27 rfl hl (by decide) rfl (fun ls hl => ?_)
      refine lv_lconst (v := lN 0) hx hb (pc := 28) dX10_loops_28 (by decide) ?_
      refine lv_lstore (lv' := [(4, .long (lN (0))), (3, .int (nI (liveS (kF j) (nF j) (Es yF j)))), (0, .ref om), (1, .int (nI j)), (2, .int (nI b))]) hx hb (pc := 29) dX10_loops_29 hl (by decide) rfl (fun ls hl => ?_)
      refine lv_iconst (v := nI 0) hx hb (pc := 31) dX10_loops_31 (by decide) ?_
      refine lv_istore (lv' := [(6, .int (nI 0)), (4, .long (lN (0))), (3, .int (nI (liveS (kF j) (nF j) (Es yF j)))), (0, .ref om), (1, .int (nI j)), (2, .int (nI b))]) hx hb (pc := 32) dX10_loops_32 hl (by decide) rfl (fun ls hl => ?_)
      have L34 : ∀ (fz : Nat) (q : Nat) (vF1 : Nat → Nat) (wF1 : Nat → Nat) (H : Heap) (locs : List Loc) (hP : va_P K.1 vwCl (XM K om ad ns wl nf wd mt kF nF yF WD FL FW TD RW pl nw xt vF1 wF1 qF bY gF nm xm fR oF hF dF) H) (hD : va_D A (XM K om ad ns wl nf wd mt kF nF yF WD FL FW TD RW pl nw xt vF1 wF1 qF bY gF nm xm fR oF hF dF)) (hS : va_S A s.heap H locs) (hfz : nF j - q < fz) (hq : q ≤ nF j) (ls : Array Slot) (hl : lv_has ls 8 [(0, .ref om), (1, .int (nI j)), (2, .int (nI b)), (3, .int (nI (liveS (kF j) (nF j) (Es yF j)))), (4, .long (lN (sN q (fun q => pwS (nF j) (aMy (liveS (kF j) (nF j) (Es yF j)) (Es yF j) (kF j)) (b - 1) q q)))), (6, .int (nI q))]), W p l e rmX10_loops s m args below meth c H locs 0 0 Q (F0 m 34 ls []) := by
        intro fz; induction fz with
        | zero => intro q vF1 wF1 H locs hP hD hS hfz hq ls hl; exact absurd hfz (Nat.not_lt_zero _)
        | succ fz ih34 =>
          intro q vF1 wF1 H locs hP hD hS hfz hq ls hl
          refine lv_iload hx hb (pc := 34) dX10_loops_34 (lv_at hl 5 rfl) ?_
          refine lv_aload_n hx hb (pc := 36) dX10_loops_36 rfl (lv_at hl 0 rfl) ?_
          refine va_get (v := .ref (ad 2)) hx hb hts (inX10_loops_10) hown hKK.1 hP 0 rfl rfl 2 (by decide) (hts _ (List.mem_of_getElem? (i := 2) (by decide +kernel))) (fun _ h9 => h9) rfl (pc := 37) dX10_loops_37 ?_
          refine lv_iload_n hx hb (pc := 40) dX10_loops_40 rfl (lv_at hl 1 rfl) ?_
          refine nv_iald (v := nI (nF j)) (i := j) hx hb hKK hP 2 rfl (by omega) (by decide) (rfl) (pc := 41) dX10_loops_41 ?_
          refine nv_icmp_ge (a := q) (b := (nF j)) (tgt := 142) hx hb (pc := 42) dX10_loops_42 (by decide) (by omega) (by omega) (fun c42 => ?_) (fun c42 => ?_)
          · refine lv_lload hx hb (pc := 142) dX10_loops_142 (lv_at hl 4 rfl) ?_
            have e9 : q = nF j := by omega
            exact hret.2.1 _ _ 0 0 144 _ (lN (sN q (fun q => pwS (nF j) (aMy (liveS (kF j) (nF j) (Es yF j)) (Es yF j) (kF j)) (b - 1) q q))) dX10_loops_144 (by omega) (by omega) hS (⟨by unfold looA; rw [if_pos (by rw [c5, c15]; rfl), ecj, ecb, e9]; rfl, _, _, hP⟩) rfl
          · refine lv_iconst (v := nI 0) hx hb (pc := 45) dX10_loops_45 (by decide) ?_
            refine lv_istore (lv' := [(7, .int (nI 0)), (0, .ref om), (1, .int (nI j)), (2, .int (nI b)), (3, .int (nI (liveS (kF j) (nF j) (Es yF j)))), (4, .long (lN (sN q (fun q => pwS (nF j) (aMy (liveS (kF j) (nF j) (Es yF j)) (Es yF j) (kF j)) (b - 1) q q)))), (6, .int (nI q))]) hx hb (pc := 46) dX10_loops_46 hl (by decide) rfl (fun ls hl => ?_)
            have L48 : ∀ (fz : Nat) (r : Nat) (vF2 : Nat → Nat) (H : Heap) (locs : List Loc) (hP : va_P K.1 vwCl (XM K om ad ns wl nf wd mt kF nF yF WD FL FW TD RW pl nw xt vF2 wF1 qF bY gF nm xm fR oF hF dF) H) (hD : va_D A (XM K om ad ns wl nf wd mt kF nF yF WD FL FW TD RW pl nw xt vF2 wF1 qF bY gF nm xm fR oF hF dF)) (hS : va_S A s.heap H locs) (hfz : nF j - r < fz) (hr : r ≤ nF j) (hv2 : ∀ i, i < r → vF2 i = if i = q then 1 else 0) (ls : Array Slot) (hl : lv_has ls 8 [(0, .ref om), (1, .int (nI j)), (2, .int (nI b)), (3, .int (nI (liveS (kF j) (nF j) (Es yF j)))), (4, .long (lN (sN q (fun q => pwS (nF j) (aMy (liveS (kF j) (nF j) (Es yF j)) (Es yF j) (kF j)) (b - 1) q q)))), (6, .int (nI q)), (7, .int (nI r))]), W p l e rmX10_loops s m args below meth c H locs 0 0 Q (F0 m 48 ls []) := by
              intro fz; induction fz with
              | zero => intro r vF2 H locs hP hD hS hfz hr hv2 ls hl; exact absurd hfz (Nat.not_lt_zero _)
              | succ fz ih48 =>
                intro r vF2 H locs hP hD hS hfz hr hv2 ls hl
                refine lv_iload hx hb (pc := 48) dX10_loops_48 (lv_at hl 6 rfl) ?_
                refine lv_aload_n hx hb (pc := 50) dX10_loops_50 rfl (lv_at hl 0 rfl) ?_
                refine va_get (v := .ref (ad 2)) hx hb hts (inX10_loops_10) hown hKK.1 hP 0 rfl rfl 2 (by decide) (hts _ (List.mem_of_getElem? (i := 2) (by decide +kernel))) (fun _ h9 => h9) rfl (pc := 51) dX10_loops_51 ?_
                refine lv_iload_n hx hb (pc := 54) dX10_loops_54 rfl (lv_at hl 1 rfl) ?_
                refine nv_iald (v := nI (nF j)) (i := j) hx hb hKK hP 2 rfl (by omega) (by decide) (rfl) (pc := 55) dX10_loops_55 ?_
                refine nv_icmp_ge (a := r) (b := (nF j)) (tgt := 84) hx hb (pc := 56) dX10_loops_56 (by decide) (by omega) (by omega) (fun c56 => ?_) (fun c56 => ?_)
                · refine lv_iconst (v := nI 0) hx hb (pc := 84) dX10_loops_84 (by decide) ?_
                  refine lv_istore (lv' := [(7, .int (nI 0)), (0, .ref om), (1, .int (nI j)), (2, .int (nI b)), (3, .int (nI (liveS (kF j) (nF j) (Es yF j)))), (4, .long (lN (sN q (fun q => pwS (nF j) (aMy (liveS (kF j) (nF j) (Es yF j)) (Es yF j) (kF j)) (b - 1) q q)))), (6, .int (nI q))]) hx hb (pc := 85) dX10_loops_85 hl (by decide) rfl (fun ls hl => ?_)
                  have L87 : ∀ (fz : Nat) (t : Nat) (vF3 : Nat → Nat) (wF3 : Nat → Nat) (H : Heap) (locs : List Loc) (hP : va_P K.1 vwCl (XM K om ad ns wl nf wd mt kF nF yF WD FL FW TD RW pl nw xt vF3 wF3 qF bY gF nm xm fR oF hF dF) H) (hD : va_D A (XM K om ad ns wl nf wd mt kF nF yF WD FL FW TD RW pl nw xt vF3 wF3 qF bY gF nm xm fR oF hF dF)) (hS : va_S A s.heap H locs) (hfz : b - t < fz) (ht : t ≤ b) (hv3 : ∀ i, i < nF j → vF3 i = xV (nF j) (aMy (liveS (kF j) (nF j) (Es yF j)) (Es yF j) (kF j)) q t i) (ls : Array Slot) (hl : lv_has ls 8 [(0, .ref om), (1, .int (nI j)), (2, .int (nI b)), (3, .int (nI (liveS (kF j) (nF j) (Es yF j)))), (4, .long (lN (sN q (fun q => pwS (nF j) (aMy (liveS (kF j) (nF j) (Es yF j)) (Es yF j) (kF j)) (b - 1) q q)))), (6, .int (nI q)), (7, .int (nI t))]), W p l e rmX10_loops s m args below meth c H locs 0 0 Q (F0 m 87 ls []) := by
                    intro fz; induction fz with
                    | zero => intro t vF3 wF3 H locs hP hD hS hfz ht hv3 ls hl; exact absurd hfz (Nat.not_lt_zero _)
                    | succ fz ih87 =>
                      intro t vF3 wF3 H locs hP hD hS hfz ht hv3 ls hl
                      refine lv_iload hx hb (pc := 87) dX10_loops_87 (lv_at hl 6 rfl) ?_
                      refine lv_iload_n hx hb (pc := 89) dX10_loops_89 rfl (lv_at hl 2 rfl) ?_
                      refine nv_icmp_ge (a := t) (b := b) (tgt := 110) hx hb (pc := 90) dX10_loops_90 (by decide) (by omega) (by omega) (fun c90 => ?_) (fun c90 => ?_)
                      · have hqn : q < nF j := by omega
                        have e9 : t = b := by omega
                        rw [e9] at hv3
                        have hq9 := loo_step hqn hb1 (hv3 q hqn)
                        refine lv_lload hx hb (pc := 110) dX10_loops_110 (lv_at hl 4 rfl) ?_
                        refine lv_iload_n hx hb (pc := 112) dX10_loops_112 rfl (lv_at hl 3 rfl) ?_
                        refine lv_iload hx hb (pc := 113) dX10_loops_113 (lv_at hl 5 rfl) ?_
                        refine nv_ishr (a := (liveS (kF j) (nF j) (Es yF j))) (b := q) hx hb (pc := 115) dX10_loops_115 (by omega) (by omega) ?_
                        refine lv_iconst (v := nI 1) hx hb (pc := 116) dX10_loops_116 (by decide) ?_
                        refine nv_bit (a := (liveS (kF j) (nF j) (Es yF j))) (q := q) hx hb (pc := 117) dX10_loops_117 ?_
                        refine lv_iconst (v := nI 1) hx hb (pc := 118) dX10_loops_118 (by decide) ?_
                        refine nv_icmp_ne_b1 (tgt := 132) hx hb (pc := 119) dX10_loops_119 (by decide) (fun c119 => ?_) (fun c119 => ?_)
                        · refine lv_lconst (v := lN 0) hx hb (pc := 132) dX10_loops_132 (by decide) ?_
                          refine rr_top (v := .long (lN (pwS (nF j) (aMy (liveS (kF j) (nF j) (Es yF j)) (Es yF j) (kF j)) (b - 1) q q))) (by rw [← hq9]; first | (rw [if_pos c119]; done) | (rw [if_neg (by rw [c119]; decide)]; done)) ?_
                          refine nv_ladd (a := (sN q (fun q => pwS (nF j) (aMy (liveS (kF j) (nF j) (Es yF j)) (Es yF j) (kF j)) (b - 1) q q))) (b := (pwS (nF j) (aMy (liveS (kF j) (nF j) (Es yF j)) (Es yF j) (kF j)) (b - 1) q q)) hx hb (pc := 133) dX10_loops_133 ?_
                          refine lv_lstore (lv' := [(4, .long (lN ((sN q (fun q => pwS (nF j) (aMy (liveS (kF j) (nF j) (Es yF j)) (Es yF j) (kF j)) (b - 1) q q)) + (pwS (nF j) (aMy (liveS (kF j) (nF j) (Es yF j)) (Es yF j) (kF j)) (b - 1) q q)))), (0, .ref om), (1, .int (nI j)), (2, .int (nI b)), (3, .int (nI (liveS (kF j) (nF j) (Es yF j)))), (6, .int (nI q)), (7, .int (nI t))]) hx hb (pc := 134) dX10_loops_134 hl (by decide) rfl (fun ls hl => ?_)
                          refine lv_iinc (v := nI (q + 1)) (lv' := [(6, .int (nI (q + 1))), (4, .long (lN ((sN q (fun q => pwS (nF j) (aMy (liveS (kF j) (nF j) (Es yF j)) (Es yF j) (kF j)) (b - 1) q q)) + (pwS (nF j) (aMy (liveS (kF j) (nF j) (Es yF j)) (Es yF j) (kF j)) (b - 1) q q)))), (0, .ref om), (1, .int (nI j)), (2, .int (nI b)), (3, .int (nI (liveS (kF j) (nF j) (Es yF j)))), (7, .int (nI t))]) hx hb (pc := 136) dX10_loops_136 hl (k := 5) rfl (rr_inc _) (by decide) rfl (fun ls hl => ?_)
                          refine lv_goto (tgt := 34) hx hb (pc := 139) dX10_loops_139 (by decide) ?_
                          have hl : lv_has ls 8 [(6, .int (nI (q + 1))), (4, .long (lN (sN (q + 1) (fun q => pwS (nF j) (aMy (liveS (kF j) (nF j) (Es yF j)) (Es yF j) (kF j)) (b - 1) q q)))), (0, .ref om), (1, .int (nI j)), (2, .int (nI b)), (3, .int (nI (liveS (kF j) (nF j) (Es yF j)))), (7, .int (nI t))] := by rw [show sN (q + 1) (fun q => pwS (nF j) (aMy (liveS (kF j) (nF j) (Es yF j)) (Es yF j) (kF j)) (b - 1) q q) = (sN q (fun q => pwS (nF j) (aMy (liveS (kF j) (nF j) (Es yF j)) (Es yF j) (kF j)) (b - 1) q q)) + (pwS (nF j) (aMy (liveS (kF j) (nF j) (Es yF j)) (Es yF j) (kF j)) (b - 1) q q) from rfl]; exact hl
                          exact ih34 (q + 1) vF3 wF3 _ _ hP hD hS (by omega) (by omega) ls (lv_sub hl [2, 3, 4, 5, 1, 0] rfl)
                        · refine lv_aload_n hx hb (pc := 122) dX10_loops_122 rfl (lv_at hl 0 rfl) ?_
                          refine va_get (v := .ref (ad 17)) hx hb hts (inX10_loops_10) hown hKK.1 hP 0 rfl rfl 17 (by decide) (hts _ (List.mem_of_getElem? (i := 3) (by decide +kernel))) (fun _ h9 => h9) rfl (pc := 123) dX10_loops_123 ?_
                          refine lv_iload hx hb (pc := 126) dX10_loops_126 (lv_at hl 5 rfl) ?_
                          refine nv_lald (v := lN (vF3 q)) (i := q) hx hb hKK hP 14 rfl (by omega) (by decide) (rfl) (pc := 128) dX10_loops_128 ?_
                          refine lv_goto (tgt := 133) hx hb (pc := 129) dX10_loops_129 (by decide) ?_
                          refine rr_top (v := .long (lN (pwS (nF j) (aMy (liveS (kF j) (nF j) (Es yF j)) (Es yF j) (kF j)) (b - 1) q q))) (by rw [← hq9]; first | (rw [if_pos c119]; done) | (rw [if_neg (by rw [c119]; decide)]; done)) ?_
                          refine nv_ladd (a := (sN q (fun q => pwS (nF j) (aMy (liveS (kF j) (nF j) (Es yF j)) (Es yF j) (kF j)) (b - 1) q q))) (b := (pwS (nF j) (aMy (liveS (kF j) (nF j) (Es yF j)) (Es yF j) (kF j)) (b - 1) q q)) hx hb (pc := 133) dX10_loops_133 ?_
                          refine lv_lstore (lv' := [(4, .long (lN ((sN q (fun q => pwS (nF j) (aMy (liveS (kF j) (nF j) (Es yF j)) (Es yF j) (kF j)) (b - 1) q q)) + (pwS (nF j) (aMy (liveS (kF j) (nF j) (Es yF j)) (Es yF j) (kF j)) (b - 1) q q)))), (0, .ref om), (1, .int (nI j)), (2, .int (nI b)), (3, .int (nI (liveS (kF j) (nF j) (Es yF j)))), (6, .int (nI q)), (7, .int (nI t))]) hx hb (pc := 134) dX10_loops_134 hl (by decide) rfl (fun ls hl => ?_)
                          refine lv_iinc (v := nI (q + 1)) (lv' := [(6, .int (nI (q + 1))), (4, .long (lN ((sN q (fun q => pwS (nF j) (aMy (liveS (kF j) (nF j) (Es yF j)) (Es yF j) (kF j)) (b - 1) q q)) + (pwS (nF j) (aMy (liveS (kF j) (nF j) (Es yF j)) (Es yF j) (kF j)) (b - 1) q q)))), (0, .ref om), (1, .int (nI j)), (2, .int (nI b)), (3, .int (nI (liveS (kF j) (nF j) (Es yF j)))), (7, .int (nI t))]) hx hb (pc := 136) dX10_loops_136 hl (k := 5) rfl (rr_inc _) (by decide) rfl (fun ls hl => ?_)
                          refine lv_goto (tgt := 34) hx hb (pc := 139) dX10_loops_139 (by decide) ?_
                          have hl : lv_has ls 8 [(6, .int (nI (q + 1))), (4, .long (lN (sN (q + 1) (fun q => pwS (nF j) (aMy (liveS (kF j) (nF j) (Es yF j)) (Es yF j) (kF j)) (b - 1) q q)))), (0, .ref om), (1, .int (nI j)), (2, .int (nI b)), (3, .int (nI (liveS (kF j) (nF j) (Es yF j)))), (7, .int (nI t))] := by rw [show sN (q + 1) (fun q => pwS (nF j) (aMy (liveS (kF j) (nF j) (Es yF j)) (Es yF j) (kF j)) (b - 1) q q) = (sN q (fun q => pwS (nF j) (aMy (liveS (kF j) (nF j) (Es yF j)) (Es yF j) (kF j)) (b - 1) q q)) + (pwS (nF j) (aMy (liveS (kF j) (nF j) (Es yF j)) (Es yF j) (kF j)) (b - 1) q q) from rfl]; exact hl
                          exact ih34 (q + 1) vF3 wF3 _ _ hP hD hS (by omega) (by omega) ls (lv_sub hl [2, 3, 4, 5, 1, 0] rfl)
                      · refine lv_aload_n hx hb (pc := 93) dX10_loops_93 rfl (lv_at hl 0 rfl) ?_
                        refine lv_iload_n hx hb (pc := 94) dX10_loops_94 rfl (lv_at hl 1 rfl) ?_
                        refine lv_iload_n hx hb (pc := 95) dX10_loops_95 rfl (lv_at hl 3 rfl) ?_
                        refine rr_callV (pc := 96) (va_runV (As := [.int (nI j), .int (nI (liveS (kF j) (nF j) (Es yF j)))]) (rest := []) ⟨hx, hb, hml, hown, hts⟩ (c_X10_sumUp l K A om ad ns wl nf wd mt kF nF yF WD FL FW TD RW pl nw xt vF3 wF3 qF bY gF nm xm fR oF hF dF j (liveS (kF j) (nF j) (Es yF j)) (by omega) s2j s4j s5j hlv hD) (cwV 2 hts gX10_loops_X10_sumUp rfl rfl rfl (by decide +kernel) ⟨Nat.le_of_ble_eq_true rfl, Nat.le_of_ble_eq_true rfl⟩) (rr_preV hKK (hP) (va_recv hKK.1 hP (ci := 10) (q0 := 0) rfl rfl)) rfl rfl hl.1 rfl (lv_room (Nat.le_of_ble_eq_true rfl)) dX10_loops_96 ⟨by omega, by omega⟩) hS (fun _ h => h) (fun H locs hY hsz hfr hS => ?_)
                        obtain ⟨wF', hw', hP⟩ := hY
                        have hD : va_D A (XM K om ad ns wl nf wd mt kF nF yF WD FL FW TD RW pl nw xt vF3 wF' qF bY gF nm xm fR oF hF dF) := rr_D hD rfl
                        have hP : va_P K.1 vwCl (XM K om ad ns wl nf wd mt kF nF yF WD FL FW TD RW pl nw xt vF3 wF' qF bY gF nm xm fR oF hF dF) H := hP
                        refine lv_aload_n hx hb (pc := 99) dX10_loops_99 rfl (lv_at hl 0 rfl) ?_
                        refine lv_iload_n hx hb (pc := 100) dX10_loops_100 rfl (lv_at hl 1 rfl) ?_
                        refine rr_callV (pc := 101) (va_runV (As := [.int (nI j)]) (rest := []) ⟨hx, hb, hml, hown, hts⟩ (c_X10_goOn l K A om ad ns wl nf wd mt kF nF yF WD FL FW TD RW pl nw xt vF3 wF' qF bY gF nm xm fR oF hF dF j (by omega) s4j hD) (cwV 1 hts gX10_loops_X10_goOn rfl rfl rfl (by decide +kernel) ⟨Nat.le_of_ble_eq_true rfl, Nat.le_of_ble_eq_true rfl⟩) (rr_preV hKK (hP) (va_recv hKK.1 hP (ci := 10) (q0 := 0) rfl rfl)) rfl rfl hl.1 rfl (lv_room (Nat.le_of_ble_eq_true rfl)) dX10_loops_101 ⟨by omega, by omega⟩) hS (fun _ h => h) (fun H locs hY hsz hfr hS => ?_)
                        have hP := hY
                        have hD : va_D A (XM K om ad ns wl nf wd mt kF nF yF WD FL FW TD RW pl nw xt (putZ vF3 wF' (nF j)) wF' qF bY gF nm xm fR oF hF dF) := rr_D hD rfl
                        have hP : va_P K.1 vwCl (XM K om ad ns wl nf wd mt kF nF yF WD FL FW TD RW pl nw xt (putZ vF3 wF' (nF j)) wF' qF bY gF nm xm fR oF hF dF) H := hP
                        refine lv_iinc (v := nI (t + 1)) (lv' := [(7, .int (nI (t + 1))), (0, .ref om), (1, .int (nI j)), (2, .int (nI b)), (3, .int (nI (liveS (kF j) (nF j) (Es yF j)))), (4, .long (lN (sN q (fun q => pwS (nF j) (aMy (liveS (kF j) (nF j) (Es yF j)) (Es yF j) (kF j)) (b - 1) q q)))), (6, .int (nI q))]) hx hb (pc := 104) dX10_loops_104 hl (k := 6) rfl (rr_inc _) (by decide) rfl (fun ls hl => ?_)
                        refine lv_goto (tgt := 87) hx hb (pc := 107) dX10_loops_107 (by decide) ?_
                        exact ih87 (t + 1) (putZ vF3 wF' (nF j)) wF' _ _ hP hD hS (by omega) (by omega) (fun i hi => by rw [putZ_in hi, hw' i hi]; exact suF_xV hv3) ls (lv_sub hl [1, 2, 3, 4, 5, 6, 0] rfl)
                  exact L87 (11) 0 vF2 wF1 _ _ hP hD hS (by omega) (Nat.zero_le _) (fun i hi => hv2 i (by omega)) ls (lv_sub hl [1, 2, 3, 4, 5, 6, 0] rfl)
                · refine lv_aload_n hx hb (pc := 59) dX10_loops_59 rfl (lv_at hl 0 rfl) ?_
                  refine va_get (v := .ref (ad 17)) hx hb hts (inX10_loops_10) hown hKK.1 hP 0 rfl rfl 17 (by decide) (hts _ (List.mem_of_getElem? (i := 3) (by decide +kernel))) (fun _ h9 => h9) rfl (pc := 60) dX10_loops_60 ?_
                  refine lv_iload hx hb (pc := 63) dX10_loops_63 (lv_at hl 6 rfl) ?_
                  refine lv_iload hx hb (pc := 65) dX10_loops_65 (lv_at hl 6 rfl) ?_
                  refine lv_iload hx hb (pc := 67) dX10_loops_67 (lv_at hl 5 rfl) ?_
                  refine nv_icmp_ne (a := r) (b := q) (tgt := 76) hx hb (pc := 69) dX10_loops_69 (by decide) (by omega) (by omega) (fun c69 => ?_) (fun c69 => ?_)
                  · refine lv_lconst (v := lN 0) hx hb (pc := 76) dX10_loops_76 (by decide) ?_
                    refine nv_lastN (f := vF2) (x := 0) (ws' := XM K om ad ns wl nf wd mt kF nF yF WD FL FW TD RW pl nw xt (va_up vF2 r 0) wF1 qF bY gF nm xm fR oF hF dF) (i := r) hx hb hKK hP hD hS 14 rfl (by omega) (by decide) (rfl) (pc := 77) dX10_loops_77 (fun H locs hP hD hS => ?_)
                    refine lv_iinc (v := nI (r + 1)) (lv' := [(7, .int (nI (r + 1))), (0, .ref om), (1, .int (nI j)), (2, .int (nI b)), (3, .int (nI (liveS (kF j) (nF j) (Es yF j)))), (4, .long (lN (sN q (fun q => pwS (nF j) (aMy (liveS (kF j) (nF j) (Es yF j)) (Es yF j) (kF j)) (b - 1) q q)))), (6, .int (nI q))]) hx hb (pc := 78) dX10_loops_78 hl (k := 6) rfl (rr_inc _) (by decide) rfl (fun ls hl => ?_)
                    refine lv_goto (tgt := 48) hx hb (pc := 81) dX10_loops_81 (by decide) ?_
                    have hv3 : ∀ i, i < r + 1 → va_up vF2 r (if r = q then 1 else 0) i = if i = q then 1 else 0 := by
                      intro i hi
                      unfold va_up
                      split
                      · rename_i e; rw [e]; first | done | (rw [if_neg c69]; done) | (rw [if_pos c69]; done)
                      · exact hv2 i (by omega)
                    first | rw [if_pos c69] at hv3 | rw [if_neg c69] at hv3
                    exact ih48 (r + 1) (va_up vF2 r 0) _ _ hP hD hS (by omega) (by omega) (hv3) ls (lv_sub hl [1, 2, 3, 4, 5, 6, 0] rfl)
                  · refine lv_lconst (v := lN 1) hx hb (pc := 72) dX10_loops_72 (by decide) ?_
                    refine lv_goto (tgt := 77) hx hb (pc := 73) dX10_loops_73 (by decide) ?_
                    refine nv_lastN (f := vF2) (x := 1) (ws' := XM K om ad ns wl nf wd mt kF nF yF WD FL FW TD RW pl nw xt (va_up vF2 r 1) wF1 qF bY gF nm xm fR oF hF dF) (i := r) hx hb hKK hP hD hS 14 rfl (by omega) (by decide) (rfl) (pc := 77) dX10_loops_77 (fun H locs hP hD hS => ?_)
                    refine lv_iinc (v := nI (r + 1)) (lv' := [(7, .int (nI (r + 1))), (0, .ref om), (1, .int (nI j)), (2, .int (nI b)), (3, .int (nI (liveS (kF j) (nF j) (Es yF j)))), (4, .long (lN (sN q (fun q => pwS (nF j) (aMy (liveS (kF j) (nF j) (Es yF j)) (Es yF j) (kF j)) (b - 1) q q)))), (6, .int (nI q))]) hx hb (pc := 78) dX10_loops_78 hl (k := 6) rfl (rr_inc _) (by decide) rfl (fun ls hl => ?_)
                    refine lv_goto (tgt := 48) hx hb (pc := 81) dX10_loops_81 (by decide) ?_
                    have hv3 : ∀ i, i < r + 1 → va_up vF2 r (if r = q then 1 else 0) i = if i = q then 1 else 0 := by
                      intro i hi
                      unfold va_up
                      split
                      · rename_i e; rw [e]; first | done | (rw [if_neg c69]; done) | (rw [if_pos c69]; done)
                      · exact hv2 i (by omega)
                    first | rw [if_pos c69] at hv3 | rw [if_neg c69] at hv3
                    exact ih48 (r + 1) (va_up vF2 r 1) _ _ hP hD hS (by omega) (by omega) (hv3) ls (lv_sub hl [1, 2, 3, 4, 5, 6, 0] rfl)
            exact L48 (17) 0 vF1 _ _ hP hD hS (by omega) (Nat.zero_le _) (fun i hi => absurd hi (Nat.not_lt_zero _)) ls (lv_sub hl [1, 2, 3, 4, 5, 6, 0] rfl)
      have hl : lv_has ls 8 [(6, .int (nI 0)), (4, .long (lN (sN 0 (fun q => pwS (nF j) (aMy (liveS (kF j) (nF j) (Es yF j)) (Es yF j) (kF j)) (b - 1) q q)))), (3, .int (nI (liveS (kF j) (nF j) (Es yF j)))), (0, .ref om), (1, .int (nI j)), (2, .int (nI b))] := by rw [show sN 0 (fun q => pwS (nF j) (aMy (liveS (kF j) (nF j) (Es yF j)) (Es yF j) (kF j)) (b - 1) q q) = 0 from rfl]; exact hl
      exact L34 (17) 0 vF wF _ _ hP hD hS (by omega) (Nat.zero_le _) ls (lv_sub hl [3, 4, 5, 2, 1, 0] rfl)
    · refine lv_ldc2 (v := -2) hx hb (pc := 18) hown (hts _ (List.mem_of_getElem? (i := 1) (by decide +kernel))) dX10_loops_18 ?_
      have hc : (isS ns x && rrin y (nI 1) (nI 10)) = false := by first | (rw [c5, c15]; rfl) | (rw [c5]; rfl)
      exact hret.2.1 _ _ 0 0 21 _ (-2) dX10_loops_21 (by omega) (by omega) hS (⟨by unfold looA; rw [if_neg (by rw [hc]; decide)], _, _, hP⟩) rfl

