abbrev rmX10_forget : Room := { frames := 0, cells := 0, slots := 0, locals := 0 }
theorem inX10_forget_10 : ∀ w ∈ wsX100, w ∈ wsX10_forget := fun _ h => List.mem_cons_of_mem _ (List.mem_append_right _ h)
set_option maxHeartbeats 4000000 in
set_option maxRecDepth 100000 in
theorem c_X10_forget (l : Launch) (K : rr_K) (A : Nat → Prop) (om : Nat) (ad : Nat → Nat) (ns wl nf wd mt : Nat) (kF nF yF WD FL FW TD RW pl nw xt vF wF qF bY gF : Nat → Nat) (nm xm : Nat → Int64) (fR oF hF dF : Nat → Int32) (hD : va_D A (XM K om ad ns wl nf wd mt kF nF yF WD FL FW TD RW pl nw xt vF wF qF bY gF nm xm fR oF hF dF)) : MetV l K yX10_forget wsX10_forget rmX10_forget [.ref om] (fun H => va_P K.1 vwCl (XM K om ad ns wl nf wd mt kF nF yF WD FL FW TD RW pl nw xt vF wF qF bY gF nm xm fR oF hF dF) H) A (fun H => va_P K.1 vwCl (XM K om ad ns wl nf wd 0 kF nF yF WD FL FW TD RW pl nw xt vF wF qF bY gF nm xm fR oF (putZ hF (fun _ => -1) 32768) dF) H) 0 0 := by
  refine metV_of (cc := cX10_forget) (maxL := 2) (by decide) rfl rfl rfl (Nat.le_of_ble_eq_true rfl) ?_
  intro p e s m args below meth c Q ls hEnt hin hKK hX hret hl
  obtain ⟨hx, hb, hml, hown, hts⟩ := hEnt
  have hP : va_P K.1 vwCl (XM K om ad ns wl nf wd mt kF nF yF WD FL FW TD RW pl nw xt vF wF qF bY gF nm xm fR oF hF dF) s.heap := hX
  have hl : lv_has ls 2 [(0, .ref om)] := hl
  have hS : va_S A s.heap s.heap [] := va_S.rf
  refine lv_aload_n hx hb (pc := 0) dX10_forget_0 rfl (lv_at hl 0 rfl) ?_
  refine lv_iconst (v := nI 0) hx hb (pc := 1) dX10_forget_1 (by decide) ?_
  refine rr_put (v := .int (nI 0)) (ty := tyX10 24) (ws' := XM K om ad ns wl nf wd 0 kF nF yF WD FL FW TD RW pl nw xt vF wF qF bY gF nm xm fR oF hF dF) hx hb hts (inX10_forget_10) tyX10 tyX10_ok nmX10 hown hKK.1 hP hD hS 0 rfl rfl 24 (by decide) (hts _ (List.mem_of_getElem? (i := 1) (by decide +kernel))) (fun _ h9 => h9) rfl (tyX10_ok 24 (by decide)) rfl rfl (Nat.le_of_ble_eq_true rfl) rfl (pc := 2) dX10_forget_2 (fun H locs hP hD hS => ?_)
  refine lv_iconst (v := nI 0) hx hb (pc := 5) dX10_forget_5 (by decide) ?_
  refine lv_istore_n (lv' := [(1, .int (nI 0)), (0, .ref om)]) hx hb (pc := 6) dX10_forget_6 rfl hl (by decide) rfl (fun ls hl => ?_)
  have L7 : ∀ (fz : Nat) (i : Nat) (H : Heap) (locs : List Loc) (hP : va_P K.1 vwCl (XM K om ad ns wl nf wd 0 kF nF yF WD FL FW TD RW pl nw xt vF wF qF bY gF nm xm fR oF (putZ hF (fun _ => -1) i) dF) H) (hD : va_D A (XM K om ad ns wl nf wd 0 kF nF yF WD FL FW TD RW pl nw xt vF wF qF bY gF nm xm fR oF (putZ hF (fun _ => -1) i) dF)) (hS : va_S A s.heap H locs) (hfz : 32768 - i < fz) (hi : i ≤ 32768) (ls : Array Slot) (hl : lv_has ls 2 [(0, .ref om), (1, .int (nI i))]), W p l e rmX10_forget s m args below meth c H locs 0 0 Q (F0 m 7 ls []) := by
    intro fz; induction fz with
    | zero => intro i H locs hP hD hS hfz hi ls hl; exact absurd hfz (Nat.not_lt_zero _)
    | succ fz ih7 =>
      intro i H locs hP hD hS hfz hi ls hl
      refine lv_iload_n hx hb (pc := 7) dX10_forget_7 rfl (lv_at hl 1 rfl) ?_
      refine lv_ldc (v := nI 32768) hx hb (pc := 8) hown (hts _ (List.mem_of_getElem? (i := 2) (by decide +kernel))) dX10_forget_8 ?_
      refine nv_icmp_ge (a := i) (b := 32768) (tgt := 26) hx hb (pc := 10) dX10_forget_10 (by decide) (by omega) (by omega) (fun c10 => ?_) (fun c10 => ?_)
      · have e9 : i = 32768 := by omega
        exact hret _ _ 0 0 26 _ dX10_forget_26 (by omega) (by omega) hS (by rw [e9] at hP; exact hP)
      · refine lv_aload_n hx hb (pc := 13) dX10_forget_13 rfl (lv_at hl 0 rfl) ?_
        refine va_get (v := .ref (ad 23)) hx hb hts (inX10_forget_10) hown hKK.1 hP 0 rfl rfl 23 (by decide) (hts _ (List.mem_of_getElem? (i := 3) (by decide +kernel))) (fun _ h9 => h9) rfl (pc := 14) dX10_forget_14 ?_
        refine lv_iload_n hx hb (pc := 17) dX10_forget_17 rfl (lv_at hl 1 rfl) ?_
        refine lv_iconst (v := -1) hx hb (pc := 18) dX10_forget_18 (by decide) ?_
        refine nv_iastr (f := (putZ hF (fun _ => -1) i)) (x := (-1)) (ws' := XM K om ad ns wl nf wd 0 kF nF yF WD FL FW TD RW pl nw xt vF wF qF bY gF nm xm fR oF (va_up (putZ hF (fun _ => -1) i) i (-1)) dF) (i := i) hx hb hKK hP hD hS 20 rfl (by omega) (by decide) (rfl) (pc := 19) dX10_forget_19 (fun H locs hP hD hS => ?_)
        refine lv_iinc (v := nI (i + 1)) (lv' := [(1, .int (nI (i + 1))), (0, .ref om)]) hx hb (pc := 20) dX10_forget_20 hl (k := 1) rfl (rr_inc _) (by decide) rfl (fun ls hl => ?_)
        refine lv_goto (tgt := 7) hx hb (pc := 23) dX10_forget_23 (by decide) ?_
        rw [show va_up (putZ hF (fun _ => -1) i) i (-1) = putZ hF (fun _ => -1) (i + 1) from putZ_step hF (fun _ => -1) i] at hP hD
        exact ih7 (i + 1) _ _ hP hD hS (by omega) (by omega) ls (lv_sub hl [1, 0] rfl)
  rw [← putZ_0 hF (fun _ => -1)] at hP hD
  exact L7 (32769) 0 _ _ hP hD hS (by omega) (Nat.zero_le _) ls (lv_sub hl [1, 0] rfl)

abbrev rmX10_meets : Room := { frames := 0, cells := 0, slots := 0, locals := 0 }
theorem inX10_meets_10 : ∀ w ∈ wsX100, w ∈ wsX10_meets := fun _ h => List.mem_cons_of_mem _ (List.mem_append_right _ h)
set_option maxHeartbeats 4000000 in
set_option maxRecDepth 100000 in
theorem c_X10_meets (l : Launch) (K : rr_K) (A : Nat → Prop) (om : Nat) (ad : Nat → Nat) (ns wl nf wd mt : Nat) (kF nF yF WD FL FW TD RW pl nw xt vF wF qF bY gF : Nat → Nat) (nm xm : Nat → Int64) (fR oF hF dF : Nat → Int32) (key y9 : Nat) (b9 : Int32) (kn : List Nat) (hmt : mt = kn.length) (hlen : kn.length ≤ 20000) (hHC : HC kn oF hF) (hKQ : KQ kn qF) (hkb : ∀ x ∈ kn, x < 2 ^ 62) (hky : key < 2 ^ 62) (hD : va_D A (XM K om ad ns wl nf wd mt kF nF yF WD FL FW TD RW pl nw xt vF wF qF bY gF nm xm fR oF hF dF)) : MetR l K yX10_meets wsX10_meets rmX10_meets [.ref om, .long (lN (key)), .int b9, .int (nI y9)] (fun H => va_P K.1 vwCl (XM K om ad ns wl nf wd mt kF nF yF WD FL FW TD RW pl nw xt vF wF qF bY gF nm xm fR oF hF dF) H) A (fun v H => v = .int (bI (!(decide (key ∈ kn)))) ∧ ∃ oF' hF', HC (adK kn key) oF' hF' ∧ va_P K.1 vwCl (XM K om ad ns wl nf wd ((adK kn key).length) kF nF yF WD FL FW TD RW pl nw xt vF wF (if key ∈ kn then qF else va_up qF kn.length key) (if key ∈ kn then bY else va_up bY kn.length y9) gF nm xm (if key ∈ kn then fR else va_up fR kn.length b9) oF' hF' dF) H) 0 0 := by
  refine metR_of (cc := cX10_meets) (maxL := 7) (ret := (some .boolean)) (rt := .boolean) (by decide) rfl rfl rfl rfl (Nat.le_of_ble_eq_true rfl) ?_
  intro p e s m args below meth c Q ls hEnt hKK hX hret hl
  obtain ⟨hx, hb, hml, hown, hts⟩ := hEnt
  have hP : va_P K.1 vwCl (XM K om ad ns wl nf wd mt kF nF yF WD FL FW TD RW pl nw xt vF wF qF bY gF nm xm fR oF hF dF) s.heap := hX
  have hl : lv_has ls 7 [(0, .ref om), (1, .long (lN (key))), (3, .int b9), (4, .int (nI y9))] := hl
  have hS : va_S A s.heap s.heap [] := va_S.rf
  have hhk := hk_lt key
  have hkl := prv_le kn (hk key) kn.length
  refine lv_lload_n hx hb (pc := 0) dX10_meets_0 rfl (lv_at hl 1 rfl) ?_
  refine lv_ldc2 (v := -7046029254386353131) hx hb (pc := 1) hown (hts _ (List.mem_of_getElem? (i := 1) (by decide +kernel))) dX10_meets_1 ?_
  refine lv_lmul hx hb (pc := 4) dX10_meets_4 ?_
  refine lv_bipush (v := nI 49) hx hb (pc := 5) dX10_meets_5 (by decide) ?_
  refine lv_lushr (v := (((lN key) * (-7046029254386353131)).toUInt64 >>> ((nI 49).toInt64.toUInt64 &&& Int64.toUInt64 63)).toInt64) hx hb (pc := 7) dX10_meets_7 (rfl) ?_
  refine lv_ldc2 (v := lN 32767) hx hb (pc := 8) hown (hts _ (List.mem_of_getElem? (i := 2) (by decide +kernel))) dX10_meets_8 ?_
  refine lv_land hx hb (pc := 11) dX10_meets_11 ?_
  refine lv_l2i (v := nI (hk key)) hx hb (pc := 12) dX10_meets_12 (hk_eq key) ?_
  refine lv_istore (lv' := [(5, .int (nI (hk key))), (0, .ref om), (1, .long (lN (key))), (3, .int b9), (4, .int (nI y9))]) hx hb (pc := 13) dX10_meets_13 hl (by decide) rfl (fun ls hl => ?_)
  refine lv_aload_n hx hb (pc := 15) dX10_meets_15 rfl (lv_at hl 1 rfl) ?_
  refine va_get (v := .ref (ad 23)) hx hb hts (inX10_meets_10) hown hKK.1 hP 0 rfl rfl 23 (by decide) (hts _ (List.mem_of_getElem? (i := 3) (by decide +kernel))) (fun _ h9 => h9) rfl (pc := 16) dX10_meets_16 ?_
  refine lv_iload hx hb (pc := 19) dX10_meets_19 (lv_at hl 0 rfl) ?_
  refine nv_iald (v := dI (prv kn (hk key) kn.length)) (i := (hk key)) hx hb hKK hP 20 rfl (by omega) (by decide) (hHC.1 _ hhk) (pc := 21) dX10_meets_21 ?_
  refine lv_istore (lv' := [(6, .int (dI (prv kn (hk key) kn.length))), (5, .int (nI (hk key))), (0, .ref om), (1, .long (lN (key))), (3, .int b9), (4, .int (nI y9))]) hx hb (pc := 22) dX10_meets_22 hl (by decide) rfl (fun ls hl => ?_)
  have L24 : ∀ (fz : Nat) (t : Nat) (H : Heap) (locs : List Loc) (hP : va_P K.1 vwCl (XM K om ad ns wl nf wd mt kF nF yF WD FL FW TD RW pl nw xt vF wF qF bY gF nm xm fR oF hF dF) H) (hD : va_D A (XM K om ad ns wl nf wd mt kF nF yF WD FL FW TD RW pl nw xt vF wF qF bY gF nm xm fR oF hF dF)) (hS : va_S A s.heap H locs) (hfz : t < fz) (hsc : ∃ z, z ≤ kn.length ∧ t = prv kn (hk key) z ∧ ∀ i, z ≤ i → i < kn.length → kn.getD i 0 ≠ key) (ls : Array Slot) (hl : lv_has ls 7 [(0, .ref om), (1, .long (lN (key))), (3, .int b9), (4, .int (nI y9)), (5, .int (nI (hk key))), (6, .int (dI t))]), W p l e rmX10_meets s m args below meth c H locs 0 0 Q (F0 m 24 ls []) := by
    intro fz; induction fz with
    | zero => intro t H locs hP hD hS hfz hsc ls hl; exact absurd hfz (Nat.not_lt_zero _)
    | succ fz ih24 =>
      intro t H locs hP hD hS hfz hsc ls hl
      have htl : t ≤ kn.length := by obtain ⟨z, h1, h2, _⟩ := hsc; have := prv_le kn (hk key) z; omega
      refine lv_iload hx hb (pc := 24) dX10_meets_24 (lv_at hl 5 rfl) ?_
      refine lv_if_lt (tgt := 55) hx hb (pc := 26) dX10_meets_26 (by decide) (fun c26 => ?_) (fun c26 => ?_)
      · have ht0 : t = 0 := dI_lt c26 (by omega)
        have hno : key ∉ kn := not_mem_getD (fun i hi => by
          obtain ⟨z, hz1, hz2, hz3⟩ := hsc
          rcases Nat.lt_or_ge i z with w | w
          · exact fun e => prv_none (hz2.symm.trans ht0) i w (by rw [e])
          · exact hz3 i w hi)
        rw [hmt] at hP hD
        refine lv_aload_n hx hb (pc := 55) dX10_meets_55 rfl (lv_at hl 0 rfl) ?_
        refine va_get (v := .int (nI kn.length)) hx hb hts (inX10_meets_10) hown hKK.1 hP 0 rfl rfl 24 (by decide) (hts _ (List.mem_of_getElem? (i := 6) (by decide +kernel))) (fun _ h9 => h9) rfl (pc := 56) dX10_meets_56 ?_
        refine lv_sipush (v := nI 20000) hx hb (pc := 59) dX10_meets_59 (by decide) ?_
        refine nv_icmp_gt (a := kn.length) (b := 20000) (tgt := 123) hx hb (pc := 62) dX10_meets_62 (by decide) (by omega) (by omega) (fun c62 => absurd c62 (by omega)) (fun c62 => ?_)
        refine lv_aload_n hx hb (pc := 65) dX10_meets_65 rfl (lv_at hl 0 rfl) ?_
        refine va_get (v := .ref (ad 19)) hx hb hts (inX10_meets_10) hown hKK.1 hP 0 rfl rfl 19 (by decide) (hts _ (List.mem_of_getElem? (i := 4) (by decide +kernel))) (fun _ h9 => h9) rfl (pc := 66) dX10_meets_66 ?_
        refine lv_aload_n hx hb (pc := 69) dX10_meets_69 rfl (lv_at hl 0 rfl) ?_
        refine va_get (v := .int (nI kn.length)) hx hb hts (inX10_meets_10) hown hKK.1 hP 0 rfl rfl 24 (by decide) (hts _ (List.mem_of_getElem? (i := 6) (by decide +kernel))) (fun _ h9 => h9) rfl (pc := 70) dX10_meets_70 ?_
        refine lv_lload_n hx hb (pc := 73) dX10_meets_73 rfl (lv_at hl 1 rfl) ?_
        refine nv_lastN (f := qF) (x := key) (ws' := XM K om ad ns wl nf wd kn.length kF nF yF WD FL FW TD RW pl nw xt vF wF (va_up qF kn.length key) bY gF nm xm fR oF hF dF) (i := kn.length) hx hb hKK hP hD hS 16 rfl (by omega) (by decide) (rfl) (pc := 74) dX10_meets_74 (fun H locs hP hD hS => ?_)
        refine lv_aload_n hx hb (pc := 75) dX10_meets_75 rfl (lv_at hl 0 rfl) ?_
        refine va_get (v := .ref (ad 20)) hx hb hts (inX10_meets_10) hown hKK.1 hP 0 rfl rfl 20 (by decide) (hts _ (List.mem_of_getElem? (i := 7) (by decide +kernel))) (fun _ h9 => h9) rfl (pc := 76) dX10_meets_76 ?_
        refine lv_aload_n hx hb (pc := 79) dX10_meets_79 rfl (lv_at hl 0 rfl) ?_
        refine va_get (v := .int (nI kn.length)) hx hb hts (inX10_meets_10) hown hKK.1 hP 0 rfl rfl 24 (by decide) (hts _ (List.mem_of_getElem? (i := 6) (by decide +kernel))) (fun _ h9 => h9) rfl (pc := 80) dX10_meets_80 ?_
        refine lv_iload_n hx hb (pc := 83) dX10_meets_83 rfl (lv_at hl 2 rfl) ?_
        refine nv_iastr (f := fR) (x := b9) (ws' := XM K om ad ns wl nf wd kn.length kF nF yF WD FL FW TD RW pl nw xt vF wF (va_up qF kn.length key) bY gF nm xm (va_up fR kn.length b9) oF hF dF) (i := kn.length) hx hb hKK hP hD hS 17 rfl (by omega) (by decide) (rfl) (pc := 84) dX10_meets_84 (fun H locs hP hD hS => ?_)
        refine lv_aload_n hx hb (pc := 85) dX10_meets_85 rfl (lv_at hl 0 rfl) ?_
        refine va_get (v := .ref (ad 21)) hx hb hts (inX10_meets_10) hown hKK.1 hP 0 rfl rfl 21 (by decide) (hts _ (List.mem_of_getElem? (i := 8) (by decide +kernel))) (fun _ h9 => h9) rfl (pc := 86) dX10_meets_86 ?_
        refine lv_aload_n hx hb (pc := 89) dX10_meets_89 rfl (lv_at hl 0 rfl) ?_
        refine va_get (v := .int (nI kn.length)) hx hb hts (inX10_meets_10) hown hKK.1 hP 0 rfl rfl 24 (by decide) (hts _ (List.mem_of_getElem? (i := 6) (by decide +kernel))) (fun _ h9 => h9) rfl (pc := 90) dX10_meets_90 ?_
        refine lv_iload hx hb (pc := 93) dX10_meets_93 (lv_at hl 3 rfl) ?_
        refine nv_iast (f := bY) (x := y9) (ws' := XM K om ad ns wl nf wd kn.length kF nF yF WD FL FW TD RW pl nw xt vF wF (va_up qF kn.length key) (va_up bY kn.length y9) gF nm xm (va_up fR kn.length b9) oF hF dF) (i := kn.length) hx hb hKK hP hD hS 18 rfl (by omega) (by decide) (rfl) (pc := 95) dX10_meets_95 (fun H locs hP hD hS => ?_)
        refine lv_aload_n hx hb (pc := 96) dX10_meets_96 rfl (lv_at hl 0 rfl) ?_
        refine va_get (v := .ref (ad 22)) hx hb hts (inX10_meets_10) hown hKK.1 hP 0 rfl rfl 22 (by decide) (hts _ (List.mem_of_getElem? (i := 5) (by decide +kernel))) (fun _ h9 => h9) rfl (pc := 97) dX10_meets_97 ?_
        refine lv_aload_n hx hb (pc := 100) dX10_meets_100 rfl (lv_at hl 0 rfl) ?_
        refine va_get (v := .int (nI kn.length)) hx hb hts (inX10_meets_10) hown hKK.1 hP 0 rfl rfl 24 (by decide) (hts _ (List.mem_of_getElem? (i := 6) (by decide +kernel))) (fun _ h9 => h9) rfl (pc := 101) dX10_meets_101 ?_
        refine lv_aload_n hx hb (pc := 104) dX10_meets_104 rfl (lv_at hl 0 rfl) ?_
        refine va_get (v := .ref (ad 23)) hx hb hts (inX10_meets_10) hown hKK.1 hP 0 rfl rfl 23 (by decide) (hts _ (List.mem_of_getElem? (i := 3) (by decide +kernel))) (fun _ h9 => h9) rfl (pc := 105) dX10_meets_105 ?_
        refine lv_iload hx hb (pc := 108) dX10_meets_108 (lv_at hl 4 rfl) ?_
        refine nv_iald (v := dI (prv kn (hk key) kn.length)) (i := (hk key)) hx hb hKK hP 20 rfl (by omega) (by decide) (hHC.1 _ hhk) (pc := 110) dX10_meets_110 ?_
        refine nv_iastr (f := oF) (x := (dI (prv kn (hk key) kn.length))) (ws' := XM K om ad ns wl nf wd kn.length kF nF yF WD FL FW TD RW pl nw xt vF wF (va_up qF kn.length key) (va_up bY kn.length y9) gF nm xm (va_up fR kn.length b9) (va_up oF kn.length (dI (prv kn (hk key) kn.length))) hF dF) (i := kn.length) hx hb hKK hP hD hS 19 rfl (by omega) (by decide) (rfl) (pc := 111) dX10_meets_111 (fun H locs hP hD hS => ?_)
        refine lv_aload_n hx hb (pc := 112) dX10_meets_112 rfl (lv_at hl 0 rfl) ?_
        refine va_get (v := .ref (ad 23)) hx hb hts (inX10_meets_10) hown hKK.1 hP 0 rfl rfl 23 (by decide) (hts _ (List.mem_of_getElem? (i := 3) (by decide +kernel))) (fun _ h9 => h9) rfl (pc := 113) dX10_meets_113 ?_
        refine lv_iload hx hb (pc := 116) dX10_meets_116 (lv_at hl 4 rfl) ?_
        refine lv_aload_n hx hb (pc := 118) dX10_meets_118 rfl (lv_at hl 0 rfl) ?_
        refine va_get (v := .int (nI kn.length)) hx hb hts (inX10_meets_10) hown hKK.1 hP 0 rfl rfl 24 (by decide) (hts _ (List.mem_of_getElem? (i := 6) (by decide +kernel))) (fun _ h9 => h9) rfl (pc := 119) dX10_meets_119 ?_
        refine nv_iastr (f := hF) (x := (nI kn.length)) (ws' := XM K om ad ns wl nf wd kn.length kF nF yF WD FL FW TD RW pl nw xt vF wF (va_up qF kn.length key) (va_up bY kn.length y9) gF nm xm (va_up fR kn.length b9) (va_up oF kn.length (dI (prv kn (hk key) kn.length))) (va_up hF (hk key) (nI kn.length)) dF) (i := (hk key)) hx hb hKK hP hD hS 20 rfl (by omega) (by decide) (rfl) (pc := 122) dX10_meets_122 (fun H locs hP hD hS => ?_)
        refine lv_aload_n hx hb (pc := 123) dX10_meets_123 rfl (lv_at hl 0 rfl) ?_
        refine lv_dup hx hb (pc := 124) dX10_meets_124 rfl ?_
        refine va_get (v := .int (nI kn.length)) hx hb hts (inX10_meets_10) hown hKK.1 hP 0 rfl rfl 24 (by decide) (hts _ (List.mem_of_getElem? (i := 6) (by decide +kernel))) (fun _ h9 => h9) rfl (pc := 125) dX10_meets_125 ?_
        refine lv_iconst (v := nI 1) hx hb (pc := 128) dX10_meets_128 (by decide) ?_
        refine nv_iadd (a := kn.length) (b := 1) hx hb (pc := 129) dX10_meets_129 ?_
        refine rr_put (v := .int (nI (kn.length + 1))) (ty := tyX10 24) (ws' := XM K om ad ns wl nf wd (kn.length + 1) kF nF yF WD FL FW TD RW pl nw xt vF wF (va_up qF kn.length key) (va_up bY kn.length y9) gF nm xm (va_up fR kn.length b9) (va_up oF kn.length (dI (prv kn (hk key) kn.length))) (va_up hF (hk key) (nI kn.length)) dF) hx hb hts (inX10_meets_10) tyX10 tyX10_ok nmX10 hown hKK.1 hP hD hS 0 rfl rfl 24 (by decide) (hts _ (List.mem_of_getElem? (i := 6) (by decide +kernel))) (fun _ h9 => h9) rfl (tyX10_ok 24 (by decide)) rfl rfl (Nat.le_of_ble_eq_true rfl) rfl (pc := 130) dX10_meets_130 (fun H locs hP hD hS => ?_)
        refine lv_iconst (v := nI 1) hx hb (pc := 133) dX10_meets_133 (by decide) ?_
        have had : adK kn key = kn ++ [key] := by unfold adK; rw [if_neg hno]
        exact hret.1 _ _ 0 0 134 _ (nI 1) dX10_meets_134 (by omega) (by omega) hS (⟨by rw [decide_eq_false hno]; rfl, _, _, (by rw [had]; exact HC_add hHC), by rw [if_neg hno, if_neg hno, if_neg hno, had, List.length_append]; exact hP⟩) (by decide)
      · obtain ⟨i, rfl⟩ := dI_ge c26
        have hl : lv_has ls 7 [(0, .ref om), (1, .long (lN (key))), (3, .int b9), (4, .int (nI y9)), (5, .int (nI (hk key))), (6, .int (nI i))] := by rw [← dI_succ i]; exact hl
        obtain ⟨z, hz1, hz2, hz3⟩ := hsc
        obtain ⟨hp1, hp2, hp3⟩ := prv_some hz2.symm
        have hik : i < kn.length := by omega
        refine lv_aload_n hx hb (pc := 29) dX10_meets_29 rfl (lv_at hl 0 rfl) ?_
        refine va_get (v := .ref (ad 19)) hx hb hts (inX10_meets_10) hown hKK.1 hP 0 rfl rfl 19 (by decide) (hts _ (List.mem_of_getElem? (i := 4) (by decide +kernel))) (fun _ h9 => h9) rfl (pc := 30) dX10_meets_30 ?_
        refine lv_iload hx hb (pc := 33) dX10_meets_33 (lv_at hl 5 rfl) ?_
        refine nv_lald (v := lN (kn.getD i 0)) (i := i) hx hb hKK hP 16 rfl (by omega) (by decide) (congrArg lN (hKQ i hik)) (pc := 35) dX10_meets_35 ?_
        refine lv_lload_n hx hb (pc := 36) dX10_meets_36 rfl (lv_at hl 1 rfl) ?_
        refine nv_lcmp_ne (a := (kn.getD i 0)) (b := key) (tgt := 43) hx hb (pc := 37) dX10_meets_37 dX10_meets_38 (by decide) (Nat.lt_trans (hkb _ (mem_getD hik)) (by decide)) (by omega) (fun c37 => ?_) (fun c37 => ?_)
        · have hsc9 : ∀ a, i ≤ a → a < kn.length → kn.getD a 0 ≠ key := by
            intro a h1 h2
            rcases Nat.lt_or_ge a z with w | w
            · rcases Nat.lt_or_ge i a with w2 | w2
              · exact fun e => hp3 a w2 w (by rw [e])
              · rw [show a = i by omega]; exact c37
            · exact hz3 a w h2
          refine lv_aload_n hx hb (pc := 43) dX10_meets_43 rfl (lv_at hl 0 rfl) ?_
          refine va_get (v := .ref (ad 22)) hx hb hts (inX10_meets_10) hown hKK.1 hP 0 rfl rfl 22 (by decide) (hts _ (List.mem_of_getElem? (i := 5) (by decide +kernel))) (fun _ h9 => h9) rfl (pc := 44) dX10_meets_44 ?_
          refine lv_iload hx hb (pc := 47) dX10_meets_47 (lv_at hl 5 rfl) ?_
          refine nv_iald (v := dI (prv kn (hk key) i)) (i := i) hx hb hKK hP 19 rfl (by omega) (by decide) (by rw [hHC.2 i hik, hp2]) (pc := 49) dX10_meets_49 ?_
          refine lv_istore (lv' := [(6, .int (dI (prv kn (hk key) i))), (0, .ref om), (1, .long (lN (key))), (3, .int b9), (4, .int (nI y9)), (5, .int (nI (hk key)))]) hx hb (pc := 50) dX10_meets_50 hl (by decide) rfl (fun ls hl => ?_)
          refine lv_goto (tgt := 24) hx hb (pc := 52) dX10_meets_52 (by decide) ?_
          have hpi := prv_le kn (hk key) i
          exact ih24 (prv kn (hk key) i) _ _ hP hD hS (by omega) (⟨i, by omega, rfl, hsc9⟩) ls (lv_sub hl [1, 2, 3, 4, 5, 0] rfl)
        · refine lv_iconst (v := nI 0) hx hb (pc := 41) dX10_meets_41 (by decide) ?_
          have hin : key ∈ kn := by rw [← c37]; exact mem_getD hik
          exact hret.1 _ _ 0 0 42 _ (nI 0) dX10_meets_42 (by omega) (by omega) hS (⟨by rw [decide_eq_true hin]; rfl, _, _, (by unfold adK; rw [if_pos hin]; exact hHC), by rw [if_pos hin, if_pos hin, if_pos hin]; unfold adK; rw [if_pos hin, ← hmt]; exact hP⟩) (by decide)
  exact L24 (kn.length + 1) (prv kn (hk key) kn.length) _ _ hP hD hS (by omega) (⟨_, Nat.le_refl _, rfl, fun i h1 h2 => absurd h2 (by omega)⟩) ls (lv_sub hl [2, 3, 4, 5, 1, 0] rfl)

abbrev rmX10_layWord : Room := { frames := 0, cells := 0, slots := 0, locals := 0 }
theorem inX10_layWord_10 : ∀ w ∈ wsX100, w ∈ wsX10_layWord := fun _ h => List.mem_cons_of_mem _ (List.mem_append_right _ h)
set_option maxHeartbeats 4000000 in
set_option maxRecDepth 100000 in
theorem c_X10_layWord (l : Launch) (K : rr_K) (A : Nat → Prop) (om : Nat) (ad : Nat → Nat) (ns wl nf wd mt : Nat) (kF nF yF WD FL FW TD RW pl nw xt vF wF qF bY gF : Nat → Nat) (nm xm : Nat → Int64) (fR oF hF dF : Nat → Int32) (nt : List Nat) (p9 l9 : Nat) (hNQ : NQ nt fR bY) (hnok : NOK nt) (h00 : nt.getD 0 0 = 0) (hn31 : ∀ x ∈ nt, x < 2 ^ 31) (hpl9 : p9 < nt.length) (hp20 : p9 < 20001) (hD : va_D A (XM K om ad ns wl nf wd mt kF nF yF WD FL FW TD RW pl nw xt vF wF qF bY gF nm xm fR oF hF dF)) : MetV l K yX10_layWord wsX10_layWord rmX10_layWord [.ref om, .int (nI p9), .int (nI l9)] (fun H => va_P K.1 vwCl (XM K om ad ns wl nf wd mt kF nF yF WD FL FW TD RW pl nw xt vF wF qF bY gF nm xm fR oF hF dF) H) A (fun H => va_P K.1 vwCl (XM K om ad ns (min (dpP nt p9 p9 + 1) 30) nf wd mt kF nF yF (wdW nt p9 l9 0 WD) FL FW TD RW pl nw xt vF wF qF bY gF nm xm fR oF hF dF) H) 0 0 := by
  refine metV_of (cc := cX10_layWord) (maxL := 6) (by decide) rfl rfl rfl (Nat.le_of_ble_eq_true rfl) ?_
  intro p e s m args below meth c Q ls hEnt hin hKK hX hret hl
  obtain ⟨hx, hb, hml, hown, hts⟩ := hEnt
  have hP : va_P K.1 vwCl (XM K om ad ns wl nf wd mt kF nF yF WD FL FW TD RW pl nw xt vF wF qF bY gF nm xm fR oF hF dF) s.heap := hX
  have hl : lv_has ls 6 [(0, .ref om), (1, .int (nI p9)), (2, .int (nI l9))] := hl
  have hS : va_S A s.heap s.heap [] := va_S.rf
  have hdpl := dpP_le (nt := nt) p9 p9
  refine lv_iconst (v := nI 1) hx hb (pc := 0) dX10_layWord_0 (by decide) ?_
  refine lv_istore_n (lv' := [(3, .int (nI 1)), (0, .ref om), (1, .int (nI p9)), (2, .int (nI l9))]) hx hb (pc := 1) dX10_layWord_1 rfl hl (by decide) rfl (fun ls hl => ?_)
  refine lv_iload_n hx hb (pc := 2) dX10_layWord_2 rfl (lv_at hl 2 rfl) ?_
  refine lv_istore (lv' := [(4, .int (nI p9)), (3, .int (nI 1)), (0, .ref om), (1, .int (nI p9)), (2, .int (nI l9))]) hx hb (pc := 3) dX10_layWord_3 hl (by decide) rfl (fun ls hl => ?_)
  have L5 : ∀ (fz : Nat) (t : Nat) (H : Heap) (locs : List Loc) (hP : va_P K.1 vwCl (XM K om ad ns wl nf wd mt kF nF yF WD FL FW TD RW pl nw xt vF wF qF bY gF nm xm fR oF hF dF) H) (hD : va_D A (XM K om ad ns wl nf wd mt kF nF yF WD FL FW TD RW pl nw xt vF wF qF bY gF nm xm fR oF hF dF)) (hS : va_S A s.heap H locs) (hfz : dpP nt p9 p9 - t < fz) (ht : dpP nt p9 p9 = t + dpP nt (upP nt t p9) (upP nt t p9)) (ls : Array Slot) (hl : lv_has ls 6 [(0, .ref om), (1, .int (nI p9)), (2, .int (nI l9)), (3, .int (nI (t + 1))), (4, .int (nI (upP nt t p9)))]), W p l e rmX10_layWord s m args below meth c H locs 0 0 Q (F0 m 5 ls []) := by
    intro fz; induction fz with
    | zero => intro t H locs hP hD hS hfz ht ls hl; exact absurd hfz (Nat.not_lt_zero _)
    | succ fz ih5 =>
      intro t H locs hP hD hS hfz ht ls hl
      have hup := upP_le hnok h00 hpl9 t
      refine lv_aload_n hx hb (pc := 5) dX10_layWord_5 rfl (lv_at hl 0 rfl) ?_
      refine va_get (v := .ref (ad 20)) hx hb hts (inX10_layWord_10) hown hKK.1 hP 0 rfl rfl 20 (by decide) (hts _ (List.mem_of_getElem? (i := 1) (by decide +kernel))) (fun _ h9 => h9) rfl (pc := 6) dX10_layWord_6 ?_
      refine lv_iload hx hb (pc := 9) dX10_layWord_9 (lv_at hl 4 rfl) ?_
      refine nv_iald (v := fR (upP nt t p9)) (i := (upP nt t p9)) hx hb hKK hP 17 rfl (by omega) (by decide) (rfl) (pc := 11) dX10_layWord_11 ?_
      refine lv_if_lt (tgt := 30) hx hb (pc := 12) dX10_layWord_12 (by decide) (fun c12 => ?_) (fun c12 => ?_)
      · have hu0 : upP nt t p9 = 0 := Classical.byContradiction (fun h => by
          rw [(hNQ.2 _ (by omega) (by omega)).1] at c12
          exact absurd c12 (nI_pos (by have := getD_b hn31 (upP nt t p9); omega)))
        have e9 : t = dpP nt p9 p9 := by rw [ht, hu0]; rfl
        rw [e9] at hl
        refine lv_aload_n hx hb (pc := 30) dX10_layWord_30 rfl (lv_at hl 0 rfl) ?_
        refine lv_iload_n hx hb (pc := 31) dX10_layWord_31 rfl (lv_at hl 3 rfl) ?_
        refine lv_bipush (v := nI 30) hx hb (pc := 32) dX10_layWord_32 (by decide) ?_
        refine nv_icmp_ge (a := (dpP nt p9 p9 + 1)) (b := 30) (tgt := 41) hx hb (pc := 34) dX10_layWord_34 (by decide) (by omega) (by omega) (fun c34 => ?_) (fun c34 => ?_)
        · refine lv_bipush (v := nI 30) hx hb (pc := 41) dX10_layWord_41 (by decide) ?_
          refine rr_top (v := .int (nI (min (dpP nt p9 p9 + 1) 30))) (by first | (rw [Nat.min_eq_left (by omega)]; done) | (rw [Nat.min_eq_right (by omega)]; done)) ?_
          refine rr_put (v := .int (nI (min (dpP nt p9 p9 + 1) 30))) (ty := tyX10 4) (ws' := XM K om ad ns (min (dpP nt p9 p9 + 1) 30) nf wd mt kF nF yF WD FL FW TD RW pl nw xt vF wF qF bY gF nm xm fR oF hF dF) hx hb hts (inX10_layWord_10) tyX10 tyX10_ok nmX10 hown hKK.1 hP hD hS 0 rfl rfl 4 (by decide) (hts _ (List.mem_of_getElem? (i := 2) (by decide +kernel))) (fun _ h9 => h9) rfl (tyX10_ok 4 (by decide)) rfl rfl (Nat.le_of_ble_eq_true rfl) rfl (pc := 43) dX10_layWord_43 (fun H locs hP hD hS => ?_)
          refine lv_iload_n hx hb (pc := 46) dX10_layWord_46 rfl (lv_at hl 3 rfl) ?_
          refine lv_iconst (v := nI 1) hx hb (pc := 47) dX10_layWord_47 (by decide) ?_
          refine nv_isub (a := (dpP nt p9 p9 + 1)) (b := 1) hx hb (pc := 48) dX10_layWord_48 (by omega) ?_
          refine rr_top (v := .int (nI (dpP nt p9 p9))) (by rw [Nat.add_sub_cancel]) ?_
          refine lv_istore (lv' := [(4, .int (nI (dpP nt p9 p9))), (0, .ref om), (1, .int (nI p9)), (2, .int (nI l9)), (3, .int (nI (dpP nt p9 p9 + 1)))]) hx hb (pc := 49) dX10_layWord_49 hl (by decide) rfl (fun ls hl => ?_)
          refine lv_iload hx hb (pc := 51) dX10_layWord_51 (lv_at hl 0 rfl) ?_
          refine lv_bipush (v := nI 30) hx hb (pc := 53) dX10_layWord_53 (by decide) ?_
          refine nv_icmp_ge (a := (dpP nt p9 p9)) (b := 30) (tgt := 66) hx hb (pc := 55) dX10_layWord_55 (by decide) (by omega) (by omega) (fun c55 => ?_) (fun c55 => ?_)
          · have hwdl : wdP nt p9 l9 (dpP nt p9 p9) = l9 := if_pos rfl
            first
            | (rw [← wdW_top nt p9 l9 WD] at hP hD; rw [show va_up (wdW nt p9 l9 (dpP nt p9 p9 + 1) WD) (dpP nt p9 p9) l9 = wdW nt p9 l9 (dpP nt p9 p9) WD from by rw [← wdW_put nt p9 l9 WD (i := dpP nt p9 p9) (by omega) (by omega), hwdl]] at hP hD)
            | (rw [← wdW_top nt p9 l9 WD, wdW_skip nt p9 l9 WD (i := dpP nt p9 p9) (by omega)] at hP hD)
            refine lv_iinc (v := dI (dpP nt p9 p9)) (lv' := [(4, .int (dI (dpP nt p9 p9))), (0, .ref om), (1, .int (nI p9)), (2, .int (nI l9)), (3, .int (nI (dpP nt p9 p9 + 1)))]) hx hb (pc := 66) dX10_layWord_66 hl (k := 0) rfl (rr_decr _) (by decide) rfl (fun ls hl => ?_)
            refine lv_iload_n hx hb (pc := 69) dX10_layWord_69 rfl (lv_at hl 2 rfl) ?_
            refine lv_istore (lv' := [(5, .int (nI p9)), (4, .int (dI (dpP nt p9 p9))), (0, .ref om), (1, .int (nI p9)), (2, .int (nI l9)), (3, .int (nI (dpP nt p9 p9 + 1)))]) hx hb (pc := 70) dX10_layWord_70 hl (by decide) rfl (fun ls hl => ?_)
            have L72 : ∀ (fz : Nat) (u : Nat) (H : Heap) (locs : List Loc) (hP : va_P K.1 vwCl (XM K om ad ns (min (dpP nt p9 p9 + 1) 30) nf wd mt kF nF yF (wdW nt p9 l9 (dpP nt p9 p9 - u) WD) FL FW TD RW pl nw xt vF wF qF bY gF nm xm fR oF hF dF) H) (hD : va_D A (XM K om ad ns (min (dpP nt p9 p9 + 1) 30) nf wd mt kF nF yF (wdW nt p9 l9 (dpP nt p9 p9 - u) WD) FL FW TD RW pl nw xt vF wF qF bY gF nm xm fR oF hF dF)) (hS : va_S A s.heap H locs) (hfz : dpP nt p9 p9 - u < fz) (hu9 : dpP nt p9 p9 = u + dpP nt (upP nt u p9) (upP nt u p9)) (ls : Array Slot) (hl : lv_has ls 6 [(0, .ref om), (1, .int (nI p9)), (2, .int (nI l9)), (4, .int (dI (dpP nt p9 p9 - u))), (5, .int (nI (upP nt u p9)))]), W p l e rmX10_layWord s m args below meth c H locs 0 0 Q (F0 m 72 ls []) := by
              intro fz; induction fz with
              | zero => intro u H locs hP hD hS hfz hu9 ls hl; exact absurd hfz (Nat.not_lt_zero _)
              | succ fz ih72 =>
                intro u H locs hP hD hS hfz hu9 ls hl
                have hup2 := upP_le hnok h00 hpl9 u
                refine lv_aload_n hx hb (pc := 72) dX10_layWord_72 rfl (lv_at hl 0 rfl) ?_
                refine va_get (v := .ref (ad 20)) hx hb hts (inX10_layWord_10) hown hKK.1 hP 0 rfl rfl 20 (by decide) (hts _ (List.mem_of_getElem? (i := 1) (by decide +kernel))) (fun _ h9 => h9) rfl (pc := 73) dX10_layWord_73 ?_
                refine lv_iload hx hb (pc := 76) dX10_layWord_76 (lv_at hl 4 rfl) ?_
                refine nv_iald (v := fR (upP nt u p9)) (i := (upP nt u p9)) hx hb hKK hP 17 rfl (by omega) (by decide) (rfl) (pc := 78) dX10_layWord_78 ?_
                refine lv_if_lt (tgt := 118) hx hb (pc := 79) dX10_layWord_79 (by decide) (fun c79 => ?_) (fun c79 => ?_)
                · have hu0 : upP nt u p9 = 0 := Classical.byContradiction (fun h => by
                    rw [(hNQ.2 _ (by omega) (by omega)).1] at c79
                    exact absurd c79 (nI_pos (by have := getD_b hn31 (upP nt u p9); omega)))
                  have e8 : dpP nt p9 p9 - u = 0 := by rw [hu9, hu0]; show u + 0 - u = 0; omega
                  exact hret _ _ 0 0 118 _ dX10_layWord_118 (by omega) (by omega) hS (by rw [e8] at hP; exact hP)
                · have hu0 : ¬ upP nt u p9 = 0 := fun h => by
                    rw [h, hNQ.1] at c79
                    exact absurd c79 (by decide)
                  have hst := dpP_step hnok (show upP nt u p9 < nt.length by omega) hu0
                  obtain ⟨i, hi9⟩ : ∃ i, i = dpP nt p9 p9 - u - 1 := ⟨_, rfl⟩
                  have hd9 : dpP nt p9 p9 - u = i + 1 := by omega
                  have hup9 : upP nt (dpP nt p9 p9 - 1 - i) p9 = upP nt u p9 := by rw [show dpP nt p9 p9 - 1 - i = u by omega]
                  have hwd9 : wdP nt p9 l9 i = nt.getD (upP nt u p9) 0 % 4 := by unfold wdP; rw [if_neg (by omega), hup9]
                  rw [hd9] at hP hD
                  have hl : lv_has ls 6 [(0, .ref om), (1, .int (nI p9)), (2, .int (nI l9)), (4, .int (nI i)), (5, .int (nI (upP nt u p9)))] := by rw [← dI_succ i, ← hd9]; exact hl
                  refine lv_iload hx hb (pc := 82) dX10_layWord_82 (lv_at hl 3 rfl) ?_
                  refine lv_bipush (v := nI 30) hx hb (pc := 84) dX10_layWord_84 (by decide) ?_
                  refine nv_icmp_ge (a := i) (b := 30) (tgt := 103) hx hb (pc := 86) dX10_layWord_86 (by decide) (by omega) (by omega) (fun c86 => ?_) (fun c86 => ?_)
                  · first
                    | rw [wdW_put nt p9 l9 WD (i := i) (by omega) (by omega)] at hP hD
                    | rw [wdW_skip nt p9 l9 WD (i := i) (by omega)] at hP hD
                    rw [show i = dpP nt p9 p9 - (u + 1) by omega] at hP hD
                    refine lv_iinc (v := dI (dpP nt p9 p9 - (u + 1))) (lv' := [(4, .int (dI (dpP nt p9 p9 - (u + 1)))), (0, .ref om), (1, .int (nI p9)), (2, .int (nI l9)), (5, .int (nI (upP nt u p9)))]) hx hb (pc := 103) dX10_layWord_103 hl (k := 3) rfl (by rw [show dpP nt p9 p9 - (u + 1) = i by omega]; exact rr_decr i) (by decide) rfl (fun ls hl => ?_)
                    refine lv_aload_n hx hb (pc := 106) dX10_layWord_106 rfl (lv_at hl 1 rfl) ?_
                    refine va_get (v := .ref (ad 20)) hx hb hts (inX10_layWord_10) hown hKK.1 hP 0 rfl rfl 20 (by decide) (hts _ (List.mem_of_getElem? (i := 1) (by decide +kernel))) (fun _ h9 => h9) rfl (pc := 107) dX10_layWord_107 ?_
                    refine lv_iload hx hb (pc := 110) dX10_layWord_110 (lv_at hl 4 rfl) ?_
                    refine nv_iald (v := nI (nt.getD (upP nt u p9) 0 / 4)) (i := (upP nt u p9)) hx hb hKK hP 17 rfl (by omega) (by decide) ((hNQ.2 _ (by omega) (by omega)).1) (pc := 112) dX10_layWord_112 ?_
                    refine lv_istore (lv' := [(5, .int (nI (nt.getD (upP nt u p9) 0 / 4))), (4, .int (dI (dpP nt p9 p9 - (u + 1)))), (0, .ref om), (1, .int (nI p9)), (2, .int (nI l9))]) hx hb (pc := 113) dX10_layWord_113 hl (by decide) rfl (fun ls hl => ?_)
                    refine lv_goto (tgt := 72) hx hb (pc := 115) dX10_layWord_115 (by decide) ?_
                    have hst3 : dpP nt p9 p9 = u + 1 + dpP nt (upP nt (u + 1) p9) (upP nt (u + 1) p9) := by rw [upP_succ, hu9, hst]; omega
                    have hl : lv_has ls 6 [(5, .int (nI (upP nt (u + 1) p9))), (4, .int (dI (dpP nt p9 p9 - (u + 1)))), (0, .ref om), (1, .int (nI p9)), (2, .int (nI l9))] := by rw [show upP nt (u + 1) p9 = nt.getD (upP nt u p9) 0 / 4 from upP_succ nt u p9]; exact hl
                    exact ih72 (u + 1) _ _ hP hD hS (by omega) (hst3) ls (lv_sub hl [2, 3, 4, 1, 0] rfl)
                  · refine lv_aload_n hx hb (pc := 89) dX10_layWord_89 rfl (lv_at hl 0 rfl) ?_
                    refine va_get (v := .ref (ad 5)) hx hb hts (inX10_layWord_10) hown hKK.1 hP 0 rfl rfl 5 (by decide) (hts _ (List.mem_of_getElem? (i := 3) (by decide +kernel))) (fun _ h9 => h9) rfl (pc := 90) dX10_layWord_90 ?_
                    refine lv_iload hx hb (pc := 93) dX10_layWord_93 (lv_at hl 3 rfl) ?_
                    refine lv_aload_n hx hb (pc := 95) dX10_layWord_95 rfl (lv_at hl 0 rfl) ?_
                    refine va_get (v := .ref (ad 21)) hx hb hts (inX10_layWord_10) hown hKK.1 hP 0 rfl rfl 21 (by decide) (hts _ (List.mem_of_getElem? (i := 4) (by decide +kernel))) (fun _ h9 => h9) rfl (pc := 96) dX10_layWord_96 ?_
                    refine lv_iload hx hb (pc := 99) dX10_layWord_99 (lv_at hl 4 rfl) ?_
                    refine nv_iald (v := nI (wdP nt p9 l9 i)) (i := (upP nt u p9)) hx hb hKK hP 18 rfl (by omega) (by decide) (congrArg nI ((hNQ.2 _ (by omega) (by omega)).2.trans hwd9.symm)) (pc := 101) dX10_layWord_101 ?_
                    refine nv_iast (f := (wdW nt p9 l9 (i + 1) WD)) (x := (wdP nt p9 l9 i)) (ws' := XM K om ad ns (min (dpP nt p9 p9 + 1) 30) nf wd mt kF nF yF (va_up (wdW nt p9 l9 (i + 1) WD) i (wdP nt p9 l9 i)) FL FW TD RW pl nw xt vF wF qF bY gF nm xm fR oF hF dF) (i := i) hx hb hKK hP hD hS 4 rfl (by omega) (by decide) (rfl) (pc := 102) dX10_layWord_102 (fun H locs hP hD hS => ?_)
                    first
                    | rw [wdW_put nt p9 l9 WD (i := i) (by omega) (by omega)] at hP hD
                    | rw [wdW_skip nt p9 l9 WD (i := i) (by omega)] at hP hD
                    rw [show i = dpP nt p9 p9 - (u + 1) by omega] at hP hD
                    refine lv_iinc (v := dI (dpP nt p9 p9 - (u + 1))) (lv' := [(4, .int (dI (dpP nt p9 p9 - (u + 1)))), (0, .ref om), (1, .int (nI p9)), (2, .int (nI l9)), (5, .int (nI (upP nt u p9)))]) hx hb (pc := 103) dX10_layWord_103 hl (k := 3) rfl (by rw [show dpP nt p9 p9 - (u + 1) = i by omega]; exact rr_decr i) (by decide) rfl (fun ls hl => ?_)
                    refine lv_aload_n hx hb (pc := 106) dX10_layWord_106 rfl (lv_at hl 1 rfl) ?_
                    refine va_get (v := .ref (ad 20)) hx hb hts (inX10_layWord_10) hown hKK.1 hP 0 rfl rfl 20 (by decide) (hts _ (List.mem_of_getElem? (i := 1) (by decide +kernel))) (fun _ h9 => h9) rfl (pc := 107) dX10_layWord_107 ?_
                    refine lv_iload hx hb (pc := 110) dX10_layWord_110 (lv_at hl 4 rfl) ?_
                    refine nv_iald (v := nI (nt.getD (upP nt u p9) 0 / 4)) (i := (upP nt u p9)) hx hb hKK hP 17 rfl (by omega) (by decide) ((hNQ.2 _ (by omega) (by omega)).1) (pc := 112) dX10_layWord_112 ?_
                    refine lv_istore (lv' := [(5, .int (nI (nt.getD (upP nt u p9) 0 / 4))), (4, .int (dI (dpP nt p9 p9 - (u + 1)))), (0, .ref om), (1, .int (nI p9)), (2, .int (nI l9))]) hx hb (pc := 113) dX10_layWord_113 hl (by decide) rfl (fun ls hl => ?_)
                    refine lv_goto (tgt := 72) hx hb (pc := 115) dX10_layWord_115 (by decide) ?_
                    have hst3 : dpP nt p9 p9 = u + 1 + dpP nt (upP nt (u + 1) p9) (upP nt (u + 1) p9) := by rw [upP_succ, hu9, hst]; omega
                    have hl : lv_has ls 6 [(5, .int (nI (upP nt (u + 1) p9))), (4, .int (dI (dpP nt p9 p9 - (u + 1)))), (0, .ref om), (1, .int (nI p9)), (2, .int (nI l9))] := by rw [show upP nt (u + 1) p9 = nt.getD (upP nt u p9) 0 / 4 from upP_succ nt u p9]; exact hl
                    exact ih72 (u + 1) _ _ hP hD hS (by omega) (hst3) ls (lv_sub hl [2, 3, 4, 1, 0] rfl)
            have hl : lv_has ls 6 [(5, .int (nI p9)), (4, .int (dI (dpP nt p9 p9 - 0))), (0, .ref om), (1, .int (nI p9)), (2, .int (nI l9)), (3, .int (nI (dpP nt p9 p9 + 1)))] := by rw [show dI (dpP nt p9 p9 - 0) = dI (dpP nt p9 p9) from by rw [Nat.sub_zero]]; exact hl
            have hl : lv_has ls 6 [(5, .int (nI (upP nt 0 p9))), (4, .int (dI (dpP nt p9 p9 - 0))), (0, .ref om), (1, .int (nI p9)), (2, .int (nI l9)), (3, .int (nI (dpP nt p9 p9 + 1)))] := by rw [show upP nt 0 p9 = p9 from rfl]; exact hl
            exact L72 (dpP nt p9 p9 + 1) 0 _ _ hP hD hS (by omega) (by show _ = 0 + dpP nt p9 p9; rw [Nat.zero_add]) ls (lv_sub hl [2, 3, 4, 1, 0] rfl)
          · refine lv_aload_n hx hb (pc := 58) dX10_layWord_58 rfl (lv_at hl 1 rfl) ?_
            refine va_get (v := .ref (ad 5)) hx hb hts (inX10_layWord_10) hown hKK.1 hP 0 rfl rfl 5 (by decide) (hts _ (List.mem_of_getElem? (i := 3) (by decide +kernel))) (fun _ h9 => h9) rfl (pc := 59) dX10_layWord_59 ?_
            refine lv_iload hx hb (pc := 62) dX10_layWord_62 (lv_at hl 0 rfl) ?_
            refine lv_iload_n hx hb (pc := 64) dX10_layWord_64 rfl (lv_at hl 3 rfl) ?_
            refine nv_iast (f := WD) (x := l9) (ws' := XM K om ad ns (min (dpP nt p9 p9 + 1) 30) nf wd mt kF nF yF (va_up WD (dpP nt p9 p9) l9) FL FW TD RW pl nw xt vF wF qF bY gF nm xm fR oF hF dF) (i := (dpP nt p9 p9)) hx hb hKK hP hD hS 4 rfl (by omega) (by decide) (rfl) (pc := 65) dX10_layWord_65 (fun H locs hP hD hS => ?_)
            have hwdl : wdP nt p9 l9 (dpP nt p9 p9) = l9 := if_pos rfl
            first
            | (rw [← wdW_top nt p9 l9 WD] at hP hD; rw [show va_up (wdW nt p9 l9 (dpP nt p9 p9 + 1) WD) (dpP nt p9 p9) l9 = wdW nt p9 l9 (dpP nt p9 p9) WD from by rw [← wdW_put nt p9 l9 WD (i := dpP nt p9 p9) (by omega) (by omega), hwdl]] at hP hD)
            | (rw [← wdW_top nt p9 l9 WD, wdW_skip nt p9 l9 WD (i := dpP nt p9 p9) (by omega)] at hP hD)
            refine lv_iinc (v := dI (dpP nt p9 p9)) (lv' := [(4, .int (dI (dpP nt p9 p9))), (0, .ref om), (1, .int (nI p9)), (2, .int (nI l9)), (3, .int (nI (dpP nt p9 p9 + 1)))]) hx hb (pc := 66) dX10_layWord_66 hl (k := 0) rfl (rr_decr _) (by decide) rfl (fun ls hl => ?_)
            refine lv_iload_n hx hb (pc := 69) dX10_layWord_69 rfl (lv_at hl 2 rfl) ?_
            refine lv_istore (lv' := [(5, .int (nI p9)), (4, .int (dI (dpP nt p9 p9))), (0, .ref om), (1, .int (nI p9)), (2, .int (nI l9)), (3, .int (nI (dpP nt p9 p9 + 1)))]) hx hb (pc := 70) dX10_layWord_70 hl (by decide) rfl (fun ls hl => ?_)
            have L72 : ∀ (fz : Nat) (u : Nat) (H : Heap) (locs : List Loc) (hP : va_P K.1 vwCl (XM K om ad ns (min (dpP nt p9 p9 + 1) 30) nf wd mt kF nF yF (wdW nt p9 l9 (dpP nt p9 p9 - u) WD) FL FW TD RW pl nw xt vF wF qF bY gF nm xm fR oF hF dF) H) (hD : va_D A (XM K om ad ns (min (dpP nt p9 p9 + 1) 30) nf wd mt kF nF yF (wdW nt p9 l9 (dpP nt p9 p9 - u) WD) FL FW TD RW pl nw xt vF wF qF bY gF nm xm fR oF hF dF)) (hS : va_S A s.heap H locs) (hfz : dpP nt p9 p9 - u < fz) (hu9 : dpP nt p9 p9 = u + dpP nt (upP nt u p9) (upP nt u p9)) (ls : Array Slot) (hl : lv_has ls 6 [(0, .ref om), (1, .int (nI p9)), (2, .int (nI l9)), (4, .int (dI (dpP nt p9 p9 - u))), (5, .int (nI (upP nt u p9)))]), W p l e rmX10_layWord s m args below meth c H locs 0 0 Q (F0 m 72 ls []) := by
              intro fz; induction fz with
              | zero => intro u H locs hP hD hS hfz hu9 ls hl; exact absurd hfz (Nat.not_lt_zero _)
              | succ fz ih72 =>
                intro u H locs hP hD hS hfz hu9 ls hl
                have hup2 := upP_le hnok h00 hpl9 u
                refine lv_aload_n hx hb (pc := 72) dX10_layWord_72 rfl (lv_at hl 0 rfl) ?_
                refine va_get (v := .ref (ad 20)) hx hb hts (inX10_layWord_10) hown hKK.1 hP 0 rfl rfl 20 (by decide) (hts _ (List.mem_of_getElem? (i := 1) (by decide +kernel))) (fun _ h9 => h9) rfl (pc := 73) dX10_layWord_73 ?_
                refine lv_iload hx hb (pc := 76) dX10_layWord_76 (lv_at hl 4 rfl) ?_
                refine nv_iald (v := fR (upP nt u p9)) (i := (upP nt u p9)) hx hb hKK hP 17 rfl (by omega) (by decide) (rfl) (pc := 78) dX10_layWord_78 ?_
                refine lv_if_lt (tgt := 118) hx hb (pc := 79) dX10_layWord_79 (by decide) (fun c79 => ?_) (fun c79 => ?_)
                · have hu0 : upP nt u p9 = 0 := Classical.byContradiction (fun h => by
                    rw [(hNQ.2 _ (by omega) (by omega)).1] at c79
                    exact absurd c79 (nI_pos (by have := getD_b hn31 (upP nt u p9); omega)))
                  have e8 : dpP nt p9 p9 - u = 0 := by rw [hu9, hu0]; show u + 0 - u = 0; omega
                  exact hret _ _ 0 0 118 _ dX10_layWord_118 (by omega) (by omega) hS (by rw [e8] at hP; exact hP)
                · have hu0 : ¬ upP nt u p9 = 0 := fun h => by
                    rw [h, hNQ.1] at c79
                    exact absurd c79 (by decide)
                  have hst := dpP_step hnok (show upP nt u p9 < nt.length by omega) hu0
                  obtain ⟨i, hi9⟩ : ∃ i, i = dpP nt p9 p9 - u - 1 := ⟨_, rfl⟩
                  have hd9 : dpP nt p9 p9 - u = i + 1 := by omega
                  have hup9 : upP nt (dpP nt p9 p9 - 1 - i) p9 = upP nt u p9 := by rw [show dpP nt p9 p9 - 1 - i = u by omega]
                  have hwd9 : wdP nt p9 l9 i = nt.getD (upP nt u p9) 0 % 4 := by unfold wdP; rw [if_neg (by omega), hup9]
                  rw [hd9] at hP hD
                  have hl : lv_has ls 6 [(0, .ref om), (1, .int (nI p9)), (2, .int (nI l9)), (4, .int (nI i)), (5, .int (nI (upP nt u p9)))] := by rw [← dI_succ i, ← hd9]; exact hl
                  refine lv_iload hx hb (pc := 82) dX10_layWord_82 (lv_at hl 3 rfl) ?_
                  refine lv_bipush (v := nI 30) hx hb (pc := 84) dX10_layWord_84 (by decide) ?_
                  refine nv_icmp_ge (a := i) (b := 30) (tgt := 103) hx hb (pc := 86) dX10_layWord_86 (by decide) (by omega) (by omega) (fun c86 => ?_) (fun c86 => ?_)
                  · first
                    | rw [wdW_put nt p9 l9 WD (i := i) (by omega) (by omega)] at hP hD
                    | rw [wdW_skip nt p9 l9 WD (i := i) (by omega)] at hP hD
                    rw [show i = dpP nt p9 p9 - (u + 1) by omega] at hP hD
                    refine lv_iinc (v := dI (dpP nt p9 p9 - (u + 1))) (lv' := [(4, .int (dI (dpP nt p9 p9 - (u + 1)))), (0, .ref om), (1, .int (nI p9)), (2, .int (nI l9)), (5, .int (nI (upP nt u p9)))]) hx hb (pc := 103) dX10_layWord_103 hl (k := 3) rfl (by rw [show dpP nt p9 p9 - (u + 1) = i by omega]; exact rr_decr i) (by decide) rfl (fun ls hl => ?_)
                    refine lv_aload_n hx hb (pc := 106) dX10_layWord_106 rfl (lv_at hl 1 rfl) ?_
                    refine va_get (v := .ref (ad 20)) hx hb hts (inX10_layWord_10) hown hKK.1 hP 0 rfl rfl 20 (by decide) (hts _ (List.mem_of_getElem? (i := 1) (by decide +kernel))) (fun _ h9 => h9) rfl (pc := 107) dX10_layWord_107 ?_
                    refine lv_iload hx hb (pc := 110) dX10_layWord_110 (lv_at hl 4 rfl) ?_
                    refine nv_iald (v := nI (nt.getD (upP nt u p9) 0 / 4)) (i := (upP nt u p9)) hx hb hKK hP 17 rfl (by omega) (by decide) ((hNQ.2 _ (by omega) (by omega)).1) (pc := 112) dX10_layWord_112 ?_
                    refine lv_istore (lv' := [(5, .int (nI (nt.getD (upP nt u p9) 0 / 4))), (4, .int (dI (dpP nt p9 p9 - (u + 1)))), (0, .ref om), (1, .int (nI p9)), (2, .int (nI l9))]) hx hb (pc := 113) dX10_layWord_113 hl (by decide) rfl (fun ls hl => ?_)
                    refine lv_goto (tgt := 72) hx hb (pc := 115) dX10_layWord_115 (by decide) ?_
                    have hst3 : dpP nt p9 p9 = u + 1 + dpP nt (upP nt (u + 1) p9) (upP nt (u + 1) p9) := by rw [upP_succ, hu9, hst]; omega
                    have hl : lv_has ls 6 [(5, .int (nI (upP nt (u + 1) p9))), (4, .int (dI (dpP nt p9 p9 - (u + 1)))), (0, .ref om), (1, .int (nI p9)), (2, .int (nI l9))] := by rw [show upP nt (u + 1) p9 = nt.getD (upP nt u p9) 0 / 4 from upP_succ nt u p9]; exact hl
                    exact ih72 (u + 1) _ _ hP hD hS (by omega) (hst3) ls (lv_sub hl [2, 3, 4, 1, 0] rfl)
                  · refine lv_aload_n hx hb (pc := 89) dX10_layWord_89 rfl (lv_at hl 0 rfl) ?_
                    refine va_get (v := .ref (ad 5)) hx hb hts (inX10_layWord_10) hown hKK.1 hP 0 rfl rfl 5 (by decide) (hts _ (List.mem_of_getElem? (i := 3) (by decide +kernel))) (fun _ h9 => h9) rfl (pc := 90) dX10_layWord_90 ?_
                    refine lv_iload hx hb (pc := 93) dX10_layWord_93 (lv_at hl 3 rfl) ?_
                    refine lv_aload_n hx hb (pc := 95) dX10_layWord_95 rfl (lv_at hl 0 rfl) ?_
                    refine va_get (v := .ref (ad 21)) hx hb hts (inX10_layWord_10) hown hKK.1 hP 0 rfl rfl 21 (by decide) (hts _ (List.mem_of_getElem? (i := 4) (by decide +kernel))) (fun _ h9 => h9) rfl (pc := 96) dX10_layWord_96 ?_
                    refine lv_iload hx hb (pc := 99) dX10_layWord_99 (lv_at hl 4 rfl) ?_
                    refine nv_iald (v := nI (wdP nt p9 l9 i)) (i := (upP nt u p9)) hx hb hKK hP 18 rfl (by omega) (by decide) (congrArg nI ((hNQ.2 _ (by omega) (by omega)).2.trans hwd9.symm)) (pc := 101) dX10_layWord_101 ?_
                    refine nv_iast (f := (wdW nt p9 l9 (i + 1) WD)) (x := (wdP nt p9 l9 i)) (ws' := XM K om ad ns (min (dpP nt p9 p9 + 1) 30) nf wd mt kF nF yF (va_up (wdW nt p9 l9 (i + 1) WD) i (wdP nt p9 l9 i)) FL FW TD RW pl nw xt vF wF qF bY gF nm xm fR oF hF dF) (i := i) hx hb hKK hP hD hS 4 rfl (by omega) (by decide) (rfl) (pc := 102) dX10_layWord_102 (fun H locs hP hD hS => ?_)
                    first
                    | rw [wdW_put nt p9 l9 WD (i := i) (by omega) (by omega)] at hP hD
                    | rw [wdW_skip nt p9 l9 WD (i := i) (by omega)] at hP hD
                    rw [show i = dpP nt p9 p9 - (u + 1) by omega] at hP hD
                    refine lv_iinc (v := dI (dpP nt p9 p9 - (u + 1))) (lv' := [(4, .int (dI (dpP nt p9 p9 - (u + 1)))), (0, .ref om), (1, .int (nI p9)), (2, .int (nI l9)), (5, .int (nI (upP nt u p9)))]) hx hb (pc := 103) dX10_layWord_103 hl (k := 3) rfl (by rw [show dpP nt p9 p9 - (u + 1) = i by omega]; exact rr_decr i) (by decide) rfl (fun ls hl => ?_)
                    refine lv_aload_n hx hb (pc := 106) dX10_layWord_106 rfl (lv_at hl 1 rfl) ?_
                    refine va_get (v := .ref (ad 20)) hx hb hts (inX10_layWord_10) hown hKK.1 hP 0 rfl rfl 20 (by decide) (hts _ (List.mem_of_getElem? (i := 1) (by decide +kernel))) (fun _ h9 => h9) rfl (pc := 107) dX10_layWord_107 ?_
                    refine lv_iload hx hb (pc := 110) dX10_layWord_110 (lv_at hl 4 rfl) ?_
                    refine nv_iald (v := nI (nt.getD (upP nt u p9) 0 / 4)) (i := (upP nt u p9)) hx hb hKK hP 17 rfl (by omega) (by decide) ((hNQ.2 _ (by omega) (by omega)).1) (pc := 112) dX10_layWord_112 ?_
                    refine lv_istore (lv' := [(5, .int (nI (nt.getD (upP nt u p9) 0 / 4))), (4, .int (dI (dpP nt p9 p9 - (u + 1)))), (0, .ref om), (1, .int (nI p9)), (2, .int (nI l9))]) hx hb (pc := 113) dX10_layWord_113 hl (by decide) rfl (fun ls hl => ?_)
                    refine lv_goto (tgt := 72) hx hb (pc := 115) dX10_layWord_115 (by decide) ?_
                    have hst3 : dpP nt p9 p9 = u + 1 + dpP nt (upP nt (u + 1) p9) (upP nt (u + 1) p9) := by rw [upP_succ, hu9, hst]; omega
                    have hl : lv_has ls 6 [(5, .int (nI (upP nt (u + 1) p9))), (4, .int (dI (dpP nt p9 p9 - (u + 1)))), (0, .ref om), (1, .int (nI p9)), (2, .int (nI l9))] := by rw [show upP nt (u + 1) p9 = nt.getD (upP nt u p9) 0 / 4 from upP_succ nt u p9]; exact hl
                    exact ih72 (u + 1) _ _ hP hD hS (by omega) (hst3) ls (lv_sub hl [2, 3, 4, 1, 0] rfl)
            have hl : lv_has ls 6 [(5, .int (nI p9)), (4, .int (dI (dpP nt p9 p9 - 0))), (0, .ref om), (1, .int (nI p9)), (2, .int (nI l9)), (3, .int (nI (dpP nt p9 p9 + 1)))] := by rw [show dI (dpP nt p9 p9 - 0) = dI (dpP nt p9 p9) from by rw [Nat.sub_zero]]; exact hl
            have hl : lv_has ls 6 [(5, .int (nI (upP nt 0 p9))), (4, .int (dI (dpP nt p9 p9 - 0))), (0, .ref om), (1, .int (nI p9)), (2, .int (nI l9)), (3, .int (nI (dpP nt p9 p9 + 1)))] := by rw [show upP nt 0 p9 = p9 from rfl]; exact hl
            exact L72 (dpP nt p9 p9 + 1) 0 _ _ hP hD hS (by omega) (by show _ = 0 + dpP nt p9 p9; rw [Nat.zero_add]) ls (lv_sub hl [2, 3, 4, 1, 0] rfl)
        · refine lv_iload_n hx hb (pc := 37) dX10_layWord_37 rfl (lv_at hl 3 rfl) ?_
          refine lv_goto (tgt := 43) hx hb (pc := 38) dX10_layWord_38 (by decide) ?_
          refine rr_top (v := .int (nI (min (dpP nt p9 p9 + 1) 30))) (by first | (rw [Nat.min_eq_left (by omega)]; done) | (rw [Nat.min_eq_right (by omega)]; done)) ?_
          refine rr_put (v := .int (nI (min (dpP nt p9 p9 + 1) 30))) (ty := tyX10 4) (ws' := XM K om ad ns (min (dpP nt p9 p9 + 1) 30) nf wd mt kF nF yF WD FL FW TD RW pl nw xt vF wF qF bY gF nm xm fR oF hF dF) hx hb hts (inX10_layWord_10) tyX10 tyX10_ok nmX10 hown hKK.1 hP hD hS 0 rfl rfl 4 (by decide) (hts _ (List.mem_of_getElem? (i := 2) (by decide +kernel))) (fun _ h9 => h9) rfl (tyX10_ok 4 (by decide)) rfl rfl (Nat.le_of_ble_eq_true rfl) rfl (pc := 43) dX10_layWord_43 (fun H locs hP hD hS => ?_)
          refine lv_iload_n hx hb (pc := 46) dX10_layWord_46 rfl (lv_at hl 3 rfl) ?_
          refine lv_iconst (v := nI 1) hx hb (pc := 47) dX10_layWord_47 (by decide) ?_
          refine nv_isub (a := (dpP nt p9 p9 + 1)) (b := 1) hx hb (pc := 48) dX10_layWord_48 (by omega) ?_
          refine rr_top (v := .int (nI (dpP nt p9 p9))) (by rw [Nat.add_sub_cancel]) ?_
          refine lv_istore (lv' := [(4, .int (nI (dpP nt p9 p9))), (0, .ref om), (1, .int (nI p9)), (2, .int (nI l9)), (3, .int (nI (dpP nt p9 p9 + 1)))]) hx hb (pc := 49) dX10_layWord_49 hl (by decide) rfl (fun ls hl => ?_)
          refine lv_iload hx hb (pc := 51) dX10_layWord_51 (lv_at hl 0 rfl) ?_
          refine lv_bipush (v := nI 30) hx hb (pc := 53) dX10_layWord_53 (by decide) ?_
          refine nv_icmp_ge (a := (dpP nt p9 p9)) (b := 30) (tgt := 66) hx hb (pc := 55) dX10_layWord_55 (by decide) (by omega) (by omega) (fun c55 => ?_) (fun c55 => ?_)
          · have hwdl : wdP nt p9 l9 (dpP nt p9 p9) = l9 := if_pos rfl
            first
            | (rw [← wdW_top nt p9 l9 WD] at hP hD; rw [show va_up (wdW nt p9 l9 (dpP nt p9 p9 + 1) WD) (dpP nt p9 p9) l9 = wdW nt p9 l9 (dpP nt p9 p9) WD from by rw [← wdW_put nt p9 l9 WD (i := dpP nt p9 p9) (by omega) (by omega), hwdl]] at hP hD)
            | (rw [← wdW_top nt p9 l9 WD, wdW_skip nt p9 l9 WD (i := dpP nt p9 p9) (by omega)] at hP hD)
            refine lv_iinc (v := dI (dpP nt p9 p9)) (lv' := [(4, .int (dI (dpP nt p9 p9))), (0, .ref om), (1, .int (nI p9)), (2, .int (nI l9)), (3, .int (nI (dpP nt p9 p9 + 1)))]) hx hb (pc := 66) dX10_layWord_66 hl (k := 0) rfl (rr_decr _) (by decide) rfl (fun ls hl => ?_)
            refine lv_iload_n hx hb (pc := 69) dX10_layWord_69 rfl (lv_at hl 2 rfl) ?_
            refine lv_istore (lv' := [(5, .int (nI p9)), (4, .int (dI (dpP nt p9 p9))), (0, .ref om), (1, .int (nI p9)), (2, .int (nI l9)), (3, .int (nI (dpP nt p9 p9 + 1)))]) hx hb (pc := 70) dX10_layWord_70 hl (by decide) rfl (fun ls hl => ?_)
            have L72 : ∀ (fz : Nat) (u : Nat) (H : Heap) (locs : List Loc) (hP : va_P K.1 vwCl (XM K om ad ns (min (dpP nt p9 p9 + 1) 30) nf wd mt kF nF yF (wdW nt p9 l9 (dpP nt p9 p9 - u) WD) FL FW TD RW pl nw xt vF wF qF bY gF nm xm fR oF hF dF) H) (hD : va_D A (XM K om ad ns (min (dpP nt p9 p9 + 1) 30) nf wd mt kF nF yF (wdW nt p9 l9 (dpP nt p9 p9 - u) WD) FL FW TD RW pl nw xt vF wF qF bY gF nm xm fR oF hF dF)) (hS : va_S A s.heap H locs) (hfz : dpP nt p9 p9 - u < fz) (hu9 : dpP nt p9 p9 = u + dpP nt (upP nt u p9) (upP nt u p9)) (ls : Array Slot) (hl : lv_has ls 6 [(0, .ref om), (1, .int (nI p9)), (2, .int (nI l9)), (4, .int (dI (dpP nt p9 p9 - u))), (5, .int (nI (upP nt u p9)))]), W p l e rmX10_layWord s m args below meth c H locs 0 0 Q (F0 m 72 ls []) := by
              intro fz; induction fz with
              | zero => intro u H locs hP hD hS hfz hu9 ls hl; exact absurd hfz (Nat.not_lt_zero _)
              | succ fz ih72 =>
                intro u H locs hP hD hS hfz hu9 ls hl
                have hup2 := upP_le hnok h00 hpl9 u
                refine lv_aload_n hx hb (pc := 72) dX10_layWord_72 rfl (lv_at hl 0 rfl) ?_
                refine va_get (v := .ref (ad 20)) hx hb hts (inX10_layWord_10) hown hKK.1 hP 0 rfl rfl 20 (by decide) (hts _ (List.mem_of_getElem? (i := 1) (by decide +kernel))) (fun _ h9 => h9) rfl (pc := 73) dX10_layWord_73 ?_
                refine lv_iload hx hb (pc := 76) dX10_layWord_76 (lv_at hl 4 rfl) ?_
                refine nv_iald (v := fR (upP nt u p9)) (i := (upP nt u p9)) hx hb hKK hP 17 rfl (by omega) (by decide) (rfl) (pc := 78) dX10_layWord_78 ?_
                refine lv_if_lt (tgt := 118) hx hb (pc := 79) dX10_layWord_79 (by decide) (fun c79 => ?_) (fun c79 => ?_)
                · have hu0 : upP nt u p9 = 0 := Classical.byContradiction (fun h => by
                    rw [(hNQ.2 _ (by omega) (by omega)).1] at c79
                    exact absurd c79 (nI_pos (by have := getD_b hn31 (upP nt u p9); omega)))
                  have e8 : dpP nt p9 p9 - u = 0 := by rw [hu9, hu0]; show u + 0 - u = 0; omega
                  exact hret _ _ 0 0 118 _ dX10_layWord_118 (by omega) (by omega) hS (by rw [e8] at hP; exact hP)
                · have hu0 : ¬ upP nt u p9 = 0 := fun h => by
                    rw [h, hNQ.1] at c79
                    exact absurd c79 (by decide)
                  have hst := dpP_step hnok (show upP nt u p9 < nt.length by omega) hu0
                  obtain ⟨i, hi9⟩ : ∃ i, i = dpP nt p9 p9 - u - 1 := ⟨_, rfl⟩
                  have hd9 : dpP nt p9 p9 - u = i + 1 := by omega
                  have hup9 : upP nt (dpP nt p9 p9 - 1 - i) p9 = upP nt u p9 := by rw [show dpP nt p9 p9 - 1 - i = u by omega]
                  have hwd9 : wdP nt p9 l9 i = nt.getD (upP nt u p9) 0 % 4 := by unfold wdP; rw [if_neg (by omega), hup9]
                  rw [hd9] at hP hD
                  have hl : lv_has ls 6 [(0, .ref om), (1, .int (nI p9)), (2, .int (nI l9)), (4, .int (nI i)), (5, .int (nI (upP nt u p9)))] := by rw [← dI_succ i, ← hd9]; exact hl
                  refine lv_iload hx hb (pc := 82) dX10_layWord_82 (lv_at hl 3 rfl) ?_
                  refine lv_bipush (v := nI 30) hx hb (pc := 84) dX10_layWord_84 (by decide) ?_
                  refine nv_icmp_ge (a := i) (b := 30) (tgt := 103) hx hb (pc := 86) dX10_layWord_86 (by decide) (by omega) (by omega) (fun c86 => ?_) (fun c86 => ?_)
                  · first
                    | rw [wdW_put nt p9 l9 WD (i := i) (by omega) (by omega)] at hP hD
                    | rw [wdW_skip nt p9 l9 WD (i := i) (by omega)] at hP hD
                    rw [show i = dpP nt p9 p9 - (u + 1) by omega] at hP hD
                    refine lv_iinc (v := dI (dpP nt p9 p9 - (u + 1))) (lv' := [(4, .int (dI (dpP nt p9 p9 - (u + 1)))), (0, .ref om), (1, .int (nI p9)), (2, .int (nI l9)), (5, .int (nI (upP nt u p9)))]) hx hb (pc := 103) dX10_layWord_103 hl (k := 3) rfl (by rw [show dpP nt p9 p9 - (u + 1) = i by omega]; exact rr_decr i) (by decide) rfl (fun ls hl => ?_)
                    refine lv_aload_n hx hb (pc := 106) dX10_layWord_106 rfl (lv_at hl 1 rfl) ?_
                    refine va_get (v := .ref (ad 20)) hx hb hts (inX10_layWord_10) hown hKK.1 hP 0 rfl rfl 20 (by decide) (hts _ (List.mem_of_getElem? (i := 1) (by decide +kernel))) (fun _ h9 => h9) rfl (pc := 107) dX10_layWord_107 ?_
                    refine lv_iload hx hb (pc := 110) dX10_layWord_110 (lv_at hl 4 rfl) ?_
                    refine nv_iald (v := nI (nt.getD (upP nt u p9) 0 / 4)) (i := (upP nt u p9)) hx hb hKK hP 17 rfl (by omega) (by decide) ((hNQ.2 _ (by omega) (by omega)).1) (pc := 112) dX10_layWord_112 ?_
                    refine lv_istore (lv' := [(5, .int (nI (nt.getD (upP nt u p9) 0 / 4))), (4, .int (dI (dpP nt p9 p9 - (u + 1)))), (0, .ref om), (1, .int (nI p9)), (2, .int (nI l9))]) hx hb (pc := 113) dX10_layWord_113 hl (by decide) rfl (fun ls hl => ?_)
                    refine lv_goto (tgt := 72) hx hb (pc := 115) dX10_layWord_115 (by decide) ?_
                    have hst3 : dpP nt p9 p9 = u + 1 + dpP nt (upP nt (u + 1) p9) (upP nt (u + 1) p9) := by rw [upP_succ, hu9, hst]; omega
                    have hl : lv_has ls 6 [(5, .int (nI (upP nt (u + 1) p9))), (4, .int (dI (dpP nt p9 p9 - (u + 1)))), (0, .ref om), (1, .int (nI p9)), (2, .int (nI l9))] := by rw [show upP nt (u + 1) p9 = nt.getD (upP nt u p9) 0 / 4 from upP_succ nt u p9]; exact hl
                    exact ih72 (u + 1) _ _ hP hD hS (by omega) (hst3) ls (lv_sub hl [2, 3, 4, 1, 0] rfl)
                  · refine lv_aload_n hx hb (pc := 89) dX10_layWord_89 rfl (lv_at hl 0 rfl) ?_
                    refine va_get (v := .ref (ad 5)) hx hb hts (inX10_layWord_10) hown hKK.1 hP 0 rfl rfl 5 (by decide) (hts _ (List.mem_of_getElem? (i := 3) (by decide +kernel))) (fun _ h9 => h9) rfl (pc := 90) dX10_layWord_90 ?_
                    refine lv_iload hx hb (pc := 93) dX10_layWord_93 (lv_at hl 3 rfl) ?_
                    refine lv_aload_n hx hb (pc := 95) dX10_layWord_95 rfl (lv_at hl 0 rfl) ?_
                    refine va_get (v := .ref (ad 21)) hx hb hts (inX10_layWord_10) hown hKK.1 hP 0 rfl rfl 21 (by decide) (hts _ (List.mem_of_getElem? (i := 4) (by decide +kernel))) (fun _ h9 => h9) rfl (pc := 96) dX10_layWord_96 ?_
                    refine lv_iload hx hb (pc := 99) dX10_layWord_99 (lv_at hl 4 rfl) ?_
                    refine nv_iald (v := nI (wdP nt p9 l9 i)) (i := (upP nt u p9)) hx hb hKK hP 18 rfl (by omega) (by decide) (congrArg nI ((hNQ.2 _ (by omega) (by omega)).2.trans hwd9.symm)) (pc := 101) dX10_layWord_101 ?_
                    refine nv_iast (f := (wdW nt p9 l9 (i + 1) WD)) (x := (wdP nt p9 l9 i)) (ws' := XM K om ad ns (min (dpP nt p9 p9 + 1) 30) nf wd mt kF nF yF (va_up (wdW nt p9 l9 (i + 1) WD) i (wdP nt p9 l9 i)) FL FW TD RW pl nw xt vF wF qF bY gF nm xm fR oF hF dF) (i := i) hx hb hKK hP hD hS 4 rfl (by omega) (by decide) (rfl) (pc := 102) dX10_layWord_102 (fun H locs hP hD hS => ?_)
                    first
                    | rw [wdW_put nt p9 l9 WD (i := i) (by omega) (by omega)] at hP hD
                    | rw [wdW_skip nt p9 l9 WD (i := i) (by omega)] at hP hD
                    rw [show i = dpP nt p9 p9 - (u + 1) by omega] at hP hD
                    refine lv_iinc (v := dI (dpP nt p9 p9 - (u + 1))) (lv' := [(4, .int (dI (dpP nt p9 p9 - (u + 1)))), (0, .ref om), (1, .int (nI p9)), (2, .int (nI l9)), (5, .int (nI (upP nt u p9)))]) hx hb (pc := 103) dX10_layWord_103 hl (k := 3) rfl (by rw [show dpP nt p9 p9 - (u + 1) = i by omega]; exact rr_decr i) (by decide) rfl (fun ls hl => ?_)
                    refine lv_aload_n hx hb (pc := 106) dX10_layWord_106 rfl (lv_at hl 1 rfl) ?_
                    refine va_get (v := .ref (ad 20)) hx hb hts (inX10_layWord_10) hown hKK.1 hP 0 rfl rfl 20 (by decide) (hts _ (List.mem_of_getElem? (i := 1) (by decide +kernel))) (fun _ h9 => h9) rfl (pc := 107) dX10_layWord_107 ?_
                    refine lv_iload hx hb (pc := 110) dX10_layWord_110 (lv_at hl 4 rfl) ?_
                    refine nv_iald (v := nI (nt.getD (upP nt u p9) 0 / 4)) (i := (upP nt u p9)) hx hb hKK hP 17 rfl (by omega) (by decide) ((hNQ.2 _ (by omega) (by omega)).1) (pc := 112) dX10_layWord_112 ?_
                    refine lv_istore (lv' := [(5, .int (nI (nt.getD (upP nt u p9) 0 / 4))), (4, .int (dI (dpP nt p9 p9 - (u + 1)))), (0, .ref om), (1, .int (nI p9)), (2, .int (nI l9))]) hx hb (pc := 113) dX10_layWord_113 hl (by decide) rfl (fun ls hl => ?_)
                    refine lv_goto (tgt := 72) hx hb (pc := 115) dX10_layWord_115 (by decide) ?_
                    have hst3 : dpP nt p9 p9 = u + 1 + dpP nt (upP nt (u + 1) p9) (upP nt (u + 1) p9) := by rw [upP_succ, hu9, hst]; omega
                    have hl : lv_has ls 6 [(5, .int (nI (upP nt (u + 1) p9))), (4, .int (dI (dpP nt p9 p9 - (u + 1)))), (0, .ref om), (1, .int (nI p9)), (2, .int (nI l9))] := by rw [show upP nt (u + 1) p9 = nt.getD (upP nt u p9) 0 / 4 from upP_succ nt u p9]; exact hl
                    exact ih72 (u + 1) _ _ hP hD hS (by omega) (hst3) ls (lv_sub hl [2, 3, 4, 1, 0] rfl)
            have hl : lv_has ls 6 [(5, .int (nI p9)), (4, .int (dI (dpP nt p9 p9 - 0))), (0, .ref om), (1, .int (nI p9)), (2, .int (nI l9)), (3, .int (nI (dpP nt p9 p9 + 1)))] := by rw [show dI (dpP nt p9 p9 - 0) = dI (dpP nt p9 p9) from by rw [Nat.sub_zero]]; exact hl
            have hl : lv_has ls 6 [(5, .int (nI (upP nt 0 p9))), (4, .int (dI (dpP nt p9 p9 - 0))), (0, .ref om), (1, .int (nI p9)), (2, .int (nI l9)), (3, .int (nI (dpP nt p9 p9 + 1)))] := by rw [show upP nt 0 p9 = p9 from rfl]; exact hl
            exact L72 (dpP nt p9 p9 + 1) 0 _ _ hP hD hS (by omega) (by show _ = 0 + dpP nt p9 p9; rw [Nat.zero_add]) ls (lv_sub hl [2, 3, 4, 1, 0] rfl)
          · refine lv_aload_n hx hb (pc := 58) dX10_layWord_58 rfl (lv_at hl 1 rfl) ?_
            refine va_get (v := .ref (ad 5)) hx hb hts (inX10_layWord_10) hown hKK.1 hP 0 rfl rfl 5 (by decide) (hts _ (List.mem_of_getElem? (i := 3) (by decide +kernel))) (fun _ h9 => h9) rfl (pc := 59) dX10_layWord_59 ?_
            refine lv_iload hx hb (pc := 62) dX10_layWord_62 (lv_at hl 0 rfl) ?_
            refine lv_iload_n hx hb (pc := 64) dX10_layWord_64 rfl (lv_at hl 3 rfl) ?_
            refine nv_iast (f := WD) (x := l9) (ws' := XM K om ad ns (min (dpP nt p9 p9 + 1) 30) nf wd mt kF nF yF (va_up WD (dpP nt p9 p9) l9) FL FW TD RW pl nw xt vF wF qF bY gF nm xm fR oF hF dF) (i := (dpP nt p9 p9)) hx hb hKK hP hD hS 4 rfl (by omega) (by decide) (rfl) (pc := 65) dX10_layWord_65 (fun H locs hP hD hS => ?_)
            have hwdl : wdP nt p9 l9 (dpP nt p9 p9) = l9 := if_pos rfl
            first
            | (rw [← wdW_top nt p9 l9 WD] at hP hD; rw [show va_up (wdW nt p9 l9 (dpP nt p9 p9 + 1) WD) (dpP nt p9 p9) l9 = wdW nt p9 l9 (dpP nt p9 p9) WD from by rw [← wdW_put nt p9 l9 WD (i := dpP nt p9 p9) (by omega) (by omega), hwdl]] at hP hD)
            | (rw [← wdW_top nt p9 l9 WD, wdW_skip nt p9 l9 WD (i := dpP nt p9 p9) (by omega)] at hP hD)
            refine lv_iinc (v := dI (dpP nt p9 p9)) (lv' := [(4, .int (dI (dpP nt p9 p9))), (0, .ref om), (1, .int (nI p9)), (2, .int (nI l9)), (3, .int (nI (dpP nt p9 p9 + 1)))]) hx hb (pc := 66) dX10_layWord_66 hl (k := 0) rfl (rr_decr _) (by decide) rfl (fun ls hl => ?_)
            refine lv_iload_n hx hb (pc := 69) dX10_layWord_69 rfl (lv_at hl 2 rfl) ?_
            refine lv_istore (lv' := [(5, .int (nI p9)), (4, .int (dI (dpP nt p9 p9))), (0, .ref om), (1, .int (nI p9)), (2, .int (nI l9)), (3, .int (nI (dpP nt p9 p9 + 1)))]) hx hb (pc := 70) dX10_layWord_70 hl (by decide) rfl (fun ls hl => ?_)
            have L72 : ∀ (fz : Nat) (u : Nat) (H : Heap) (locs : List Loc) (hP : va_P K.1 vwCl (XM K om ad ns (min (dpP nt p9 p9 + 1) 30) nf wd mt kF nF yF (wdW nt p9 l9 (dpP nt p9 p9 - u) WD) FL FW TD RW pl nw xt vF wF qF bY gF nm xm fR oF hF dF) H) (hD : va_D A (XM K om ad ns (min (dpP nt p9 p9 + 1) 30) nf wd mt kF nF yF (wdW nt p9 l9 (dpP nt p9 p9 - u) WD) FL FW TD RW pl nw xt vF wF qF bY gF nm xm fR oF hF dF)) (hS : va_S A s.heap H locs) (hfz : dpP nt p9 p9 - u < fz) (hu9 : dpP nt p9 p9 = u + dpP nt (upP nt u p9) (upP nt u p9)) (ls : Array Slot) (hl : lv_has ls 6 [(0, .ref om), (1, .int (nI p9)), (2, .int (nI l9)), (4, .int (dI (dpP nt p9 p9 - u))), (5, .int (nI (upP nt u p9)))]), W p l e rmX10_layWord s m args below meth c H locs 0 0 Q (F0 m 72 ls []) := by
              intro fz; induction fz with
              | zero => intro u H locs hP hD hS hfz hu9 ls hl; exact absurd hfz (Nat.not_lt_zero _)
              | succ fz ih72 =>
                intro u H locs hP hD hS hfz hu9 ls hl
                have hup2 := upP_le hnok h00 hpl9 u
                refine lv_aload_n hx hb (pc := 72) dX10_layWord_72 rfl (lv_at hl 0 rfl) ?_
                refine va_get (v := .ref (ad 20)) hx hb hts (inX10_layWord_10) hown hKK.1 hP 0 rfl rfl 20 (by decide) (hts _ (List.mem_of_getElem? (i := 1) (by decide +kernel))) (fun _ h9 => h9) rfl (pc := 73) dX10_layWord_73 ?_
                refine lv_iload hx hb (pc := 76) dX10_layWord_76 (lv_at hl 4 rfl) ?_
                refine nv_iald (v := fR (upP nt u p9)) (i := (upP nt u p9)) hx hb hKK hP 17 rfl (by omega) (by decide) (rfl) (pc := 78) dX10_layWord_78 ?_
                refine lv_if_lt (tgt := 118) hx hb (pc := 79) dX10_layWord_79 (by decide) (fun c79 => ?_) (fun c79 => ?_)
                · have hu0 : upP nt u p9 = 0 := Classical.byContradiction (fun h => by
                    rw [(hNQ.2 _ (by omega) (by omega)).1] at c79
                    exact absurd c79 (nI_pos (by have := getD_b hn31 (upP nt u p9); omega)))
                  have e8 : dpP nt p9 p9 - u = 0 := by rw [hu9, hu0]; show u + 0 - u = 0; omega
                  exact hret _ _ 0 0 118 _ dX10_layWord_118 (by omega) (by omega) hS (by rw [e8] at hP; exact hP)
                · have hu0 : ¬ upP nt u p9 = 0 := fun h => by
                    rw [h, hNQ.1] at c79
                    exact absurd c79 (by decide)
                  have hst := dpP_step hnok (show upP nt u p9 < nt.length by omega) hu0
                  obtain ⟨i, hi9⟩ : ∃ i, i = dpP nt p9 p9 - u - 1 := ⟨_, rfl⟩
                  have hd9 : dpP nt p9 p9 - u = i + 1 := by omega
                  have hup9 : upP nt (dpP nt p9 p9 - 1 - i) p9 = upP nt u p9 := by rw [show dpP nt p9 p9 - 1 - i = u by omega]
                  have hwd9 : wdP nt p9 l9 i = nt.getD (upP nt u p9) 0 % 4 := by unfold wdP; rw [if_neg (by omega), hup9]
                  rw [hd9] at hP hD
                  have hl : lv_has ls 6 [(0, .ref om), (1, .int (nI p9)), (2, .int (nI l9)), (4, .int (nI i)), (5, .int (nI (upP nt u p9)))] := by rw [← dI_succ i, ← hd9]; exact hl
                  refine lv_iload hx hb (pc := 82) dX10_layWord_82 (lv_at hl 3 rfl) ?_
                  refine lv_bipush (v := nI 30) hx hb (pc := 84) dX10_layWord_84 (by decide) ?_
                  refine nv_icmp_ge (a := i) (b := 30) (tgt := 103) hx hb (pc := 86) dX10_layWord_86 (by decide) (by omega) (by omega) (fun c86 => ?_) (fun c86 => ?_)
                  · first
                    | rw [wdW_put nt p9 l9 WD (i := i) (by omega) (by omega)] at hP hD
                    | rw [wdW_skip nt p9 l9 WD (i := i) (by omega)] at hP hD
                    rw [show i = dpP nt p9 p9 - (u + 1) by omega] at hP hD
                    refine lv_iinc (v := dI (dpP nt p9 p9 - (u + 1))) (lv' := [(4, .int (dI (dpP nt p9 p9 - (u + 1)))), (0, .ref om), (1, .int (nI p9)), (2, .int (nI l9)), (5, .int (nI (upP nt u p9)))]) hx hb (pc := 103) dX10_layWord_103 hl (k := 3) rfl (by rw [show dpP nt p9 p9 - (u + 1) = i by omega]; exact rr_decr i) (by decide) rfl (fun ls hl => ?_)
                    refine lv_aload_n hx hb (pc := 106) dX10_layWord_106 rfl (lv_at hl 1 rfl) ?_
                    refine va_get (v := .ref (ad 20)) hx hb hts (inX10_layWord_10) hown hKK.1 hP 0 rfl rfl 20 (by decide) (hts _ (List.mem_of_getElem? (i := 1) (by decide +kernel))) (fun _ h9 => h9) rfl (pc := 107) dX10_layWord_107 ?_
                    refine lv_iload hx hb (pc := 110) dX10_layWord_110 (lv_at hl 4 rfl) ?_
                    refine nv_iald (v := nI (nt.getD (upP nt u p9) 0 / 4)) (i := (upP nt u p9)) hx hb hKK hP 17 rfl (by omega) (by decide) ((hNQ.2 _ (by omega) (by omega)).1) (pc := 112) dX10_layWord_112 ?_
                    refine lv_istore (lv' := [(5, .int (nI (nt.getD (upP nt u p9) 0 / 4))), (4, .int (dI (dpP nt p9 p9 - (u + 1)))), (0, .ref om), (1, .int (nI p9)), (2, .int (nI l9))]) hx hb (pc := 113) dX10_layWord_113 hl (by decide) rfl (fun ls hl => ?_)
                    refine lv_goto (tgt := 72) hx hb (pc := 115) dX10_layWord_115 (by decide) ?_
                    have hst3 : dpP nt p9 p9 = u + 1 + dpP nt (upP nt (u + 1) p9) (upP nt (u + 1) p9) := by rw [upP_succ, hu9, hst]; omega
                    have hl : lv_has ls 6 [(5, .int (nI (upP nt (u + 1) p9))), (4, .int (dI (dpP nt p9 p9 - (u + 1)))), (0, .ref om), (1, .int (nI p9)), (2, .int (nI l9))] := by rw [show upP nt (u + 1) p9 = nt.getD (upP nt u p9) 0 / 4 from upP_succ nt u p9]; exact hl
                    exact ih72 (u + 1) _ _ hP hD hS (by omega) (hst3) ls (lv_sub hl [2, 3, 4, 1, 0] rfl)
                  · refine lv_aload_n hx hb (pc := 89) dX10_layWord_89 rfl (lv_at hl 0 rfl) ?_
                    refine va_get (v := .ref (ad 5)) hx hb hts (inX10_layWord_10) hown hKK.1 hP 0 rfl rfl 5 (by decide) (hts _ (List.mem_of_getElem? (i := 3) (by decide +kernel))) (fun _ h9 => h9) rfl (pc := 90) dX10_layWord_90 ?_
                    refine lv_iload hx hb (pc := 93) dX10_layWord_93 (lv_at hl 3 rfl) ?_
                    refine lv_aload_n hx hb (pc := 95) dX10_layWord_95 rfl (lv_at hl 0 rfl) ?_
                    refine va_get (v := .ref (ad 21)) hx hb hts (inX10_layWord_10) hown hKK.1 hP 0 rfl rfl 21 (by decide) (hts _ (List.mem_of_getElem? (i := 4) (by decide +kernel))) (fun _ h9 => h9) rfl (pc := 96) dX10_layWord_96 ?_
                    refine lv_iload hx hb (pc := 99) dX10_layWord_99 (lv_at hl 4 rfl) ?_
                    refine nv_iald (v := nI (wdP nt p9 l9 i)) (i := (upP nt u p9)) hx hb hKK hP 18 rfl (by omega) (by decide) (congrArg nI ((hNQ.2 _ (by omega) (by omega)).2.trans hwd9.symm)) (pc := 101) dX10_layWord_101 ?_
                    refine nv_iast (f := (wdW nt p9 l9 (i + 1) WD)) (x := (wdP nt p9 l9 i)) (ws' := XM K om ad ns (min (dpP nt p9 p9 + 1) 30) nf wd mt kF nF yF (va_up (wdW nt p9 l9 (i + 1) WD) i (wdP nt p9 l9 i)) FL FW TD RW pl nw xt vF wF qF bY gF nm xm fR oF hF dF) (i := i) hx hb hKK hP hD hS 4 rfl (by omega) (by decide) (rfl) (pc := 102) dX10_layWord_102 (fun H locs hP hD hS => ?_)
                    first
                    | rw [wdW_put nt p9 l9 WD (i := i) (by omega) (by omega)] at hP hD
                    | rw [wdW_skip nt p9 l9 WD (i := i) (by omega)] at hP hD
                    rw [show i = dpP nt p9 p9 - (u + 1) by omega] at hP hD
                    refine lv_iinc (v := dI (dpP nt p9 p9 - (u + 1))) (lv' := [(4, .int (dI (dpP nt p9 p9 - (u + 1)))), (0, .ref om), (1, .int (nI p9)), (2, .int (nI l9)), (5, .int (nI (upP nt u p9)))]) hx hb (pc := 103) dX10_layWord_103 hl (k := 3) rfl (by rw [show dpP nt p9 p9 - (u + 1) = i by omega]; exact rr_decr i) (by decide) rfl (fun ls hl => ?_)
                    refine lv_aload_n hx hb (pc := 106) dX10_layWord_106 rfl (lv_at hl 1 rfl) ?_
                    refine va_get (v := .ref (ad 20)) hx hb hts (inX10_layWord_10) hown hKK.1 hP 0 rfl rfl 20 (by decide) (hts _ (List.mem_of_getElem? (i := 1) (by decide +kernel))) (fun _ h9 => h9) rfl (pc := 107) dX10_layWord_107 ?_
                    refine lv_iload hx hb (pc := 110) dX10_layWord_110 (lv_at hl 4 rfl) ?_
                    refine nv_iald (v := nI (nt.getD (upP nt u p9) 0 / 4)) (i := (upP nt u p9)) hx hb hKK hP 17 rfl (by omega) (by decide) ((hNQ.2 _ (by omega) (by omega)).1) (pc := 112) dX10_layWord_112 ?_
                    refine lv_istore (lv' := [(5, .int (nI (nt.getD (upP nt u p9) 0 / 4))), (4, .int (dI (dpP nt p9 p9 - (u + 1)))), (0, .ref om), (1, .int (nI p9)), (2, .int (nI l9))]) hx hb (pc := 113) dX10_layWord_113 hl (by decide) rfl (fun ls hl => ?_)
                    refine lv_goto (tgt := 72) hx hb (pc := 115) dX10_layWord_115 (by decide) ?_
                    have hst3 : dpP nt p9 p9 = u + 1 + dpP nt (upP nt (u + 1) p9) (upP nt (u + 1) p9) := by rw [upP_succ, hu9, hst]; omega
                    have hl : lv_has ls 6 [(5, .int (nI (upP nt (u + 1) p9))), (4, .int (dI (dpP nt p9 p9 - (u + 1)))), (0, .ref om), (1, .int (nI p9)), (2, .int (nI l9))] := by rw [show upP nt (u + 1) p9 = nt.getD (upP nt u p9) 0 / 4 from upP_succ nt u p9]; exact hl
                    exact ih72 (u + 1) _ _ hP hD hS (by omega) (hst3) ls (lv_sub hl [2, 3, 4, 1, 0] rfl)
            have hl : lv_has ls 6 [(5, .int (nI p9)), (4, .int (dI (dpP nt p9 p9 - 0))), (0, .ref om), (1, .int (nI p9)), (2, .int (nI l9)), (3, .int (nI (dpP nt p9 p9 + 1)))] := by rw [show dI (dpP nt p9 p9 - 0) = dI (dpP nt p9 p9) from by rw [Nat.sub_zero]]; exact hl
            have hl : lv_has ls 6 [(5, .int (nI (upP nt 0 p9))), (4, .int (dI (dpP nt p9 p9 - 0))), (0, .ref om), (1, .int (nI p9)), (2, .int (nI l9)), (3, .int (nI (dpP nt p9 p9 + 1)))] := by rw [show upP nt 0 p9 = p9 from rfl]; exact hl
            exact L72 (dpP nt p9 p9 + 1) 0 _ _ hP hD hS (by omega) (by show _ = 0 + dpP nt p9 p9; rw [Nat.zero_add]) ls (lv_sub hl [2, 3, 4, 1, 0] rfl)
      · have hu0 : ¬ upP nt t p9 = 0 := fun h => by
          rw [h, hNQ.1] at c12
          exact absurd c12 (by decide)
        refine lv_iinc (v := nI (t + 2)) (lv' := [(3, .int (nI (t + 2))), (0, .ref om), (1, .int (nI p9)), (2, .int (nI l9)), (4, .int (nI (upP nt t p9)))]) hx hb (pc := 15) dX10_layWord_15 hl (k := 3) rfl (rr_inc _) (by decide) rfl (fun ls hl => ?_)
        refine lv_aload_n hx hb (pc := 18) dX10_layWord_18 rfl (lv_at hl 1 rfl) ?_
        refine va_get (v := .ref (ad 20)) hx hb hts (inX10_layWord_10) hown hKK.1 hP 0 rfl rfl 20 (by decide) (hts _ (List.mem_of_getElem? (i := 1) (by decide +kernel))) (fun _ h9 => h9) rfl (pc := 19) dX10_layWord_19 ?_
        refine lv_iload hx hb (pc := 22) dX10_layWord_22 (lv_at hl 4 rfl) ?_
        refine nv_iald (v := nI (nt.getD (upP nt t p9) 0 / 4)) (i := (upP nt t p9)) hx hb hKK hP 17 rfl (by omega) (by decide) ((hNQ.2 _ (by omega) (by omega)).1) (pc := 24) dX10_layWord_24 ?_
        refine lv_istore (lv' := [(4, .int (nI (nt.getD (upP nt t p9) 0 / 4))), (3, .int (nI (t + 2))), (0, .ref om), (1, .int (nI p9)), (2, .int (nI l9))]) hx hb (pc := 25) dX10_layWord_25 hl (by decide) rfl (fun ls hl => ?_)
        refine lv_goto (tgt := 5) hx hb (pc := 27) dX10_layWord_27 (by decide) ?_
        have hst := dpP_step hnok (show upP nt t p9 < nt.length by omega) hu0
        have hst2 : dpP nt p9 p9 = t + 1 + dpP nt (upP nt (t + 1) p9) (upP nt (t + 1) p9) := by rw [upP_succ, ht, hst]; omega
        have hl : lv_has ls 6 [(4, .int (nI (upP nt (t + 1) p9))), (3, .int (nI (t + 2))), (0, .ref om), (1, .int (nI p9)), (2, .int (nI l9))] := by rw [show upP nt (t + 1) p9 = nt.getD (upP nt t p9) 0 / 4 from upP_succ nt t p9]; exact hl
        exact ih5 (t + 1) _ _ hP hD hS (by omega) (hst2) ls (lv_sub hl [2, 3, 4, 1, 0] rfl)
  have hl : lv_has ls 6 [(4, .int (nI p9)), (3, .int (nI (0 + 1))), (0, .ref om), (1, .int (nI p9)), (2, .int (nI l9))] := by rw [show 0 + 1 = 1 from rfl]; exact hl
  have hl : lv_has ls 6 [(4, .int (nI (upP nt 0 p9))), (3, .int (nI (0 + 1))), (0, .ref om), (1, .int (nI p9)), (2, .int (nI l9))] := by rw [show upP nt 0 p9 = p9 from rfl]; exact hl
  exact L5 (dpP nt p9 p9 + 1) 0 _ _ hP hD hS (by omega) (by show _ = 0 + dpP nt p9 p9; rw [Nat.zero_add]) ls (lv_sub hl [2, 3, 4, 1, 0] rfl)

