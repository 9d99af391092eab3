abbrev rmX10_newSet : Room := { frames := 0, cells := 0, slots := 0, locals := 0 }
theorem inX10_newSet_10 : ∀ w ∈ wsX100, w ∈ wsX10_newSet := fun _ h => List.mem_cons_of_mem _ (List.mem_append_right _ h)
set_option maxHeartbeats 4000000 in
set_option maxRecDepth 100000 in
theorem c_X10_newSet (l : Launch) (K : rr_K) (A : Nat → Prop) (om : Nat) (ad : Nat → Nat) (ns wl nf wd mt : Nat) (kF nF yF WD FL FW TD RW pl nw xt vF wF qF bY gF : Nat → Nat) (nm xm : Nat → Int64) (fR oF hF dF : Nat → Int32) (k n : Nat) (hns : ns < 6) (hD : va_D A (XM K om ad ns wl nf wd mt kF nF yF WD FL FW TD RW pl nw xt vF wF qF bY gF nm xm fR oF hF dF)) : MetR l K yX10_newSet wsX10_newSet rmX10_newSet [.ref om, .int (nI k), .int (nI n)] (fun H => va_P K.1 vwCl (XM K om ad ns wl nf wd mt kF nF yF WD FL FW TD RW pl nw xt vF wF qF bY gF nm xm fR oF hF dF) H) A (fun v H => v = .int (nI ns) ∧ va_P K.1 vwCl (XM K om ad (ns + 1) wl nf wd mt (va_up kF ns k) (va_up nF ns n) (zrF yF (64 * ns) 64) WD FL FW TD RW pl nw xt vF wF qF bY gF nm xm fR oF hF dF) H) 0 0 := by
  refine metR_of (cc := cX10_newSet) (maxL := 4) (ret := (some .int)) (rt := .int) (by decide) rfl rfl rfl rfl (Nat.le_of_ble_eq_true rfl) ?_
  intro p e s m args below meth c Q ls hEnt hKK hX hret hl
  obtain ⟨hx, hb, hml, hown, hts⟩ := hEnt
  have hP : va_P K.1 vwCl (XM K om ad ns wl nf wd mt kF nF yF WD FL FW TD RW pl nw xt vF wF qF bY gF nm xm fR oF hF dF) s.heap := hX
  have hl : lv_has ls 4 [(0, .ref om), (1, .int (nI k)), (2, .int (nI n))] := hl
  have hS : va_S A s.heap s.heap [] := va_S.rf
  refine lv_aload_n hx hb (pc := 0) dX10_newSet_0 rfl (lv_at hl 0 rfl) ?_
  refine va_get (v := .ref (ad 1)) hx hb hts (inX10_newSet_10) hown hKK.1 hP 0 rfl rfl 1 (by decide) (hts _ (List.mem_of_getElem? (i := 1) (by decide +kernel))) (fun _ h9 => h9) rfl (pc := 1) dX10_newSet_1 ?_
  refine lv_aload_n hx hb (pc := 4) dX10_newSet_4 rfl (lv_at hl 0 rfl) ?_
  refine va_get (v := .int (nI ns)) hx hb hts (inX10_newSet_10) hown hKK.1 hP 0 rfl rfl 0 (by decide) (hts _ (List.mem_of_getElem? (i := 2) (by decide +kernel))) (fun _ h9 => h9) rfl (pc := 5) dX10_newSet_5 ?_
  refine lv_iload_n hx hb (pc := 8) dX10_newSet_8 rfl (lv_at hl 1 rfl) ?_
  refine nv_iast (f := kF) (x := k) (ws' := XM K om ad ns wl nf wd mt (va_up kF ns k) nF yF WD FL FW TD RW pl nw xt vF wF qF bY gF nm xm fR oF hF dF) (i := ns) hx hb hKK hP hD hS 1 rfl (by omega) (by decide) (rfl) (pc := 9) dX10_newSet_9 (fun H locs hP hD hS => ?_)
  refine lv_aload_n hx hb (pc := 10) dX10_newSet_10 rfl (lv_at hl 0 rfl) ?_
  refine va_get (v := .ref (ad 2)) hx hb hts (inX10_newSet_10) hown hKK.1 hP 0 rfl rfl 2 (by decide) (hts _ (List.mem_of_getElem? (i := 3) (by decide +kernel))) (fun _ h9 => h9) rfl (pc := 11) dX10_newSet_11 ?_
  refine lv_aload_n hx hb (pc := 14) dX10_newSet_14 rfl (lv_at hl 0 rfl) ?_
  refine va_get (v := .int (nI ns)) hx hb hts (inX10_newSet_10) hown hKK.1 hP 0 rfl rfl 0 (by decide) (hts _ (List.mem_of_getElem? (i := 2) (by decide +kernel))) (fun _ h9 => h9) rfl (pc := 15) dX10_newSet_15 ?_
  refine lv_iload_n hx hb (pc := 18) dX10_newSet_18 rfl (lv_at hl 2 rfl) ?_
  refine nv_iast (f := nF) (x := n) (ws' := XM K om ad ns wl nf wd mt (va_up kF ns k) (va_up nF ns n) yF WD FL FW TD RW pl nw xt vF wF qF bY gF nm xm fR oF hF dF) (i := ns) hx hb hKK hP hD hS 2 rfl (by omega) (by decide) (rfl) (pc := 19) dX10_newSet_19 (fun H locs hP hD hS => ?_)
  refine lv_iconst (v := nI 0) hx hb (pc := 20) dX10_newSet_20 (by decide) ?_
  refine lv_istore_n (lv' := [(3, .int (nI 0)), (0, .ref om), (1, .int (nI k)), (2, .int (nI n))]) hx hb (pc := 21) dX10_newSet_21 rfl hl (by decide) rfl (fun ls hl => ?_)
  have L22 : ∀ (fz : Nat) (i : Nat) (H : Heap) (locs : List Loc) (hP : va_P K.1 vwCl (XM K om ad ns wl nf wd mt (va_up kF ns k) (va_up nF ns n) (zrF yF (64 * ns) i) WD FL FW TD RW pl nw xt vF wF qF bY gF nm xm fR oF hF dF) H) (hD : va_D A (XM K om ad ns wl nf wd mt (va_up kF ns k) (va_up nF ns n) (zrF yF (64 * ns) i) WD FL FW TD RW pl nw xt vF wF qF bY gF nm xm fR oF hF dF)) (hS : va_S A s.heap H locs) (hfz : 64 - i < fz) (hi : i ≤ 64) (ls : Array Slot) (hl : lv_has ls 4 [(0, .ref om), (3, .int (nI i))]), W p l e rmX10_newSet s m args below meth c H locs 0 0 Q (F0 m 22 ls []) := by
    intro fz; induction fz with
    | zero => intro i H locs hP hD hS hfz hi ls hl; exact absurd hfz (Nat.not_lt_zero _)
    | succ fz ih22 =>
      intro i H locs hP hD hS hfz hi ls hl
      refine lv_iload_n hx hb (pc := 22) dX10_newSet_22 rfl (lv_at hl 1 rfl) ?_
      refine lv_bipush (v := nI 64) hx hb (pc := 23) dX10_newSet_23 (by decide) ?_
      refine nv_icmp_ge (a := i) (b := 64) (tgt := 49) hx hb (pc := 25) dX10_newSet_25 (by decide) (by omega) (by omega) (fun c25 => ?_) (fun c25 => ?_)
      · refine lv_aload_n hx hb (pc := 49) dX10_newSet_49 rfl (lv_at hl 0 rfl) ?_
        refine lv_dup hx hb (pc := 50) dX10_newSet_50 rfl ?_
        refine va_get (v := .int (nI ns)) hx hb hts (inX10_newSet_10) hown hKK.1 hP 0 rfl rfl 0 (by decide) (hts _ (List.mem_of_getElem? (i := 2) (by decide +kernel))) (fun _ h9 => h9) rfl (pc := 51) dX10_newSet_51 ?_
        refine lv_iconst (v := nI 1) hx hb (pc := 54) dX10_newSet_54 (by decide) ?_
        refine nv_iadd (a := ns) (b := 1) hx hb (pc := 55) dX10_newSet_55 ?_
        refine rr_put (v := .int (nI (ns + 1))) (ty := tyX10 0) (ws' := XM K om ad (ns + 1) wl nf wd mt (va_up kF ns k) (va_up nF ns n) (zrF yF (64 * ns) i) WD FL FW TD RW pl nw xt vF wF qF bY gF nm xm fR oF hF dF) hx hb hts (inX10_newSet_10) tyX10 tyX10_ok nmX10 hown hKK.1 hP hD hS 0 rfl rfl 0 (by decide) (hts _ (List.mem_of_getElem? (i := 2) (by decide +kernel))) (fun _ h9 => h9) rfl (tyX10_ok 0 (by decide)) rfl rfl (Nat.le_of_ble_eq_true rfl) rfl (pc := 56) dX10_newSet_56 (fun H locs hP hD hS => ?_)
        refine lv_aload_n hx hb (pc := 59) dX10_newSet_59 rfl (lv_at hl 0 rfl) ?_
        refine va_get (v := .int (nI (ns + 1))) hx hb hts (inX10_newSet_10) hown hKK.1 hP 0 rfl rfl 0 (by decide) (hts _ (List.mem_of_getElem? (i := 2) (by decide +kernel))) (fun _ h9 => h9) rfl (pc := 60) dX10_newSet_60 ?_
        refine lv_iconst (v := nI 1) hx hb (pc := 63) dX10_newSet_63 (by decide) ?_
        refine nv_isub (a := (ns + 1)) (b := 1) hx hb (pc := 64) dX10_newSet_64 (by omega) ?_
        have e9 : i = 64 := by omega
        exact hret.1 _ _ 0 0 65 _ (nI ((ns + 1) - 1)) dX10_newSet_65 (by omega) (by omega) hS (⟨by rw [Nat.add_sub_cancel], by rw [e9] at hP; exact hP⟩) (rfl)
      · refine lv_aload_n hx hb (pc := 28) dX10_newSet_28 rfl (lv_at hl 0 rfl) ?_
        refine va_get (v := .ref (ad 3)) hx hb hts (inX10_newSet_10) hown hKK.1 hP 0 rfl rfl 3 (by decide) (hts _ (List.mem_of_getElem? (i := 4) (by decide +kernel))) (fun _ h9 => h9) rfl (pc := 29) dX10_newSet_29 ?_
        refine lv_bipush (v := nI 64) hx hb (pc := 32) dX10_newSet_32 (by decide) ?_
        refine lv_aload_n hx hb (pc := 34) dX10_newSet_34 rfl (lv_at hl 0 rfl) ?_
        refine va_get (v := .int (nI ns)) hx hb hts (inX10_newSet_10) hown hKK.1 hP 0 rfl rfl 0 (by decide) (hts _ (List.mem_of_getElem? (i := 2) (by decide +kernel))) (fun _ h9 => h9) rfl (pc := 35) dX10_newSet_35 ?_
        refine nv_imul (a := 64) (b := ns) hx hb (pc := 38) dX10_newSet_38 ?_
        refine lv_iload_n hx hb (pc := 39) dX10_newSet_39 rfl (lv_at hl 1 rfl) ?_
        refine nv_iadd (a := (64 * ns)) (b := i) hx hb (pc := 40) dX10_newSet_40 ?_
        refine lv_iconst (v := nI 0) hx hb (pc := 41) dX10_newSet_41 (by decide) ?_
        refine nv_iast (f := (zrF yF (64 * ns) i)) (x := 0) (ws' := XM K om ad ns wl nf wd mt (va_up kF ns k) (va_up nF ns n) (va_up (zrF yF (64 * ns) i) ((64 * ns) + i) 0) WD FL FW TD RW pl nw xt vF wF qF bY gF nm xm fR oF hF dF) (i := ((64 * ns) + i)) hx hb hKK hP hD hS 3 rfl (by omega) (by decide) (rfl) (pc := 42) dX10_newSet_42 (fun H locs hP hD hS => ?_)
        refine lv_iinc (v := nI (i + 1)) (lv' := [(3, .int (nI (i + 1))), (0, .ref om)]) hx hb (pc := 43) dX10_newSet_43 hl (k := 1) rfl (rr_inc _) (by decide) rfl (fun ls hl => ?_)
        refine lv_goto (tgt := 22) hx hb (pc := 46) dX10_newSet_46 (by decide) ?_
        rw [zrF_step yF (64 * ns) i] at hP hD
        exact ih22 (i + 1) _ _ hP hD hS (by omega) (by omega) ls (lv_sub hl [1, 0] rfl)
  rw [← zrF_0 yF (64 * ns)] at hP hD
  exact L22 (65) 0 _ _ hP hD hS (by omega) (Nat.zero_le _) ls (lv_sub hl [1, 0] rfl)

abbrev rmX10_set : Room := { frames := 1, cells := 0, slots := 0, locals := 23 }
theorem inX10_set_10 : ∀ w ∈ wsX100, w ∈ wsX10_set := fun _ h => List.mem_cons_of_mem _ (List.mem_append_right _ h)
set_option maxHeartbeats 4000000 in
set_option maxRecDepth 100000 in
theorem c_X10_set (l : Launch) (K : rr_K) (A : Nat → Prop) (om : Nat) (ad : Nat → Nat) (ns wl nf wd mt : Nat) (kF nF yF WD FL FW TD RW pl nw xt vF wF qF bY gF : Nat → Nat) (nm xm : Nat → Int64) (fR oF hF dF : Nat → Int32) (x y : Int32) (hns : ns ≤ 6) (hD : va_D A (XM K om ad ns wl nf wd mt kF nF yF WD FL FW TD RW pl nw xt vF wF qF bY gF nm xm fR oF hF dF)) : MetR l K yX10_set wsX10_set rmX10_set [.ref om, .int x, .int y] (fun H => va_P K.1 vwCl (XM K om ad ns wl nf wd mt kF nF yF WD FL FW TD RW pl nw xt vF wF qF bY gF nm xm fR oF hF dF) H) A (fun v H => v = .int (setA ns x y) ∧ va_P K.1 vwCl (XM K om ad (cond (setOK ns x y) (ns + 1) ns) wl nf wd mt (cond (setOK ns x y) (va_up kF ns (cN x)) kF) (cond (setOK ns x y) (va_up nF ns (cN y)) nF) (cond (setOK ns x y) (zrF yF (64 * ns) 64) yF) WD FL FW TD RW pl nw xt vF wF qF bY gF nm xm fR oF hF dF) H) 0 0 := by
  refine metR_of (cc := cX10_set) (maxL := 3) (ret := (some .int)) (rt := .int) (by decide) rfl rfl rfl rfl (Nat.le_of_ble_eq_true rfl) ?_
  intro p e s m args below meth c Q ls hEnt hKK hX hret hl
  obtain ⟨hx, hb, hml, hown, hts⟩ := hEnt
  have hP : va_P K.1 vwCl (XM K om ad ns wl nf wd mt kF nF yF WD FL FW TD RW pl nw xt vF wF qF bY gF nm xm fR oF hF dF) s.heap := hX
  have hl : lv_has ls 3 [(0, .ref om), (1, .int x), (2, .int y)] := hl
  have hS : va_S A s.heap s.heap [] := va_S.rf
  refine lv_iload_n hx hb (pc := 0) dX10_set_0 rfl (lv_at hl 1 rfl) ?_
  refine lv_iconst (v := nI 2) hx hb (pc := 1) dX10_set_1 (by decide) ?_
  refine lv_iconst (v := nI 4) hx hb (pc := 2) dX10_set_2 (by decide) ?_
  refine rr_callP (rv := .int (bI (rrin x (nI 2) (nI 4)))) (pc := 3) (va_runS (As := [.int x, .int (nI 2), .int (nI 4)]) (rest := []) ⟨hx, hb, hml, hown, hts⟩ (c_X10_in l K x (nI 2) (nI 4)) (cwS 3 hts gX10_set_X10_in rfl rfl rfl (by decide +kernel) ⟨Nat.le_of_ble_eq_true rfl, Nat.le_of_ble_eq_true rfl⟩) (rr_preS hKK (trivial)) rfl rfl hl.1 rfl (lv_room (Nat.le_of_ble_eq_true rfl)) dX10_set_3 ⟨Nat.le_refl _, Nat.le_refl _⟩) ?_
  refine nv_if_eq_b (a := (rrin x (nI 2) (nI 4))) (tgt := 19) hx hb (pc := 6) dX10_set_6 (by decide) (fun c6 => ?_) (fun c6 => ?_)
  · refine lv_bipush (v := -2) hx hb (pc := 19) dX10_set_19 (by decide) ?_
    have hc : (rrin x (nI 2) (nI 4) && rrin y (nI 1) (nI 16)) = false := by first | (rw [c6, c16]; rfl) | (rw [c6]; rfl)
    have hb : setOK ns x y = false := by unfold setOK; rw [hc]; rfl
    exact hret.1 _ _ 0 0 21 _ (-2) dX10_set_21 (by omega) (by omega) hS (⟨by unfold setA; rw [if_neg (by rw [hc]; decide)], by rw [hb]; exact hP⟩) (rfl)
  · refine lv_iload_n hx hb (pc := 9) dX10_set_9 rfl (lv_at hl 2 rfl) ?_
    refine lv_iconst (v := nI 1) hx hb (pc := 10) dX10_set_10 (by decide) ?_
    refine lv_bipush (v := nI 16) hx hb (pc := 11) dX10_set_11 (by decide) ?_
    refine rr_callP (rv := .int (bI (rrin y (nI 1) (nI 16)))) (pc := 13) (va_runS (As := [.int y, .int (nI 1), .int (nI 16)]) (rest := []) ⟨hx, hb, hml, hown, hts⟩ (c_X10_in l K y (nI 1) (nI 16)) (cwS 3 hts gX10_set_X10_in rfl rfl rfl (by decide +kernel) ⟨Nat.le_of_ble_eq_true rfl, Nat.le_of_ble_eq_true rfl⟩) (rr_preS hKK (trivial)) rfl rfl hl.1 rfl (lv_room (Nat.le_of_ble_eq_true rfl)) dX10_set_13 ⟨Nat.le_refl _, Nat.le_refl _⟩) ?_
    refine nv_if_ne_b (a := (rrin y (nI 1) (nI 16))) (tgt := 22) hx hb (pc := 16) dX10_set_16 (by decide) (fun c16 => ?_) (fun c16 => ?_)
    · have hc : (rrin x (nI 2) (nI 4) && rrin y (nI 1) (nI 16)) = true := by rw [c6, c16]; rfl
      obtain ⟨k, hk1, hk2, hxk⟩ := rrin_Nat (by decide) (by decide) c6
      obtain ⟨n, hn1, hn2, hyn⟩ := rrin_Nat (by decide) (by decide) c16
      have ekx : cN x = k := by rw [hxk]; exact cN_nI (by omega)
      have eny : cN y = n := by rw [hyn]; exact cN_nI (by omega)
      refine lv_aload_n hx hb (pc := 22) dX10_set_22 rfl (lv_at hl 0 rfl) ?_
      refine va_get (v := .int (nI ns)) hx hb hts (inX10_set_10) hown hKK.1 hP 0 rfl rfl 0 (by decide) (hts _ (List.mem_of_getElem? (i := 1) (by decide +kernel))) (fun _ h9 => h9) rfl (pc := 23) dX10_set_23 ?_
      refine lv_bipush (v := nI 6) hx hb (pc := 26) dX10_set_26 (by decide) ?_
      refine nv_icmp_ne (a := ns) (b := 6) (tgt := 36) hx hb (pc := 28) dX10_set_28 (by decide) (by omega) (by omega) (fun c28 => ?_) (fun c28 => ?_)
      · refine lv_aload_n hx hb (pc := 36) dX10_set_36 rfl (lv_at hl 0 rfl) ?_
        refine lv_iload_n hx hb (pc := 37) dX10_set_37 rfl (lv_at hl 1 rfl) ?_
        refine rr_top (v := .int (nI k)) (by rw [hxk]) ?_
        refine lv_iload_n hx hb (pc := 38) dX10_set_38 rfl (lv_at hl 2 rfl) ?_
        refine rr_top (v := .int (nI n)) (by rw [hyn]) ?_
        refine rr_callR (pc := 39) (va_runV (As := [.int (nI k), .int (nI n)]) (rest := []) ⟨hx, hb, hml, hown, hts⟩ (c_X10_newSet l K A om ad ns wl nf wd mt kF nF yF WD FL FW TD RW pl nw xt vF wF qF bY gF nm xm fR oF hF dF k n (by omega) hD) (cwV 2 hts gX10_set_X10_newSet rfl rfl rfl (by decide +kernel) ⟨Nat.le_of_ble_eq_true rfl, Nat.le_of_ble_eq_true rfl⟩) (rr_preV hKK (hP) (va_recv hKK.1 hP (ci := 10) (q0 := 0) rfl rfl)) rfl rfl hl.1 rfl (lv_room (Nat.le_of_ble_eq_true rfl)) dX10_set_39 ⟨by omega, by omega⟩) hS (fun _ h => h) (fun v H locs hY hsz hfr hS => ?_)
        obtain ⟨rfl, hP⟩ := hY
        have hD : va_D A (XM K om ad (ns + 1) wl nf wd mt (va_up kF ns k) (va_up nF ns n) (zrF yF (64 * ns) 64) WD FL FW TD RW pl nw xt vF wF qF bY gF nm xm fR oF hF dF) := rr_D hD rfl
        have hP : va_P K.1 vwCl (XM K om ad (ns + 1) wl nf wd mt (va_up kF ns k) (va_up nF ns n) (zrF yF (64 * ns) 64) WD FL FW TD RW pl nw xt vF wF qF bY gF nm xm fR oF hF dF) H := hP
        exact hret.1 _ _ 0 0 42 _ (nI ns) dX10_set_42 (by omega) (by omega) hS (⟨by unfold setA; rw [if_pos hc]; first | (rw [if_pos c28]; done) | (rw [if_neg c28]; done), by first | (rw [show setOK ns x y = false from by unfold setOK; rw [hc, decide_eq_true c28]; rfl]; exact hP) | (rw [show setOK ns x y = true from by unfold setOK; rw [hc, decide_eq_false c28]; rfl, ekx, eny]; exact hP)⟩) (rfl)
      · refine lv_bipush (v := -4) hx hb (pc := 31) dX10_set_31 (by decide) ?_
        refine lv_goto (tgt := 42) hx hb (pc := 33) dX10_set_33 (by decide) ?_
        exact hret.1 _ _ 0 0 42 _ (-4) dX10_set_42 (by omega) (by omega) hS (⟨by unfold setA; rw [if_pos hc]; first | (rw [if_pos c28]; done) | (rw [if_neg c28]; done), by first | (rw [show setOK ns x y = false from by unfold setOK; rw [hc, decide_eq_true c28]; rfl]; exact hP) | (rw [show setOK ns x y = true from by unfold setOK; rw [hc, decide_eq_false c28]; rfl, ekx, eny]; exact hP)⟩) (rfl)
    · refine lv_bipush (v := -2) hx hb (pc := 19) dX10_set_19 (by decide) ?_
      have hc : (rrin x (nI 2) (nI 4) && rrin y (nI 1) (nI 16)) = false := by first | (rw [c6, c16]; rfl) | (rw [c6]; rfl)
      have hb : setOK ns x y = false := by unfold setOK; rw [hc]; rfl
      exact hret.1 _ _ 0 0 21 _ (-2) dX10_set_21 (by omega) (by omega) hS (⟨by unfold setA; rw [if_neg (by rw [hc]; decide)], by rw [hb]; exact hP⟩) (rfl)

abbrev rmX10_way : Room := { frames := 4, cells := 0, slots := 0, locals := 89 }
theorem inX10_way_10 : ∀ w ∈ wsX100, w ∈ wsX10_way := fun _ h => List.mem_cons_of_mem _ (List.mem_append_right _ h)
set_option maxHeartbeats 4000000 in
set_option maxRecDepth 100000 in
theorem c_X10_way (l : Launch) (K : rr_K) (A : Nat → Prop) (om : Nat) (ad : Nat → Nat) (ns wl nf wd mt : Nat) (kF nF yF WD FL FW TD RW pl nw xt vF wF qF bY gF : Nat → Nat) (nm xm : Nat → Int64) (fR oF hF dF : Nat → Int32) (x f y t : Int32) (hS9 : SOK ns kF nF yF) (hD : va_D A (XM K om ad ns wl nf wd mt kF nF yF WD FL FW TD RW pl nw xt vF wF qF bY gF nm xm fR oF hF dF)) : MetR l K yX10_way wsX10_way rmX10_way [.ref om, .int x, .int f, .int y, .int t] (fun H => va_P K.1 vwCl (XM K om ad ns wl nf wd mt kF nF yF WD FL FW TD RW pl nw xt vF wF qF bY gF nm xm fR oF hF dF) H) A (fun v H => v = .int (wayA ns kF nF yF x f y t) ∧ va_P K.1 vwCl (XM K om ad ns wl nf wd mt kF nF (cond (wayOK ns kF nF yF x f y t) (tglW yF x f y t) yF) WD FL FW TD RW pl nw xt vF wF qF bY gF nm xm fR oF hF dF) H) 0 0 := by
  refine metR_of (cc := cX10_way) (maxL := 6) (ret := (some .int)) (rt := .int) (by decide) rfl rfl rfl rfl (Nat.le_of_ble_eq_true rfl) ?_
  intro p e s m args below meth c Q ls hEnt hKK hX hret hl
  obtain ⟨hx, hb, hml, hown, hts⟩ := hEnt
  have hP : va_P K.1 vwCl (XM K om ad ns wl nf wd mt kF nF yF WD FL FW TD RW pl nw xt vF wF qF bY gF nm xm fR oF hF dF) s.heap := hX
  have hl : lv_has ls 6 [(0, .ref om), (1, .int x), (2, .int f), (3, .int y), (4, .int t)] := hl
  have hS : va_S A s.heap s.heap [] := va_S.rf
  refine lv_aload_n hx hb (pc := 0) dX10_way_0 rfl (lv_at hl 0 rfl) ?_
  refine lv_iload_n hx hb (pc := 1) dX10_way_1 rfl (lv_at hl 1 rfl) ?_
  refine lv_iload_n hx hb (pc := 2) dX10_way_2 rfl (lv_at hl 2 rfl) ?_
  refine lv_iload_n hx hb (pc := 3) dX10_way_3 rfl (lv_at hl 3 rfl) ?_
  refine lv_iload hx hb (pc := 4) dX10_way_4 (lv_at hl 4 rfl) ?_
  refine rr_callP (rv := .int (bI (okW ns kF nF x f y t))) (pc := 6) (va_runV (As := [.int x, .int f, .int y, .int t]) (rest := []) ⟨hx, hb, hml, hown, hts⟩ (c_X10_isWay l K om ad ns wl nf wd mt kF nF yF WD FL FW TD RW pl nw xt vF wF qF bY gF nm xm fR oF hF dF x f y t hS9.1) (cwV 4 hts gX10_way_X10_isWay rfl rfl rfl (by decide +kernel) ⟨Nat.le_of_ble_eq_true rfl, Nat.le_of_ble_eq_true rfl⟩) (rr_preV hKK (hP) (va_recv hKK.1 hP (ci := 10) (q0 := 0) rfl rfl)) rfl rfl hl.1 rfl (lv_room (Nat.le_of_ble_eq_true rfl)) dX10_way_6 ⟨Nat.le_refl _, Nat.le_refl _⟩) ?_
  refine nv_if_ne_b (a := (okW ns kF nF x f y t)) (tgt := 15) hx hb (pc := 9) dX10_way_9 (by decide) (fun c9 => ?_) (fun c9 => ?_)
  · obtain ⟨j, f9, y9, t9, hxj, hff, hyy, htt, hj, hf9, hy9, ht9⟩ := okW_of hS9 c9
    obtain ⟨s1, s2, s3, s4, s5⟩ := hS9.2 j hj
    have hns := hS9.1
    have hix : ixW x f y = 64 * j + (f9 * 4 + y9) := by unfold ixW; rw [hxj, hff, hyy, cN_nI (by omega), cN_nI (by omega), cN_nI (by omega)]
    have hct : cN t = t9 := by rw [htt]; exact cN_nI (by omega)
    have hEj := s5 (f9 * 4 + y9) (by omega)
    have hEj2 : yF (64 * j + (f9 * 4 + y9)) < 65536 := hEj
    refine lv_iload_n hx hb (pc := 15) dX10_way_15 rfl (lv_at hl 1 rfl) ?_
    refine rr_top (v := .int (nI j)) (by rw [hxj]) ?_
    refine lv_iload_n hx hb (pc := 16) dX10_way_16 rfl (lv_at hl 2 rfl) ?_
    refine rr_top (v := .int (nI f9)) (by rw [hff]) ?_
    refine lv_iload_n hx hb (pc := 17) dX10_way_17 rfl (lv_at hl 3 rfl) ?_
    refine rr_top (v := .int (nI y9)) (by rw [hyy]) ?_
    refine rr_callP (rv := .int (nI (64 * j + (f9 * 4 + y9)))) (pc := 18) (va_runS (As := [.int (nI j), .int (nI f9), .int (nI y9)]) (rest := []) ⟨hx, hb, hml, hown, hts⟩ (c_X10_at l K j f9 y9) (cwS 3 hts gX10_way_X10_at rfl rfl rfl (by decide +kernel) ⟨Nat.le_of_ble_eq_true rfl, Nat.le_of_ble_eq_true rfl⟩) (rr_preS hKK (trivial)) rfl rfl hl.1 rfl (lv_room (Nat.le_of_ble_eq_true rfl)) dX10_way_18 ⟨Nat.le_refl _, Nat.le_refl _⟩) ?_
    refine lv_istore (lv' := [(5, .int (nI (64 * j + (f9 * 4 + y9)))), (0, .ref om), (1, .int x), (2, .int f), (3, .int y), (4, .int t)]) hx hb (pc := 21) dX10_way_21 hl (by decide) rfl (fun ls hl => ?_)
    refine lv_aload_n hx hb (pc := 23) dX10_way_23 rfl (lv_at hl 1 rfl) ?_
    refine va_get (v := .ref (ad 3)) hx hb hts (inX10_way_10) hown hKK.1 hP 0 rfl rfl 3 (by decide) (hts _ (List.mem_of_getElem? (i := 1) (by decide +kernel))) (fun _ h9 => h9) rfl (pc := 24) dX10_way_24 ?_
    refine lv_iload hx hb (pc := 27) dX10_way_27 (lv_at hl 0 rfl) ?_
    refine nv_iald (v := nI (yF (64 * j + (f9 * 4 + y9)))) (i := (64 * j + (f9 * 4 + y9))) hx hb hKK hP 3 rfl (by omega) (by decide) (rfl) (pc := 29) dX10_way_29 ?_
    refine lv_iload hx hb (pc := 30) dX10_way_30 (lv_at hl 5 rfl) ?_
    refine rr_top (v := .int (nI t9)) (by rw [htt]) ?_
    refine nv_ishr (a := (yF (64 * j + (f9 * 4 + y9)))) (b := t9) hx hb (pc := 32) dX10_way_32 (by omega) (by omega) ?_
    refine lv_iconst (v := nI 1) hx hb (pc := 33) dX10_way_33 (by decide) ?_
    refine nv_bit (a := (yF (64 * j + (f9 * 4 + y9)))) (q := t9) hx hb (pc := 34) dX10_way_34 ?_
    refine lv_iconst (v := nI 1) hx hb (pc := 35) dX10_way_35 (by decide) ?_
    refine nv_icmp_ne_b1 (tgt := 42) hx hb (pc := 36) dX10_way_36 (by decide) (fun c36 => ?_) (fun c36 => ?_)
    · refine lv_aload_n hx hb (pc := 42) dX10_way_42 rfl (lv_at hl 1 rfl) ?_
      refine va_get (v := .ref (ad 3)) hx hb hts (inX10_way_10) hown hKK.1 hP 0 rfl rfl 3 (by decide) (hts _ (List.mem_of_getElem? (i := 1) (by decide +kernel))) (fun _ h9 => h9) rfl (pc := 43) dX10_way_43 ?_
      refine lv_iload hx hb (pc := 46) dX10_way_46 (lv_at hl 0 rfl) ?_
      refine lv_dup2_11 hx hb (pc := 48) dX10_way_48 rfl rfl ?_
      refine nv_iald (v := nI (yF (64 * j + (f9 * 4 + y9)))) (i := (64 * j + (f9 * 4 + y9))) hx hb hKK hP 3 rfl (by omega) (by decide) (rfl) (pc := 49) dX10_way_49 ?_
      refine lv_iconst (v := nI 1) hx hb (pc := 50) dX10_way_50 (by decide) ?_
      refine lv_iload hx hb (pc := 51) dX10_way_51 (lv_at hl 5 rfl) ?_
      refine rr_top (v := .int (nI t9)) (by rw [htt]) ?_
      refine nv_ishl (a := 1) (b := t9) hx hb (pc := 53) dX10_way_53 (by omega) ?_
      refine nv_ior (a := (yF (64 * j + (f9 * 4 + y9)))) (b := (1 <<< t9)) hx hb (pc := 54) dX10_way_54 ?_
      refine nv_iast (f := yF) (x := ((yF (64 * j + (f9 * 4 + y9))) ||| (1 <<< t9))) (ws' := XM K om ad ns wl nf wd mt kF nF (va_up yF (64 * j + (f9 * 4 + y9)) ((yF (64 * j + (f9 * 4 + y9))) ||| (1 <<< t9))) WD FL FW TD RW pl nw xt vF wF qF bY gF nm xm fR oF hF dF) (i := (64 * j + (f9 * 4 + y9))) hx hb hKK hP hD hS 3 rfl (by omega) (by decide) (rfl) (pc := 55) dX10_way_55 (fun H locs hP hD hS => ?_)
      refine lv_iconst (v := nI 1) hx hb (pc := 56) dX10_way_56 (by decide) ?_
      have hbt : bitW yF x f y t = false := by unfold bitW; rw [hix, hct]; exact c36
      rw [or_xor (show (yF (64 * j + (f9 * 4 + y9))).testBit t9 = false from c36)] at hP
      exact hret.1 _ _ 0 0 57 _ (nI 1) dX10_way_57 (by omega) (by omega) hS (⟨by unfold wayA; rw [if_pos c9, if_neg (by rw [hbt]; decide)], by rw [show wayOK ns kF nF yF x f y t = true from by unfold wayOK; rw [c9, hbt]; rfl]; unfold tglW; rw [hix, hct]; exact hP⟩) (rfl)
    · refine lv_bipush (v := -3) hx hb (pc := 39) dX10_way_39 (by decide) ?_
      have hbt : bitW yF x f y t = true := by unfold bitW; rw [hix, hct]; exact c36
      exact hret.1 _ _ 0 0 41 _ (-3) dX10_way_41 (by omega) (by omega) hS (⟨by unfold wayA; rw [if_pos c9, if_pos hbt], by rw [show wayOK ns kF nF yF x f y t = false from by unfold wayOK; rw [c9, hbt]; rfl]; exact hP⟩) (rfl)
  · refine lv_bipush (v := -2) hx hb (pc := 12) dX10_way_12 (by decide) ?_
    exact hret.1 _ _ 0 0 14 _ (-2) dX10_way_14 (by omega) (by omega) hS (⟨by unfold wayA; rw [if_neg (by rw [c9]; decide)], by rw [show wayOK ns kF nF yF x f y t = false from by unfold wayOK; rw [c9]; rfl]; exact hP⟩) (rfl)

abbrev rmX10_unway : Room := { frames := 4, cells := 0, slots := 0, locals := 89 }
theorem inX10_unway_10 : ∀ w ∈ wsX100, w ∈ wsX10_unway := fun _ h => List.mem_cons_of_mem _ (List.mem_append_right _ h)
set_option maxHeartbeats 4000000 in
set_option maxRecDepth 100000 in
theorem c_X10_unway (l : Launch) (K : rr_K) (A : Nat → Prop) (om : Nat) (ad : Nat → Nat) (ns wl nf wd mt : Nat) (kF nF yF WD FL FW TD RW pl nw xt vF wF qF bY gF : Nat → Nat) (nm xm : Nat → Int64) (fR oF hF dF : Nat → Int32) (x f y t : Int32) (hS9 : SOK ns kF nF yF) (hD : va_D A (XM K om ad ns wl nf wd mt kF nF yF WD FL FW TD RW pl nw xt vF wF qF bY gF nm xm fR oF hF dF)) : MetR l K yX10_unway wsX10_unway rmX10_unway [.ref om, .int x, .int f, .int y, .int t] (fun H => va_P K.1 vwCl (XM K om ad ns wl nf wd mt kF nF yF WD FL FW TD RW pl nw xt vF wF qF bY gF nm xm fR oF hF dF) H) A (fun v H => v = .int (unwA ns kF nF yF x f y t) ∧ va_P K.1 vwCl (XM K om ad ns wl nf wd mt kF nF (cond (unwOK ns kF nF yF x f y t) (tglW yF x f y t) yF) WD FL FW TD RW pl nw xt vF wF qF bY gF nm xm fR oF hF dF) H) 0 0 := by
  refine metR_of (cc := cX10_unway) (maxL := 6) (ret := (some .int)) (rt := .int) (by decide) rfl rfl rfl rfl (Nat.le_of_ble_eq_true rfl) ?_
  intro p e s m args below meth c Q ls hEnt hKK hX hret hl
  obtain ⟨hx, hb, hml, hown, hts⟩ := hEnt
  have hP : va_P K.1 vwCl (XM K om ad ns wl nf wd mt kF nF yF WD FL FW TD RW pl nw xt vF wF qF bY gF nm xm fR oF hF dF) s.heap := hX
  have hl : lv_has ls 6 [(0, .ref om), (1, .int x), (2, .int f), (3, .int y), (4, .int t)] := hl
  have hS : va_S A s.heap s.heap [] := va_S.rf
  refine lv_aload_n hx hb (pc := 0) dX10_unway_0 rfl (lv_at hl 0 rfl) ?_
  refine lv_iload_n hx hb (pc := 1) dX10_unway_1 rfl (lv_at hl 1 rfl) ?_
  refine lv_iload_n hx hb (pc := 2) dX10_unway_2 rfl (lv_at hl 2 rfl) ?_
  refine lv_iload_n hx hb (pc := 3) dX10_unway_3 rfl (lv_at hl 3 rfl) ?_
  refine lv_iload hx hb (pc := 4) dX10_unway_4 (lv_at hl 4 rfl) ?_
  refine rr_callP (rv := .int (bI (okW ns kF nF x f y t))) (pc := 6) (va_runV (As := [.int x, .int f, .int y, .int t]) (rest := []) ⟨hx, hb, hml, hown, hts⟩ (c_X10_isWay l K om ad ns wl nf wd mt kF nF yF WD FL FW TD RW pl nw xt vF wF qF bY gF nm xm fR oF hF dF x f y t hS9.1) (cwV 4 hts gX10_unway_X10_isWay rfl rfl rfl (by decide +kernel) ⟨Nat.le_of_ble_eq_true rfl, Nat.le_of_ble_eq_true rfl⟩) (rr_preV hKK (hP) (va_recv hKK.1 hP (ci := 10) (q0 := 0) rfl rfl)) rfl rfl hl.1 rfl (lv_room (Nat.le_of_ble_eq_true rfl)) dX10_unway_6 ⟨Nat.le_refl _, Nat.le_refl _⟩) ?_
  refine nv_if_ne_b (a := (okW ns kF nF x f y t)) (tgt := 15) hx hb (pc := 9) dX10_unway_9 (by decide) (fun c9 => ?_) (fun c9 => ?_)
  · obtain ⟨j, f9, y9, t9, hxj, hff, hyy, htt, hj, hf9, hy9, ht9⟩ := okW_of hS9 c9
    obtain ⟨s1, s2, s3, s4, s5⟩ := hS9.2 j hj
    have hns := hS9.1
    have hix : ixW x f y = 64 * j + (f9 * 4 + y9) := by unfold ixW; rw [hxj, hff, hyy, cN_nI (by omega), cN_nI (by omega), cN_nI (by omega)]
    have hct : cN t = t9 := by rw [htt]; exact cN_nI (by omega)
    have hEj := s5 (f9 * 4 + y9) (by omega)
    have hEj2 : yF (64 * j + (f9 * 4 + y9)) < 65536 := hEj
    refine lv_iload_n hx hb (pc := 15) dX10_unway_15 rfl (lv_at hl 1 rfl) ?_
    refine rr_top (v := .int (nI j)) (by rw [hxj]) ?_
    refine lv_iload_n hx hb (pc := 16) dX10_unway_16 rfl (lv_at hl 2 rfl) ?_
    refine rr_top (v := .int (nI f9)) (by rw [hff]) ?_
    refine lv_iload_n hx hb (pc := 17) dX10_unway_17 rfl (lv_at hl 3 rfl) ?_
    refine rr_top (v := .int (nI y9)) (by rw [hyy]) ?_
    refine rr_callP (rv := .int (nI (64 * j + (f9 * 4 + y9)))) (pc := 18) (va_runS (As := [.int (nI j), .int (nI f9), .int (nI y9)]) (rest := []) ⟨hx, hb, hml, hown, hts⟩ (c_X10_at l K j f9 y9) (cwS 3 hts gX10_unway_X10_at rfl rfl rfl (by decide +kernel) ⟨Nat.le_of_ble_eq_true rfl, Nat.le_of_ble_eq_true rfl⟩) (rr_preS hKK (trivial)) rfl rfl hl.1 rfl (lv_room (Nat.le_of_ble_eq_true rfl)) dX10_unway_18 ⟨Nat.le_refl _, Nat.le_refl _⟩) ?_
    refine lv_istore (lv' := [(5, .int (nI (64 * j + (f9 * 4 + y9)))), (0, .ref om), (1, .int x), (2, .int f), (3, .int y), (4, .int t)]) hx hb (pc := 21) dX10_unway_21 hl (by decide) rfl (fun ls hl => ?_)
    refine lv_aload_n hx hb (pc := 23) dX10_unway_23 rfl (lv_at hl 1 rfl) ?_
    refine va_get (v := .ref (ad 3)) hx hb hts (inX10_unway_10) hown hKK.1 hP 0 rfl rfl 3 (by decide) (hts _ (List.mem_of_getElem? (i := 1) (by decide +kernel))) (fun _ h9 => h9) rfl (pc := 24) dX10_unway_24 ?_
    refine lv_iload hx hb (pc := 27) dX10_unway_27 (lv_at hl 0 rfl) ?_
    refine nv_iald (v := nI (yF (64 * j + (f9 * 4 + y9)))) (i := (64 * j + (f9 * 4 + y9))) hx hb hKK hP 3 rfl (by omega) (by decide) (rfl) (pc := 29) dX10_unway_29 ?_
    refine lv_iload hx hb (pc := 30) dX10_unway_30 (lv_at hl 5 rfl) ?_
    refine rr_top (v := .int (nI t9)) (by rw [htt]) ?_
    refine nv_ishr (a := (yF (64 * j + (f9 * 4 + y9)))) (b := t9) hx hb (pc := 32) dX10_unway_32 (by omega) (by omega) ?_
    refine lv_iconst (v := nI 1) hx hb (pc := 33) dX10_unway_33 (by decide) ?_
    refine nv_bit (a := (yF (64 * j + (f9 * 4 + y9)))) (q := t9) hx hb (pc := 34) dX10_unway_34 ?_
    refine nv_if_ne_b (a := ((yF (64 * j + (f9 * 4 + y9))).testBit t9)) (tgt := 41) hx hb (pc := 35) dX10_unway_35 (by decide) (fun c35 => ?_) (fun c35 => ?_)
    · refine lv_aload_n hx hb (pc := 41) dX10_unway_41 rfl (lv_at hl 1 rfl) ?_
      refine va_get (v := .ref (ad 3)) hx hb hts (inX10_unway_10) hown hKK.1 hP 0 rfl rfl 3 (by decide) (hts _ (List.mem_of_getElem? (i := 1) (by decide +kernel))) (fun _ h9 => h9) rfl (pc := 42) dX10_unway_42 ?_
      refine lv_iload hx hb (pc := 45) dX10_unway_45 (lv_at hl 0 rfl) ?_
      refine lv_dup2_11 hx hb (pc := 47) dX10_unway_47 rfl rfl ?_
      refine nv_iald (v := nI (yF (64 * j + (f9 * 4 + y9)))) (i := (64 * j + (f9 * 4 + y9))) hx hb hKK hP 3 rfl (by omega) (by decide) (rfl) (pc := 48) dX10_unway_48 ?_
      refine lv_iconst (v := nI 1) hx hb (pc := 49) dX10_unway_49 (by decide) ?_
      refine lv_iload hx hb (pc := 50) dX10_unway_50 (lv_at hl 5 rfl) ?_
      refine rr_top (v := .int (nI t9)) (by rw [htt]) ?_
      refine nv_ishl (a := 1) (b := t9) hx hb (pc := 52) dX10_unway_52 (by omega) ?_
      refine lv_iconst (v := -1) hx hb (pc := 53) dX10_unway_53 (by decide) ?_
      refine lv_ixor hx hb (pc := 54) dX10_unway_54 ?_
      refine lv_iand hx hb (pc := 55) dX10_unway_55 ?_
      refine rr_top (v := .int (nI (andN (yF (64 * j + (f9 * 4 + y9))) (1 <<< t9)))) (by rw [andN_eq hEj2]) ?_
      refine nv_iast (f := yF) (x := (andN (yF (64 * j + (f9 * 4 + y9))) (1 <<< t9))) (ws' := XM K om ad ns wl nf wd mt kF nF (va_up yF (64 * j + (f9 * 4 + y9)) (andN (yF (64 * j + (f9 * 4 + y9))) (1 <<< t9))) WD FL FW TD RW pl nw xt vF wF qF bY gF nm xm fR oF hF dF) (i := (64 * j + (f9 * 4 + y9))) hx hb hKK hP hD hS 3 rfl (by omega) (by decide) (rfl) (pc := 56) dX10_unway_56 (fun H locs hP hD hS => ?_)
      refine lv_iconst (v := nI 1) hx hb (pc := 57) dX10_unway_57 (by decide) ?_
      have hbt : bitW yF x f y t = true := by unfold bitW; rw [hix, hct]; exact c35
      rw [andN_xor hEj2 (show (yF (64 * j + (f9 * 4 + y9))).testBit t9 = true from c35)] at hP
      exact hret.1 _ _ 0 0 58 _ (nI 1) dX10_unway_58 (by omega) (by omega) hS (⟨by unfold unwA; rw [if_pos c9, if_pos hbt], by rw [show unwOK ns kF nF yF x f y t = true from by unfold unwOK; rw [c9, hbt]; rfl]; unfold tglW; rw [hix, hct]; exact hP⟩) (rfl)
    · refine lv_bipush (v := -3) hx hb (pc := 38) dX10_unway_38 (by decide) ?_
      have hbt : bitW yF x f y t = false := by unfold bitW; rw [hix, hct]; exact c35
      exact hret.1 _ _ 0 0 40 _ (-3) dX10_unway_40 (by omega) (by omega) hS (⟨by unfold unwA; rw [if_pos c9, if_neg (by rw [hbt]; decide)], by rw [show unwOK ns kF nF yF x f y t = false from by unfold unwOK; rw [c9, hbt]; rfl]; exact hP⟩) (rfl)
  · refine lv_bipush (v := -2) hx hb (pc := 12) dX10_unway_12 (by decide) ?_
    exact hret.1 _ _ 0 0 14 _ (-2) dX10_unway_14 (by omega) (by omega) hS (⟨by unfold unwA; rw [if_neg (by rw [c9]; decide)], by rw [show unwOK ns kF nF yF x f y t = false from by unfold unwOK; rw [c9]; rfl]; exact hP⟩) (rfl)

abbrev rmX10_empty : Room := { frames := 0, cells := 0, slots := 0, locals := 0 }
theorem inX10_empty_10 : ∀ w ∈ wsX100, w ∈ wsX10_empty := fun _ h => List.mem_cons_of_mem _ (List.mem_append_right _ h)
set_option maxHeartbeats 4000000 in
set_option maxRecDepth 100000 in
theorem c_X10_empty (l : Launch) (K : rr_K) (A : Nat → Prop) (om : Nat) (ad : Nat → Nat) (ns wl nf wd mt : Nat) (kF nF yF WD FL FW TD RW pl nw xt vF wF qF bY gF : Nat → Nat) (nm xm : Nat → Int64) (fR oF hF dF : Nat → Int32) (hD : va_D A (XM K om ad ns wl nf wd mt kF nF yF WD FL FW TD RW pl nw xt vF wF qF bY gF nm xm fR oF hF dF)) : MetR l K yX10_empty wsX10_empty rmX10_empty [.ref om] (fun H => va_P K.1 vwCl (XM K om ad ns wl nf wd mt kF nF yF WD FL FW TD RW pl nw xt vF wF qF bY gF nm xm fR oF hF dF) H) A (fun v H => v = .int (nI wl) ∧ va_P K.1 vwCl (XM K om ad ns 0 nf wd mt kF nF yF WD FL FW TD RW pl nw xt vF wF qF bY gF nm xm fR oF hF dF) H) 0 0 := by
  refine metR_of (cc := cX10_empty) (maxL := 2) (ret := (some .int)) (rt := .int) (by decide) rfl rfl rfl rfl (Nat.le_of_ble_eq_true rfl) ?_
  intro p e s m args below meth c Q ls hEnt hKK hX hret hl
  obtain ⟨hx, hb, hml, hown, hts⟩ := hEnt
  have hP : va_P K.1 vwCl (XM K om ad ns wl nf wd mt kF nF yF WD FL FW TD RW pl nw xt vF wF qF bY gF nm xm fR oF hF dF) s.heap := hX
  have hl : lv_has ls 2 [(0, .ref om)] := hl
  have hS : va_S A s.heap s.heap [] := va_S.rf
  refine lv_aload_n hx hb (pc := 0) dX10_empty_0 rfl (lv_at hl 0 rfl) ?_
  refine va_get (v := .int (nI wl)) hx hb hts (inX10_empty_10) hown hKK.1 hP 0 rfl rfl 4 (by decide) (hts _ (List.mem_of_getElem? (i := 1) (by decide +kernel))) (fun _ h9 => h9) rfl (pc := 1) dX10_empty_1 ?_
  refine lv_istore_n (lv' := [(1, .int (nI wl)), (0, .ref om)]) hx hb (pc := 4) dX10_empty_4 rfl hl (by decide) rfl (fun ls hl => ?_)
  refine lv_aload_n hx hb (pc := 5) dX10_empty_5 rfl (lv_at hl 1 rfl) ?_
  refine lv_iconst (v := nI 0) hx hb (pc := 6) dX10_empty_6 (by decide) ?_
  refine rr_put (v := .int (nI 0)) (ty := tyX10 4) (ws' := XM K om ad ns 0 nf wd mt kF nF yF WD FL FW TD RW pl nw xt vF wF qF bY gF nm xm fR oF hF dF) hx hb hts (inX10_empty_10) tyX10 tyX10_ok nmX10 hown hKK.1 hP hD hS 0 rfl rfl 4 (by decide) (hts _ (List.mem_of_getElem? (i := 1) (by decide +kernel))) (fun _ h9 => h9) rfl (tyX10_ok 4 (by decide)) rfl rfl (Nat.le_of_ble_eq_true rfl) rfl (pc := 7) dX10_empty_7 (fun H locs hP hD hS => ?_)
  refine lv_iload_n hx hb (pc := 10) dX10_empty_10 rfl (lv_at hl 0 rfl) ?_
  exact hret.1 _ _ 0 0 11 _ (nI wl) dX10_empty_11 (by omega) (by omega) hS (⟨rfl, hP⟩) (rfl)

abbrev rmX10_unforbid : Room := { frames := 0, cells := 0, slots := 0, locals := 0 }
theorem inX10_unforbid_10 : ∀ w ∈ wsX100, w ∈ wsX10_unforbid := fun _ h => List.mem_cons_of_mem _ (List.mem_append_right _ h)
set_option maxHeartbeats 4000000 in
set_option maxRecDepth 100000 in
theorem c_X10_unforbid (l : Launch) (K : rr_K) (A : Nat → Prop) (om : Nat) (ad : Nat → Nat) (ns wl nf wd mt : Nat) (kF nF yF WD FL FW TD RW pl nw xt vF wF qF bY gF : Nat → Nat) (nm xm : Nat → Int64) (fR oF hF dF : Nat → Int32) (hD : va_D A (XM K om ad ns wl nf wd mt kF nF yF WD FL FW TD RW pl nw xt vF wF qF bY gF nm xm fR oF hF dF)) : MetR l K yX10_unforbid wsX10_unforbid rmX10_unforbid [.ref om] (fun H => va_P K.1 vwCl (XM K om ad ns wl nf wd mt kF nF yF WD FL FW TD RW pl nw xt vF wF qF bY gF nm xm fR oF hF dF) H) A (fun v H => v = .int (nI nf) ∧ va_P K.1 vwCl (XM K om ad ns wl 0 wd mt kF nF yF WD FL FW TD RW pl nw xt vF wF qF bY gF nm xm fR oF hF dF) H) 0 0 := by
  refine metR_of (cc := cX10_unforbid) (maxL := 2) (ret := (some .int)) (rt := .int) (by decide) rfl rfl rfl rfl (Nat.le_of_ble_eq_true rfl) ?_
  intro p e s m args below meth c Q ls hEnt hKK hX hret hl
  obtain ⟨hx, hb, hml, hown, hts⟩ := hEnt
  have hP : va_P K.1 vwCl (XM K om ad ns wl nf wd mt kF nF yF WD FL FW TD RW pl nw xt vF wF qF bY gF nm xm fR oF hF dF) s.heap := hX
  have hl : lv_has ls 2 [(0, .ref om)] := hl
  have hS : va_S A s.heap s.heap [] := va_S.rf
  refine lv_aload_n hx hb (pc := 0) dX10_unforbid_0 rfl (lv_at hl 0 rfl) ?_
  refine va_get (v := .int (nI nf)) hx hb hts (inX10_unforbid_10) hown hKK.1 hP 0 rfl rfl 6 (by decide) (hts _ (List.mem_of_getElem? (i := 1) (by decide +kernel))) (fun _ h9 => h9) rfl (pc := 1) dX10_unforbid_1 ?_
  refine lv_istore_n (lv' := [(1, .int (nI nf)), (0, .ref om)]) hx hb (pc := 4) dX10_unforbid_4 rfl hl (by decide) rfl (fun ls hl => ?_)
  refine lv_aload_n hx hb (pc := 5) dX10_unforbid_5 rfl (lv_at hl 1 rfl) ?_
  refine lv_iconst (v := nI 0) hx hb (pc := 6) dX10_unforbid_6 (by decide) ?_
  refine rr_put (v := .int (nI 0)) (ty := tyX10 6) (ws' := XM K om ad ns wl 0 wd mt kF nF yF WD FL FW TD RW pl nw xt vF wF qF bY gF nm xm fR oF hF dF) hx hb hts (inX10_unforbid_10) tyX10 tyX10_ok nmX10 hown hKK.1 hP hD hS 0 rfl rfl 6 (by decide) (hts _ (List.mem_of_getElem? (i := 1) (by decide +kernel))) (fun _ h9 => h9) rfl (tyX10_ok 6 (by decide)) rfl rfl (Nat.le_of_ble_eq_true rfl) rfl (pc := 7) dX10_unforbid_7 (fun H locs hP hD hS => ?_)
  refine lv_iload_n hx hb (pc := 10) dX10_unforbid_10 rfl (lv_at hl 0 rfl) ?_
  exact hret.1 _ _ 0 0 11 _ (nI nf) dX10_unforbid_11 (by omega) (by omega) hS (⟨rfl, hP⟩) (rfl)

abbrev rmX10_letter : Room := { frames := 1, cells := 0, slots := 0, locals := 22 }
theorem inX10_letter_10 : ∀ w ∈ wsX100, w ∈ wsX10_letter := fun _ h => List.mem_cons_of_mem _ (List.mem_append_right _ h)
set_option maxHeartbeats 4000000 in
set_option maxRecDepth 100000 in
theorem c_X10_letter (l : Launch) (K : rr_K) (A : Nat → Prop) (om : Nat) (ad : Nat → Nat) (ns wl nf wd mt : Nat) (kF nF yF WD FL FW TD RW pl nw xt vF wF qF bY gF : Nat → Nat) (nm xm : Nat → Int64) (fR oF hF dF : Nat → Int32) (x : Int32) (hwl : wl ≤ 30) (hD : va_D A (XM K om ad ns wl nf wd mt kF nF yF WD FL FW TD RW pl nw xt vF wF qF bY gF nm xm fR oF hF dF)) : MetR l K yX10_letter wsX10_letter rmX10_letter [.ref om, .int x] (fun H => va_P K.1 vwCl (XM K om ad ns wl nf wd mt kF nF yF WD FL FW TD RW pl nw xt vF wF qF bY gF nm xm fR oF hF dF) H) A (fun v H => v = .int (letA wl x) ∧ va_P K.1 vwCl (XM K om ad ns (cond (letOK wl x) (wl + 1) wl) nf wd mt kF nF yF (cond (letOK wl x) (va_up WD wl (cN x)) WD) FL FW TD RW pl nw xt vF wF qF bY gF nm xm fR oF hF dF) H) 0 0 := by
  refine metR_of (cc := cX10_letter) (maxL := 2) (ret := (some .int)) (rt := .int) (by decide) rfl rfl rfl rfl (Nat.le_of_ble_eq_true rfl) ?_
  intro p e s m args below meth c Q ls hEnt hKK hX hret hl
  obtain ⟨hx, hb, hml, hown, hts⟩ := hEnt
  have hP : va_P K.1 vwCl (XM K om ad ns wl nf wd mt kF nF yF WD FL FW TD RW pl nw xt vF wF qF bY gF nm xm fR oF hF dF) s.heap := hX
  have hl : lv_has ls 2 [(0, .ref om), (1, .int x)] := hl
  have hS : va_S A s.heap s.heap [] := va_S.rf
  refine lv_iload_n hx hb (pc := 0) dX10_letter_0 rfl (lv_at hl 1 rfl) ?_
  refine lv_iconst (v := nI 0) hx hb (pc := 1) dX10_letter_1 (by decide) ?_
  refine lv_iconst (v := nI 3) hx hb (pc := 2) dX10_letter_2 (by decide) ?_
  refine rr_callP (rv := .int (bI (rrin x (nI 0) (nI 3)))) (pc := 3) (va_runS (As := [.int x, .int (nI 0), .int (nI 3)]) (rest := []) ⟨hx, hb, hml, hown, hts⟩ (c_X10_in l K x (nI 0) (nI 3)) (cwS 3 hts gX10_letter_X10_in rfl rfl rfl (by decide +kernel) ⟨Nat.le_of_ble_eq_true rfl, Nat.le_of_ble_eq_true rfl⟩) (rr_preS hKK (trivial)) rfl rfl hl.1 rfl (lv_room (Nat.le_of_ble_eq_true rfl)) dX10_letter_3 ⟨Nat.le_refl _, Nat.le_refl _⟩) ?_
  refine nv_if_ne_b (a := (rrin x (nI 0) (nI 3))) (tgt := 12) hx hb (pc := 6) dX10_letter_6 (by decide) (fun c6 => ?_) (fun c6 => ?_)
  · refine lv_aload_n hx hb (pc := 12) dX10_letter_12 rfl (lv_at hl 0 rfl) ?_
    refine va_get (v := .int (nI wl)) hx hb hts (inX10_letter_10) hown hKK.1 hP 0 rfl rfl 4 (by decide) (hts _ (List.mem_of_getElem? (i := 1) (by decide +kernel))) (fun _ h9 => h9) rfl (pc := 13) dX10_letter_13 ?_
    refine lv_bipush (v := nI 30) hx hb (pc := 16) dX10_letter_16 (by decide) ?_
    refine nv_icmp_ne (a := wl) (b := 30) (tgt := 24) hx hb (pc := 18) dX10_letter_18 (by decide) (by omega) (by omega) (fun c18 => ?_) (fun c18 => ?_)
    · obtain ⟨y, hy1, hy2, hxy⟩ := rrin_Nat (by decide) (by decide) c6
      have ecx : cN x = y := by rw [hxy]; exact cN_nI (by omega)
      refine lv_aload_n hx hb (pc := 24) dX10_letter_24 rfl (lv_at hl 0 rfl) ?_
      refine va_get (v := .ref (ad 5)) hx hb hts (inX10_letter_10) hown hKK.1 hP 0 rfl rfl 5 (by decide) (hts _ (List.mem_of_getElem? (i := 2) (by decide +kernel))) (fun _ h9 => h9) rfl (pc := 25) dX10_letter_25 ?_
      refine lv_aload_n hx hb (pc := 28) dX10_letter_28 rfl (lv_at hl 0 rfl) ?_
      refine va_get (v := .int (nI wl)) hx hb hts (inX10_letter_10) hown hKK.1 hP 0 rfl rfl 4 (by decide) (hts _ (List.mem_of_getElem? (i := 1) (by decide +kernel))) (fun _ h9 => h9) rfl (pc := 29) dX10_letter_29 ?_
      refine lv_iload_n hx hb (pc := 32) dX10_letter_32 rfl (lv_at hl 1 rfl) ?_
      refine rr_top (v := .int (nI y)) (by rw [hxy]) ?_
      refine nv_iast (f := WD) (x := y) (ws' := XM K om ad ns wl nf wd mt kF nF yF (va_up WD wl y) FL FW TD RW pl nw xt vF wF qF bY gF nm xm fR oF hF dF) (i := wl) hx hb hKK hP hD hS 4 rfl (by omega) (by decide) (rfl) (pc := 33) dX10_letter_33 (fun H locs hP hD hS => ?_)
      refine lv_aload_n hx hb (pc := 34) dX10_letter_34 rfl (lv_at hl 0 rfl) ?_
      refine lv_dup hx hb (pc := 35) dX10_letter_35 rfl ?_
      refine va_get (v := .int (nI wl)) hx hb hts (inX10_letter_10) hown hKK.1 hP 0 rfl rfl 4 (by decide) (hts _ (List.mem_of_getElem? (i := 1) (by decide +kernel))) (fun _ h9 => h9) rfl (pc := 36) dX10_letter_36 ?_
      refine lv_iconst (v := nI 1) hx hb (pc := 39) dX10_letter_39 (by decide) ?_
      refine nv_iadd (a := wl) (b := 1) hx hb (pc := 40) dX10_letter_40 ?_
      refine rr_put (v := .int (nI (wl + 1))) (ty := tyX10 4) (ws' := XM K om ad ns (wl + 1) nf wd mt kF nF yF (va_up WD wl y) FL FW TD RW pl nw xt vF wF qF bY gF nm xm fR oF hF dF) hx hb hts (inX10_letter_10) tyX10 tyX10_ok nmX10 hown hKK.1 hP hD hS 0 rfl rfl 4 (by decide) (hts _ (List.mem_of_getElem? (i := 1) (by decide +kernel))) (fun _ h9 => h9) rfl (tyX10_ok 4 (by decide)) rfl rfl (Nat.le_of_ble_eq_true rfl) rfl (pc := 41) dX10_letter_41 (fun H locs hP hD hS => ?_)
      refine lv_aload_n hx hb (pc := 44) dX10_letter_44 rfl (lv_at hl 0 rfl) ?_
      refine va_get (v := .int (nI (wl + 1))) hx hb hts (inX10_letter_10) hown hKK.1 hP 0 rfl rfl 4 (by decide) (hts _ (List.mem_of_getElem? (i := 1) (by decide +kernel))) (fun _ h9 => h9) rfl (pc := 45) dX10_letter_45 ?_
      exact hret.1 _ _ 0 0 48 _ (nI (wl + 1)) dX10_letter_48 (by omega) (by omega) hS (⟨by unfold letA; rw [if_pos c6, if_neg c18], by rw [show letOK wl x = true from by unfold letOK; rw [c6, decide_eq_false c18]; rfl, ecx]; exact hP⟩) (rfl)
    · refine lv_bipush (v := -4) hx hb (pc := 21) dX10_letter_21 (by decide) ?_
      exact hret.1 _ _ 0 0 23 _ (-4) dX10_letter_23 (by omega) (by omega) hS (⟨by unfold letA; rw [if_pos c6, if_pos c18], by rw [show letOK wl x = false from by unfold letOK; rw [c6, decide_eq_true c18]; rfl]; exact hP⟩) (rfl)
  · refine lv_bipush (v := -2) hx hb (pc := 9) dX10_letter_9 (by decide) ?_
    exact hret.1 _ _ 0 0 11 _ (-2) dX10_letter_11 (by omega) (by omega) hS (⟨by unfold letA; rw [if_neg (by rw [c6]; decide)], by rw [show letOK wl x = false from by unfold letOK; rw [c6]; rfl]; exact hP⟩) (rfl)

abbrev rmX10_letterAt : Room := { frames := 1, cells := 0, slots := 0, locals := 22 }
theorem inX10_letterAt_10 : ∀ w ∈ wsX100, w ∈ wsX10_letterAt := fun _ h => List.mem_cons_of_mem _ (List.mem_append_right _ h)
set_option maxHeartbeats 4000000 in
set_option maxRecDepth 100000 in
theorem c_X10_letterAt (l : Launch) (K : rr_K) (om : Nat) (ad : Nat → Nat) (ns wl nf wd mt : Nat) (kF nF yF WD FL FW TD RW pl nw xt vF wF qF bY gF : Nat → Nat) (nm xm : Nat → Int64) (fR oF hF dF : Nat → Int32) (x : Int32) (hwl : wl ≤ 30) : MetP l K yX10_letterAt wsX10_letterAt rmX10_letterAt [.ref om, .int x] (fun H => va_P K.1 vwCl (XM K om ad ns wl nf wd mt kF nF yF WD FL FW TD RW pl nw xt vF wF qF bY gF nm xm fR oF hF dF) H) (.int (latA wl WD x)) := by
  refine metP_of (cc := cX10_letterAt) (maxL := 2) (ret := (some .int)) (rt := .int) (by decide) rfl rfl (Nat.le_of_ble_eq_true rfl) ?_
  intro p e s m args below meth c Q ls hEnt hKK hX hret hl
  obtain ⟨hx, hb, hml, hown, hts⟩ := hEnt
  have hP : va_P K.1 vwCl (XM K om ad ns wl nf wd mt kF nF yF WD FL FW TD RW pl nw xt vF wF qF bY gF nm xm fR oF hF dF) s.heap := hX
  have hl : lv_has ls 2 [(0, .ref om), (1, .int x)] := hl
  refine lv_iload_n hx hb (pc := 0) dX10_letterAt_0 rfl (lv_at hl 1 rfl) ?_
  refine lv_iconst (v := nI 0) hx hb (pc := 1) dX10_letterAt_1 (by decide) ?_
  refine lv_aload_n hx hb (pc := 2) dX10_letterAt_2 rfl (lv_at hl 0 rfl) ?_
  refine va_get (v := .int (nI wl)) hx hb hts (inX10_letterAt_10) hown hKK.1 hP 0 rfl rfl 4 (by decide) (hts _ (List.mem_of_getElem? (i := 1) (by decide +kernel))) (fun _ h9 => h9) rfl (pc := 3) dX10_letterAt_3 ?_
  refine lv_iconst (v := nI 1) hx hb (pc := 6) dX10_letterAt_6 (by decide) ?_
  refine lv_isub hx hb (pc := 7) dX10_letterAt_7 ?_
  refine rr_callP (rv := .int (bI (isS wl x))) (pc := 8) (va_runS (As := [.int x, .int (nI 0), .int ((nI wl) - (nI 1))]) (rest := []) ⟨hx, hb, hml, hown, hts⟩ (c_X10_in l K x (nI 0) ((nI wl) - (nI 1))) (cwS 3 hts gX10_letterAt_X10_in rfl rfl rfl (by decide +kernel) ⟨Nat.le_of_ble_eq_true rfl, Nat.le_of_ble_eq_true rfl⟩) (rr_preS hKK (trivial)) rfl rfl hl.1 rfl (lv_room (Nat.le_of_ble_eq_true rfl)) dX10_letterAt_8 ⟨Nat.le_refl _, Nat.le_refl _⟩) ?_
  refine nv_if_eq_b (a := (isS wl x)) (tgt := 23) hx hb (pc := 11) dX10_letterAt_11 (by decide) (fun c11 => ?_) (fun c11 => ?_)
  · refine lv_iconst (v := -1) hx hb (pc := 23) dX10_letterAt_23 (by decide) ?_
    exact hret.1 24 _ (-1) dX10_letterAt_24 (by unfold latA; first | (rw [if_neg (by rw [c11]; decide)]; done) | (rw [if_pos c11, hxj, cN_nI (by omega)]; done)) (rfl)
  · obtain ⟨j, hj, hxj⟩ := isS_of (by omega) c11
    refine lv_aload_n hx hb (pc := 14) dX10_letterAt_14 rfl (lv_at hl 0 rfl) ?_
    refine va_get (v := .ref (ad 5)) hx hb hts (inX10_letterAt_10) hown hKK.1 hP 0 rfl rfl 5 (by decide) (hts _ (List.mem_of_getElem? (i := 2) (by decide +kernel))) (fun _ h9 => h9) rfl (pc := 15) dX10_letterAt_15 ?_
    refine lv_iload_n hx hb (pc := 18) dX10_letterAt_18 rfl (lv_at hl 1 rfl) ?_
    refine rr_top (v := .int (nI j)) (by rw [hxj]) ?_
    refine nv_iald (v := nI (WD j)) (i := j) hx hb hKK hP 4 rfl (by omega) (by decide) (rfl) (pc := 19) dX10_letterAt_19 ?_
    refine lv_goto (tgt := 24) hx hb (pc := 20) dX10_letterAt_20 (by decide) ?_
    exact hret.1 24 _ (nI (WD j)) dX10_letterAt_24 (by unfold latA; first | (rw [if_neg (by rw [c11]; decide)]; done) | (rw [if_pos c11, hxj, cN_nI (by omega)]; done)) (rfl)

abbrev rmX10_forbid : Room := { frames := 1, cells := 0, slots := 0, locals := 22 }
theorem inX10_forbid_10 : ∀ w ∈ wsX100, w ∈ wsX10_forbid := fun _ h => List.mem_cons_of_mem _ (List.mem_append_right _ h)
set_option maxHeartbeats 4000000 in
set_option maxRecDepth 100000 in
theorem c_X10_forbid (l : Launch) (K : rr_K) (A : Nat → Prop) (om : Nat) (ad : Nat → Nat) (ns wl nf wd mt : Nat) (kF nF yF WD FL FW TD RW pl nw xt vF wF qF bY gF : Nat → Nat) (nm xm : Nat → Int64) (fR oF hF dF : Nat → Int32) (hnf : nf ≤ 8) (hwl : wl ≤ 30) (hD : va_D A (XM K om ad ns wl nf wd mt kF nF yF WD FL FW TD RW pl nw xt vF wF qF bY gF nm xm fR oF hF dF)) : MetR l K yX10_forbid wsX10_forbid rmX10_forbid [.ref om] (fun H => va_P K.1 vwCl (XM K om ad ns wl nf wd mt kF nF yF WD FL FW TD RW pl nw xt vF wF qF bY gF nm xm fR oF hF dF) H) A (fun v H => v = .int (forA wl nf) ∧ va_P K.1 vwCl (XM K om ad ns wl (cond (forOK wl nf) (nf + 1) nf) wd mt kF nF yF WD (cond (forOK wl nf) (va_up FL nf wl) FL) (cond (forOK wl nf) (putN FW WD (nf * 5) wl) FW) TD RW pl nw xt vF wF qF bY gF nm xm fR oF hF dF) H) 0 0 := by
  refine metR_of (cc := cX10_forbid) (maxL := 2) (ret := (some .int)) (rt := .int) (by decide) rfl rfl rfl rfl (Nat.le_of_ble_eq_true rfl) ?_
  intro p e s m args below meth c Q ls hEnt hKK hX hret hl
  obtain ⟨hx, hb, hml, hown, hts⟩ := hEnt
  have hP : va_P K.1 vwCl (XM K om ad ns wl nf wd mt kF nF yF WD FL FW TD RW pl nw xt vF wF qF bY gF nm xm fR oF hF dF) s.heap := hX
  have hl : lv_has ls 2 [(0, .ref om)] := hl
  have hS : va_S A s.heap s.heap [] := va_S.rf
  refine lv_aload_n hx hb (pc := 0) dX10_forbid_0 rfl (lv_at hl 0 rfl) ?_
  refine va_get (v := .int (nI wl)) hx hb hts (inX10_forbid_10) hown hKK.1 hP 0 rfl rfl 4 (by decide) (hts _ (List.mem_of_getElem? (i := 1) (by decide +kernel))) (fun _ h9 => h9) rfl (pc := 1) dX10_forbid_1 ?_
  refine lv_iconst (v := nI 1) hx hb (pc := 4) dX10_forbid_4 (by decide) ?_
  refine lv_iconst (v := nI 5) hx hb (pc := 5) dX10_forbid_5 (by decide) ?_
  refine rr_callP (rv := .int (bI (rrin (nI wl) (nI 1) (nI 5)))) (pc := 6) (va_runS (As := [.int (nI wl), .int (nI 1), .int (nI 5)]) (rest := []) ⟨hx, hb, hml, hown, hts⟩ (c_X10_in l K (nI wl) (nI 1) (nI 5)) (cwS 3 hts gX10_forbid_X10_in rfl rfl rfl (by decide +kernel) ⟨Nat.le_of_ble_eq_true rfl, Nat.le_of_ble_eq_true rfl⟩) (rr_preS hKK (trivial)) rfl rfl hl.1 rfl (lv_room (Nat.le_of_ble_eq_true rfl)) dX10_forbid_6 ⟨Nat.le_refl _, Nat.le_refl _⟩) ?_
  refine nv_if_ne_b (a := (rrin (nI wl) (nI 1) (nI 5))) (tgt := 15) hx hb (pc := 9) dX10_forbid_9 (by decide) (fun c9 => ?_) (fun c9 => ?_)
  · have hc : 1 ≤ wl ∧ wl ≤ 5 := by
      obtain ⟨j, h1, h2, h3⟩ := rrin_Nat (by decide) (by decide) c9
      have h4 : wl = j := nI_inj (by omega) (by omega) h3
      omega
    refine lv_aload_n hx hb (pc := 15) dX10_forbid_15 rfl (lv_at hl 0 rfl) ?_
    refine va_get (v := .int (nI nf)) hx hb hts (inX10_forbid_10) hown hKK.1 hP 0 rfl rfl 6 (by decide) (hts _ (List.mem_of_getElem? (i := 2) (by decide +kernel))) (fun _ h9 => h9) rfl (pc := 16) dX10_forbid_16 ?_
    refine lv_bipush (v := nI 8) hx hb (pc := 19) dX10_forbid_19 (by decide) ?_
    refine nv_icmp_ne (a := nf) (b := 8) (tgt := 27) hx hb (pc := 21) dX10_forbid_21 (by decide) (by omega) (by omega) (fun c21 => ?_) (fun c21 => ?_)
    · refine lv_aload_n hx hb (pc := 27) dX10_forbid_27 rfl (lv_at hl 0 rfl) ?_
      refine va_get (v := .ref (ad 7)) hx hb hts (inX10_forbid_10) hown hKK.1 hP 0 rfl rfl 7 (by decide) (hts _ (List.mem_of_getElem? (i := 3) (by decide +kernel))) (fun _ h9 => h9) rfl (pc := 28) dX10_forbid_28 ?_
      refine lv_aload_n hx hb (pc := 31) dX10_forbid_31 rfl (lv_at hl 0 rfl) ?_
      refine va_get (v := .int (nI nf)) hx hb hts (inX10_forbid_10) hown hKK.1 hP 0 rfl rfl 6 (by decide) (hts _ (List.mem_of_getElem? (i := 2) (by decide +kernel))) (fun _ h9 => h9) rfl (pc := 32) dX10_forbid_32 ?_
      refine lv_aload_n hx hb (pc := 35) dX10_forbid_35 rfl (lv_at hl 0 rfl) ?_
      refine va_get (v := .int (nI wl)) hx hb hts (inX10_forbid_10) hown hKK.1 hP 0 rfl rfl 4 (by decide) (hts _ (List.mem_of_getElem? (i := 1) (by decide +kernel))) (fun _ h9 => h9) rfl (pc := 36) dX10_forbid_36 ?_
      refine nv_iast (f := FL) (x := wl) (ws' := XM K om ad ns wl nf wd mt kF nF yF WD (va_up FL nf wl) FW TD RW pl nw xt vF wF qF bY gF nm xm fR oF hF dF) (i := nf) hx hb hKK hP hD hS 5 rfl (by omega) (by decide) (rfl) (pc := 39) dX10_forbid_39 (fun H locs hP hD hS => ?_)
      refine lv_iconst (v := nI 0) hx hb (pc := 40) dX10_forbid_40 (by decide) ?_
      refine lv_istore_n (lv' := [(1, .int (nI 0)), (0, .ref om)]) hx hb (pc := 41) dX10_forbid_41 rfl hl (by decide) rfl (fun ls hl => ?_)
      have L42 : ∀ (fz : Nat) (i : Nat) (H : Heap) (locs : List Loc) (hP : va_P K.1 vwCl (XM K om ad ns wl nf wd mt kF nF yF WD (va_up FL nf wl) (putN FW WD (nf * 5) i) TD RW pl nw xt vF wF qF bY gF nm xm fR oF hF dF) H) (hD : va_D A (XM K om ad ns wl nf wd mt kF nF yF WD (va_up FL nf wl) (putN FW WD (nf * 5) i) TD RW pl nw xt vF wF qF bY gF nm xm fR oF hF dF)) (hS : va_S A s.heap H locs) (hfz : wl - i < fz) (hi : i ≤ wl) (ls : Array Slot) (hl : lv_has ls 2 [(0, .ref om), (1, .int (nI i))]), W p l e rmX10_forbid s m args below meth c H locs 0 0 Q (F0 m 42 ls []) := by
        intro fz; induction fz with
        | zero => intro i H locs hP hD hS hfz hi ls hl; exact absurd hfz (Nat.not_lt_zero _)
        | succ fz ih42 =>
          intro i H locs hP hD hS hfz hi ls hl
          refine lv_iload_n hx hb (pc := 42) dX10_forbid_42 rfl (lv_at hl 1 rfl) ?_
          refine lv_aload_n hx hb (pc := 43) dX10_forbid_43 rfl (lv_at hl 0 rfl) ?_
          refine va_get (v := .int (nI wl)) hx hb hts (inX10_forbid_10) hown hKK.1 hP 0 rfl rfl 4 (by decide) (hts _ (List.mem_of_getElem? (i := 1) (by decide +kernel))) (fun _ h9 => h9) rfl (pc := 44) dX10_forbid_44 ?_
          refine nv_icmp_ge (a := i) (b := wl) (tgt := 75) hx hb (pc := 47) dX10_forbid_47 (by decide) (by omega) (by omega) (fun c47 => ?_) (fun c47 => ?_)
          · refine lv_aload_n hx hb (pc := 75) dX10_forbid_75 rfl (lv_at hl 0 rfl) ?_
            refine lv_dup hx hb (pc := 76) dX10_forbid_76 rfl ?_
            refine va_get (v := .int (nI nf)) hx hb hts (inX10_forbid_10) hown hKK.1 hP 0 rfl rfl 6 (by decide) (hts _ (List.mem_of_getElem? (i := 2) (by decide +kernel))) (fun _ h9 => h9) rfl (pc := 77) dX10_forbid_77 ?_
            refine lv_iconst (v := nI 1) hx hb (pc := 80) dX10_forbid_80 (by decide) ?_
            refine nv_iadd (a := nf) (b := 1) hx hb (pc := 81) dX10_forbid_81 ?_
            refine rr_put (v := .int (nI (nf + 1))) (ty := tyX10 6) (ws' := XM K om ad ns wl (nf + 1) wd mt kF nF yF WD (va_up FL nf wl) (putN FW WD (nf * 5) i) TD RW pl nw xt vF wF qF bY gF nm xm fR oF hF dF) hx hb hts (inX10_forbid_10) tyX10 tyX10_ok nmX10 hown hKK.1 hP hD hS 0 rfl rfl 6 (by decide) (hts _ (List.mem_of_getElem? (i := 2) (by decide +kernel))) (fun _ h9 => h9) rfl (tyX10_ok 6 (by decide)) rfl rfl (Nat.le_of_ble_eq_true rfl) rfl (pc := 82) dX10_forbid_82 (fun H locs hP hD hS => ?_)
            refine lv_aload_n hx hb (pc := 85) dX10_forbid_85 rfl (lv_at hl 0 rfl) ?_
            refine va_get (v := .int (nI (nf + 1))) hx hb hts (inX10_forbid_10) hown hKK.1 hP 0 rfl rfl 6 (by decide) (hts _ (List.mem_of_getElem? (i := 2) (by decide +kernel))) (fun _ h9 => h9) rfl (pc := 86) dX10_forbid_86 ?_
            have e9 : i = wl := by omega
            exact hret.1 _ _ 0 0 89 _ (nI (nf + 1)) dX10_forbid_89 (by omega) (by omega) hS (⟨by unfold forA; rw [if_pos hc, if_neg c21], by rw [show forOK wl nf = true from by unfold forOK; rw [decide_eq_true hc, decide_eq_false c21]; rfl]; rw [e9] at hP; exact hP⟩) (rfl)
          · refine lv_aload_n hx hb (pc := 50) dX10_forbid_50 rfl (lv_at hl 0 rfl) ?_
            refine va_get (v := .ref (ad 8)) hx hb hts (inX10_forbid_10) hown hKK.1 hP 0 rfl rfl 8 (by decide) (hts _ (List.mem_of_getElem? (i := 4) (by decide +kernel))) (fun _ h9 => h9) rfl (pc := 51) dX10_forbid_51 ?_
            refine lv_iconst (v := nI 5) hx hb (pc := 54) dX10_forbid_54 (by decide) ?_
            refine lv_aload_n hx hb (pc := 55) dX10_forbid_55 rfl (lv_at hl 0 rfl) ?_
            refine va_get (v := .int (nI nf)) hx hb hts (inX10_forbid_10) hown hKK.1 hP 0 rfl rfl 6 (by decide) (hts _ (List.mem_of_getElem? (i := 2) (by decide +kernel))) (fun _ h9 => h9) rfl (pc := 56) dX10_forbid_56 ?_
            refine nv_imul (a := 5) (b := nf) hx hb (pc := 59) dX10_forbid_59 ?_
            refine lv_iload_n hx hb (pc := 60) dX10_forbid_60 rfl (lv_at hl 1 rfl) ?_
            refine nv_iadd (a := (5 * nf)) (b := i) hx hb (pc := 61) dX10_forbid_61 ?_
            refine lv_aload_n hx hb (pc := 62) dX10_forbid_62 rfl (lv_at hl 0 rfl) ?_
            refine va_get (v := .ref (ad 5)) hx hb hts (inX10_forbid_10) hown hKK.1 hP 0 rfl rfl 5 (by decide) (hts _ (List.mem_of_getElem? (i := 5) (by decide +kernel))) (fun _ h9 => h9) rfl (pc := 63) dX10_forbid_63 ?_
            refine lv_iload_n hx hb (pc := 66) dX10_forbid_66 rfl (lv_at hl 1 rfl) ?_
            refine nv_iald (v := nI (WD i)) (i := i) hx hb hKK hP 4 rfl (by omega) (by decide) (rfl) (pc := 67) dX10_forbid_67 ?_
            refine nv_iast (f := (putN FW WD (nf * 5) i)) (x := (WD i)) (ws' := XM K om ad ns wl nf wd mt kF nF yF WD (va_up FL nf wl) (va_up (putN FW WD (nf * 5) i) ((5 * nf) + i) (WD i)) TD RW pl nw xt vF wF qF bY gF nm xm fR oF hF dF) (i := ((5 * nf) + i)) hx hb hKK hP hD hS 6 rfl (by omega) (by decide) (rfl) (pc := 68) dX10_forbid_68 (fun H locs hP hD hS => ?_)
            refine lv_iinc (v := nI (i + 1)) (lv' := [(1, .int (nI (i + 1))), (0, .ref om)]) hx hb (pc := 69) dX10_forbid_69 hl (k := 1) rfl (rr_inc _) (by decide) rfl (fun ls hl => ?_)
            refine lv_goto (tgt := 42) hx hb (pc := 72) dX10_forbid_72 (by decide) ?_
            rw [show 5 * nf + i = nf * 5 + i by omega, putN_step FW WD (nf * 5) i] at hP hD
            exact ih42 (i + 1) _ _ hP hD hS (by omega) (by omega) ls (lv_sub hl [1, 0] rfl)
      rw [← putN_0 FW WD (nf * 5)] at hP hD
      exact L42 (6) 0 _ _ hP hD hS (by omega) (Nat.zero_le _) ls (lv_sub hl [1, 0] rfl)
    · refine lv_bipush (v := -4) hx hb (pc := 24) dX10_forbid_24 (by decide) ?_
      exact hret.1 _ _ 0 0 26 _ (-4) dX10_forbid_26 (by omega) (by omega) hS (⟨by unfold forA; rw [if_pos hc, if_pos c21], by rw [show forOK wl nf = false from by unfold forOK; rw [decide_eq_true hc, decide_eq_true c21]; rfl]; exact hP⟩) (rfl)
  · refine lv_bipush (v := -3) hx hb (pc := 12) dX10_forbid_12 (by decide) ?_
    have hc := rrin_out (by omega) (by decide) (by decide) c9
    exact hret.1 _ _ 0 0 14 _ (-3) dX10_forbid_14 (by omega) (by omega) hS (⟨by unfold forA; rw [if_neg hc], by rw [show forOK wl nf = false from by unfold forOK; rw [decide_eq_false hc]; rfl]; exact hP⟩) (rfl)

abbrev rmX10_live : Room := { frames := 3, cells := 0, slots := 0, locals := 73 }
set_option maxHeartbeats 4000000 in
set_option maxRecDepth 100000 in
theorem c_X10_live (l : Launch) (K : rr_K) (om : Nat) (ad : Nat → Nat) (ns wl nf wd mt : Nat) (kF nF yF WD FL FW TD RW pl nw xt vF wF qF bY gF : Nat → Nat) (nm xm : Nat → Int64) (fR oF hF dF : Nat → Int32) (x q : Int32) (hS9 : SOK ns kF nF yF) : MetP l K yX10_live wsX10_live rmX10_live [.ref om, .int x, .int q] (fun H => va_P K.1 vwCl (XM K om ad ns wl nf wd mt kF nF yF WD FL FW TD RW pl nw xt vF wF qF bY gF nm xm fR oF hF dF) H) (.int (livA ns kF nF yF x q)) := by
  refine metP_of (cc := cX10_live) (maxL := 3) (ret := (some .int)) (rt := .int) (by decide) rfl rfl (Nat.le_of_ble_eq_true rfl) ?_
  intro p e s m args below meth c Q ls hEnt hKK hX hret hl
  obtain ⟨hx, hb, hml, hown, hts⟩ := hEnt
  have hP : va_P K.1 vwCl (XM K om ad ns wl nf wd mt kF nF yF WD FL FW TD RW pl nw xt vF wF qF bY gF nm xm fR oF hF dF) s.heap := hX
  have hl : lv_has ls 3 [(0, .ref om), (1, .int x), (2, .int q)] := hl
  refine lv_aload_n hx hb (pc := 0) dX10_live_0 rfl (lv_at hl 0 rfl) ?_
  refine lv_iload_n hx hb (pc := 1) dX10_live_1 rfl (lv_at hl 1 rfl) ?_
  refine lv_iload_n hx hb (pc := 2) dX10_live_2 rfl (lv_at hl 2 rfl) ?_
  refine rr_callP (rv := .int (bI (okQ ns nF x q))) (pc := 3) (va_runV (As := [.int x, .int q]) (rest := []) ⟨hx, hb, hml, hown, hts⟩ (c_X10_isState l K om ad ns wl nf wd mt kF nF yF WD FL FW TD RW pl nw xt vF wF qF bY gF nm xm fR oF hF dF x q hS9.1) (cwV 2 hts gX10_live_X10_isState rfl rfl rfl (by decide +kernel) ⟨Nat.le_of_ble_eq_true rfl, Nat.le_of_ble_eq_true rfl⟩) (rr_preV hKK (hP) (va_recv hKK.1 hP (ci := 10) (q0 := 0) rfl rfl)) rfl rfl hl.1 rfl (lv_room (Nat.le_of_ble_eq_true rfl)) dX10_live_3 ⟨Nat.le_refl _, Nat.le_refl _⟩) ?_
  refine nv_if_eq_b (a := (okQ ns nF x q)) (tgt := 21) hx hb (pc := 6) dX10_live_6 (by decide) (fun c6 => ?_) (fun c6 => ?_)
  · refine lv_bipush (v := -2) hx hb (pc := 21) dX10_live_21 (by decide) ?_
    exact hret.1 23 _ (-2) dX10_live_23 (by unfold livA; first | (rw [if_neg (by rw [c6]; decide)]; done) | (rw [if_pos c6, hxj, hqq, cN_nI (by omega), cN_nI (by omega)]; done)) (rfl)
  · obtain ⟨j, q9, hxj, hqq, hj, hq9⟩ := okQ_of hS9 c6
    obtain ⟨s1, s2, s3, s4, s5⟩ := hS9.2 j hj
    have hns := hS9.1
    have hlv := liveS_lt16 (k := kF j) (E := Es yF j) s4
    refine lv_aload_n hx hb (pc := 9) dX10_live_9 rfl (lv_at hl 0 rfl) ?_
    refine lv_iload_n hx hb (pc := 10) dX10_live_10 rfl (lv_at hl 1 rfl) ?_
    refine rr_top (v := .int (nI j)) (by rw [hxj]) ?_
    refine rr_callP (rv := .int (nI (liveS (kF j) (nF j) (Es yF j)))) (pc := 11) (va_runV (As := [.int (nI j)]) (rest := []) ⟨hx, hb, hml, hown, hts⟩ (c_X10_liveOf l K om ad ns wl nf wd mt kF nF yF WD FL FW TD RW pl nw xt vF wF qF bY gF nm xm fR oF hF dF j (by omega) s2 s4 s5) (cwV 1 hts gX10_live_X10_liveOf rfl rfl rfl (by decide +kernel) ⟨Nat.le_of_ble_eq_true rfl, Nat.le_of_ble_eq_true rfl⟩) (rr_preV hKK (hP) (va_recv hKK.1 hP (ci := 10) (q0 := 0) rfl rfl)) rfl rfl hl.1 rfl (lv_room (Nat.le_of_ble_eq_true rfl)) dX10_live_11 ⟨Nat.le_refl _, Nat.le_refl _⟩) ?_
    refine lv_iload_n hx hb (pc := 14) dX10_live_14 rfl (lv_at hl 2 rfl) ?_
    refine rr_top (v := .int (nI q9)) (by rw [hqq]) ?_
    refine nv_ishr (a := (liveS (kF j) (nF j) (Es yF j))) (b := q9) hx hb (pc := 15) dX10_live_15 (by omega) (by omega) ?_
    refine lv_iconst (v := nI 1) hx hb (pc := 16) dX10_live_16 (by decide) ?_
    refine nv_bit (a := (liveS (kF j) (nF j) (Es yF j))) (q := q9) hx hb (pc := 17) dX10_live_17 ?_
    refine lv_goto (tgt := 23) hx hb (pc := 18) dX10_live_18 (by decide) ?_
    exact hret.1 23 _ (bI ((liveS (kF j) (nF j) (Es yF j)).testBit q9)) dX10_live_23 (by unfold livA; first | (rw [if_neg (by rw [c6]; decide)]; done) | (rw [if_pos c6, hxj, hqq, cN_nI (by omega), cN_nI (by omega)]; done)) (rfl)

abbrev rmX10_may : Room := { frames := 3, cells := 0, slots := 0, locals := 73 }
theorem inX10_may_10 : ∀ w ∈ wsX100, w ∈ wsX10_may := fun _ h => List.mem_cons_of_mem _ (List.mem_append_right _ h)
set_option maxHeartbeats 4000000 in
set_option maxRecDepth 100000 in
theorem c_X10_may (l : Launch) (K : rr_K) (om : Nat) (ad : Nat → Nat) (ns wl nf wd mt : Nat) (kF nF yF WD FL FW TD RW pl nw xt vF wF qF bY gF : Nat → Nat) (nm xm : Nat → Int64) (fR oF hF dF : Nat → Int32) (x : Int32) (hS9 : SOK ns kF nF yF) (hW9 : WOK wl WD) : MetP l K yX10_may wsX10_may rmX10_may [.ref om, .int x] (fun H => va_P K.1 vwCl (XM K om ad ns wl nf wd mt kF nF yF WD FL FW TD RW pl nw xt vF wF qF bY gF nm xm fR oF hF dF) H) (.int (mayA ns kF nF yF wl WD x)) := by
  refine metP_of (cc := cX10_may) (maxL := 5) (ret := (some .int)) (rt := .int) (by decide) rfl rfl (Nat.le_of_ble_eq_true rfl) ?_
  intro p e s m args below meth c Q ls hEnt hKK hX hret hl
  obtain ⟨hx, hb, hml, hown, hts⟩ := hEnt
  have hP : va_P K.1 vwCl (XM K om ad ns wl nf wd mt kF nF yF WD FL FW TD RW pl nw xt vF wF qF bY gF nm xm fR oF hF dF) s.heap := hX
  have hl : lv_has ls 5 [(0, .ref om), (1, .int x)] := hl
  have hwl := hW9.1
  refine lv_aload_n hx hb (pc := 0) dX10_may_0 rfl (lv_at hl 0 rfl) ?_
  refine lv_iload_n hx hb (pc := 1) dX10_may_1 rfl (lv_at hl 1 rfl) ?_
  refine rr_callP (rv := .int (bI (isS ns x))) (pc := 2) (va_runV (As := [.int x]) (rest := []) ⟨hx, hb, hml, hown, hts⟩ (c_X10_isSet l K om ad ns wl nf wd mt kF nF yF WD FL FW TD RW pl nw xt vF wF qF bY gF nm xm fR oF hF dF x) (cwV 1 hts gX10_may_X10_isSet rfl rfl rfl (by decide +kernel) ⟨Nat.le_of_ble_eq_true rfl, Nat.le_of_ble_eq_true rfl⟩) (rr_preV hKK (hP) (va_recv hKK.1 hP (ci := 10) (q0 := 0) rfl rfl)) rfl rfl hl.1 rfl (lv_room (Nat.le_of_ble_eq_true rfl)) dX10_may_2 ⟨Nat.le_refl _, Nat.le_refl _⟩) ?_
  refine nv_if_ne_b (a := (isS ns x)) (tgt := 11) hx hb (pc := 5) dX10_may_5 (by decide) (fun c5 => ?_) (fun c5 => ?_)
  · obtain ⟨j, hj, hxj⟩ := isS_of (by have := hS9.1; omega) c5
    obtain ⟨s1, s2, s3, s4, s5⟩ := hS9.2 j hj
    have hns := hS9.1
    have hlv := liveS_lt16 (k := kF j) (E := Es yF j) s4
    have ecx : cN x = j := by rw [hxj]; exact cN_nI (by omega)
    refine lv_aload_n hx hb (pc := 11) dX10_may_11 rfl (lv_at hl 0 rfl) ?_
    refine lv_iload_n hx hb (pc := 12) dX10_may_12 rfl (lv_at hl 1 rfl) ?_
    refine rr_top (v := .int (nI j)) (by rw [hxj]) ?_
    refine rr_callP (rv := .int (nI (liveS (kF j) (nF j) (Es yF j)))) (pc := 13) (va_runV (As := [.int (nI j)]) (rest := []) ⟨hx, hb, hml, hown, hts⟩ (c_X10_liveOf l K om ad ns wl nf wd mt kF nF yF WD FL FW TD RW pl nw xt vF wF qF bY gF nm xm fR oF hF dF j (by omega) s2 s4 s5) (cwV 1 hts gX10_may_X10_liveOf rfl rfl rfl (by decide +kernel) ⟨Nat.le_of_ble_eq_true rfl, Nat.le_of_ble_eq_true rfl⟩) (rr_preV hKK (hP) (va_recv hKK.1 hP (ci := 10) (q0 := 0) rfl rfl)) rfl rfl hl.1 rfl (lv_room (Nat.le_of_ble_eq_true rfl)) dX10_may_13 ⟨Nat.le_refl _, Nat.le_refl _⟩) ?_
    refine lv_istore_n (lv' := [(2, .int (nI (liveS (kF j) (nF j) (Es yF j)))), (0, .ref om), (1, .int x)]) hx hb (pc := 16) dX10_may_16 rfl hl (by decide) rfl (fun ls hl => ?_)
    refine lv_iload_n hx hb (pc := 17) dX10_may_17 rfl (lv_at hl 0 rfl) ?_
    refine lv_istore_n (lv' := [(3, .int (nI (liveS (kF j) (nF j) (Es yF j)))), (2, .int (nI (liveS (kF j) (nF j) (Es yF j)))), (0, .ref om), (1, .int x)]) hx hb (pc := 18) dX10_may_18 rfl hl (by decide) rfl (fun ls hl => ?_)
    refine lv_iconst (v := nI 0) hx hb (pc := 19) dX10_may_19 (by decide) ?_
    refine lv_istore (lv' := [(4, .int (nI 0)), (3, .int (nI (liveS (kF j) (nF j) (Es yF j)))), (2, .int (nI (liveS (kF j) (nF j) (Es yF j)))), (0, .ref om), (1, .int x)]) hx hb (pc := 20) dX10_may_20 hl (by decide) rfl (fun ls hl => ?_)
    have L22 : ∀ (fz : Nat) (i : Nat) (hfz : wl - i < fz) (hi : i ≤ wl) (ls : Array Slot) (hl : lv_has ls 5 [(0, .ref om), (1, .int x), (2, .int (nI (liveS (kF j) (nF j) (Es yF j)))), (3, .int (nI (mayS (kF j) (nF j) (Es yF j) WD i))), (4, .int (nI i))]), W p l e rmX10_may s m args below meth c s.heap [] 0 0 Q (F0 m 22 ls []) := by
      intro fz; induction fz with
      | zero => intro i hfz hi ls hl; exact absurd hfz (Nat.not_lt_zero _)
      | succ fz ih22 =>
        intro i hfz hi ls hl
        have hmyl := mayS_lt (k := kF j) (E := Es yF j) (WD := WD) s4 i
        refine lv_iload hx hb (pc := 22) dX10_may_22 (lv_at hl 4 rfl) ?_
        refine lv_aload_n hx hb (pc := 24) dX10_may_24 rfl (lv_at hl 0 rfl) ?_
        refine va_get (v := .int (nI wl)) hx hb hts (inX10_may_10) hown hKK.1 hP 0 rfl rfl 4 (by decide) (hts _ (List.mem_of_getElem? (i := 1) (by decide +kernel))) (fun _ h9 => h9) rfl (pc := 25) dX10_may_25 ?_
        refine nv_icmp_ge (a := i) (b := wl) (tgt := 52) hx hb (pc := 28) dX10_may_28 (by decide) (by omega) (by omega) (fun c28 => ?_) (fun c28 => ?_)
        · refine lv_iload_n hx hb (pc := 52) dX10_may_52 rfl (lv_at hl 3 rfl) ?_
          refine nv_if_eq (a := (mayS (kF j) (nF j) (Es yF j) WD i)) (tgt := 60) hx hb (pc := 53) dX10_may_53 (by decide) (by omega) (fun c53 => ?_) (fun c53 => ?_)
          · refine lv_iconst (v := nI 0) hx hb (pc := 60) dX10_may_60 (by decide) ?_
            have e9 : i = wl := by omega
            exact hret.1 61 _ (nI 0) dX10_may_61 (by unfold mayA; rw [if_pos c5, ecx, ← e9]; first | (rw [decide_eq_true c53]; rfl) | (rw [c53]; rfl)) (rfl)
          · refine lv_iconst (v := nI 1) hx hb (pc := 56) dX10_may_56 (by decide) ?_
            refine lv_goto (tgt := 61) hx hb (pc := 57) dX10_may_57 (by decide) ?_
            have e9 : i = wl := by omega
            exact hret.1 61 _ (nI 1) dX10_may_61 (by unfold mayA; rw [if_pos c5, ecx, ← e9]; first | (rw [decide_eq_true c53]; rfl) | (rw [c53]; rfl)) (rfl)
        · refine lv_aload_n hx hb (pc := 31) dX10_may_31 rfl (lv_at hl 0 rfl) ?_
          refine lv_iload_n hx hb (pc := 32) dX10_may_32 rfl (lv_at hl 1 rfl) ?_
          refine rr_top (v := .int (nI j)) (by rw [hxj]) ?_
          refine lv_iload_n hx hb (pc := 33) dX10_may_33 rfl (lv_at hl 2 rfl) ?_
          refine lv_iload_n hx hb (pc := 34) dX10_may_34 rfl (lv_at hl 3 rfl) ?_
          refine lv_aload_n hx hb (pc := 35) dX10_may_35 rfl (lv_at hl 0 rfl) ?_
          refine va_get (v := .ref (ad 5)) hx hb hts (inX10_may_10) hown hKK.1 hP 0 rfl rfl 5 (by decide) (hts _ (List.mem_of_getElem? (i := 2) (by decide +kernel))) (fun _ h9 => h9) rfl (pc := 36) dX10_may_36 ?_
          refine lv_iload hx hb (pc := 39) dX10_may_39 (lv_at hl 4 rfl) ?_
          refine nv_iald (v := nI (WD i)) (i := i) hx hb hKK hP 4 rfl (by omega) (by decide) (rfl) (pc := 41) dX10_may_41 ?_
          refine rr_callP (rv := .int (nI (ldS (kF j) (nF j) (Es yF j) (liveS (kF j) (nF j) (Es yF j)) (mayS (kF j) (nF j) (Es yF j) WD i) (WD i)))) (pc := 42) (va_runV (As := [.int (nI j), .int (nI (liveS (kF j) (nF j) (Es yF j))), .int (nI (mayS (kF j) (nF j) (Es yF j) WD i)), .int (nI (WD i))]) (rest := []) ⟨hx, hb, hml, hown, hts⟩ (c_X10_lead l K om ad ns wl nf wd mt kF nF yF WD FL FW TD RW pl nw xt vF wF qF bY gF nm xm fR oF hF dF j (liveS (kF j) (nF j) (Es yF j)) (mayS (kF j) (nF j) (Es yF j) WD i) (WD i) (by omega) s2 s4 s5 (by omega) (hW9.2 i (by omega))) (cwV 4 hts gX10_may_X10_lead rfl rfl rfl (by decide +kernel) ⟨Nat.le_of_ble_eq_true rfl, Nat.le_of_ble_eq_true rfl⟩) (rr_preV hKK (hP) (va_recv hKK.1 hP (ci := 10) (q0 := 0) rfl rfl)) rfl rfl hl.1 rfl (lv_room (Nat.le_of_ble_eq_true rfl)) dX10_may_42 ⟨Nat.le_refl _, Nat.le_refl _⟩) ?_
          refine lv_istore_n (lv' := [(3, .int (nI (ldS (kF j) (nF j) (Es yF j) (liveS (kF j) (nF j) (Es yF j)) (mayS (kF j) (nF j) (Es yF j) WD i) (WD i)))), (0, .ref om), (1, .int x), (2, .int (nI (liveS (kF j) (nF j) (Es yF j)))), (4, .int (nI i))]) hx hb (pc := 45) dX10_may_45 rfl hl (by decide) rfl (fun ls hl => ?_)
          refine lv_iinc (v := nI (i + 1)) (lv' := [(4, .int (nI (i + 1))), (3, .int (nI (ldS (kF j) (nF j) (Es yF j) (liveS (kF j) (nF j) (Es yF j)) (mayS (kF j) (nF j) (Es yF j) WD i) (WD i)))), (0, .ref om), (1, .int x), (2, .int (nI (liveS (kF j) (nF j) (Es yF j))))]) hx hb (pc := 46) dX10_may_46 hl (k := 4) rfl (rr_inc _) (by decide) rfl (fun ls hl => ?_)
          refine lv_goto (tgt := 22) hx hb (pc := 49) dX10_may_49 (by decide) ?_
          have hl : lv_has ls 5 [(4, .int (nI (i + 1))), (3, .int (nI (mayS (kF j) (nF j) (Es yF j) WD (i + 1)))), (0, .ref om), (1, .int x), (2, .int (nI (liveS (kF j) (nF j) (Es yF j))))] := by rw [show mayS (kF j) (nF j) (Es yF j) WD (i + 1) = ldS (kF j) (nF j) (Es yF j) (liveS (kF j) (nF j) (Es yF j)) (mayS (kF j) (nF j) (Es yF j) WD i) (WD i) from rfl]; exact hl
          exact ih22 (i + 1) (by omega) (by omega) ls (lv_sub hl [2, 3, 4, 1, 0] rfl)
    have hl : lv_has ls 5 [(4, .int (nI 0)), (3, .int (nI (mayS (kF j) (nF j) (Es yF j) WD 0))), (2, .int (nI (liveS (kF j) (nF j) (Es yF j)))), (0, .ref om), (1, .int x)] := by rw [show mayS (kF j) (nF j) (Es yF j) WD 0 = liveS (kF j) (nF j) (Es yF j) from rfl]; exact hl
    exact L22 (31) 0 (by omega) (Nat.zero_le _) ls (lv_sub hl [3, 4, 2, 1, 0] rfl)
  · refine lv_bipush (v := -2) hx hb (pc := 8) dX10_may_8 (by decide) ?_
    exact hret.1 10 _ (-2) dX10_may_10 (by unfold mayA; rw [if_neg (by rw [c5]; decide)]) (rfl)

abbrev rmX10_window : Room := { frames := 1, cells := 0, slots := 0, locals := 22 }
theorem inX10_window_10 : ∀ w ∈ wsX100, w ∈ wsX10_window := fun _ h => List.mem_cons_of_mem _ (List.mem_append_right _ h)
set_option maxHeartbeats 4000000 in
set_option maxRecDepth 100000 in
theorem c_X10_window (l : Launch) (K : rr_K) (A : Nat → Prop) (om : Nat) (ad : Nat → Nat) (ns wl nf wd mt : Nat) (kF nF yF WD FL FW TD RW pl nw xt vF wF qF bY gF : Nat → Nat) (nm xm : Nat → Int64) (fR oF hF dF : Nat → Int32) (x : Int32) (hD : va_D A (XM K om ad ns wl nf wd mt kF nF yF WD FL FW TD RW pl nw xt vF wF qF bY gF nm xm fR oF hF dF)) : MetR l K yX10_window wsX10_window rmX10_window [.ref om, .int x] (fun H => va_P K.1 vwCl (XM K om ad ns wl nf wd mt kF nF yF WD FL FW TD RW pl nw xt vF wF qF bY gF nm xm fR oF hF dF) H) A (fun v H => v = .int (winA x) ∧ va_P K.1 vwCl (XM K om ad ns wl nf (cond (rrin x (nI 1) (nI 3)) (cN x) wd) mt kF nF yF WD FL FW (cond (rrin x (nI 1) (nI 3)) (putZ TD (fun _ => 0) 64) TD) RW pl nw xt vF wF qF bY gF nm xm fR oF hF dF) H) 0 0 := by
  refine metR_of (cc := cX10_window) (maxL := 3) (ret := (some .int)) (rt := .int) (by decide) rfl rfl rfl rfl (Nat.le_of_ble_eq_true rfl) ?_
  intro p e s m args below meth c Q ls hEnt hKK hX hret hl
  obtain ⟨hx, hb, hml, hown, hts⟩ := hEnt
  have hP : va_P K.1 vwCl (XM K om ad ns wl nf wd mt kF nF yF WD FL FW TD RW pl nw xt vF wF qF bY gF nm xm fR oF hF dF) s.heap := hX
  have hl : lv_has ls 3 [(0, .ref om), (1, .int x)] := hl
  have hS : va_S A s.heap s.heap [] := va_S.rf
  refine lv_iload_n hx hb (pc := 0) dX10_window_0 rfl (lv_at hl 1 rfl) ?_
  refine lv_iconst (v := nI 1) hx hb (pc := 1) dX10_window_1 (by decide) ?_
  refine lv_iconst (v := nI 3) hx hb (pc := 2) dX10_window_2 (by decide) ?_
  refine rr_callP (rv := .int (bI (rrin x (nI 1) (nI 3)))) (pc := 3) (va_runS (As := [.int x, .int (nI 1), .int (nI 3)]) (rest := []) ⟨hx, hb, hml, hown, hts⟩ (c_X10_in l K x (nI 1) (nI 3)) (cwS 3 hts gX10_window_X10_in rfl rfl rfl (by decide +kernel) ⟨Nat.le_of_ble_eq_true rfl, Nat.le_of_ble_eq_true rfl⟩) (rr_preS hKK (trivial)) rfl rfl hl.1 rfl (lv_room (Nat.le_of_ble_eq_true rfl)) dX10_window_3 ⟨Nat.le_refl _, Nat.le_refl _⟩) ?_
  refine nv_if_ne_b (a := (rrin x (nI 1) (nI 3))) (tgt := 12) hx hb (pc := 6) dX10_window_6 (by decide) (fun c6 => ?_) (fun c6 => ?_)
  · obtain ⟨y, hy1, hy2, hxy⟩ := rrin_Nat (by decide) (by decide) c6
    have ecx : cN x = y := by rw [hxy]; exact cN_nI (by omega)
    refine lv_aload_n hx hb (pc := 12) dX10_window_12 rfl (lv_at hl 0 rfl) ?_
    refine lv_iload_n hx hb (pc := 13) dX10_window_13 rfl (lv_at hl 1 rfl) ?_
    refine rr_top (v := .int (nI y)) (by rw [hxy]) ?_
    refine rr_put (v := .int (nI y)) (ty := tyX10 9) (ws' := XM K om ad ns wl nf y mt kF nF yF WD FL FW TD RW pl nw xt vF wF qF bY gF nm xm fR oF hF dF) hx hb hts (inX10_window_10) tyX10 tyX10_ok nmX10 hown hKK.1 hP hD hS 0 rfl rfl 9 (by decide) (hts _ (List.mem_of_getElem? (i := 1) (by decide +kernel))) (fun _ h9 => h9) rfl (tyX10_ok 9 (by decide)) rfl rfl (Nat.le_of_ble_eq_true rfl) rfl (pc := 14) dX10_window_14 (fun H locs hP hD hS => ?_)
    refine lv_iconst (v := nI 0) hx hb (pc := 17) dX10_window_17 (by decide) ?_
    refine lv_istore_n (lv' := [(2, .int (nI 0)), (0, .ref om), (1, .int x)]) hx hb (pc := 18) dX10_window_18 rfl hl (by decide) rfl (fun ls hl => ?_)
    have L19 : ∀ (fz : Nat) (i : Nat) (H : Heap) (locs : List Loc) (hP : va_P K.1 vwCl (XM K om ad ns wl nf y mt kF nF yF WD FL FW (putZ TD (fun _ => 0) i) RW pl nw xt vF wF qF bY gF nm xm fR oF hF dF) H) (hD : va_D A (XM K om ad ns wl nf y mt kF nF yF WD FL FW (putZ TD (fun _ => 0) i) RW pl nw xt vF wF qF bY gF nm xm fR oF hF dF)) (hS : va_S A s.heap H locs) (hfz : 64 - i < fz) (hi : i ≤ 64) (ls : Array Slot) (hl : lv_has ls 3 [(0, .ref om), (2, .int (nI i))]), W p l e rmX10_window s m args below meth c H locs 0 0 Q (F0 m 19 ls []) := by
      intro fz; induction fz with
      | zero => intro i H locs hP hD hS hfz hi ls hl; exact absurd hfz (Nat.not_lt_zero _)
      | succ fz ih19 =>
        intro i H locs hP hD hS hfz hi ls hl
        refine lv_iload_n hx hb (pc := 19) dX10_window_19 rfl (lv_at hl 1 rfl) ?_
        refine lv_bipush (v := nI 64) hx hb (pc := 20) dX10_window_20 (by decide) ?_
        refine nv_icmp_ge (a := i) (b := 64) (tgt := 38) hx hb (pc := 22) dX10_window_22 (by decide) (by omega) (by omega) (fun c22 => ?_) (fun c22 => ?_)
        · refine lv_iconst (v := nI 1) hx hb (pc := 38) dX10_window_38 (by decide) ?_
          have e9 : i = 64 := by omega
          exact hret.1 _ _ 0 0 39 _ (nI 1) dX10_window_39 (by omega) (by omega) hS (⟨by unfold winA; rw [if_pos c6], by rw [c6, ecx]; rw [e9] at hP; exact hP⟩) (rfl)
        · refine lv_aload_n hx hb (pc := 25) dX10_window_25 rfl (lv_at hl 0 rfl) ?_
          refine va_get (v := .ref (ad 10)) hx hb hts (inX10_window_10) hown hKK.1 hP 0 rfl rfl 10 (by decide) (hts _ (List.mem_of_getElem? (i := 2) (by decide +kernel))) (fun _ h9 => h9) rfl (pc := 26) dX10_window_26 ?_
          refine lv_iload_n hx hb (pc := 29) dX10_window_29 rfl (lv_at hl 1 rfl) ?_
          refine lv_iconst (v := nI 0) hx hb (pc := 30) dX10_window_30 (by decide) ?_
          refine nv_iast (f := (putZ TD (fun _ => 0) i)) (x := 0) (ws' := XM K om ad ns wl nf y mt kF nF yF WD FL FW (va_up (putZ TD (fun _ => 0) i) i 0) RW pl nw xt vF wF qF bY gF nm xm fR oF hF dF) (i := i) hx hb hKK hP hD hS 7 rfl (by omega) (by decide) (rfl) (pc := 31) dX10_window_31 (fun H locs hP hD hS => ?_)
          refine lv_iinc (v := nI (i + 1)) (lv' := [(2, .int (nI (i + 1))), (0, .ref om)]) hx hb (pc := 32) dX10_window_32 hl (k := 1) rfl (rr_inc _) (by decide) rfl (fun ls hl => ?_)
          refine lv_goto (tgt := 19) hx hb (pc := 35) dX10_window_35 (by decide) ?_
          rw [show va_up (putZ TD (fun _ => 0) i) i 0 = putZ TD (fun _ => 0) (i + 1) from putZ_step TD (fun _ => 0) i] at hP hD
          exact ih19 (i + 1) _ _ hP hD hS (by omega) (by omega) ls (lv_sub hl [1, 0] rfl)
    rw [← putZ_0 TD (fun _ => 0)] at hP hD
    exact L19 (65) 0 _ _ hP hD hS (by omega) (Nat.zero_le _) ls (lv_sub hl [1, 0] rfl)
  · refine lv_bipush (v := -2) hx hb (pc := 9) dX10_window_9 (by decide) ?_
    exact hret.1 _ _ 0 0 11 _ (-2) dX10_window_11 (by omega) (by omega) hS (⟨by unfold winA; rw [if_neg (by rw [c6]; decide)], by rw [c6]; exact hP⟩) (rfl)

abbrev rmX10_tells : Room := { frames := 1, cells := 0, slots := 0, locals := 22 }
theorem inX10_tells_10 : ∀ w ∈ wsX100, w ∈ wsX10_tells := fun _ h => List.mem_cons_of_mem _ (List.mem_append_right _ h)
set_option maxHeartbeats 4000000 in
set_option maxRecDepth 100000 in
theorem c_X10_tells (l : Launch) (K : rr_K) (A : Nat → Prop) (om : Nat) (ad : Nat → Nat) (ns wl nf wd mt : Nat) (kF nF yF WD FL FW TD RW pl nw xt vF wF qF bY gF : Nat → Nat) (nm xm : Nat → Int64) (fR oF hF dF : Nat → Int32) (x y : Int32) (hw : wd ≤ 3) (hD : va_D A (XM K om ad ns wl nf wd mt kF nF yF WD FL FW TD RW pl nw xt vF wF qF bY gF nm xm fR oF hF dF)) : MetR l K yX10_tells wsX10_tells rmX10_tells [.ref om, .int x, .int y] (fun H => va_P K.1 vwCl (XM K om ad ns wl nf wd mt kF nF yF WD FL FW TD RW pl nw xt vF wF qF bY gF nm xm fR oF hF dF) H) A (fun v H => v = .int (telA wd TD x y) ∧ va_P K.1 vwCl (XM K om ad ns wl nf wd mt kF nF yF WD FL FW (cond (telOK wd x y) (va_up TD (cN x) (cN y)) TD) RW pl nw xt vF wF qF bY gF nm xm fR oF hF dF) H) 0 0 := by
  refine metR_of (cc := cX10_tells) (maxL := 4) (ret := (some .int)) (rt := .int) (by decide) rfl rfl rfl rfl (Nat.le_of_ble_eq_true rfl) ?_
  intro p e s m args below meth c Q ls hEnt hKK hX hret hl
  obtain ⟨hx, hb, hml, hown, hts⟩ := hEnt
  have hP : va_P K.1 vwCl (XM K om ad ns wl nf wd mt kF nF yF WD FL FW TD RW pl nw xt vF wF qF bY gF nm xm fR oF hF dF) s.heap := hX
  have hl : lv_has ls 4 [(0, .ref om), (1, .int x), (2, .int y)] := hl
  have hS : va_S A s.heap s.heap [] := va_S.rf
  have h64 := p2w hw
  refine lv_iload_n hx hb (pc := 0) dX10_tells_0 rfl (lv_at hl 1 rfl) ?_
  refine lv_iconst (v := nI 0) hx hb (pc := 1) dX10_tells_1 (by decide) ?_
  refine lv_aload_n hx hb (pc := 2) dX10_tells_2 rfl (lv_at hl 0 rfl) ?_
  refine rr_callP (rv := .int (nI (2 ^ (2 * wd)))) (pc := 3) (va_runV (As := []) (rest := [.int (nI 0), .int x]) ⟨hx, hb, hml, hown, hts⟩ (c_X10_windowRows l K om ad ns wl nf wd mt kF nF yF WD FL FW TD RW pl nw xt vF wF qF bY gF nm xm fR oF hF dF hw) (cwV 0 hts gX10_tells_X10_windowRows rfl rfl rfl (by decide +kernel) ⟨Nat.le_of_ble_eq_true rfl, Nat.le_of_ble_eq_true rfl⟩) (rr_preV hKK (hP) (va_recv hKK.1 hP (ci := 10) (q0 := 0) rfl rfl)) rfl rfl hl.1 rfl (lv_room (Nat.le_of_ble_eq_true rfl)) dX10_tells_3 ⟨Nat.le_refl _, Nat.le_refl _⟩) ?_
  refine lv_iconst (v := nI 1) hx hb (pc := 6) dX10_tells_6 (by decide) ?_
  refine lv_isub hx hb (pc := 7) dX10_tells_7 ?_
  refine rr_callP (rv := .int (bI (isS (2 ^ (2 * wd)) x))) (pc := 8) (va_runS (As := [.int x, .int (nI 0), .int ((nI (2 ^ (2 * wd))) - (nI 1))]) (rest := []) ⟨hx, hb, hml, hown, hts⟩ (c_X10_in l K x (nI 0) ((nI (2 ^ (2 * wd))) - (nI 1))) (cwS 3 hts gX10_tells_X10_in rfl rfl rfl (by decide +kernel) ⟨Nat.le_of_ble_eq_true rfl, Nat.le_of_ble_eq_true rfl⟩) (rr_preS hKK (trivial)) rfl rfl hl.1 rfl (lv_room (Nat.le_of_ble_eq_true rfl)) dX10_tells_8 ⟨Nat.le_refl _, Nat.le_refl _⟩) ?_
  refine nv_if_eq_b (a := (isS (2 ^ (2 * wd)) x)) (tgt := 23) hx hb (pc := 11) dX10_tells_11 (by decide) (fun c11 => ?_) (fun c11 => ?_)
  · refine lv_bipush (v := -2) hx hb (pc := 23) dX10_tells_23 (by decide) ?_
    have hb : telOK wd x y = false := by unfold telOK; first | (rw [c11, c20]; rfl) | (rw [c11]; rfl)
    exact hret.1 _ _ 0 0 25 _ (-2) dX10_tells_25 (by omega) (by omega) hS (⟨by unfold telA; rw [if_neg (by rw [hb]; decide)], by rw [hb]; exact hP⟩) (rfl)
  · refine lv_iload_n hx hb (pc := 14) dX10_tells_14 rfl (lv_at hl 2 rfl) ?_
    refine lv_iconst (v := nI 0) hx hb (pc := 15) dX10_tells_15 (by decide) ?_
    refine lv_iconst (v := nI 3) hx hb (pc := 16) dX10_tells_16 (by decide) ?_
    refine rr_callP (rv := .int (bI (rrin y (nI 0) (nI 3)))) (pc := 17) (va_runS (As := [.int y, .int (nI 0), .int (nI 3)]) (rest := []) ⟨hx, hb, hml, hown, hts⟩ (c_X10_in l K y (nI 0) (nI 3)) (cwS 3 hts gX10_tells_X10_in rfl rfl rfl (by decide +kernel) ⟨Nat.le_of_ble_eq_true rfl, Nat.le_of_ble_eq_true rfl⟩) (rr_preS hKK (trivial)) rfl rfl hl.1 rfl (lv_room (Nat.le_of_ble_eq_true rfl)) dX10_tells_17 ⟨Nat.le_refl _, Nat.le_refl _⟩) ?_
    refine nv_if_ne_b (a := (rrin y (nI 0) (nI 3))) (tgt := 26) hx hb (pc := 20) dX10_tells_20 (by decide) (fun c20 => ?_) (fun c20 => ?_)
    · have hbk : telOK wd x y = true := by unfold telOK; rw [c11, c20]; rfl
      obtain ⟨j, hj, hxj⟩ := isS_of (by omega) c11
      obtain ⟨y9, hy1, hy2, hyy⟩ := rrin_Nat (by decide) (by decide) c20
      have ecx : cN x = j := by rw [hxj]; exact cN_nI (by omega)
      have ecy : cN y = y9 := by rw [hyy]; exact cN_nI (by omega)
      refine lv_aload_n hx hb (pc := 26) dX10_tells_26 rfl (lv_at hl 0 rfl) ?_
      refine va_get (v := .ref (ad 10)) hx hb hts (inX10_tells_10) hown hKK.1 hP 0 rfl rfl 10 (by decide) (hts _ (List.mem_of_getElem? (i := 1) (by decide +kernel))) (fun _ h9 => h9) rfl (pc := 27) dX10_tells_27 ?_
      refine lv_iload_n hx hb (pc := 30) dX10_tells_30 rfl (lv_at hl 1 rfl) ?_
      refine rr_top (v := .int (nI j)) (by rw [hxj]) ?_
      refine nv_iald (v := nI (TD j)) (i := j) hx hb hKK hP 7 rfl (by omega) (by decide) (rfl) (pc := 31) dX10_tells_31 ?_
      refine lv_istore_n (lv' := [(3, .int (nI (TD j))), (0, .ref om), (1, .int x), (2, .int y)]) hx hb (pc := 32) dX10_tells_32 rfl hl (by decide) rfl (fun ls hl => ?_)
      refine lv_aload_n hx hb (pc := 33) dX10_tells_33 rfl (lv_at hl 1 rfl) ?_
      refine va_get (v := .ref (ad 10)) hx hb hts (inX10_tells_10) hown hKK.1 hP 0 rfl rfl 10 (by decide) (hts _ (List.mem_of_getElem? (i := 1) (by decide +kernel))) (fun _ h9 => h9) rfl (pc := 34) dX10_tells_34 ?_
      refine lv_iload_n hx hb (pc := 37) dX10_tells_37 rfl (lv_at hl 2 rfl) ?_
      refine rr_top (v := .int (nI j)) (by rw [hxj]) ?_
      refine lv_iload_n hx hb (pc := 38) dX10_tells_38 rfl (lv_at hl 3 rfl) ?_
      refine rr_top (v := .int (nI y9)) (by rw [hyy]) ?_
      refine nv_iast (f := TD) (x := y9) (ws' := XM K om ad ns wl nf wd mt kF nF yF WD FL FW (va_up TD j y9) RW pl nw xt vF wF qF bY gF nm xm fR oF hF dF) (i := j) hx hb hKK hP hD hS 7 rfl (by omega) (by decide) (rfl) (pc := 39) dX10_tells_39 (fun H locs hP hD hS => ?_)
      refine lv_iload_n hx hb (pc := 40) dX10_tells_40 rfl (lv_at hl 0 rfl) ?_
      exact hret.1 _ _ 0 0 41 _ (nI (TD j)) dX10_tells_41 (by omega) (by omega) hS (⟨by unfold telA; rw [if_pos hbk, ecx], by rw [hbk, ecx, ecy]; exact hP⟩) (rfl)
    · refine lv_bipush (v := -2) hx hb (pc := 23) dX10_tells_23 (by decide) ?_
      have hb : telOK wd x y = false := by unfold telOK; first | (rw [c11, c20]; rfl) | (rw [c11]; rfl)
      exact hret.1 _ _ 0 0 25 _ (-2) dX10_tells_25 (by omega) (by omega) hS (⟨by unfold telA; rw [if_neg (by rw [hb]; decide)], by rw [hb]; exact hP⟩) (rfl)

abbrev rmX10_count : Room := { frames := 0, cells := 0, slots := 0, locals := 0 }
theorem inX10_count_10 : ∀ w ∈ wsX100, w ∈ wsX10_count := fun _ h => List.mem_cons_of_mem _ (List.mem_append_right _ h)
set_option maxHeartbeats 4000000 in
set_option maxRecDepth 100000 in
theorem c_X10_count (l : Launch) (K : rr_K) (om : Nat) (ad : Nat → Nat) (ns wl nf wd mt : Nat) (kF nF yF WD FL FW TD RW pl nw xt vF wF qF bY gF : Nat → Nat) (nm xm : Nat → Int64) (fR oF hF dF : Nat → Int32) (x : Int32) : MetP l K yX10_count wsX10_count rmX10_count [.ref om, .int x] (fun H => va_P K.1 vwCl (XM K om ad ns wl nf wd mt kF nF yF WD FL FW TD RW pl nw xt vF wF qF bY gF nm xm fR oF hF dF) H) (.int (cntA ns wl nf wd x)) := by
  refine metP_of (cc := cX10_count) (maxL := 2) (ret := (some .int)) (rt := .int) (by decide) rfl rfl (Nat.le_of_ble_eq_true rfl) ?_
  intro p e s m args below meth c Q ls hEnt hKK hX hret hl
  obtain ⟨hx, hb, hml, hown, hts⟩ := hEnt
  have hP : va_P K.1 vwCl (XM K om ad ns wl nf wd mt kF nF yF WD FL FW TD RW pl nw xt vF wF qF bY gF nm xm fR oF hF dF) s.heap := hX
  have hl : lv_has ls 2 [(0, .ref om), (1, .int x)] := hl
  refine lv_iload_n hx hb (pc := 0) dX10_count_0 rfl (lv_at hl 1 rfl) ?_
  refine lv_if_ne (tgt := 11) hx hb (pc := 1) dX10_count_1 (by decide) (fun c1 => ?_) (fun c1 => ?_)
  · refine lv_iload_n hx hb (pc := 11) dX10_count_11 rfl (lv_at hl 1 rfl) ?_
    refine lv_iconst (v := nI 1) hx hb (pc := 12) dX10_count_12 (by decide) ?_
    refine lv_icmp_ne (tgt := 23) hx hb (pc := 13) dX10_count_13 (by decide) (fun c13 => ?_) (fun c13 => ?_)
    · refine lv_iload_n hx hb (pc := 23) dX10_count_23 rfl (lv_at hl 1 rfl) ?_
      refine lv_iconst (v := nI 2) hx hb (pc := 24) dX10_count_24 (by decide) ?_
      refine lv_icmp_ne (tgt := 35) hx hb (pc := 25) dX10_count_25 (by decide) (fun c25 => ?_) (fun c25 => ?_)
      · refine lv_iload_n hx hb (pc := 35) dX10_count_35 rfl (lv_at hl 1 rfl) ?_
        refine lv_iconst (v := nI 3) hx hb (pc := 36) dX10_count_36 (by decide) ?_
        refine lv_icmp_ne (tgt := 47) hx hb (pc := 37) dX10_count_37 (by decide) (fun c37 => ?_) (fun c37 => ?_)
        · refine lv_bipush (v := -2) hx hb (pc := 47) dX10_count_47 (by decide) ?_
          exact hret.1 49 _ (-2) dX10_count_49 (by unfold cntA; first | (rw [if_pos c1]; done) | (rw [if_neg c1, if_pos c13]; done) | (rw [if_neg c1, if_neg c13, if_pos c25]; done) | (rw [if_neg c1, if_neg c13, if_neg c25, if_pos c37]; done) | (rw [if_neg c1, if_neg c13, if_neg c25, if_neg c37]; done)) (rfl)
        · refine lv_aload_n hx hb (pc := 40) dX10_count_40 rfl (lv_at hl 0 rfl) ?_
          refine va_get (v := .int (nI wd)) hx hb hts (inX10_count_10) hown hKK.1 hP 0 rfl rfl 9 (by decide) (hts _ (List.mem_of_getElem? (i := 4) (by decide +kernel))) (fun _ h9 => h9) rfl (pc := 41) dX10_count_41 ?_
          refine lv_goto (tgt := 49) hx hb (pc := 44) dX10_count_44 (by decide) ?_
          exact hret.1 49 _ (nI wd) dX10_count_49 (by unfold cntA; first | (rw [if_pos c1]; done) | (rw [if_neg c1, if_pos c13]; done) | (rw [if_neg c1, if_neg c13, if_pos c25]; done) | (rw [if_neg c1, if_neg c13, if_neg c25, if_pos c37]; done) | (rw [if_neg c1, if_neg c13, if_neg c25, if_neg c37]; done)) (rfl)
      · refine lv_aload_n hx hb (pc := 28) dX10_count_28 rfl (lv_at hl 0 rfl) ?_
        refine va_get (v := .int (nI nf)) hx hb hts (inX10_count_10) hown hKK.1 hP 0 rfl rfl 6 (by decide) (hts _ (List.mem_of_getElem? (i := 3) (by decide +kernel))) (fun _ h9 => h9) rfl (pc := 29) dX10_count_29 ?_
        refine lv_goto (tgt := 49) hx hb (pc := 32) dX10_count_32 (by decide) ?_
        exact hret.1 49 _ (nI nf) dX10_count_49 (by unfold cntA; first | (rw [if_pos c1]; done) | (rw [if_neg c1, if_pos c13]; done) | (rw [if_neg c1, if_neg c13, if_pos c25]; done) | (rw [if_neg c1, if_neg c13, if_neg c25, if_pos c37]; done) | (rw [if_neg c1, if_neg c13, if_neg c25, if_neg c37]; done)) (rfl)
    · refine lv_aload_n hx hb (pc := 16) dX10_count_16 rfl (lv_at hl 0 rfl) ?_
      refine va_get (v := .int (nI wl)) hx hb hts (inX10_count_10) hown hKK.1 hP 0 rfl rfl 4 (by decide) (hts _ (List.mem_of_getElem? (i := 2) (by decide +kernel))) (fun _ h9 => h9) rfl (pc := 17) dX10_count_17 ?_
      refine lv_goto (tgt := 49) hx hb (pc := 20) dX10_count_20 (by decide) ?_
      exact hret.1 49 _ (nI wl) dX10_count_49 (by unfold cntA; first | (rw [if_pos c1]; done) | (rw [if_neg c1, if_pos c13]; done) | (rw [if_neg c1, if_neg c13, if_pos c25]; done) | (rw [if_neg c1, if_neg c13, if_neg c25, if_pos c37]; done) | (rw [if_neg c1, if_neg c13, if_neg c25, if_neg c37]; done)) (rfl)
  · refine lv_aload_n hx hb (pc := 4) dX10_count_4 rfl (lv_at hl 0 rfl) ?_
    refine va_get (v := .int (nI ns)) hx hb hts (inX10_count_10) hown hKK.1 hP 0 rfl rfl 0 (by decide) (hts _ (List.mem_of_getElem? (i := 1) (by decide +kernel))) (fun _ h9 => h9) rfl (pc := 5) dX10_count_5 ?_
    refine lv_goto (tgt := 49) hx hb (pc := 8) dX10_count_8 (by decide) ?_
    exact hret.1 49 _ (nI ns) dX10_count_49 (by unfold cntA; first | (rw [if_pos c1]; done) | (rw [if_neg c1, if_pos c13]; done) | (rw [if_neg c1, if_neg c13, if_pos c25]; done) | (rw [if_neg c1, if_neg c13, if_neg c25, if_pos c37]; done) | (rw [if_neg c1, if_neg c13, if_neg c25, if_neg c37]; done)) (rfl)

abbrev rmX10_isCoder : Room := { frames := 2, cells := 0, slots := 0, locals := 43 }
set_option maxHeartbeats 4000000 in
set_option maxRecDepth 100000 in
theorem c_X10_isCoder (l : Launch) (K : rr_K) (om : Nat) (ad : Nat → Nat) (ns wl nf wd mt : Nat) (kF nF yF WD FL FW TD RW pl nw xt vF wF qF bY gF : Nat → Nat) (nm xm : Nat → Int64) (fR oF hF dF : Nat → Int32) (x p9 q9 m9 : Int32) (hns : ns ≤ 6) : MetP l K yX10_isCoder wsX10_isCoder rmX10_isCoder [.ref om, .int x, .int p9, .int q9, .int m9] (fun H => va_P K.1 vwCl (XM K om ad ns wl nf wd mt kF nF yF WD FL FW TD RW pl nw xt vF wF qF bY gF nm xm fR oF hF dF) H) (.int (bI (isS ns x && (rrin p9 (nI 1) (nI 8) && (rrin q9 (nI 1) (nI 4) && rrin m9 (nI 1) (nI 100)))))) := by
  refine metP_of (cc := cX10_isCoder) (maxL := 5) (ret := (some .boolean)) (rt := .boolean) (by decide) rfl rfl (Nat.le_of_ble_eq_true rfl) ?_
  intro p e s m args below meth c Q ls hEnt hKK hX hret hl
  obtain ⟨hx, hb, hml, hown, hts⟩ := hEnt
  have hP : va_P K.1 vwCl (XM K om ad ns wl nf wd mt kF nF yF WD FL FW TD RW pl nw xt vF wF qF bY gF nm xm fR oF hF dF) s.heap := hX
  have hl : lv_has ls 5 [(0, .ref om), (1, .int x), (2, .int p9), (3, .int q9), (4, .int m9)] := hl
  refine lv_aload_n hx hb (pc := 0) dX10_isCoder_0 rfl (lv_at hl 0 rfl) ?_
  refine lv_iload_n hx hb (pc := 1) dX10_isCoder_1 rfl (lv_at hl 1 rfl) ?_
  refine rr_callP (rv := .int (bI (isS ns x))) (pc := 2) (va_runV (As := [.int x]) (rest := []) ⟨hx, hb, hml, hown, hts⟩ (c_X10_isSet l K om ad ns wl nf wd mt kF nF yF WD FL FW TD RW pl nw xt vF wF qF bY gF nm xm fR oF hF dF x) (cwV 1 hts gX10_isCoder_X10_isSet rfl rfl rfl (by decide +kernel) ⟨Nat.le_of_ble_eq_true rfl, Nat.le_of_ble_eq_true rfl⟩) (rr_preV hKK (hP) (va_recv hKK.1 hP (ci := 10) (q0 := 0) rfl rfl)) rfl rfl hl.1 rfl (lv_room (Nat.le_of_ble_eq_true rfl)) dX10_isCoder_2 ⟨Nat.le_refl _, Nat.le_refl _⟩) ?_
  refine nv_if_eq_b (a := (isS ns x)) (tgt := 42) hx hb (pc := 5) dX10_isCoder_5 (by decide) (fun c5 => ?_) (fun c5 => ?_)
  · refine lv_iconst (v := nI 0) hx hb (pc := 42) dX10_isCoder_42 (by decide) ?_
    exact hret.1 43 _ (nI 0) dX10_isCoder_43 (by first | (rw [c5, c15, c24, c35]; rfl) | (rw [c5, c15, c24]; rfl) | (rw [c5, c15]; rfl) | (rw [c5]; rfl)) (by decide)
  · refine lv_iload_n hx hb (pc := 8) dX10_isCoder_8 rfl (lv_at hl 2 rfl) ?_
    refine lv_iconst (v := nI 1) hx hb (pc := 9) dX10_isCoder_9 (by decide) ?_
    refine lv_bipush (v := nI 8) hx hb (pc := 10) dX10_isCoder_10 (by decide) ?_
    refine rr_callP (rv := .int (bI (rrin p9 (nI 1) (nI 8)))) (pc := 12) (va_runS (As := [.int p9, .int (nI 1), .int (nI 8)]) (rest := []) ⟨hx, hb, hml, hown, hts⟩ (c_X10_in l K p9 (nI 1) (nI 8)) (cwS 3 hts gX10_isCoder_X10_in rfl rfl rfl (by decide +kernel) ⟨Nat.le_of_ble_eq_true rfl, Nat.le_of_ble_eq_true rfl⟩) (rr_preS hKK (trivial)) rfl rfl hl.1 rfl (lv_room (Nat.le_of_ble_eq_true rfl)) dX10_isCoder_12 ⟨Nat.le_refl _, Nat.le_refl _⟩) ?_
    refine nv_if_eq_b (a := (rrin p9 (nI 1) (nI 8))) (tgt := 42) hx hb (pc := 15) dX10_isCoder_15 (by decide) (fun c15 => ?_) (fun c15 => ?_)
    · refine lv_iconst (v := nI 0) hx hb (pc := 42) dX10_isCoder_42 (by decide) ?_
      exact hret.1 43 _ (nI 0) dX10_isCoder_43 (by first | (rw [c5, c15, c24, c35]; rfl) | (rw [c5, c15, c24]; rfl) | (rw [c5, c15]; rfl) | (rw [c5]; rfl)) (by decide)
    · refine lv_iload_n hx hb (pc := 18) dX10_isCoder_18 rfl (lv_at hl 3 rfl) ?_
      refine lv_iconst (v := nI 1) hx hb (pc := 19) dX10_isCoder_19 (by decide) ?_
      refine lv_iconst (v := nI 4) hx hb (pc := 20) dX10_isCoder_20 (by decide) ?_
      refine rr_callP (rv := .int (bI (rrin q9 (nI 1) (nI 4)))) (pc := 21) (va_runS (As := [.int q9, .int (nI 1), .int (nI 4)]) (rest := []) ⟨hx, hb, hml, hown, hts⟩ (c_X10_in l K q9 (nI 1) (nI 4)) (cwS 3 hts gX10_isCoder_X10_in rfl rfl rfl (by decide +kernel) ⟨Nat.le_of_ble_eq_true rfl, Nat.le_of_ble_eq_true rfl⟩) (rr_preS hKK (trivial)) rfl rfl hl.1 rfl (lv_room (Nat.le_of_ble_eq_true rfl)) dX10_isCoder_21 ⟨Nat.le_refl _, Nat.le_refl _⟩) ?_
      refine nv_if_eq_b (a := (rrin q9 (nI 1) (nI 4))) (tgt := 42) hx hb (pc := 24) dX10_isCoder_24 (by decide) (fun c24 => ?_) (fun c24 => ?_)
      · refine lv_iconst (v := nI 0) hx hb (pc := 42) dX10_isCoder_42 (by decide) ?_
        exact hret.1 43 _ (nI 0) dX10_isCoder_43 (by first | (rw [c5, c15, c24, c35]; rfl) | (rw [c5, c15, c24]; rfl) | (rw [c5, c15]; rfl) | (rw [c5]; rfl)) (by decide)
      · refine lv_iload hx hb (pc := 27) dX10_isCoder_27 (lv_at hl 4 rfl) ?_
        refine lv_iconst (v := nI 1) hx hb (pc := 29) dX10_isCoder_29 (by decide) ?_
        refine lv_bipush (v := nI 100) hx hb (pc := 30) dX10_isCoder_30 (by decide) ?_
        refine rr_callP (rv := .int (bI (rrin m9 (nI 1) (nI 100)))) (pc := 32) (va_runS (As := [.int m9, .int (nI 1), .int (nI 100)]) (rest := []) ⟨hx, hb, hml, hown, hts⟩ (c_X10_in l K m9 (nI 1) (nI 100)) (cwS 3 hts gX10_isCoder_X10_in rfl rfl rfl (by decide +kernel) ⟨Nat.le_of_ble_eq_true rfl, Nat.le_of_ble_eq_true rfl⟩) (rr_preS hKK (trivial)) rfl rfl hl.1 rfl (lv_room (Nat.le_of_ble_eq_true rfl)) dX10_isCoder_32 ⟨Nat.le_refl _, Nat.le_refl _⟩) ?_
        refine nv_if_eq_b (a := (rrin m9 (nI 1) (nI 100))) (tgt := 42) hx hb (pc := 35) dX10_isCoder_35 (by decide) (fun c35 => ?_) (fun c35 => ?_)
        · refine lv_iconst (v := nI 0) hx hb (pc := 42) dX10_isCoder_42 (by decide) ?_
          exact hret.1 43 _ (nI 0) dX10_isCoder_43 (by first | (rw [c5, c15, c24, c35]; rfl) | (rw [c5, c15, c24]; rfl) | (rw [c5, c15]; rfl) | (rw [c5]; rfl)) (by decide)
        · refine lv_iconst (v := nI 1) hx hb (pc := 38) dX10_isCoder_38 (by decide) ?_
          refine lv_goto (tgt := 43) hx hb (pc := 39) dX10_isCoder_39 (by decide) ?_
          exact hret.1 43 _ (nI 1) dX10_isCoder_43 (by first | (rw [c5, c15, c24, c35]; rfl) | (rw [c5, c15, c24]; rfl) | (rw [c5, c15]; rfl) | (rw [c5]; rfl)) (by decide)

