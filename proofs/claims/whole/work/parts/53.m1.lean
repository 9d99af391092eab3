abbrev rmX10_in : Room := { frames := 0, cells := 0, slots := 0, locals := 0 }
set_option maxHeartbeats 4000000 in
set_option maxRecDepth 100000 in
theorem c_X10_in (l : Launch) (K : rr_K) (x lo hi : Int32) : MetP l K yX10_in wsX10_in rmX10_in [.int x, .int lo, .int hi] (fun H => True) (.int (bI (rrin x lo hi))) := by
  refine metP_of (cc := cX10_in) (maxL := 3) (ret := (some .boolean)) (rt := .boolean) (by decide) rfl rfl (Nat.le_of_ble_eq_true rfl) ?_
  intro p e s m args below meth c Q ls hEnt hKK hX hret hl
  obtain ⟨hx, hb, hml, hown, hts⟩ := hEnt
  have hl : lv_has ls 3 [(0, .int x), (1, .int lo), (2, .int hi)] := hl
  refine lv_iload_n hx hb (pc := 0) dX10_in_0 rfl (lv_at hl 0 rfl) ?_
  refine lv_iload_n hx hb (pc := 1) dX10_in_1 rfl (lv_at hl 1 rfl) ?_
  refine lv_icmp_lt (tgt := 14) hx hb (pc := 2) dX10_in_2 (by decide) (fun c2 => ?_) (fun c2 => ?_)
  · refine lv_iconst (v := nI 0) hx hb (pc := 14) dX10_in_14 (by decide) ?_
    exact hret.1 15 _ (nI 0) dX10_in_15 (by simp [rrin, bI, *]) (by decide)
  · refine lv_iload_n hx hb (pc := 5) dX10_in_5 rfl (lv_at hl 0 rfl) ?_
    refine lv_iload_n hx hb (pc := 6) dX10_in_6 rfl (lv_at hl 2 rfl) ?_
    refine lv_icmp_gt (tgt := 14) hx hb (pc := 7) dX10_in_7 (by decide) (fun c7 => ?_) (fun c7 => ?_)
    · refine lv_iconst (v := nI 0) hx hb (pc := 14) dX10_in_14 (by decide) ?_
      exact hret.1 15 _ (nI 0) dX10_in_15 (by simp [rrin, bI, *]) (by decide)
    · refine lv_iconst (v := nI 1) hx hb (pc := 10) dX10_in_10 (by decide) ?_
      refine lv_goto (tgt := 15) hx hb (pc := 11) dX10_in_11 (by decide) ?_
      exact hret.1 15 _ (nI 1) dX10_in_15 (by simp [rrin, bI, *]) (by decide)

abbrev rmX10_isSet : Room := { frames := 1, cells := 0, slots := 0, locals := 22 }
theorem inX10_isSet_10 : ∀ w ∈ wsX100, w ∈ wsX10_isSet := fun _ h => List.mem_cons_of_mem _ (List.mem_append_right _ h)
set_option maxHeartbeats 4000000 in
set_option maxRecDepth 100000 in
theorem c_X10_isSet (l : Launch) (K : rr_K) (om : Nat) (ad : Nat → Nat) (ns wl nf wd mt : Nat) (kF nF yF WD FL FW TD RW pl nw xt vF wF qF bY gF : Nat → Nat) (nm xm : Nat → Int64) (fR oF hF dF : Nat → Int32) (x : Int32) : MetP l K yX10_isSet wsX10_isSet rmX10_isSet [.ref om, .int x] (fun H => va_P K.1 vwCl (XM K om ad ns wl nf wd mt kF nF yF WD FL FW TD RW pl nw xt vF wF qF bY gF nm xm fR oF hF dF) H) (.int (bI (isS ns x))) := by
  refine metP_of (cc := cX10_isSet) (maxL := 2) (ret := (some .boolean)) (rt := .boolean) (by decide) rfl rfl (Nat.le_of_ble_eq_true rfl) ?_
  intro p e s m args below meth c Q ls hEnt hKK hX hret hl
  obtain ⟨hx, hb, hml, hown, hts⟩ := hEnt
  have hP : va_P K.1 vwCl (XM K om ad ns wl nf wd mt kF nF yF WD FL FW TD RW pl nw xt vF wF qF bY gF nm xm fR oF hF dF) s.heap := hX
  have hl : lv_has ls 2 [(0, .ref om), (1, .int x)] := hl
  refine lv_iload_n hx hb (pc := 0) dX10_isSet_0 rfl (lv_at hl 1 rfl) ?_
  refine lv_iconst (v := nI 0) hx hb (pc := 1) dX10_isSet_1 (by decide) ?_
  refine lv_aload_n hx hb (pc := 2) dX10_isSet_2 rfl (lv_at hl 0 rfl) ?_
  refine va_get (v := .int (nI ns)) hx hb hts (inX10_isSet_10) hown hKK.1 hP 0 rfl rfl 0 (by decide) (hts _ (List.mem_of_getElem? (i := 1) (by decide +kernel))) (fun _ h9 => h9) rfl (pc := 3) dX10_isSet_3 ?_
  refine lv_iconst (v := nI 1) hx hb (pc := 6) dX10_isSet_6 (by decide) ?_
  refine lv_isub hx hb (pc := 7) dX10_isSet_7 ?_
  refine rr_callP (rv := .int (bI (rrin x (nI 0) ((nI ns) - (nI 1))))) (pc := 8) (va_runS (As := [.int x, .int (nI 0), .int ((nI ns) - (nI 1))]) (rest := []) ⟨hx, hb, hml, hown, hts⟩ (c_X10_in l K x (nI 0) ((nI ns) - (nI 1))) (cwS 3 hts gX10_isSet_X10_in rfl rfl rfl (by decide +kernel) ⟨Nat.le_of_ble_eq_true rfl, Nat.le_of_ble_eq_true rfl⟩) (rr_preS hKK (trivial)) rfl rfl hl.1 rfl (lv_room (Nat.le_of_ble_eq_true rfl)) dX10_isSet_8 ⟨Nat.le_refl _, Nat.le_refl _⟩) ?_
  exact hret.1 11 _ (bI (rrin x (nI 0) ((nI ns) - (nI 1)))) dX10_isSet_11 (rfl) (rr_narB _)

abbrev rmX10_isState : Room := { frames := 2, cells := 0, slots := 0, locals := 43 }
theorem inX10_isState_10 : ∀ w ∈ wsX100, w ∈ wsX10_isState := fun _ h => List.mem_cons_of_mem _ (List.mem_append_right _ h)
set_option maxHeartbeats 4000000 in
set_option maxRecDepth 100000 in
theorem c_X10_isState (l : Launch) (K : rr_K) (om : Nat) (ad : Nat → Nat) (ns wl nf wd mt : Nat) (kF nF yF WD FL FW TD RW pl nw xt vF wF qF bY gF : Nat → Nat) (nm xm : Nat → Int64) (fR oF hF dF : Nat → Int32) (x q : Int32) (hns : ns ≤ 6) : MetP l K yX10_isState wsX10_isState rmX10_isState [.ref om, .int x, .int q] (fun H => va_P K.1 vwCl (XM K om ad ns wl nf wd mt kF nF yF WD FL FW TD RW pl nw xt vF wF qF bY gF nm xm fR oF hF dF) H) (.int (bI (okQ ns nF x q))) := by
  refine metP_of (cc := cX10_isState) (maxL := 3) (ret := (some .boolean)) (rt := .boolean) (by decide) rfl rfl (Nat.le_of_ble_eq_true rfl) ?_
  intro p e s m args below meth c Q ls hEnt hKK hX hret hl
  obtain ⟨hx, hb, hml, hown, hts⟩ := hEnt
  have hP : va_P K.1 vwCl (XM K om ad ns wl nf wd mt kF nF yF WD FL FW TD RW pl nw xt vF wF qF bY gF nm xm fR oF hF dF) s.heap := hX
  have hl : lv_has ls 3 [(0, .ref om), (1, .int x), (2, .int q)] := hl
  refine lv_aload_n hx hb (pc := 0) dX10_isState_0 rfl (lv_at hl 0 rfl) ?_
  refine lv_iload_n hx hb (pc := 1) dX10_isState_1 rfl (lv_at hl 1 rfl) ?_
  refine rr_callP (rv := .int (bI (isS ns x))) (pc := 2) (va_runV (As := [.int x]) (rest := []) ⟨hx, hb, hml, hown, hts⟩ (c_X10_isSet l K om ad ns wl nf wd mt kF nF yF WD FL FW TD RW pl nw xt vF wF qF bY gF nm xm fR oF hF dF x) (cwV 1 hts gX10_isState_X10_isSet rfl rfl rfl (by decide +kernel) ⟨Nat.le_of_ble_eq_true rfl, Nat.le_of_ble_eq_true rfl⟩) (rr_preV hKK (hP) (va_recv hKK.1 hP (ci := 10) (q0 := 0) rfl rfl)) rfl rfl hl.1 rfl (lv_room (Nat.le_of_ble_eq_true rfl)) dX10_isState_2 ⟨Nat.le_refl _, Nat.le_refl _⟩) ?_
  refine nv_if_eq_b (a := (isS ns x)) (tgt := 28) hx hb (pc := 5) dX10_isState_5 (by decide) (fun c5 => ?_) (fun c5 => ?_)
  · refine lv_iconst (v := nI 0) hx hb (pc := 28) dX10_isState_28 (by decide) ?_
    exact hret.1 29 _ (nI 0) dX10_isState_29 (by first | (rw [okQ_j (by omega) hxj, c5, c21]; rfl) | (unfold okQ; rw [c5]; rfl)) (by decide)
  · obtain ⟨j, hj, hxj⟩ := isS_of (by omega) c5
    refine lv_iload_n hx hb (pc := 8) dX10_isState_8 rfl (lv_at hl 2 rfl) ?_
    refine lv_iconst (v := nI 0) hx hb (pc := 9) dX10_isState_9 (by decide) ?_
    refine lv_aload_n hx hb (pc := 10) dX10_isState_10 rfl (lv_at hl 0 rfl) ?_
    refine va_get (v := .ref (ad 2)) hx hb hts (inX10_isState_10) hown hKK.1 hP 0 rfl rfl 2 (by decide) (hts _ (List.mem_of_getElem? (i := 1) (by decide +kernel))) (fun _ h9 => h9) rfl (pc := 11) dX10_isState_11 ?_
    refine lv_iload_n hx hb (pc := 14) dX10_isState_14 rfl (lv_at hl 1 rfl) ?_
    refine rr_top (v := .int (nI j)) (by rw [hxj]) ?_
    refine nv_iald (v := nI (nF j)) (i := j) hx hb hKK hP 2 rfl (by omega) (by decide) (rfl) (pc := 15) dX10_isState_15 ?_
    refine lv_iconst (v := nI 1) hx hb (pc := 16) dX10_isState_16 (by decide) ?_
    refine lv_isub hx hb (pc := 17) dX10_isState_17 ?_
    refine rr_callP (rv := .int (bI (isS (nF j) q))) (pc := 18) (va_runS (As := [.int q, .int (nI 0), .int ((nI (nF j)) - (nI 1))]) (rest := []) ⟨hx, hb, hml, hown, hts⟩ (c_X10_in l K q (nI 0) ((nI (nF j)) - (nI 1))) (cwS 3 hts gX10_isState_X10_in rfl rfl rfl (by decide +kernel) ⟨Nat.le_of_ble_eq_true rfl, Nat.le_of_ble_eq_true rfl⟩) (rr_preS hKK (trivial)) rfl rfl hl.1 rfl (lv_room (Nat.le_of_ble_eq_true rfl)) dX10_isState_18 ⟨Nat.le_refl _, Nat.le_refl _⟩) ?_
    refine nv_if_eq_b (a := (isS (nF j) q)) (tgt := 28) hx hb (pc := 21) dX10_isState_21 (by decide) (fun c21 => ?_) (fun c21 => ?_)
    · refine lv_iconst (v := nI 0) hx hb (pc := 28) dX10_isState_28 (by decide) ?_
      exact hret.1 29 _ (nI 0) dX10_isState_29 (by first | (rw [okQ_j (by omega) hxj, c5, c21]; rfl) | (unfold okQ; rw [c5]; rfl)) (by decide)
    · refine lv_iconst (v := nI 1) hx hb (pc := 24) dX10_isState_24 (by decide) ?_
      refine lv_goto (tgt := 29) hx hb (pc := 25) dX10_isState_25 (by decide) ?_
      exact hret.1 29 _ (nI 1) dX10_isState_29 (by first | (rw [okQ_j (by omega) hxj, c5, c21]; rfl) | (unfold okQ; rw [c5]; rfl)) (by decide)

abbrev rmX10_at : Room := { frames := 0, cells := 0, slots := 0, locals := 0 }
set_option maxHeartbeats 4000000 in
set_option maxRecDepth 100000 in
theorem c_X10_at (l : Launch) (K : rr_K) (x q y : Nat) : MetP l K yX10_at wsX10_at rmX10_at [.int (nI x), .int (nI q), .int (nI y)] (fun H => True) (.int (nI (64 * x + (q * 4 + y)))) := by
  refine metP_of (cc := cX10_at) (maxL := 3) (ret := (some .int)) (rt := .int) (by decide) rfl rfl (Nat.le_of_ble_eq_true rfl) ?_
  intro p e s m args below meth c Q ls hEnt hKK hX hret hl
  obtain ⟨hx, hb, hml, hown, hts⟩ := hEnt
  have hl : lv_has ls 3 [(0, .int (nI x)), (1, .int (nI q)), (2, .int (nI y))] := hl
  refine lv_bipush (v := nI 64) hx hb (pc := 0) dX10_at_0 (by decide) ?_
  refine lv_iload_n hx hb (pc := 2) dX10_at_2 rfl (lv_at hl 0 rfl) ?_
  refine nv_imul (a := 64) (b := x) hx hb (pc := 3) dX10_at_3 ?_
  refine lv_iconst (v := nI 4) hx hb (pc := 4) dX10_at_4 (by decide) ?_
  refine lv_iload_n hx hb (pc := 5) dX10_at_5 rfl (lv_at hl 1 rfl) ?_
  refine nv_imul (a := 4) (b := q) hx hb (pc := 6) dX10_at_6 ?_
  refine nv_iadd (a := (64 * x)) (b := (4 * q)) hx hb (pc := 7) dX10_at_7 ?_
  refine lv_iload_n hx hb (pc := 8) dX10_at_8 rfl (lv_at hl 2 rfl) ?_
  refine nv_iadd (a := ((64 * x) + (4 * q))) (b := y) hx hb (pc := 9) dX10_at_9 ?_
  exact hret.1 10 _ (nI (((64 * x) + (4 * q)) + y)) dX10_at_10 (by rw [show 64 * x + (q * 4 + y) = 64 * x + 4 * q + y by omega]) (rfl)

abbrev rmX10_isWay : Room := { frames := 3, cells := 0, slots := 0, locals := 65 }
theorem inX10_isWay_10 : ∀ w ∈ wsX100, w ∈ wsX10_isWay := fun _ h => List.mem_cons_of_mem _ (List.mem_append_right _ h)
set_option maxHeartbeats 4000000 in
set_option maxRecDepth 100000 in
theorem c_X10_isWay (l : Launch) (K : rr_K) (om : Nat) (ad : Nat → Nat) (ns wl nf wd mt : Nat) (kF nF yF WD FL FW TD RW pl nw xt vF wF qF bY gF : Nat → Nat) (nm xm : Nat → Int64) (fR oF hF dF : Nat → Int32) (x f y t : Int32) (hns : ns ≤ 6) : MetP l K yX10_isWay wsX10_isWay rmX10_isWay [.ref om, .int x, .int f, .int y, .int t] (fun H => va_P K.1 vwCl (XM K om ad ns wl nf wd mt kF nF yF WD FL FW TD RW pl nw xt vF wF qF bY gF nm xm fR oF hF dF) H) (.int (bI (okW ns kF nF x f y t))) := by
  refine metP_of (cc := cX10_isWay) (maxL := 5) (ret := (some .boolean)) (rt := .boolean) (by decide) rfl rfl (Nat.le_of_ble_eq_true rfl) ?_
  intro p e s m args below meth c Q ls hEnt hKK hX hret hl
  obtain ⟨hx, hb, hml, hown, hts⟩ := hEnt
  have hP : va_P K.1 vwCl (XM K om ad ns wl nf wd mt kF nF yF WD FL FW TD RW pl nw xt vF wF qF bY gF nm xm fR oF hF dF) s.heap := hX
  have hl : lv_has ls 5 [(0, .ref om), (1, .int x), (2, .int f), (3, .int y), (4, .int t)] := hl
  refine lv_aload_n hx hb (pc := 0) dX10_isWay_0 rfl (lv_at hl 0 rfl) ?_
  refine lv_iload_n hx hb (pc := 1) dX10_isWay_1 rfl (lv_at hl 1 rfl) ?_
  refine lv_iload_n hx hb (pc := 2) dX10_isWay_2 rfl (lv_at hl 2 rfl) ?_
  refine rr_callP (rv := .int (bI (okQ ns nF x f))) (pc := 3) (va_runV (As := [.int x, .int f]) (rest := []) ⟨hx, hb, hml, hown, hts⟩ (c_X10_isState l K om ad ns wl nf wd mt kF nF yF WD FL FW TD RW pl nw xt vF wF qF bY gF nm xm fR oF hF dF x f hns) (cwV 2 hts gX10_isWay_X10_isState rfl rfl rfl (by decide +kernel) ⟨Nat.le_of_ble_eq_true rfl, Nat.le_of_ble_eq_true rfl⟩) (rr_preV hKK (hP) (va_recv hKK.1 hP (ci := 10) (q0 := 0) rfl rfl)) rfl rfl hl.1 rfl (lv_room (Nat.le_of_ble_eq_true rfl)) dX10_isWay_3 ⟨Nat.le_refl _, Nat.le_refl _⟩) ?_
  refine nv_if_eq_b (a := (okQ ns nF x f)) (tgt := 39) hx hb (pc := 6) dX10_isWay_6 (by decide) (fun c6 => ?_) (fun c6 => ?_)
  · refine lv_iconst (v := nI 0) hx hb (pc := 39) dX10_isWay_39 (by decide) ?_
    exact hret.1 40 _ (nI 0) dX10_isWay_40 (by first | (rw [okW_j (by omega) hxj, c6, c16, c32]; rfl) | (unfold okW; rw [c6, c16]; rfl) | (unfold okW; rw [c6]; rfl)) (by decide)
  · refine lv_aload_n hx hb (pc := 9) dX10_isWay_9 rfl (lv_at hl 0 rfl) ?_
    refine lv_iload_n hx hb (pc := 10) dX10_isWay_10 rfl (lv_at hl 1 rfl) ?_
    refine lv_iload hx hb (pc := 11) dX10_isWay_11 (lv_at hl 4 rfl) ?_
    refine rr_callP (rv := .int (bI (okQ ns nF x t))) (pc := 13) (va_runV (As := [.int x, .int t]) (rest := []) ⟨hx, hb, hml, hown, hts⟩ (c_X10_isState l K om ad ns wl nf wd mt kF nF yF WD FL FW TD RW pl nw xt vF wF qF bY gF nm xm fR oF hF dF x t hns) (cwV 2 hts gX10_isWay_X10_isState rfl rfl rfl (by decide +kernel) ⟨Nat.le_of_ble_eq_true rfl, Nat.le_of_ble_eq_true rfl⟩) (rr_preV hKK (hP) (va_recv hKK.1 hP (ci := 10) (q0 := 0) rfl rfl)) rfl rfl hl.1 rfl (lv_room (Nat.le_of_ble_eq_true rfl)) dX10_isWay_13 ⟨Nat.le_refl _, Nat.le_refl _⟩) ?_
    refine nv_if_eq_b (a := (okQ ns nF x t)) (tgt := 39) hx hb (pc := 16) dX10_isWay_16 (by decide) (fun c16 => ?_) (fun c16 => ?_)
    · refine lv_iconst (v := nI 0) hx hb (pc := 39) dX10_isWay_39 (by decide) ?_
      exact hret.1 40 _ (nI 0) dX10_isWay_40 (by first | (rw [okW_j (by omega) hxj, c6, c16, c32]; rfl) | (unfold okW; rw [c6, c16]; rfl) | (unfold okW; rw [c6]; rfl)) (by decide)
    · obtain ⟨j, hj, hxj⟩ := isS_of (ns := ns) (x := x) (by omega) (by unfold okQ at c6; rw [Bool.and_eq_true] at c6; exact c6.1)
      refine lv_iload_n hx hb (pc := 19) dX10_isWay_19 rfl (lv_at hl 3 rfl) ?_
      refine lv_iconst (v := nI 0) hx hb (pc := 20) dX10_isWay_20 (by decide) ?_
      refine lv_aload_n hx hb (pc := 21) dX10_isWay_21 rfl (lv_at hl 0 rfl) ?_
      refine va_get (v := .ref (ad 1)) hx hb hts (inX10_isWay_10) hown hKK.1 hP 0 rfl rfl 1 (by decide) (hts _ (List.mem_of_getElem? (i := 1) (by decide +kernel))) (fun _ h9 => h9) rfl (pc := 22) dX10_isWay_22 ?_
      refine lv_iload_n hx hb (pc := 25) dX10_isWay_25 rfl (lv_at hl 1 rfl) ?_
      refine rr_top (v := .int (nI j)) (by rw [hxj]) ?_
      refine nv_iald (v := nI (kF j)) (i := j) hx hb hKK hP 1 rfl (by omega) (by decide) (rfl) (pc := 26) dX10_isWay_26 ?_
      refine lv_iconst (v := nI 1) hx hb (pc := 27) dX10_isWay_27 (by decide) ?_
      refine lv_isub hx hb (pc := 28) dX10_isWay_28 ?_
      refine rr_callP (rv := .int (bI (isS (kF j) y))) (pc := 29) (va_runS (As := [.int y, .int (nI 0), .int ((nI (kF j)) - (nI 1))]) (rest := []) ⟨hx, hb, hml, hown, hts⟩ (c_X10_in l K y (nI 0) ((nI (kF j)) - (nI 1))) (cwS 3 hts gX10_isWay_X10_in rfl rfl rfl (by decide +kernel) ⟨Nat.le_of_ble_eq_true rfl, Nat.le_of_ble_eq_true rfl⟩) (rr_preS hKK (trivial)) rfl rfl hl.1 rfl (lv_room (Nat.le_of_ble_eq_true rfl)) dX10_isWay_29 ⟨Nat.le_refl _, Nat.le_refl _⟩) ?_
      refine nv_if_eq_b (a := (isS (kF j) y)) (tgt := 39) hx hb (pc := 32) dX10_isWay_32 (by decide) (fun c32 => ?_) (fun c32 => ?_)
      · refine lv_iconst (v := nI 0) hx hb (pc := 39) dX10_isWay_39 (by decide) ?_
        exact hret.1 40 _ (nI 0) dX10_isWay_40 (by first | (rw [okW_j (by omega) hxj, c6, c16, c32]; rfl) | (unfold okW; rw [c6, c16]; rfl) | (unfold okW; rw [c6]; rfl)) (by decide)
      · refine lv_iconst (v := nI 1) hx hb (pc := 35) dX10_isWay_35 (by decide) ?_
        refine lv_goto (tgt := 40) hx hb (pc := 36) dX10_isWay_36 (by decide) ?_
        exact hret.1 40 _ (nI 1) dX10_isWay_40 (by first | (rw [okW_j (by omega) hxj, c6, c16, c32]; rfl) | (unfold okW; rw [c6, c16]; rfl) | (unfold okW; rw [c6]; rfl)) (by decide)

abbrev rmX10_windowRows : Room := { frames := 0, cells := 0, slots := 0, locals := 0 }
theorem inX10_windowRows_10 : ∀ w ∈ wsX100, w ∈ wsX10_windowRows := fun _ h => List.mem_cons_of_mem _ (List.mem_append_right _ h)
set_option maxHeartbeats 4000000 in
set_option maxRecDepth 100000 in
theorem c_X10_windowRows (l : Launch) (K : rr_K) (om : Nat) (ad : Nat → Nat) (ns wl nf wd mt : Nat) (kF nF yF WD FL FW TD RW pl nw xt vF wF qF bY gF : Nat → Nat) (nm xm : Nat → Int64) (fR oF hF dF : Nat → Int32) (hw : wd ≤ 3) : MetP l K yX10_windowRows wsX10_windowRows rmX10_windowRows [.ref om] (fun H => va_P K.1 vwCl (XM K om ad ns wl nf wd mt kF nF yF WD FL FW TD RW pl nw xt vF wF qF bY gF nm xm fR oF hF dF) H) (.int (nI (2 ^ (2 * wd)))) := by
  refine metP_of (cc := cX10_windowRows) (maxL := 1) (ret := (some .int)) (rt := .int) (by decide) rfl rfl (Nat.le_of_ble_eq_true rfl) ?_
  intro p e s m args below meth c Q ls hEnt hKK hX hret hl
  obtain ⟨hx, hb, hml, hown, hts⟩ := hEnt
  have hP : va_P K.1 vwCl (XM K om ad ns wl nf wd mt kF nF yF WD FL FW TD RW pl nw xt vF wF qF bY gF nm xm fR oF hF dF) s.heap := hX
  have hl : lv_has ls 1 [(0, .ref om)] := hl
  refine lv_iconst (v := nI 1) hx hb (pc := 0) dX10_windowRows_0 (by decide) ?_
  refine lv_iconst (v := nI 2) hx hb (pc := 1) dX10_windowRows_1 (by decide) ?_
  refine lv_aload_n hx hb (pc := 2) dX10_windowRows_2 rfl (lv_at hl 0 rfl) ?_
  refine va_get (v := .int (nI wd)) hx hb hts (inX10_windowRows_10) hown hKK.1 hP 0 rfl rfl 9 (by decide) (hts _ (List.mem_of_getElem? (i := 1) (by decide +kernel))) (fun _ h9 => h9) rfl (pc := 3) dX10_windowRows_3 ?_
  refine nv_imul (a := 2) (b := wd) hx hb (pc := 6) dX10_windowRows_6 ?_
  refine nv_ishl (a := 1) (b := (2 * wd)) hx hb (pc := 7) dX10_windowRows_7 (by omega) ?_
  exact hret.1 8 _ (nI (1 <<< (2 * wd))) dX10_windowRows_8 (by rw [Nat.one_shiftLeft]) (rfl)

abbrev rmX10_bits : Room := { frames := 0, cells := 0, slots := 0, locals := 0 }
set_option maxHeartbeats 4000000 in
set_option maxRecDepth 100000 in
theorem c_X10_bits (l : Launch) (K : rr_K) (x : Nat) (hx16 : x < 65536) : MetP l K yX10_bits wsX10_bits rmX10_bits [.int (nI x)] (fun H => True) (.int (nI (pc x))) := by
  refine metP_of (cc := cX10_bits) (maxL := 3) (ret := (some .int)) (rt := .int) (by decide) rfl rfl (Nat.le_of_ble_eq_true rfl) ?_
  intro p e s m args below meth c Q ls hEnt hKK hX hret hl
  obtain ⟨hx, hb, hml, hown, hts⟩ := hEnt
  have hl : lv_has ls 3 [(0, .int (nI x))] := hl
  refine lv_iconst (v := nI 0) hx hb (pc := 0) dX10_bits_0 (by decide) ?_
  refine lv_istore_n (lv' := [(1, .int (nI 0)), (0, .int (nI x))]) hx hb (pc := 1) dX10_bits_1 rfl hl (by decide) rfl (fun ls hl => ?_)
  refine lv_iconst (v := nI 0) hx hb (pc := 2) dX10_bits_2 (by decide) ?_
  refine lv_istore_n (lv' := [(2, .int (nI 0)), (1, .int (nI 0)), (0, .int (nI x))]) hx hb (pc := 3) dX10_bits_3 rfl hl (by decide) rfl (fun ls hl => ?_)
  have L4 : ∀ (fz : Nat) (i : Nat) (hfz : 16 - i < fz) (hi : i ≤ 16) (ls : Array Slot) (hl : lv_has ls 3 [(0, .int (nI x)), (1, .int (nI (pcn i x))), (2, .int (nI i))]), W p l e rmX10_bits s m args below meth c s.heap [] 0 0 Q (F0 m 4 ls []) := by
    intro fz; induction fz with
    | zero => intro i hfz hi ls hl; exact absurd hfz (Nat.not_lt_zero _)
    | succ fz ih4 =>
      intro i hfz hi ls hl
      refine lv_iload_n hx hb (pc := 4) dX10_bits_4 rfl (lv_at hl 2 rfl) ?_
      refine lv_bipush (v := nI 16) hx hb (pc := 5) dX10_bits_5 (by decide) ?_
      refine nv_icmp_ge (a := i) (b := 16) (tgt := 24) hx hb (pc := 7) dX10_bits_7 (by decide) (by omega) (by omega) (fun c7 => ?_) (fun c7 => ?_)
      · refine lv_iload_n hx hb (pc := 24) dX10_bits_24 rfl (lv_at hl 1 rfl) ?_
        have e9 : i = 16 := by omega
        exact hret.1 25 _ (nI (pcn i x)) dX10_bits_25 (by rw [e9]) (rfl)
      · refine lv_iload_n hx hb (pc := 10) dX10_bits_10 rfl (lv_at hl 1 rfl) ?_
        refine lv_iload_n hx hb (pc := 11) dX10_bits_11 rfl (lv_at hl 0 rfl) ?_
        refine lv_iload_n hx hb (pc := 12) dX10_bits_12 rfl (lv_at hl 2 rfl) ?_
        refine nv_ishr (a := x) (b := i) hx hb (pc := 13) dX10_bits_13 (by omega) (by omega) ?_
        refine lv_iconst (v := nI 1) hx hb (pc := 14) dX10_bits_14 (by decide) ?_
        refine nv_bit (a := x) (q := i) hx hb (pc := 15) dX10_bits_15 ?_
        refine nv_iadd (a := (pcn i x)) (b := ((x.testBit i).toNat)) hx hb (pc := 16) dX10_bits_16 ?_
        refine lv_istore_n (lv' := [(1, .int (nI ((pcn i x) + ((x.testBit i).toNat)))), (0, .int (nI x)), (2, .int (nI i))]) hx hb (pc := 17) dX10_bits_17 rfl hl (by decide) rfl (fun ls hl => ?_)
        refine lv_iinc (v := nI (i + 1)) (lv' := [(2, .int (nI (i + 1))), (1, .int (nI ((pcn i x) + ((x.testBit i).toNat)))), (0, .int (nI x))]) hx hb (pc := 18) dX10_bits_18 hl (k := 2) rfl (rr_inc _) (by decide) rfl (fun ls hl => ?_)
        refine lv_goto (tgt := 4) hx hb (pc := 21) dX10_bits_21 (by decide) ?_
        have hl : lv_has ls 3 [(2, .int (nI (i + 1))), (1, .int (nI (pcn (i + 1) x))), (0, .int (nI x))] := by rw [show pcn (i + 1) x = (pcn i x) + ((x.testBit i).toNat) from rfl]; exact hl
        exact ih4 (i + 1) (by omega) (by omega) ls (lv_sub hl [2, 1, 0] rfl)
  have hl : lv_has ls 3 [(2, .int (nI 0)), (1, .int (nI (pcn 0 x))), (0, .int (nI x))] := by rw [show pcn 0 x = 0 from rfl]; exact hl
  exact L4 (17) 0 (by omega) (Nat.zero_le _) ls (lv_sub hl [2, 1, 0] rfl)

abbrev rmX10_outOf : Room := { frames := 1, cells := 0, slots := 0, locals := 22 }
theorem inX10_outOf_10 : ∀ w ∈ wsX100, w ∈ wsX10_outOf := fun _ h => List.mem_cons_of_mem _ (List.mem_append_right _ h)
set_option maxHeartbeats 4000000 in
set_option maxRecDepth 100000 in
theorem c_X10_outOf (l : Launch) (K : rr_K) (om : Nat) (ad : Nat → Nat) (ns wl nf wd mt : Nat) (kF nF yF WD FL FW TD RW pl nw xt vF wF qF bY gF : Nat → Nat) (nm xm : Nat → Int64) (fR oF hF dF : Nat → Int32) (x q : Nat) (hx6 : x < 6) (hk4 : kF x ≤ 4) (hn : nF x ≤ 16) (hE : ∀ i, i < 64 → Es yF x i < 65536) (hq : q < 16) : MetP l K yX10_outOf wsX10_outOf rmX10_outOf [.ref om, .int (nI x), .int (nI q)] (fun H => va_P K.1 vwCl (XM K om ad ns wl nf wd mt kF nF yF WD FL FW TD RW pl nw xt vF wF qF bY gF nm xm fR oF hF dF) H) (.int (nI (oU (kF x) (Es yF x) q))) := by
  refine metP_of (cc := cX10_outOf) (maxL := 5) (ret := (some .int)) (rt := .int) (by decide) rfl rfl (Nat.le_of_ble_eq_true rfl) ?_
  intro p e s m args below meth c Q ls hEnt hKK hX hret hl
  obtain ⟨hx, hb, hml, hown, hts⟩ := hEnt
  have hP : va_P K.1 vwCl (XM K om ad ns wl nf wd mt kF nF yF WD FL FW TD RW pl nw xt vF wF qF bY gF nm xm fR oF hF dF) s.heap := hX
  have hl : lv_has ls 5 [(0, .ref om), (1, .int (nI x)), (2, .int (nI q))] := hl
  refine lv_iconst (v := nI 0) hx hb (pc := 0) dX10_outOf_0 (by decide) ?_
  refine lv_istore_n (lv' := [(3, .int (nI 0)), (0, .ref om), (1, .int (nI x)), (2, .int (nI q))]) hx hb (pc := 1) dX10_outOf_1 rfl hl (by decide) rfl (fun ls hl => ?_)
  refine lv_iconst (v := nI 0) hx hb (pc := 2) dX10_outOf_2 (by decide) ?_
  refine lv_istore (lv' := [(4, .int (nI 0)), (3, .int (nI 0)), (0, .ref om), (1, .int (nI x)), (2, .int (nI q))]) hx hb (pc := 3) dX10_outOf_3 hl (by decide) rfl (fun ls hl => ?_)
  have L5 : ∀ (fz : Nat) (y : Nat) (hfz : kF x - y < fz) (hy : y ≤ kF x) (ls : Array Slot) (hl : lv_has ls 5 [(0, .ref om), (1, .int (nI x)), (2, .int (nI q)), (3, .int (nI (orN y (fun y => Es yF x (q * 4 + y))))), (4, .int (nI y))]), W p l e rmX10_outOf s m args below meth c s.heap [] 0 0 Q (F0 m 5 ls []) := by
    intro fz; induction fz with
    | zero => intro y hfz hy ls hl; exact absurd hfz (Nat.not_lt_zero _)
    | succ fz ih5 =>
      intro y hfz hy ls hl
      refine lv_iload hx hb (pc := 5) dX10_outOf_5 (lv_at hl 4 rfl) ?_
      refine lv_aload_n hx hb (pc := 7) dX10_outOf_7 rfl (lv_at hl 0 rfl) ?_
      refine va_get (v := .ref (ad 1)) hx hb hts (inX10_outOf_10) hown hKK.1 hP 0 rfl rfl 1 (by decide) (hts _ (List.mem_of_getElem? (i := 1) (by decide +kernel))) (fun _ h9 => h9) rfl (pc := 8) dX10_outOf_8 ?_
      refine lv_iload_n hx hb (pc := 11) dX10_outOf_11 rfl (lv_at hl 1 rfl) ?_
      refine nv_iald (v := nI (kF x)) (i := x) hx hb hKK hP 1 rfl (by omega) (by decide) (rfl) (pc := 12) dX10_outOf_12 ?_
      refine nv_icmp_ge (a := y) (b := (kF x)) (tgt := 37) hx hb (pc := 13) dX10_outOf_13 (by decide) (by omega) (by omega) (fun c13 => ?_) (fun c13 => ?_)
      · refine lv_iload_n hx hb (pc := 37) dX10_outOf_37 rfl (lv_at hl 3 rfl) ?_
        have e9 : y = kF x := by omega
        exact hret.1 38 _ (nI (orN y (fun y => Es yF x (q * 4 + y)))) dX10_outOf_38 (by rw [e9]; rfl) (rfl)
      · refine lv_iload_n hx hb (pc := 16) dX10_outOf_16 rfl (lv_at hl 3 rfl) ?_
        refine lv_aload_n hx hb (pc := 17) dX10_outOf_17 rfl (lv_at hl 0 rfl) ?_
        refine va_get (v := .ref (ad 3)) hx hb hts (inX10_outOf_10) hown hKK.1 hP 0 rfl rfl 3 (by decide) (hts _ (List.mem_of_getElem? (i := 2) (by decide +kernel))) (fun _ h9 => h9) rfl (pc := 18) dX10_outOf_18 ?_
        refine lv_iload_n hx hb (pc := 21) dX10_outOf_21 rfl (lv_at hl 1 rfl) ?_
        refine lv_iload_n hx hb (pc := 22) dX10_outOf_22 rfl (lv_at hl 2 rfl) ?_
        refine lv_iload hx hb (pc := 23) dX10_outOf_23 (lv_at hl 4 rfl) ?_
        refine rr_callP (rv := .int (nI (64 * x + (q * 4 + y)))) (pc := 25) (va_runS (As := [.int (nI x), .int (nI q), .int (nI y)]) (rest := [.ref (ad 3), .int (nI (orN y (fun y => Es yF x (q * 4 + y))))]) ⟨hx, hb, hml, hown, hts⟩ (c_X10_at l K x q y) (cwS 3 hts gX10_outOf_X10_at rfl rfl rfl (by decide +kernel) ⟨Nat.le_of_ble_eq_true rfl, Nat.le_of_ble_eq_true rfl⟩) (rr_preS hKK (trivial)) rfl rfl hl.1 rfl (lv_room (Nat.le_of_ble_eq_true rfl)) dX10_outOf_25 ⟨Nat.le_refl _, Nat.le_refl _⟩) ?_
        refine nv_iald (v := nI (Es yF x (q * 4 + y))) (i := (64 * x + (q * 4 + y))) hx hb hKK hP 3 rfl (by omega) (by decide) (rfl) (pc := 28) dX10_outOf_28 ?_
        refine nv_ior (a := (orN y (fun y => Es yF x (q * 4 + y)))) (b := (Es yF x (q * 4 + y))) hx hb (pc := 29) dX10_outOf_29 ?_
        refine lv_istore_n (lv' := [(3, .int (nI ((orN y (fun y => Es yF x (q * 4 + y))) ||| (Es yF x (q * 4 + y))))), (0, .ref om), (1, .int (nI x)), (2, .int (nI q)), (4, .int (nI y))]) hx hb (pc := 30) dX10_outOf_30 rfl hl (by decide) rfl (fun ls hl => ?_)
        refine lv_iinc (v := nI (y + 1)) (lv' := [(4, .int (nI (y + 1))), (3, .int (nI ((orN y (fun y => Es yF x (q * 4 + y))) ||| (Es yF x (q * 4 + y))))), (0, .ref om), (1, .int (nI x)), (2, .int (nI q))]) hx hb (pc := 31) dX10_outOf_31 hl (k := 4) rfl (rr_inc _) (by decide) rfl (fun ls hl => ?_)
        refine lv_goto (tgt := 5) hx hb (pc := 34) dX10_outOf_34 (by decide) ?_
        have hl : lv_has ls 5 [(4, .int (nI (y + 1))), (3, .int (nI (orN (y + 1) (fun y => Es yF x (q * 4 + y))))), (0, .ref om), (1, .int (nI x)), (2, .int (nI q))] := by rw [show orN (y + 1) (fun y => Es yF x (q * 4 + y)) = (orN y (fun y => Es yF x (q * 4 + y))) ||| (Es yF x (q * 4 + y)) from rfl]; exact hl
        exact ih5 (y + 1) (by omega) (by omega) ls (lv_sub hl [2, 3, 4, 1, 0] rfl)
  have hl : lv_has ls 5 [(4, .int (nI 0)), (3, .int (nI (orN 0 (fun y => Es yF x (q * 4 + y))))), (0, .ref om), (1, .int (nI x)), (2, .int (nI q))] := by rw [show orN 0 (fun y => Es yF x (q * 4 + y)) = 0 from rfl]; exact hl
  exact L5 (5) 0 (by omega) (Nat.zero_le _) ls (lv_sub hl [2, 3, 4, 1, 0] rfl)

abbrev rmX10_waysBetween : Room := { frames := 1, cells := 0, slots := 0, locals := 22 }
theorem inX10_waysBetween_10 : ∀ w ∈ wsX100, w ∈ wsX10_waysBetween := fun _ h => List.mem_cons_of_mem _ (List.mem_append_right _ h)
set_option maxHeartbeats 4000000 in
set_option maxRecDepth 100000 in
theorem c_X10_waysBetween (l : Launch) (K : rr_K) (om : Nat) (ad : Nat → Nat) (ns wl nf wd mt : Nat) (kF nF yF WD FL FW TD RW pl nw xt vF wF qF bY gF : Nat → Nat) (nm xm : Nat → Int64) (fR oF hF dF : Nat → Int32) (x q r : Nat) (hx6 : x < 6) (hk4 : kF x ≤ 4) (hn : nF x ≤ 16) (hE : ∀ i, i < 64 → Es yF x i < 65536) (hq : q < 16) (hr : r < 16) : MetP l K yX10_waysBetween wsX10_waysBetween rmX10_waysBetween [.ref om, .int (nI x), .int (nI q), .int (nI r)] (fun H => va_P K.1 vwCl (XM K om ad ns wl nf wd mt kF nF yF WD FL FW TD RW pl nw xt vF wF qF bY gF nm xm fR oF hF dF) H) (.int (nI (wB (kF x) (Es yF x) q r))) := by
  refine metP_of (cc := cX10_waysBetween) (maxL := 6) (ret := (some .int)) (rt := .int) (by decide) rfl rfl (Nat.le_of_ble_eq_true rfl) ?_
  intro p e s m args below meth c Q ls hEnt hKK hX hret hl
  obtain ⟨hx, hb, hml, hown, hts⟩ := hEnt
  have hP : va_P K.1 vwCl (XM K om ad ns wl nf wd mt kF nF yF WD FL FW TD RW pl nw xt vF wF qF bY gF nm xm fR oF hF dF) s.heap := hX
  have hl : lv_has ls 6 [(0, .ref om), (1, .int (nI x)), (2, .int (nI q)), (3, .int (nI r))] := hl
  refine lv_iconst (v := nI 0) hx hb (pc := 0) dX10_waysBetween_0 (by decide) ?_
  refine lv_istore (lv' := [(4, .int (nI 0)), (0, .ref om), (1, .int (nI x)), (2, .int (nI q)), (3, .int (nI r))]) hx hb (pc := 1) dX10_waysBetween_1 hl (by decide) rfl (fun ls hl => ?_)
  refine lv_iconst (v := nI 0) hx hb (pc := 3) dX10_waysBetween_3 (by decide) ?_
  refine lv_istore (lv' := [(5, .int (nI 0)), (4, .int (nI 0)), (0, .ref om), (1, .int (nI x)), (2, .int (nI q)), (3, .int (nI r))]) hx hb (pc := 4) dX10_waysBetween_4 hl (by decide) rfl (fun ls hl => ?_)
  have L6 : ∀ (fz : Nat) (y : Nat) (hfz : kF x - y < fz) (hy : y ≤ kF x) (ls : Array Slot) (hl : lv_has ls 6 [(0, .ref om), (1, .int (nI x)), (2, .int (nI q)), (3, .int (nI r)), (4, .int (nI (wB y (Es yF x) q r))), (5, .int (nI y))]), W p l e rmX10_waysBetween s m args below meth c s.heap [] 0 0 Q (F0 m 6 ls []) := by
    intro fz; induction fz with
    | zero => intro y hfz hy ls hl; exact absurd hfz (Nat.not_lt_zero _)
    | succ fz ih6 =>
      intro y hfz hy ls hl
      refine lv_iload hx hb (pc := 6) dX10_waysBetween_6 (lv_at hl 5 rfl) ?_
      refine lv_aload_n hx hb (pc := 8) dX10_waysBetween_8 rfl (lv_at hl 0 rfl) ?_
      refine va_get (v := .ref (ad 1)) hx hb hts (inX10_waysBetween_10) hown hKK.1 hP 0 rfl rfl 1 (by decide) (hts _ (List.mem_of_getElem? (i := 1) (by decide +kernel))) (fun _ h9 => h9) rfl (pc := 9) dX10_waysBetween_9 ?_
      refine lv_iload_n hx hb (pc := 12) dX10_waysBetween_12 rfl (lv_at hl 1 rfl) ?_
      refine nv_iald (v := nI (kF x)) (i := x) hx hb hKK hP 1 rfl (by omega) (by decide) (rfl) (pc := 13) dX10_waysBetween_13 ?_
      refine nv_icmp_ge (a := y) (b := (kF x)) (tgt := 44) hx hb (pc := 14) dX10_waysBetween_14 (by decide) (by omega) (by omega) (fun c14 => ?_) (fun c14 => ?_)
      · refine lv_iload hx hb (pc := 44) dX10_waysBetween_44 (lv_at hl 4 rfl) ?_
        have e9 : y = kF x := by omega
        exact hret.1 46 _ (nI (wB y (Es yF x) q r)) dX10_waysBetween_46 (by rw [e9]) (rfl)
      · refine lv_iload hx hb (pc := 17) dX10_waysBetween_17 (lv_at hl 4 rfl) ?_
        refine lv_aload_n hx hb (pc := 19) dX10_waysBetween_19 rfl (lv_at hl 0 rfl) ?_
        refine va_get (v := .ref (ad 3)) hx hb hts (inX10_waysBetween_10) hown hKK.1 hP 0 rfl rfl 3 (by decide) (hts _ (List.mem_of_getElem? (i := 2) (by decide +kernel))) (fun _ h9 => h9) rfl (pc := 20) dX10_waysBetween_20 ?_
        refine lv_iload_n hx hb (pc := 23) dX10_waysBetween_23 rfl (lv_at hl 1 rfl) ?_
        refine lv_iload_n hx hb (pc := 24) dX10_waysBetween_24 rfl (lv_at hl 2 rfl) ?_
        refine lv_iload hx hb (pc := 25) dX10_waysBetween_25 (lv_at hl 5 rfl) ?_
        refine rr_callP (rv := .int (nI (64 * x + (q * 4 + y)))) (pc := 27) (va_runS (As := [.int (nI x), .int (nI q), .int (nI y)]) (rest := [.ref (ad 3), .int (nI (wB y (Es yF x) q r))]) ⟨hx, hb, hml, hown, hts⟩ (c_X10_at l K x q y) (cwS 3 hts gX10_waysBetween_X10_at rfl rfl rfl (by decide +kernel) ⟨Nat.le_of_ble_eq_true rfl, Nat.le_of_ble_eq_true rfl⟩) (rr_preS hKK (trivial)) rfl rfl hl.1 rfl (lv_room (Nat.le_of_ble_eq_true rfl)) dX10_waysBetween_27 ⟨Nat.le_refl _, Nat.le_refl _⟩) ?_
        refine nv_iald (v := nI (Es yF x (q * 4 + y))) (i := (64 * x + (q * 4 + y))) hx hb hKK hP 3 rfl (by omega) (by decide) (rfl) (pc := 30) dX10_waysBetween_30 ?_
        refine lv_iload_n hx hb (pc := 31) dX10_waysBetween_31 rfl (lv_at hl 3 rfl) ?_
        refine nv_ishr (a := (Es yF x (q * 4 + y))) (b := r) hx hb (pc := 32) dX10_waysBetween_32 (Nat.lt_trans (hE _ (by omega)) (by decide)) (by omega) ?_
        refine lv_iconst (v := nI 1) hx hb (pc := 33) dX10_waysBetween_33 (by decide) ?_
        refine nv_bit (a := (Es yF x (q * 4 + y))) (q := r) hx hb (pc := 34) dX10_waysBetween_34 ?_
        refine nv_iadd (a := (wB y (Es yF x) q r)) (b := (((Es yF x (q * 4 + y)).testBit r).toNat)) hx hb (pc := 35) dX10_waysBetween_35 ?_
        refine lv_istore (lv' := [(4, .int (nI ((wB y (Es yF x) q r) + (((Es yF x (q * 4 + y)).testBit r).toNat)))), (0, .ref om), (1, .int (nI x)), (2, .int (nI q)), (3, .int (nI r)), (5, .int (nI y))]) hx hb (pc := 36) dX10_waysBetween_36 hl (by decide) rfl (fun ls hl => ?_)
        refine lv_iinc (v := nI (y + 1)) (lv' := [(5, .int (nI (y + 1))), (4, .int (nI ((wB y (Es yF x) q r) + (((Es yF x (q * 4 + y)).testBit r).toNat)))), (0, .ref om), (1, .int (nI x)), (2, .int (nI q)), (3, .int (nI r))]) hx hb (pc := 38) dX10_waysBetween_38 hl (k := 5) rfl (rr_inc _) (by decide) rfl (fun ls hl => ?_)
        refine lv_goto (tgt := 6) hx hb (pc := 41) dX10_waysBetween_41 (by decide) ?_
        have hl : lv_has ls 6 [(5, .int (nI (y + 1))), (4, .int (nI (wB (y + 1) (Es yF x) q r))), (0, .ref om), (1, .int (nI x)), (2, .int (nI q)), (3, .int (nI r))] := by rw [show wB (y + 1) (Es yF x) q r = (wB y (Es yF x) q r) + (((Es yF x (q * 4 + y)).testBit r).toNat) from rfl]; exact hl
        exact ih6 (y + 1) (by omega) (by omega) ls (lv_sub hl [2, 3, 4, 5, 1, 0] rfl)
  have hl : lv_has ls 6 [(5, .int (nI 0)), (4, .int (nI (wB 0 (Es yF x) q r))), (0, .ref om), (1, .int (nI x)), (2, .int (nI q)), (3, .int (nI r))] := by rw [show wB 0 (Es yF x) q r = 0 from rfl]; exact hl
  exact L6 (5) 0 (by omega) (Nat.zero_le _) ls (lv_sub hl [2, 3, 4, 5, 1, 0] rfl)

abbrev rmX10_liveOf : Room := { frames := 2, cells := 0, slots := 0, locals := 46 }
theorem inX10_liveOf_10 : ∀ w ∈ wsX100, w ∈ wsX10_liveOf := fun _ h => List.mem_cons_of_mem _ (List.mem_append_right _ h)
set_option maxHeartbeats 4000000 in
set_option maxRecDepth 100000 in
theorem c_X10_liveOf (l : Launch) (K : rr_K) (om : Nat) (ad : Nat → Nat) (ns wl nf wd mt : Nat) (kF nF yF WD FL FW TD RW pl nw xt vF wF qF bY gF : Nat → Nat) (nm xm : Nat → Int64) (fR oF hF dF : Nat → Int32) (x : Nat) (hx6 : x < 6) (hk4 : kF x ≤ 4) (hn : nF x ≤ 16) (hE : ∀ i, i < 64 → Es yF x i < 65536) : MetP l K yX10_liveOf wsX10_liveOf rmX10_liveOf [.ref om, .int (nI x)] (fun H => va_P K.1 vwCl (XM K om ad ns wl nf wd mt kF nF yF WD FL FW TD RW pl nw xt vF wF qF bY gF nm xm fR oF hF dF) H) (.int (nI (liveS (kF x) (nF x) (Es yF x)))) := by
  refine metP_of (cc := cX10_liveOf) (maxL := 8) (ret := (some .int)) (rt := .int) (by decide) rfl rfl (Nat.le_of_ble_eq_true rfl) ?_
  intro p e s m args below meth c Q ls hEnt hKK hX hret hl
  obtain ⟨hx, hb, hml, hown, hts⟩ := hEnt
  have hP : va_P K.1 vwCl (XM K om ad ns wl nf wd mt kF nF yF WD FL FW TD RW pl nw xt vF wF qF bY gF nm xm fR oF hF dF) s.heap := hX
  have hl : lv_has ls 8 [(0, .ref om), (1, .int (nI x))] := hl
  have p16 : 2 ^ nF x ≤ 65536 := Nat.le_trans (Nat.pow_le_pow_right (by decide) hn) (by decide)
  refine lv_iconst (v := nI 1) hx hb (pc := 0) dX10_liveOf_0 (by decide) ?_
  refine lv_aload_n hx hb (pc := 1) dX10_liveOf_1 rfl (lv_at hl 0 rfl) ?_
  refine va_get (v := .ref (ad 2)) hx hb hts (inX10_liveOf_10) hown hKK.1 hP 0 rfl rfl 2 (by decide) (hts _ (List.mem_of_getElem? (i := 1) (by decide +kernel))) (fun _ h9 => h9) rfl (pc := 2) dX10_liveOf_2 ?_
  refine lv_iload_n hx hb (pc := 5) dX10_liveOf_5 rfl (lv_at hl 1 rfl) ?_
  refine nv_iald (v := nI (nF x)) (i := x) hx hb hKK hP 2 rfl (by omega) (by decide) (rfl) (pc := 6) dX10_liveOf_6 ?_
  refine nv_ishl (a := 1) (b := (nF x)) hx hb (pc := 7) dX10_liveOf_7 (by omega) ?_
  refine lv_iconst (v := nI 1) hx hb (pc := 8) dX10_liveOf_8 (by decide) ?_
  refine nv_isub (a := (1 <<< (nF x))) (b := 1) hx hb (pc := 9) dX10_liveOf_9 (by rw [Nat.one_shiftLeft]; exact Nat.two_pow_pos (nF x)) ?_
  refine rr_top (v := .int (nI (2 ^ nF x - 1))) (by rw [Nat.one_shiftLeft]) ?_
  refine lv_istore_n (lv' := [(2, .int (nI (2 ^ nF x - 1))), (0, .ref om), (1, .int (nI x))]) hx hb (pc := 10) dX10_liveOf_10 rfl hl (by decide) rfl (fun ls hl => ?_)
  refine lv_iconst (v := nI 1) hx hb (pc := 11) dX10_liveOf_11 (by decide) ?_
  refine lv_istore_n (lv' := [(3, .int (nI 1)), (2, .int (nI (2 ^ nF x - 1))), (0, .ref om), (1, .int (nI x))]) hx hb (pc := 12) dX10_liveOf_12 rfl hl (by decide) rfl (fun ls hl => ?_)
  have L13 : ∀ (fz : Nat) (i : Nat) (ch : Bool) (al : Nat) (hfz : nF x + 1 - i < fz) (hl9 : al = rr_it (lst (kF x) (nF x) (Es yF x)) i (2 ^ nF x - 1)) (hc9 : ch = false → lst (kF x) (nF x) (Es yF x) al = al) (hi9 : ch = true → i ≤ nF x) (ls : Array Slot) (hl : lv_has ls 8 [(0, .ref om), (1, .int (nI x)), (2, .int (nI al)), (3, .int (bI (ch)))]), W p l e rmX10_liveOf s m args below meth c s.heap [] 0 0 Q (F0 m 13 ls []) := by
    intro fz; induction fz with
    | zero => intro i ch al hfz hl9 hc9 hi9 ls hl; exact absurd hfz (Nat.not_lt_zero _)
    | succ fz ih13 =>
      intro i ch al hfz hl9 hc9 hi9 ls hl
      have hal : al < 65536 := by rw [hl9]; exact Nat.lt_of_lt_of_le (it_lt (kF x) (nF x) (Es yF x) i) p16
      have hlO : ∀ q, lO (kF x) al (Es yF x) q < 65536 := fun q => Nat.lt_of_le_of_lt (sub_le (lO_sub _ _ _ _)) hal
      refine lv_iload_n hx hb (pc := 13) dX10_liveOf_13 rfl (lv_at hl 3 rfl) ?_
      refine nv_if_eq_b (a := ch) (tgt := 116) hx hb (pc := 14) dX10_liveOf_14 (by decide) (fun c14 => ?_) (fun c14 => ?_)
      · refine lv_iload_n hx hb (pc := 116) dX10_liveOf_116 rfl (lv_at hl 2 rfl) ?_
        exact hret.1 117 _ (nI al) dX10_liveOf_117 (by rw [liveS_it hl9 (hc9 c14)]) (rfl)
      · refine lv_iconst (v := nI 0) hx hb (pc := 17) dX10_liveOf_17 (by decide) ?_
        refine lv_istore (lv' := [(4, .int (nI 0)), (0, .ref om), (1, .int (nI x)), (2, .int (nI al)), (3, .int (bI (ch)))]) hx hb (pc := 18) dX10_liveOf_18 hl (by decide) rfl (fun ls hl => ?_)
        refine lv_iconst (v := nI 0) hx hb (pc := 20) dX10_liveOf_20 (by decide) ?_
        refine lv_istore (lv' := [(5, .int (nI 0)), (4, .int (nI 0)), (0, .ref om), (1, .int (nI x)), (2, .int (nI al)), (3, .int (bI (ch)))]) hx hb (pc := 21) dX10_liveOf_21 hl (by decide) rfl (fun ls hl => ?_)
        refine lv_iconst (v := nI 0) hx hb (pc := 23) dX10_liveOf_23 (by decide) ?_
        refine lv_istore (lv' := [(6, .int (nI 0)), (5, .int (nI 0)), (4, .int (nI 0)), (0, .ref om), (1, .int (nI x)), (2, .int (nI al)), (3, .int (bI (ch)))]) hx hb (pc := 24) dX10_liveOf_24 hl (by decide) rfl (fun ls hl => ?_)
        have L26 : ∀ (fz : Nat) (q : Nat) (hfz : nF x - q < fz) (hq : q ≤ nF x) (ls : Array Slot) (hl : lv_has ls 8 [(0, .ref om), (1, .int (nI x)), (2, .int (nI al)), (4, .int (nI (orN q (lO (kF x) al (Es yF x))))), (5, .int (nI (orN q (ldg (lO (kF x) al (Es yF x)))))), (6, .int (nI q))]), W p l e rmX10_liveOf s m args below meth c s.heap [] 0 0 Q (F0 m 26 ls []) := by
          intro fz; induction fz with
          | zero => intro q hfz hq ls hl; exact absurd hfz (Nat.not_lt_zero _)
          | succ fz ih26 =>
            intro q hfz hq ls hl
            refine lv_iload hx hb (pc := 26) dX10_liveOf_26 (lv_at hl 5 rfl) ?_
            refine lv_aload_n hx hb (pc := 28) dX10_liveOf_28 rfl (lv_at hl 0 rfl) ?_
            refine va_get (v := .ref (ad 2)) hx hb hts (inX10_liveOf_10) hown hKK.1 hP 0 rfl rfl 2 (by decide) (hts _ (List.mem_of_getElem? (i := 1) (by decide +kernel))) (fun _ h9 => h9) rfl (pc := 29) dX10_liveOf_29 ?_
            refine lv_iload_n hx hb (pc := 32) dX10_liveOf_32 rfl (lv_at hl 1 rfl) ?_
            refine nv_iald (v := nI (nF x)) (i := x) hx hb hKK hP 2 rfl (by omega) (by decide) (rfl) (pc := 33) dX10_liveOf_33 ?_
            refine nv_icmp_ge (a := q) (b := (nF x)) (tgt := 89) hx hb (pc := 34) dX10_liveOf_34 (by decide) (by omega) (by omega) (fun c34 => ?_) (fun c34 => ?_)
            · have e9 : q = nF x := by omega
              refine lv_iload_n hx hb (pc := 89) dX10_liveOf_89 rfl (lv_at hl 2 rfl) ?_
              refine lv_iload hx hb (pc := 90) dX10_liveOf_90 (lv_at hl 3 rfl) ?_
              refine nv_iand (a := al) (b := (orN q (lO (kF x) al (Es yF x)))) hx hb (pc := 92) dX10_liveOf_92 ?_
              refine lv_iload hx hb (pc := 93) dX10_liveOf_93 (lv_at hl 4 rfl) ?_
              refine nv_iand (a := (al &&& (orN q (lO (kF x) al (Es yF x))))) (b := (orN q (ldg (lO (kF x) al (Es yF x))))) hx hb (pc := 95) dX10_liveOf_95 ?_
              refine rr_top (v := .int (nI (lst (kF x) (nF x) (Es yF x) al))) (by rw [e9, lst_mod]) ?_
              refine lv_istore (lv' := [(6, .int (nI (lst (kF x) (nF x) (Es yF x) al))), (0, .ref om), (1, .int (nI x)), (2, .int (nI al)), (4, .int (nI (orN q (lO (kF x) al (Es yF x))))), (5, .int (nI (orN q (ldg (lO (kF x) al (Es yF x))))))]) hx hb (pc := 96) dX10_liveOf_96 hl (by decide) rfl (fun ls hl => ?_)
              refine lv_iload hx hb (pc := 98) dX10_liveOf_98 (lv_at hl 0 rfl) ?_
              refine lv_iload_n hx hb (pc := 100) dX10_liveOf_100 rfl (lv_at hl 3 rfl) ?_
              refine nv_icmp_eq (a := (lst (kF x) (nF x) (Es yF x) al)) (b := al) (tgt := 108) hx hb (pc := 101) dX10_liveOf_101 (by decide) (Nat.lt_of_le_of_lt (sub_le (lst_sub _ _ _ _)) (by omega)) (by omega) (fun c101 => ?_) (fun c101 => ?_)
              · refine lv_iconst (v := nI 0) hx hb (pc := 108) dX10_liveOf_108 (by decide) ?_
                refine lv_istore_n (lv' := [(3, .int (nI 0)), (6, .int (nI (lst (kF x) (nF x) (Es yF x) al))), (0, .ref om), (1, .int (nI x)), (2, .int (nI al)), (4, .int (nI (orN q (lO (kF x) al (Es yF x))))), (5, .int (nI (orN q (ldg (lO (kF x) al (Es yF x))))))]) hx hb (pc := 109) dX10_liveOf_109 rfl hl (by decide) rfl (fun ls hl => ?_)
                refine lv_iload hx hb (pc := 110) dX10_liveOf_110 (lv_at hl 1 rfl) ?_
                refine lv_istore_n (lv' := [(2, .int (nI (lst (kF x) (nF x) (Es yF x) al))), (3, .int (nI 0)), (6, .int (nI (lst (kF x) (nF x) (Es yF x) al))), (0, .ref om), (1, .int (nI x)), (4, .int (nI (orN q (lO (kF x) al (Es yF x))))), (5, .int (nI (orN q (ldg (lO (kF x) al (Es yF x))))))]) hx hb (pc := 112) dX10_liveOf_112 rfl hl (by decide) rfl (fun ls hl => ?_)
                refine lv_goto (tgt := 13) hx hb (pc := 113) dX10_liveOf_113 (by decide) ?_
                have hi8 := hi9 c14
                exact ih13 (i + 1) false (lst (kF x) (nF x) (Es yF x) al) (by omega) (by rw [hl9]; rfl) (by first | (intro h; cases h; done) | (intro _; rw [c101]; exact c101)) (by first | (intro h; cases h; done) | exact fun _ => live_more hl9 hi8 c101) ls (lv_sub hl [3, 4, 0, 1] rfl)
              · refine lv_iconst (v := nI 1) hx hb (pc := 104) dX10_liveOf_104 (by decide) ?_
                refine lv_goto (tgt := 109) hx hb (pc := 105) dX10_liveOf_105 (by decide) ?_
                refine lv_istore_n (lv' := [(3, .int (nI 1)), (6, .int (nI (lst (kF x) (nF x) (Es yF x) al))), (0, .ref om), (1, .int (nI x)), (2, .int (nI al)), (4, .int (nI (orN q (lO (kF x) al (Es yF x))))), (5, .int (nI (orN q (ldg (lO (kF x) al (Es yF x))))))]) hx hb (pc := 109) dX10_liveOf_109 rfl hl (by decide) rfl (fun ls hl => ?_)
                refine lv_iload hx hb (pc := 110) dX10_liveOf_110 (lv_at hl 1 rfl) ?_
                refine lv_istore_n (lv' := [(2, .int (nI (lst (kF x) (nF x) (Es yF x) al))), (3, .int (nI 1)), (6, .int (nI (lst (kF x) (nF x) (Es yF x) al))), (0, .ref om), (1, .int (nI x)), (4, .int (nI (orN q (lO (kF x) al (Es yF x))))), (5, .int (nI (orN q (ldg (lO (kF x) al (Es yF x))))))]) hx hb (pc := 112) dX10_liveOf_112 rfl hl (by decide) rfl (fun ls hl => ?_)
                refine lv_goto (tgt := 13) hx hb (pc := 113) dX10_liveOf_113 (by decide) ?_
                have hi8 := hi9 c14
                exact ih13 (i + 1) true (lst (kF x) (nF x) (Es yF x) al) (by omega) (by rw [hl9]; rfl) (by first | (intro h; cases h; done) | (intro _; rw [c101]; exact c101)) (by first | (intro h; cases h; done) | exact fun _ => live_more hl9 hi8 c101) ls (lv_sub hl [3, 4, 0, 1] rfl)
            · refine lv_iload_n hx hb (pc := 37) dX10_liveOf_37 rfl (lv_at hl 2 rfl) ?_
              refine lv_iload hx hb (pc := 38) dX10_liveOf_38 (lv_at hl 5 rfl) ?_
              refine nv_ishr (a := al) (b := q) hx hb (pc := 40) dX10_liveOf_40 (by omega) (by omega) ?_
              refine lv_iconst (v := nI 1) hx hb (pc := 41) dX10_liveOf_41 (by decide) ?_
              refine nv_bit (a := al) (q := q) hx hb (pc := 42) dX10_liveOf_42 ?_
              refine lv_iconst (v := nI 1) hx hb (pc := 43) dX10_liveOf_43 (by decide) ?_
              refine nv_icmp_ne_b1 (tgt := 83) hx hb (pc := 44) dX10_liveOf_44 (by decide) (fun c44 => ?_) (fun c44 => ?_)
              · refine lv_iinc (v := nI (q + 1)) (lv' := [(6, .int (nI (q + 1))), (0, .ref om), (1, .int (nI x)), (2, .int (nI al)), (4, .int (nI (orN q (lO (kF x) al (Es yF x))))), (5, .int (nI (orN q (ldg (lO (kF x) al (Es yF x))))))]) hx hb (pc := 83) dX10_liveOf_83 hl (k := 5) rfl (rr_inc _) (by decide) rfl (fun ls hl => ?_)
                refine lv_goto (tgt := 26) hx hb (pc := 86) dX10_liveOf_86 (by decide) ?_
                have hl : lv_has ls 8 [(6, .int (nI (q + 1))), (0, .ref om), (1, .int (nI x)), (2, .int (nI al)), (4, .int (nI (orN (q + 1) (lO (kF x) al (Es yF x))))), (5, .int (nI (orN q (ldg (lO (kF x) al (Es yF x))))))] := by rw [show orN (q + 1) (lO (kF x) al (Es yF x)) = orN q (lO (kF x) al (Es yF x)) from by first | (rw [orN_succ]; done) | (rw [orN_succ, lO_oU, if_neg (by rw [c44]; decide), Nat.or_zero]; done)]; exact hl
                have hl : lv_has ls 8 [(6, .int (nI (q + 1))), (0, .ref om), (1, .int (nI x)), (2, .int (nI al)), (4, .int (nI (orN (q + 1) (lO (kF x) al (Es yF x))))), (5, .int (nI (orN (q + 1) (ldg (lO (kF x) al (Es yF x))))))] := by rw [show orN (q + 1) (ldg (lO (kF x) al (Es yF x))) = orN q (ldg (lO (kF x) al (Es yF x))) from by rw [orN_succ]; unfold ldg; first | (rw [if_pos c69]; done) | (rw [if_neg c69]; done) | (rw [if_pos (by rw [lO_oU, if_neg (by rw [c44]; decide)]), Nat.or_zero]; done)]; exact hl
                exact ih26 (q + 1) (by omega) (by omega) ls (lv_sub hl [1, 2, 3, 4, 5, 0] rfl)
              · refine lv_aload_n hx hb (pc := 47) dX10_liveOf_47 rfl (lv_at hl 0 rfl) ?_
                refine lv_iload_n hx hb (pc := 48) dX10_liveOf_48 rfl (lv_at hl 1 rfl) ?_
                refine lv_iload hx hb (pc := 49) dX10_liveOf_49 (lv_at hl 5 rfl) ?_
                refine rr_callP (rv := .int (nI (oU (kF x) (Es yF x) q))) (pc := 51) (va_runV (As := [.int (nI x), .int (nI q)]) (rest := []) ⟨hx, hb, hml, hown, hts⟩ (c_X10_outOf l K om ad ns wl nf wd mt kF nF yF WD FL FW TD RW pl nw xt vF wF qF bY gF nm xm fR oF hF dF x q hx6 hk4 hn hE (by omega)) (cwV 2 hts gX10_liveOf_X10_outOf rfl rfl rfl (by decide +kernel) ⟨Nat.le_of_ble_eq_true rfl, Nat.le_of_ble_eq_true rfl⟩) (rr_preV hKK (hP) (va_recv hKK.1 hP (ci := 10) (q0 := 0) rfl rfl)) rfl rfl hl.1 rfl (lv_room (Nat.le_of_ble_eq_true rfl)) dX10_liveOf_51 ⟨Nat.le_refl _, Nat.le_refl _⟩) ?_
                refine lv_iload_n hx hb (pc := 54) dX10_liveOf_54 rfl (lv_at hl 2 rfl) ?_
                refine nv_iand (a := (oU (kF x) (Es yF x) q)) (b := al) hx hb (pc := 55) dX10_liveOf_55 ?_
                refine rr_top (v := .int (nI (lO (kF x) al (Es yF x) q))) (by rw [lO_oU, if_pos c44]) ?_
                refine lv_istore (lv' := [(7, .int (nI (lO (kF x) al (Es yF x) q))), (0, .ref om), (1, .int (nI x)), (2, .int (nI al)), (4, .int (nI (orN q (lO (kF x) al (Es yF x))))), (5, .int (nI (orN q (ldg (lO (kF x) al (Es yF x)))))), (6, .int (nI q))]) hx hb (pc := 56) dX10_liveOf_56 hl (by decide) rfl (fun ls hl => ?_)
                refine lv_iload hx hb (pc := 58) dX10_liveOf_58 (lv_at hl 4 rfl) ?_
                refine lv_iload hx hb (pc := 60) dX10_liveOf_60 (lv_at hl 0 rfl) ?_
                refine nv_ior (a := (orN q (lO (kF x) al (Es yF x)))) (b := (lO (kF x) al (Es yF x) q)) hx hb (pc := 62) dX10_liveOf_62 ?_
                refine lv_istore (lv' := [(4, .int (nI ((orN q (lO (kF x) al (Es yF x))) ||| (lO (kF x) al (Es yF x) q)))), (7, .int (nI (lO (kF x) al (Es yF x) q))), (0, .ref om), (1, .int (nI x)), (2, .int (nI al)), (5, .int (nI (orN q (ldg (lO (kF x) al (Es yF x)))))), (6, .int (nI q))]) hx hb (pc := 63) dX10_liveOf_63 hl (by decide) rfl (fun ls hl => ?_)
                refine lv_iload hx hb (pc := 65) dX10_liveOf_65 (lv_at hl 5 rfl) ?_
                refine lv_iload hx hb (pc := 67) dX10_liveOf_67 (lv_at hl 1 rfl) ?_
                refine nv_if_eq (a := (lO (kF x) al (Es yF x) q)) (tgt := 79) hx hb (pc := 69) dX10_liveOf_69 (by decide) (Nat.lt_trans (hlO q) (by decide)) (fun c69 => ?_) (fun c69 => ?_)
                · refine lv_iconst (v := nI 0) hx hb (pc := 79) dX10_liveOf_79 (by decide) ?_
                  refine nv_ior (a := (orN q (ldg (lO (kF x) al (Es yF x))))) (b := 0) hx hb (pc := 80) dX10_liveOf_80 ?_
                  refine lv_istore (lv' := [(5, .int (nI ((orN q (ldg (lO (kF x) al (Es yF x)))) ||| 0))), (4, .int (nI ((orN q (lO (kF x) al (Es yF x))) ||| (lO (kF x) al (Es yF x) q)))), (7, .int (nI (lO (kF x) al (Es yF x) q))), (0, .ref om), (1, .int (nI x)), (2, .int (nI al)), (6, .int (nI q))]) hx hb (pc := 81) dX10_liveOf_81 hl (by decide) rfl (fun ls hl => ?_)
                  refine lv_iinc (v := nI (q + 1)) (lv' := [(6, .int (nI (q + 1))), (5, .int (nI ((orN q (ldg (lO (kF x) al (Es yF x)))) ||| 0))), (4, .int (nI ((orN q (lO (kF x) al (Es yF x))) ||| (lO (kF x) al (Es yF x) q)))), (7, .int (nI (lO (kF x) al (Es yF x) q))), (0, .ref om), (1, .int (nI x)), (2, .int (nI al))]) hx hb (pc := 83) dX10_liveOf_83 hl (k := 6) rfl (rr_inc _) (by decide) rfl (fun ls hl => ?_)
                  refine lv_goto (tgt := 26) hx hb (pc := 86) dX10_liveOf_86 (by decide) ?_
                  have hl : lv_has ls 8 [(6, .int (nI (q + 1))), (5, .int (nI ((orN q (ldg (lO (kF x) al (Es yF x)))) ||| 0))), (4, .int (nI (orN (q + 1) (lO (kF x) al (Es yF x))))), (7, .int (nI (lO (kF x) al (Es yF x) q))), (0, .ref om), (1, .int (nI x)), (2, .int (nI al))] := by rw [show orN (q + 1) (lO (kF x) al (Es yF x)) = (orN q (lO (kF x) al (Es yF x))) ||| (lO (kF x) al (Es yF x) q) from by first | (rw [orN_succ]; done) | (rw [orN_succ, lO_oU, if_neg (by rw [c44]; decide), Nat.or_zero]; done)]; exact hl
                  have hl : lv_has ls 8 [(6, .int (nI (q + 1))), (5, .int (nI (orN (q + 1) (ldg (lO (kF x) al (Es yF x)))))), (4, .int (nI (orN (q + 1) (lO (kF x) al (Es yF x))))), (7, .int (nI (lO (kF x) al (Es yF x) q))), (0, .ref om), (1, .int (nI x)), (2, .int (nI al))] := by rw [show orN (q + 1) (ldg (lO (kF x) al (Es yF x))) = (orN q (ldg (lO (kF x) al (Es yF x)))) ||| 0 from by rw [orN_succ]; unfold ldg; first | (rw [if_pos c69]; done) | (rw [if_neg c69]; done) | (rw [if_pos (by rw [lO_oU, if_neg (by rw [c44]; decide)]), Nat.or_zero]; done)]; exact hl
                  exact ih26 (q + 1) (by omega) (by omega) ls (lv_sub hl [4, 5, 6, 2, 1, 0] rfl)
                · refine lv_iconst (v := nI 1) hx hb (pc := 72) dX10_liveOf_72 (by decide) ?_
                  refine lv_iload hx hb (pc := 73) dX10_liveOf_73 (lv_at hl 6 rfl) ?_
                  refine nv_ishl (a := 1) (b := q) hx hb (pc := 75) dX10_liveOf_75 (by omega) ?_
                  refine lv_goto (tgt := 80) hx hb (pc := 76) dX10_liveOf_76 (by decide) ?_
                  refine nv_ior (a := (orN q (ldg (lO (kF x) al (Es yF x))))) (b := (1 <<< q)) hx hb (pc := 80) dX10_liveOf_80 ?_
                  refine lv_istore (lv' := [(5, .int (nI ((orN q (ldg (lO (kF x) al (Es yF x)))) ||| (1 <<< q)))), (4, .int (nI ((orN q (lO (kF x) al (Es yF x))) ||| (lO (kF x) al (Es yF x) q)))), (7, .int (nI (lO (kF x) al (Es yF x) q))), (0, .ref om), (1, .int (nI x)), (2, .int (nI al)), (6, .int (nI q))]) hx hb (pc := 81) dX10_liveOf_81 hl (by decide) rfl (fun ls hl => ?_)
                  refine lv_iinc (v := nI (q + 1)) (lv' := [(6, .int (nI (q + 1))), (5, .int (nI ((orN q (ldg (lO (kF x) al (Es yF x)))) ||| (1 <<< q)))), (4, .int (nI ((orN q (lO (kF x) al (Es yF x))) ||| (lO (kF x) al (Es yF x) q)))), (7, .int (nI (lO (kF x) al (Es yF x) q))), (0, .ref om), (1, .int (nI x)), (2, .int (nI al))]) hx hb (pc := 83) dX10_liveOf_83 hl (k := 6) rfl (rr_inc _) (by decide) rfl (fun ls hl => ?_)
                  refine lv_goto (tgt := 26) hx hb (pc := 86) dX10_liveOf_86 (by decide) ?_
                  have hl : lv_has ls 8 [(6, .int (nI (q + 1))), (5, .int (nI ((orN q (ldg (lO (kF x) al (Es yF x)))) ||| (1 <<< q)))), (4, .int (nI (orN (q + 1) (lO (kF x) al (Es yF x))))), (7, .int (nI (lO (kF x) al (Es yF x) q))), (0, .ref om), (1, .int (nI x)), (2, .int (nI al))] := by rw [show orN (q + 1) (lO (kF x) al (Es yF x)) = (orN q (lO (kF x) al (Es yF x))) ||| (lO (kF x) al (Es yF x) q) from by first | (rw [orN_succ]; done) | (rw [orN_succ, lO_oU, if_neg (by rw [c44]; decide), Nat.or_zero]; done)]; exact hl
                  have hl : lv_has ls 8 [(6, .int (nI (q + 1))), (5, .int (nI (orN (q + 1) (ldg (lO (kF x) al (Es yF x)))))), (4, .int (nI (orN (q + 1) (lO (kF x) al (Es yF x))))), (7, .int (nI (lO (kF x) al (Es yF x) q))), (0, .ref om), (1, .int (nI x)), (2, .int (nI al))] := by rw [show orN (q + 1) (ldg (lO (kF x) al (Es yF x))) = (orN q (ldg (lO (kF x) al (Es yF x)))) ||| (1 <<< q) from by rw [orN_succ]; unfold ldg; first | (rw [if_pos c69]; done) | (rw [if_neg c69]; done) | (rw [if_pos (by rw [lO_oU, if_neg (by rw [c44]; decide)]), Nat.or_zero]; done)]; exact hl
                  exact ih26 (q + 1) (by omega) (by omega) ls (lv_sub hl [4, 5, 6, 2, 1, 0] rfl)
        have hl : lv_has ls 8 [(6, .int (nI 0)), (5, .int (nI 0)), (4, .int (nI (orN 0 (lO (kF x) al (Es yF x))))), (0, .ref om), (1, .int (nI x)), (2, .int (nI al)), (3, .int (bI (ch)))] := by rw [show orN 0 (lO (kF x) al (Es yF x)) = 0 from rfl]; exact hl
        have hl : lv_has ls 8 [(6, .int (nI 0)), (5, .int (nI (orN 0 (ldg (lO (kF x) al (Es yF x)))))), (4, .int (nI (orN 0 (lO (kF x) al (Es yF x))))), (0, .ref om), (1, .int (nI x)), (2, .int (nI al)), (3, .int (bI (ch)))] := by rw [show orN 0 (ldg (lO (kF x) al (Es yF x))) = 0 from rfl]; exact hl
        exact L26 (17) 0 (by omega) (Nat.zero_le _) ls (lv_sub hl [3, 4, 5, 2, 1, 0] rfl)
  exact L13 (18) 0 true (2 ^ nF x - 1) (by omega) (rfl) (fun h => by cases h) (fun _ => Nat.zero_le _) ls (lv_sub hl [2, 3, 1, 0] rfl)

abbrev rmX10_lead : Room := { frames := 1, cells := 0, slots := 0, locals := 22 }
theorem inX10_lead_10 : ∀ w ∈ wsX100, w ∈ wsX10_lead := fun _ h => List.mem_cons_of_mem _ (List.mem_append_right _ h)
set_option maxHeartbeats 4000000 in
set_option maxRecDepth 100000 in
theorem c_X10_lead (l : Launch) (K : rr_K) (om : Nat) (ad : Nat → Nat) (ns wl nf wd mt : Nat) (kF nF yF WD FL FW TD RW pl nw xt vF wF qF bY gF : Nat → Nat) (nm xm : Nat → Int64) (fR oF hF dF : Nat → Int32) (x al f y : Nat) (hx6 : x < 6) (hk4 : kF x ≤ 4) (hn : nF x ≤ 16) (hE : ∀ i, i < 64 → Es yF x i < 65536) (hf : f < 65536) (hy4 : y < 4) : MetP l K yX10_lead wsX10_lead rmX10_lead [.ref om, .int (nI x), .int (nI al), .int (nI f), .int (nI y)] (fun H => va_P K.1 vwCl (XM K om ad ns wl nf wd mt kF nF yF WD FL FW TD RW pl nw xt vF wF qF bY gF nm xm fR oF hF dF) H) (.int (nI (ldS (kF x) (nF x) (Es yF x) al f y))) := by
  refine metP_of (cc := cX10_lead) (maxL := 7) (ret := (some .int)) (rt := .int) (by decide) rfl rfl (Nat.le_of_ble_eq_true rfl) ?_
  intro p e s m args below meth c Q ls hEnt hKK hX hret hl
  obtain ⟨hx, hb, hml, hown, hts⟩ := hEnt
  have hP : va_P K.1 vwCl (XM K om ad ns wl nf wd mt kF nF yF WD FL FW TD RW pl nw xt vF wF qF bY gF nm xm fR oF hF dF) s.heap := hX
  have hl : lv_has ls 7 [(0, .ref om), (1, .int (nI x)), (2, .int (nI al)), (3, .int (nI f)), (4, .int (nI y))] := hl
  refine lv_iconst (v := nI 0) hx hb (pc := 0) dX10_lead_0 (by decide) ?_
  refine lv_istore (lv' := [(5, .int (nI 0)), (0, .ref om), (1, .int (nI x)), (2, .int (nI al)), (3, .int (nI f)), (4, .int (nI y))]) hx hb (pc := 1) dX10_lead_1 hl (by decide) rfl (fun ls hl => ?_)
  refine lv_iconst (v := nI 0) hx hb (pc := 3) dX10_lead_3 (by decide) ?_
  refine lv_istore (lv' := [(6, .int (nI 0)), (5, .int (nI 0)), (0, .ref om), (1, .int (nI x)), (2, .int (nI al)), (3, .int (nI f)), (4, .int (nI y))]) hx hb (pc := 4) dX10_lead_4 hl (by decide) rfl (fun ls hl => ?_)
  have L6 : ∀ (fz : Nat) (q : Nat) (hfz : nF x - q < fz) (hq : q ≤ nF x) (hq0 : y < kF x ∨ q = 0) (ls : Array Slot) (hl : lv_has ls 7 [(0, .ref om), (1, .int (nI x)), (2, .int (nI al)), (3, .int (nI f)), (4, .int (nI y)), (5, .int (nI (orN q (ldq f (Es yF x) y)))), (6, .int (nI q))]), W p l e rmX10_lead s m args below meth c s.heap [] 0 0 Q (F0 m 6 ls []) := by
    intro fz; induction fz with
    | zero => intro q hfz hq hq0 ls hl; exact absurd hfz (Nat.not_lt_zero _)
    | succ fz ih6 =>
      intro q hfz hq hq0 ls hl
      refine lv_iload hx hb (pc := 6) dX10_lead_6 (lv_at hl 6 rfl) ?_
      refine lv_aload_n hx hb (pc := 8) dX10_lead_8 rfl (lv_at hl 0 rfl) ?_
      refine va_get (v := .ref (ad 2)) hx hb hts (inX10_lead_10) hown hKK.1 hP 0 rfl rfl 2 (by decide) (hts _ (List.mem_of_getElem? (i := 1) (by decide +kernel))) (fun _ h9 => h9) rfl (pc := 9) dX10_lead_9 ?_
      refine lv_iload_n hx hb (pc := 12) dX10_lead_12 rfl (lv_at hl 1 rfl) ?_
      refine nv_iald (v := nI (nF x)) (i := x) hx hb hKK hP 2 rfl (by omega) (by decide) (rfl) (pc := 13) dX10_lead_13 ?_
      refine nv_icmp_ge (a := q) (b := (nF x)) (tgt := 66) hx hb (pc := 14) dX10_lead_14 (by decide) (by omega) (by omega) (fun c14 => ?_) (fun c14 => ?_)
      · refine lv_iload hx hb (pc := 66) dX10_lead_66 (lv_at hl 5 rfl) ?_
        refine lv_iload_n hx hb (pc := 68) dX10_lead_68 rfl (lv_at hl 2 rfl) ?_
        refine nv_iand (a := (orN q (ldq f (Es yF x) y))) (b := al) hx hb (pc := 69) dX10_lead_69 ?_
        exact hret.1 70 _ (nI ((orN q (ldq f (Es yF x) y)) &&& al)) dX10_lead_70 (by rw [ldS_eq (m := q) hq0 (by omega) hq]) (rfl)
      · refine lv_iload hx hb (pc := 17) dX10_lead_17 (lv_at hl 4 rfl) ?_
        refine lv_aload_n hx hb (pc := 19) dX10_lead_19 rfl (lv_at hl 0 rfl) ?_
        refine va_get (v := .ref (ad 1)) hx hb hts (inX10_lead_10) hown hKK.1 hP 0 rfl rfl 1 (by decide) (hts _ (List.mem_of_getElem? (i := 2) (by decide +kernel))) (fun _ h9 => h9) rfl (pc := 20) dX10_lead_20 ?_
        refine lv_iload_n hx hb (pc := 23) dX10_lead_23 rfl (lv_at hl 1 rfl) ?_
        refine nv_iald (v := nI (kF x)) (i := x) hx hb hKK hP 1 rfl (by omega) (by decide) (rfl) (pc := 24) dX10_lead_24 ?_
        refine nv_icmp_ge (a := y) (b := (kF x)) (tgt := 66) hx hb (pc := 25) dX10_lead_25 (by decide) (by omega) (by omega) (fun c25 => ?_) (fun c25 => ?_)
        · refine lv_iload hx hb (pc := 66) dX10_lead_66 (lv_at hl 5 rfl) ?_
          refine lv_iload_n hx hb (pc := 68) dX10_lead_68 rfl (lv_at hl 2 rfl) ?_
          refine nv_iand (a := (orN q (ldq f (Es yF x) y))) (b := al) hx hb (pc := 69) dX10_lead_69 ?_
          exact hret.1 70 _ (nI ((orN q (ldq f (Es yF x) y)) &&& al)) dX10_lead_70 (by rw [ldS_eq (m := q) hq0 (by omega) hq]) (rfl)
        · refine lv_iload hx hb (pc := 28) dX10_lead_28 (lv_at hl 5 rfl) ?_
          refine lv_iload_n hx hb (pc := 30) dX10_lead_30 rfl (lv_at hl 3 rfl) ?_
          refine lv_iload hx hb (pc := 31) dX10_lead_31 (lv_at hl 6 rfl) ?_
          refine nv_ishr (a := f) (b := q) hx hb (pc := 33) dX10_lead_33 (by omega) (by omega) ?_
          refine lv_iconst (v := nI 1) hx hb (pc := 34) dX10_lead_34 (by decide) ?_
          refine nv_bit (a := f) (q := q) hx hb (pc := 35) dX10_lead_35 ?_
          refine lv_iconst (v := nI 1) hx hb (pc := 36) dX10_lead_36 (by decide) ?_
          refine nv_icmp_ne_b1 (tgt := 56) hx hb (pc := 37) dX10_lead_37 (by decide) (fun c37 => ?_) (fun c37 => ?_)
          · refine lv_iconst (v := nI 0) hx hb (pc := 56) dX10_lead_56 (by decide) ?_
            refine nv_ior (a := (orN q (ldq f (Es yF x) y))) (b := 0) hx hb (pc := 57) dX10_lead_57 ?_
            refine lv_istore (lv' := [(5, .int (nI ((orN q (ldq f (Es yF x) y)) ||| 0))), (0, .ref om), (1, .int (nI x)), (2, .int (nI al)), (3, .int (nI f)), (4, .int (nI y)), (6, .int (nI q))]) hx hb (pc := 58) dX10_lead_58 hl (by decide) rfl (fun ls hl => ?_)
            refine lv_iinc (v := nI (q + 1)) (lv' := [(6, .int (nI (q + 1))), (5, .int (nI ((orN q (ldq f (Es yF x) y)) ||| 0))), (0, .ref om), (1, .int (nI x)), (2, .int (nI al)), (3, .int (nI f)), (4, .int (nI y))]) hx hb (pc := 60) dX10_lead_60 hl (k := 6) rfl (rr_inc _) (by decide) rfl (fun ls hl => ?_)
            refine lv_goto (tgt := 6) hx hb (pc := 63) dX10_lead_63 (by decide) ?_
            have hl : lv_has ls 7 [(6, .int (nI (q + 1))), (5, .int (nI (orN (q + 1) (ldq f (Es yF x) y)))), (0, .ref om), (1, .int (nI x)), (2, .int (nI al)), (3, .int (nI f)), (4, .int (nI y))] := by rw [show orN (q + 1) (ldq f (Es yF x) y) = (orN q (ldq f (Es yF x) y)) ||| 0 from by rw [orN_succ]; unfold ldq; first | (rw [if_pos c37]; done) | (rw [if_neg (by rw [c37]; decide)]; done)]; exact hl
            exact ih6 (q + 1) (by omega) (by omega) (Or.inl c25) ls (lv_sub hl [2, 3, 4, 5, 6, 1, 0] rfl)
          · refine lv_aload_n hx hb (pc := 40) dX10_lead_40 rfl (lv_at hl 0 rfl) ?_
            refine va_get (v := .ref (ad 3)) hx hb hts (inX10_lead_10) hown hKK.1 hP 0 rfl rfl 3 (by decide) (hts _ (List.mem_of_getElem? (i := 3) (by decide +kernel))) (fun _ h9 => h9) rfl (pc := 41) dX10_lead_41 ?_
            refine lv_iload_n hx hb (pc := 44) dX10_lead_44 rfl (lv_at hl 1 rfl) ?_
            refine lv_iload hx hb (pc := 45) dX10_lead_45 (lv_at hl 6 rfl) ?_
            refine lv_iload hx hb (pc := 47) dX10_lead_47 (lv_at hl 4 rfl) ?_
            refine rr_callP (rv := .int (nI (64 * x + (q * 4 + y)))) (pc := 49) (va_runS (As := [.int (nI x), .int (nI q), .int (nI y)]) (rest := [.ref (ad 3), .int (nI (orN q (ldq f (Es yF x) y)))]) ⟨hx, hb, hml, hown, hts⟩ (c_X10_at l K x q y) (cwS 3 hts gX10_lead_X10_at rfl rfl rfl (by decide +kernel) ⟨Nat.le_of_ble_eq_true rfl, Nat.le_of_ble_eq_true rfl⟩) (rr_preS hKK (trivial)) rfl rfl hl.1 rfl (lv_room (Nat.le_of_ble_eq_true rfl)) dX10_lead_49 ⟨Nat.le_refl _, Nat.le_refl _⟩) ?_
            refine nv_iald (v := nI (Es yF x (q * 4 + y))) (i := (64 * x + (q * 4 + y))) hx hb hKK hP 3 rfl (by omega) (by decide) (rfl) (pc := 52) dX10_lead_52 ?_
            refine lv_goto (tgt := 57) hx hb (pc := 53) dX10_lead_53 (by decide) ?_
            refine nv_ior (a := (orN q (ldq f (Es yF x) y))) (b := (Es yF x (q * 4 + y))) hx hb (pc := 57) dX10_lead_57 ?_
            refine lv_istore (lv' := [(5, .int (nI ((orN q (ldq f (Es yF x) y)) ||| (Es yF x (q * 4 + y))))), (0, .ref om), (1, .int (nI x)), (2, .int (nI al)), (3, .int (nI f)), (4, .int (nI y)), (6, .int (nI q))]) hx hb (pc := 58) dX10_lead_58 hl (by decide) rfl (fun ls hl => ?_)
            refine lv_iinc (v := nI (q + 1)) (lv' := [(6, .int (nI (q + 1))), (5, .int (nI ((orN q (ldq f (Es yF x) y)) ||| (Es yF x (q * 4 + y))))), (0, .ref om), (1, .int (nI x)), (2, .int (nI al)), (3, .int (nI f)), (4, .int (nI y))]) hx hb (pc := 60) dX10_lead_60 hl (k := 6) rfl (rr_inc _) (by decide) rfl (fun ls hl => ?_)
            refine lv_goto (tgt := 6) hx hb (pc := 63) dX10_lead_63 (by decide) ?_
            have hl : lv_has ls 7 [(6, .int (nI (q + 1))), (5, .int (nI (orN (q + 1) (ldq f (Es yF x) y)))), (0, .ref om), (1, .int (nI x)), (2, .int (nI al)), (3, .int (nI f)), (4, .int (nI y))] := by rw [show orN (q + 1) (ldq f (Es yF x) y) = (orN q (ldq f (Es yF x) y)) ||| (Es yF x (q * 4 + y)) from by rw [orN_succ]; unfold ldq; first | (rw [if_pos c37]; done) | (rw [if_neg (by rw [c37]; decide)]; done)]; exact hl
            exact ih6 (q + 1) (by omega) (by omega) (Or.inl c25) ls (lv_sub hl [2, 3, 4, 5, 6, 1, 0] rfl)
  have hl : lv_has ls 7 [(6, .int (nI 0)), (5, .int (nI (orN 0 (ldq f (Es yF x) y)))), (0, .ref om), (1, .int (nI x)), (2, .int (nI al)), (3, .int (nI f)), (4, .int (nI y))] := by rw [show orN 0 (ldq f (Es yF x) y) = 0 from rfl]; exact hl
  exact L6 (17) 0 (by omega) (Nat.zero_le _) (Or.inr rfl) ls (lv_sub hl [2, 3, 4, 5, 6, 1, 0] rfl)

