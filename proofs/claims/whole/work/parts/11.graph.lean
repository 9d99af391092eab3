abbrev rmX9_within : Room := { frames := 0, cells := 0, slots := 0, locals := 0 }
set_option maxHeartbeats 4000000 in
set_option maxRecDepth 100000 in
/-- within: whether a number is in its range -/
theorem c_X9_within (l : Launch) (K : rr_K) (x lo hi : Int32) : MetP l K yX9_within wsX9_within rmX9_within [.int x, .int lo, .int hi] (fun H => True) (.int (bI (rrin x lo hi))) := by
  refine metP_of (cc := cX9_within) (maxL := 3) (ret := (some .boolean)) (rt := .boolean) (by decide) rfl rfl (Nat.le_of_ble_eq_true rfl) ?_
  intro p e s m args below meth c Q ls hEnt hKK hX hret hl
  obtain ⟨hx, hb, hml, hown, hts⟩ := hEnt
  have hl : lv_has ls 3 [(0, .int x), (1, .int lo), (2, .int hi)] := hl
  refine lv_iload_n hx hb (pc := 0) dX9_within_0 rfl (lv_at hl 0 rfl) ?_
  refine lv_iload_n hx hb (pc := 1) dX9_within_1 rfl (lv_at hl 1 rfl) ?_
  refine lv_icmp_lt (tgt := 14) hx hb (pc := 2) dX9_within_2 (by decide) (fun c2 => ?_) (fun c2 => ?_)
  · refine lv_iconst (v := nI 0) hx hb (pc := 14) dX9_within_14 (by decide) ?_
    exact hret.1 15 _ (nI 0) dX9_within_15 (by simp [rrin, bI, *]) (by decide)
  · refine lv_iload_n hx hb (pc := 5) dX9_within_5 rfl (lv_at hl 0 rfl) ?_
    refine lv_iload_n hx hb (pc := 6) dX9_within_6 rfl (lv_at hl 2 rfl) ?_
    refine lv_icmp_gt (tgt := 14) hx hb (pc := 7) dX9_within_7 (by decide) (fun c7 => ?_) (fun c7 => ?_)
    · refine lv_iconst (v := nI 0) hx hb (pc := 14) dX9_within_14 (by decide) ?_
      exact hret.1 15 _ (nI 0) dX9_within_15 (by simp [rrin, bI, *]) (by decide)
    · refine lv_iconst (v := nI 1) hx hb (pc := 10) dX9_within_10 (by decide) ?_
      refine lv_goto (tgt := 15) hx hb (pc := 11) dX9_within_11 (by decide) ?_
      exact hret.1 15 _ (nI 1) dX9_within_15 (by simp [rrin, bI, *]) (by decide)

abbrev rmX1_isLive : Room := { frames := 0, cells := 0, slots := 0, locals := 0 }
theorem inX1_isLive_1 : ∀ w ∈ wsX10, w ∈ wsX1_isLive := fun _ h => List.mem_cons_of_mem _ (List.mem_append_right _ h)
set_option maxHeartbeats 4000000 in
set_option maxRecDepth 100000 in
theorem c_X1_isLive (l : Launch) (K : rr_K) (go ge gt k n gw al lw : Nat) (E T : Nat → Nat) (q : Nat) (hal : al < 65536) (hq : q < 16) : MetP l K yX1_isLive wsX1_isLive rmX1_isLive [.ref go, .int (nI q)] (fun H => va_P K.1 vwCl (GW K go ge gt k n gw al lw E T) H) (.int (bI (al.testBit q))) := by
  refine metP_of (cc := cX1_isLive) (maxL := 2) (ret := (some .boolean)) (rt := .boolean) (by decide) rfl rfl (Nat.le_of_ble_eq_true rfl) ?_
  intro p e s m args below meth c Q ls hEnt hKK hX hret hl
  obtain ⟨hx, hb, hml, hown, hts⟩ := hEnt
  have hP : va_P K.1 vwCl (GW K go ge gt k n gw al lw E T) s.heap := hX
  have hl : lv_has ls 2 [(0, .ref go), (1, .int (nI q))] := hl
  refine lv_aload_n hx hb (pc := 0) dX1_isLive_0 rfl (lv_at hl 0 rfl) ?_
  refine va_get (v := .int (nI al)) hx hb hts (inX1_isLive_1) hown hKK.1 hP 0 rfl rfl 3 (by decide) (hts _ (List.mem_of_getElem? (i := 1) (by decide +kernel))) (fun _ h9 => h9) rfl (pc := 1) dX1_isLive_1 ?_
  refine lv_iload_n hx hb (pc := 4) dX1_isLive_4 rfl (lv_at hl 1 rfl) ?_
  refine nv_ishr (a := al) (b := q) hx hb (pc := 5) dX1_isLive_5 (by omega) (by omega) ?_
  refine lv_iconst (v := nI 1) hx hb (pc := 6) dX1_isLive_6 (by decide) ?_
  refine nv_bit (a := al) (q := q) hx hb (pc := 7) dX1_isLive_7 ?_
  refine nv_if_eq_b (a := (al.testBit q)) (tgt := 15) hx hb (pc := 8) dX1_isLive_8 (by decide) (fun c8 => ?_) (fun c8 => ?_)
  · refine lv_iconst (v := nI 0) hx hb (pc := 15) dX1_isLive_15 (by decide) ?_
    exact hret.1 16 _ (nI 0) dX1_isLive_16 (by simp [bI, *]) (by decide)
  · refine lv_iconst (v := nI 1) hx hb (pc := 11) dX1_isLive_11 (by decide) ?_
    refine lv_goto (tgt := 16) hx hb (pc := 12) dX1_isLive_12 (by decide) ?_
    exact hret.1 16 _ (nI 1) dX1_isLive_16 (by simp [bI, *]) (by decide)

abbrev rmX1_hasState : Room := { frames := 1, cells := 0, slots := 0, locals := 22 }
theorem inX1_hasState_1 : ∀ w ∈ wsX10, w ∈ wsX1_hasState := fun _ h => List.mem_cons_of_mem _ (List.mem_append_right _ h)
set_option maxHeartbeats 4000000 in
set_option maxRecDepth 100000 in
theorem c_X1_hasState (l : Launch) (K : rr_K) (go ge gt k n gw al lw : Nat) (E T : Nat → Nat) (x : Int32) (hn : 0 < n) : MetP l K yX1_hasState wsX1_hasState rmX1_hasState [.ref go, .int x] (fun H => va_P K.1 vwCl (GW K go ge gt k n gw al lw E T) H) (.int (bI (rrin x (nI 0) (nI (n - 1))))) := by
  refine metP_of (cc := cX1_hasState) (maxL := 2) (ret := (some .boolean)) (rt := .boolean) (by decide) rfl rfl (Nat.le_of_ble_eq_true rfl) ?_
  intro p e s m args below meth c Q ls hEnt hKK hX hret hl
  obtain ⟨hx, hb, hml, hown, hts⟩ := hEnt
  have hP : va_P K.1 vwCl (GW K go ge gt k n gw al lw E T) s.heap := hX
  have hl : lv_has ls 2 [(0, .ref go), (1, .int x)] := hl
  refine lv_iload_n hx hb (pc := 0) dX1_hasState_0 rfl (lv_at hl 1 rfl) ?_
  refine lv_iconst (v := nI 0) hx hb (pc := 1) dX1_hasState_1 (by decide) ?_
  refine lv_aload_n hx hb (pc := 2) dX1_hasState_2 rfl (lv_at hl 0 rfl) ?_
  refine va_get (v := .int (nI n)) hx hb hts (inX1_hasState_1) hown hKK.1 hP 0 rfl rfl 1 (by decide) (hts _ (List.mem_of_getElem? (i := 1) (by decide +kernel))) (fun _ h9 => h9) rfl (pc := 3) dX1_hasState_3 ?_
  refine lv_iconst (v := nI 1) hx hb (pc := 6) dX1_hasState_6 (by decide) ?_
  refine nv_isub (a := n) (b := 1) hx hb (pc := 7) dX1_hasState_7 (by omega) ?_
  refine rr_callP (rv := .int (bI (rrin x (nI 0) (nI (n - 1))))) (pc := 8) (va_runSN (As := [.int x, .int (nI 0), .int (nI (n - 1))]) (rest := []) ⟨hx, hb, hml, hown, hts⟩ (c_X9_within l K x (nI 0) (nI (n - 1))) ⟨va_cnB 3 hts gX1_hasState_X9_within_n25 rfl rfl rfl (hKK.2 _ (List.mem_of_getElem? (i := 0) rfl)) (hts _ (List.mem_of_getElem? (i := 3) (by decide +kernel))) (by decide +kernel) ⟨Nat.le_of_ble_eq_true rfl, Nat.le_of_ble_eq_true rfl⟩, hts _ (List.mem_of_getElem? (i := 2) (by decide +kernel)), trivial⟩ (rr_preS hKK (trivial)) rfl rfl hl.1 rfl (lv_room (Nat.le_of_ble_eq_true rfl)) dX1_hasState_8 ⟨Nat.le_refl _, Nat.le_refl _⟩) ?_
  exact hret.1 11 _ (bI (rrin x (nI 0) (nI (n - 1)))) dX1_hasState_11 (by simp [bI, *]) (rr_narB _)

abbrev rmX1_hasWayNumbers : Room := { frames := 2, cells := 0, slots := 0, locals := 43 }
theorem inX1_hasWayNumbers_1 : ∀ w ∈ wsX10, w ∈ wsX1_hasWayNumbers := fun _ h => List.mem_cons_of_mem _ (List.mem_append_right _ h)
set_option maxHeartbeats 4000000 in
set_option maxRecDepth 100000 in
theorem c_X1_hasWayNumbers (l : Launch) (K : rr_K) (go ge gt k n gw al lw : Nat) (E T : Nat → Nat) (x y z : Int32) (hn : 0 < n) (hk : 0 < k) : MetP l K yX1_hasWayNumbers wsX1_hasWayNumbers rmX1_hasWayNumbers [.ref go, .int x, .int y, .int z] (fun H => va_P K.1 vwCl (GW K go ge gt k n gw al lw E T) H) (.int (bI (rrin x (nI 0) (nI (n - 1)) && (rrin y (nI 0) (nI (k - 1)) && rrin z (nI 0) (nI (n - 1)))))) := by
  refine metP_of (cc := cX1_hasWayNumbers) (maxL := 4) (ret := (some .boolean)) (rt := .boolean) (by decide) rfl rfl (Nat.le_of_ble_eq_true rfl) ?_
  intro p e s m args below meth c Q ls hEnt hKK hX hret hl
  obtain ⟨hx, hb, hml, hown, hts⟩ := hEnt
  have hP : va_P K.1 vwCl (GW K go ge gt k n gw al lw E T) s.heap := hX
  have hl : lv_has ls 4 [(0, .ref go), (1, .int x), (2, .int y), (3, .int z)] := hl
  refine lv_aload_n hx hb (pc := 0) dX1_hasWayNumbers_0 rfl (lv_at hl 0 rfl) ?_
  refine lv_iload_n hx hb (pc := 1) dX1_hasWayNumbers_1 rfl (lv_at hl 1 rfl) ?_
  refine rr_callP (rv := .int (bI (rrin x (nI 0) (nI (n - 1))))) (pc := 2) (va_runV (As := [.int x]) (rest := []) ⟨hx, hb, hml, hown, hts⟩ (c_X1_hasState l K go ge gt k n gw al lw E T x hn) (cwV 1 hts gX1_hasWayNumbers_X1_hasState rfl rfl rfl (by decide +kernel) ⟨Nat.le_of_ble_eq_true rfl, Nat.le_of_ble_eq_true rfl⟩) (rr_preV hKK (hP) (va_recv hKK.1 hP (ci := 1) (q0 := 0) rfl rfl)) rfl rfl hl.1 rfl (lv_room (Nat.le_of_ble_eq_true rfl)) dX1_hasWayNumbers_2 ⟨Nat.le_refl _, Nat.le_refl _⟩) ?_
  refine nv_if_eq_b (a := (rrin x (nI 0) (nI (n - 1)))) (tgt := 34) hx hb (pc := 5) dX1_hasWayNumbers_5 (by decide) (fun c5 => ?_) (fun c5 => ?_)
  · refine lv_iconst (v := nI 0) hx hb (pc := 34) dX1_hasWayNumbers_34 (by decide) ?_
    exact hret.1 35 _ (nI 0) dX1_hasWayNumbers_35 (by simp [bI, *]) (by decide)
  · refine lv_iload_n hx hb (pc := 8) dX1_hasWayNumbers_8 rfl (lv_at hl 2 rfl) ?_
    refine lv_iconst (v := nI 0) hx hb (pc := 9) dX1_hasWayNumbers_9 (by decide) ?_
    refine lv_aload_n hx hb (pc := 10) dX1_hasWayNumbers_10 rfl (lv_at hl 0 rfl) ?_
    refine va_get (v := .int (nI k)) hx hb hts (inX1_hasWayNumbers_1) hown hKK.1 hP 0 rfl rfl 0 (by decide) (hts _ (List.mem_of_getElem? (i := 1) (by decide +kernel))) (fun _ h9 => h9) rfl (pc := 11) dX1_hasWayNumbers_11 ?_
    refine lv_iconst (v := nI 1) hx hb (pc := 14) dX1_hasWayNumbers_14 (by decide) ?_
    refine nv_isub (a := k) (b := 1) hx hb (pc := 15) dX1_hasWayNumbers_15 (by omega) ?_
    refine rr_callP (rv := .int (bI (rrin y (nI 0) (nI (k - 1))))) (pc := 16) (va_runSN (As := [.int y, .int (nI 0), .int (nI (k - 1))]) (rest := []) ⟨hx, hb, hml, hown, hts⟩ (c_X9_within l K y (nI 0) (nI (k - 1))) ⟨va_cnB 3 hts gX1_hasWayNumbers_X9_within_n25 rfl rfl rfl (hKK.2 _ (List.mem_of_getElem? (i := 0) rfl)) (hts _ (List.mem_of_getElem? (i := 9) (by decide +kernel))) (by decide +kernel) ⟨Nat.le_of_ble_eq_true rfl, Nat.le_of_ble_eq_true rfl⟩, hts _ (List.mem_of_getElem? (i := 8) (by decide +kernel)), trivial⟩ (rr_preS hKK (trivial)) rfl rfl hl.1 rfl (lv_room (Nat.le_of_ble_eq_true rfl)) dX1_hasWayNumbers_16 ⟨Nat.le_refl _, Nat.le_refl _⟩) ?_
    refine nv_if_eq_b (a := (rrin y (nI 0) (nI (k - 1)))) (tgt := 34) hx hb (pc := 19) dX1_hasWayNumbers_19 (by decide) (fun c19 => ?_) (fun c19 => ?_)
    · refine lv_iconst (v := nI 0) hx hb (pc := 34) dX1_hasWayNumbers_34 (by decide) ?_
      exact hret.1 35 _ (nI 0) dX1_hasWayNumbers_35 (by simp [bI, *]) (by decide)
    · refine lv_aload_n hx hb (pc := 22) dX1_hasWayNumbers_22 rfl (lv_at hl 0 rfl) ?_
      refine lv_iload_n hx hb (pc := 23) dX1_hasWayNumbers_23 rfl (lv_at hl 3 rfl) ?_
      refine rr_callP (rv := .int (bI (rrin z (nI 0) (nI (n - 1))))) (pc := 24) (va_runV (As := [.int z]) (rest := []) ⟨hx, hb, hml, hown, hts⟩ (c_X1_hasState l K go ge gt k n gw al lw E T z hn) (cwV 1 hts gX1_hasWayNumbers_X1_hasState rfl rfl rfl (by decide +kernel) ⟨Nat.le_of_ble_eq_true rfl, Nat.le_of_ble_eq_true rfl⟩) (rr_preV hKK (hP) (va_recv hKK.1 hP (ci := 1) (q0 := 0) rfl rfl)) rfl rfl hl.1 rfl (lv_room (Nat.le_of_ble_eq_true rfl)) dX1_hasWayNumbers_24 ⟨Nat.le_refl _, Nat.le_refl _⟩) ?_
      refine nv_if_eq_b (a := (rrin z (nI 0) (nI (n - 1)))) (tgt := 34) hx hb (pc := 27) dX1_hasWayNumbers_27 (by decide) (fun c27 => ?_) (fun c27 => ?_)
      · refine lv_iconst (v := nI 0) hx hb (pc := 34) dX1_hasWayNumbers_34 (by decide) ?_
        exact hret.1 35 _ (nI 0) dX1_hasWayNumbers_35 (by simp [bI, *]) (by decide)
      · refine lv_iconst (v := nI 1) hx hb (pc := 30) dX1_hasWayNumbers_30 (by decide) ?_
        refine lv_goto (tgt := 35) hx hb (pc := 31) dX1_hasWayNumbers_31 (by decide) ?_
        exact hret.1 35 _ (nI 1) dX1_hasWayNumbers_35 (by simp [bI, *]) (by decide)

abbrev rmX1_leads : Room := { frames := 0, cells := 0, slots := 0, locals := 0 }
theorem inX1_leads_1 : ∀ w ∈ wsX10, w ∈ wsX1_leads := fun _ h => List.mem_cons_of_mem _ (List.mem_append_right _ h)
set_option maxHeartbeats 4000000 in
set_option maxRecDepth 100000 in
theorem c_X1_leads (l : Launch) (K : rr_K) (go ge gt k n gw al lw : Nat) (E T : Nat → Nat) (q y z : Nat) (hE : ∀ j, j < 64 → E j < 65536) (hq : q < 16) (hy : y < 4) (hz : z < 16) : MetP l K yX1_leads wsX1_leads rmX1_leads [.ref go, .int (nI q), .int (nI y), .int (nI z)] (fun H => va_P K.1 vwCl (GW K go ge gt k n gw al lw E T) H) (.int (bI ((E (q * 4 + y)).testBit z))) := by
  refine metP_of (cc := cX1_leads) (maxL := 4) (ret := (some .boolean)) (rt := .boolean) (by decide) rfl rfl (Nat.le_of_ble_eq_true rfl) ?_
  intro p e s m args below meth c Q ls hEnt hKK hX hret hl
  obtain ⟨hx, hb, hml, hown, hts⟩ := hEnt
  have hP : va_P K.1 vwCl (GW K go ge gt k n gw al lw E T) s.heap := hX
  have hl : lv_has ls 4 [(0, .ref go), (1, .int (nI q)), (2, .int (nI y)), (3, .int (nI z))] := hl
  have hE1 := hE (q * 4 + y) (by omega)
  refine lv_aload_n hx hb (pc := 0) dX1_leads_0 rfl (lv_at hl 0 rfl) ?_
  refine va_get (v := .ref ge) hx hb hts (inX1_leads_1) hown hKK.1 hP 0 rfl rfl 5 (by decide) (hts _ (List.mem_of_getElem? (i := 1) (by decide +kernel))) (fun _ h9 => h9) rfl (pc := 1) dX1_leads_1 ?_
  refine lv_iload_n hx hb (pc := 4) dX1_leads_4 rfl (lv_at hl 1 rfl) ?_
  refine lv_iconst (v := nI 4) hx hb (pc := 5) dX1_leads_5 (by decide) ?_
  refine nv_imul (a := q) (b := 4) hx hb (pc := 6) dX1_leads_6 ?_
  refine lv_iload_n hx hb (pc := 7) dX1_leads_7 rfl (lv_at hl 2 rfl) ?_
  refine nv_iadd (a := (q * 4)) (b := y) hx hb (pc := 8) dX1_leads_8 ?_
  refine nv_iald (v := nI (E ((q * 4) + y))) (i := ((q * 4) + y)) hx hb hKK hP 1 rfl (by omega) (by decide) (rfl) (pc := 9) dX1_leads_9 ?_
  refine lv_iload_n hx hb (pc := 10) dX1_leads_10 rfl (lv_at hl 3 rfl) ?_
  refine nv_ishr (a := (E ((q * 4) + y))) (b := z) hx hb (pc := 11) dX1_leads_11 (by omega) (by omega) ?_
  refine lv_iconst (v := nI 1) hx hb (pc := 12) dX1_leads_12 (by decide) ?_
  refine nv_bit (a := (E ((q * 4) + y))) (q := z) hx hb (pc := 13) dX1_leads_13 ?_
  refine nv_if_eq_b (a := ((E ((q * 4) + y)).testBit z)) (tgt := 21) hx hb (pc := 14) dX1_leads_14 (by decide) (fun c14 => ?_) (fun c14 => ?_)
  · refine lv_iconst (v := nI 0) hx hb (pc := 21) dX1_leads_21 (by decide) ?_
    exact hret.1 22 _ (nI 0) dX1_leads_22 (by simp [bI, *]) (by decide)
  · refine lv_iconst (v := nI 1) hx hb (pc := 17) dX1_leads_17 (by decide) ?_
    refine lv_goto (tgt := 22) hx hb (pc := 18) dX1_leads_18 (by decide) ?_
    exact hret.1 22 _ (nI 1) dX1_leads_22 (by simp [bI, *]) (by decide)

abbrev rmX1_liveEnds : Room := { frames := 1, cells := 0, slots := 0, locals := 21 }
theorem inX1_liveEnds_1 : ∀ w ∈ wsX10, w ∈ wsX1_liveEnds := fun _ h => List.mem_cons_of_mem _ (List.mem_append_right _ h)
set_option maxHeartbeats 4000000 in
set_option maxRecDepth 100000 in
theorem c_X1_liveEnds (l : Launch) (K : rr_K) (go ge gt k n gw al lw : Nat) (E T : Nat → Nat) (q y : Nat) (hal : al < 65536) (hq : q < 16) (hy : y < 4) : MetP l K yX1_liveEnds wsX1_liveEnds rmX1_liveEnds [.ref go, .int (nI q), .int (nI y)] (fun H => va_P K.1 vwCl (GW K go ge gt k n gw al lw E T) H) (.int (nI (lvE al E q y))) := by
  refine metP_of (cc := cX1_liveEnds) (maxL := 3) (ret := (some .int)) (rt := .int) (by decide) rfl rfl (Nat.le_of_ble_eq_true rfl) ?_
  intro p e s m args below meth c Q ls hEnt hKK hX hret hl
  obtain ⟨hx, hb, hml, hown, hts⟩ := hEnt
  have hP : va_P K.1 vwCl (GW K go ge gt k n gw al lw E T) s.heap := hX
  have hl : lv_has ls 3 [(0, .ref go), (1, .int (nI q)), (2, .int (nI y))] := hl
  refine lv_aload_n hx hb (pc := 0) dX1_liveEnds_0 rfl (lv_at hl 0 rfl) ?_
  refine lv_iload_n hx hb (pc := 1) dX1_liveEnds_1 rfl (lv_at hl 1 rfl) ?_
  refine rr_callP (rv := .int (bI (al.testBit q))) (pc := 2) (va_runV (As := [.int (nI q)]) (rest := []) ⟨hx, hb, hml, hown, hts⟩ (c_X1_isLive l K go ge gt k n gw al lw E T q hal hq) (cwV 1 hts gX1_liveEnds_X1_isLive rfl rfl rfl (by decide +kernel) ⟨Nat.le_of_ble_eq_true rfl, Nat.le_of_ble_eq_true rfl⟩) (rr_preV hKK (hP) (va_recv hKK.1 hP (ci := 1) (q0 := 0) rfl rfl)) rfl rfl hl.1 rfl (lv_room (Nat.le_of_ble_eq_true rfl)) dX1_liveEnds_2 ⟨Nat.le_refl _, Nat.le_refl _⟩) ?_
  refine nv_if_eq_b (a := (al.testBit q)) (tgt := 26) hx hb (pc := 5) dX1_liveEnds_5 (by decide) (fun c5 => ?_) (fun c5 => ?_)
  · refine lv_iconst (v := nI 0) hx hb (pc := 26) dX1_liveEnds_26 (by decide) ?_
    exact hret.1 27 _ (nI 0) dX1_liveEnds_27 (by simp [lvE, bI, *]) (rfl)
  · refine lv_aload_n hx hb (pc := 8) dX1_liveEnds_8 rfl (lv_at hl 0 rfl) ?_
    refine va_get (v := .ref ge) hx hb hts (inX1_liveEnds_1) hown hKK.1 hP 0 rfl rfl 5 (by decide) (hts _ (List.mem_of_getElem? (i := 1) (by decide +kernel))) (fun _ h9 => h9) rfl (pc := 9) dX1_liveEnds_9 ?_
    refine lv_iload_n hx hb (pc := 12) dX1_liveEnds_12 rfl (lv_at hl 1 rfl) ?_
    refine lv_iconst (v := nI 4) hx hb (pc := 13) dX1_liveEnds_13 (by decide) ?_
    refine nv_imul (a := q) (b := 4) hx hb (pc := 14) dX1_liveEnds_14 ?_
    refine lv_iload_n hx hb (pc := 15) dX1_liveEnds_15 rfl (lv_at hl 2 rfl) ?_
    refine nv_iadd (a := (q * 4)) (b := y) hx hb (pc := 16) dX1_liveEnds_16 ?_
    refine nv_iald (v := nI (E ((q * 4) + y))) (i := ((q * 4) + y)) hx hb hKK hP 1 rfl (by omega) (by decide) (rfl) (pc := 17) dX1_liveEnds_17 ?_
    refine lv_aload_n hx hb (pc := 18) dX1_liveEnds_18 rfl (lv_at hl 0 rfl) ?_
    refine va_get (v := .int (nI al)) hx hb hts (inX1_liveEnds_1) hown hKK.1 hP 0 rfl rfl 3 (by decide) (hts _ (List.mem_of_getElem? (i := 2) (by decide +kernel))) (fun _ h9 => h9) rfl (pc := 19) dX1_liveEnds_19 ?_
    refine nv_iand (a := (E ((q * 4) + y))) (b := al) hx hb (pc := 22) dX1_liveEnds_22 ?_
    refine lv_goto (tgt := 27) hx hb (pc := 23) dX1_liveEnds_23 (by decide) ?_
    exact hret.1 27 _ (nI ((E ((q * 4) + y)) &&& al)) dX1_liveEnds_27 (by simp [lvE, bI, *]) (rfl)

abbrev rmX1_liveOuts : Room := { frames := 2, cells := 0, slots := 0, locals := 43 }
theorem inX1_liveOuts_1 : ∀ w ∈ wsX10, w ∈ wsX1_liveOuts := fun _ h => List.mem_cons_of_mem _ (List.mem_append_right _ h)
set_option maxHeartbeats 4000000 in
set_option maxRecDepth 100000 in
theorem c_X1_liveOuts (l : Launch) (K : rr_K) (go ge gt k n gw al lw : Nat) (E T : Nat → Nat) (q : Nat) (hal : al < 65536) (hq : q < 16) (hk : k ≤ 4) : MetP l K yX1_liveOuts wsX1_liveOuts rmX1_liveOuts [.ref go, .int (nI q)] (fun H => va_P K.1 vwCl (GW K go ge gt k n gw al lw E T) H) (.int (nI (orN k (lvE al E q)))) := by
  refine metP_of (cc := cX1_liveOuts) (maxL := 4) (ret := (some .int)) (rt := .int) (by decide) rfl rfl (Nat.le_of_ble_eq_true rfl) ?_
  intro p e s m args below meth c Q ls hEnt hKK hX hret hl
  obtain ⟨hx, hb, hml, hown, hts⟩ := hEnt
  have hP : va_P K.1 vwCl (GW K go ge gt k n gw al lw E T) s.heap := hX
  have hl : lv_has ls 4 [(0, .ref go), (1, .int (nI q))] := hl
  refine lv_iconst (v := nI 0) hx hb (pc := 0) dX1_liveOuts_0 (by decide) ?_
  refine lv_istore_n (lv' := [(2, .int (nI 0)), (0, .ref go), (1, .int (nI q))]) hx hb (pc := 1) dX1_liveOuts_1 rfl hl (by decide) rfl (fun ls hl => ?_)
  refine lv_iconst (v := nI 0) hx hb (pc := 2) dX1_liveOuts_2 (by decide) ?_
  refine lv_istore_n (lv' := [(3, .int (nI 0)), (2, .int (nI 0)), (0, .ref go), (1, .int (nI q))]) hx hb (pc := 3) dX1_liveOuts_3 rfl hl (by decide) rfl (fun ls hl => ?_)
  have L4 : ∀ (fz : Nat) (i : Nat) (hfz : k - i < fz) (hi : i ≤ k) (ls : Array Slot) (hl : lv_has ls 4 [(0, .ref go), (1, .int (nI q)), (2, .int (nI (orN i (lvE al E q)))), (3, .int (nI i))]), W p l e rmX1_liveOuts s m args below meth c s.heap [] 0 0 Q (F0 m 4 ls []) := by
    intro fz; induction fz with
    | zero => intro i hfz hi ls hl; exact absurd hfz (Nat.not_lt_zero _)
    | succ fz ih4 =>
      intro i hfz hi ls hl
      refine lv_iload_n hx hb (pc := 4) dX1_liveOuts_4 rfl (lv_at hl 3 rfl) ?_
      refine lv_aload_n hx hb (pc := 5) dX1_liveOuts_5 rfl (lv_at hl 0 rfl) ?_
      refine va_get (v := .int (nI k)) hx hb hts (inX1_liveOuts_1) hown hKK.1 hP 0 rfl rfl 0 (by decide) (hts _ (List.mem_of_getElem? (i := 1) (by decide +kernel))) (fun _ h9 => h9) rfl (pc := 6) dX1_liveOuts_6 ?_
      refine nv_icmp_ge (a := i) (b := k) (tgt := 27) hx hb (pc := 9) dX1_liveOuts_9 (by decide) (by omega) (by omega) (fun c9 => ?_) (fun c9 => ?_)
      · refine lv_iload_n hx hb (pc := 27) dX1_liveOuts_27 rfl (lv_at hl 2 rfl) ?_
        obtain rfl : i = k := by omega
        exact hret.1 28 _ (nI (orN i (lvE al E q))) dX1_liveOuts_28 (rfl) (rfl)
      · refine lv_iload_n hx hb (pc := 12) dX1_liveOuts_12 rfl (lv_at hl 2 rfl) ?_
        refine lv_aload_n hx hb (pc := 13) dX1_liveOuts_13 rfl (lv_at hl 0 rfl) ?_
        refine lv_iload_n hx hb (pc := 14) dX1_liveOuts_14 rfl (lv_at hl 1 rfl) ?_
        refine lv_iload_n hx hb (pc := 15) dX1_liveOuts_15 rfl (lv_at hl 3 rfl) ?_
        refine rr_callP (rv := .int (nI (lvE al E q i))) (pc := 16) (va_runV (As := [.int (nI q), .int (nI i)]) (rest := [.int (nI (orN i (lvE al E q)))]) ⟨hx, hb, hml, hown, hts⟩ (c_X1_liveEnds l K go ge gt k n gw al lw E T q i hal hq (by omega)) (cwV 2 hts gX1_liveOuts_X1_liveEnds rfl rfl rfl (by decide +kernel) ⟨Nat.le_of_ble_eq_true rfl, Nat.le_of_ble_eq_true rfl⟩) (rr_preV hKK (hP) (va_recv hKK.1 hP (ci := 1) (q0 := 0) rfl rfl)) rfl rfl hl.1 rfl (lv_room (Nat.le_of_ble_eq_true rfl)) dX1_liveOuts_16 ⟨Nat.le_refl _, Nat.le_refl _⟩) ?_
        refine nv_ior (a := (orN i (lvE al E q))) (b := (lvE al E q i)) hx hb (pc := 19) dX1_liveOuts_19 ?_
        refine lv_istore_n (lv' := [(2, .int (nI ((orN i (lvE al E q)) ||| (lvE al E q i)))), (0, .ref go), (1, .int (nI q)), (3, .int (nI i))]) hx hb (pc := 20) dX1_liveOuts_20 rfl hl (by decide) rfl (fun ls hl => ?_)
        refine lv_iinc (v := nI (i + 1)) (lv' := [(3, .int (nI (i + 1))), (2, .int (nI ((orN i (lvE al E q)) ||| (lvE al E q i)))), (0, .ref go), (1, .int (nI q))]) hx hb (pc := 21) dX1_liveOuts_21 hl (k := 3) rfl (rr_inc _) (by decide) rfl (fun ls hl => ?_)
        refine lv_goto (tgt := 4) hx hb (pc := 24) dX1_liveOuts_24 (by decide) ?_
        exact ih4 (i + 1) (by omega) (by omega) ls (lv_sub hl [2, 3, 1, 0] rfl)
  exact L4 (k + 1) 0 (by omega) (by omega) ls (lv_sub hl [2, 3, 1, 0] rfl)

