abbrev rmX7_countRows : Room := { frames := 3, cells := 0, slots := 0, locals := 68 }
theorem inX7_countRows_1 : ∀ w ∈ wsX10, w ∈ wsX7_countRows := fun _ h => List.mem_cons_of_mem _ (List.mem_append_right _ h)
theorem inX7_countRows_7 : ∀ w ∈ wsX70, w ∈ wsX7_countRows := fun _ h => List.mem_cons_of_mem _ (List.mem_append_left _ (List.mem_append_right _ h))
set_option maxHeartbeats 4000000 in
set_option maxRecDepth 100000 in
theorem c_X7_countRows (l : Launch) (K : rr_K) (A : Nat → Prop) (xo xs xa xb xv xw : Nat) (sF rF pF vF bF : Nat → Nat) (go ge gt k n gw al lw : Nat) (E T : Nat → Nat) (nn : Nat) (hk4 : k ≤ 4) (hn : n ≤ 16) (hal : al < 65536) (h1n : 1 ≤ nn) (hnn : nn ≤ 1000) (hD : va_D A (XW7 K xo xs xa xb xv xw sF rF pF vF bF)) (hGA : ∀ (k_ : Nat) (q_ : Nat × va_E), (GW K go ge gt k n gw al lw E T)[k_]? = some q_ → ¬ A q_.1) : MetV l K yX7_countRows wsX7_countRows rmX7_countRows [.ref xo, .ref go, .int (nI nn)] (fun H => va_P K.1 vwCl (XW7 K xo xs xa xb xv xw sF rF pF vF bF) H ∧ va_P K.1 vwCl (GW K go ge gt k n gw al lw E T) H) A (fun H => ∃ xa' xb' sF' rF' pF', (∀ i j, i < n → j < n → rF' (i * 16 + j) = pwS n (aMy al E k) (nn - 1) i j) ∧ va_P K.1 vwCl (XW7 K xo xs xa' xb' xv xw sF' rF' pF' vF bF) H ∧ va_D A (XW7 K xo xs xa' xb' xv xw sF' rF' pF' vF bF)) 0 0 := by
  refine metV_of (cc := cX7_countRows) (maxL := 4) (by decide) rfl rfl rfl (Nat.le_of_ble_eq_true rfl) ?_
  intro p e s m args below meth c Q ls hEnt hin hKK hX hret hl
  obtain ⟨hx, hb, hml, hown, hts⟩ := hEnt
  obtain ⟨hP, hG⟩ := hX
  have hP : va_P K.1 vwCl (XW7 K xo xs xa xb xv xw sF rF pF vF bF) s.heap := hP
  have hG : va_P K.1 vwCl (GW K go ge gt k n gw al lw E T) s.heap := hG
  have hl : lv_has ls 4 [(0, .ref xo), (1, .ref go), (2, .int (nI nn))] := hl
  have hS : va_S A s.heap s.heap [] := va_S.rf
  refine lv_aload_n hx hb (pc := 0) dX7_countRows_0 rfl (lv_at hl 0 rfl) ?_
  refine lv_aload_n hx hb (pc := 1) dX7_countRows_1 rfl (lv_at hl 1 rfl) ?_
  refine rr_callV (pc := 2) (va_runV (As := [.ref go]) (rest := []) ⟨hx, hb, hml, hown, hts⟩ (c_X7_countSingle l K A xo xs xa xb xv xw sF rF pF vF bF go ge gt k n gw al lw E T hk4 hn hal hD hGA) (cwV 1 hts gX7_countRows_X7_countSingle rfl rfl rfl (by decide +kernel) ⟨Nat.le_of_ble_eq_true rfl, Nat.le_of_ble_eq_true rfl⟩) (rr_preV hKK (⟨hP, hG⟩) (va_recv hKK.1 hP (ci := 7) (q0 := 0) rfl rfl)) rfl rfl hl.1 rfl (lv_room (Nat.le_of_ble_eq_true rfl)) dX7_countRows_2 ⟨by omega, by omega⟩) hS (fun _ h => h) (fun H locs hY hsz hfr hS => ?_)
  obtain ⟨sF', hs', hP⟩ := hY
  have hD : va_D A (XW7 K xo xs xa xb xv xw sF' rF pF vF bF) := rr_D hD rfl
  have hP : va_P K.1 vwCl (XW7 K xo xs xa xb xv xw sF' rF pF vF bF) H := hP
  refine lv_aload_n hx hb (pc := 5) dX7_countRows_5 rfl (lv_at hl 0 rfl) ?_
  refine va_get (v := .ref xs) hx hb hts (inX7_countRows_7) hown hKK.1 hP 0 rfl rfl 0 (by decide) (hts _ (List.mem_of_getElem? (i := 1) (by decide +kernel))) (fun _ h9 => h9) rfl (pc := 6) dX7_countRows_6 ?_
  refine lv_iconst (v := nI 0) hx hb (pc := 9) dX7_countRows_9 (by decide) ?_
  refine lv_aload_n hx hb (pc := 10) dX7_countRows_10 rfl (lv_at hl 0 rfl) ?_
  refine va_get (v := .ref xa) hx hb hts (inX7_countRows_7) hown hKK.1 hP 0 rfl rfl 1 (by decide) (hts _ (List.mem_of_getElem? (i := 2) (by decide +kernel))) (fun _ h9 => h9) rfl (pc := 11) dX7_countRows_11 ?_
  refine lv_iconst (v := nI 0) hx hb (pc := 14) dX7_countRows_14 (by decide) ?_
  refine lv_aload_n hx hb (pc := 15) dX7_countRows_15 rfl (lv_at hl 0 rfl) ?_
  refine va_get (v := .ref xa) hx hb hts (inX7_countRows_7) hown hKK.1 hP 0 rfl rfl 1 (by decide) (hts _ (List.mem_of_getElem? (i := 2) (by decide +kernel))) (fun _ h9 => h9) rfl (pc := 16) dX7_countRows_16 ?_
  refine va_alen (v := nI 256) hx hb hKK.1 hP 2 1 rfl rfl rfl (pc := 19) dX7_countRows_19 ?_
  refine nv_copyl (sp := 0) (dp := 0) (n := 256) (ws' := [(xo, .inr (7, [.ref xs, .ref xa, .ref xb, .ref xv, .ref xw])), (xs, .inl (K.2.2.1, 256, .inr (.inl (fun j => lN (sF' j))))), (xa, .inl (K.2.2.1, 256, .inr (.inl ((va_cpy (fun j => lN (sF' j)) (fun j => lN (rF j)) 0 0 256))))), (xb, .inl (K.2.2.1, 256, .inr (.inl (fun j => lN (pF j))))), (xv, .inl (K.2.2.1, 16, .inr (.inl (fun j => lN (vF j))))), (xw, .inl (K.2.2.1, 16, .inr (.inl (fun j => lN (bF j)))))]) hx hb (hml.trans hl.1.symm) hown (hts _ (List.mem_of_getElem? (i := 3) (by decide +kernel))) (hts _ (List.mem_of_getElem? (i := 4) (by decide +kernel))) (hts _ (List.mem_of_getElem? (i := 5) (by decide +kernel))) (hts _ (List.mem_of_getElem? (i := 6) (by decide +kernel))) hKK hP hD hS 1 2 rfl rfl (by omega) (by omega) (by omega) (by omega) (by omega) (Nat.le_of_ble_eq_true rfl) (Nat.le_of_ble_eq_true rfl) rfl (pc := 20) dX7_countRows_20 (fun H locs hP hD hS => ?_)
  rw [va_cpyN] at hP hD
  have hP : va_P K.1 vwCl (XW7 K xo xs xa xb xv xw sF' (va_cpy sF' rF 0 0 256) pF vF bF) H := hP
  have hD : va_D A (XW7 K xo xs xa xb xv xw sF' (va_cpy sF' rF 0 0 256) pF vF bF) := hD
  have hr0 : ∀ i j, i < n → j < n → va_cpy sF' rF 0 0 256 (i * 16 + j) = pwS n (aMy al E k) 0 i j := fun i j hi hj => by
    rw [cpy_in (by omega), hs' i j hi hj]
    rfl
  refine lv_iconst (v := nI 1) hx hb (pc := 23) dX7_countRows_23 (by decide) ?_
  refine lv_istore_n (lv' := [(3, .int (nI 1)), (0, .ref xo), (1, .ref go), (2, .int (nI nn))]) hx hb (pc := 24) dX7_countRows_24 rfl hl (by decide) rfl (fun ls hl => ?_)
  have L25 : ∀ (fz : Nat) (q : Nat) (xa1 : Nat) (xb1 : Nat) (rF1 : Nat → Nat) (pF1 : Nat → Nat) (H : Heap) (locs : List Loc) (hP : va_P K.1 vwCl (XW7 K xo xs xa1 xb1 xv xw sF' rF1 pF1 vF bF) H) (hD : va_D A (XW7 K xo xs xa1 xb1 xv xw sF' rF1 pF1 vF bF)) (hS : va_S A s.heap H locs) (hfz : nn - q < fz) (hq : q ≤ nn) (hq1 : 1 ≤ q) (hr1 : ∀ i j, i < n → j < n → rF1 (i * 16 + j) = pwS n (aMy al E k) (q - 1) i j) (ls : Array Slot) (hl : lv_has ls 4 [(0, .ref xo), (1, .ref go), (2, .int (nI nn)), (3, .int (nI q))]), W p l e rmX7_countRows s m args below meth c H locs 0 0 Q (F0 m 25 ls []) := by
    intro fz; induction fz with
    | zero => intro q xa1 xb1 rF1 pF1 H locs hP hD hS hfz hq hq1 hr1 ls hl; exact absurd hfz (Nat.not_lt_zero _)
    | succ fz ih25 =>
      intro q xa1 xb1 rF1 pF1 H locs hP hD hS hfz hq hq1 hr1 ls hl
      refine lv_iload_n hx hb (pc := 25) dX7_countRows_25 rfl (lv_at hl 3 rfl) ?_
      refine lv_iload_n hx hb (pc := 26) dX7_countRows_26 rfl (lv_at hl 2 rfl) ?_
      refine nv_icmp_ge (a := q) (b := nn) (tgt := 44) hx hb (pc := 27) dX7_countRows_27 (by decide) (by omega) (by omega) (fun c27 => ?_) (fun c27 => ?_)
      · have e9 : q = nn := by omega
        exact hret _ _ 0 0 44 _ dX7_countRows_44 (by omega) (by omega) hS (⟨_, _, _, _, _, fun i j hi hj => by rw [hr1 i j hi hj, e9], hP, hD⟩)
      · refine lv_aload_n hx hb (pc := 30) dX7_countRows_30 rfl (lv_at hl 0 rfl) ?_
        refine lv_aload_n hx hb (pc := 31) dX7_countRows_31 rfl (lv_at hl 1 rfl) ?_
        refine va_get (v := .int (nI n)) hx hb hts (inX7_countRows_1) hown hKK.1 (rr_ro (A := A) hG hGA hS) 0 rfl rfl 1 (by decide) (hts _ (List.mem_of_getElem? (i := 7) (by decide +kernel))) (fun _ h9 => h9) rfl (pc := 32) dX7_countRows_32 ?_
        refine rr_callV (pc := 35) (va_runV (As := [.int (nI n)]) (rest := []) ⟨hx, hb, hml, hown, hts⟩ (c_X7_lengthen l K A xo xs xa1 xb1 xv xw sF' rF1 pF1 vF bF n hn hD) (cwV 1 hts gX7_countRows_X7_lengthen rfl rfl rfl (by decide +kernel) ⟨Nat.le_of_ble_eq_true rfl, Nat.le_of_ble_eq_true rfl⟩) (rr_preV hKK (hP) (va_recv hKK.1 hP (ci := 7) (q0 := 0) rfl rfl)) rfl rfl hl.1 rfl (lv_room (Nat.le_of_ble_eq_true rfl)) dX7_countRows_35 ⟨by omega, by omega⟩) hS (fun _ h => h) (fun H locs hY hsz hfr hS => ?_)
        obtain ⟨pF', hp', hP, hD⟩ := hY
        have hD : va_D A (XW7 K xo xs xb1 xa1 xv xw sF' pF' rF1 vF bF) := hD
        have hP : va_P K.1 vwCl (XW7 K xo xs xb1 xa1 xv xw sF' pF' rF1 vF bF) H := hP
        refine lv_iinc (v := nI (q + 1)) (lv' := [(3, .int (nI (q + 1))), (0, .ref xo), (1, .ref go), (2, .int (nI nn))]) hx hb (pc := 38) dX7_countRows_38 hl (k := 3) rfl (rr_inc _) (by decide) rfl (fun ls hl => ?_)
        refine lv_goto (tgt := 25) hx hb (pc := 41) dX7_countRows_41 (by decide) ?_
        have hr2 : ∀ i j, i < n → j < n → pF' (i * 16 + j) = pwS n (aMy al E k) (q + 1 - 1) i j := fun i j hi hj => by
          rw [hp' i j hi hj, show q + 1 - 1 = q - 1 + 1 by omega, pwS_succ]
          exact sN_congr (fun o ho => by rw [hr1 i o hi ho, hs' o j ho hj])
        exact ih25 (q + 1) xb1 xa1 pF' rF1 _ _ hP hD hS (by omega) (by omega) (by omega) (hr2) ls (lv_sub hl [1, 2, 3, 0] rfl)
  exact L25 (nn) 1 xa xb (va_cpy sF' rF 0 0 256) pF _ _ hP hD hS (by omega) (by omega) (by omega) (hr0) ls (lv_sub hl [1, 2, 3, 0] rfl)

abbrev rmX7_closed : Room := { frames := 4, cells := 0, slots := 0, locals := 91 }
theorem inX7_closed_1 : ∀ w ∈ wsX10, w ∈ wsX7_closed := fun _ h => List.mem_cons_of_mem _ (List.mem_append_left _ (List.mem_append_right _ h))
theorem inX7_closed_7 : ∀ w ∈ wsX70, w ∈ wsX7_closed := fun _ h => List.mem_cons_of_mem _ (List.mem_append_right _ h)
set_option maxHeartbeats 4000000 in
set_option maxRecDepth 100000 in
theorem c_X7_closed (l : Launch) (K : rr_K) (A : Nat → Prop) (xo xs xa xb xv xw : Nat) (sF rF pF vF bF : Nat → Nat) (go ge gt k n gw al lw : Nat) (E T : Nat → Nat) (nn : Nat) (hk4 : k ≤ 4) (hn : n ≤ 16) (hal : al < 65536) (h1n : 1 ≤ nn) (hnn : nn ≤ 1000) (hD : va_D A (XW7 K xo xs xa xb xv xw sF rF pF vF bF)) (hGA : ∀ (k_ : Nat) (q_ : Nat × va_E), (GW K go ge gt k n gw al lw E T)[k_]? = some q_ → ¬ A q_.1) : MetR l K yX7_closed wsX7_closed rmX7_closed [.ref xo, .ref go, .int (nI nn)] (fun H => va_P K.1 vwCl (XW7 K xo xs xa xb xv xw sF rF pF vF bF) H ∧ va_P K.1 vwCl (GW K go ge gt k n gw al lw E T) H) A (fun v H => v = .long (lN (sN n (fun q => pwS n (aMy al E k) (nn - 1) q q))) ∧ ∃ xa' xb' sF' rF' pF', va_P K.1 vwCl (XW7 K xo xs xa' xb' xv xw sF' rF' pF' vF bF) H ∧ va_D A (XW7 K xo xs xa' xb' xv xw sF' rF' pF' vF bF)) 0 0 := by
  refine metR_of (cc := cX7_closed) (maxL := 6) (ret := (some .long)) (rt := .long) (by decide) rfl rfl rfl rfl (Nat.le_of_ble_eq_true rfl) ?_
  intro p e s m args below meth c Q ls hEnt hKK hX hret hl
  obtain ⟨hx, hb, hml, hown, hts⟩ := hEnt
  obtain ⟨hP, hG⟩ := hX
  have hP : va_P K.1 vwCl (XW7 K xo xs xa xb xv xw sF rF pF vF bF) s.heap := hP
  have hG : va_P K.1 vwCl (GW K go ge gt k n gw al lw E T) s.heap := hG
  have hl : lv_has ls 6 [(0, .ref xo), (1, .ref go), (2, .int (nI nn))] := hl
  have hS : va_S A s.heap s.heap [] := va_S.rf
  refine lv_aload_n hx hb (pc := 0) dX7_closed_0 rfl (lv_at hl 0 rfl) ?_
  refine lv_aload_n hx hb (pc := 1) dX7_closed_1 rfl (lv_at hl 1 rfl) ?_
  refine lv_iload_n hx hb (pc := 2) dX7_closed_2 rfl (lv_at hl 2 rfl) ?_
  refine rr_callV (pc := 3) (va_runV (As := [.ref go, .int (nI nn)]) (rest := []) ⟨hx, hb, hml, hown, hts⟩ (c_X7_countRows l K A xo xs xa xb xv xw sF rF pF vF bF go ge gt k n gw al lw E T nn hk4 hn hal (by omega) (by omega) hD hGA) (cwV 2 hts gX7_closed_X7_countRows rfl rfl rfl (by decide +kernel) ⟨Nat.le_of_ble_eq_true rfl, Nat.le_of_ble_eq_true rfl⟩) (rr_preV hKK (⟨hP, hG⟩) (va_recv hKK.1 hP (ci := 7) (q0 := 0) rfl rfl)) rfl rfl hl.1 rfl (lv_room (Nat.le_of_ble_eq_true rfl)) dX7_closed_3 ⟨by omega, by omega⟩) hS (fun _ h => h) (fun H locs hY hsz hfr hS => ?_)
  obtain ⟨xa', xb', sF', rF', pF', hr', hP, hD⟩ := hY
  have hD : va_D A (XW7 K xo xs xa' xb' xv xw sF' rF' pF' vF bF) := hD
  have hP : va_P K.1 vwCl (XW7 K xo xs xa' xb' xv xw sF' rF' pF' vF bF) H := hP
  refine lv_lconst (v := lN 0) hx hb (pc := 6) dX7_closed_6 (by decide) ?_
  refine lv_lstore_n (lv' := [(3, .long (lN (0))), (0, .ref xo), (1, .ref go), (2, .int (nI nn))]) hx hb (pc := 7) dX7_closed_7 rfl hl (by decide) rfl (fun ls hl => ?_)
  refine lv_iconst (v := nI 0) hx hb (pc := 8) dX7_closed_8 (by decide) ?_
  refine lv_istore (lv' := [(5, .int (nI 0)), (3, .long (lN (0))), (0, .ref xo), (1, .ref go), (2, .int (nI nn))]) hx hb (pc := 9) dX7_closed_9 hl (by decide) rfl (fun ls hl => ?_)
  have L11 : ∀ (fz : Nat) (q : Nat) (H : Heap) (locs : List Loc) (hP : va_P K.1 vwCl (XW7 K xo xs xa' xb' xv xw sF' rF' pF' vF bF) H) (hD : va_D A (XW7 K xo xs xa' xb' xv xw sF' rF' pF' vF bF)) (hS : va_S A s.heap H locs) (hfz : n - q < fz) (hq : q ≤ n) (ls : Array Slot) (hl : lv_has ls 6 [(0, .ref xo), (1, .ref go), (3, .long (lN (sN q (fun q => rF' (q * 16 + q))))), (5, .int (nI q))]), W p l e rmX7_closed s m args below meth c H locs 0 0 Q (F0 m 11 ls []) := by
    intro fz; induction fz with
    | zero => intro q H locs hP hD hS hfz hq ls hl; exact absurd hfz (Nat.not_lt_zero _)
    | succ fz ih11 =>
      intro q H locs hP hD hS hfz hq ls hl
      refine lv_iload hx hb (pc := 11) dX7_closed_11 (lv_at hl 3 rfl) ?_
      refine lv_aload_n hx hb (pc := 13) dX7_closed_13 rfl (lv_at hl 1 rfl) ?_
      refine va_get (v := .int (nI n)) hx hb hts (inX7_closed_1) hown hKK.1 (rr_ro (A := A) hG hGA hS) 0 rfl rfl 1 (by decide) (hts _ (List.mem_of_getElem? (i := 1) (by decide +kernel))) (fun _ h9 => h9) rfl (pc := 14) dX7_closed_14 ?_
      refine nv_icmp_ge (a := q) (b := n) (tgt := 42) hx hb (pc := 17) dX7_closed_17 (by decide) (by omega) (by omega) (fun c17 => ?_) (fun c17 => ?_)
      · refine lv_lload_n hx hb (pc := 42) dX7_closed_42 rfl (lv_at hl 2 rfl) ?_
        have e9 : q = n := by omega
        exact hret.2.1 _ _ 0 0 43 _ (lN (sN q (fun q => rF' (q * 16 + q)))) dX7_closed_43 (by omega) (by omega) hS (⟨by rw [e9, sN_congr (fun i hi => hr' i i hi hi)], _, _, _, _, _, hP, hD⟩) rfl
      · refine lv_lload_n hx hb (pc := 20) dX7_closed_20 rfl (lv_at hl 2 rfl) ?_
        refine lv_aload_n hx hb (pc := 21) dX7_closed_21 rfl (lv_at hl 0 rfl) ?_
        refine va_get (v := .ref xa') hx hb hts (inX7_closed_7) hown hKK.1 hP 0 rfl rfl 1 (by decide) (hts _ (List.mem_of_getElem? (i := 2) (by decide +kernel))) (fun _ h9 => h9) rfl (pc := 22) dX7_closed_22 ?_
        refine lv_iload hx hb (pc := 25) dX7_closed_25 (lv_at hl 3 rfl) ?_
        refine lv_bipush (v := nI 16) hx hb (pc := 27) dX7_closed_27 (by decide) ?_
        refine nv_imul (a := q) (b := 16) hx hb (pc := 29) dX7_closed_29 ?_
        refine lv_iload hx hb (pc := 30) dX7_closed_30 (lv_at hl 3 rfl) ?_
        refine nv_iadd (a := (q * 16)) (b := q) hx hb (pc := 32) dX7_closed_32 ?_
        refine nv_lald (v := lN (rF' ((q * 16) + q))) (i := ((q * 16) + q)) hx hb hKK hP 2 rfl (by omega) (by decide) (rfl) (pc := 33) dX7_closed_33 ?_
        refine nv_ladd (a := (sN q (fun q => rF' (q * 16 + q)))) (b := (rF' ((q * 16) + q))) hx hb (pc := 34) dX7_closed_34 ?_
        refine lv_lstore_n (lv' := [(3, .long (lN ((sN q (fun q => rF' (q * 16 + q))) + (rF' ((q * 16) + q))))), (0, .ref xo), (1, .ref go), (5, .int (nI q))]) hx hb (pc := 35) dX7_closed_35 rfl hl (by decide) rfl (fun ls hl => ?_)
        refine lv_iinc (v := nI (q + 1)) (lv' := [(5, .int (nI (q + 1))), (3, .long (lN ((sN q (fun q => rF' (q * 16 + q))) + (rF' ((q * 16) + q))))), (0, .ref xo), (1, .ref go)]) hx hb (pc := 36) dX7_closed_36 hl (k := 3) rfl (rr_inc _) (by decide) rfl (fun ls hl => ?_)
        refine lv_goto (tgt := 11) hx hb (pc := 39) dX7_closed_39 (by decide) ?_
        have hl : lv_has ls 6 [(5, .int (nI (q + 1))), (3, .long (lN (sN (q + 1) (fun q => rF' (q * 16 + q))))), (0, .ref xo), (1, .ref go)] := by rw [show sN (q + 1) (fun q => rF' (q * 16 + q)) = (sN q (fun q => rF' (q * 16 + q))) + (rF' ((q * 16) + q)) from rfl]; exact hl
        exact ih11 (q + 1) _ _ hP hD hS (by omega) (by omega) ls (lv_sub hl [2, 3, 1, 0] rfl)
  have hl : lv_has ls 6 [(5, .int (nI 0)), (3, .long (lN (sN 0 (fun q => rF' (q * 16 + q))))), (0, .ref xo), (1, .ref go), (2, .int (nI nn))] := by rw [show sN 0 (fun q => rF' (q * 16 + q)) = 0 from rfl]; exact hl
  exact L11 (17) 0 _ _ hP hD hS (by omega) (Nat.zero_le _) ls (lv_sub hl [2, 3, 1, 0] rfl)

abbrev rmX7_sideOf : Room := { frames := 0, cells := 0, slots := 0, locals := 0 }
set_option maxHeartbeats 4000000 in
set_option maxRecDepth 100000 in
theorem c_X7_sideOf (l : Launch) (K : rr_K) (aa bb cc dd : Nat) (haa : aa < 2 ^ 63) (hbb : bb < 2 ^ 63) (hcc : cc < 2 ^ 63) (hdd : dd < 2 ^ 63) : MetP l K yX7_sideOf wsX7_sideOf rmX7_sideOf [.long (lN (aa)), .long (lN (bb)), .long (lN (cc)), .long (lN (dd))] (fun H => True) (.int (sd aa bb cc dd)) := by
  refine metP_of (cc := cX7_sideOf) (maxL := 20) (ret := (some .int)) (rt := .int) (by decide) rfl rfl (Nat.le_of_ble_eq_true rfl) ?_
  intro p e s m args below meth c Q ls hEnt hKK hX hret hl
  obtain ⟨hx, hb, hml, hown, hts⟩ := hEnt
  have hl : lv_has ls 20 [(0, .long (lN (aa))), (2, .long (lN (bb))), (4, .long (lN (cc))), (6, .long (lN (dd)))] := hl
  refine lv_lload_n hx hb (pc := 0) dX7_sideOf_0 rfl (lv_at hl 0 rfl) ?_
  refine lv_lstore (lv' := [(8, .long (lN (aa))), (0, .long (lN (aa))), (2, .long (lN (bb))), (4, .long (lN (cc))), (6, .long (lN (dd)))]) hx hb (pc := 1) dX7_sideOf_1 hl (by decide) rfl (fun ls hl => ?_)
  refine lv_lload_n hx hb (pc := 3) dX7_sideOf_3 rfl (lv_at hl 2 rfl) ?_
  refine lv_lstore (lv' := [(10, .long (lN (bb))), (8, .long (lN (aa))), (0, .long (lN (aa))), (2, .long (lN (bb))), (4, .long (lN (cc))), (6, .long (lN (dd)))]) hx hb (pc := 4) dX7_sideOf_4 hl (by decide) rfl (fun ls hl => ?_)
  refine lv_lload hx hb (pc := 6) dX7_sideOf_6 (lv_at hl 4 rfl) ?_
  refine lv_lstore (lv' := [(12, .long (lN (cc))), (10, .long (lN (bb))), (8, .long (lN (aa))), (0, .long (lN (aa))), (2, .long (lN (bb))), (4, .long (lN (cc))), (6, .long (lN (dd)))]) hx hb (pc := 8) dX7_sideOf_8 hl (by decide) rfl (fun ls hl => ?_)
  refine lv_lload hx hb (pc := 10) dX7_sideOf_10 (lv_at hl 6 rfl) ?_
  refine lv_lstore (lv' := [(14, .long (lN (dd))), (12, .long (lN (cc))), (10, .long (lN (bb))), (8, .long (lN (aa))), (0, .long (lN (aa))), (2, .long (lN (bb))), (4, .long (lN (cc))), (6, .long (lN (dd)))]) hx hb (pc := 12) dX7_sideOf_12 hl (by decide) rfl (fun ls hl => ?_)
  refine lv_iconst (v := nI 1) hx hb (pc := 14) dX7_sideOf_14 (by decide) ?_
  refine lv_istore (lv' := [(16, .int (nI 1)), (14, .long (lN (dd))), (12, .long (lN (cc))), (10, .long (lN (bb))), (8, .long (lN (aa))), (0, .long (lN (aa))), (2, .long (lN (bb))), (4, .long (lN (cc))), (6, .long (lN (dd)))]) hx hb (pc := 15) dX7_sideOf_15 hl (by decide) rfl (fun ls hl => ?_)
  refine lv_iconst (v := nI 0) hx hb (pc := 17) dX7_sideOf_17 (by decide) ?_
  refine lv_istore (lv' := [(17, .int (nI 0)), (16, .int (nI 1)), (14, .long (lN (dd))), (12, .long (lN (cc))), (10, .long (lN (bb))), (8, .long (lN (aa))), (0, .long (lN (aa))), (2, .long (lN (bb))), (4, .long (lN (cc))), (6, .long (lN (dd)))]) hx hb (pc := 18) dX7_sideOf_18 hl (by decide) rfl (fun ls hl => ?_)
  have L20 : ∀ (fz : Nat) (x : Nat) (y : Nat) (z : Nat) (w : Nat) (i : Nat) (ng : Bool) (hfz : 100 - i < fz) (hi : i ≤ 100) (hxb : x < 2 ^ 63) (hyb : y < 2 ^ 63) (hzb : z < 2 ^ 63) (hwb : w < 2 ^ 63) (hg : sd aa bb cc dd = sdF (100 - i) ng x y z w) (ls : Array Slot) (hl : lv_has ls 20 [(8, .long (lN (x))), (10, .long (lN (y))), (12, .long (lN (z))), (14, .long (lN (w))), (16, .int (sg ng)), (17, .int (nI i))]), W p l e rmX7_sideOf s m args below meth c s.heap [] 0 0 Q (F0 m 20 ls []) := by
    intro fz; induction fz with
    | zero => intro x y z w i ng hfz hi hxb hyb hzb hwb hg ls hl; exact absurd hfz (Nat.not_lt_zero _)
    | succ fz ih20 =>
      intro x y z w i ng hfz hi hxb hyb hzb hwb hg ls hl
      refine lv_iload hx hb (pc := 20) dX7_sideOf_20 (lv_at hl 5 rfl) ?_
      refine lv_bipush (v := nI 100) hx hb (pc := 22) dX7_sideOf_22 (by decide) ?_
      refine nv_icmp_ge (a := i) (b := 100) (tgt := 119) hx hb (pc := 24) dX7_sideOf_24 (by decide) (by omega) (by omega) (fun c24 => ?_) (fun c24 => ?_)
      · refine lv_lload hx hb (pc := 119) dX7_sideOf_119 (lv_at hl 1 rfl) ?_
        refine lv_lconst (v := lN 0) hx hb (pc := 121) dX7_sideOf_121 (by decide) ?_
        refine nv_lcmp_ne (a := y) (b := 0) (tgt := 135) hx hb (pc := 122) dX7_sideOf_122 dX7_sideOf_123 (by decide) (by omega) (by omega) (fun c122 => ?_) (fun c122 => ?_)
        · refine lv_lload hx hb (pc := 135) dX7_sideOf_135 (lv_at hl 1 rfl) ?_
          refine lv_lconst (v := lN 0) hx hb (pc := 137) dX7_sideOf_137 (by decide) ?_
          refine nv_lcmp_ne (a := y) (b := 0) (tgt := 147) hx hb (pc := 138) dX7_sideOf_138 dX7_sideOf_139 (by decide) (by omega) (by omega) (fun c138 => ?_) (fun c138 => ?_)
          · refine lv_iload hx hb (pc := 147) dX7_sideOf_147 (lv_at hl 4 rfl) ?_
            refine lv_ineg hx hb (pc := 149) dX7_sideOf_149 ?_
            exact hret.1 150 _ (-(sg ng)) dX7_sideOf_150 (by rw [hg, sdF_end (by omega)]; first | (rw [if_pos (by omega)]; done) | (rw [if_neg (by omega), if_pos (by omega)]; done) | (rw [if_neg (by omega), if_neg (by omega), sg_not]; done)) (rfl)
          · refine lv_iload hx hb (pc := 142) dX7_sideOf_142 (lv_at hl 4 rfl) ?_
            refine lv_goto (tgt := 150) hx hb (pc := 144) dX7_sideOf_144 (by decide) ?_
            exact hret.1 150 _ (sg ng) dX7_sideOf_150 (by rw [hg, sdF_end (by omega)]; first | (rw [if_pos (by omega)]; done) | (rw [if_neg (by omega), if_pos (by omega)]; done) | (rw [if_neg (by omega), if_neg (by omega), sg_not]; done)) (rfl)
        · refine lv_lload hx hb (pc := 126) dX7_sideOf_126 (lv_at hl 3 rfl) ?_
          refine lv_lconst (v := lN 0) hx hb (pc := 128) dX7_sideOf_128 (by decide) ?_
          refine nv_lcmp_ne (a := w) (b := 0) (tgt := 135) hx hb (pc := 129) dX7_sideOf_129 dX7_sideOf_130 (by decide) (by omega) (by omega) (fun c129 => ?_) (fun c129 => ?_)
          · refine lv_lload hx hb (pc := 135) dX7_sideOf_135 (lv_at hl 1 rfl) ?_
            refine lv_lconst (v := lN 0) hx hb (pc := 137) dX7_sideOf_137 (by decide) ?_
            refine nv_lcmp_ne (a := y) (b := 0) (tgt := 147) hx hb (pc := 138) dX7_sideOf_138 dX7_sideOf_139 (by decide) (by omega) (by omega) (fun c138 => ?_) (fun c138 => ?_)
            · refine lv_iload hx hb (pc := 147) dX7_sideOf_147 (lv_at hl 4 rfl) ?_
              refine lv_ineg hx hb (pc := 149) dX7_sideOf_149 ?_
              exact hret.1 150 _ (-(sg ng)) dX7_sideOf_150 (by rw [hg, sdF_end (by omega)]; first | (rw [if_pos (by omega)]; done) | (rw [if_neg (by omega), if_pos (by omega)]; done) | (rw [if_neg (by omega), if_neg (by omega), sg_not]; done)) (rfl)
            · refine lv_iload hx hb (pc := 142) dX7_sideOf_142 (lv_at hl 4 rfl) ?_
              refine lv_goto (tgt := 150) hx hb (pc := 144) dX7_sideOf_144 (by decide) ?_
              exact hret.1 150 _ (sg ng) dX7_sideOf_150 (by rw [hg, sdF_end (by omega)]; first | (rw [if_pos (by omega)]; done) | (rw [if_neg (by omega), if_pos (by omega)]; done) | (rw [if_neg (by omega), if_neg (by omega), sg_not]; done)) (rfl)
          · refine lv_iconst (v := nI 0) hx hb (pc := 133) dX7_sideOf_133 (by decide) ?_
            exact hret.1 134 _ (nI 0) dX7_sideOf_134 (by rw [hg, sdF_end (by omega)]; first | (rw [if_pos (by omega)]; done) | (rw [if_neg (by omega), if_pos (by omega)]; done) | (rw [if_neg (by omega), if_neg (by omega), sg_not]; done)) (rfl)
      · refine lv_lload hx hb (pc := 27) dX7_sideOf_27 (lv_at hl 1 rfl) ?_
        refine lv_lconst (v := lN 0) hx hb (pc := 29) dX7_sideOf_29 (by decide) ?_
        refine nv_lcmp_eq (a := y) (b := 0) (tgt := 119) hx hb (pc := 30) dX7_sideOf_30 dX7_sideOf_31 (by decide) (by omega) (by omega) (fun c30 => ?_) (fun c30 => ?_)
        · refine lv_lload hx hb (pc := 119) dX7_sideOf_119 (lv_at hl 1 rfl) ?_
          refine lv_lconst (v := lN 0) hx hb (pc := 121) dX7_sideOf_121 (by decide) ?_
          refine nv_lcmp_ne (a := y) (b := 0) (tgt := 135) hx hb (pc := 122) dX7_sideOf_122 dX7_sideOf_123 (by decide) (by omega) (by omega) (fun c122 => ?_) (fun c122 => ?_)
          · refine lv_lload hx hb (pc := 135) dX7_sideOf_135 (lv_at hl 1 rfl) ?_
            refine lv_lconst (v := lN 0) hx hb (pc := 137) dX7_sideOf_137 (by decide) ?_
            refine nv_lcmp_ne (a := y) (b := 0) (tgt := 147) hx hb (pc := 138) dX7_sideOf_138 dX7_sideOf_139 (by decide) (by omega) (by omega) (fun c138 => ?_) (fun c138 => ?_)
            · refine lv_iload hx hb (pc := 147) dX7_sideOf_147 (lv_at hl 4 rfl) ?_
              refine lv_ineg hx hb (pc := 149) dX7_sideOf_149 ?_
              exact hret.1 150 _ (-(sg ng)) dX7_sideOf_150 (by rw [hg, sdF_end (by omega)]; first | (rw [if_pos (by omega)]; done) | (rw [if_neg (by omega), if_pos (by omega)]; done) | (rw [if_neg (by omega), if_neg (by omega), sg_not]; done)) (rfl)
            · refine lv_iload hx hb (pc := 142) dX7_sideOf_142 (lv_at hl 4 rfl) ?_
              refine lv_goto (tgt := 150) hx hb (pc := 144) dX7_sideOf_144 (by decide) ?_
              exact hret.1 150 _ (sg ng) dX7_sideOf_150 (by rw [hg, sdF_end (by omega)]; first | (rw [if_pos (by omega)]; done) | (rw [if_neg (by omega), if_pos (by omega)]; done) | (rw [if_neg (by omega), if_neg (by omega), sg_not]; done)) (rfl)
          · refine lv_lload hx hb (pc := 126) dX7_sideOf_126 (lv_at hl 3 rfl) ?_
            refine lv_lconst (v := lN 0) hx hb (pc := 128) dX7_sideOf_128 (by decide) ?_
            refine nv_lcmp_ne (a := w) (b := 0) (tgt := 135) hx hb (pc := 129) dX7_sideOf_129 dX7_sideOf_130 (by decide) (by omega) (by omega) (fun c129 => ?_) (fun c129 => ?_)
            · refine lv_lload hx hb (pc := 135) dX7_sideOf_135 (lv_at hl 1 rfl) ?_
              refine lv_lconst (v := lN 0) hx hb (pc := 137) dX7_sideOf_137 (by decide) ?_
              refine nv_lcmp_ne (a := y) (b := 0) (tgt := 147) hx hb (pc := 138) dX7_sideOf_138 dX7_sideOf_139 (by decide) (by omega) (by omega) (fun c138 => ?_) (fun c138 => ?_)
              · refine lv_iload hx hb (pc := 147) dX7_sideOf_147 (lv_at hl 4 rfl) ?_
                refine lv_ineg hx hb (pc := 149) dX7_sideOf_149 ?_
                exact hret.1 150 _ (-(sg ng)) dX7_sideOf_150 (by rw [hg, sdF_end (by omega)]; first | (rw [if_pos (by omega)]; done) | (rw [if_neg (by omega), if_pos (by omega)]; done) | (rw [if_neg (by omega), if_neg (by omega), sg_not]; done)) (rfl)
              · refine lv_iload hx hb (pc := 142) dX7_sideOf_142 (lv_at hl 4 rfl) ?_
                refine lv_goto (tgt := 150) hx hb (pc := 144) dX7_sideOf_144 (by decide) ?_
                exact hret.1 150 _ (sg ng) dX7_sideOf_150 (by rw [hg, sdF_end (by omega)]; first | (rw [if_pos (by omega)]; done) | (rw [if_neg (by omega), if_pos (by omega)]; done) | (rw [if_neg (by omega), if_neg (by omega), sg_not]; done)) (rfl)
            · refine lv_iconst (v := nI 0) hx hb (pc := 133) dX7_sideOf_133 (by decide) ?_
              exact hret.1 134 _ (nI 0) dX7_sideOf_134 (by rw [hg, sdF_end (by omega)]; first | (rw [if_pos (by omega)]; done) | (rw [if_neg (by omega), if_pos (by omega)]; done) | (rw [if_neg (by omega), if_neg (by omega), sg_not]; done)) (rfl)
        · refine lv_lload hx hb (pc := 34) dX7_sideOf_34 (lv_at hl 3 rfl) ?_
          refine lv_lconst (v := lN 0) hx hb (pc := 36) dX7_sideOf_36 (by decide) ?_
          refine nv_lcmp_eq (a := w) (b := 0) (tgt := 119) hx hb (pc := 37) dX7_sideOf_37 dX7_sideOf_38 (by decide) (by omega) (by omega) (fun c37 => ?_) (fun c37 => ?_)
          · refine lv_lload hx hb (pc := 119) dX7_sideOf_119 (lv_at hl 1 rfl) ?_
            refine lv_lconst (v := lN 0) hx hb (pc := 121) dX7_sideOf_121 (by decide) ?_
            refine nv_lcmp_ne (a := y) (b := 0) (tgt := 135) hx hb (pc := 122) dX7_sideOf_122 dX7_sideOf_123 (by decide) (by omega) (by omega) (fun c122 => ?_) (fun c122 => ?_)
            · refine lv_lload hx hb (pc := 135) dX7_sideOf_135 (lv_at hl 1 rfl) ?_
              refine lv_lconst (v := lN 0) hx hb (pc := 137) dX7_sideOf_137 (by decide) ?_
              refine nv_lcmp_ne (a := y) (b := 0) (tgt := 147) hx hb (pc := 138) dX7_sideOf_138 dX7_sideOf_139 (by decide) (by omega) (by omega) (fun c138 => ?_) (fun c138 => ?_)
              · refine lv_iload hx hb (pc := 147) dX7_sideOf_147 (lv_at hl 4 rfl) ?_
                refine lv_ineg hx hb (pc := 149) dX7_sideOf_149 ?_
                exact hret.1 150 _ (-(sg ng)) dX7_sideOf_150 (by rw [hg, sdF_end (by omega)]; first | (rw [if_pos (by omega)]; done) | (rw [if_neg (by omega), if_pos (by omega)]; done) | (rw [if_neg (by omega), if_neg (by omega), sg_not]; done)) (rfl)
              · refine lv_iload hx hb (pc := 142) dX7_sideOf_142 (lv_at hl 4 rfl) ?_
                refine lv_goto (tgt := 150) hx hb (pc := 144) dX7_sideOf_144 (by decide) ?_
                exact hret.1 150 _ (sg ng) dX7_sideOf_150 (by rw [hg, sdF_end (by omega)]; first | (rw [if_pos (by omega)]; done) | (rw [if_neg (by omega), if_pos (by omega)]; done) | (rw [if_neg (by omega), if_neg (by omega), sg_not]; done)) (rfl)
            · refine lv_lload hx hb (pc := 126) dX7_sideOf_126 (lv_at hl 3 rfl) ?_
              refine lv_lconst (v := lN 0) hx hb (pc := 128) dX7_sideOf_128 (by decide) ?_
              refine nv_lcmp_ne (a := w) (b := 0) (tgt := 135) hx hb (pc := 129) dX7_sideOf_129 dX7_sideOf_130 (by decide) (by omega) (by omega) (fun c129 => ?_) (fun c129 => ?_)
              · refine lv_lload hx hb (pc := 135) dX7_sideOf_135 (lv_at hl 1 rfl) ?_
                refine lv_lconst (v := lN 0) hx hb (pc := 137) dX7_sideOf_137 (by decide) ?_
                refine nv_lcmp_ne (a := y) (b := 0) (tgt := 147) hx hb (pc := 138) dX7_sideOf_138 dX7_sideOf_139 (by decide) (by omega) (by omega) (fun c138 => ?_) (fun c138 => ?_)
                · refine lv_iload hx hb (pc := 147) dX7_sideOf_147 (lv_at hl 4 rfl) ?_
                  refine lv_ineg hx hb (pc := 149) dX7_sideOf_149 ?_
                  exact hret.1 150 _ (-(sg ng)) dX7_sideOf_150 (by rw [hg, sdF_end (by omega)]; first | (rw [if_pos (by omega)]; done) | (rw [if_neg (by omega), if_pos (by omega)]; done) | (rw [if_neg (by omega), if_neg (by omega), sg_not]; done)) (rfl)
                · refine lv_iload hx hb (pc := 142) dX7_sideOf_142 (lv_at hl 4 rfl) ?_
                  refine lv_goto (tgt := 150) hx hb (pc := 144) dX7_sideOf_144 (by decide) ?_
                  exact hret.1 150 _ (sg ng) dX7_sideOf_150 (by rw [hg, sdF_end (by omega)]; first | (rw [if_pos (by omega)]; done) | (rw [if_neg (by omega), if_pos (by omega)]; done) | (rw [if_neg (by omega), if_neg (by omega), sg_not]; done)) (rfl)
              · refine lv_iconst (v := nI 0) hx hb (pc := 133) dX7_sideOf_133 (by decide) ?_
                exact hret.1 134 _ (nI 0) dX7_sideOf_134 (by rw [hg, sdF_end (by omega)]; first | (rw [if_pos (by omega)]; done) | (rw [if_neg (by omega), if_pos (by omega)]; done) | (rw [if_neg (by omega), if_neg (by omega), sg_not]; done)) (rfl)
          · refine lv_lload hx hb (pc := 41) dX7_sideOf_41 (lv_at hl 0 rfl) ?_
            refine lv_lload hx hb (pc := 43) dX7_sideOf_43 (lv_at hl 1 rfl) ?_
            refine nv_ldiv (a := x) (b := y) hx hb (pc := 45) dX7_sideOf_45 (by omega) (by omega) (by omega) ?_
            refine lv_lload hx hb (pc := 46) dX7_sideOf_46 (lv_at hl 2 rfl) ?_
            refine lv_lload hx hb (pc := 48) dX7_sideOf_48 (lv_at hl 3 rfl) ?_
            refine nv_ldiv (a := z) (b := w) hx hb (pc := 50) dX7_sideOf_50 (by omega) (by omega) (by omega) ?_
            have hq1 : x / y ≤ x := Nat.div_le_self _ _
            have hq2 : z / w ≤ z := Nat.div_le_self _ _
            refine nv_lcmp_eq (a := (x / y)) (b := (z / w)) (tgt := 78) hx hb (pc := 51) dX7_sideOf_51 dX7_sideOf_52 (by decide) (by omega) (by omega) (fun c51 => ?_) (fun c51 => ?_)
            · refine lv_lload hx hb (pc := 78) dX7_sideOf_78 (lv_at hl 0 rfl) ?_
              refine lv_lload hx hb (pc := 80) dX7_sideOf_80 (lv_at hl 1 rfl) ?_
              refine nv_lrem (a := x) (b := y) hx hb (pc := 82) dX7_sideOf_82 (by omega) (by omega) (by omega) ?_
              refine lv_lstore (lv' := [(18, .long (lN (x % y))), (8, .long (lN (x))), (10, .long (lN (y))), (12, .long (lN (z))), (14, .long (lN (w))), (16, .int (sg ng)), (17, .int (nI i))]) hx hb (pc := 83) dX7_sideOf_83 hl (by decide) rfl (fun ls hl => ?_)
              refine lv_lload hx hb (pc := 85) dX7_sideOf_85 (lv_at hl 2 rfl) ?_
              refine lv_lstore (lv' := [(8, .long (lN (y))), (18, .long (lN (x % y))), (10, .long (lN (y))), (12, .long (lN (z))), (14, .long (lN (w))), (16, .int (sg ng)), (17, .int (nI i))]) hx hb (pc := 87) dX7_sideOf_87 hl (by decide) rfl (fun ls hl => ?_)
              refine lv_lload hx hb (pc := 89) dX7_sideOf_89 (lv_at hl 1 rfl) ?_
              refine lv_lstore (lv' := [(10, .long (lN (x % y))), (8, .long (lN (y))), (18, .long (lN (x % y))), (12, .long (lN (z))), (14, .long (lN (w))), (16, .int (sg ng)), (17, .int (nI i))]) hx hb (pc := 91) dX7_sideOf_91 hl (by decide) rfl (fun ls hl => ?_)
              refine lv_lload hx hb (pc := 93) dX7_sideOf_93 (lv_at hl 3 rfl) ?_
              refine lv_lload hx hb (pc := 95) dX7_sideOf_95 (lv_at hl 4 rfl) ?_
              refine nv_lrem (a := z) (b := w) hx hb (pc := 97) dX7_sideOf_97 (by omega) (by omega) (by omega) ?_
              refine lv_lstore (lv' := [(18, .long (lN (z % w))), (10, .long (lN (x % y))), (8, .long (lN (y))), (12, .long (lN (z))), (14, .long (lN (w))), (16, .int (sg ng)), (17, .int (nI i))]) hx hb (pc := 98) dX7_sideOf_98 hl (by decide) rfl (fun ls hl => ?_)
              refine lv_lload hx hb (pc := 100) dX7_sideOf_100 (lv_at hl 4 rfl) ?_
              refine lv_lstore (lv' := [(12, .long (lN (w))), (18, .long (lN (z % w))), (10, .long (lN (x % y))), (8, .long (lN (y))), (14, .long (lN (w))), (16, .int (sg ng)), (17, .int (nI i))]) hx hb (pc := 102) dX7_sideOf_102 hl (by decide) rfl (fun ls hl => ?_)
              refine lv_lload hx hb (pc := 104) dX7_sideOf_104 (lv_at hl 1 rfl) ?_
              refine lv_lstore (lv' := [(14, .long (lN (z % w))), (12, .long (lN (w))), (18, .long (lN (z % w))), (10, .long (lN (x % y))), (8, .long (lN (y))), (16, .int (sg ng)), (17, .int (nI i))]) hx hb (pc := 106) dX7_sideOf_106 hl (by decide) rfl (fun ls hl => ?_)
              refine lv_iload hx hb (pc := 108) dX7_sideOf_108 (lv_at hl 5 rfl) ?_
              refine lv_ineg hx hb (pc := 110) dX7_sideOf_110 ?_
              refine lv_istore (lv' := [(16, .int (-(sg ng))), (14, .long (lN (z % w))), (12, .long (lN (w))), (18, .long (lN (z % w))), (10, .long (lN (x % y))), (8, .long (lN (y))), (17, .int (nI i))]) hx hb (pc := 111) dX7_sideOf_111 hl (by decide) rfl (fun ls hl => ?_)
              refine lv_iinc (v := nI (i + 1)) (lv' := [(17, .int (nI (i + 1))), (16, .int (-(sg ng))), (14, .long (lN (z % w))), (12, .long (lN (w))), (18, .long (lN (z % w))), (10, .long (lN (x % y))), (8, .long (lN (y)))]) hx hb (pc := 113) dX7_sideOf_113 hl (k := 6) rfl (rr_inc _) (by decide) rfl (fun ls hl => ?_)
              refine lv_goto (tgt := 20) hx hb (pc := 116) dX7_sideOf_116 (by decide) ?_
              have hm1 := Nat.mod_lt x (show 0 < y by omega)
              have hm2 := Nat.mod_lt z (show 0 < w by omega)
              have hl : lv_has ls 20 [(17, .int (nI (i + 1))), (16, .int (sg (!ng))), (14, .long (lN (z % w))), (12, .long (lN (w))), (18, .long (lN (z % w))), (10, .long (lN (x % y))), (8, .long (lN (y)))] := by rw [show sg (!ng) = -(sg ng) from (sg_not ng).symm]; exact hl
              exact ih20 y (x % y) w (z % w) (i + 1) (!ng) (by omega) (by omega) (hyb) (by omega) (hwb) (by omega) (by rw [hg, show 100 - i = 100 - (i + 1) + 1 by omega, sdF_on c30 c37 c51]) ls (lv_sub hl [6, 5, 3, 2, 1, 0] rfl)
            · refine lv_lload hx hb (pc := 55) dX7_sideOf_55 (lv_at hl 0 rfl) ?_
              refine lv_lload hx hb (pc := 57) dX7_sideOf_57 (lv_at hl 1 rfl) ?_
              refine nv_ldiv (a := x) (b := y) hx hb (pc := 59) dX7_sideOf_59 (by omega) (by omega) (by omega) ?_
              refine lv_lload hx hb (pc := 60) dX7_sideOf_60 (lv_at hl 2 rfl) ?_
              refine lv_lload hx hb (pc := 62) dX7_sideOf_62 (lv_at hl 3 rfl) ?_
              refine nv_ldiv (a := z) (b := w) hx hb (pc := 64) dX7_sideOf_64 (by omega) (by omega) (by omega) ?_
              have hg2 := hg
              rw [show 100 - i = 100 - (i + 1) + 1 by omega, sdF_ne c30 c37 c51] at hg2
              refine nv_lcmp_ge (a := (x / y)) (b := (z / w)) (tgt := 75) hx hb (pc := 65) dX7_sideOf_65 dX7_sideOf_66 (by decide) (by omega) (by omega) (fun c65 => ?_) (fun c65 => ?_)
              · refine lv_iload hx hb (pc := 75) dX7_sideOf_75 (lv_at hl 4 rfl) ?_
                exact hret.1 77 _ (sg ng) dX7_sideOf_77 (by rw [hg2]; first | (rw [if_pos c65, sg_not]; done) | (rw [if_neg (by omega)]; done)) (rfl)
              · refine lv_iload hx hb (pc := 69) dX7_sideOf_69 (lv_at hl 4 rfl) ?_
                refine lv_ineg hx hb (pc := 71) dX7_sideOf_71 ?_
                refine lv_goto (tgt := 77) hx hb (pc := 72) dX7_sideOf_72 (by decide) ?_
                exact hret.1 77 _ (-(sg ng)) dX7_sideOf_77 (by rw [hg2]; first | (rw [if_pos c65, sg_not]; done) | (rw [if_neg (by omega)]; done)) (rfl)
  have hl : lv_has ls 20 [(17, .int (nI 0)), (16, .int (sg false)), (14, .long (lN (dd))), (12, .long (lN (cc))), (10, .long (lN (bb))), (8, .long (lN (aa))), (0, .long (lN (aa))), (2, .long (lN (bb))), (4, .long (lN (cc))), (6, .long (lN (dd)))] := by rw [show sg false = nI 1 from rfl]; exact hl
  exact L20 (101) aa bb cc dd 0 false (by omega) (Nat.zero_le _) (haa) (hbb) (hcc) (hdd) (by rw [Nat.sub_zero]; rfl) ls (lv_sub hl [5, 4, 3, 2, 1, 0] rfl)

abbrev rmX7_utmost : Room := { frames := 1, cells := 0, slots := 0, locals := 39 }
theorem inX7_utmost_1 : ∀ w ∈ wsX10, w ∈ wsX7_utmost := fun _ h => List.mem_cons_of_mem _ (List.mem_append_left _ (List.mem_append_right _ h))
theorem inX7_utmost_7 : ∀ w ∈ wsX70, w ∈ wsX7_utmost := fun _ h => List.mem_cons_of_mem _ (List.mem_append_right _ h)
set_option maxHeartbeats 4000000 in
set_option maxRecDepth 100000 in
theorem c_X7_utmost (l : Launch) (K : rr_K) (xo xs xa xb xv xw : Nat) (sF rF pF vF bF : Nat → Nat) (go ge gt k n gw al lw : Nat) (E T : Nat → Nat) (side : Int32) (hn : n ≤ 16) (hal : al < 65536) (hvb : ∀ q, q < n → vF q < 2 ^ 63) (hbb : ∀ q, q < n → bF q < 2 ^ 63) : MetP l K yX7_utmost wsX7_utmost rmX7_utmost [.ref xo, .ref go, .int side] (fun H => va_P K.1 vwCl (XW7 K xo xs xa xb xv xw sF rF pF vF bF) H ∧ va_P K.1 vwCl (GW K go ge gt k n gw al lw E T) H) (.int (nI (utC al vF bF sd side n - 1))) := by
  refine metP_of (cc := cX7_utmost) (maxL := 5) (ret := (some .int)) (rt := .int) (by decide) rfl rfl (Nat.le_of_ble_eq_true rfl) ?_
  intro p e s m args below meth c Q ls hEnt hKK hX hret hl
  obtain ⟨hx, hb, hml, hown, hts⟩ := hEnt
  obtain ⟨hP, hG⟩ := hX
  have hl : lv_has ls 5 [(0, .ref xo), (1, .ref go), (2, .int side)] := hl
  refine lv_iconst (v := -1) hx hb (pc := 0) dX7_utmost_0 (by decide) ?_
  refine lv_istore_n (lv' := [(3, .int (-1)), (0, .ref xo), (1, .ref go), (2, .int side)]) hx hb (pc := 1) dX7_utmost_1 rfl hl (by decide) rfl (fun ls hl => ?_)
  refine lv_iconst (v := nI 0) hx hb (pc := 2) dX7_utmost_2 (by decide) ?_
  refine lv_istore (lv' := [(4, .int (nI 0)), (3, .int (-1)), (0, .ref xo), (1, .ref go), (2, .int side)]) hx hb (pc := 3) dX7_utmost_3 hl (by decide) rfl (fun ls hl => ?_)
  have L5 : ∀ (fz : Nat) (q : Nat) (hfz : n - q < fz) (hq : q ≤ n) (ls : Array Slot) (hl : lv_has ls 5 [(0, .ref xo), (1, .ref go), (2, .int side), (3, .int (nI (utC al vF bF sd side q) - 1)), (4, .int (nI q))]), W p l e rmX7_utmost s m args below meth c s.heap [] 0 0 Q (F0 m 5 ls []) := by
    intro fz; induction fz with
    | zero => intro q hfz hq ls hl; exact absurd hfz (Nat.not_lt_zero _)
    | succ fz ih5 =>
      intro q hfz hq ls hl
      have hul := utC_le al vF bF sd side q
      refine lv_iload hx hb (pc := 5) dX7_utmost_5 (lv_at hl 4 rfl) ?_
      refine lv_aload_n hx hb (pc := 7) dX7_utmost_7 rfl (lv_at hl 1 rfl) ?_
      refine va_get (v := .int (nI n)) hx hb hts (inX7_utmost_1) hown hKK.1 hG 0 rfl rfl 1 (by decide) (hts _ (List.mem_of_getElem? (i := 1) (by decide +kernel))) (fun _ h9 => h9) rfl (pc := 8) dX7_utmost_8 ?_
      refine nv_icmp_ge (a := q) (b := n) (tgt := 69) hx hb (pc := 11) dX7_utmost_11 (by decide) (by omega) (by omega) (fun c11 => ?_) (fun c11 => ?_)
      · refine lv_iload_n hx hb (pc := 69) dX7_utmost_69 rfl (lv_at hl 3 rfl) ?_
        refine lv_iconst (v := nI 0) hx hb (pc := 70) dX7_utmost_70 (by decide) ?_
        refine va_mmax hx hb (hml.trans hl.1.symm) hown (hts _ (List.mem_of_getElem? (i := 4) (by decide +kernel))) (hts _ (List.mem_of_getElem? (i := 5) (by decide +kernel))) (hts _ (List.mem_of_getElem? (i := 6) (by decide +kernel))) (hts _ (List.mem_of_getElem? (i := 7) (by decide +kernel))) (Nat.le_of_ble_eq_true rfl) (Nat.le_of_ble_eq_true rfl) (by omega) (by omega) (pc := 71) dX7_utmost_71 ?_
        refine rr_top (v := .int (nI ((utC al vF bF sd side q) - 1))) (congrArg Value.int (um_max (by omega))) ?_
        have e9 : q = n := by omega
        exact hret.1 74 _ (nI ((utC al vF bF sd side q) - 1)) dX7_utmost_74 (by rw [e9]) (rfl)
      · refine lv_aload_n hx hb (pc := 14) dX7_utmost_14 rfl (lv_at hl 1 rfl) ?_
        refine lv_iload hx hb (pc := 15) dX7_utmost_15 (lv_at hl 4 rfl) ?_
        refine rr_callP (rv := .int (bI (al.testBit q))) (pc := 17) (va_runV (As := [.int (nI q)]) (rest := []) ⟨hx, hb, hml, hown, hts⟩ (c_X1_isLive l K go ge gt k n gw al lw E T q hal (by omega)) (cwV 1 hts gX7_utmost_X1_isLive rfl rfl rfl (by decide +kernel) ⟨Nat.le_of_ble_eq_true rfl, Nat.le_of_ble_eq_true rfl⟩) (rr_preV hKK (hG) (va_recv hKK.1 hG (ci := 1) (q0 := 0) rfl rfl)) rfl rfl hl.1 rfl (lv_room (Nat.le_of_ble_eq_true rfl)) dX7_utmost_17 ⟨Nat.le_refl _, Nat.le_refl _⟩) ?_
        refine nv_if_eq_b (a := (al.testBit q)) (tgt := 63) hx hb (pc := 20) dX7_utmost_20 (by decide) (fun c20 => ?_) (fun c20 => ?_)
        · refine lv_iinc (v := nI (q + 1)) (lv' := [(4, .int (nI (q + 1))), (0, .ref xo), (1, .ref go), (2, .int side), (3, .int (nI (utC al vF bF sd side q) - 1))]) hx hb (pc := 63) dX7_utmost_63 hl (k := 4) rfl (rr_inc _) (by decide) rfl (fun ls hl => ?_)
          refine lv_goto (tgt := 5) hx hb (pc := 66) dX7_utmost_66 (by decide) ?_
          have hl : lv_has ls 5 [(4, .int (nI (q + 1))), (0, .ref xo), (1, .ref go), (2, .int side), (3, .int (nI (utC al vF bF sd side (q + 1)) - 1))] := by rw [show nI (utC al vF bF sd side (q + 1)) - 1 = nI (utC al vF bF sd side q) - 1 from by first | (rw [utC_no1 c20]; done) | (rw [utC_yes c20 (Or.inl (um0 (by omega) c24)), nI_pred]; done) | (rw [utC_yes c20 (Or.inr c57), nI_pred]; done) | (rw [utC_no2 hu0 c57]; done)]; exact hl
          exact ih5 (q + 1) (by omega) (by omega) ls (lv_sub hl [1, 2, 3, 4, 0] rfl)
        · refine lv_iload_n hx hb (pc := 23) dX7_utmost_23 rfl (lv_at hl 3 rfl) ?_
          refine lv_if_lt (tgt := 60) hx hb (pc := 24) dX7_utmost_24 (by decide) (fun c24 => ?_) (fun c24 => ?_)
          · refine lv_iload hx hb (pc := 60) dX7_utmost_60 (lv_at hl 4 rfl) ?_
            refine lv_istore_n (lv' := [(3, .int (nI q)), (0, .ref xo), (1, .ref go), (2, .int side), (4, .int (nI q))]) hx hb (pc := 62) dX7_utmost_62 rfl hl (by decide) rfl (fun ls hl => ?_)
            refine lv_iinc (v := nI (q + 1)) (lv' := [(4, .int (nI (q + 1))), (3, .int (nI q)), (0, .ref xo), (1, .ref go), (2, .int side)]) hx hb (pc := 63) dX7_utmost_63 hl (k := 4) rfl (rr_inc _) (by decide) rfl (fun ls hl => ?_)
            refine lv_goto (tgt := 5) hx hb (pc := 66) dX7_utmost_66 (by decide) ?_
            have hl : lv_has ls 5 [(4, .int (nI (q + 1))), (3, .int (nI (utC al vF bF sd side (q + 1)) - 1)), (0, .ref xo), (1, .ref go), (2, .int side)] := by rw [show nI (utC al vF bF sd side (q + 1)) - 1 = nI q from by first | (rw [utC_no1 c20]; done) | (rw [utC_yes c20 (Or.inl (um0 (by omega) c24)), nI_pred]; done) | (rw [utC_yes c20 (Or.inr c57), nI_pred]; done) | (rw [utC_no2 hu0 c57]; done)]; exact hl
            exact ih5 (q + 1) (by omega) (by omega) ls (lv_sub hl [2, 3, 4, 1, 0] rfl)
          · have hu0 : ¬ (utC al vF bF sd side q) = 0 := um2 (by omega) c24
            have hv1 := hvb q (by omega)
            have hb1 := hbb q (by omega)
            have hv2 := hvb ((utC al vF bF sd side q) - 1) (by omega)
            have hb2 := hbb ((utC al vF bF sd side q) - 1) (by omega)
            refine lv_aload_n hx hb (pc := 27) dX7_utmost_27 rfl (lv_at hl 0 rfl) ?_
            refine va_get (v := .ref xv) hx hb hts (inX7_utmost_7) hown hKK.1 hP 0 rfl rfl 3 (by decide) (hts _ (List.mem_of_getElem? (i := 2) (by decide +kernel))) (fun _ h9 => h9) rfl (pc := 28) dX7_utmost_28 ?_
            refine lv_iload hx hb (pc := 31) dX7_utmost_31 (lv_at hl 4 rfl) ?_
            refine nv_lald (v := lN (vF q)) (i := q) hx hb hKK hP 4 rfl (by omega) (by decide) (rfl) (pc := 33) dX7_utmost_33 ?_
            refine lv_aload_n hx hb (pc := 34) dX7_utmost_34 rfl (lv_at hl 0 rfl) ?_
            refine va_get (v := .ref xw) hx hb hts (inX7_utmost_7) hown hKK.1 hP 0 rfl rfl 4 (by decide) (hts _ (List.mem_of_getElem? (i := 3) (by decide +kernel))) (fun _ h9 => h9) rfl (pc := 35) dX7_utmost_35 ?_
            refine lv_iload hx hb (pc := 38) dX7_utmost_38 (lv_at hl 4 rfl) ?_
            refine nv_lald (v := lN (bF q)) (i := q) hx hb hKK hP 5 rfl (by omega) (by decide) (rfl) (pc := 40) dX7_utmost_40 ?_
            refine lv_aload_n hx hb (pc := 41) dX7_utmost_41 rfl (lv_at hl 0 rfl) ?_
            refine va_get (v := .ref xv) hx hb hts (inX7_utmost_7) hown hKK.1 hP 0 rfl rfl 3 (by decide) (hts _ (List.mem_of_getElem? (i := 2) (by decide +kernel))) (fun _ h9 => h9) rfl (pc := 42) dX7_utmost_42 ?_
            refine lv_iload_n hx hb (pc := 45) dX7_utmost_45 rfl (lv_at hl 3 rfl) ?_
            refine rr_top (v := .int (nI ((utC al vF bF sd side q) - 1))) (congrArg Value.int (um1 hu0)) ?_
            refine nv_lald (v := lN (vF ((utC al vF bF sd side q) - 1))) (i := ((utC al vF bF sd side q) - 1)) hx hb hKK hP 4 rfl (by omega) (by decide) (rfl) (pc := 46) dX7_utmost_46 ?_
            refine lv_aload_n hx hb (pc := 47) dX7_utmost_47 rfl (lv_at hl 0 rfl) ?_
            refine va_get (v := .ref xw) hx hb hts (inX7_utmost_7) hown hKK.1 hP 0 rfl rfl 4 (by decide) (hts _ (List.mem_of_getElem? (i := 3) (by decide +kernel))) (fun _ h9 => h9) rfl (pc := 48) dX7_utmost_48 ?_
            refine lv_iload_n hx hb (pc := 51) dX7_utmost_51 rfl (lv_at hl 3 rfl) ?_
            refine rr_top (v := .int (nI ((utC al vF bF sd side q) - 1))) (congrArg Value.int (um1 hu0)) ?_
            refine nv_lald (v := lN (bF ((utC al vF bF sd side q) - 1))) (i := ((utC al vF bF sd side q) - 1)) hx hb hKK hP 5 rfl (by omega) (by decide) (rfl) (pc := 52) dX7_utmost_52 ?_
            refine rr_callP (rv := .int (sd (vF q) (bF q) (vF ((utC al vF bF sd side q) - 1)) (bF ((utC al vF bF sd side q) - 1)))) (pc := 53) (va_runS (As := [.long (lN (vF q)), .long (lN (bF q)), .long (lN (vF ((utC al vF bF sd side q) - 1))), .long (lN (bF ((utC al vF bF sd side q) - 1)))]) (rest := []) ⟨hx, hb, hml, hown, hts⟩ (c_X7_sideOf l K (vF q) (bF q) (vF ((utC al vF bF sd side q) - 1)) (bF ((utC al vF bF sd side q) - 1)) hv1 hb1 hv2 hb2) (cwS 4 hts gX7_utmost_X7_sideOf rfl rfl rfl (by decide +kernel) ⟨Nat.le_of_ble_eq_true rfl, Nat.le_of_ble_eq_true rfl⟩) (rr_preS hKK (trivial)) rfl rfl hl.1 rfl (lv_room (Nat.le_of_ble_eq_true rfl)) dX7_utmost_53 ⟨Nat.le_refl _, Nat.le_refl _⟩) ?_
            refine lv_iload_n hx hb (pc := 56) dX7_utmost_56 rfl (lv_at hl 2 rfl) ?_
            refine lv_icmp_ne (tgt := 63) hx hb (pc := 57) dX7_utmost_57 (by decide) (fun c57 => ?_) (fun c57 => ?_)
            · refine lv_iinc (v := nI (q + 1)) (lv' := [(4, .int (nI (q + 1))), (0, .ref xo), (1, .ref go), (2, .int side), (3, .int (nI (utC al vF bF sd side q) - 1))]) hx hb (pc := 63) dX7_utmost_63 hl (k := 4) rfl (rr_inc _) (by decide) rfl (fun ls hl => ?_)
              refine lv_goto (tgt := 5) hx hb (pc := 66) dX7_utmost_66 (by decide) ?_
              have hl : lv_has ls 5 [(4, .int (nI (q + 1))), (0, .ref xo), (1, .ref go), (2, .int side), (3, .int (nI (utC al vF bF sd side (q + 1)) - 1))] := by rw [show nI (utC al vF bF sd side (q + 1)) - 1 = nI (utC al vF bF sd side q) - 1 from by first | (rw [utC_no1 c20]; done) | (rw [utC_yes c20 (Or.inl (um0 (by omega) c24)), nI_pred]; done) | (rw [utC_yes c20 (Or.inr c57), nI_pred]; done) | (rw [utC_no2 hu0 c57]; done)]; exact hl
              exact ih5 (q + 1) (by omega) (by omega) ls (lv_sub hl [1, 2, 3, 4, 0] rfl)
            · refine lv_iload hx hb (pc := 60) dX7_utmost_60 (lv_at hl 4 rfl) ?_
              refine lv_istore_n (lv' := [(3, .int (nI q)), (0, .ref xo), (1, .ref go), (2, .int side), (4, .int (nI q))]) hx hb (pc := 62) dX7_utmost_62 rfl hl (by decide) rfl (fun ls hl => ?_)
              refine lv_iinc (v := nI (q + 1)) (lv' := [(4, .int (nI (q + 1))), (3, .int (nI q)), (0, .ref xo), (1, .ref go), (2, .int side)]) hx hb (pc := 63) dX7_utmost_63 hl (k := 4) rfl (rr_inc _) (by decide) rfl (fun ls hl => ?_)
              refine lv_goto (tgt := 5) hx hb (pc := 66) dX7_utmost_66 (by decide) ?_
              have hl : lv_has ls 5 [(4, .int (nI (q + 1))), (3, .int (nI (utC al vF bF sd side (q + 1)) - 1)), (0, .ref xo), (1, .ref go), (2, .int side)] := by rw [show nI (utC al vF bF sd side (q + 1)) - 1 = nI q from by first | (rw [utC_no1 c20]; done) | (rw [utC_yes c20 (Or.inl (um0 (by omega) c24)), nI_pred]; done) | (rw [utC_yes c20 (Or.inr c57), nI_pred]; done) | (rw [utC_no2 hu0 c57]; done)]; exact hl
              exact ih5 (q + 1) (by omega) (by omega) ls (lv_sub hl [2, 3, 4, 1, 0] rfl)
  have hl : lv_has ls 5 [(4, .int (nI 0)), (3, .int (nI (utC al vF bF sd side 0) - 1)), (0, .ref xo), (1, .ref go), (2, .int side)] := by rw [show nI (utC al vF bF sd side 0) - 1 = -1 from um_0]; exact hl
  exact L5 (17) 0 (by omega) (Nat.zero_le _) ls (lv_sub hl [2, 3, 4, 1, 0] rfl)


