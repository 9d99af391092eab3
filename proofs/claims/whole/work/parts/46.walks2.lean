abbrev rmX7_countRows : Room := { frames := 3, cells := 0, slots := 0, locals := 68 }
theorem inX7_countRows_1 : ∀ w ∈ wsX10, w ∈ wsX7_countRows := fun _ h => List.mem_cons_of_mem _ (List.mem_append_right _ h)
theorem inX7_countRows_7 : ∀ w ∈ wsX70, w ∈ wsX7_countRows := fun _ h => List.mem_cons_of_mem _ (List.mem_append_left _ (List.mem_append_right _ h))
set_option maxHeartbeats 4000000 in
set_option maxRecDepth 100000 in
theorem c_X7_countRows (l : Launch) (K : rr_K) (A : Nat → Prop) (xo xs xa xb xv xw : Nat) (sF rF pF vF bF : Nat → Nat) (go ge gt k n gw al lw : Nat) (E T : Nat → Nat) (nn : Nat) (hk4 : k ≤ 4) (hn : n ≤ 16) (hal : al < 65536) (h1n : 1 ≤ nn) (hnn : nn ≤ 1000) (hD : va_D A (XW7 K xo xs xa xb xv xw sF rF pF vF bF)) (hGA : ∀ (k_ : Nat) (q_ : Nat × va_E), (GW K go ge gt k n gw al lw E T)[k_]? = some q_ → ¬ A q_.1) : MetV l K yX7_countRows wsX7_countRows rmX7_countRows [.ref xo, .ref go, .int (nI nn)] (fun H => va_P K.1 vwCl (XW7 K xo xs xa xb xv xw sF rF pF vF bF) H ∧ va_P K.1 vwCl (GW K go ge gt k n gw al lw E T) H) A (fun H => ∃ xa' xb' sF' rF' pF', (∀ i j, i < n → j < n → rF' (i * 16 + j) = pwS n (aMy al E k) (nn - 1) i j) ∧ va_P K.1 vwCl (XW7 K xo xs xa' xb' xv xw sF' rF' pF' vF bF) H ∧ va_D A (XW7 K xo xs xa' xb' xv xw sF' rF' pF' vF bF)) 0 0 := by
  refine metV_of (cc := cX7_countRows) (maxL := 4) (by decide) rfl rfl rfl (Nat.le_of_ble_eq_true rfl) ?_
  intro p e s m args below meth c Q ls hEnt hin hKK hX hret hl
  obtain ⟨hx, hb, hml, hown, hts⟩ := hEnt
  obtain ⟨hP, hG⟩ := hX
  have hP : va_P K.1 vwCl (XW7 K xo xs xa xb xv xw sF rF pF vF bF) s.heap := hP
  have hG : va_P K.1 vwCl (GW K go ge gt k n gw al lw E T) s.heap := hG
  have hl : lv_has ls 4 [(0, .ref xo), (1, .ref go), (2, .int (nI nn))] := hl
  have hS : va_S A s.heap s.heap [] := va_S.rf
  refine lv_aload_n hx hb (pc := 0) dX7_countRows_0 rfl (lv_at hl 0 rfl) ?_
  refine lv_aload_n hx hb (pc := 1) dX7_countRows_1 rfl (lv_at hl 1 rfl) ?_
  refine rr_callV (pc := 2) (va_runV (As := [.ref go]) (rest := []) ⟨hx, hb, hml, hown, hts⟩ (c_X7_countSingle l K A xo xs xa xb xv xw sF rF pF vF bF go ge gt k n gw al lw E T hk4 hn hal hD hGA) (cwV 1 hts gX7_countRows_X7_countSingle rfl rfl rfl (by decide +kernel) ⟨Nat.le_of_ble_eq_true rfl, Nat.le_of_ble_eq_true rfl⟩) (rr_preV hKK (⟨hP, hG⟩) (va_recv hKK.1 hP (ci := 7) (q0 := 0) rfl rfl)) rfl rfl hl.1 rfl (lv_room (Nat.le_of_ble_eq_true rfl)) dX7_countRows_2 ⟨by omega, by omega⟩) hS (fun _ h => h) (fun H locs hY hsz hfr hS => ?_)
  obtain ⟨sF', hs', hP⟩ := hY
  have hD : va_D A (XW7 K xo xs xa xb xv xw sF' rF pF vF bF) := rr_D hD rfl
  have hP : va_P K.1 vwCl (XW7 K xo xs xa xb xv xw sF' rF pF vF bF) H := hP
  refine lv_aload_n hx hb (pc := 5) dX7_countRows_5 rfl (lv_at hl 0 rfl) ?_
  refine va_get (v := .ref xs) hx hb hts (inX7_countRows_7) hown hKK.1 hP 0 rfl rfl 0 (by decide) (hts _ (List.mem_of_getElem? (i := 1) (by decide +kernel))) (fun _ h9 => h9) rfl (pc := 6) dX7_countRows_6 ?_
  refine lv_iconst (v := nI 0) hx hb (pc := 9) dX7_countRows_9 (by decide) ?_
  refine lv_aload_n hx hb (pc := 10) dX7_countRows_10 rfl (lv_at hl 0 rfl) ?_
  refine va_get (v := .ref xa) hx hb hts (inX7_countRows_7) hown hKK.1 hP 0 rfl rfl 1 (by decide) (hts _ (List.mem_of_getElem? (i := 2) (by decide +kernel))) (fun _ h9 => h9) rfl (pc := 11) dX7_countRows_11 ?_
  refine lv_iconst (v := nI 0) hx hb (pc := 14) dX7_countRows_14 (by decide) ?_
  refine lv_aload_n hx hb (pc := 15) dX7_countRows_15 rfl (lv_at hl 0 rfl) ?_
  refine va_get (v := .ref xa) hx hb hts (inX7_countRows_7) hown hKK.1 hP 0 rfl rfl 1 (by decide) (hts _ (List.mem_of_getElem? (i := 2) (by decide +kernel))) (fun _ h9 => h9) rfl (pc := 16) dX7_countRows_16 ?_
  refine va_alen (v := nI 256) hx hb hKK.1 hP 2 1 rfl rfl rfl (pc := 19) dX7_countRows_19 ?_
  refine nv_copyl (sp := 0) (dp := 0) (n := 256) (ws' := [(xo, .inr (7, [.ref xs, .ref xa, .ref xb, .ref xv, .ref xw])), (xs, .inl (K.2.2.1, 256, .inr (.inl (fun j => lN (sF' j))))), (xa, .inl (K.2.2.1, 256, .inr (.inl ((va_cpy (fun j => lN (sF' j)) (fun j => lN (rF j)) 0 0 256))))), (xb, .inl (K.2.2.1, 256, .inr (.inl (fun j => lN (pF j))))), (xv, .inl (K.2.2.1, 16, .inr (.inl (fun j => lN (vF j))))), (xw, .inl (K.2.2.1, 16, .inr (.inl (fun j => lN (bF j)))))]) hx hb (hml.trans hl.1.symm) hown (hts _ (List.mem_of_getElem? (i := 3) (by decide +kernel))) (hts _ (List.mem_of_getElem? (i := 4) (by decide +kernel))) (hts _ (List.mem_of_getElem? (i := 5) (by decide +kernel))) (hts _ (List.mem_of_getElem? (i := 6) (by decide +kernel))) hKK hP hD hS 1 2 rfl rfl (by omega) (by omega) (by omega) (by omega) (by omega) (Nat.le_of_ble_eq_true rfl) (Nat.le_of_ble_eq_true rfl) rfl (pc := 20) dX7_countRows_20 (fun H locs hP hD hS => ?_)
  rw [va_cpyN] at hP hD
  have hP : va_P K.1 vwCl (XW7 K xo xs xa xb xv xw sF' (va_cpy sF' rF 0 0 256) pF vF bF) H := hP
  have hD : va_D A (XW7 K xo xs xa xb xv xw sF' (va_cpy sF' rF 0 0 256) pF vF bF) := hD
  have hr0 : ∀ i j, i < n → j < n → va_cpy sF' rF 0 0 256 (i * 16 + j) = pwS n (aMy al E k) 0 i j := fun i j hi hj => by
    rw [cpy_in (by omega), hs' i j hi hj]
    rfl
  refine lv_iconst (v := nI 1) hx hb (pc := 23) dX7_countRows_23 (by decide) ?_
  refine lv_istore_n (lv' := [(3, .int (nI 1)), (0, .ref xo), (1, .ref go), (2, .int (nI nn))]) hx hb (pc := 24) dX7_countRows_24 rfl hl (by decide) rfl (fun ls hl => ?_)
  have L25 : ∀ (fz : Nat) (q : Nat) (xa1 : Nat) (xb1 : Nat) (rF1 : Nat → Nat) (pF1 : Nat → Nat) (H : Heap) (locs : List Loc) (hP : va_P K.1 vwCl (XW7 K xo xs xa1 xb1 xv xw sF' rF1 pF1 vF bF) H) (hD : va_D A (XW7 K xo xs xa1 xb1 xv xw sF' rF1 pF1 vF bF)) (hS : va_S A s.heap H locs) (hfz : nn - q < fz) (hq : q ≤ nn) (hq1 : 1 ≤ q) (hr1 : ∀ i j, i < n → j < n → rF1 (i * 16 + j) = pwS n (aMy al E k) (q - 1) i j) (ls : Array Slot) (hl : lv_has ls 4 [(0, .ref xo), (1, .ref go), (2, .int (nI nn)), (3, .int (nI q))]), W p l e rmX7_countRows s m args below meth c H locs 0 0 Q (F0 m 25 ls []) := by
    intro fz; induction fz with
    | zero => intro q xa1 xb1 rF1 pF1 H locs hP hD hS hfz hq hq1 hr1 ls hl; exact absurd hfz (Nat.not_lt_zero _)
    | succ fz ih25 =>
      intro q xa1 xb1 rF1 pF1 H locs hP hD hS hfz hq hq1 hr1 ls hl
      refine lv_iload_n hx hb (pc := 25) dX7_countRows_25 rfl (lv_at hl 3 rfl) ?_
      refine lv_iload_n hx hb (pc := 26) dX7_countRows_26 rfl (lv_at hl 2 rfl) ?_
      refine nv_icmp_ge (a := q) (b := nn) (tgt := 44) hx hb (pc := 27) dX7_countRows_27 (by decide) (by omega) (by omega) (fun c27 => ?_) (fun c27 => ?_)
      · have e9 : q = nn := by omega
        exact hret _ _ 0 0 44 _ dX7_countRows_44 (by omega) (by omega) hS (⟨_, _, _, _, _, fun i j hi hj => by rw [hr1 i j hi hj, e9], hP, hD⟩)
      · refine lv_aload_n hx hb (pc := 30) dX7_countRows_30 rfl (lv_at hl 0 rfl) ?_
        refine lv_aload_n hx hb (pc := 31) dX7_countRows_31 rfl (lv_at hl 1 rfl) ?_
        refine va_get (v := .int (nI n)) hx hb hts (inX7_countRows_1) hown hKK.1 (rr_ro (A := A) hG hGA hS) 0 rfl rfl 1 (by decide) (hts _ (List.mem_of_getElem? (i := 7) (by decide +kernel))) (fun _ h9 => h9) rfl (pc := 32) dX7_countRows_32 ?_
        refine rr_callV (pc := 35) (va_runV (As := [.int (nI n)]) (rest := []) ⟨hx, hb, hml, hown, hts⟩ (c_X7_lengthen l K A xo xs xa1 xb1 xv xw sF' rF1 pF1 vF bF n hn hD) (cwV 1 hts gX7_countRows_X7_lengthen rfl rfl rfl (by decide +kernel) ⟨Nat.le_of_ble_eq_true rfl, Nat.le_of_ble_eq_true rfl⟩) (rr_preV hKK (hP) (va_recv hKK.1 hP (ci := 7) (q0 := 0) rfl rfl)) rfl rfl hl.1 rfl (lv_room (Nat.le_of_ble_eq_true rfl)) dX7_countRows_35 ⟨by omega, by omega⟩) hS (fun _ h => h) (fun H locs hY hsz hfr hS => ?_)
        obtain ⟨pF', hp', hP, hD⟩ := hY
        have hD : va_D A (XW7 K xo xs xb1 xa1 xv xw sF' pF' rF1 vF bF) := hD
        have hP : va_P K.1 vwCl (XW7 K xo xs xb1 xa1 xv xw sF' pF' rF1 vF bF) H := hP
        refine lv_iinc (v := nI (q + 1)) (lv' := [(3, .int (nI (q + 1))), (0, .ref xo), (1, .ref go), (2, .int (nI nn))]) hx hb (pc := 38) dX7_countRows_38 hl (k := 3) rfl (rr_inc _) (by decide) rfl (fun ls hl => ?_)
        refine lv_goto (tgt := 25) hx hb (pc := 41) dX7_countRows_41 (by decide) ?_
        have hr2 : ∀ i j, i < n → j < n → pF' (i * 16 + j) = pwS n (aMy al E k) (q + 1 - 1) i j := fun i j hi hj => by
          rw [hp' i j hi hj, show q + 1 - 1 = q - 1 + 1 by omega, pwS_succ]
          exact sN_congr (fun o ho => by rw [hr1 i o hi ho, hs' o j ho hj])
        exact ih25 (q + 1) xb1 xa1 pF' rF1 _ _ hP hD hS (by omega) (by omega) (by omega) (hr2) ls (lv_sub hl [1, 2, 3, 0] rfl)
  exact L25 (nn) 1 xa xb (va_cpy sF' rF 0 0 256) pF _ _ hP hD hS (by omega) (by omega) (by omega) (hr0) ls (lv_sub hl [1, 2, 3, 0] rfl)

abbrev rmX7_closed : Room := { frames := 4, cells := 0, slots := 0, locals := 91 }
theorem inX7_closed_1 : ∀ w ∈ wsX10, w ∈ wsX7_closed := fun _ h => List.mem_cons_of_mem _ (List.mem_append_left _ (List.mem_append_right _ h))
theorem inX7_closed_7 : ∀ w ∈ wsX70, w ∈ wsX7_closed := fun _ h => List.mem_cons_of_mem _ (List.mem_append_right _ h)
set_option maxHeartbeats 4000000 in
set_option maxRecDepth 100000 in
theorem c_X7_closed (l : Launch) (K : rr_K) (A : Nat → Prop) (xo xs xa xb xv xw : Nat) (sF rF pF vF bF : Nat → Nat) (go ge gt k n gw al lw : Nat) (E T : Nat → Nat) (nn : Nat) (hk4 : k ≤ 4) (hn : n ≤ 16) (hal : al < 65536) (h1n : 1 ≤ nn) (hnn : nn ≤ 1000) (hD : va_D A (XW7 K xo xs xa xb xv xw sF rF pF vF bF)) (hGA : ∀ (k_ : Nat) (q_ : Nat × va_E), (GW K go ge gt k n gw al lw E T)[k_]? = some q_ → ¬ A q_.1) : MetR l K yX7_closed wsX7_closed rmX7_closed [.ref xo, .ref go, .int (nI nn)] (fun H => va_P K.1 vwCl (XW7 K xo xs xa xb xv xw sF rF pF vF bF) H ∧ va_P K.1 vwCl (GW K go ge gt k n gw al lw E T) H) A (fun v H => v = .long (lN (sN n (fun q => pwS n (aMy al E k) (nn - 1) q q))) ∧ ∃ xa' xb' sF' rF' pF', va_P K.1 vwCl (XW7 K xo xs xa' xb' xv xw sF' rF' pF' vF bF) H ∧ va_D A (XW7 K xo xs xa' xb' xv xw sF' rF' pF' vF bF)) 0 0 := by
  refine metR_of (cc := cX7_closed) (maxL := 6) (ret := (some .long)) (rt := .long) (by decide) rfl rfl rfl rfl (Nat.le_of_ble_eq_true rfl) ?_
  intro p e s m args below meth c Q ls hEnt hKK hX hret hl
  obtain ⟨hx, hb, hml, hown, hts⟩ := hEnt
  obtain ⟨hP, hG⟩ := hX
  have hP : va_P K.1 vwCl (XW7 K xo xs xa xb xv xw sF rF pF vF bF) s.heap := hP
  have hG : va_P K.1 vwCl (GW K go ge gt k n gw al lw E T) s.heap := hG
  have hl : lv_has ls 6 [(0, .ref xo), (1, .ref go), (2, .int (nI nn))] := hl
  have hS : va_S A s.heap s.heap [] := va_S.rf
  refine lv_aload_n hx hb (pc := 0) dX7_closed_0 rfl (lv_at hl 0 rfl) ?_
  refine lv_aload_n hx hb (pc := 1) dX7_closed_1 rfl (lv_at hl 1 rfl) ?_
  refine lv_iload_n hx hb (pc := 2) dX7_closed_2 rfl (lv_at hl 2 rfl) ?_
  refine rr_callV (pc := 3) (va_runV (As := [.ref go, .int (nI nn)]) (rest := []) ⟨hx, hb, hml, hown, hts⟩ (c_X7_countRows l K A xo xs xa xb xv xw sF rF pF vF bF go ge gt k n gw al lw E T nn hk4 hn hal (by omega) (by omega) hD hGA) (cwV 2 hts gX7_closed_X7_countRows rfl rfl rfl (by decide +kernel) ⟨Nat.le_of_ble_eq_true rfl, Nat.le_of_ble_eq_true rfl⟩) (rr_preV hKK (⟨hP, hG⟩) (va_recv hKK.1 hP (ci := 7) (q0 := 0) rfl rfl)) rfl rfl hl.1 rfl (lv_room (Nat.le_of_ble_eq_true rfl)) dX7_closed_3 ⟨by omega, by omega⟩) hS (fun _ h => h) (fun H locs hY hsz hfr hS => ?_)
  obtain ⟨xa', xb', sF', rF', pF', hr', hP, hD⟩ := hY
  have hD : va_D A (XW7 K xo xs xa' xb' xv xw sF' rF' pF' vF bF) := hD
  have hP : va_P K.1 vwCl (XW7 K xo xs xa' xb' xv xw sF' rF' pF' vF bF) H := hP
  refine lv_lconst (v := lN 0) hx hb (pc := 6) dX7_closed_6 (by decide) ?_
  refine lv_lstore_n (lv' := [(3, .long (lN (0))), (0, .ref xo), (1, .ref go), (2, .int (nI nn))]) hx hb (pc := 7) dX7_closed_7 rfl hl (by decide) rfl (fun ls hl => ?_)
  refine lv_iconst (v := nI 0) hx hb (pc := 8) dX7_closed_8 (by decide) ?_
  refine lv_istore (lv' := [(5, .int (nI 0)), (3, .long (lN (0))), (0, .ref xo), (1, .ref go), (2, .int (nI nn))]) hx hb (pc := 9) dX7_closed_9 hl (by decide) rfl (fun ls hl => ?_)
  have L11 : ∀ (fz : Nat) (q : Nat) (H : Heap) (locs : List Loc) (hP : va_P K.1 vwCl (XW7 K xo xs xa' xb' xv xw sF' rF' pF' vF bF) H) (hD : va_D A (XW7 K xo xs xa' xb' xv xw sF' rF' pF' vF bF)) (hS : va_S A s.heap H locs) (hfz : n - q < fz) (hq : q ≤ n) (ls : Array Slot) (hl : lv_has ls 6 [(0, .ref xo), (1, .ref go), (3, .long (lN (sN q (fun q => rF' (q * 16 + q))))), (5, .int (nI q))]), W p l e rmX7_closed s m args below meth c H locs 0 0 Q (F0 m 11 ls []) := by
    intro fz; induction fz with
    | zero => intro q H locs hP hD hS hfz hq ls hl; exact absurd hfz (Nat.not_lt_zero _)
    | succ fz ih11 =>
      intro q H locs hP hD hS hfz hq ls hl
      refine lv_iload hx hb (pc := 11) dX7_closed_11 (lv_at hl 3 rfl) ?_
      refine lv_aload_n hx hb (pc := 13) dX7_closed_13 rfl (lv_at hl 1 rfl) ?_
      refine va_get (v := .int (nI n)) hx hb hts (inX7_closed_1) hown hKK.1 (rr_ro (A := A) hG hGA hS) 0 rfl rfl 1 (by decide) (hts _ (List.mem_of_getElem? (i := 1) (by decide +kernel))) (fun _ h9 => h9) rfl (pc := 14) dX7_closed_14 ?_
      refine nv_icmp_ge (a := q) (b := n) (tgt := 42) hx hb (pc := 17) dX7_closed_17 (by decide) (by omega) (by omega) (fun c17 => ?_) (fun c17 => ?_)
      · refine lv_lload_n hx hb (pc := 42) dX7_closed_42 rfl (lv_at hl 2 rfl) ?_
        have e9 : q = n := by omega
        exact hret.2.1 _ _ 0 0 43 _ (lN (sN q (fun q => rF' (q * 16 + q)))) dX7_closed_43 (by omega) (by omega) hS (⟨by rw [e9, sN_congr (fun i hi => hr' i i hi hi)], _, _, _, _, _, hP, hD⟩) rfl
      · refine lv_lload_n hx hb (pc := 20) dX7_closed_20 rfl (lv_at hl 2 rfl) ?_
        refine lv_aload_n hx hb (pc := 21) dX7_closed_21 rfl (lv_at hl 0 rfl) ?_
        refine va_get (v := .ref xa') hx hb hts (inX7_closed_7) hown hKK.1 hP 0 rfl rfl 1 (by decide) (hts _ (List.mem_of_getElem? (i := 2) (by decide +kernel))) (fun _ h9 => h9) rfl (pc := 22) dX7_closed_22 ?_
        refine lv_iload hx hb (pc := 25) dX7_closed_25 (lv_at hl 3 rfl) ?_
        refine lv_bipush (v := nI 16) hx hb (pc := 27) dX7_closed_27 (by decide) ?_
        refine nv_imul (a := q) (b := 16) hx hb (pc := 29) dX7_closed_29 ?_
        refine lv_iload hx hb (pc := 30) dX7_closed_30 (lv_at hl 3 rfl) ?_
        refine nv_iadd (a := (q * 16)) (b := q) hx hb (pc := 32) dX7_closed_32 ?_
        refine nv_lald (v := lN (rF' ((q * 16) + q))) (i := ((q * 16) + q)) hx hb hKK hP 2 rfl (by omega) (by decide) (rfl) (pc := 33) dX7_closed_33 ?_
        refine nv_ladd (a := (sN q (fun q => rF' (q * 16 + q)))) (b := (rF' ((q * 16) + q))) hx hb (pc := 34) dX7_closed_34 ?_
        refine lv_lstore_n (lv' := [(3, .long (lN ((sN q (fun q => rF' (q * 16 + q))) + (rF' ((q * 16) + q))))), (0, .ref xo), (1, .ref go), (5, .int (nI q))]) hx hb (pc := 35) dX7_closed_35 rfl hl (by decide) rfl (fun ls hl => ?_)
        refine lv_iinc (v := nI (q + 1)) (lv' := [(5, .int (nI (q + 1))), (3, .long (lN ((sN q (fun q => rF' (q * 16 + q))) + (rF' ((q * 16) + q))))), (0, .ref xo), (1, .ref go)]) hx hb (pc := 36) dX7_closed_36 hl (k := 3) rfl (rr_inc _) (by decide) rfl (fun ls hl => ?_)
        refine lv_goto (tgt := 11) hx hb (pc := 39) dX7_closed_39 (by decide) ?_
        have hl : lv_has ls 6 [(5, .int (nI (q + 1))), (3, .long (lN (sN (q + 1) (fun q => rF' (q * 16 + q))))), (0, .ref xo), (1, .ref go)] := by rw [show sN (q + 1) (fun q => rF' (q * 16 + q)) = (sN q (fun q => rF' (q * 16 + q))) + (rF' ((q * 16) + q)) from rfl]; exact hl
        exact ih11 (q + 1) _ _ hP hD hS (by omega) (by omega) ls (lv_sub hl [2, 3, 1, 0] rfl)
  have hl : lv_has ls 6 [(5, .int (nI 0)), (3, .long (lN (sN 0 (fun q => rF' (q * 16 + q))))), (0, .ref xo), (1, .ref go), (2, .int (nI nn))] := by rw [show sN 0 (fun q => rF' (q * 16 + q)) = 0 from rfl]; exact hl
  exact L11 (17) 0 _ _ hP hD hS (by omega) (Nat.zero_le _) ls (lv_sub hl [2, 3, 1, 0] rfl)

abbrev rmX7_sideOf : Room := { frames := 0, cells := 0, slots := 0, locals := 0 }
set_option maxHeartbeats 4000000 in
set_option maxRecDepth 100000 in
theorem c_X7_sideOf (l : Launch) (K : rr_K) (aa bb cc dd : Nat) (haa : aa < 2 ^ 63) (hbb : bb < 2 ^ 63) (hcc : cc < 2 ^ 63) (hdd : dd < 2 ^ 63) : MetP l K yX7_sideOf wsX7_sideOf rmX7_sideOf [.long (lN (aa)), .long (lN (bb)), .long (lN (cc)), .long (lN (dd))] (fun H => True) (.int (sd aa bb cc dd)) := by
  refine metP_of (cc := cX7_sideOf) (maxL := 20) (ret := (some .int)) (rt := .int) (by decide) rfl rfl (Nat.le_of_ble_eq_true rfl) ?_
  intro p e s m args below meth c Q ls hEnt hKK hX hret hl
  obtain ⟨hx, hb, hml, hown, hts⟩ := hEnt
  have hl : lv_has ls 20 [(0, .long (lN (aa))), (2, .long (lN (bb))), (4, .long (lN (cc))), (6, .long (lN (dd)))] := hl
  refine lv_lload_n hx hb (pc := 0) dX7_sideOf_0 rfl (lv_at hl 0 rfl) ?_
  refine lv_lstore (lv' := [(8, .long (lN (aa))), (0, .long (lN (aa))), (2, .long (lN (bb))), (4, .long (lN (cc))), (6, .long (lN (dd)))]) hx hb (pc := 1) dX7_sideOf_1 hl (by decide) rfl (fun ls hl => ?_)
  refine lv_lload_n hx hb (pc := 3) dX7_sideOf_3 rfl (lv_at hl 2 rfl) ?_
  refine lv_lstore (lv' := [(10, .long (lN (bb))), (8, .long (lN (aa))), (0, .long (lN (aa))), (2, .long (lN (bb))), (4, .long (lN (cc))), (6, .long (lN (dd)))]) hx hb (pc := 4) dX7_sideOf_4 hl (by decide) rfl (fun ls hl => ?_)
  refine lv_lload hx hb (pc := 6) dX7_sideOf_6 (lv_at hl 4 rfl) ?_
  refine lv_lstore (lv' := [(12, .long (lN (cc))), (10, .long (lN (bb))), (8, .long (lN (aa))), (0, .long (lN (aa))), (2, .long (lN (bb))), (4, .long (lN (cc))), (6, .long (lN (dd)))]) hx hb (pc := 8) dX7_sideOf_8 hl (by decide) rfl (fun ls hl => ?_)
  refine lv_lload hx hb (pc := 10) dX7_sideOf_10 (lv_at hl 6 rfl) ?_
  refine lv_lstore (lv' := [(14, .long (lN (dd))), (12, .long (lN (cc))), (10, .long (lN (bb))), (8, .long (lN (aa))), (0, .long (lN (aa))), (2, .long (lN (bb))), (4, .long (lN (cc))), (6, .long (lN (dd)))]) hx hb (pc := 12) dX7_sideOf_12 hl (by decide) rfl (fun ls hl => ?_)
  refine lv_iconst (v := nI 1) hx hb (pc := 14) dX7_sideOf_14 (by decide) ?_
  refine lv_istore (lv' := [(16, .int (nI 1)), (14, .long (lN (dd))), (12, .long (lN (cc))), (10, .long (lN (bb))), (8, .long (lN (aa))), (0, .long (lN (aa))), (2, .long (lN (bb))), (4, .long (lN (cc))), (6, .long (lN (dd)))]) hx hb (pc := 15) dX7_sideOf_15 hl (by decide) rfl (fun ls hl => ?_)
  refine lv_iconst (v := nI 0) hx hb (pc := 17) dX7_sideOf_17 (by decide) ?_
  refine lv_istore (lv' := [(17, .int (nI 0)), (16, .int (nI 1)), (14, .long (lN (dd))), (12, .long (lN (cc))), (10, .long (lN (bb))), (8, .long (lN (aa))), (0, .long (lN (aa))), (2, .long (lN (bb))), (4, .long (lN (cc))), (6, .long (lN (dd)))]) hx hb (pc := 18) dX7_sideOf_18 hl (by decide) rfl (fun ls hl => ?_)
  have L20 : ∀ (fz : Nat) (x : Nat) (y : Nat) (z : Nat) (w : Nat) (i : Nat) (ng : Bool) (hfz : 100 - i < fz) (hi : i ≤ 100) (hxb : x < 2 ^ 63) (hyb : y < 2 ^ 63) (hzb : z < 2 ^ 63) (hwb : w < 2 ^ 63) (hg : sd aa bb cc dd = sdF (100 - i) ng x y z w) (ls : Array Slot) (hl : lv_has ls 20 [(8, .long (lN (x))), (10, .long (lN (y))), (12, .long (lN (z))), (14, .long (lN (w))), (16, .int (sg ng)), (17, .int (nI i))]), W p l e rmX7_sideOf s m args below meth c s.heap [] 0 0 Q (F0 m 20 ls []) := by
    intro fz; induction fz with
    | zero => intro x y z w i ng hfz hi hxb hyb hzb hwb hg ls hl; exact absurd hfz (Nat.not_lt_zero _)
    | succ fz ih20 =>
      intro x y z w i ng hfz hi hxb hyb hzb hwb hg ls hl
      refine lv_iload hx hb (pc := 20) dX7_sideOf_20 (lv_at hl 5 rfl) ?_
      refine lv_bipush (v := nI 100) hx hb (pc := 22) dX7_sideOf_22 (by decide) ?_
      refine nv_icmp_ge (a := i) (b := 100) (tgt := 119) hx hb (pc := 24) dX7_sideOf_24 (by decide) (by omega) (by omega) (fun c24 => ?_) (fun c24 => ?_)
      · refine lv_lload hx hb (pc := 119) dX7_sideOf_119 (lv_at hl 1 rfl) ?_
        refine lv_lconst (v := lN 0) hx hb (pc := 121) dX7_sideOf_121 (by decide) ?_
        refine nv_lcmp_ne (a := y) (b := 0) (tgt := 135) hx hb (pc := 122) dX7_sideOf_122 dX7_sideOf_123 (by decide) (by omega) (by omega) (fun c122 => ?_) (fun c122 => ?_)
        · refine lv_lload hx hb (pc := 135) dX7_sideOf_135 (lv_at hl 1 rfl) ?_
          refine lv_lconst (v := lN 0) hx hb (pc := 137) dX7_sideOf_137 (by decide) ?_
          refine nv_lcmp_ne (a := y) (b := 0) (tgt := 147) hx hb (pc := 138) dX7_sideOf_138 dX7_sideOf_139 (by decide) (by omega) (by omega) (fun c138 => ?_) (fun c138 => ?_)
          · refine lv_iload hx hb (pc := 147) dX7_sideOf_147 (lv_at hl 4 rfl) ?_
            refine lv_ineg hx hb (pc := 149) dX7_sideOf_149 ?_
            exact hret.1 150 _ (-(sg ng)) dX7_sideOf_150 (by rw [hg, sdF_end (by omega)]; first | (rw [if_pos (by omega)]; done) | (rw [if_neg (by omega), if_pos (by omega)]; done) | (rw [if_neg (by omega), if_neg (by omega), sg_not]; done)) (rfl)
          · refine lv_iload hx hb (pc := 142) dX7_sideOf_142 (lv_at hl 4 rfl) ?_
            refine lv_goto (tgt := 150) hx hb (pc := 144) dX7_sideOf_144 (by decide) ?_
            exact hret.1 150 _ (sg ng) dX7_sideOf_150 (by rw [hg, sdF_end (by omega)]; first | (rw [if_pos (by omega)]; done) | (rw [if_neg (by omega), if_pos (by omega)]; done) | (rw [if_neg (by omega), if_neg (by omega), sg_not]; done)) (rfl)
        · refine lv_lload hx hb (pc := 126) dX7_sideOf_126 (lv_at hl 3 rfl) ?_
          refine lv_lconst (v := lN 0) hx hb (pc := 128) dX7_sideOf_128 (by decide) ?_
          refine nv_lcmp_ne (a := w) (b := 0) (tgt := 135) hx hb (pc := 129) dX7_sideOf_129 dX7_sideOf_130 (by decide) (by omega) (by omega) (fun c129 => ?_) (fun c129 => ?_)
          · refine lv_lload hx hb (pc := 135) dX7_sideOf_135 (lv_at hl 1 rfl) ?_
            refine lv_lconst (v := lN 0) hx hb (pc := 137) dX7_sideOf_137 (by decide) ?_
            refine nv_lcmp_ne (a := y) (b := 0) (tgt := 147) hx hb (pc := 138) dX7_sideOf_138 dX7_sideOf_139 (by decide) (by omega) (by omega) (fun c138 => ?_) (fun c138 => ?_)
            · refine lv_iload hx hb (pc := 147) dX7_sideOf_147 (lv_at hl 4 rfl) ?_
              refine lv_ineg hx hb (pc := 149) dX7_sideOf_149 ?_
              exact hret.1 150 _ (-(sg ng)) dX7_sideOf_150 (by rw [hg, sdF_end (by omega)]; first | (rw [if_pos (by omega)]; done) | (rw [if_neg (by omega), if_pos (by omega)]; done) | (rw [if_neg (by omega), if_neg (by omega), sg_not]; done)) (rfl)
            · refine lv_iload hx hb (pc := 142) dX7_sideOf_142 (lv_at hl 4 rfl) ?_
              refine lv_goto (tgt := 150) hx hb (pc := 144) dX7_sideOf_144 (by decide) ?_
              exact hret.1 150 _ (sg ng) dX7_sideOf_150 (by rw [hg, sdF_end (by omega)]; first | (rw [if_pos (by omega)]; done) | (rw [if_neg (by omega), if_pos (by omega)]; done) | (rw [if_neg (by omega), if_neg (by omega), sg_not]; done)) (rfl)
          · refine lv_iconst (v := nI 0) hx hb (pc := 133) dX7_sideOf_133 (by decide) ?_
            exact hret.1 134 _ (nI 0) dX7_sideOf_134 (by rw [hg, sdF_end (by omega)]; first | (rw [if_pos (by omega)]; done) | (rw [if_neg (by omega), if_pos (by omega)]; done) | (rw [if_neg (by omega), if_neg (by omega), sg_not]; done)) (rfl)
      · refine lv_lload hx hb (pc := 27) dX7_sideOf_27 (lv_at hl 1 rfl) ?_
        refine lv_lconst (v := lN 0) hx hb (pc := 29) dX7_sideOf_29 (by decide) ?_
        refine nv_lcmp_eq (a := y) (b := 0) (tgt := 119) hx hb (pc := 30) dX7_sideOf_30 dX7_sideOf_31 (by decide) (by omega) (by omega) (fun c30 => ?_) (fun c30 => ?_)
        · refine lv_lload hx hb (pc := 119) dX7_sideOf_119 (lv_at hl 1 rfl) ?_
          refine lv_lconst (v := lN 0) hx hb (pc := 121) dX7_sideOf_121 (by decide) ?_
          refine nv_lcmp_ne (a := y) (b := 0) (tgt := 135) hx hb (pc := 122) dX7_sideOf_122 dX7_sideOf_123 (by decide) (by omega) (by omega) (fun c122 => ?_) (fun c122 => ?_)
          · refine lv_lload hx hb (pc := 135) dX7_sideOf_135 (lv_at hl 1 rfl) ?_
            refine lv_lconst (v := lN 0) hx hb (pc := 137) dX7_sideOf_137 (by decide) ?_
            refine nv_lcmp_ne (a := y) (b := 0) (tgt := 147) hx hb (pc := 138) dX7_sideOf_138 dX7_sideOf_139 (by decide) (by omega) (by omega) (fun c138 => ?_) (fun c138 => ?_)
            · refine lv_iload hx hb (pc := 147) dX7_sideOf_147 (lv_at hl 4 rfl) ?_
              refine lv_ineg hx hb (pc := 149) dX7_sideOf_149 ?_
              exact hret.1 150 _ (-(sg ng)) dX7_sideOf_150 (by rw [hg, sdF_end (by omega)]; first | (rw [if_pos (by omega)]; done) | (rw [if_neg (by omega), if_pos (by omega)]; done) | (rw [if_neg (by omega), if_neg (by omega), sg_not]; done)) (rfl)
            · refine lv_iload hx hb (pc := 142) dX7_sideOf_142 (lv_at hl 4 rfl) ?_
              refine lv_goto (tgt := 150) hx hb (pc := 144) dX7_sideOf_144 (by decide) ?_
              exact hret.1 150 _ (sg ng) dX7_sideOf_150 (by rw [hg, sdF_end (by omega)]; first | (rw [if_pos (by omega)]; done) | (rw [if_neg (by omega), if_pos (by omega)]; done) | (rw [if_neg (by omega), if_neg (by omega), sg_not]; done)) (rfl)
          · refine lv_lload hx hb (pc := 126) dX7_sideOf_126 (lv_at hl 3 rfl) ?_
            refine lv_lconst (v := lN 0) hx hb (pc := 128) dX7_sideOf_128 (by decide) ?_
            refine nv_lcmp_ne (a := w) (b := 0) (tgt := 135) hx hb (pc := 129) dX7_sideOf_129 dX7_sideOf_130 (by decide) (by omega) (by omega) (fun c129 => ?_) (fun c129 => ?_)
            · refine lv_lload hx hb (pc := 135) dX7_sideOf_135 (lv_at hl 1 rfl) ?_
              refine lv_lconst (v := lN 0) hx hb (pc := 137) dX7_sideOf_137 (by decide) ?_
              refine nv_lcmp_ne (a := y) (b := 0) (tgt := 147) hx hb (pc := 138) dX7_sideOf_138 dX7_sideOf_139 (by decide) (by omega) (by omega) (fun c138 => ?_) (fun c138 => ?_)
              · refine lv_iload hx hb (pc := 147) dX7_sideOf_147 (lv_at hl 4 rfl) ?_
                refine lv_ineg hx hb (pc := 149) dX7_sideOf_149 ?_
                exact hret.1 150 _ (-(sg ng)) dX7_sideOf_150 (by rw [hg, sdF_end (by omega)]; first | (rw [if_pos (by omega)]; done) | (rw [if_neg (by omega), if_pos (by omega)]; done) | (rw [if_neg (by omega), if_neg (by omega), sg_not]; done)) (rfl)
              · refine lv_iload hx hb (pc := 142) dX7_sideOf_142 (lv_at hl 4 rfl) ?_
                refine lv_goto (tgt := 150) hx hb (pc := 144) dX7_sideOf_144 (by decide) ?_
                exact hret.1 150 _ (sg ng) dX7_sideOf_150 (by rw [hg, sdF_end (by omega)]; first | (rw [if_pos (by omega)]; done) | (rw [if_neg (by omega), if_pos (by omega)]; done) | (rw [if_neg (by omega), if_neg (by omega), sg_not]; done)) (rfl)
            · refine lv_iconst (v := nI 0) hx hb (pc := 133) dX7_sideOf_133 (by decide) ?_
              exact hret.1 134 _ (nI 0) dX7_sideOf_134 (by rw [hg, sdF_end (by omega)]; first | (rw [if_pos (by omega)]; done) | (rw [if_neg (by omega), if_pos (by omega)]; done) | (rw [if_neg (by omega), if_neg (by omega), sg_not]; done)) (rfl)
        · refine lv_lload hx hb (pc := 34) dX7_sideOf_34 (lv_at hl 3 rfl) ?_
          refine lv_lconst (v := lN 0) hx hb (pc := 36) dX7_sideOf_36 (by decide) ?_
          refine nv_lcmp_eq (a := w) (b := 0) (tgt := 119) hx hb (pc := 37) dX7_sideOf_37 dX7_sideOf_38 (by decide) (by omega) (by omega) (fun c37 => ?_) (fun c37 => ?_)
          · refine lv_lload hx hb (pc := 119) dX7_sideOf_119 (lv_at hl 1 rfl) ?_
            refine lv_lconst (v := lN 0) hx hb (pc := 121) dX7_sideOf_121 (by decide) ?_
            refine nv_lcmp_ne (a := y) (b := 0) (tgt := 135) hx hb (pc := 122) dX7_sideOf_122 dX7_sideOf_123 (by decide) (by omega) (by omega) (fun c122 => ?_) (fun c122 => ?_)
            · refine lv_lload hx hb (pc := 135) dX7_sideOf_135 (lv_at hl 1 rfl) ?_
              refine lv_lconst (v := lN 0) hx hb (pc := 137) dX7_sideOf_137 (by decide) ?_
              refine nv_lcmp_ne (a := y) (b := 0) (tgt := 147) hx hb (pc := 138) dX7_sideOf_138 dX7_sideOf_139 (by decide) (by omega) (by omega) (fun c138 => ?_) (fun c138 => ?_)
              · refine lv_iload hx hb (pc := 147) dX7_sideOf_147 (lv_at hl 4 rfl) ?_
                refine lv_ineg hx hb (pc := 149) dX7_sideOf_149 ?_
                exact hret.1 150 _ (-(sg ng)) dX7_sideOf_150 (by rw [hg, sdF_end (by omega)]; first | (rw [if_pos (by omega)]; done) | (rw [if_neg (by omega), if_pos (by omega)]; done) | (rw [if_neg (by omega), if_neg (by omega), sg_not]; done)) (rfl)
              · refine lv_iload hx hb (pc := 142) dX7_sideOf_142 (lv_at hl 4 rfl) ?_
                refine lv_goto (tgt := 150) hx hb (pc := 144) dX7_sideOf_144 (by decide) ?_
                exact hret.1 150 _ (sg ng) dX7_sideOf_150 (by rw [hg, sdF_end (by omega)]; first | (rw [if_pos (by omega)]; done) | (rw [if_neg (by omega), if_pos (by omega)]; done) | (rw [if_neg (by omega), if_neg (by omega), sg_not]; done)) (rfl)
            · refine lv_lload hx hb (pc := 126) dX7_sideOf_126 (lv_at hl 3 rfl) ?_
              refine lv_lconst (v := lN 0) hx hb (pc := 128) dX7_sideOf_128 (by decide) ?_
              refine nv_lcmp_ne (a := w) (b := 0) (tgt := 135) hx hb (pc := 129) dX7_sideOf_129 dX7_sideOf_130 (by decide) (by omega) (by omega) (fun c129 => ?_) (fun c129 => ?_)
              · refine lv_lload hx hb (pc := 135) dX7_sideOf_135 (lv_at hl 1 rfl) ?_
                refine lv_lconst (v := lN 0) hx hb (pc := 137) dX7_sideOf_137 (by decide) ?_
                refine nv_lcmp_ne (a := y) (b := 0) (tgt := 147) hx hb (pc := 138) dX7_sideOf_138 dX7_sideOf_139 (by decide) (by omega) (by omega) (fun c138 => ?_) (fun c138 => ?_)
                · refine lv_iload hx hb (pc := 147) dX7_sideOf_147 (lv_at hl 4 rfl) ?_
                  refine lv_ineg hx hb (pc := 149) dX7_sideOf_149 ?_
                  exact hret.1 150 _ (-(sg ng)) dX7_sideOf_150 (by rw [hg, sdF_end (by omega)]; first | (rw [if_pos (by omega)]; done) | (rw [if_neg (by omega), if_pos (by omega)]; done) | (rw [if_neg (by omega), if_neg (by omega), sg_not]; done)) (rfl)
                · refine lv_iload hx hb (pc := 142) dX7_sideOf_142 (lv_at hl 4 rfl) ?_
                  refine lv_goto (tgt := 150) hx hb (pc := 144) dX7_sideOf_144 (by decide) ?_
                  exact hret.1 150 _ (sg ng) dX7_sideOf_150 (by rw [hg, sdF_end (by omega)]; first | (rw [if_pos (by omega)]; done) | (rw [if_neg (by omega), if_pos (by omega)]; done) | (rw [if_neg (by omega), if_neg (by omega), sg_not]; done)) (rfl)
              · refine lv_iconst (v := nI 0) hx hb (pc := 133) dX7_sideOf_133 (by decide) ?_
                exact hret.1 134 _ (nI 0) dX7_sideOf_134 (by rw [hg, sdF_end (by omega)]; first | (rw [if_pos (by omega)]; done) | (rw [if_neg (by omega), if_pos (by omega)]; done) | (rw [if_neg (by omega), if_neg (by omega), sg_not]; done)) (rfl)
          · refine lv_lload hx hb (pc := 41) dX7_sideOf_41 (lv_at hl 0 rfl) ?_
            refine lv_lload hx hb (pc := 43) dX7_sideOf_43 (lv_at hl 1 rfl) ?_
            refine nv_ldiv (a := x) (b := y) hx hb (pc := 45) dX7_sideOf_45 (by omega) (by omega) (by omega) ?_
            refine lv_lload hx hb (pc := 46) dX7_sideOf_46 (lv_at hl 2 rfl) ?_
            refine lv_lload hx hb (pc := 48) dX7_sideOf_48 (lv_at hl 3 rfl) ?_
            refine nv_ldiv (a := z) (b := w) hx hb (pc := 50) dX7_sideOf_50 (by omega) (by omega) (by omega) ?_
            have hq1 : x / y ≤ x := Nat.div_le_self _ _
            have hq2 : z / w ≤ z := Nat.div_le_self _ _
            refine nv_lcmp_eq (a := (x / y)) (b := (z / w)) (tgt := 78) hx hb (pc := 51) dX7_sideOf_51 dX7_sideOf_52 (by decide) (by omega) (by omega) (fun c51 => ?_) (fun c51 => ?_)
            · refine lv_lload hx hb (pc := 78) dX7_sideOf_78 (lv_at hl 0 rfl) ?_
              refine lv_lload hx hb (pc := 80) dX7_sideOf_80 (lv_at hl 1 rfl) ?_
              refine nv_lrem (a := x) (b := y) hx hb (pc := 82) dX7_sideOf_82 (by omega) (by omega) (by omega) ?_
              refine lv_lstore (lv' := [(18, .long (lN (x % y))), (8, .long (lN (x))), (10, .long (lN (y))), (12, .long (lN (z))), (14, .long (lN (w))), (16, .int (sg ng)), (17, .int (nI i))]) hx hb (pc := 83) dX7_sideOf_83 hl (by decide) rfl (fun ls hl => ?_)
              refine lv_lload hx hb (pc := 85) dX7_sideOf_85 (lv_at hl 2 rfl) ?_
              refine lv_lstore (lv' := [(8, .long (lN (y))), (18, .long (lN (x % y))), (10, .long (lN (y))), (12, .long (lN (z))), (14, .long (lN (w))), (16, .int (sg ng)), (17, .int (nI i))]) hx hb (pc := 87) dX7_sideOf_87 hl (by decide) rfl (fun ls hl => ?_)
              refine lv_lload hx hb (pc := 89) dX7_sideOf_89 (lv_at hl 1 rfl) ?_
              refine lv_lstore (lv' := [(10, .long (lN (x % y))), (8, .long (lN (y))), (18, .long (lN (x % y))), (12, .long (lN (z))), (14, .long (lN (w))), (16, .int (sg ng)), (17, .int (nI i))]) hx hb (pc := 91) dX7_sideOf_91 hl (by decide) rfl (fun ls hl => ?_)
              refine lv_lload hx hb (pc := 93) dX7_sideOf_93 (lv_at hl 3 rfl) ?_
              refine lv_lload hx hb (pc := 95) dX7_sideOf_95 (lv_at hl 4 rfl) ?_
              refine nv_lrem (a := z) (b := w) hx hb (pc := 97) dX7_sideOf_97 (by omega) (by omega) (by omega) ?_
              refine lv_lstore (lv' := [(18, .long (lN (z % w))), (10, .long (lN (x % y))), (8, .long (lN (y))), (12, .long (lN (z))), (14, .long (lN (w))), (16, .int (sg ng)), (17, .int (nI i))]) hx hb (pc := 98) dX7_sideOf_98 hl (by decide) rfl (fun ls hl => ?_)
              refine lv_lload hx hb (pc := 100) dX7_sideOf_100 (lv_at hl 4 rfl) ?_
              refine lv_lstore (lv' := [(12, .long (lN (w))), (18, .long (lN (z % w))), (10, .long (lN (x % y))), (8, .long (lN (y))), (14, .long (lN (w))), (16, .int (sg ng)), (17, .int (nI i))]) hx hb (pc := 102) dX7_sideOf_102 hl (by decide) rfl (fun ls hl => ?_)
              refine lv_lload hx hb (pc := 104) dX7_sideOf_104 (lv_at hl 1 rfl) ?_
              refine lv_lstore (lv' := [(14, .long (lN (z % w))), (12, .long (lN (w))), (18, .long (lN (z % w))), (10, .long (lN (x % y))), (8, .long (lN (y))), (16, .int (sg ng)), (17, .int (nI i))]) hx hb (pc := 106) dX7_sideOf_106 hl (by decide) rfl (fun ls hl => ?_)
              refine lv_iload hx hb (pc := 108) dX7_sideOf_108 (lv_at hl 5 rfl) ?_
              refine lv_ineg hx hb (pc := 110) dX7_sideOf_110 ?_
              refine lv_istore (lv' := [(16, .int (-(sg ng))), (14, .long (lN (z % w))), (12, .long (lN (w))), (18, .long (lN (z % w))), (10, .long (lN (x % y))), (8, .long (lN (y))), (17, .int (nI i))]) hx hb (pc := 111) dX7_sideOf_111 hl (by decide) rfl (fun ls hl => ?_)
              refine lv_iinc (v := nI (i + 1)) (lv' := [(17, .int (nI (i + 1))), (16, .int (-(sg ng))), (14, .long (lN (z % w))), (12, .long (lN (w))), (18, .long (lN (z % w))), (10, .long (lN (x % y))), (8, .long (lN (y)))]) hx hb (pc := 113) dX7_sideOf_113 hl (k := 6) rfl (rr_inc _) (by decide) rfl (fun ls hl => ?_)
              refine lv_goto (tgt := 20) hx hb (pc := 116) dX7_sideOf_116 (by decide) ?_
              have hm1 := Nat.mod_lt x (show 0 < y by omega)
              have hm2 := Nat.mod_lt z (show 0 < w by omega)
              have hl : lv_has ls 20 [(17, .int (nI (i + 1))), (16, .int (sg (!ng))), (14, .long (lN (z % w))), (12, .long (lN (w))), (18, .long (lN (z % w))), (10, .long (lN (x % y))), (8, .long (lN (y)))] := by rw [show sg (!ng) = -(sg ng) from (sg_not ng).symm]; exact hl
              exact ih20 y (x % y) w (z % w) (i + 1) (!ng) (by omega) (by omega) (hyb) (by omega) (hwb) (by omega) (by rw [hg, show 100 - i = 100 - (i + 1) + 1 by omega, sdF_on c30 c37 c51]) ls (lv_sub hl [6, 5, 3, 2, 1, 0] rfl)
            · refine lv_lload hx hb (pc := 55) dX7_sideOf_55 (lv_at hl 0 rfl) ?_
              refine lv_lload hx hb (pc := 57) dX7_sideOf_57 (lv_at hl 1 rfl) ?_
              refine nv_ldiv (a := x) (b := y) hx hb (pc := 59) dX7_sideOf_59 (by omega) (by omega) (by omega) ?_
              refine lv_lload hx hb (pc := 60) dX7_sideOf_60 (lv_at hl 2 rfl) ?_
              refine lv_lload hx hb (pc := 62) dX7_sideOf_62 (lv_at hl 3 rfl) ?_
              refine nv_ldiv (a := z) (b := w) hx hb (pc := 64) dX7_sideOf_64 (by omega) (by omega) (by omega) ?_
              have hg2 := hg
              rw [show 100 - i = 100 - (i + 1) + 1 by omega, sdF_ne c30 c37 c51] at hg2
              refine nv_lcmp_ge (a := (x / y)) (b := (z / w)) (tgt := 75) hx hb (pc := 65) dX7_sideOf_65 dX7_sideOf_66 (by decide) (by omega) (by omega) (fun c65 => ?_) (fun c65 => ?_)
              · refine lv_iload hx hb (pc := 75) dX7_sideOf_75 (lv_at hl 4 rfl) ?_
                exact hret.1 77 _ (sg ng) dX7_sideOf_77 (by rw [hg2]; first | (rw [if_pos c65, sg_not]; done) | (rw [if_neg (by omega)]; done)) (rfl)
              · refine lv_iload hx hb (pc := 69) dX7_sideOf_69 (lv_at hl 4 rfl) ?_
                refine lv_ineg hx hb (pc := 71) dX7_sideOf_71 ?_
                refine lv_goto (tgt := 77) hx hb (pc := 72) dX7_sideOf_72 (by decide) ?_
                exact hret.1 77 _ (-(sg ng)) dX7_sideOf_77 (by rw [hg2]; first | (rw [if_pos c65, sg_not]; done) | (rw [if_neg (by omega)]; done)) (rfl)
  have hl : lv_has ls 20 [(17, .int (nI 0)), (16, .int (sg false)), (14, .long (lN (dd))), (12, .long (lN (cc))), (10, .long (lN (bb))), (8, .long (lN (aa))), (0, .long (lN (aa))), (2, .long (lN (bb))), (4, .long (lN (cc))), (6, .long (lN (dd)))] := by rw [show sg false = nI 1 from rfl]; exact hl
  exact L20 (101) aa bb cc dd 0 false (by omega) (Nat.zero_le _) (haa) (hbb) (hcc) (hdd) (by rw [Nat.sub_zero]; rfl) ls (lv_sub hl [5, 4, 3, 2, 1, 0] rfl)

abbrev rmX7_utmost : Room := { frames := 1, cells := 0, slots := 0, locals := 39 }
theorem inX7_utmost_1 : ∀ w ∈ wsX10, w ∈ wsX7_utmost := fun _ h => List.mem_cons_of_mem _ (List.mem_append_left _ (List.mem_append_right _ h))
theorem inX7_utmost_7 : ∀ w ∈ wsX70, w ∈ wsX7_utmost := fun _ h => List.mem_cons_of_mem _ (List.mem_append_right _ h)
set_option maxHeartbeats 4000000 in
set_option maxRecDepth 100000 in
theorem c_X7_utmost (l : Launch) (K : rr_K) (xo xs xa xb xv xw : Nat) (sF rF pF vF bF : Nat → Nat) (go ge gt k n gw al lw : Nat) (E T : Nat → Nat) (side : Int32) (hn : n ≤ 16) (hal : al < 65536) (hvb : ∀ q, q < n → vF q < 2 ^ 63) (hbb : ∀ q, q < n → bF q < 2 ^ 63) : MetP l K yX7_utmost wsX7_utmost rmX7_utmost [.ref xo, .ref go, .int side] (fun H => va_P K.1 vwCl (XW7 K xo xs xa xb xv xw sF rF pF vF bF) H ∧ va_P K.1 vwCl (GW K go ge gt k n gw al lw E T) H) (.int (nI (utC al vF bF sd side n - 1))) := by
  refine metP_of (cc := cX7_utmost) (maxL := 5) (ret := (some .int)) (rt := .int) (by decide) rfl rfl (Nat.le_of_ble_eq_true rfl) ?_
  intro p e s m args below meth c Q ls hEnt hKK hX hret hl
  obtain ⟨hx, hb, hml, hown, hts⟩ := hEnt
  obtain ⟨hP, hG⟩ := hX
  have hl : lv_has ls 5 [(0, .ref xo), (1, .ref go), (2, .int side)] := hl
  refine lv_iconst (v := -1) hx hb (pc := 0) dX7_utmost_0 (by decide) ?_
  refine lv_istore_n (lv' := [(3, .int (-1)), (0, .ref xo), (1, .ref go), (2, .int side)]) hx hb (pc := 1) dX7_utmost_1 rfl hl (by decide) rfl (fun ls hl => ?_)
  refine lv_iconst (v := nI 0) hx hb (pc := 2) dX7_utmost_2 (by decide) ?_
  refine lv_istore (lv' := [(4, .int (nI 0)), (3, .int (-1)), (0, .ref xo), (1, .ref go), (2, .int side)]) hx hb (pc := 3) dX7_utmost_3 hl (by decide) rfl (fun ls hl => ?_)
  have L5 : ∀ (fz : Nat) (q : Nat) (hfz : n - q < fz) (hq : q ≤ n) (ls : Array Slot) (hl : lv_has ls 5 [(0, .ref xo), (1, .ref go), (2, .int side), (3, .int (nI (utC al vF bF sd side q) - 1)), (4, .int (nI q))]), W p l e rmX7_utmost s m args below meth c s.heap [] 0 0 Q (F0 m 5 ls []) := by
    intro fz; induction fz with
    | zero => intro q hfz hq ls hl; exact absurd hfz (Nat.not_lt_zero _)
    | succ fz ih5 =>
      intro q hfz hq ls hl
      have hul := utC_le al vF bF sd side q
      refine lv_iload hx hb (pc := 5) dX7_utmost_5 (lv_at hl 4 rfl) ?_
      refine lv_aload_n hx hb (pc := 7) dX7_utmost_7 rfl (lv_at hl 1 rfl) ?_
      refine va_get (v := .int (nI n)) hx hb hts (inX7_utmost_1) hown hKK.1 hG 0 rfl rfl 1 (by decide) (hts _ (List.mem_of_getElem? (i := 1) (by decide +kernel))) (fun _ h9 => h9) rfl (pc := 8) dX7_utmost_8 ?_
      refine nv_icmp_ge (a := q) (b := n) (tgt := 69) hx hb (pc := 11) dX7_utmost_11 (by decide) (by omega) (by omega) (fun c11 => ?_) (fun c11 => ?_)
      · refine lv_iload_n hx hb (pc := 69) dX7_utmost_69 rfl (lv_at hl 3 rfl) ?_
        refine lv_iconst (v := nI 0) hx hb (pc := 70) dX7_utmost_70 (by decide) ?_
        refine va_mmax hx hb (hml.trans hl.1.symm) hown (hts _ (List.mem_of_getElem? (i := 4) (by decide +kernel))) (hts _ (List.mem_of_getElem? (i := 5) (by decide +kernel))) (hts _ (List.mem_of_getElem? (i := 6) (by decide +kernel))) (hts _ (List.mem_of_getElem? (i := 7) (by decide +kernel))) (Nat.le_of_ble_eq_true rfl) (Nat.le_of_ble_eq_true rfl) (by omega) (by omega) (pc := 71) dX7_utmost_71 ?_
        refine rr_top (v := .int (nI ((utC al vF bF sd side q) - 1))) (congrArg Value.int (um_max (by omega))) ?_
        have e9 : q = n := by omega
        exact hret.1 74 _ (nI ((utC al vF bF sd side q) - 1)) dX7_utmost_74 (by rw [e9]) (rfl)
      · refine lv_aload_n hx hb (pc := 14) dX7_utmost_14 rfl (lv_at hl 1 rfl) ?_
        refine lv_iload hx hb (pc := 15) dX7_utmost_15 (lv_at hl 4 rfl) ?_
        refine rr_callP (rv := .int (bI (al.testBit q))) (pc := 17) (va_runV (As := [.int (nI q)]) (rest := []) ⟨hx, hb, hml, hown, hts⟩ (c_X1_isLive l K go ge gt k n gw al lw E T q hal (by omega)) (cwV 1 hts gX7_utmost_X1_isLive rfl rfl rfl (by decide +kernel) ⟨Nat.le_of_ble_eq_true rfl, Nat.le_of_ble_eq_true rfl⟩) (rr_preV hKK (hG) (va_recv hKK.1 hG (ci := 1) (q0 := 0) rfl rfl)) rfl rfl hl.1 rfl (lv_room (Nat.le_of_ble_eq_true rfl)) dX7_utmost_17 ⟨Nat.le_refl _, Nat.le_refl _⟩) ?_
        refine nv_if_eq_b (a := (al.testBit q)) (tgt := 63) hx hb (pc := 20) dX7_utmost_20 (by decide) (fun c20 => ?_) (fun c20 => ?_)
        · refine lv_iinc (v := nI (q + 1)) (lv' := [(4, .int (nI (q + 1))), (0, .ref xo), (1, .ref go), (2, .int side), (3, .int (nI (utC al vF bF sd side q) - 1))]) hx hb (pc := 63) dX7_utmost_63 hl (k := 4) rfl (rr_inc _) (by decide) rfl (fun ls hl => ?_)
          refine lv_goto (tgt := 5) hx hb (pc := 66) dX7_utmost_66 (by decide) ?_
          have hl : lv_has ls 5 [(4, .int (nI (q + 1))), (0, .ref xo), (1, .ref go), (2, .int side), (3, .int (nI (utC al vF bF sd side (q + 1)) - 1))] := by rw [show nI (utC al vF bF sd side (q + 1)) - 1 = nI (utC al vF bF sd side q) - 1 from by first | (rw [utC_no1 c20]; done) | (rw [utC_yes c20 (Or.inl (um0 (by omega) c24)), nI_pred]; done) | (rw [utC_yes c20 (Or.inr c57), nI_pred]; done) | (rw [utC_no2 hu0 c57]; done)]; exact hl
          exact ih5 (q + 1) (by omega) (by omega) ls (lv_sub hl [1, 2, 3, 4, 0] rfl)
        · refine lv_iload_n hx hb (pc := 23) dX7_utmost_23 rfl (lv_at hl 3 rfl) ?_
          refine lv_if_lt (tgt := 60) hx hb (pc := 24) dX7_utmost_24 (by decide) (fun c24 => ?_) (fun c24 => ?_)
          · refine lv_iload hx hb (pc := 60) dX7_utmost_60 (lv_at hl 4 rfl) ?_
            refine lv_istore_n (lv' := [(3, .int (nI q)), (0, .ref xo), (1, .ref go), (2, .int side), (4, .int (nI q))]) hx hb (pc := 62) dX7_utmost_62 rfl hl (by decide) rfl (fun ls hl => ?_)
            refine lv_iinc (v := nI (q + 1)) (lv' := [(4, .int (nI (q + 1))), (3, .int (nI q)), (0, .ref xo), (1, .ref go), (2, .int side)]) hx hb (pc := 63) dX7_utmost_63 hl (k := 4) rfl (rr_inc _) (by decide) rfl (fun ls hl => ?_)
            refine lv_goto (tgt := 5) hx hb (pc := 66) dX7_utmost_66 (by decide) ?_
            have hl : lv_has ls 5 [(4, .int (nI (q + 1))), (3, .int (nI (utC al vF bF sd side (q + 1)) - 1)), (0, .ref xo), (1, .ref go), (2, .int side)] := by rw [show nI (utC al vF bF sd side (q + 1)) - 1 = nI q from by first | (rw [utC_no1 c20]; done) | (rw [utC_yes c20 (Or.inl (um0 (by omega) c24)), nI_pred]; done) | (rw [utC_yes c20 (Or.inr c57), nI_pred]; done) | (rw [utC_no2 hu0 c57]; done)]; exact hl
            exact ih5 (q + 1) (by omega) (by omega) ls (lv_sub hl [2, 3, 4, 1, 0] rfl)
          · have hu0 : ¬ (utC al vF bF sd side q) = 0 := um2 (by omega) c24
            have hv1 := hvb q (by omega)
            have hb1 := hbb q (by omega)
            have hv2 := hvb ((utC al vF bF sd side q) - 1) (by omega)
            have hb2 := hbb ((utC al vF bF sd side q) - 1) (by omega)
            refine lv_aload_n hx hb (pc := 27) dX7_utmost_27 rfl (lv_at hl 0 rfl) ?_
            refine va_get (v := .ref xv) hx hb hts (inX7_utmost_7) hown hKK.1 hP 0 rfl rfl 3 (by decide) (hts _ (List.mem_of_getElem? (i := 2) (by decide +kernel))) (fun _ h9 => h9) rfl (pc := 28) dX7_utmost_28 ?_
            refine lv_iload hx hb (pc := 31) dX7_utmost_31 (lv_at hl 4 rfl) ?_
            refine nv_lald (v := lN (vF q)) (i := q) hx hb hKK hP 4 rfl (by omega) (by decide) (rfl) (pc := 33) dX7_utmost_33 ?_
            refine lv_aload_n hx hb (pc := 34) dX7_utmost_34 rfl (lv_at hl 0 rfl) ?_
            refine va_get (v := .ref xw) hx hb hts (inX7_utmost_7) hown hKK.1 hP 0 rfl rfl 4 (by decide) (hts _ (List.mem_of_getElem? (i := 3) (by decide +kernel))) (fun _ h9 => h9) rfl (pc := 35) dX7_utmost_35 ?_
            refine lv_iload hx hb (pc := 38) dX7_utmost_38 (lv_at hl 4 rfl) ?_
            refine nv_lald (v := lN (bF q)) (i := q) hx hb hKK hP 5 rfl (by omega) (by decide) (rfl) (pc := 40) dX7_utmost_40 ?_
            refine lv_aload_n hx hb (pc := 41) dX7_utmost_41 rfl (lv_at hl 0 rfl) ?_
            refine va_get (v := .ref xv) hx hb hts (inX7_utmost_7) hown hKK.1 hP 0 rfl rfl 3 (by decide) (hts _ (List.mem_of_getElem? (i := 2) (by decide +kernel))) (fun _ h9 => h9) rfl (pc := 42) dX7_utmost_42 ?_
            refine lv_iload_n hx hb (pc := 45) dX7_utmost_45 rfl (lv_at hl 3 rfl) ?_
            refine rr_top (v := .int (nI ((utC al vF bF sd side q) - 1))) (congrArg Value.int (um1 hu0)) ?_
            refine nv_lald (v := lN (vF ((utC al vF bF sd side q) - 1))) (i := ((utC al vF bF sd side q) - 1)) hx hb hKK hP 4 rfl (by omega) (by decide) (rfl) (pc := 46) dX7_utmost_46 ?_
            refine lv_aload_n hx hb (pc := 47) dX7_utmost_47 rfl (lv_at hl 0 rfl) ?_
            refine va_get (v := .ref xw) hx hb hts (inX7_utmost_7) hown hKK.1 hP 0 rfl rfl 4 (by decide) (hts _ (List.mem_of_getElem? (i := 3) (by decide +kernel))) (fun _ h9 => h9) rfl (pc := 48) dX7_utmost_48 ?_
            refine lv_iload_n hx hb (pc := 51) dX7_utmost_51 rfl (lv_at hl 3 rfl) ?_
            refine rr_top (v := .int (nI ((utC al vF bF sd side q) - 1))) (congrArg Value.int (um1 hu0)) ?_
            refine nv_lald (v := lN (bF ((utC al vF bF sd side q) - 1))) (i := ((utC al vF bF sd side q) - 1)) hx hb hKK hP 5 rfl (by omega) (by decide) (rfl) (pc := 52) dX7_utmost_52 ?_
            refine rr_callP (rv := .int (sd (vF q) (bF q) (vF ((utC al vF bF sd side q) - 1)) (bF ((utC al vF bF sd side q) - 1)))) (pc := 53) (va_runS (As := [.long (lN (vF q)), .long (lN (bF q)), .long (lN (vF ((utC al vF bF sd side q) - 1))), .long (lN (bF ((utC al vF bF sd side q) - 1)))]) (rest := []) ⟨hx, hb, hml, hown, hts⟩ (c_X7_sideOf l K (vF q) (bF q) (vF ((utC al vF bF sd side q) - 1)) (bF ((utC al vF bF sd side q) - 1)) hv1 hb1 hv2 hb2) (cwS 4 hts gX7_utmost_X7_sideOf rfl rfl rfl (by decide +kernel) ⟨Nat.le_of_ble_eq_true rfl, Nat.le_of_ble_eq_true rfl⟩) (rr_preS hKK (trivial)) rfl rfl hl.1 rfl (lv_room (Nat.le_of_ble_eq_true rfl)) dX7_utmost_53 ⟨Nat.le_refl _, Nat.le_refl _⟩) ?_
            refine lv_iload_n hx hb (pc := 56) dX7_utmost_56 rfl (lv_at hl 2 rfl) ?_
            refine lv_icmp_ne (tgt := 63) hx hb (pc := 57) dX7_utmost_57 (by decide) (fun c57 => ?_) (fun c57 => ?_)
            · refine lv_iinc (v := nI (q + 1)) (lv' := [(4, .int (nI (q + 1))), (0, .ref xo), (1, .ref go), (2, .int side), (3, .int (nI (utC al vF bF sd side q) - 1))]) hx hb (pc := 63) dX7_utmost_63 hl (k := 4) rfl (rr_inc _) (by decide) rfl (fun ls hl => ?_)
              refine lv_goto (tgt := 5) hx hb (pc := 66) dX7_utmost_66 (by decide) ?_
              have hl : lv_has ls 5 [(4, .int (nI (q + 1))), (0, .ref xo), (1, .ref go), (2, .int side), (3, .int (nI (utC al vF bF sd side (q + 1)) - 1))] := by rw [show nI (utC al vF bF sd side (q + 1)) - 1 = nI (utC al vF bF sd side q) - 1 from by first | (rw [utC_no1 c20]; done) | (rw [utC_yes c20 (Or.inl (um0 (by omega) c24)), nI_pred]; done) | (rw [utC_yes c20 (Or.inr c57), nI_pred]; done) | (rw [utC_no2 hu0 c57]; done)]; exact hl
              exact ih5 (q + 1) (by omega) (by omega) ls (lv_sub hl [1, 2, 3, 4, 0] rfl)
            · refine lv_iload hx hb (pc := 60) dX7_utmost_60 (lv_at hl 4 rfl) ?_
              refine lv_istore_n (lv' := [(3, .int (nI q)), (0, .ref xo), (1, .ref go), (2, .int side), (4, .int (nI q))]) hx hb (pc := 62) dX7_utmost_62 rfl hl (by decide) rfl (fun ls hl => ?_)
              refine lv_iinc (v := nI (q + 1)) (lv' := [(4, .int (nI (q + 1))), (3, .int (nI q)), (0, .ref xo), (1, .ref go), (2, .int side)]) hx hb (pc := 63) dX7_utmost_63 hl (k := 4) rfl (rr_inc _) (by decide) rfl (fun ls hl => ?_)
              refine lv_goto (tgt := 5) hx hb (pc := 66) dX7_utmost_66 (by decide) ?_
              have hl : lv_has ls 5 [(4, .int (nI (q + 1))), (3, .int (nI (utC al vF bF sd side (q + 1)) - 1)), (0, .ref xo), (1, .ref go), (2, .int side)] := by rw [show nI (utC al vF bF sd side (q + 1)) - 1 = nI q from by first | (rw [utC_no1 c20]; done) | (rw [utC_yes c20 (Or.inl (um0 (by omega) c24)), nI_pred]; done) | (rw [utC_yes c20 (Or.inr c57), nI_pred]; done) | (rw [utC_no2 hu0 c57]; done)]; exact hl
              exact ih5 (q + 1) (by omega) (by omega) ls (lv_sub hl [2, 3, 4, 1, 0] rfl)
  have hl : lv_has ls 5 [(4, .int (nI 0)), (3, .int (nI (utC al vF bF sd side 0) - 1)), (0, .ref xo), (1, .ref go), (2, .int side)] := by rw [show nI (utC al vF bF sd side 0) - 1 = -1 from um_0]; exact hl
  exact L5 (17) 0 (by omega) (Nat.zero_le _) ls (lv_sub hl [2, 3, 4, 1, 0] rfl)

abbrev rmX7_growing : Room := { frames := 3, cells := 0, slots := 0, locals := 68 }
theorem inX7_growing_1 : ∀ w ∈ wsX10, w ∈ wsX7_growing := fun _ h => List.mem_cons_of_mem _ (List.mem_append_left _ (List.mem_append_right _ h))
theorem inX7_growing_7 : ∀ w ∈ wsX70, w ∈ wsX7_growing := fun _ h => List.mem_cons_of_mem _ (List.mem_append_right _ h)
set_option maxHeartbeats 4000000 in
set_option maxRecDepth 100000 in
theorem c_X7_growing (l : Launch) (K : rr_K) (A : Nat → Prop) (xo xs xa xb xv xw : Nat) (sF rF pF vF bF : Nat → Nat) (go ge gt k n gw al lw : Nat) (E T : Nat → Nat) (t wh : Nat) (hk4 : k ≤ 4) (hn : n ≤ 16) (hal : al < 65536) (hn0 : 0 < n) (ht : t ≤ 9) (hwh : wh ≤ 3) (hD : va_D A (XW7 K xo xs xa xb xv xw sF rF pF vF bF)) (hGA : ∀ (k_ : Nat) (q_ : Nat × va_E), (GW K go ge gt k n gw al lw E T)[k_]? = some q_ → ¬ A q_.1) : MetR l K yX7_growing wsX7_growing rmX7_growing [.ref xo, .ref go, .int (nI t), .int (nI wh)] (fun H => va_P K.1 vwCl (XW7 K xo xs xa xb xv xw sF rF pF vF bF) H ∧ va_P K.1 vwCl (GW K go ge gt k n gw al lw E T) H) A (fun v H => v = .long (lN (grV n k al E t wh)) ∧ ∃ xv' xw' sF' vF' bF', va_P K.1 vwCl (XW7 K xo xs xa xb xv' xw' sF' rF pF vF' bF') H ∧ va_D A (XW7 K xo xs xa xb xv' xw' sF' rF pF vF' bF')) 0 0 := by
  refine metR_of (cc := cX7_growing) (maxL := 9) (ret := (some .long)) (rt := .long) (by decide) rfl rfl rfl rfl (Nat.le_of_ble_eq_true rfl) ?_
  intro p e s m args below meth c Q ls hEnt hKK hX hret hl
  obtain ⟨hx, hb, hml, hown, hts⟩ := hEnt
  obtain ⟨hP, hG⟩ := hX
  have hP : va_P K.1 vwCl (XW7 K xo xs xa xb xv xw sF rF pF vF bF) s.heap := hP
  have hG : va_P K.1 vwCl (GW K go ge gt k n gw al lw E T) s.heap := hG
  have hl : lv_has ls 9 [(0, .ref xo), (1, .ref go), (2, .int (nI t)), (3, .int (nI wh))] := hl
  have hS : va_S A s.heap s.heap [] := va_S.rf
  refine lv_aload_n hx hb (pc := 0) dX7_growing_0 rfl (lv_at hl 0 rfl) ?_
  refine lv_aload_n hx hb (pc := 1) dX7_growing_1 rfl (lv_at hl 1 rfl) ?_
  refine rr_callV (pc := 2) (va_runV (As := [.ref go]) (rest := []) ⟨hx, hb, hml, hown, hts⟩ (c_X7_countSingle l K A xo xs xa xb xv xw sF rF pF vF bF go ge gt k n gw al lw E T hk4 hn hal hD hGA) (cwV 1 hts gX7_growing_X7_countSingle rfl rfl rfl (by decide +kernel) ⟨Nat.le_of_ble_eq_true rfl, Nat.le_of_ble_eq_true rfl⟩) (rr_preV hKK (⟨hP, hG⟩) (va_recv hKK.1 hP (ci := 7) (q0 := 0) rfl rfl)) rfl rfl hl.1 rfl (lv_room (Nat.le_of_ble_eq_true rfl)) dX7_growing_2 ⟨by omega, by omega⟩) hS (fun _ h => h) (fun H locs hY hsz hfr hS => ?_)
  obtain ⟨sF', hs', hP⟩ := hY
  have hD : va_D A (XW7 K xo xs xa xb xv xw sF' rF pF vF bF) := rr_D hD rfl
  have hP : va_P K.1 vwCl (XW7 K xo xs xa xb xv xw sF' rF pF vF bF) H := hP
  refine lv_aload_n hx hb (pc := 5) dX7_growing_5 rfl (lv_at hl 0 rfl) ?_
  refine lv_aload_n hx hb (pc := 6) dX7_growing_6 rfl (lv_at hl 1 rfl) ?_
  refine lv_lconst (v := lN 1) hx hb (pc := 7) dX7_growing_7 (by decide) ?_
  refine rr_callV (pc := 8) (va_runV (As := [.ref go, .long (lN (1))]) (rest := []) ⟨hx, hb, hml, hown, hts⟩ (c_X7_setLive l K A xo xs xa xb xv xw sF' rF pF vF bF go ge gt k n gw al lw E T 1 hal hD hGA) (cwV 2 hts gX7_growing_X7_setLive rfl rfl rfl (by decide +kernel) ⟨Nat.le_of_ble_eq_true rfl, Nat.le_of_ble_eq_true rfl⟩) (rr_preV hKK (⟨hP, (rr_ro (A := A) hG hGA hS)⟩) (va_recv hKK.1 hP (ci := 7) (q0 := 0) rfl rfl)) rfl rfl hl.1 rfl (lv_room (Nat.le_of_ble_eq_true rfl)) dX7_growing_8 ⟨by omega, by omega⟩) hS (fun _ h => h) (fun H locs hY hsz hfr hS => ?_)
  have hP := hY
  have hD : va_D A (XW7 K xo xs xa xb xv xw sF' rF pF (putZ vF (fun q => if al.testBit q then 1 else 0) 16) bF) := rr_D hD rfl
  have hP : va_P K.1 vwCl (XW7 K xo xs xa xb xv xw sF' rF pF (putZ vF (fun q => if al.testBit q then 1 else 0) 16) bF) H := hP
  refine lv_iconst (v := nI 0) hx hb (pc := 11) dX7_growing_11 (by decide) ?_
  refine lv_istore (lv' := [(4, .int (nI 0)), (0, .ref xo), (1, .ref go), (2, .int (nI t)), (3, .int (nI wh))]) hx hb (pc := 12) dX7_growing_12 hl (by decide) rfl (fun ls hl => ?_)
  have L14 : ∀ (fz : Nat) (i : Nat) (xv1 : Nat) (xw1 : Nat) (vF1 : Nat → Nat) (bF1 : Nat → Nat) (H : Heap) (locs : List Loc) (hP : va_P K.1 vwCl (XW7 K xo xs xa xb xv1 xw1 sF' rF pF vF1 bF1) H) (hD : va_D A (XW7 K xo xs xa xb xv1 xw1 sF' rF pF vF1 bF1)) (hS : va_S A s.heap H locs) (hfz : t + 1 - i < fz) (hi : i ≤ t + 1) (hv1 : ∀ q, q < n → vF1 q = vG n al (aMy al E k) i q) (hb1 : 0 < i → ∀ q, q < n → bF1 q = vG n al (aMy al E k) (i - 1) q) (ls : Array Slot) (hl : lv_has ls 9 [(0, .ref xo), (1, .ref go), (2, .int (nI t)), (3, .int (nI wh)), (4, .int (nI i))]), W p l e rmX7_growing s m args below meth c H locs 0 0 Q (F0 m 14 ls []) := by
    intro fz; induction fz with
    | zero => intro i xv1 xw1 vF1 bF1 H locs hP hD hS hfz hi hv1 hb1 ls hl; exact absurd hfz (Nat.not_lt_zero _)
    | succ fz ih14 =>
      intro i xv1 xw1 vF1 bF1 H locs hP hD hS hfz hi hv1 hb1 ls hl
      refine lv_iload hx hb (pc := 14) dX7_growing_14 (lv_at hl 4 rfl) ?_
      refine lv_iload_n hx hb (pc := 16) dX7_growing_16 rfl (lv_at hl 2 rfl) ?_
      refine nv_icmp_gt (a := i) (b := t) (tgt := 69) hx hb (pc := 17) dX7_growing_17 (by decide) (by omega) (by omega) (fun c17 => ?_) (fun c17 => ?_)
      · have e9 : i = t + 1 := by omega
        rw [e9] at hv1
        have hb1 := hb1 (by omega)
        rw [e9, Nat.add_sub_cancel] at hb1
        have hvb : ∀ q, vG n al (aMy al E k) (t + 1) q < 2 ^ 63 := fun q => Nat.lt_of_le_of_lt (vG_le hn (aMy4 hk4) (t + 1) q) (Nat.lt_of_le_of_lt (Nat.pow_le_pow_right (by decide) (show t + 1 ≤ 10 by omega)) (by decide))
        have hbb : ∀ q, vG n al (aMy al E k) t q < 2 ^ 63 := fun q => Nat.lt_of_le_of_lt (vG_le hn (aMy4 hk4) t q) (Nat.lt_of_le_of_lt (Nat.pow_le_pow_right (by decide) (show t ≤ 10 by omega)) (by decide))
        have L81 : ∀ (sd1 : Int32) (H : Heap) (locs : List Loc) (hP : va_P K.1 vwCl (XW7 K xo xs xa xb xv1 xw1 sF' rF pF vF1 bF1) H) (hD : va_D A (XW7 K xo xs xa xb xv1 xw1 sF' rF pF vF1 bF1)) (hS : va_S A s.heap H locs) (hsd : sd1 = if wh < 2 then -1 else nI 1) (ls : Array Slot) (hl : lv_has ls 9 [(0, .ref xo), (1, .ref go), (2, .int (nI t)), (3, .int (nI wh))]), W p l e rmX7_growing s m args below meth c H locs 0 0 Q (F0 m 81 ls [.int sd1, .ref go, .ref xo]) := by
          intro sd1 H locs hP hD hS hsd ls hl
          refine rr_callP (rv := .int (nI (utC al vF1 bF1 sd sd1 n - 1))) (pc := 81) (va_runV (As := [.ref go, .int sd1]) (rest := []) ⟨hx, hb, hml, hown, hts⟩ (c_X7_utmost l K xo xs xa xb xv1 xw1 sF' rF pF vF1 bF1 go ge gt k n gw al lw E T sd1 hn hal (fun q hq => by rw [hv1 q hq]; exact hvb q) (fun q hq => by rw [hb1 q hq]; exact hbb q)) (cwV 2 hts gX7_growing_X7_utmost rfl rfl rfl (by decide +kernel) ⟨Nat.le_of_ble_eq_true rfl, Nat.le_of_ble_eq_true rfl⟩) (rr_preV hKK (⟨hP, (rr_ro (A := A) hG hGA hS)⟩) (va_recv hKK.1 hP (ci := 7) (q0 := 0) rfl rfl)) rfl rfl hl.1 rfl (lv_room (Nat.le_of_ble_eq_true rfl)) dX7_growing_81 ⟨Nat.le_refl _, Nat.le_refl _⟩) ?_
          refine rr_top (v := .int (nI (grB n k al E t wh))) (by rw [grB, ← hsd, utC_congr hv1 hb1 n (Nat.le_refl _)]) ?_
          have hbl : grB n k al E t wh < n := by
            have h9 := utC_le al (vG n al (aMy al E k) (t + 1)) (vG n al (aMy al E k) t) sd (if wh < 2 then -1 else nI 1) n
            unfold grB
            omega
          refine lv_istore (lv' := [(4, .int (nI (grB n k al E t wh))), (0, .ref xo), (1, .ref go), (2, .int (nI t)), (3, .int (nI wh))]) hx hb (pc := 84) dX7_growing_84 hl (by decide) rfl (fun ls hl => ?_)
          refine lv_aload_n hx hb (pc := 86) dX7_growing_86 rfl (lv_at hl 1 rfl) ?_
          refine va_get (v := .ref xv1) hx hb hts (inX7_growing_7) hown hKK.1 hP 0 rfl rfl 3 (by decide) (hts _ (List.mem_of_getElem? (i := 4) (by decide +kernel))) (fun _ h9 => h9) rfl (pc := 87) dX7_growing_87 ?_
          refine lv_iload hx hb (pc := 90) dX7_growing_90 (lv_at hl 0 rfl) ?_
          refine nv_lald (v := lN (vG n al (aMy al E k) (t + 1) (grB n k al E t wh))) (i := (grB n k al E t wh)) hx hb hKK hP 4 rfl (by omega) (by decide) (congrArg lN (hv1 _ hbl)) (pc := 92) dX7_growing_92 ?_
          refine lv_aload_n hx hb (pc := 93) dX7_growing_93 rfl (lv_at hl 1 rfl) ?_
          refine va_get (v := .ref xw1) hx hb hts (inX7_growing_7) hown hKK.1 hP 0 rfl rfl 4 (by decide) (hts _ (List.mem_of_getElem? (i := 2) (by decide +kernel))) (fun _ h9 => h9) rfl (pc := 94) dX7_growing_94 ?_
          refine lv_iload hx hb (pc := 97) dX7_growing_97 (lv_at hl 0 rfl) ?_
          refine nv_lald (v := lN (vG n al (aMy al E k) t (grB n k al E t wh))) (i := (grB n k al E t wh)) hx hb hKK hP 5 rfl (by omega) (by decide) (congrArg lN (hb1 _ hbl)) (pc := 99) dX7_growing_99 ?_
          refine rr_callP (rv := .long (lN (Nat.gcd (vG n al (aMy al E k) (t + 1) (grB n k al E t wh)) (vG n al (aMy al E k) t (grB n k al E t wh))))) (pc := 100) (va_runSN (As := [.long (lN (vG n al (aMy al E k) (t + 1) (grB n k al E t wh))), .long (lN (vG n al (aMy al E k) t (grB n k al E t wh)))]) (rest := []) ⟨hx, hb, hml, hown, hts⟩ (c_X9_commonDivisor l K (vG n al (aMy al E k) (t + 1) (grB n k al E t wh)) (vG n al (aMy al E k) t (grB n k al E t wh)) (hvb _) (hbb _)) ⟨va_cnB 2 hts gX7_growing_X9_commonDivisor_n79 rfl rfl rfl (hKK.2 _ (List.mem_of_getElem? (i := 3) rfl)) (hts _ (List.mem_of_getElem? (i := 51) (by decide +kernel))) (by decide +kernel) ⟨Nat.le_of_ble_eq_true rfl, Nat.le_of_ble_eq_true rfl⟩, hts _ (List.mem_of_getElem? (i := 50) (by decide +kernel)), trivial⟩ (rr_preS hKK (trivial)) rfl rfl hl.1 rfl (lv_room (Nat.le_of_ble_eq_true rfl)) dX7_growing_100 ⟨Nat.le_refl _, Nat.le_refl _⟩) ?_
          refine lv_lstore (lv' := [(5, .long (lN (Nat.gcd (vG n al (aMy al E k) (t + 1) (grB n k al E t wh)) (vG n al (aMy al E k) t (grB n k al E t wh))))), (4, .int (nI (grB n k al E t wh))), (0, .ref xo), (1, .ref go), (2, .int (nI t)), (3, .int (nI wh))]) hx hb (pc := 103) dX7_growing_103 hl (by decide) rfl (fun ls hl => ?_)
          have hw1 : wh &&& 1 ≤ 1 := Nat.and_le_right
          have hx1 := hvb (grB n k al E t wh)
          have hy1 := hbb (grB n k al E t wh)
          have hgc : Nat.gcd (vG n al (aMy al E k) (t + 1) (grB n k al E t wh)) (vG n al (aMy al E k) t (grB n k al E t wh)) ≤ 2 ^ 63 - 1 := gcd_le_max (by omega) (by omega)
          refine lv_iload_n hx hb (pc := 105) dX7_growing_105 rfl (lv_at hl 5 rfl) ?_
          refine lv_iconst (v := nI 1) hx hb (pc := 106) dX7_growing_106 (by decide) ?_
          refine nv_iand (a := wh) (b := 1) hx hb (pc := 107) dX7_growing_107 ?_
          refine nv_if_ne (a := (wh &&& 1)) (tgt := 121) hx hb (pc := 108) dX7_growing_108 (by decide) (by omega) (fun c108 => ?_) (fun c108 => ?_)
          · refine lv_aload_n hx hb (pc := 121) dX7_growing_121 rfl (lv_at hl 2 rfl) ?_
            refine va_get (v := .ref xw1) hx hb hts (inX7_growing_7) hown hKK.1 hP 0 rfl rfl 4 (by decide) (hts _ (List.mem_of_getElem? (i := 2) (by decide +kernel))) (fun _ h9 => h9) rfl (pc := 122) dX7_growing_122 ?_
            refine lv_iload hx hb (pc := 125) dX7_growing_125 (lv_at hl 1 rfl) ?_
            refine nv_lald (v := lN (vG n al (aMy al E k) t (grB n k al E t wh))) (i := (grB n k al E t wh)) hx hb hKK hP 5 rfl (by omega) (by decide) (congrArg lN (hb1 _ hbl)) (pc := 127) dX7_growing_127 ?_
            refine lv_lstore (lv' := [(7, .long (lN (vG n al (aMy al E k) t (grB n k al E t wh)))), (5, .long (lN (Nat.gcd (vG n al (aMy al E k) (t + 1) (grB n k al E t wh)) (vG n al (aMy al E k) t (grB n k al E t wh))))), (4, .int (nI (grB n k al E t wh))), (0, .ref xo), (1, .ref go), (2, .int (nI t)), (3, .int (nI wh))]) hx hb (pc := 128) dX7_growing_128 hl (by decide) rfl (fun ls hl => ?_)
            refine lv_lload hx hb (pc := 130) dX7_growing_130 (lv_at hl 1 rfl) ?_
            refine lv_lconst (v := lN 0) hx hb (pc := 132) dX7_growing_132 (by decide) ?_
            refine nv_lcmp_ne (a := (Nat.gcd (vG n al (aMy al E k) (t + 1) (grB n k al E t wh)) (vG n al (aMy al E k) t (grB n k al E t wh)))) (b := 0) (tgt := 141) hx hb (pc := 133) dX7_growing_133 dX7_growing_134 (by decide) (by omega) (by omega) (fun c133 => ?_) (fun c133 => ?_)
            · refine lv_lload hx hb (pc := 141) dX7_growing_141 (lv_at hl 0 rfl) ?_
              refine lv_lload hx hb (pc := 143) dX7_growing_143 (lv_at hl 1 rfl) ?_
              refine nv_ldiv (a := (vG n al (aMy al E k) t (grB n k al E t wh))) (b := (Nat.gcd (vG n al (aMy al E k) (t + 1) (grB n k al E t wh)) (vG n al (aMy al E k) t (grB n k al E t wh)))) hx hb (pc := 145) dX7_growing_145 (by omega) (by omega) (by omega) ?_
              exact hret.2.1 _ _ 0 0 146 _ (lN ((vG n al (aMy al E k) t (grB n k al E t wh)) / (Nat.gcd (vG n al (aMy al E k) (t + 1) (grB n k al E t wh)) (vG n al (aMy al E k) t (grB n k al E t wh))))) dX7_growing_146 (by omega) (by omega) hS (⟨congrArg (fun x => Value.long (lN x)) (by unfold grV; first | (rw [c133, Nat.div_zero]; done) | (rw [if_pos c108]; done) | (rw [if_neg c108]; done)), _, _, _, _, _, hP, hD⟩) rfl
            · refine lv_lconst (v := lN 0) hx hb (pc := 137) dX7_growing_137 (by decide) ?_
              refine lv_goto (tgt := 146) hx hb (pc := 138) dX7_growing_138 (by decide) ?_
              exact hret.2.1 _ _ 0 0 146 _ (lN 0) dX7_growing_146 (by omega) (by omega) hS (⟨congrArg (fun x => Value.long (lN x)) (by unfold grV; first | (rw [c133, Nat.div_zero]; done) | (rw [if_pos c108]; done) | (rw [if_neg c108]; done)), _, _, _, _, _, hP, hD⟩) rfl
          · refine lv_aload_n hx hb (pc := 111) dX7_growing_111 rfl (lv_at hl 2 rfl) ?_
            refine va_get (v := .ref xv1) hx hb hts (inX7_growing_7) hown hKK.1 hP 0 rfl rfl 3 (by decide) (hts _ (List.mem_of_getElem? (i := 4) (by decide +kernel))) (fun _ h9 => h9) rfl (pc := 112) dX7_growing_112 ?_
            refine lv_iload hx hb (pc := 115) dX7_growing_115 (lv_at hl 1 rfl) ?_
            refine nv_lald (v := lN (vG n al (aMy al E k) (t + 1) (grB n k al E t wh))) (i := (grB n k al E t wh)) hx hb hKK hP 4 rfl (by omega) (by decide) (congrArg lN (hv1 _ hbl)) (pc := 117) dX7_growing_117 ?_
            refine lv_goto (tgt := 128) hx hb (pc := 118) dX7_growing_118 (by decide) ?_
            refine lv_lstore (lv' := [(7, .long (lN (vG n al (aMy al E k) (t + 1) (grB n k al E t wh)))), (5, .long (lN (Nat.gcd (vG n al (aMy al E k) (t + 1) (grB n k al E t wh)) (vG n al (aMy al E k) t (grB n k al E t wh))))), (4, .int (nI (grB n k al E t wh))), (0, .ref xo), (1, .ref go), (2, .int (nI t)), (3, .int (nI wh))]) hx hb (pc := 128) dX7_growing_128 hl (by decide) rfl (fun ls hl => ?_)
            refine lv_lload hx hb (pc := 130) dX7_growing_130 (lv_at hl 1 rfl) ?_
            refine lv_lconst (v := lN 0) hx hb (pc := 132) dX7_growing_132 (by decide) ?_
            refine nv_lcmp_ne (a := (Nat.gcd (vG n al (aMy al E k) (t + 1) (grB n k al E t wh)) (vG n al (aMy al E k) t (grB n k al E t wh)))) (b := 0) (tgt := 141) hx hb (pc := 133) dX7_growing_133 dX7_growing_134 (by decide) (by omega) (by omega) (fun c133 => ?_) (fun c133 => ?_)
            · refine lv_lload hx hb (pc := 141) dX7_growing_141 (lv_at hl 0 rfl) ?_
              refine lv_lload hx hb (pc := 143) dX7_growing_143 (lv_at hl 1 rfl) ?_
              refine nv_ldiv (a := (vG n al (aMy al E k) (t + 1) (grB n k al E t wh))) (b := (Nat.gcd (vG n al (aMy al E k) (t + 1) (grB n k al E t wh)) (vG n al (aMy al E k) t (grB n k al E t wh)))) hx hb (pc := 145) dX7_growing_145 (by omega) (by omega) (by omega) ?_
              exact hret.2.1 _ _ 0 0 146 _ (lN ((vG n al (aMy al E k) (t + 1) (grB n k al E t wh)) / (Nat.gcd (vG n al (aMy al E k) (t + 1) (grB n k al E t wh)) (vG n al (aMy al E k) t (grB n k al E t wh))))) dX7_growing_146 (by omega) (by omega) hS (⟨congrArg (fun x => Value.long (lN x)) (by unfold grV; first | (rw [c133, Nat.div_zero]; done) | (rw [if_pos c108]; done) | (rw [if_neg c108]; done)), _, _, _, _, _, hP, hD⟩) rfl
            · refine lv_lconst (v := lN 0) hx hb (pc := 137) dX7_growing_137 (by decide) ?_
              refine lv_goto (tgt := 146) hx hb (pc := 138) dX7_growing_138 (by decide) ?_
              exact hret.2.1 _ _ 0 0 146 _ (lN 0) dX7_growing_146 (by omega) (by omega) hS (⟨congrArg (fun x => Value.long (lN x)) (by unfold grV; first | (rw [c133, Nat.div_zero]; done) | (rw [if_pos c108]; done) | (rw [if_neg c108]; done)), _, _, _, _, _, hP, hD⟩) rfl
        refine lv_aload_n hx hb (pc := 69) dX7_growing_69 rfl (lv_at hl 0 rfl) ?_
        refine lv_aload_n hx hb (pc := 70) dX7_growing_70 rfl (lv_at hl 1 rfl) ?_
        refine lv_iload_n hx hb (pc := 71) dX7_growing_71 rfl (lv_at hl 3 rfl) ?_
        refine lv_iconst (v := nI 2) hx hb (pc := 72) dX7_growing_72 (by decide) ?_
        refine nv_icmp_ge (a := wh) (b := 2) (tgt := 80) hx hb (pc := 73) dX7_growing_73 (by decide) (by omega) (by omega) (fun c73 => ?_) (fun c73 => ?_)
        · refine lv_iconst (v := nI 1) hx hb (pc := 80) dX7_growing_80 (by decide) ?_
          exact L81 (nI 1) _ _ hP hD hS (by first | (rw [if_pos c73]; done) | (rw [if_neg (by omega)]; done)) ls (lv_sub hl [0, 1, 2, 3] rfl)
        · refine lv_iconst (v := -1) hx hb (pc := 76) dX7_growing_76 (by decide) ?_
          refine lv_goto (tgt := 81) hx hb (pc := 77) dX7_growing_77 (by decide) ?_
          exact L81 (-1) _ _ hP hD hS (by first | (rw [if_pos c73]; done) | (rw [if_neg (by omega)]; done)) ls (lv_sub hl [0, 1, 2, 3] rfl)
      · refine lv_iconst (v := nI 0) hx hb (pc := 20) dX7_growing_20 (by decide) ?_
        refine lv_istore (lv' := [(5, .int (nI 0)), (0, .ref xo), (1, .ref go), (2, .int (nI t)), (3, .int (nI wh)), (4, .int (nI i))]) hx hb (pc := 21) dX7_growing_21 hl (by decide) rfl (fun ls hl => ?_)
        have L23 : ∀ (fz : Nat) (q : Nat) (bF2 : Nat → Nat) (H : Heap) (locs : List Loc) (hP : va_P K.1 vwCl (XW7 K xo xs xa xb xv1 xw1 sF' rF pF vF1 bF2) H) (hD : va_D A (XW7 K xo xs xa xb xv1 xw1 sF' rF pF vF1 bF2)) (hS : va_S A s.heap H locs) (hfz : n - q < fz) (hq : q ≤ n) (hb2 : ∀ r, r < q → bF2 r = vG n al (aMy al E k) (i + 1) r) (ls : Array Slot) (hl : lv_has ls 9 [(0, .ref xo), (1, .ref go), (2, .int (nI t)), (3, .int (nI wh)), (4, .int (nI i)), (5, .int (nI q))]), W p l e rmX7_growing s m args below meth c H locs 0 0 Q (F0 m 23 ls []) := by
          intro fz; induction fz with
          | zero => intro q bF2 H locs hP hD hS hfz hq hb2 ls hl; exact absurd hfz (Nat.not_lt_zero _)
          | succ fz ih23 =>
            intro q bF2 H locs hP hD hS hfz hq hb2 ls hl
            refine lv_iload hx hb (pc := 23) dX7_growing_23 (lv_at hl 5 rfl) ?_
            refine lv_aload_n hx hb (pc := 25) dX7_growing_25 rfl (lv_at hl 1 rfl) ?_
            refine va_get (v := .int (nI n)) hx hb hts (inX7_growing_1) hown hKK.1 (rr_ro (A := A) hG hGA hS) 0 rfl rfl 1 (by decide) (hts _ (List.mem_of_getElem? (i := 1) (by decide +kernel))) (fun _ h9 => h9) rfl (pc := 26) dX7_growing_26 ?_
            refine nv_icmp_ge (a := q) (b := n) (tgt := 59) hx hb (pc := 29) dX7_growing_29 (by decide) (by omega) (by omega) (fun c29 => ?_) (fun c29 => ?_)
            · refine lv_aload_n hx hb (pc := 59) dX7_growing_59 rfl (lv_at hl 0 rfl) ?_
              refine rr_callV (pc := 60) (va_runV (As := []) (rest := []) ⟨hx, hb, hml, hown, hts⟩ (c_X7_turnValues l K A xo xs xa xb xv1 xw1 sF' rF pF vF1 bF2 hD) (cwV 0 hts gX7_growing_X7_turnValues rfl rfl rfl (by decide +kernel) ⟨Nat.le_of_ble_eq_true rfl, Nat.le_of_ble_eq_true rfl⟩) (rr_preV hKK (hP) (va_recv hKK.1 hP (ci := 7) (q0 := 0) rfl rfl)) rfl rfl hl.1 rfl (lv_room (Nat.le_of_ble_eq_true rfl)) dX7_growing_60 ⟨by omega, by omega⟩) hS (fun _ h => h) (fun H locs hY hsz hfr hS => ?_)
              obtain ⟨hP, hD⟩ := hY
              have hD : va_D A (XW7 K xo xs xa xb xw1 xv1 sF' rF pF bF2 vF1) := hD
              have hP : va_P K.1 vwCl (XW7 K xo xs xa xb xw1 xv1 sF' rF pF bF2 vF1) H := hP
              refine lv_iinc (v := nI (i + 1)) (lv' := [(4, .int (nI (i + 1))), (0, .ref xo), (1, .ref go), (2, .int (nI t)), (3, .int (nI wh)), (5, .int (nI q))]) hx hb (pc := 63) dX7_growing_63 hl (k := 4) rfl (rr_inc _) (by decide) rfl (fun ls hl => ?_)
              refine lv_goto (tgt := 14) hx hb (pc := 66) dX7_growing_66 (by decide) ?_
              exact ih14 (i + 1) xw1 xv1 bF2 vF1 _ _ hP hD hS (by omega) (by omega) (fun r hr => hb2 r (by omega)) (fun _ => hv1) ls (lv_sub hl [1, 2, 3, 4, 0] rfl)
            · refine lv_aload_n hx hb (pc := 32) dX7_growing_32 rfl (lv_at hl 0 rfl) ?_
              refine va_get (v := .ref xw1) hx hb hts (inX7_growing_7) hown hKK.1 hP 0 rfl rfl 4 (by decide) (hts _ (List.mem_of_getElem? (i := 2) (by decide +kernel))) (fun _ h9 => h9) rfl (pc := 33) dX7_growing_33 ?_
              refine lv_iload hx hb (pc := 36) dX7_growing_36 (lv_at hl 5 rfl) ?_
              refine lv_aload_n hx hb (pc := 38) dX7_growing_38 rfl (lv_at hl 0 rfl) ?_
              refine lv_aload_n hx hb (pc := 39) dX7_growing_39 rfl (lv_at hl 0 rfl) ?_
              refine va_get (v := .ref xs) hx hb hts (inX7_growing_7) hown hKK.1 hP 0 rfl rfl 0 (by decide) (hts _ (List.mem_of_getElem? (i := 3) (by decide +kernel))) (fun _ h9 => h9) rfl (pc := 40) dX7_growing_40 ?_
              refine lv_iload hx hb (pc := 43) dX7_growing_43 (lv_at hl 5 rfl) ?_
              refine lv_aload_n hx hb (pc := 45) dX7_growing_45 rfl (lv_at hl 1 rfl) ?_
              refine va_get (v := .int (nI n)) hx hb hts (inX7_growing_1) hown hKK.1 (rr_ro (A := A) hG hGA hS) 0 rfl rfl 1 (by decide) (hts _ (List.mem_of_getElem? (i := 1) (by decide +kernel))) (fun _ h9 => h9) rfl (pc := 46) dX7_growing_46 ?_
              refine rr_callP (rv := .long (lN (sN n (fun o => sF' (q * 16 + o) * vF1 o)))) (pc := 49) (va_runV (As := [.ref xs, .int (nI q), .int (nI n)]) (rest := [.int (nI q), .ref xw1]) ⟨hx, hb, hml, hown, hts⟩ (c_X7_sumAtEnds_s l K xo xs xa xb xv1 xw1 sF' rF pF vF1 bF2 q n (by omega) hn) (cwV 3 hts gX7_growing_X7_sumAtEnds rfl rfl rfl (by decide +kernel) ⟨Nat.le_of_ble_eq_true rfl, Nat.le_of_ble_eq_true rfl⟩) (rr_preV hKK (hP) (va_recv hKK.1 hP (ci := 7) (q0 := 0) rfl rfl)) rfl rfl hl.1 rfl (lv_room (Nat.le_of_ble_eq_true rfl)) dX7_growing_49 ⟨Nat.le_refl _, Nat.le_refl _⟩) ?_
              have hq1 : sN n (fun o => sF' (q * 16 + o) * vF1 o) = vG n al (aMy al E k) (i + 1) q := sN_congr (fun o ho => by rw [hs' q o (by omega) ho, hv1 o ho])
              refine rr_top (v := .long (lN (vG n al (aMy al E k) (i + 1) q))) (by rw [hq1]) ?_
              refine nv_lastN (f := bF2) (x := (vG n al (aMy al E k) (i + 1) q)) (ws' := XW7 K xo xs xa xb xv1 xw1 sF' rF pF vF1 (va_up bF2 q (vG n al (aMy al E k) (i + 1) q))) (i := q) hx hb hKK hP hD hS 5 rfl (by omega) (by decide) (rfl) (pc := 52) dX7_growing_52 (fun H locs hP hD hS => ?_)
              refine lv_iinc (v := nI (q + 1)) (lv' := [(5, .int (nI (q + 1))), (0, .ref xo), (1, .ref go), (2, .int (nI t)), (3, .int (nI wh)), (4, .int (nI i))]) hx hb (pc := 53) dX7_growing_53 hl (k := 5) rfl (rr_inc _) (by decide) rfl (fun ls hl => ?_)
              refine lv_goto (tgt := 23) hx hb (pc := 56) dX7_growing_56 (by decide) ?_
              have hb3 : ∀ r, r < q + 1 → va_up bF2 q (vG n al (aMy al E k) (i + 1) q) r = vG n al (aMy al E k) (i + 1) r := fun r hr => by
                unfold va_up
                split
                · rename_i e; rw [e]
                · exact hb2 r (by omega)
              exact ih23 (q + 1) (va_up bF2 q (vG n al (aMy al E k) (i + 1) q)) _ _ hP hD hS (by omega) (by omega) (hb3) ls (lv_sub hl [1, 2, 3, 4, 5, 0] rfl)
        exact L23 (17) 0 bF1 _ _ hP hD hS (by omega) (Nat.zero_le _) (fun r hr => absurd hr (Nat.not_lt_zero _)) ls (lv_sub hl [1, 2, 3, 4, 5, 0] rfl)
  exact L14 (12) 0 xv xw (putZ vF (fun q => if al.testBit q then 1 else 0) 16) bF _ _ hP hD hS (by omega) (Nat.zero_le _) (fun q hq => putZ_in (by omega)) (fun h => absurd h (Nat.lt_irrefl _)) ls (lv_sub hl [1, 2, 3, 4, 0] rfl)

abbrev rmX7_weigh : Room := { frames := 4, cells := 0, slots := 0, locals := 91 }
theorem inX7_weigh_1 : ∀ w ∈ wsX10, w ∈ wsX7_weigh := fun _ h => List.mem_cons_of_mem _ (List.mem_append_left _ (List.mem_append_right _ h))
theorem inX7_weigh_7 : ∀ w ∈ wsX70, w ∈ wsX7_weigh := fun _ h => List.mem_cons_of_mem _ (List.mem_append_right _ h)
set_option maxHeartbeats 4000000 in
set_option maxRecDepth 100000 in
theorem c_X7_weigh (l : Launch) (K : rr_K) (A : Nat → Prop) (xo xs xa xb xv xw : Nat) (sF rF pF vF bF : Nat → Nat) (go ge gt k n gw al lw : Nat) (E T : Nat → Nat) (pp qq mst : Nat) (hk4 : k ≤ 4) (hn : n ≤ 16) (hal : al < 65536) (hp1 : 1 ≤ pp) (hp8 : pp ≤ 8) (h1q : 1 ≤ qq) (hq4 : qq ≤ 4) (h1m : 1 ≤ mst) (hm1 : mst ≤ 100) (hD : va_D A (XW7 K xo xs xa xb xv xw sF rF pF vF bF)) (hGA : ∀ (k_ : Nat) (q_ : Nat × va_E), (GW K go ge gt k n gw al lw E T)[k_]? = some q_ → ¬ A q_.1) : MetV l K yX7_weigh wsX7_weigh rmX7_weigh [.ref xo, .ref go, .int (nI pp), .int (nI qq), .int (nI mst)] (fun H => va_P K.1 vwCl (XW7 K xo xs xa xb xv xw sF rF pF vF bF) H ∧ va_P K.1 vwCl (GW K go ge gt k n gw al lw E T) H) A (fun H => ∃ xa' xb' xv' xw' sF' rF' pF' vF' bF', (∀ q, q < n → vF' q = wgI n pp (pwS n (aMy al E k) (qq - 1)) mst al (16 * mst + 1) q) ∧ va_P K.1 vwCl (XW7 K xo xs xa' xb' xv' xw' sF' rF' pF' vF' bF') H ∧ va_D A (XW7 K xo xs xa' xb' xv' xw' sF' rF' pF' vF' bF')) 0 0 := by
  refine metV_of (cc := cX7_weigh) (maxL := 9) (by decide) rfl rfl rfl (Nat.le_of_ble_eq_true rfl) ?_
  intro p e s m args below meth c Q ls hEnt hin hKK hX hret hl
  obtain ⟨hx, hb, hml, hown, hts⟩ := hEnt
  obtain ⟨hP, hG⟩ := hX
  have hP : va_P K.1 vwCl (XW7 K xo xs xa xb xv xw sF rF pF vF bF) s.heap := hP
  have hG : va_P K.1 vwCl (GW K go ge gt k n gw al lw E T) s.heap := hG
  have hl : lv_has ls 9 [(0, .ref xo), (1, .ref go), (2, .int (nI pp)), (3, .int (nI qq)), (4, .int (nI mst))] := hl
  have hS : va_S A s.heap s.heap [] := va_S.rf
  refine lv_aload_n hx hb (pc := 0) dX7_weigh_0 rfl (lv_at hl 0 rfl) ?_
  refine lv_aload_n hx hb (pc := 1) dX7_weigh_1 rfl (lv_at hl 1 rfl) ?_
  refine lv_iload_n hx hb (pc := 2) dX7_weigh_2 rfl (lv_at hl 3 rfl) ?_
  refine rr_callV (pc := 3) (va_runV (As := [.ref go, .int (nI qq)]) (rest := []) ⟨hx, hb, hml, hown, hts⟩ (c_X7_countRows l K A xo xs xa xb xv xw sF rF pF vF bF go ge gt k n gw al lw E T qq hk4 hn hal (by omega) (by omega) hD hGA) (cwV 2 hts gX7_weigh_X7_countRows rfl rfl rfl (by decide +kernel) ⟨Nat.le_of_ble_eq_true rfl, Nat.le_of_ble_eq_true rfl⟩) (rr_preV hKK (⟨hP, hG⟩) (va_recv hKK.1 hP (ci := 7) (q0 := 0) rfl rfl)) rfl rfl hl.1 rfl (lv_room (Nat.le_of_ble_eq_true rfl)) dX7_weigh_3 ⟨by omega, by omega⟩) hS (fun _ h => h) (fun H locs hY hsz hfr hS => ?_)
  obtain ⟨xa', xb', sF', rF', pF', hr', hP, hD⟩ := hY
  have hD : va_D A (XW7 K xo xs xa' xb' xv xw sF' rF' pF' vF bF) := hD
  have hP : va_P K.1 vwCl (XW7 K xo xs xa' xb' xv xw sF' rF' pF' vF bF) H := hP
  refine lv_aload_n hx hb (pc := 6) dX7_weigh_6 rfl (lv_at hl 0 rfl) ?_
  refine lv_aload_n hx hb (pc := 7) dX7_weigh_7 rfl (lv_at hl 1 rfl) ?_
  refine lv_iload hx hb (pc := 8) dX7_weigh_8 (lv_at hl 4 rfl) ?_
  refine lv_i2l (v := lN mst) hx hb (pc := 10) dX7_weigh_10 (nI_l (by omega)) ?_
  refine rr_callV (pc := 11) (va_runV (As := [.ref go, .long (lN (mst))]) (rest := []) ⟨hx, hb, hml, hown, hts⟩ (c_X7_setLive l K A xo xs xa' xb' xv xw sF' rF' pF' vF bF go ge gt k n gw al lw E T mst hal hD hGA) (cwV 2 hts gX7_weigh_X7_setLive rfl rfl rfl (by decide +kernel) ⟨Nat.le_of_ble_eq_true rfl, Nat.le_of_ble_eq_true rfl⟩) (rr_preV hKK (⟨hP, (rr_ro (A := A) hG hGA hS)⟩) (va_recv hKK.1 hP (ci := 7) (q0 := 0) rfl rfl)) rfl rfl hl.1 rfl (lv_room (Nat.le_of_ble_eq_true rfl)) dX7_weigh_11 ⟨by omega, by omega⟩) hS (fun _ h => h) (fun H locs hY hsz hfr hS => ?_)
  have hP := hY
  have hD : va_D A (XW7 K xo xs xa' xb' xv xw sF' rF' pF' (putZ vF (fun q => if al.testBit q then mst else 0) 16) bF) := rr_D hD rfl
  have hP : va_P K.1 vwCl (XW7 K xo xs xa' xb' xv xw sF' rF' pF' (putZ vF (fun q => if al.testBit q then mst else 0) 16) bF) H := hP
  refine lv_bipush (v := nI 16) hx hb (pc := 14) dX7_weigh_14 (by decide) ?_
  refine lv_iload hx hb (pc := 16) dX7_weigh_16 (lv_at hl 4 rfl) ?_
  refine nv_imul (a := 16) (b := mst) hx hb (pc := 18) dX7_weigh_18 ?_
  refine lv_istore (lv' := [(5, .int (nI (16 * mst))), (0, .ref xo), (1, .ref go), (2, .int (nI pp)), (3, .int (nI qq)), (4, .int (nI mst))]) hx hb (pc := 19) dX7_weigh_19 hl (by decide) rfl (fun ls hl => ?_)
  refine lv_iconst (v := nI 1) hx hb (pc := 21) dX7_weigh_21 (by decide) ?_
  refine lv_istore (lv' := [(6, .int (nI 1)), (5, .int (nI (16 * mst))), (0, .ref xo), (1, .ref go), (2, .int (nI pp)), (3, .int (nI qq)), (4, .int (nI mst))]) hx hb (pc := 22) dX7_weigh_22 hl (by decide) rfl (fun ls hl => ?_)
  refine lv_iconst (v := nI 0) hx hb (pc := 24) dX7_weigh_24 (by decide) ?_
  refine lv_istore (lv' := [(7, .int (nI 0)), (6, .int (nI 1)), (5, .int (nI (16 * mst))), (0, .ref xo), (1, .ref go), (2, .int (nI pp)), (3, .int (nI qq)), (4, .int (nI mst))]) hx hb (pc := 25) dX7_weigh_25 hl (by decide) rfl (fun ls hl => ?_)
  have L27 : ∀ (fz : Nat) (r : Nat) (ch : Bool) (xv1 : Nat) (xw1 : Nat) (vF1 : Nat → Nat) (bF1 : Nat → Nat) (H : Heap) (locs : List Loc) (hP : va_P K.1 vwCl (XW7 K xo xs xa' xb' xv1 xw1 sF' rF' pF' vF1 bF1) H) (hD : va_D A (XW7 K xo xs xa' xb' xv1 xw1 sF' rF' pF' vF1 bF1)) (hS : va_S A s.heap H locs) (hfz : 16 * mst + 1 - r < fz) (hr : r ≤ 16 * mst + 1) (hv1 : ∀ q, q < n → vF1 q = wgI n pp (pwS n (aMy al E k) (qq - 1)) mst al r q) (hch : ch = false → wgS n pp (pwS n (aMy al E k) (qq - 1)) (wgI n pp (pwS n (aMy al E k) (qq - 1)) mst al r ) = wgI n pp (pwS n (aMy al E k) (qq - 1)) mst al r ) (ls : Array Slot) (hl : lv_has ls 9 [(0, .ref xo), (1, .ref go), (2, .int (nI pp)), (5, .int (nI (16 * mst))), (6, .int (bI (ch))), (7, .int (nI r))]), W p l e rmX7_weigh s m args below meth c H locs 0 0 Q (F0 m 27 ls []) := by
    intro fz; induction fz with
    | zero => intro r ch xv1 xw1 vF1 bF1 H locs hP hD hS hfz hr hv1 hch ls hl; exact absurd hfz (Nat.not_lt_zero _)
    | succ fz ih27 =>
      intro r ch xv1 xw1 vF1 bF1 H locs hP hD hS hfz hr hv1 hch ls hl
      refine lv_iload hx hb (pc := 27) dX7_weigh_27 (lv_at hl 5 rfl) ?_
      refine lv_iload hx hb (pc := 29) dX7_weigh_29 (lv_at hl 3 rfl) ?_
      refine nv_icmp_gt (a := r) (b := (16 * mst)) (tgt := 133) hx hb (pc := 31) dX7_weigh_31 (by decide) (by omega) (by omega) (fun c31 => ?_) (fun c31 => ?_)
      · have hve : ∀ q, q < n → vF1 q = wgI n pp (pwS n (aMy al E k) (qq - 1)) mst al (16 * mst + 1) q := fun q hq => by
          rw [hv1 q hq]
          first
          | (rw [show r = 16 * mst + 1 by omega]; done)
          | (rw [wgI_end (hch c36) hr]; done)
        exact hret _ _ 0 0 133 _ dX7_weigh_133 (by omega) (by omega) hS (⟨_, _, _, _, _, _, _, _, _, hve, hP, hD⟩)
      · refine lv_iload hx hb (pc := 34) dX7_weigh_34 (lv_at hl 4 rfl) ?_
        refine nv_if_eq_b (a := ch) (tgt := 133) hx hb (pc := 36) dX7_weigh_36 (by decide) (fun c36 => ?_) (fun c36 => ?_)
        · have hve : ∀ q, q < n → vF1 q = wgI n pp (pwS n (aMy al E k) (qq - 1)) mst al (16 * mst + 1) q := fun q hq => by
            rw [hv1 q hq]
            first
            | (rw [show r = 16 * mst + 1 by omega]; done)
            | (rw [wgI_end (hch c36) hr]; done)
          exact hret _ _ 0 0 133 _ dX7_weigh_133 (by omega) (by omega) hS (⟨_, _, _, _, _, _, _, _, _, hve, hP, hD⟩)
        · refine lv_iconst (v := nI 0) hx hb (pc := 39) dX7_weigh_39 (by decide) ?_
          refine lv_istore (lv' := [(6, .int (nI 0)), (0, .ref xo), (1, .ref go), (2, .int (nI pp)), (5, .int (nI (16 * mst))), (7, .int (nI r))]) hx hb (pc := 40) dX7_weigh_40 hl (by decide) rfl (fun ls hl => ?_)
          refine lv_iconst (v := nI 0) hx hb (pc := 42) dX7_weigh_42 (by decide) ?_
          refine lv_istore (lv' := [(8, .int (nI 0)), (6, .int (nI 0)), (0, .ref xo), (1, .ref go), (2, .int (nI pp)), (5, .int (nI (16 * mst))), (7, .int (nI r))]) hx hb (pc := 43) dX7_weigh_43 hl (by decide) rfl (fun ls hl => ?_)
          have L45 : ∀ (fz : Nat) (q : Nat) (ch2 : Bool) (bF2 : Nat → Nat) (H : Heap) (locs : List Loc) (hP : va_P K.1 vwCl (XW7 K xo xs xa' xb' xv1 xw1 sF' rF' pF' vF1 bF2) H) (hD : va_D A (XW7 K xo xs xa' xb' xv1 xw1 sF' rF' pF' vF1 bF2)) (hS : va_S A s.heap H locs) (hfz : n - q < fz) (hq : q ≤ n) (hb2 : ∀ s, s < q → bF2 s = wgI n pp (pwS n (aMy al E k) (qq - 1)) mst al (r + 1) s) (hc2 : ch2 = false → ∀ s, s < q → wgI n pp (pwS n (aMy al E k) (qq - 1)) mst al (r + 1) s = wgI n pp (pwS n (aMy al E k) (qq - 1)) mst al r s) (ls : Array Slot) (hl : lv_has ls 9 [(0, .ref xo), (1, .ref go), (2, .int (nI pp)), (5, .int (nI (16 * mst))), (6, .int (bI (ch2))), (7, .int (nI r)), (8, .int (nI q))]), W p l e rmX7_weigh s m args below meth c H locs 0 0 Q (F0 m 45 ls []) := by
            intro fz; induction fz with
            | zero => intro q ch2 bF2 H locs hP hD hS hfz hq hb2 hc2 ls hl; exact absurd hfz (Nat.not_lt_zero _)
            | succ fz ih45 =>
              intro q ch2 bF2 H locs hP hD hS hfz hq hb2 hc2 ls hl
              refine lv_iload hx hb (pc := 45) dX7_weigh_45 (lv_at hl 6 rfl) ?_
              refine lv_aload_n hx hb (pc := 47) dX7_weigh_47 rfl (lv_at hl 1 rfl) ?_
              refine va_get (v := .int (nI n)) hx hb hts (inX7_weigh_1) hown hKK.1 (rr_ro (A := A) hG hGA hS) 0 rfl rfl 1 (by decide) (hts _ (List.mem_of_getElem? (i := 1) (by decide +kernel))) (fun _ h9 => h9) rfl (pc := 48) dX7_weigh_48 ?_
              refine nv_icmp_ge (a := q) (b := n) (tgt := 123) hx hb (pc := 51) dX7_weigh_51 (by decide) (by omega) (by omega) (fun c51 => ?_) (fun c51 => ?_)
              · refine lv_aload_n hx hb (pc := 123) dX7_weigh_123 rfl (lv_at hl 0 rfl) ?_
                refine rr_callV (pc := 124) (va_runV (As := []) (rest := []) ⟨hx, hb, hml, hown, hts⟩ (c_X7_turnValues l K A xo xs xa' xb' xv1 xw1 sF' rF' pF' vF1 bF2 hD) (cwV 0 hts gX7_weigh_X7_turnValues rfl rfl rfl (by decide +kernel) ⟨Nat.le_of_ble_eq_true rfl, Nat.le_of_ble_eq_true rfl⟩) (rr_preV hKK (hP) (va_recv hKK.1 hP (ci := 7) (q0 := 0) rfl rfl)) rfl rfl hl.1 rfl (lv_room (Nat.le_of_ble_eq_true rfl)) dX7_weigh_124 ⟨by omega, by omega⟩) hS (fun _ h => h) (fun H locs hY hsz hfr hS => ?_)
                obtain ⟨hP, hD⟩ := hY
                have hD : va_D A (XW7 K xo xs xa' xb' xw1 xv1 sF' rF' pF' bF2 vF1) := hD
                have hP : va_P K.1 vwCl (XW7 K xo xs xa' xb' xw1 xv1 sF' rF' pF' bF2 vF1) H := hP
                refine lv_iinc (v := nI (r + 1)) (lv' := [(7, .int (nI (r + 1))), (0, .ref xo), (1, .ref go), (2, .int (nI pp)), (5, .int (nI (16 * mst))), (6, .int (bI (ch2))), (8, .int (nI q))]) hx hb (pc := 127) dX7_weigh_127 hl (k := 5) rfl (rr_inc _) (by decide) rfl (fun ls hl => ?_)
                refine lv_goto (tgt := 27) hx hb (pc := 130) dX7_weigh_130 (by decide) ?_
                have e8 : q = n := by omega
                exact ih27 (r + 1) ch2 xw1 xv1 bF2 vF1 _ _ hP hD hS (by omega) (by omega) (fun s hs => hb2 s (by omega)) (fun h => wgI_fix (fun s hs => hc2 h s (by omega))) ls (lv_sub hl [1, 2, 3, 4, 5, 0] rfl)
              · refine lv_aload_n hx hb (pc := 54) dX7_weigh_54 rfl (lv_at hl 0 rfl) ?_
                refine va_get (v := .ref xw1) hx hb hts (inX7_weigh_7) hown hKK.1 hP 0 rfl rfl 4 (by decide) (hts _ (List.mem_of_getElem? (i := 2) (by decide +kernel))) (fun _ h9 => h9) rfl (pc := 55) dX7_weigh_55 ?_
                refine lv_iload hx hb (pc := 58) dX7_weigh_58 (lv_at hl 6 rfl) ?_
                refine lv_aload_n hx hb (pc := 60) dX7_weigh_60 rfl (lv_at hl 0 rfl) ?_
                refine va_get (v := .ref xv1) hx hb hts (inX7_weigh_7) hown hKK.1 hP 0 rfl rfl 3 (by decide) (hts _ (List.mem_of_getElem? (i := 3) (by decide +kernel))) (fun _ h9 => h9) rfl (pc := 61) dX7_weigh_61 ?_
                refine lv_iload hx hb (pc := 64) dX7_weigh_64 (lv_at hl 6 rfl) ?_
                refine nv_lald (v := lN (wgI n pp (pwS n (aMy al E k) (qq - 1)) mst al r q)) (i := q) hx hb hKK hP 4 rfl (by omega) (by decide) (congrArg lN (hv1 _ (by omega))) (pc := 66) dX7_weigh_66 ?_
                refine lv_aload_n hx hb (pc := 67) dX7_weigh_67 rfl (lv_at hl 0 rfl) ?_
                refine lv_aload_n hx hb (pc := 68) dX7_weigh_68 rfl (lv_at hl 0 rfl) ?_
                refine va_get (v := .ref xa') hx hb hts (inX7_weigh_7) hown hKK.1 hP 0 rfl rfl 1 (by decide) (hts _ (List.mem_of_getElem? (i := 4) (by decide +kernel))) (fun _ h9 => h9) rfl (pc := 69) dX7_weigh_69 ?_
                refine lv_iload hx hb (pc := 72) dX7_weigh_72 (lv_at hl 6 rfl) ?_
                refine lv_aload_n hx hb (pc := 74) dX7_weigh_74 rfl (lv_at hl 1 rfl) ?_
                refine va_get (v := .int (nI n)) hx hb hts (inX7_weigh_1) hown hKK.1 (rr_ro (A := A) hG hGA hS) 0 rfl rfl 1 (by decide) (hts _ (List.mem_of_getElem? (i := 1) (by decide +kernel))) (fun _ h9 => h9) rfl (pc := 75) dX7_weigh_75 ?_
                have hsq : sN n (fun o => rF' (q * 16 + o) * vF1 o) = sN n (fun t => (pwS n (aMy al E k) (qq - 1)) q t * wgI n pp (pwS n (aMy al E k) (qq - 1)) mst al r t) := sN_congr (fun o ho => by rw [hr' q o (by omega) ho, hv1 o ho])
                have hsb : sN n (fun t => (pwS n (aMy al E k) (qq - 1)) q t * wgI n pp (pwS n (aMy al E k) (qq - 1)) mst al r t) < 2 ^ 62 := wg_sum hn (show qq - 1 ≤ 3 by omega) hm1 (fun i j => pwS_le hn (aMy4 hk4) (qq - 1) i j) (fun t => wgI_le r t) q
                have hwl := wgI_le (n := n) (p := pp) (P := (pwS n (aMy al E k) (qq - 1))) (L := mst) (al := al) r q
                have hwl2 := wgI_le (n := n) (p := pp) (P := (pwS n (aMy al E k) (qq - 1))) (L := mst) (al := al) (r + 1) q
                have hsh : (sN n (fun t => (pwS n (aMy al E k) (qq - 1)) q t * wgI n pp (pwS n (aMy al E k) (qq - 1)) mst al r t)) >>> pp ≤ sN n (fun t => (pwS n (aMy al E k) (qq - 1)) q t * wgI n pp (pwS n (aMy al E k) (qq - 1)) mst al r t) := shr_le _ _
                refine rr_callP (rv := .long (lN (sN n (fun o => rF' (q * 16 + o) * vF1 o)))) (pc := 78) (va_runV (As := [.ref xa', .int (nI q), .int (nI n)]) (rest := [.long (lN (wgI n pp (pwS n (aMy al E k) (qq - 1)) mst al r q)), .int (nI q), .ref xw1]) ⟨hx, hb, hml, hown, hts⟩ (c_X7_sumAtEnds_r l K xo xs xa' xb' xv1 xw1 sF' rF' pF' vF1 bF2 q n (by omega) hn) (cwV 3 hts gX7_weigh_X7_sumAtEnds rfl rfl rfl (by decide +kernel) ⟨Nat.le_of_ble_eq_true rfl, Nat.le_of_ble_eq_true rfl⟩) (rr_preV hKK (hP) (va_recv hKK.1 hP (ci := 7) (q0 := 0) rfl rfl)) rfl rfl hl.1 rfl (lv_room (Nat.le_of_ble_eq_true rfl)) dX7_weigh_78 ⟨Nat.le_refl _, Nat.le_refl _⟩) ?_
                refine rr_top (v := .long (lN (sN n (fun t => (pwS n (aMy al E k) (qq - 1)) q t * wgI n pp (pwS n (aMy al E k) (qq - 1)) mst al r t)))) (by rw [hsq]) ?_
                refine lv_iload_n hx hb (pc := 81) dX7_weigh_81 rfl (lv_at hl 2 rfl) ?_
                refine lv_lshr (v := lN ((sN n (fun t => (pwS n (aMy al E k) (qq - 1)) q t * wgI n pp (pwS n (aMy al E k) (qq - 1)) mst al r t)) >>> pp)) hx hb (pc := 82) dX7_weigh_82 (rr_lshr hsb (by omega)) ?_
                refine va_mmin_long hx hb (hml.trans hl.1.symm) hown (hts _ (List.mem_of_getElem? (i := 5) (by decide +kernel))) (hts _ (List.mem_of_getElem? (i := 6) (by decide +kernel))) (hts _ (List.mem_of_getElem? (i := 7) (by decide +kernel))) (hts _ (List.mem_of_getElem? (i := 8) (by decide +kernel))) (Nat.le_of_ble_eq_true rfl) (Nat.le_of_ble_eq_true rfl) (by omega) (by omega) (pc := 83) dX7_weigh_83 ?_
                refine rr_top (v := .long (lN (min (wgI n pp (pwS n (aMy al E k) (qq - 1)) mst al r q) ((sN n (fun t => (pwS n (aMy al E k) (qq - 1)) q t * wgI n pp (pwS n (aMy al E k) (qq - 1)) mst al r t)) >>> pp)))) (congrArg Value.long (rr_minL (by omega) (by omega))) ?_
                refine rr_top (v := .long (lN (wgI n pp (pwS n (aMy al E k) (qq - 1)) mst al (r + 1) q))) (by rw [wgI_lt (by omega)]) ?_
                refine nv_lastN (f := bF2) (x := (wgI n pp (pwS n (aMy al E k) (qq - 1)) mst al (r + 1) q)) (ws' := XW7 K xo xs xa' xb' xv1 xw1 sF' rF' pF' vF1 (va_up bF2 q (wgI n pp (pwS n (aMy al E k) (qq - 1)) mst al (r + 1) q))) (i := q) hx hb hKK hP hD hS 5 rfl (by omega) (by decide) (rfl) (pc := 86) dX7_weigh_86 (fun H locs hP hD hS => ?_)
                refine lv_iload hx hb (pc := 87) dX7_weigh_87 (lv_at hl 4 rfl) ?_
                refine nv_if_ne_b (a := ch2) (tgt := 110) hx hb (pc := 89) dX7_weigh_89 (by decide) (fun c89 => ?_) (fun c89 => ?_)
                · refine lv_iconst (v := nI 1) hx hb (pc := 110) dX7_weigh_110 (by decide) ?_
                  refine lv_goto (tgt := 115) hx hb (pc := 111) dX7_weigh_111 (by decide) ?_
                  refine lv_istore (lv' := [(6, .int (nI 1)), (0, .ref xo), (1, .ref go), (2, .int (nI pp)), (5, .int (nI (16 * mst))), (7, .int (nI r)), (8, .int (nI q))]) hx hb (pc := 115) dX7_weigh_115 hl (by decide) rfl (fun ls hl => ?_)
                  refine lv_iinc (v := nI (q + 1)) (lv' := [(8, .int (nI (q + 1))), (6, .int (nI 1)), (0, .ref xo), (1, .ref go), (2, .int (nI pp)), (5, .int (nI (16 * mst))), (7, .int (nI r))]) hx hb (pc := 117) dX7_weigh_117 hl (k := 6) rfl (rr_inc _) (by decide) rfl (fun ls hl => ?_)
                  refine lv_goto (tgt := 45) hx hb (pc := 120) dX7_weigh_120 (by decide) ?_
                  have hb3 : ∀ s, s < q + 1 → va_up bF2 q (wgI n pp (pwS n (aMy al E k) (qq - 1)) mst al (r + 1) q) s = wgI n pp (pwS n (aMy al E k) (qq - 1)) mst al (r + 1) s := fun s hs => by
                    unfold va_up
                    split
                    · rename_i e; rw [e]
                    · exact hb2 s (by omega)
                  exact ih45 (q + 1) true (va_up bF2 q (wgI n pp (pwS n (aMy al E k) (qq - 1)) mst al (r + 1) q)) _ _ hP hD hS (by omega) (by omega) (hb3) (by first | (intro h; cases h; done) | exact fun _ s hs => (Nat.lt_or_ge s q).elim (fun z => hc2 c89 s z) (fun z => by rw [show s = q by omega]; exact c106)) ls (lv_sub hl [2, 3, 4, 5, 1, 6, 0] rfl)
                · refine lv_aload_n hx hb (pc := 92) dX7_weigh_92 rfl (lv_at hl 0 rfl) ?_
                  refine va_get (v := .ref xw1) hx hb hts (inX7_weigh_7) hown hKK.1 hP 0 rfl rfl 4 (by decide) (hts _ (List.mem_of_getElem? (i := 2) (by decide +kernel))) (fun _ h9 => h9) rfl (pc := 93) dX7_weigh_93 ?_
                  refine lv_iload hx hb (pc := 96) dX7_weigh_96 (lv_at hl 6 rfl) ?_
                  refine nv_lald (v := lN (wgI n pp (pwS n (aMy al E k) (qq - 1)) mst al (r + 1) q)) (i := q) hx hb hKK hP 5 rfl (by omega) (by decide) (by show lN (va_up bF2 q _ q) = _; unfold va_up; rw [if_pos rfl]) (pc := 98) dX7_weigh_98 ?_
                  refine lv_aload_n hx hb (pc := 99) dX7_weigh_99 rfl (lv_at hl 0 rfl) ?_
                  refine va_get (v := .ref xv1) hx hb hts (inX7_weigh_7) hown hKK.1 hP 0 rfl rfl 3 (by decide) (hts _ (List.mem_of_getElem? (i := 3) (by decide +kernel))) (fun _ h9 => h9) rfl (pc := 100) dX7_weigh_100 ?_
                  refine lv_iload hx hb (pc := 103) dX7_weigh_103 (lv_at hl 6 rfl) ?_
                  refine nv_lald (v := lN (wgI n pp (pwS n (aMy al E k) (qq - 1)) mst al r q)) (i := q) hx hb hKK hP 4 rfl (by omega) (by decide) (congrArg lN (hv1 _ (by omega))) (pc := 105) dX7_weigh_105 ?_
                  refine nv_lcmp_eq (a := (wgI n pp (pwS n (aMy al E k) (qq - 1)) mst al (r + 1) q)) (b := (wgI n pp (pwS n (aMy al E k) (qq - 1)) mst al r q)) (tgt := 114) hx hb (pc := 106) dX7_weigh_106 dX7_weigh_107 (by decide) (by omega) (by omega) (fun c106 => ?_) (fun c106 => ?_)
                  · refine lv_iconst (v := nI 0) hx hb (pc := 114) dX7_weigh_114 (by decide) ?_
                    refine lv_istore (lv' := [(6, .int (nI 0)), (0, .ref xo), (1, .ref go), (2, .int (nI pp)), (5, .int (nI (16 * mst))), (7, .int (nI r)), (8, .int (nI q))]) hx hb (pc := 115) dX7_weigh_115 hl (by decide) rfl (fun ls hl => ?_)
                    refine lv_iinc (v := nI (q + 1)) (lv' := [(8, .int (nI (q + 1))), (6, .int (nI 0)), (0, .ref xo), (1, .ref go), (2, .int (nI pp)), (5, .int (nI (16 * mst))), (7, .int (nI r))]) hx hb (pc := 117) dX7_weigh_117 hl (k := 6) rfl (rr_inc _) (by decide) rfl (fun ls hl => ?_)
                    refine lv_goto (tgt := 45) hx hb (pc := 120) dX7_weigh_120 (by decide) ?_
                    have hb3 : ∀ s, s < q + 1 → va_up bF2 q (wgI n pp (pwS n (aMy al E k) (qq - 1)) mst al (r + 1) q) s = wgI n pp (pwS n (aMy al E k) (qq - 1)) mst al (r + 1) s := fun s hs => by
                      unfold va_up
                      split
                      · rename_i e; rw [e]
                      · exact hb2 s (by omega)
                    exact ih45 (q + 1) false (va_up bF2 q (wgI n pp (pwS n (aMy al E k) (qq - 1)) mst al (r + 1) q)) _ _ hP hD hS (by omega) (by omega) (hb3) (by first | (intro h; cases h; done) | exact fun _ s hs => (Nat.lt_or_ge s q).elim (fun z => hc2 c89 s z) (fun z => by rw [show s = q by omega]; exact c106)) ls (lv_sub hl [2, 3, 4, 5, 1, 6, 0] rfl)
                  · refine lv_iconst (v := nI 1) hx hb (pc := 110) dX7_weigh_110 (by decide) ?_
                    refine lv_goto (tgt := 115) hx hb (pc := 111) dX7_weigh_111 (by decide) ?_
                    refine lv_istore (lv' := [(6, .int (nI 1)), (0, .ref xo), (1, .ref go), (2, .int (nI pp)), (5, .int (nI (16 * mst))), (7, .int (nI r)), (8, .int (nI q))]) hx hb (pc := 115) dX7_weigh_115 hl (by decide) rfl (fun ls hl => ?_)
                    refine lv_iinc (v := nI (q + 1)) (lv' := [(8, .int (nI (q + 1))), (6, .int (nI 1)), (0, .ref xo), (1, .ref go), (2, .int (nI pp)), (5, .int (nI (16 * mst))), (7, .int (nI r))]) hx hb (pc := 117) dX7_weigh_117 hl (k := 6) rfl (rr_inc _) (by decide) rfl (fun ls hl => ?_)
                    refine lv_goto (tgt := 45) hx hb (pc := 120) dX7_weigh_120 (by decide) ?_
                    have hb3 : ∀ s, s < q + 1 → va_up bF2 q (wgI n pp (pwS n (aMy al E k) (qq - 1)) mst al (r + 1) q) s = wgI n pp (pwS n (aMy al E k) (qq - 1)) mst al (r + 1) s := fun s hs => by
                      unfold va_up
                      split
                      · rename_i e; rw [e]
                      · exact hb2 s (by omega)
                    exact ih45 (q + 1) true (va_up bF2 q (wgI n pp (pwS n (aMy al E k) (qq - 1)) mst al (r + 1) q)) _ _ hP hD hS (by omega) (by omega) (hb3) (by first | (intro h; cases h; done) | exact fun _ s hs => (Nat.lt_or_ge s q).elim (fun z => hc2 c89 s z) (fun z => by rw [show s = q by omega]; exact c106)) ls (lv_sub hl [2, 3, 4, 5, 1, 6, 0] rfl)
          exact L45 (17) 0 false bF1 _ _ hP hD hS (by omega) (Nat.zero_le _) (fun s hs => absurd hs (Nat.not_lt_zero _)) (fun _ s hs => absurd hs (Nat.not_lt_zero _)) ls (lv_sub hl [2, 3, 4, 5, 1, 6, 0] rfl)
  exact L27 (16 * mst + 2) 0 true xv xw (putZ vF (fun q => if al.testBit q then mst else 0) 16) bF _ _ hP hD hS (by omega) (Nat.zero_le _) (fun q hq => putZ_in (by omega)) (fun h => by cases h) ls (lv_sub hl [3, 4, 5, 2, 1, 0] rfl)

abbrev rmX7_weightOf : Room := { frames := 2, cells := 0, slots := 0, locals := 43 }
theorem inX7_weightOf_7 : ∀ w ∈ wsX70, w ∈ wsX7_weightOf := fun _ h => List.mem_cons_of_mem _ (List.mem_append_left _ (List.mem_append_right _ h))
set_option maxHeartbeats 4000000 in
set_option maxRecDepth 100000 in
theorem c_X7_weightOf (l : Launch) (K : rr_K) (xo xs xa xb xv xw : Nat) (sF rF pF vF bF : Nat → Nat) (go ge gt k n gw al lw : Nat) (E T : Nat → Nat) (q : Nat) (hn : n ≤ 16) (hq : q < n) : MetP l K yX7_weightOf wsX7_weightOf rmX7_weightOf [.ref xo, .ref go, .int (nI q)] (fun H => va_P K.1 vwCl (XW7 K xo xs xa xb xv xw sF rF pF vF bF) H ∧ va_P K.1 vwCl (GW K go ge gt k n gw al lw E T) H) (.int (nI (vF q))) := by
  refine metP_of (cc := cX7_weightOf) (maxL := 3) (ret := (some .int)) (rt := .int) (by decide) rfl rfl (Nat.le_of_ble_eq_true rfl) ?_
  intro p e s m args below meth c Q ls hEnt hKK hX hret hl
  obtain ⟨hx, hb, hml, hown, hts⟩ := hEnt
  obtain ⟨hP, hG⟩ := hX
  have hl : lv_has ls 3 [(0, .ref xo), (1, .ref go), (2, .int (nI q))] := hl
  refine lv_aload_n hx hb (pc := 0) dX7_weightOf_0 rfl (lv_at hl 1 rfl) ?_
  refine lv_iload_n hx hb (pc := 1) dX7_weightOf_1 rfl (lv_at hl 2 rfl) ?_
  refine rr_callP (rv := .int (bI (rrin (nI q) (nI 0) (nI (n - 1))))) (pc := 2) (va_runV (As := [.int (nI q)]) (rest := []) ⟨hx, hb, hml, hown, hts⟩ (c_X1_hasState l K go ge gt k n gw al lw E T (nI q) (by omega)) (cwV 1 hts gX7_weightOf_X1_hasState rfl rfl rfl (by decide +kernel) ⟨Nat.le_of_ble_eq_true rfl, Nat.le_of_ble_eq_true rfl⟩) (rr_preV hKK (hG) (va_recv hKK.1 hG (ci := 1) (q0 := 0) rfl rfl)) rfl rfl hl.1 rfl (lv_room (Nat.le_of_ble_eq_true rfl)) dX7_weightOf_2 ⟨Nat.le_refl _, Nat.le_refl _⟩) ?_
  refine nv_if_eq_b (a := (rrin (nI q) (nI 0) (nI (n - 1)))) (tgt := 18) hx hb (pc := 5) dX7_weightOf_5 (by decide) (fun c5 => absurd c5 (by rw [rrin_yes hq (by omega)]; decide)) (fun c5 => ?_)
  refine lv_aload_n hx hb (pc := 8) dX7_weightOf_8 rfl (lv_at hl 0 rfl) ?_
  refine va_get (v := .ref xv) hx hb hts (inX7_weightOf_7) hown hKK.1 hP 0 rfl rfl 3 (by decide) (hts _ (List.mem_of_getElem? (i := 1) (by decide +kernel))) (fun _ h9 => h9) rfl (pc := 9) dX7_weightOf_9 ?_
  refine lv_iload_n hx hb (pc := 12) dX7_weightOf_12 rfl (lv_at hl 2 rfl) ?_
  refine nv_lald (v := lN (vF q)) (i := q) hx hb hKK hP 4 rfl (by omega) (by decide) (rfl) (pc := 13) dX7_weightOf_13 ?_
  refine lv_l2i (v := nI (vF q)) hx hb (pc := 14) dX7_weightOf_14 (lN_i _) ?_
  refine lv_goto (tgt := 19) hx hb (pc := 15) dX7_weightOf_15 (by decide) ?_
  exact hret.1 19 _ (nI (vF q)) dX7_weightOf_19 (rfl) (rfl)

abbrev rmX7_sumOfWeights : Room := { frames := 3, cells := 0, slots := 0, locals := 65 }
theorem inX7_sumOfWeights_1 : ∀ w ∈ wsX10, w ∈ wsX7_sumOfWeights := fun _ h => List.mem_cons_of_mem _ (List.mem_append_left _ (List.mem_append_right _ h))
set_option maxHeartbeats 4000000 in
set_option maxRecDepth 100000 in
theorem c_X7_sumOfWeights (l : Launch) (K : rr_K) (xo xs xa xb xv xw : Nat) (sF rF pF vF bF : Nat → Nat) (go ge gt k n gw al lw : Nat) (E T : Nat → Nat) (hn : n ≤ 16) : MetP l K yX7_sumOfWeights wsX7_sumOfWeights rmX7_sumOfWeights [.ref xo, .ref go] (fun H => va_P K.1 vwCl (XW7 K xo xs xa xb xv xw sF rF pF vF bF) H ∧ va_P K.1 vwCl (GW K go ge gt k n gw al lw E T) H) (.int (nI (sN n vF))) := by
  refine metP_of (cc := cX7_sumOfWeights) (maxL := 4) (ret := (some .int)) (rt := .int) (by decide) rfl rfl (Nat.le_of_ble_eq_true rfl) ?_
  intro p e s m args below meth c Q ls hEnt hKK hX hret hl
  obtain ⟨hx, hb, hml, hown, hts⟩ := hEnt
  obtain ⟨hP, hG⟩ := hX
  have hl : lv_has ls 4 [(0, .ref xo), (1, .ref go)] := hl
  refine lv_iconst (v := nI 0) hx hb (pc := 0) dX7_sumOfWeights_0 (by decide) ?_
  refine lv_istore_n (lv' := [(2, .int (nI 0)), (0, .ref xo), (1, .ref go)]) hx hb (pc := 1) dX7_sumOfWeights_1 rfl hl (by decide) rfl (fun ls hl => ?_)
  refine lv_iconst (v := nI 0) hx hb (pc := 2) dX7_sumOfWeights_2 (by decide) ?_
  refine lv_istore_n (lv' := [(3, .int (nI 0)), (2, .int (nI 0)), (0, .ref xo), (1, .ref go)]) hx hb (pc := 3) dX7_sumOfWeights_3 rfl hl (by decide) rfl (fun ls hl => ?_)
  have L4 : ∀ (fz : Nat) (q : Nat) (hfz : n - q < fz) (hq : q ≤ n) (ls : Array Slot) (hl : lv_has ls 4 [(0, .ref xo), (1, .ref go), (2, .int (nI (sN q vF))), (3, .int (nI q))]), W p l e rmX7_sumOfWeights s m args below meth c s.heap [] 0 0 Q (F0 m 4 ls []) := by
    intro fz; induction fz with
    | zero => intro q hfz hq ls hl; exact absurd hfz (Nat.not_lt_zero _)
    | succ fz ih4 =>
      intro q hfz hq ls hl
      refine lv_iload_n hx hb (pc := 4) dX7_sumOfWeights_4 rfl (lv_at hl 3 rfl) ?_
      refine lv_aload_n hx hb (pc := 5) dX7_sumOfWeights_5 rfl (lv_at hl 1 rfl) ?_
      refine va_get (v := .int (nI n)) hx hb hts (inX7_sumOfWeights_1) hown hKK.1 hG 0 rfl rfl 1 (by decide) (hts _ (List.mem_of_getElem? (i := 1) (by decide +kernel))) (fun _ h9 => h9) rfl (pc := 6) dX7_sumOfWeights_6 ?_
      refine nv_icmp_ge (a := q) (b := n) (tgt := 27) hx hb (pc := 9) dX7_sumOfWeights_9 (by decide) (by omega) (by omega) (fun c9 => ?_) (fun c9 => ?_)
      · refine lv_iload_n hx hb (pc := 27) dX7_sumOfWeights_27 rfl (lv_at hl 2 rfl) ?_
        have e9 : q = n := by omega
        exact hret.1 28 _ (nI (sN q vF)) dX7_sumOfWeights_28 (by rw [e9]) (rfl)
      · refine lv_iload_n hx hb (pc := 12) dX7_sumOfWeights_12 rfl (lv_at hl 2 rfl) ?_
        refine lv_aload_n hx hb (pc := 13) dX7_sumOfWeights_13 rfl (lv_at hl 0 rfl) ?_
        refine lv_aload_n hx hb (pc := 14) dX7_sumOfWeights_14 rfl (lv_at hl 1 rfl) ?_
        refine lv_iload_n hx hb (pc := 15) dX7_sumOfWeights_15 rfl (lv_at hl 3 rfl) ?_
        refine rr_callP (rv := .int (nI (vF q))) (pc := 16) (va_runV (As := [.ref go, .int (nI q)]) (rest := [.int (nI (sN q vF))]) ⟨hx, hb, hml, hown, hts⟩ (c_X7_weightOf l K xo xs xa xb xv xw sF rF pF vF bF go ge gt k n gw al lw E T q hn (by omega)) (cwV 2 hts gX7_sumOfWeights_X7_weightOf rfl rfl rfl (by decide +kernel) ⟨Nat.le_of_ble_eq_true rfl, Nat.le_of_ble_eq_true rfl⟩) (rr_preV hKK (⟨hP, hG⟩) (va_recv hKK.1 hP (ci := 7) (q0 := 0) rfl rfl)) rfl rfl hl.1 rfl (lv_room (Nat.le_of_ble_eq_true rfl)) dX7_sumOfWeights_16 ⟨Nat.le_refl _, Nat.le_refl _⟩) ?_
        refine nv_iadd (a := (sN q vF)) (b := (vF q)) hx hb (pc := 19) dX7_sumOfWeights_19 ?_
        refine lv_istore_n (lv' := [(2, .int (nI ((sN q vF) + (vF q)))), (0, .ref xo), (1, .ref go), (3, .int (nI q))]) hx hb (pc := 20) dX7_sumOfWeights_20 rfl hl (by decide) rfl (fun ls hl => ?_)
        refine lv_iinc (v := nI (q + 1)) (lv' := [(3, .int (nI (q + 1))), (2, .int (nI ((sN q vF) + (vF q)))), (0, .ref xo), (1, .ref go)]) hx hb (pc := 21) dX7_sumOfWeights_21 hl (k := 3) rfl (rr_inc _) (by decide) rfl (fun ls hl => ?_)
        refine lv_goto (tgt := 4) hx hb (pc := 24) dX7_sumOfWeights_24 (by decide) ?_
        have hl : lv_has ls 4 [(3, .int (nI (q + 1))), (2, .int (nI (sN (q + 1) vF))), (0, .ref xo), (1, .ref go)] := by rw [show sN (q + 1) vF = (sN q vF) + (vF q) from rfl]; exact hl
        exact ih4 (q + 1) (by omega) (by omega) ls (lv_sub hl [2, 3, 1, 0] rfl)
  have hl : lv_has ls 4 [(3, .int (nI 0)), (2, .int (nI (sN 0 vF))), (0, .ref xo), (1, .ref go)] := by rw [show sN 0 vF = 0 from rfl]; exact hl
  exact L4 (17) 0 (by omega) (Nat.zero_le _) ls (lv_sub hl [2, 3, 1, 0] rfl)

