abbrev rmX4_open : Room := { frames := 1, cells := 0, slots := 0, locals := 23 }
theorem inX4_open_4 : ∀ w ∈ wsX40, w ∈ wsX4_open := fun _ h => List.mem_cons_of_mem _ (List.mem_append_right _ h)
set_option maxHeartbeats 4000000 in
set_option maxRecDepth 100000 in
theorem c_X4_open (l : Launch) (K : rr_K) (A : Nat → Prop) (po pt wd : Nat) (TD : Nat → Nat) (w : Nat) (hD : va_D A (PW K po pt wd TD)) : MetV l K yX4_open wsX4_open rmX4_open [.ref po, .int (nI w)] (fun H => va_P K.1 vwCl (PW K po pt wd TD) H) A (fun H => va_P K.1 vwCl (PW K po pt w (putZ TD (fun _ => 0) 64)) H) 0 0 := by
  refine metV_of (cc := cX4_open) (maxL := 2) (by decide) rfl rfl rfl (Nat.le_of_ble_eq_true rfl) ?_
  intro p e s m args below meth c Q ls hEnt hin hKK hX hret hl
  obtain ⟨hx, hb, hml, hown, hts⟩ := hEnt
  have hP : va_P K.1 vwCl (PW K po pt wd TD) s.heap := hX
  have hl : lv_has ls 2 [(0, .ref po), (1, .int (nI w))] := hl
  have hS : va_S A s.heap s.heap [] := va_S.rf
  refine lv_aload_n hx hb (pc := 0) dX4_open_0 rfl (lv_at hl 0 rfl) ?_
  refine lv_iload_n hx hb (pc := 1) dX4_open_1 rfl (lv_at hl 1 rfl) ?_
  refine rr_put (v := .int (nI w)) (ty := tyX4 0) (ws' := PW K po pt w TD) hx hb hts (inX4_open_4) tyX4 tyX4_ok nmX4 hown hKK.1 hP hD hS 0 rfl rfl 0 (by decide) (hts _ (List.mem_of_getElem? (i := 1) (by decide +kernel))) (fun _ h9 => h9) rfl (tyX4_ok 0 (by decide)) rfl rfl (Nat.le_of_ble_eq_true rfl) rfl (pc := 2) dX4_open_2 (fun H locs hP hD hS => ?_)
  refine lv_aload_n hx hb (pc := 5) dX4_open_5 rfl (lv_at hl 0 rfl) ?_
  refine va_get (v := .ref pt) hx hb hts (inX4_open_4) hown hKK.1 hP 0 rfl rfl 1 (by decide) (hts _ (List.mem_of_getElem? (i := 2) (by decide +kernel))) (fun _ h9 => h9) rfl (pc := 6) dX4_open_6 ?_
  refine lv_iconst (v := nI 0) hx hb (pc := 9) dX4_open_9 (by decide) ?_
  have hP : va_P K.1 vwCl ([(po, .inr (4, [.int (nI w), .ref pt]))] ++ RA K pt 64 TD) H := hP
  have hD : va_D A ([(po, .inr (4, [.int (nI w), .ref pt]))] ++ RA K pt 64 TD) := hD
  have hDc := rr_AW (rr_Dright hD)
  refine rr_callV (pc := 10) (va_runS (As := [.ref pt, .int (nI 0)]) (rest := []) ⟨hx, hb, hml, hown, hts⟩ (c_J7_fill_53178 l K (AW (RA K pt 64 TD)) pt 64 0 TD (by decide) hDc) (va_cwS 2 hts gX4_open_J7_fill_53178 rfl rfl rfl (by decide +kernel) ⟨Nat.le_of_ble_eq_true rfl, Nat.le_of_ble_eq_true rfl⟩) (rr_preS hKK (rr_right hP)) rfl rfl hl.1 rfl (lv_room (Nat.le_of_ble_eq_true rfl)) dX4_open_10 ⟨by omega, by omega⟩) hS (rr_AW_in (rr_Dright hD)) (fun H locs hY hsz hfr hS => ?_)
  have hP1 := hY
  obtain ⟨hP, hD⟩ := rr_app2 hP hD hfr hP1 rfl
  have hD : va_D A (PW K po pt w (putZ TD (fun _ => 0) 64)) := hD
  have hP : va_P K.1 vwCl (PW K po pt w (putZ TD (fun _ => 0) 64)) H := hP
  exact hret _ _ 0 0 13 _ dX4_open_13 (by omega) (by omega) hS (hP)

abbrev rmX0_init : Room := { frames := 1, cells := 3, slots := 53, locals := 20 }
theorem inX0_init_0 : ∀ w ∈ wsX00, w ∈ wsX0_init := fun _ h => List.mem_cons_of_mem _ (List.mem_append_right _ h)
set_option maxHeartbeats 4000000 in
set_option maxRecDepth 100000 in
theorem c_X0_init (l : Launch) (K : rr_K) (A : Nat → Prop) (sz : Nat) (bo : Nat) (hA : ∀ q, sz ≤ q → A q) (hD : va_D A ([(bo, .inr (0, [.int (nI 0), .null, .null, .null]))])) : MetV l K yX0_init wsX0_init rmX0_init [.ref bo] (fun H => H.size = sz ∧ va_P K.1 vwCl ([(bo, .inr (0, [.int (nI 0), .null, .null, .null]))]) H) A (fun H => ∃ bl bt br, va_P K.1 vwCl (BW K bo bl bt br 0 (fun _ => 0) (fun _ => 0) (fun _ => 0)) H ∧ va_D A (BW K bo bl bt br 0 (fun _ => 0) (fun _ => 0) (fun _ => 0))) 3 53 := by
  refine metV_of (cc := cX0_init) (maxL := 1) (by decide) rfl rfl rfl (Nat.le_of_ble_eq_true rfl) ?_
  intro p e s m args below meth c Q ls hEnt hin hKK hX hret hl
  obtain ⟨hx, hb, hml, hown, hts⟩ := hEnt
  obtain ⟨hsz0, hX⟩ := hX
  have hA : ∀ q, s.heap.size ≤ q → A q := fun q h => hA q (hsz0 ▸ h)
  have hP : va_P K.1 vwCl ([(bo, .inr (0, [.int (nI 0), .null, .null, .null]))]) s.heap := hX
  have hl : lv_has ls 1 [(0, .ref bo)] := hl
  have hS : va_S A s.heap s.heap [] := va_S.rf
  refine lv_aload_n hx hb (pc := 0) dX0_init_0 rfl (lv_at hl 0 rfl) ?_
  refine W.objInit hx hb hown (hts _ (List.mem_of_getElem? (i := 1) (by decide +kernel))) (hts _ (List.mem_of_getElem? (i := 2) (by decide +kernel))) (hts _ (List.mem_of_getElem? (i := 3) (by decide +kernel))) rfl (by rw [hml]; exact hl.1) rfl dX0_init_1 (Nat.le_of_ble_eq_true rfl) (Nat.le_of_ble_eq_true rfl) ?_
  refine W.eq (g2 := F0 m 4 ls []) rfl ?_
  refine lv_aload_n hx hb (pc := 4) dX0_init_4 rfl (lv_at hl 0 rfl) ?_
  refine lv_bipush (v := nI 8) hx hb (pc := 5) dX0_init_5 (by decide) ?_
  refine nv_newi (n := 8) hx hb (hts _ (List.mem_of_getElem? (i := 4) (by decide +kernel))) hKK hP hD hS hA (by decide) (Nat.le_of_ble_eq_true rfl) (Nat.le_of_ble_eq_true rfl) (pc := 7) dX0_init_7 (fun q1 H hP hD hS => ?_)
  have hP : va_P K.1 vwCl ([(bo, .inr (0, [.int (nI 0), .null, .null, .null])), (q1, .inl (K.2.1, 8, .inl (fun j => nI (((fun _ => 0)) j))))]) H := hP
  have hD : va_D A ([(bo, .inr (0, [.int (nI 0), .null, .null, .null])), (q1, .inl (K.2.1, 8, .inl (fun j => nI (((fun _ => 0)) j))))]) := hD
  refine rr_putF (v := .ref q1) (ty := tyX0 1) (ws' := [(bo, .inr (0, [.int (nI 0), .ref q1, .null, .null])), (q1, .inl (K.2.1, 8, .inl (fun j => nI (((fun _ => 0)) j))))]) hx hb hts (inX0_init_0) tyX0 tyX0_ok nmX0 hown hKK.1 hP hD hS 0 rfl rfl 1 (by decide) (hts _ (List.mem_of_getElem? (i := 5) (by decide +kernel))) (fun _ h9 => h9) rfl hin rfl (tyX0_ok 1 (by decide)) rfl rfl (Nat.le_of_ble_eq_true rfl) rfl (pc := 9) dX0_init_9 (fun H locs hP hD hS => ?_)
  refine lv_aload_n hx hb (pc := 12) dX0_init_12 rfl (lv_at hl 0 rfl) ?_
  refine lv_bipush (v := nI 40) hx hb (pc := 13) dX0_init_13 (by decide) ?_
  refine nv_newi (n := 40) hx hb (hts _ (List.mem_of_getElem? (i := 4) (by decide +kernel))) hKK hP hD hS hA (by decide) (Nat.le_of_ble_eq_true rfl) (Nat.le_of_ble_eq_true rfl) (pc := 15) dX0_init_15 (fun q2 H hP hD hS => ?_)
  have hP : va_P K.1 vwCl ([(bo, .inr (0, [.int (nI 0), .ref q1, .null, .null])), (q1, .inl (K.2.1, 8, .inl (fun j => nI (((fun _ => 0)) j)))), (q2, .inl (K.2.1, 40, .inl (fun j => nI (((fun _ => 0)) j))))]) H := hP
  have hD : va_D A ([(bo, .inr (0, [.int (nI 0), .ref q1, .null, .null])), (q1, .inl (K.2.1, 8, .inl (fun j => nI (((fun _ => 0)) j)))), (q2, .inl (K.2.1, 40, .inl (fun j => nI (((fun _ => 0)) j))))]) := hD
  refine rr_putF (v := .ref q2) (ty := tyX0 2) (ws' := [(bo, .inr (0, [.int (nI 0), .ref q1, .ref q2, .null])), (q1, .inl (K.2.1, 8, .inl (fun j => nI (((fun _ => 0)) j)))), (q2, .inl (K.2.1, 40, .inl (fun j => nI (((fun _ => 0)) j))))]) hx hb hts (inX0_init_0) tyX0 tyX0_ok nmX0 hown hKK.1 hP hD hS 0 rfl rfl 2 (by decide) (hts _ (List.mem_of_getElem? (i := 6) (by decide +kernel))) (fun _ h9 => h9) rfl hin rfl (tyX0_ok 2 (by decide)) rfl rfl (Nat.le_of_ble_eq_true rfl) rfl (pc := 17) dX0_init_17 (fun H locs hP hD hS => ?_)
  refine lv_aload_n hx hb (pc := 20) dX0_init_20 rfl (lv_at hl 0 rfl) ?_
  refine lv_iconst (v := nI 5) hx hb (pc := 21) dX0_init_21 (by decide) ?_
  refine nv_newi (n := 5) hx hb (hts _ (List.mem_of_getElem? (i := 4) (by decide +kernel))) hKK hP hD hS hA (by decide) (Nat.le_of_ble_eq_true rfl) (Nat.le_of_ble_eq_true rfl) (pc := 22) dX0_init_22 (fun q3 H hP hD hS => ?_)
  have hP : va_P K.1 vwCl ([(bo, .inr (0, [.int (nI 0), .ref q1, .ref q2, .null])), (q1, .inl (K.2.1, 8, .inl (fun j => nI (((fun _ => 0)) j)))), (q2, .inl (K.2.1, 40, .inl (fun j => nI (((fun _ => 0)) j)))), (q3, .inl (K.2.1, 5, .inl (fun j => nI (((fun _ => 0)) j))))]) H := hP
  have hD : va_D A ([(bo, .inr (0, [.int (nI 0), .ref q1, .ref q2, .null])), (q1, .inl (K.2.1, 8, .inl (fun j => nI (((fun _ => 0)) j)))), (q2, .inl (K.2.1, 40, .inl (fun j => nI (((fun _ => 0)) j)))), (q3, .inl (K.2.1, 5, .inl (fun j => nI (((fun _ => 0)) j))))]) := hD
  refine rr_putF (v := .ref q3) (ty := tyX0 3) (ws' := [(bo, .inr (0, [.int (nI 0), .ref q1, .ref q2, .ref q3])), (q1, .inl (K.2.1, 8, .inl (fun j => nI (((fun _ => 0)) j)))), (q2, .inl (K.2.1, 40, .inl (fun j => nI (((fun _ => 0)) j)))), (q3, .inl (K.2.1, 5, .inl (fun j => nI (((fun _ => 0)) j))))]) hx hb hts (inX0_init_0) tyX0 tyX0_ok nmX0 hown hKK.1 hP hD hS 0 rfl rfl 3 (by decide) (hts _ (List.mem_of_getElem? (i := 7) (by decide +kernel))) (fun _ h9 => h9) rfl hin rfl (tyX0_ok 3 (by decide)) rfl rfl (Nat.le_of_ble_eq_true rfl) rfl (pc := 24) dX0_init_24 (fun H locs hP hD hS => ?_)
  exact hret _ _ 3 53 27 _ dX0_init_27 (by omega) (by omega) hS (⟨_, _, _, hP, hD⟩)

abbrev rmX1_init : Room := { frames := 1, cells := 2, slots := 320, locals := 20 }
theorem inX1_init_1 : ∀ w ∈ wsX10, w ∈ wsX1_init := fun _ h => List.mem_cons_of_mem _ (List.mem_append_right _ h)
set_option maxHeartbeats 4000000 in
set_option maxRecDepth 100000 in
theorem c_X1_init (l : Launch) (K : rr_K) (A : Nat → Prop) (sz : Nat) (go k n : Nat) (hA : ∀ q, sz ≤ q → A q) (hD : va_D A ([(go, .inr (1, [.int (nI 0), .int (nI 0), .int (nI 0), .int (nI 0), .int (nI 0), .null, .null]))])) : MetV l K yX1_init wsX1_init rmX1_init [.ref go, .int (nI k), .int (nI n)] (fun H => H.size = sz ∧ va_P K.1 vwCl ([(go, .inr (1, [.int (nI 0), .int (nI 0), .int (nI 0), .int (nI 0), .int (nI 0), .null, .null]))]) H) A (fun H => ∃ ge gt, va_P K.1 vwCl (GW K go ge gt k n 0 0 0 (fun _ => 0) (fun _ => 0)) H ∧ va_D A (GW K go ge gt k n 0 0 0 (fun _ => 0) (fun _ => 0))) 2 320 := by
  refine metV_of (cc := cX1_init) (maxL := 3) (by decide) rfl rfl rfl (Nat.le_of_ble_eq_true rfl) ?_
  intro p e s m args below meth c Q ls hEnt hin hKK hX hret hl
  obtain ⟨hx, hb, hml, hown, hts⟩ := hEnt
  obtain ⟨hsz0, hX⟩ := hX
  have hA : ∀ q, s.heap.size ≤ q → A q := fun q h => hA q (hsz0 ▸ h)
  have hP : va_P K.1 vwCl ([(go, .inr (1, [.int (nI 0), .int (nI 0), .int (nI 0), .int (nI 0), .int (nI 0), .null, .null]))]) s.heap := hX
  have hl : lv_has ls 3 [(0, .ref go), (1, .int (nI k)), (2, .int (nI n))] := hl
  have hS : va_S A s.heap s.heap [] := va_S.rf
  refine lv_aload_n hx hb (pc := 0) dX1_init_0 rfl (lv_at hl 0 rfl) ?_
  refine W.objInit hx hb hown (hts _ (List.mem_of_getElem? (i := 1) (by decide +kernel))) (hts _ (List.mem_of_getElem? (i := 2) (by decide +kernel))) (hts _ (List.mem_of_getElem? (i := 3) (by decide +kernel))) rfl (by rw [hml]; exact hl.1) rfl dX1_init_1 (Nat.le_of_ble_eq_true rfl) (Nat.le_of_ble_eq_true rfl) ?_
  refine W.eq (g2 := F0 m 4 ls []) rfl ?_
  refine lv_aload_n hx hb (pc := 4) dX1_init_4 rfl (lv_at hl 0 rfl) ?_
  refine lv_bipush (v := nI 64) hx hb (pc := 5) dX1_init_5 (by decide) ?_
  refine nv_newi (n := 64) hx hb (hts _ (List.mem_of_getElem? (i := 4) (by decide +kernel))) hKK hP hD hS hA (by decide) (Nat.le_of_ble_eq_true rfl) (Nat.le_of_ble_eq_true rfl) (pc := 7) dX1_init_7 (fun q1 H hP hD hS => ?_)
  have hP : va_P K.1 vwCl ([(go, .inr (1, [.int (nI 0), .int (nI 0), .int (nI 0), .int (nI 0), .int (nI 0), .null, .null])), (q1, .inl (K.2.1, 64, .inl (fun j => nI (((fun _ => 0)) j))))]) H := hP
  have hD : va_D A ([(go, .inr (1, [.int (nI 0), .int (nI 0), .int (nI 0), .int (nI 0), .int (nI 0), .null, .null])), (q1, .inl (K.2.1, 64, .inl (fun j => nI (((fun _ => 0)) j))))]) := hD
  refine rr_putF (v := .ref q1) (ty := tyX1 5) (ws' := [(go, .inr (1, [.int (nI 0), .int (nI 0), .int (nI 0), .int (nI 0), .int (nI 0), .ref q1, .null])), (q1, .inl (K.2.1, 64, .inl (fun j => nI (((fun _ => 0)) j))))]) hx hb hts (inX1_init_1) tyX1 tyX1_ok nmX1 hown hKK.1 hP hD hS 0 rfl rfl 5 (by decide) (hts _ (List.mem_of_getElem? (i := 5) (by decide +kernel))) (fun _ h9 => h9) rfl hin rfl (tyX1_ok 5 (by decide)) rfl rfl (Nat.le_of_ble_eq_true rfl) rfl (pc := 9) dX1_init_9 (fun H locs hP hD hS => ?_)
  refine lv_aload_n hx hb (pc := 12) dX1_init_12 rfl (lv_at hl 0 rfl) ?_
  refine lv_sipush (v := nI 256) hx hb (pc := 13) dX1_init_13 (by decide) ?_
  refine nv_newi (n := 256) hx hb (hts _ (List.mem_of_getElem? (i := 4) (by decide +kernel))) hKK hP hD hS hA (by decide) (Nat.le_of_ble_eq_true rfl) (Nat.le_of_ble_eq_true rfl) (pc := 16) dX1_init_16 (fun q2 H hP hD hS => ?_)
  have hP : va_P K.1 vwCl ([(go, .inr (1, [.int (nI 0), .int (nI 0), .int (nI 0), .int (nI 0), .int (nI 0), .ref q1, .null])), (q1, .inl (K.2.1, 64, .inl (fun j => nI (((fun _ => 0)) j)))), (q2, .inl (K.2.1, 256, .inl (fun j => nI (((fun _ => 0)) j))))]) H := hP
  have hD : va_D A ([(go, .inr (1, [.int (nI 0), .int (nI 0), .int (nI 0), .int (nI 0), .int (nI 0), .ref q1, .null])), (q1, .inl (K.2.1, 64, .inl (fun j => nI (((fun _ => 0)) j)))), (q2, .inl (K.2.1, 256, .inl (fun j => nI (((fun _ => 0)) j))))]) := hD
  refine rr_putF (v := .ref q2) (ty := tyX1 6) (ws' := [(go, .inr (1, [.int (nI 0), .int (nI 0), .int (nI 0), .int (nI 0), .int (nI 0), .ref q1, .ref q2])), (q1, .inl (K.2.1, 64, .inl (fun j => nI (((fun _ => 0)) j)))), (q2, .inl (K.2.1, 256, .inl (fun j => nI (((fun _ => 0)) j))))]) hx hb hts (inX1_init_1) tyX1 tyX1_ok nmX1 hown hKK.1 hP hD hS 0 rfl rfl 6 (by decide) (hts _ (List.mem_of_getElem? (i := 6) (by decide +kernel))) (fun _ h9 => h9) rfl hin rfl (tyX1_ok 6 (by decide)) rfl rfl (Nat.le_of_ble_eq_true rfl) rfl (pc := 18) dX1_init_18 (fun H locs hP hD hS => ?_)
  refine lv_aload_n hx hb (pc := 21) dX1_init_21 rfl (lv_at hl 0 rfl) ?_
  refine lv_iload_n hx hb (pc := 22) dX1_init_22 rfl (lv_at hl 1 rfl) ?_
  refine rr_putF (v := .int (nI k)) (ty := tyX1 0) (ws' := [(go, .inr (1, [.int (nI k), .int (nI 0), .int (nI 0), .int (nI 0), .int (nI 0), .ref q1, .ref q2])), (q1, .inl (K.2.1, 64, .inl (fun j => nI (((fun _ => 0)) j)))), (q2, .inl (K.2.1, 256, .inl (fun j => nI (((fun _ => 0)) j))))]) hx hb hts (inX1_init_1) tyX1 tyX1_ok nmX1 hown hKK.1 hP hD hS 0 rfl rfl 0 (by decide) (hts _ (List.mem_of_getElem? (i := 7) (by decide +kernel))) (fun _ h9 => h9) rfl hin rfl (tyX1_ok 0 (by decide)) rfl rfl (Nat.le_of_ble_eq_true rfl) rfl (pc := 23) dX1_init_23 (fun H locs hP hD hS => ?_)
  refine lv_aload_n hx hb (pc := 26) dX1_init_26 rfl (lv_at hl 0 rfl) ?_
  refine lv_iload_n hx hb (pc := 27) dX1_init_27 rfl (lv_at hl 2 rfl) ?_
  refine rr_putF (v := .int (nI n)) (ty := tyX1 1) (ws' := [(go, .inr (1, [.int (nI k), .int (nI n), .int (nI 0), .int (nI 0), .int (nI 0), .ref q1, .ref q2])), (q1, .inl (K.2.1, 64, .inl (fun j => nI (((fun _ => 0)) j)))), (q2, .inl (K.2.1, 256, .inl (fun j => nI (((fun _ => 0)) j))))]) hx hb hts (inX1_init_1) tyX1 tyX1_ok nmX1 hown hKK.1 hP hD hS 0 rfl rfl 1 (by decide) (hts _ (List.mem_of_getElem? (i := 8) (by decide +kernel))) (fun _ h9 => h9) rfl hin rfl (tyX1_ok 1 (by decide)) rfl rfl (Nat.le_of_ble_eq_true rfl) rfl (pc := 28) dX1_init_28 (fun H locs hP hD hS => ?_)
  exact hret _ _ 2 320 31 _ dX1_init_31 (by omega) (by omega) hS (⟨_, _, hP, hD⟩)

abbrev rmX2_init : Room := { frames := 1, cells := 0, slots := 0, locals := 20 }
theorem inX2_init_2 : ∀ w ∈ wsX20, w ∈ wsX2_init := fun _ h => List.mem_cons_of_mem _ (List.mem_append_right _ h)
set_option maxHeartbeats 4000000 in
set_option maxRecDepth 100000 in
theorem c_X2_init (l : Launch) (K : rr_K) (A : Nat → Prop) (sz : Nat) (qo mo : Nat) (hA : ∀ q, sz ≤ q → A q) (hD : va_D A ([(qo, .inr (2, [.null]))])) : MetV l K yX2_init wsX2_init rmX2_init [.ref qo, .ref mo] (fun H => H.size = sz ∧ va_P K.1 vwCl ([(qo, .inr (2, [.null]))]) H) A (fun H => va_P K.1 vwCl (QW1 K qo mo) H ∧ va_D A (QW1 K qo mo)) 0 0 := by
  refine metV_of (cc := cX2_init) (maxL := 2) (by decide) rfl rfl rfl (Nat.le_of_ble_eq_true rfl) ?_
  intro p e s m args below meth c Q ls hEnt hin hKK hX hret hl
  obtain ⟨hx, hb, hml, hown, hts⟩ := hEnt
  obtain ⟨hsz0, hX⟩ := hX
  have hA : ∀ q, s.heap.size ≤ q → A q := fun q h => hA q (hsz0 ▸ h)
  have hP : va_P K.1 vwCl ([(qo, .inr (2, [.null]))]) s.heap := hX
  have hl : lv_has ls 2 [(0, .ref qo), (1, .ref mo)] := hl
  have hS : va_S A s.heap s.heap [] := va_S.rf
  refine lv_aload_n hx hb (pc := 0) dX2_init_0 rfl (lv_at hl 0 rfl) ?_
  refine W.objInit hx hb hown (hts _ (List.mem_of_getElem? (i := 1) (by decide +kernel))) (hts _ (List.mem_of_getElem? (i := 2) (by decide +kernel))) (hts _ (List.mem_of_getElem? (i := 3) (by decide +kernel))) rfl (by rw [hml]; exact hl.1) rfl dX2_init_1 (Nat.le_of_ble_eq_true rfl) (Nat.le_of_ble_eq_true rfl) ?_
  refine W.eq (g2 := F0 m 4 ls []) rfl ?_
  refine lv_aload_n hx hb (pc := 4) dX2_init_4 rfl (lv_at hl 0 rfl) ?_
  refine lv_aload_n hx hb (pc := 5) dX2_init_5 rfl (lv_at hl 1 rfl) ?_
  refine rr_putF (v := .ref mo) (ty := tyX2 0) (ws' := [(qo, .inr (2, [.ref mo]))]) hx hb hts (inX2_init_2) tyX2 tyX2_ok nmX2 hown hKK.1 hP hD hS 0 rfl rfl 0 (by decide) (hts _ (List.mem_of_getElem? (i := 4) (by decide +kernel))) (fun _ h9 => h9) rfl hin rfl (tyX2_ok 0 (by decide)) rfl rfl (Nat.le_of_ble_eq_true rfl) rfl (pc := 6) dX2_init_6 (fun H locs hP hD hS => ?_)
  exact hret _ _ 0 0 9 _ dX2_init_9 (by omega) (by omega) hS (⟨hP, hD⟩)

abbrev rmX3_init : Room := { frames := 1, cells := 3, slots := 256, locals := 20 }
theorem inX3_init_3 : ∀ w ∈ wsX30, w ∈ wsX3_init := fun _ h => List.mem_cons_of_mem _ (List.mem_append_right _ h)
set_option maxHeartbeats 4000000 in
set_option maxRecDepth 100000 in
theorem c_X3_init (l : Launch) (K : rr_K) (A : Nat → Prop) (sz : Nat) (mo : Nat) (hA : ∀ q, sz ≤ q → A q) (hD : va_D A ([(mo, .inr (3, [.int (nI 0), .null, .null, .null, .int (nI 0)]))])) : MetV l K yX3_init wsX3_init rmX3_init [.ref mo] (fun H => H.size = sz ∧ va_P K.1 vwCl ([(mo, .inr (3, [.int (nI 0), .null, .null, .null, .int (nI 0)]))]) H) A (fun H => ∃ mk mn ms, va_P K.1 vwCl (MW3 K mo mk mn ms 0 1 64 (fun _ => nI 0) (fun _ => 0) (fun _ => 0)) H ∧ va_D A (MW3 K mo mk mn ms 0 1 64 (fun _ => nI 0) (fun _ => 0) (fun _ => 0))) 3 256 := by
  refine metV_of (cc := cX3_init) (maxL := 1) (by decide) rfl rfl rfl (Nat.le_of_ble_eq_true rfl) ?_
  intro p e s m args below meth c Q ls hEnt hin hKK hX hret hl
  obtain ⟨hx, hb, hml, hown, hts⟩ := hEnt
  obtain ⟨hsz0, hX⟩ := hX
  have hA : ∀ q, s.heap.size ≤ q → A q := fun q h => hA q (hsz0 ▸ h)
  have hP : va_P K.1 vwCl ([(mo, .inr (3, [.int (nI 0), .null, .null, .null, .int (nI 0)]))]) s.heap := hX
  have hl : lv_has ls 1 [(0, .ref mo)] := hl
  have hS : va_S A s.heap s.heap [] := va_S.rf
  refine lv_aload_n hx hb (pc := 0) dX3_init_0 rfl (lv_at hl 0 rfl) ?_
  refine W.objInit hx hb hown (hts _ (List.mem_of_getElem? (i := 1) (by decide +kernel))) (hts _ (List.mem_of_getElem? (i := 2) (by decide +kernel))) (hts _ (List.mem_of_getElem? (i := 3) (by decide +kernel))) rfl (by rw [hml]; exact hl.1) rfl dX3_init_1 (Nat.le_of_ble_eq_true rfl) (Nat.le_of_ble_eq_true rfl) ?_
  refine W.eq (g2 := F0 m 4 ls []) rfl ?_
  refine lv_aload_n hx hb (pc := 4) dX3_init_4 rfl (lv_at hl 0 rfl) ?_
  refine lv_bipush (v := nI 64) hx hb (pc := 5) dX3_init_5 (by decide) ?_
  refine nv_newi (n := 64) hx hb (hts _ (List.mem_of_getElem? (i := 4) (by decide +kernel))) hKK hP hD hS hA (by decide) (Nat.le_of_ble_eq_true rfl) (Nat.le_of_ble_eq_true rfl) (pc := 7) dX3_init_7 (fun q1 H hP hD hS => ?_)
  have hP : va_P K.1 vwCl ([(mo, .inr (3, [.int (nI 0), .null, .null, .null, .int (nI 0)])), (q1, .inl (K.2.1, 64, .inl (fun j => nI (((fun _ => 0)) j))))]) H := hP
  have hD : va_D A ([(mo, .inr (3, [.int (nI 0), .null, .null, .null, .int (nI 0)])), (q1, .inl (K.2.1, 64, .inl (fun j => nI (((fun _ => 0)) j))))]) := hD
  refine rr_put (v := .ref q1) (ty := tyX3 1) (ws' := [(mo, .inr (3, [.int (nI 0), .ref q1, .null, .null, .int (nI 0)])), (q1, .inl (K.2.1, 64, .inl (fun j => nI (((fun _ => 0)) j))))]) hx hb hts (inX3_init_3) tyX3 tyX3_ok nmX3 hown hKK.1 hP hD hS 0 rfl rfl 1 (by decide) (hts _ (List.mem_of_getElem? (i := 5) (by decide +kernel))) (fun _ h9 => h9) rfl (tyX3_ok 1 (by decide)) rfl rfl (Nat.le_of_ble_eq_true rfl) rfl (pc := 9) dX3_init_9 (fun H locs hP hD hS => ?_)
  refine lv_aload_n hx hb (pc := 12) dX3_init_12 rfl (lv_at hl 0 rfl) ?_
  refine lv_bipush (v := nI 64) hx hb (pc := 13) dX3_init_13 (by decide) ?_
  refine nv_newi (n := 64) hx hb (hts _ (List.mem_of_getElem? (i := 4) (by decide +kernel))) hKK hP hD hS hA (by decide) (Nat.le_of_ble_eq_true rfl) (Nat.le_of_ble_eq_true rfl) (pc := 15) dX3_init_15 (fun q2 H hP hD hS => ?_)
  have hP : va_P K.1 vwCl ([(mo, .inr (3, [.int (nI 0), .ref q1, .null, .null, .int (nI 0)])), (q1, .inl (K.2.1, 64, .inl (fun j => nI (((fun _ => 0)) j)))), (q2, .inl (K.2.1, 64, .inl (fun j => nI (((fun _ => 0)) j))))]) H := hP
  have hD : va_D A ([(mo, .inr (3, [.int (nI 0), .ref q1, .null, .null, .int (nI 0)])), (q1, .inl (K.2.1, 64, .inl (fun j => nI (((fun _ => 0)) j)))), (q2, .inl (K.2.1, 64, .inl (fun j => nI (((fun _ => 0)) j))))]) := hD
  refine rr_put (v := .ref q2) (ty := tyX3 2) (ws' := [(mo, .inr (3, [.int (nI 0), .ref q1, .ref q2, .null, .int (nI 0)])), (q1, .inl (K.2.1, 64, .inl (fun j => nI (((fun _ => 0)) j)))), (q2, .inl (K.2.1, 64, .inl (fun j => nI (((fun _ => 0)) j))))]) hx hb hts (inX3_init_3) tyX3 tyX3_ok nmX3 hown hKK.1 hP hD hS 0 rfl rfl 2 (by decide) (hts _ (List.mem_of_getElem? (i := 6) (by decide +kernel))) (fun _ h9 => h9) rfl (tyX3_ok 2 (by decide)) rfl rfl (Nat.le_of_ble_eq_true rfl) rfl (pc := 17) dX3_init_17 (fun H locs hP hD hS => ?_)
  refine lv_aload_n hx hb (pc := 20) dX3_init_20 rfl (lv_at hl 0 rfl) ?_
  refine lv_sipush (v := nI 128) hx hb (pc := 21) dX3_init_21 (by decide) ?_
  refine nv_newi (n := 128) hx hb (hts _ (List.mem_of_getElem? (i := 4) (by decide +kernel))) hKK hP hD hS hA (by decide) (Nat.le_of_ble_eq_true rfl) (Nat.le_of_ble_eq_true rfl) (pc := 24) dX3_init_24 (fun q3 H hP hD hS => ?_)
  have hP : va_P K.1 vwCl ([(mo, .inr (3, [.int (nI 0), .ref q1, .ref q2, .null, .int (nI 0)])), (q1, .inl (K.2.1, 64, .inl (fun j => nI (((fun _ => 0)) j)))), (q2, .inl (K.2.1, 64, .inl (fun j => nI (((fun _ => 0)) j)))), (q3, .inl (K.2.1, 128, .inl (fun j => nI (((fun _ => 0)) j))))]) H := hP
  have hD : va_D A ([(mo, .inr (3, [.int (nI 0), .ref q1, .ref q2, .null, .int (nI 0)])), (q1, .inl (K.2.1, 64, .inl (fun j => nI (((fun _ => 0)) j)))), (q2, .inl (K.2.1, 64, .inl (fun j => nI (((fun _ => 0)) j)))), (q3, .inl (K.2.1, 128, .inl (fun j => nI (((fun _ => 0)) j))))]) := hD
  refine rr_put (v := .ref q3) (ty := tyX3 3) (ws' := [(mo, .inr (3, [.int (nI 0), .ref q1, .ref q2, .ref q3, .int (nI 0)])), (q1, .inl (K.2.1, 64, .inl (fun j => nI (((fun _ => 0)) j)))), (q2, .inl (K.2.1, 64, .inl (fun j => nI (((fun _ => 0)) j)))), (q3, .inl (K.2.1, 128, .inl (fun j => nI (((fun _ => 0)) j))))]) hx hb hts (inX3_init_3) tyX3 tyX3_ok nmX3 hown hKK.1 hP hD hS 0 rfl rfl 3 (by decide) (hts _ (List.mem_of_getElem? (i := 7) (by decide +kernel))) (fun _ h9 => h9) rfl (tyX3_ok 3 (by decide)) rfl rfl (Nat.le_of_ble_eq_true rfl) rfl (pc := 26) dX3_init_26 (fun H locs hP hD hS => ?_)
  refine lv_aload_n hx hb (pc := 29) dX3_init_29 rfl (lv_at hl 0 rfl) ?_
  refine lv_iconst (v := nI 1) hx hb (pc := 30) dX3_init_30 (by decide) ?_
  refine rr_put (v := .int (nI 1)) (ty := tyX3 4) (ws' := [(mo, .inr (3, [.int (nI 0), .ref q1, .ref q2, .ref q3, .int (nI 1)])), (q1, .inl (K.2.1, 64, .inl (fun j => nI (((fun _ => 0)) j)))), (q2, .inl (K.2.1, 64, .inl (fun j => nI (((fun _ => 0)) j)))), (q3, .inl (K.2.1, 128, .inl (fun j => nI (((fun _ => 0)) j))))]) hx hb hts (inX3_init_3) tyX3 tyX3_ok nmX3 hown hKK.1 hP hD hS 0 rfl rfl 4 (by decide) (hts _ (List.mem_of_getElem? (i := 8) (by decide +kernel))) (fun _ h9 => h9) rfl (tyX3_ok 4 (by decide)) rfl rfl (Nat.le_of_ble_eq_true rfl) rfl (pc := 31) dX3_init_31 (fun H locs hP hD hS => ?_)
  exact hret _ _ 3 256 34 _ dX3_init_34 (by omega) (by omega) hS (⟨_, _, _, hP, hD⟩)

abbrev rmX4_init : Room := { frames := 1, cells := 1, slots := 64, locals := 20 }
theorem inX4_init_4 : ∀ w ∈ wsX40, w ∈ wsX4_init := fun _ h => List.mem_cons_of_mem _ (List.mem_append_right _ h)
set_option maxHeartbeats 4000000 in
set_option maxRecDepth 100000 in
theorem c_X4_init (l : Launch) (K : rr_K) (A : Nat → Prop) (sz : Nat) (po : Nat) (hA : ∀ q, sz ≤ q → A q) (hD : va_D A ([(po, .inr (4, [.int (nI 0), .null]))])) : MetV l K yX4_init wsX4_init rmX4_init [.ref po] (fun H => H.size = sz ∧ va_P K.1 vwCl ([(po, .inr (4, [.int (nI 0), .null]))]) H) A (fun H => ∃ pt, va_P K.1 vwCl (PW K po pt 1 (fun _ => 0)) H ∧ va_D A (PW K po pt 1 (fun _ => 0))) 1 64 := by
  refine metV_of (cc := cX4_init) (maxL := 1) (by decide) rfl rfl rfl (Nat.le_of_ble_eq_true rfl) ?_
  intro p e s m args below meth c Q ls hEnt hin hKK hX hret hl
  obtain ⟨hx, hb, hml, hown, hts⟩ := hEnt
  obtain ⟨hsz0, hX⟩ := hX
  have hA : ∀ q, s.heap.size ≤ q → A q := fun q h => hA q (hsz0 ▸ h)
  have hP : va_P K.1 vwCl ([(po, .inr (4, [.int (nI 0), .null]))]) s.heap := hX
  have hl : lv_has ls 1 [(0, .ref po)] := hl
  have hS : va_S A s.heap s.heap [] := va_S.rf
  refine lv_aload_n hx hb (pc := 0) dX4_init_0 rfl (lv_at hl 0 rfl) ?_
  refine W.objInit hx hb hown (hts _ (List.mem_of_getElem? (i := 1) (by decide +kernel))) (hts _ (List.mem_of_getElem? (i := 2) (by decide +kernel))) (hts _ (List.mem_of_getElem? (i := 3) (by decide +kernel))) rfl (by rw [hml]; exact hl.1) rfl dX4_init_1 (Nat.le_of_ble_eq_true rfl) (Nat.le_of_ble_eq_true rfl) ?_
  refine W.eq (g2 := F0 m 4 ls []) rfl ?_
  refine lv_aload_n hx hb (pc := 4) dX4_init_4 rfl (lv_at hl 0 rfl) ?_
  refine lv_iconst (v := nI 1) hx hb (pc := 5) dX4_init_5 (by decide) ?_
  refine rr_put (v := .int (nI 1)) (ty := tyX4 0) (ws' := [(po, .inr (4, [.int (nI 1), .null]))]) hx hb hts (inX4_init_4) tyX4 tyX4_ok nmX4 hown hKK.1 hP hD hS 0 rfl rfl 0 (by decide) (hts _ (List.mem_of_getElem? (i := 4) (by decide +kernel))) (fun _ h9 => h9) rfl (tyX4_ok 0 (by decide)) rfl rfl (Nat.le_of_ble_eq_true rfl) rfl (pc := 6) dX4_init_6 (fun H locs hP hD hS => ?_)
  refine lv_aload_n hx hb (pc := 9) dX4_init_9 rfl (lv_at hl 0 rfl) ?_
  refine lv_bipush (v := nI 64) hx hb (pc := 10) dX4_init_10 (by decide) ?_
  refine nv_newi (n := 64) hx hb (hts _ (List.mem_of_getElem? (i := 5) (by decide +kernel))) hKK hP hD hS hA (by decide) (Nat.le_of_ble_eq_true rfl) (Nat.le_of_ble_eq_true rfl) (pc := 12) dX4_init_12 (fun q1 H hP hD hS => ?_)
  have hP : va_P K.1 vwCl ([(po, .inr (4, [.int (nI 1), .null])), (q1, .inl (K.2.1, 64, .inl (fun j => nI (((fun _ => 0)) j))))]) H := hP
  have hD : va_D A ([(po, .inr (4, [.int (nI 1), .null])), (q1, .inl (K.2.1, 64, .inl (fun j => nI (((fun _ => 0)) j))))]) := hD
  refine rr_putF (v := .ref q1) (ty := tyX4 1) (ws' := [(po, .inr (4, [.int (nI 1), .ref q1])), (q1, .inl (K.2.1, 64, .inl (fun j => nI (((fun _ => 0)) j))))]) hx hb hts (inX4_init_4) tyX4 tyX4_ok nmX4 hown hKK.1 hP hD hS 0 rfl rfl 1 (by decide) (hts _ (List.mem_of_getElem? (i := 6) (by decide +kernel))) (fun _ h9 => h9) rfl hin rfl (tyX4_ok 1 (by decide)) rfl rfl (Nat.le_of_ble_eq_true rfl) rfl (pc := 14) dX4_init_14 (fun H locs hP hD hS => ?_)
  exact hret _ _ 1 64 17 _ dX4_init_17 (by omega) (by omega) hS (⟨_, hP, hD⟩)

abbrev rmX5_init : Room := { frames := 1, cells := 0, slots := 0, locals := 20 }
theorem inX5_init_5 : ∀ w ∈ wsX50, w ∈ wsX5_init := fun _ h => List.mem_cons_of_mem _ (List.mem_append_right _ h)
set_option maxHeartbeats 4000000 in
set_option maxRecDepth 100000 in
theorem c_X5_init (l : Launch) (K : rr_K) (A : Nat → Prop) (sz : Nat) (po mo : Nat) (hA : ∀ q, sz ≤ q → A q) (hD : va_D A ([(po, .inr (5, [.null, .int (nI 0), .int (nI 0)]))])) : MetV l K yX5_init wsX5_init rmX5_init [.ref po, .ref mo] (fun H => H.size = sz ∧ va_P K.1 vwCl ([(po, .inr (5, [.null, .int (nI 0), .int (nI 0)]))]) H) A (fun H => va_P K.1 vwCl (PT1 K po mo (nI 0) (nI 0)) H ∧ va_D A (PT1 K po mo (nI 0) (nI 0))) 0 0 := by
  refine metV_of (cc := cX5_init) (maxL := 2) (by decide) rfl rfl rfl (Nat.le_of_ble_eq_true rfl) ?_
  intro p e s m args below meth c Q ls hEnt hin hKK hX hret hl
  obtain ⟨hx, hb, hml, hown, hts⟩ := hEnt
  obtain ⟨hsz0, hX⟩ := hX
  have hA : ∀ q, s.heap.size ≤ q → A q := fun q h => hA q (hsz0 ▸ h)
  have hP : va_P K.1 vwCl ([(po, .inr (5, [.null, .int (nI 0), .int (nI 0)]))]) s.heap := hX
  have hl : lv_has ls 2 [(0, .ref po), (1, .ref mo)] := hl
  have hS : va_S A s.heap s.heap [] := va_S.rf
  refine lv_aload_n hx hb (pc := 0) dX5_init_0 rfl (lv_at hl 0 rfl) ?_
  refine W.objInit hx hb hown (hts _ (List.mem_of_getElem? (i := 1) (by decide +kernel))) (hts _ (List.mem_of_getElem? (i := 2) (by decide +kernel))) (hts _ (List.mem_of_getElem? (i := 3) (by decide +kernel))) rfl (by rw [hml]; exact hl.1) rfl dX5_init_1 (Nat.le_of_ble_eq_true rfl) (Nat.le_of_ble_eq_true rfl) ?_
  refine W.eq (g2 := F0 m 4 ls []) rfl ?_
  refine lv_aload_n hx hb (pc := 4) dX5_init_4 rfl (lv_at hl 0 rfl) ?_
  refine lv_aload_n hx hb (pc := 5) dX5_init_5 rfl (lv_at hl 1 rfl) ?_
  refine rr_putF (v := .ref mo) (ty := tyX5 0) (ws' := [(po, .inr (5, [.ref mo, .int (nI 0), .int (nI 0)]))]) hx hb hts (inX5_init_5) tyX5 tyX5_ok nmX5 hown hKK.1 hP hD hS 0 rfl rfl 0 (by decide) (hts _ (List.mem_of_getElem? (i := 4) (by decide +kernel))) (fun _ h9 => h9) rfl hin rfl (tyX5_ok 0 (by decide)) rfl rfl (Nat.le_of_ble_eq_true rfl) rfl (pc := 6) dX5_init_6 (fun H locs hP hD hS => ?_)
  exact hret _ _ 0 0 9 _ dX5_init_9 (by omega) (by omega) hS (⟨hP, hD⟩)

abbrev rmX6_init : Room := { frames := 1, cells := 2, slots := 32, locals := 20 }
theorem inX6_init_6 : ∀ w ∈ wsX60, w ∈ wsX6_init := fun _ h => List.mem_cons_of_mem _ (List.mem_append_right _ h)
set_option maxHeartbeats 4000000 in
set_option maxRecDepth 100000 in
theorem c_X6_init (l : Launch) (K : rr_K) (A : Nat → Prop) (sz : Nat) (xo : Nat) (hA : ∀ q, sz ≤ q → A q) (hD : va_D A ([(xo, .inr (6, [.null, .null]))])) : MetV l K yX6_init wsX6_init rmX6_init [.ref xo] (fun H => H.size = sz ∧ va_P K.1 vwCl ([(xo, .inr (6, [.null, .null]))]) H) A (fun H => ∃ xr xf, va_P K.1 vwCl (XW6 K xo xr xf (fun _ => 0) (fun _ => nI 0)) H ∧ va_D A (XW6 K xo xr xf (fun _ => 0) (fun _ => nI 0))) 2 32 := by
  refine metV_of (cc := cX6_init) (maxL := 1) (by decide) rfl rfl rfl (Nat.le_of_ble_eq_true rfl) ?_
  intro p e s m args below meth c Q ls hEnt hin hKK hX hret hl
  obtain ⟨hx, hb, hml, hown, hts⟩ := hEnt
  obtain ⟨hsz0, hX⟩ := hX
  have hA : ∀ q, s.heap.size ≤ q → A q := fun q h => hA q (hsz0 ▸ h)
  have hP : va_P K.1 vwCl ([(xo, .inr (6, [.null, .null]))]) s.heap := hX
  have hl : lv_has ls 1 [(0, .ref xo)] := hl
  have hS : va_S A s.heap s.heap [] := va_S.rf
  refine lv_aload_n hx hb (pc := 0) dX6_init_0 rfl (lv_at hl 0 rfl) ?_
  refine W.objInit hx hb hown (hts _ (List.mem_of_getElem? (i := 1) (by decide +kernel))) (hts _ (List.mem_of_getElem? (i := 2) (by decide +kernel))) (hts _ (List.mem_of_getElem? (i := 3) (by decide +kernel))) rfl (by rw [hml]; exact hl.1) rfl dX6_init_1 (Nat.le_of_ble_eq_true rfl) (Nat.le_of_ble_eq_true rfl) ?_
  refine W.eq (g2 := F0 m 4 ls []) rfl ?_
  refine lv_aload_n hx hb (pc := 4) dX6_init_4 rfl (lv_at hl 0 rfl) ?_
  refine lv_bipush (v := nI 16) hx hb (pc := 5) dX6_init_5 (by decide) ?_
  refine nv_newi (n := 16) hx hb (hts _ (List.mem_of_getElem? (i := 4) (by decide +kernel))) hKK hP hD hS hA (by decide) (Nat.le_of_ble_eq_true rfl) (Nat.le_of_ble_eq_true rfl) (pc := 7) dX6_init_7 (fun q1 H hP hD hS => ?_)
  have hP : va_P K.1 vwCl ([(xo, .inr (6, [.null, .null])), (q1, .inl (K.2.1, 16, .inl (fun j => nI (((fun _ => 0)) j))))]) H := hP
  have hD : va_D A ([(xo, .inr (6, [.null, .null])), (q1, .inl (K.2.1, 16, .inl (fun j => nI (((fun _ => 0)) j))))]) := hD
  refine rr_putF (v := .ref q1) (ty := tyX6 0) (ws' := [(xo, .inr (6, [.ref q1, .null])), (q1, .inl (K.2.1, 16, .inl (fun j => nI (((fun _ => 0)) j))))]) hx hb hts (inX6_init_6) tyX6 tyX6_ok nmX6 hown hKK.1 hP hD hS 0 rfl rfl 0 (by decide) (hts _ (List.mem_of_getElem? (i := 5) (by decide +kernel))) (fun _ h9 => h9) rfl hin rfl (tyX6_ok 0 (by decide)) rfl rfl (Nat.le_of_ble_eq_true rfl) rfl (pc := 9) dX6_init_9 (fun H locs hP hD hS => ?_)
  refine lv_aload_n hx hb (pc := 12) dX6_init_12 rfl (lv_at hl 0 rfl) ?_
  refine lv_bipush (v := nI 16) hx hb (pc := 13) dX6_init_13 (by decide) ?_
  refine nv_newi (n := 16) hx hb (hts _ (List.mem_of_getElem? (i := 4) (by decide +kernel))) hKK hP hD hS hA (by decide) (Nat.le_of_ble_eq_true rfl) (Nat.le_of_ble_eq_true rfl) (pc := 15) dX6_init_15 (fun q2 H hP hD hS => ?_)
  have hP : va_P K.1 vwCl ([(xo, .inr (6, [.ref q1, .null])), (q1, .inl (K.2.1, 16, .inl (fun j => nI (((fun _ => 0)) j)))), (q2, .inl (K.2.1, 16, .inl (fun j => nI (((fun _ => 0)) j))))]) H := hP
  have hD : va_D A ([(xo, .inr (6, [.ref q1, .null])), (q1, .inl (K.2.1, 16, .inl (fun j => nI (((fun _ => 0)) j)))), (q2, .inl (K.2.1, 16, .inl (fun j => nI (((fun _ => 0)) j))))]) := hD
  refine rr_putF (v := .ref q2) (ty := tyX6 1) (ws' := [(xo, .inr (6, [.ref q1, .ref q2])), (q1, .inl (K.2.1, 16, .inl (fun j => nI (((fun _ => 0)) j)))), (q2, .inl (K.2.1, 16, .inl (fun j => nI (((fun _ => 0)) j))))]) hx hb hts (inX6_init_6) tyX6 tyX6_ok nmX6 hown hKK.1 hP hD hS 0 rfl rfl 1 (by decide) (hts _ (List.mem_of_getElem? (i := 6) (by decide +kernel))) (fun _ h9 => h9) rfl hin rfl (tyX6_ok 1 (by decide)) rfl rfl (Nat.le_of_ble_eq_true rfl) rfl (pc := 17) dX6_init_17 (fun H locs hP hD hS => ?_)
  exact hret _ _ 2 32 20 _ dX6_init_20 (by omega) (by omega) hS (⟨_, _, hP, hD⟩)

abbrev rmX7_init : Room := { frames := 1, cells := 5, slots := 800, locals := 20 }
theorem inX7_init_7 : ∀ w ∈ wsX70, w ∈ wsX7_init := fun _ h => List.mem_cons_of_mem _ (List.mem_append_right _ h)
set_option maxHeartbeats 4000000 in
set_option maxRecDepth 100000 in
theorem c_X7_init (l : Launch) (K : rr_K) (A : Nat → Prop) (sz : Nat) (xo : Nat) (hA : ∀ q, sz ≤ q → A q) (hD : va_D A ([(xo, .inr (7, [.null, .null, .null, .null, .null]))])) : MetV l K yX7_init wsX7_init rmX7_init [.ref xo] (fun H => H.size = sz ∧ va_P K.1 vwCl ([(xo, .inr (7, [.null, .null, .null, .null, .null]))]) H) A (fun H => ∃ xs xa xb xv xw, va_P K.1 vwCl (XW7 K xo xs xa xb xv xw (fun _ => 0) (fun _ => 0) (fun _ => 0) (fun _ => 0) (fun _ => 0)) H ∧ va_D A (XW7 K xo xs xa xb xv xw (fun _ => 0) (fun _ => 0) (fun _ => 0) (fun _ => 0) (fun _ => 0))) 5 800 := by
  refine metV_of (cc := cX7_init) (maxL := 1) (by decide) rfl rfl rfl (Nat.le_of_ble_eq_true rfl) ?_
  intro p e s m args below meth c Q ls hEnt hin hKK hX hret hl
  obtain ⟨hx, hb, hml, hown, hts⟩ := hEnt
  obtain ⟨hsz0, hX⟩ := hX
  have hA : ∀ q, s.heap.size ≤ q → A q := fun q h => hA q (hsz0 ▸ h)
  have hP : va_P K.1 vwCl ([(xo, .inr (7, [.null, .null, .null, .null, .null]))]) s.heap := hX
  have hl : lv_has ls 1 [(0, .ref xo)] := hl
  have hS : va_S A s.heap s.heap [] := va_S.rf
  refine lv_aload_n hx hb (pc := 0) dX7_init_0 rfl (lv_at hl 0 rfl) ?_
  refine W.objInit hx hb hown (hts _ (List.mem_of_getElem? (i := 1) (by decide +kernel))) (hts _ (List.mem_of_getElem? (i := 2) (by decide +kernel))) (hts _ (List.mem_of_getElem? (i := 3) (by decide +kernel))) rfl (by rw [hml]; exact hl.1) rfl dX7_init_1 (Nat.le_of_ble_eq_true rfl) (Nat.le_of_ble_eq_true rfl) ?_
  refine W.eq (g2 := F0 m 4 ls []) rfl ?_
  refine lv_aload_n hx hb (pc := 4) dX7_init_4 rfl (lv_at hl 0 rfl) ?_
  refine lv_sipush (v := nI 256) hx hb (pc := 5) dX7_init_5 (by decide) ?_
  refine nv_newj (n := 256) hx hb (hts _ (List.mem_of_getElem? (i := 4) (by decide +kernel))) hKK hP hD hS hA (by decide) (Nat.le_of_ble_eq_true rfl) (Nat.le_of_ble_eq_true rfl) (pc := 8) dX7_init_8 (fun q1 H hP hD hS => ?_)
  have hP : va_P K.1 vwCl ([(xo, .inr (7, [.null, .null, .null, .null, .null])), (q1, .inl (K.2.2.1, 256, .inr (.inl ((fun _ => 0)))))]) H := hP
  have hD : va_D A ([(xo, .inr (7, [.null, .null, .null, .null, .null])), (q1, .inl (K.2.2.1, 256, .inr (.inl ((fun _ => 0)))))]) := hD
  refine rr_putF (v := .ref q1) (ty := tyX7 0) (ws' := [(xo, .inr (7, [.ref q1, .null, .null, .null, .null])), (q1, .inl (K.2.2.1, 256, .inr (.inl ((fun _ => 0)))))]) hx hb hts (inX7_init_7) tyX7 tyX7_ok nmX7 hown hKK.1 hP hD hS 0 rfl rfl 0 (by decide) (hts _ (List.mem_of_getElem? (i := 5) (by decide +kernel))) (fun _ h9 => h9) rfl hin rfl (tyX7_ok 0 (by decide)) rfl rfl (Nat.le_of_ble_eq_true rfl) rfl (pc := 10) dX7_init_10 (fun H locs hP hD hS => ?_)
  refine lv_aload_n hx hb (pc := 13) dX7_init_13 rfl (lv_at hl 0 rfl) ?_
  refine lv_sipush (v := nI 256) hx hb (pc := 14) dX7_init_14 (by decide) ?_
  refine nv_newj (n := 256) hx hb (hts _ (List.mem_of_getElem? (i := 4) (by decide +kernel))) hKK hP hD hS hA (by decide) (Nat.le_of_ble_eq_true rfl) (Nat.le_of_ble_eq_true rfl) (pc := 17) dX7_init_17 (fun q2 H hP hD hS => ?_)
  have hP : va_P K.1 vwCl ([(xo, .inr (7, [.ref q1, .null, .null, .null, .null])), (q1, .inl (K.2.2.1, 256, .inr (.inl ((fun _ => 0))))), (q2, .inl (K.2.2.1, 256, .inr (.inl ((fun _ => 0)))))]) H := hP
  have hD : va_D A ([(xo, .inr (7, [.ref q1, .null, .null, .null, .null])), (q1, .inl (K.2.2.1, 256, .inr (.inl ((fun _ => 0))))), (q2, .inl (K.2.2.1, 256, .inr (.inl ((fun _ => 0)))))]) := hD
  refine rr_put (v := .ref q2) (ty := tyX7 1) (ws' := [(xo, .inr (7, [.ref q1, .ref q2, .null, .null, .null])), (q1, .inl (K.2.2.1, 256, .inr (.inl ((fun _ => 0))))), (q2, .inl (K.2.2.1, 256, .inr (.inl ((fun _ => 0)))))]) hx hb hts (inX7_init_7) tyX7 tyX7_ok nmX7 hown hKK.1 hP hD hS 0 rfl rfl 1 (by decide) (hts _ (List.mem_of_getElem? (i := 6) (by decide +kernel))) (fun _ h9 => h9) rfl (tyX7_ok 1 (by decide)) rfl rfl (Nat.le_of_ble_eq_true rfl) rfl (pc := 19) dX7_init_19 (fun H locs hP hD hS => ?_)
  refine lv_aload_n hx hb (pc := 22) dX7_init_22 rfl (lv_at hl 0 rfl) ?_
  refine lv_sipush (v := nI 256) hx hb (pc := 23) dX7_init_23 (by decide) ?_
  refine nv_newj (n := 256) hx hb (hts _ (List.mem_of_getElem? (i := 4) (by decide +kernel))) hKK hP hD hS hA (by decide) (Nat.le_of_ble_eq_true rfl) (Nat.le_of_ble_eq_true rfl) (pc := 26) dX7_init_26 (fun q3 H hP hD hS => ?_)
  have hP : va_P K.1 vwCl ([(xo, .inr (7, [.ref q1, .ref q2, .null, .null, .null])), (q1, .inl (K.2.2.1, 256, .inr (.inl ((fun _ => 0))))), (q2, .inl (K.2.2.1, 256, .inr (.inl ((fun _ => 0))))), (q3, .inl (K.2.2.1, 256, .inr (.inl ((fun _ => 0)))))]) H := hP
  have hD : va_D A ([(xo, .inr (7, [.ref q1, .ref q2, .null, .null, .null])), (q1, .inl (K.2.2.1, 256, .inr (.inl ((fun _ => 0))))), (q2, .inl (K.2.2.1, 256, .inr (.inl ((fun _ => 0))))), (q3, .inl (K.2.2.1, 256, .inr (.inl ((fun _ => 0)))))]) := hD
  refine rr_put (v := .ref q3) (ty := tyX7 2) (ws' := [(xo, .inr (7, [.ref q1, .ref q2, .ref q3, .null, .null])), (q1, .inl (K.2.2.1, 256, .inr (.inl ((fun _ => 0))))), (q2, .inl (K.2.2.1, 256, .inr (.inl ((fun _ => 0))))), (q3, .inl (K.2.2.1, 256, .inr (.inl ((fun _ => 0)))))]) hx hb hts (inX7_init_7) tyX7 tyX7_ok nmX7 hown hKK.1 hP hD hS 0 rfl rfl 2 (by decide) (hts _ (List.mem_of_getElem? (i := 7) (by decide +kernel))) (fun _ h9 => h9) rfl (tyX7_ok 2 (by decide)) rfl rfl (Nat.le_of_ble_eq_true rfl) rfl (pc := 28) dX7_init_28 (fun H locs hP hD hS => ?_)
  refine lv_aload_n hx hb (pc := 31) dX7_init_31 rfl (lv_at hl 0 rfl) ?_
  refine lv_bipush (v := nI 16) hx hb (pc := 32) dX7_init_32 (by decide) ?_
  refine nv_newj (n := 16) hx hb (hts _ (List.mem_of_getElem? (i := 4) (by decide +kernel))) hKK hP hD hS hA (by decide) (Nat.le_of_ble_eq_true rfl) (Nat.le_of_ble_eq_true rfl) (pc := 34) dX7_init_34 (fun q4 H hP hD hS => ?_)
  have hP : va_P K.1 vwCl ([(xo, .inr (7, [.ref q1, .ref q2, .ref q3, .null, .null])), (q1, .inl (K.2.2.1, 256, .inr (.inl ((fun _ => 0))))), (q2, .inl (K.2.2.1, 256, .inr (.inl ((fun _ => 0))))), (q3, .inl (K.2.2.1, 256, .inr (.inl ((fun _ => 0))))), (q4, .inl (K.2.2.1, 16, .inr (.inl ((fun _ => 0)))))]) H := hP
  have hD : va_D A ([(xo, .inr (7, [.ref q1, .ref q2, .ref q3, .null, .null])), (q1, .inl (K.2.2.1, 256, .inr (.inl ((fun _ => 0))))), (q2, .inl (K.2.2.1, 256, .inr (.inl ((fun _ => 0))))), (q3, .inl (K.2.2.1, 256, .inr (.inl ((fun _ => 0))))), (q4, .inl (K.2.2.1, 16, .inr (.inl ((fun _ => 0)))))]) := hD
  refine rr_put (v := .ref q4) (ty := tyX7 3) (ws' := [(xo, .inr (7, [.ref q1, .ref q2, .ref q3, .ref q4, .null])), (q1, .inl (K.2.2.1, 256, .inr (.inl ((fun _ => 0))))), (q2, .inl (K.2.2.1, 256, .inr (.inl ((fun _ => 0))))), (q3, .inl (K.2.2.1, 256, .inr (.inl ((fun _ => 0))))), (q4, .inl (K.2.2.1, 16, .inr (.inl ((fun _ => 0)))))]) hx hb hts (inX7_init_7) tyX7 tyX7_ok nmX7 hown hKK.1 hP hD hS 0 rfl rfl 3 (by decide) (hts _ (List.mem_of_getElem? (i := 8) (by decide +kernel))) (fun _ h9 => h9) rfl (tyX7_ok 3 (by decide)) rfl rfl (Nat.le_of_ble_eq_true rfl) rfl (pc := 36) dX7_init_36 (fun H locs hP hD hS => ?_)
  refine lv_aload_n hx hb (pc := 39) dX7_init_39 rfl (lv_at hl 0 rfl) ?_
  refine lv_bipush (v := nI 16) hx hb (pc := 40) dX7_init_40 (by decide) ?_
  refine nv_newj (n := 16) hx hb (hts _ (List.mem_of_getElem? (i := 4) (by decide +kernel))) hKK hP hD hS hA (by decide) (Nat.le_of_ble_eq_true rfl) (Nat.le_of_ble_eq_true rfl) (pc := 42) dX7_init_42 (fun q5 H hP hD hS => ?_)
  have hP : va_P K.1 vwCl ([(xo, .inr (7, [.ref q1, .ref q2, .ref q3, .ref q4, .null])), (q1, .inl (K.2.2.1, 256, .inr (.inl ((fun _ => 0))))), (q2, .inl (K.2.2.1, 256, .inr (.inl ((fun _ => 0))))), (q3, .inl (K.2.2.1, 256, .inr (.inl ((fun _ => 0))))), (q4, .inl (K.2.2.1, 16, .inr (.inl ((fun _ => 0))))), (q5, .inl (K.2.2.1, 16, .inr (.inl ((fun _ => 0)))))]) H := hP
  have hD : va_D A ([(xo, .inr (7, [.ref q1, .ref q2, .ref q3, .ref q4, .null])), (q1, .inl (K.2.2.1, 256, .inr (.inl ((fun _ => 0))))), (q2, .inl (K.2.2.1, 256, .inr (.inl ((fun _ => 0))))), (q3, .inl (K.2.2.1, 256, .inr (.inl ((fun _ => 0))))), (q4, .inl (K.2.2.1, 16, .inr (.inl ((fun _ => 0))))), (q5, .inl (K.2.2.1, 16, .inr (.inl ((fun _ => 0)))))]) := hD
  refine rr_put (v := .ref q5) (ty := tyX7 4) (ws' := [(xo, .inr (7, [.ref q1, .ref q2, .ref q3, .ref q4, .ref q5])), (q1, .inl (K.2.2.1, 256, .inr (.inl ((fun _ => 0))))), (q2, .inl (K.2.2.1, 256, .inr (.inl ((fun _ => 0))))), (q3, .inl (K.2.2.1, 256, .inr (.inl ((fun _ => 0))))), (q4, .inl (K.2.2.1, 16, .inr (.inl ((fun _ => 0))))), (q5, .inl (K.2.2.1, 16, .inr (.inl ((fun _ => 0)))))]) hx hb hts (inX7_init_7) tyX7 tyX7_ok nmX7 hown hKK.1 hP hD hS 0 rfl rfl 4 (by decide) (hts _ (List.mem_of_getElem? (i := 9) (by decide +kernel))) (fun _ h9 => h9) rfl (tyX7_ok 4 (by decide)) rfl rfl (Nat.le_of_ble_eq_true rfl) rfl (pc := 44) dX7_init_44 (fun H locs hP hD hS => ?_)
  exact hret _ _ 5 800 47 _ dX7_init_47 (by omega) (by omega) hS (⟨_, _, _, _, _, hP, hD⟩)

abbrev rmX8_init : Room := { frames := 1, cells := 5, slots := 21, locals := 20 }
theorem inX8_init_8 : ∀ w ∈ wsX80, w ∈ wsX8_init := fun _ h => List.mem_cons_of_mem _ (List.mem_append_right _ h)
set_option maxHeartbeats 4000000 in
set_option maxRecDepth 100000 in
theorem c_X8_init (l : Launch) (K : rr_K) (A : Nat → Prop) (sz : Nat) (wo mo : Nat) (hA : ∀ q, sz ≤ q → A q) (hD : va_D A ([(wo, .inr (8, [.null, .null, .null, .null, .null, .null]))])) : MetV l K yX8_init wsX8_init rmX8_init [.ref wo, .ref mo] (fun H => H.size = sz ∧ va_P K.1 vwCl ([(wo, .inr (8, [.null, .null, .null, .null, .null, .null]))]) H) A (fun H => ∃ bh my lg rw ld, va_P K.1 vwCl (WW3 K wo mo bh my lg rw ld 1 (fun _ => nI 0) (fun _ => 0) (fun _ => 0) (fun _ => 0) (fun _ => 0)) H ∧ va_D A (WW3 K wo mo bh my lg rw ld 1 (fun _ => nI 0) (fun _ => 0) (fun _ => 0) (fun _ => 0) (fun _ => 0))) 5 21 := by
  refine metV_of (cc := cX8_init) (maxL := 2) (by decide) rfl rfl rfl (Nat.le_of_ble_eq_true rfl) ?_
  intro p e s m args below meth c Q ls hEnt hin hKK hX hret hl
  obtain ⟨hx, hb, hml, hown, hts⟩ := hEnt
  obtain ⟨hsz0, hX⟩ := hX
  have hA : ∀ q, s.heap.size ≤ q → A q := fun q h => hA q (hsz0 ▸ h)
  have hP : va_P K.1 vwCl ([(wo, .inr (8, [.null, .null, .null, .null, .null, .null]))]) s.heap := hX
  have hl : lv_has ls 2 [(0, .ref wo), (1, .ref mo)] := hl
  have hS : va_S A s.heap s.heap [] := va_S.rf
  refine lv_aload_n hx hb (pc := 0) dX8_init_0 rfl (lv_at hl 0 rfl) ?_
  refine W.objInit hx hb hown (hts _ (List.mem_of_getElem? (i := 1) (by decide +kernel))) (hts _ (List.mem_of_getElem? (i := 2) (by decide +kernel))) (hts _ (List.mem_of_getElem? (i := 3) (by decide +kernel))) rfl (by rw [hml]; exact hl.1) rfl dX8_init_1 (Nat.le_of_ble_eq_true rfl) (Nat.le_of_ble_eq_true rfl) ?_
  refine W.eq (g2 := F0 m 4 ls []) rfl ?_
  refine lv_aload_n hx hb (pc := 4) dX8_init_4 rfl (lv_at hl 0 rfl) ?_
  refine lv_iconst (v := nI 4) hx hb (pc := 5) dX8_init_5 (by decide) ?_
  refine nv_newi (n := 4) hx hb (hts _ (List.mem_of_getElem? (i := 4) (by decide +kernel))) hKK hP hD hS hA (by decide) (Nat.le_of_ble_eq_true rfl) (Nat.le_of_ble_eq_true rfl) (pc := 6) dX8_init_6 (fun q1 H hP hD hS => ?_)
  have hP : va_P K.1 vwCl ([(wo, .inr (8, [.null, .null, .null, .null, .null, .null])), (q1, .inl (K.2.1, 4, .inl (fun j => nI (((fun _ => 0)) j))))]) H := hP
  have hD : va_D A ([(wo, .inr (8, [.null, .null, .null, .null, .null, .null])), (q1, .inl (K.2.1, 4, .inl (fun j => nI (((fun _ => 0)) j))))]) := hD
  refine rr_put (v := .ref q1) (ty := tyX8 1) (ws' := [(wo, .inr (8, [.null, .ref q1, .null, .null, .null, .null])), (q1, .inl (K.2.1, 4, .inl (fun j => nI (((fun _ => 0)) j))))]) hx hb hts (inX8_init_8) tyX8 tyX8_ok nmX8 hown hKK.1 hP hD hS 0 rfl rfl 1 (by decide) (hts _ (List.mem_of_getElem? (i := 5) (by decide +kernel))) (fun _ h9 => h9) rfl (tyX8_ok 1 (by decide)) rfl rfl (Nat.le_of_ble_eq_true rfl) rfl (pc := 8) dX8_init_8 (fun H locs hP hD hS => ?_)
  refine lv_aload_n hx hb (pc := 11) dX8_init_11 rfl (lv_at hl 0 rfl) ?_
  refine lv_iconst (v := nI 1) hx hb (pc := 12) dX8_init_12 (by decide) ?_
  refine nv_newj (n := 1) hx hb (hts _ (List.mem_of_getElem? (i := 6) (by decide +kernel))) hKK hP hD hS hA (by decide) (Nat.le_of_ble_eq_true rfl) (Nat.le_of_ble_eq_true rfl) (pc := 13) dX8_init_13 (fun q2 H hP hD hS => ?_)
  have hP : va_P K.1 vwCl ([(wo, .inr (8, [.null, .ref q1, .null, .null, .null, .null])), (q1, .inl (K.2.1, 4, .inl (fun j => nI (((fun _ => 0)) j)))), (q2, .inl (K.2.2.1, 1, .inr (.inl ((fun _ => 0)))))]) H := hP
  have hD : va_D A ([(wo, .inr (8, [.null, .ref q1, .null, .null, .null, .null])), (q1, .inl (K.2.1, 4, .inl (fun j => nI (((fun _ => 0)) j)))), (q2, .inl (K.2.2.1, 1, .inr (.inl ((fun _ => 0)))))]) := hD
  refine rr_put (v := .ref q2) (ty := tyX8 2) (ws' := [(wo, .inr (8, [.null, .ref q1, .ref q2, .null, .null, .null])), (q1, .inl (K.2.1, 4, .inl (fun j => nI (((fun _ => 0)) j)))), (q2, .inl (K.2.2.1, 1, .inr (.inl ((fun _ => 0)))))]) hx hb hts (inX8_init_8) tyX8 tyX8_ok nmX8 hown hKK.1 hP hD hS 0 rfl rfl 2 (by decide) (hts _ (List.mem_of_getElem? (i := 7) (by decide +kernel))) (fun _ h9 => h9) rfl (tyX8_ok 2 (by decide)) rfl rfl (Nat.le_of_ble_eq_true rfl) rfl (pc := 15) dX8_init_15 (fun H locs hP hD hS => ?_)
  refine lv_aload_n hx hb (pc := 18) dX8_init_18 rfl (lv_at hl 0 rfl) ?_
  refine lv_iconst (v := nI 1) hx hb (pc := 19) dX8_init_19 (by decide) ?_
  refine nv_newj (n := 1) hx hb (hts _ (List.mem_of_getElem? (i := 6) (by decide +kernel))) hKK hP hD hS hA (by decide) (Nat.le_of_ble_eq_true rfl) (Nat.le_of_ble_eq_true rfl) (pc := 20) dX8_init_20 (fun q3 H hP hD hS => ?_)
  have hP : va_P K.1 vwCl ([(wo, .inr (8, [.null, .ref q1, .ref q2, .null, .null, .null])), (q1, .inl (K.2.1, 4, .inl (fun j => nI (((fun _ => 0)) j)))), (q2, .inl (K.2.2.1, 1, .inr (.inl ((fun _ => 0))))), (q3, .inl (K.2.2.1, 1, .inr (.inl ((fun _ => 0)))))]) H := hP
  have hD : va_D A ([(wo, .inr (8, [.null, .ref q1, .ref q2, .null, .null, .null])), (q1, .inl (K.2.1, 4, .inl (fun j => nI (((fun _ => 0)) j)))), (q2, .inl (K.2.2.1, 1, .inr (.inl ((fun _ => 0))))), (q3, .inl (K.2.2.1, 1, .inr (.inl ((fun _ => 0)))))]) := hD
  refine rr_put (v := .ref q3) (ty := tyX8 3) (ws' := [(wo, .inr (8, [.null, .ref q1, .ref q2, .ref q3, .null, .null])), (q1, .inl (K.2.1, 4, .inl (fun j => nI (((fun _ => 0)) j)))), (q2, .inl (K.2.2.1, 1, .inr (.inl ((fun _ => 0))))), (q3, .inl (K.2.2.1, 1, .inr (.inl ((fun _ => 0)))))]) hx hb hts (inX8_init_8) tyX8 tyX8_ok nmX8 hown hKK.1 hP hD hS 0 rfl rfl 3 (by decide) (hts _ (List.mem_of_getElem? (i := 8) (by decide +kernel))) (fun _ h9 => h9) rfl (tyX8_ok 3 (by decide)) rfl rfl (Nat.le_of_ble_eq_true rfl) rfl (pc := 22) dX8_init_22 (fun H locs hP hD hS => ?_)
  refine lv_aload_n hx hb (pc := 25) dX8_init_25 rfl (lv_at hl 0 rfl) ?_
  refine lv_bipush (v := nI 7) hx hb (pc := 26) dX8_init_26 (by decide) ?_
  refine nv_newi (n := 7) hx hb (hts _ (List.mem_of_getElem? (i := 4) (by decide +kernel))) hKK hP hD hS hA (by decide) (Nat.le_of_ble_eq_true rfl) (Nat.le_of_ble_eq_true rfl) (pc := 28) dX8_init_28 (fun q4 H hP hD hS => ?_)
  have hP : va_P K.1 vwCl ([(wo, .inr (8, [.null, .ref q1, .ref q2, .ref q3, .null, .null])), (q1, .inl (K.2.1, 4, .inl (fun j => nI (((fun _ => 0)) j)))), (q2, .inl (K.2.2.1, 1, .inr (.inl ((fun _ => 0))))), (q3, .inl (K.2.2.1, 1, .inr (.inl ((fun _ => 0))))), (q4, .inl (K.2.1, 7, .inl (fun j => nI (((fun _ => 0)) j))))]) H := hP
  have hD : va_D A ([(wo, .inr (8, [.null, .ref q1, .ref q2, .ref q3, .null, .null])), (q1, .inl (K.2.1, 4, .inl (fun j => nI (((fun _ => 0)) j)))), (q2, .inl (K.2.2.1, 1, .inr (.inl ((fun _ => 0))))), (q3, .inl (K.2.2.1, 1, .inr (.inl ((fun _ => 0))))), (q4, .inl (K.2.1, 7, .inl (fun j => nI (((fun _ => 0)) j))))]) := hD
  refine rr_putF (v := .ref q4) (ty := tyX8 4) (ws' := [(wo, .inr (8, [.null, .ref q1, .ref q2, .ref q3, .ref q4, .null])), (q1, .inl (K.2.1, 4, .inl (fun j => nI (((fun _ => 0)) j)))), (q2, .inl (K.2.2.1, 1, .inr (.inl ((fun _ => 0))))), (q3, .inl (K.2.2.1, 1, .inr (.inl ((fun _ => 0))))), (q4, .inl (K.2.1, 7, .inl (fun j => nI (((fun _ => 0)) j))))]) hx hb hts (inX8_init_8) tyX8 tyX8_ok nmX8 hown hKK.1 hP hD hS 0 rfl rfl 4 (by decide) (hts _ (List.mem_of_getElem? (i := 9) (by decide +kernel))) (fun _ h9 => h9) rfl hin rfl (tyX8_ok 4 (by decide)) rfl rfl (Nat.le_of_ble_eq_true rfl) rfl (pc := 30) dX8_init_30 (fun H locs hP hD hS => ?_)
  refine lv_aload_n hx hb (pc := 33) dX8_init_33 rfl (lv_at hl 0 rfl) ?_
  refine lv_bipush (v := nI 8) hx hb (pc := 34) dX8_init_34 (by decide) ?_
  refine nv_newi (n := 8) hx hb (hts _ (List.mem_of_getElem? (i := 4) (by decide +kernel))) hKK hP hD hS hA (by decide) (Nat.le_of_ble_eq_true rfl) (Nat.le_of_ble_eq_true rfl) (pc := 36) dX8_init_36 (fun q5 H hP hD hS => ?_)
  have hP : va_P K.1 vwCl ([(wo, .inr (8, [.null, .ref q1, .ref q2, .ref q3, .ref q4, .null])), (q1, .inl (K.2.1, 4, .inl (fun j => nI (((fun _ => 0)) j)))), (q2, .inl (K.2.2.1, 1, .inr (.inl ((fun _ => 0))))), (q3, .inl (K.2.2.1, 1, .inr (.inl ((fun _ => 0))))), (q4, .inl (K.2.1, 7, .inl (fun j => nI (((fun _ => 0)) j)))), (q5, .inl (K.2.1, 8, .inl (fun j => nI (((fun _ => 0)) j))))]) H := hP
  have hD : va_D A ([(wo, .inr (8, [.null, .ref q1, .ref q2, .ref q3, .ref q4, .null])), (q1, .inl (K.2.1, 4, .inl (fun j => nI (((fun _ => 0)) j)))), (q2, .inl (K.2.2.1, 1, .inr (.inl ((fun _ => 0))))), (q3, .inl (K.2.2.1, 1, .inr (.inl ((fun _ => 0))))), (q4, .inl (K.2.1, 7, .inl (fun j => nI (((fun _ => 0)) j)))), (q5, .inl (K.2.1, 8, .inl (fun j => nI (((fun _ => 0)) j))))]) := hD
  refine rr_putF (v := .ref q5) (ty := tyX8 5) (ws' := [(wo, .inr (8, [.null, .ref q1, .ref q2, .ref q3, .ref q4, .ref q5])), (q1, .inl (K.2.1, 4, .inl (fun j => nI (((fun _ => 0)) j)))), (q2, .inl (K.2.2.1, 1, .inr (.inl ((fun _ => 0))))), (q3, .inl (K.2.2.1, 1, .inr (.inl ((fun _ => 0))))), (q4, .inl (K.2.1, 7, .inl (fun j => nI (((fun _ => 0)) j)))), (q5, .inl (K.2.1, 8, .inl (fun j => nI (((fun _ => 0)) j))))]) hx hb hts (inX8_init_8) tyX8 tyX8_ok nmX8 hown hKK.1 hP hD hS 0 rfl rfl 5 (by decide) (hts _ (List.mem_of_getElem? (i := 10) (by decide +kernel))) (fun _ h9 => h9) rfl hin rfl (tyX8_ok 5 (by decide)) rfl rfl (Nat.le_of_ble_eq_true rfl) rfl (pc := 38) dX8_init_38 (fun H locs hP hD hS => ?_)
  refine lv_aload_n hx hb (pc := 41) dX8_init_41 rfl (lv_at hl 0 rfl) ?_
  refine lv_aload_n hx hb (pc := 42) dX8_init_42 rfl (lv_at hl 1 rfl) ?_
  refine rr_putF (v := .ref mo) (ty := tyX8 0) (ws' := [(wo, .inr (8, [.ref mo, .ref q1, .ref q2, .ref q3, .ref q4, .ref q5])), (q1, .inl (K.2.1, 4, .inl (fun j => nI (((fun _ => 0)) j)))), (q2, .inl (K.2.2.1, 1, .inr (.inl ((fun _ => 0))))), (q3, .inl (K.2.2.1, 1, .inr (.inl ((fun _ => 0))))), (q4, .inl (K.2.1, 7, .inl (fun j => nI (((fun _ => 0)) j)))), (q5, .inl (K.2.1, 8, .inl (fun j => nI (((fun _ => 0)) j))))]) hx hb hts (inX8_init_8) tyX8 tyX8_ok nmX8 hown hKK.1 hP hD hS 0 rfl rfl 0 (by decide) (hts _ (List.mem_of_getElem? (i := 11) (by decide +kernel))) (fun _ h9 => h9) rfl hin rfl (tyX8_ok 0 (by decide)) rfl rfl (Nat.le_of_ble_eq_true rfl) rfl (pc := 43) dX8_init_43 (fun H locs hP hD hS => ?_)
  exact hret _ _ 5 21 46 _ dX8_init_46 (by omega) (by omega) hS (⟨_, _, _, _, _, hP, hD⟩)

