abbrev rmJ7_copyOf_c38d5 (mc ms : Nat) : Room := { frames := 1, cells := mc, slots := ms, locals := 20 }
set_option maxHeartbeats 4000000 in
set_option maxRecDepth 100000 in
theorem c_J7_copyOf_c38d5 (l : Launch) (K : rr_K) (A : Nat → Prop) (sz : Nat) (a n mm : Nat) (f : Nat → Int64) (hn : n < mm) (hm : mm ≤ 67108864) (hA : ∀ q, sz ≤ q → A q) (hD : va_D A (RJ K a n f)) : MetR l K yJ7_copyOf_c38d5 wsJ7_copyOf_c38d5 (rmJ7_copyOf_c38d5 (1) (mm)) [.ref a, .int (nI mm)] (fun H => H.size = sz ∧ va_P K.1 vwCl (RJ K a n f) H) A (fun v H => ∃ q, v = .ref q ∧ va_P K.1 vwCl (RJ K a n f ++ RJ K q mm (cpL f n)) H ∧ va_D A (RJ K a n f ++ RJ K q mm (cpL f n))) 1 mm := by
  refine metR_of (cc := cJ7_copyOf_c38d5) (maxL := 3) (ret := (some (.array .long))) (rt := (.array .long)) (by decide) rfl rfl rfl rfl (Nat.le_of_ble_eq_true rfl) ?_
  intro p e s m args below meth c Q ls hEnt hKK hX hret hl
  obtain ⟨hx, hb, hml, hown, hts⟩ := hEnt
  obtain ⟨hsz0, hX⟩ := hX
  have hA : ∀ q, s.heap.size ≤ q → A q := fun q h => hA q (hsz0 ▸ h)
  have hP : va_P K.1 vwCl (RJ K a n f) s.heap := hX
  have hl : lv_has ls 3 [(0, .ref a), (1, .int (nI mm))] := hl
  have hS : va_S A s.heap s.heap [] := va_S.rf
  refine lv_iload_n hx hb (pc := 0) dJ7_copyOf_c38d5_0 rfl (lv_at hl 1 rfl) ?_
  refine lv_aload_n hx hb (pc := 1) dJ7_copyOf_c38d5_1 rfl (lv_at hl 0 rfl) ?_
  refine va_alen (v := nI n) hx hb hKK.1 hP 0 1 rfl rfl rfl (pc := 2) dJ7_copyOf_c38d5_2 ?_
  refine nv_icmp_ne (a := mm) (b := n) (tgt := 14) hx hb (pc := 3) dJ7_copyOf_c38d5_3 (by decide) (by omega) (by omega) (fun c3 => ?_) (fun c3 => absurd c3 (by omega))
  refine lv_iload_n hx hb (pc := 14) dJ7_copyOf_c38d5_14 rfl (lv_at hl 1 rfl) ?_
  refine nv_newj (n := mm) hx hb (hts _ (List.mem_of_getElem? (i := 7) (by decide +kernel))) hKK hP hD hS hA (by omega) (Nat.le_refl _) (by show 0 + mm ≤ mm; omega) (pc := 15) dJ7_copyOf_c38d5_15 (fun q H hP hD hS => ?_)
  have hP : va_P K.1 vwCl ([(a, .inl (K.2.2.1, n, .inr (.inl (f)))), (q, .inl (K.2.2.1, mm, .inr (.inl ((fun _ => 0)))))]) H := hP
  have hD : va_D A ([(a, .inl (K.2.2.1, n, .inr (.inl (f)))), (q, .inl (K.2.2.1, mm, .inr (.inl ((fun _ => 0)))))]) := hD
  refine lv_astore_n (lv' := [(2, .ref q), (0, .ref a), (1, .int (nI mm))]) hx hb (pc := 17) dJ7_copyOf_c38d5_17 rfl hl (by decide) rfl (fun ls hl => ?_)
  refine lv_aload_n hx hb (pc := 18) dJ7_copyOf_c38d5_18 rfl (lv_at hl 1 rfl) ?_
  refine lv_iconst (v := nI 0) hx hb (pc := 19) dJ7_copyOf_c38d5_19 (by decide) ?_
  refine lv_aload_n hx hb (pc := 20) dJ7_copyOf_c38d5_20 rfl (lv_at hl 0 rfl) ?_
  refine lv_iconst (v := nI 0) hx hb (pc := 21) dJ7_copyOf_c38d5_21 (by decide) ?_
  refine lv_aload_n hx hb (pc := 22) dJ7_copyOf_c38d5_22 rfl (lv_at hl 1 rfl) ?_
  refine va_alen (v := nI n) hx hb hKK.1 hP 0 1 rfl rfl rfl (pc := 23) dJ7_copyOf_c38d5_23 ?_
  refine lv_iload_n hx hb (pc := 24) dJ7_copyOf_c38d5_24 rfl (lv_at hl 2 rfl) ?_
  refine va_mmin hx hb (hml.trans hl.1.symm) hown (hts _ (List.mem_of_getElem? (i := 8) (by decide +kernel))) (hts _ (List.mem_of_getElem? (i := 9) (by decide +kernel))) (hts _ (List.mem_of_getElem? (i := 10) (by decide +kernel))) (hts _ (List.mem_of_getElem? (i := 11) (by decide +kernel))) (Nat.le_of_ble_eq_true rfl) (Nat.le_of_ble_eq_true rfl) (Nat.le_refl _) (by show 0 + mm ≤ mm; omega) (pc := 25) dJ7_copyOf_c38d5_25 ?_
  refine rr_top (v := .int (nI n)) (by rw [rr_min _ _ (by omega) (by omega), Nat.min_eq_left (by omega)]) ?_
  refine nv_copyl (sp := 0) (dp := 0) (n := n) (ws' := [(a, .inl (K.2.2.1, n, .inr (.inl (f)))), (q, .inl (K.2.2.1, mm, .inr (.inl (va_cpy f (fun _ => 0) 0 0 n))))]) hx hb (hml.trans hl.1.symm) hown (hts _ (List.mem_of_getElem? (i := 12) (by decide +kernel))) (hts _ (List.mem_of_getElem? (i := 13) (by decide +kernel))) (hts _ (List.mem_of_getElem? (i := 14) (by decide +kernel))) (hts _ (List.mem_of_getElem? (i := 15) (by decide +kernel))) hKK hP hD hS 0 1 rfl rfl (by omega) (by omega) (by omega) (by omega) (by omega) (Nat.le_of_ble_eq_true rfl) (Nat.le_of_ble_eq_true rfl) rfl (pc := 28) dJ7_copyOf_c38d5_28 (fun H locs hP hD hS => ?_)
  refine lv_aload_n hx hb (pc := 31) dJ7_copyOf_c38d5_31 rfl (lv_at hl 0 rfl) ?_
  rw [cpL_eq] at hP hD
  exact hret.2.2 _ _ 1 (0 + mm) 32 _ (.ref q) dJ7_copyOf_c38d5_32 (Nat.le_refl _) (by omega) hS (⟨_, rfl, hP, hD⟩) (Or.inr ⟨_, rfl⟩) (Or.inr ⟨_, rfl⟩)

abbrev rmX8_makeRoom (mc ms : Nat) : Room := { frames := 2, cells := mc, slots := ms, locals := 42 }
theorem inX8_makeRoom_8 : ∀ w ∈ wsX80, w ∈ wsX8_makeRoom := fun _ h => List.mem_cons_of_mem _ (List.mem_append_left _ (List.mem_append_right _ h))
set_option maxHeartbeats 4000000 in
set_option maxRecDepth 100000 in
theorem c_X8_makeRoom (l : Launch) (K : rr_K) (A : Nat → Prop) (sz : Nat) (wo mo bh my lg rw ld room : Nat) (bF : Nat → Int32) (yF gF : Nat → Int64) (wF dF : Nat → Nat) (mk mn ms b cap : Nat) (ks : Nat → Int32) (no sl : Nat → Nat) (kn nt : List Nat) (hM : MInv (kn.map nI) nt cap b ks no sl) (hr : ∃ e, room = 2 ^ e) (hrb : room ≤ 65536) (hA : ∀ q, sz ≤ q → A q) (hD : va_D A (WW3 K wo mo bh my lg rw ld room bF yF gF wF dF ++ MW3 K mo mk mn ms ((kn.map nI).length) b cap ks no sl)) : MetV l K yX8_makeRoom wsX8_makeRoom (rmX8_makeRoom ((rmN room cap) - room) (12 * ((rmN room cap) - room))) [.ref wo] (fun H => H.size = sz ∧ va_P K.1 vwCl (WW3 K wo mo bh my lg rw ld room bF yF gF wF dF ++ MW3 K mo mk mn ms ((kn.map nI).length) b cap ks no sl) H) A (fun H => ∃ bh' my' lg' bF' yF' gF', (∀ j, j < 4 * room → bF' j = bF j) ∧ (∀ j, j < room → yF' j = yF j) ∧ va_P K.1 vwCl (WW3 K wo mo bh' my' lg' rw ld (rmN room cap) bF' yF' gF' wF dF ++ MW3 K mo mk mn ms (kn.map nI).length b cap ks no sl) H ∧ va_D A (WW3 K wo mo bh' my' lg' rw ld (rmN room cap) bF' yF' gF' wF dF ++ MW3 K mo mk mn ms (kn.map nI).length b cap ks no sl)) ((rmN room cap) - room) (12 * ((rmN room cap) - room)) := by
  refine metV_of (cc := cX8_makeRoom) (maxL := 2) (by decide) rfl rfl rfl (Nat.le_of_ble_eq_true rfl) ?_
  intro p e s m args below meth c Q ls hEnt hin hKK hX hret hl
  obtain ⟨hx, hb, hml, hown, hts⟩ := hEnt
  obtain ⟨hsz0, hX⟩ := hX
  have hA : ∀ q, s.heap.size ≤ q → A q := fun q h => hA q (hsz0 ▸ h)
  have hP : va_P K.1 vwCl (WW3 K wo mo bh my lg rw ld room bF yF gF wF dF ++ MW3 K mo mk mn ms ((kn.map nI).length) b cap ks no sl) s.heap := hX
  have hl : lv_has ls 2 [(0, .ref wo)] := hl
  have hS : va_S A s.heap s.heap [] := va_S.rf
  obtain ⟨m1, m2, m3, m4, -⟩ := id hM
  refine lv_aload_n hx hb (pc := 0) dX8_makeRoom_0 rfl (lv_at hl 0 rfl) ?_
  refine va_get (v := .ref mo) hx hb hts (inX8_makeRoom_8) hown hKK.1 hP 0 rfl rfl 0 (by decide) (hts _ (List.mem_of_getElem? (i := 1) (by decide +kernel))) (fun _ h9 => h9) rfl (pc := 1) dX8_makeRoom_1 ?_
  refine rr_callP (rv := .int (nI cap)) (pc := 4) (va_runV (As := []) (rest := []) ⟨hx, hb, hml, hown, hts⟩ (c_X3_room l K mo mk mn ms b cap ks no sl (kn.map nI) nt hM) (cwV 0 hts gX8_makeRoom_X3_room rfl rfl rfl (by decide +kernel) ⟨Nat.le_of_ble_eq_true rfl, Nat.le_of_ble_eq_true rfl⟩) (rr_preV hKK (rr_right hP) (va_recv hKK.1 hP (ci := 3) (q0 := 6) rfl rfl)) rfl rfl hl.1 rfl (lv_room (Nat.le_of_ble_eq_true rfl)) dX8_makeRoom_4 ⟨Nat.zero_le _, Nat.zero_le _⟩) ?_
  refine lv_istore_n (lv' := [(1, .int (nI cap)), (0, .ref wo)]) hx hb (pc := 7) dX8_makeRoom_7 rfl hl (by decide) rfl (fun ls hl => ?_)
  refine lv_aload_n hx hb (pc := 8) dX8_makeRoom_8 rfl (lv_at hl 1 rfl) ?_
  refine va_get (v := .ref my) hx hb hts (inX8_makeRoom_8) hown hKK.1 hP 0 rfl rfl 2 (by decide) (hts _ (List.mem_of_getElem? (i := 2) (by decide +kernel))) (fun _ h9 => h9) rfl (pc := 9) dX8_makeRoom_9 ?_
  refine va_alen (v := nI room) hx hb hKK.1 hP 2 1 rfl rfl rfl (pc := 12) dX8_makeRoom_12 ?_
  refine lv_iload_n hx hb (pc := 13) dX8_makeRoom_13 rfl (lv_at hl 0 rfl) ?_
  refine nv_icmp_ge (a := room) (b := cap) (tgt := 55) hx hb (pc := 14) dX8_makeRoom_14 (by decide) (by omega) (by omega) (fun c14 => ?_) (fun c14 => ?_)
  · have hRN : rmN room cap = room := by unfold rmN; rw [if_neg (by omega)]
    exact hret _ _ 0 0 55 _ dX8_makeRoom_55 (by show _ ≤ rmN room cap - room; omega) (by show _ ≤ 12 * (rmN room cap - room); omega) hS (by first | exact ⟨q3, q1, q2, cpF bF (4 * room), cpL yF room, cpL gF room, (fun j hj => by unfold cpF; rw [if_pos hj]), (fun j hj => by unfold cpL; rw [if_pos hj]), by rw [hRN]; exact hP, by rw [hRN]; exact hD⟩ | exact ⟨bh, my, lg, bF, yF, gF, fun _ _ => rfl, fun _ _ => rfl, by rw [hRN]; exact hP, by rw [hRN]; exact hD⟩)
  · have hdb := pow_dbl hr m4 (by omega)
    have hRN : rmN room cap = cap := by unfold rmN; rw [if_pos (by omega)]
    refine lv_aload_n hx hb (pc := 17) dX8_makeRoom_17 rfl (lv_at hl 1 rfl) ?_
    refine lv_aload_n hx hb (pc := 18) dX8_makeRoom_18 rfl (lv_at hl 1 rfl) ?_
    refine va_get (v := .ref my) hx hb hts (inX8_makeRoom_8) hown hKK.1 hP 0 rfl rfl 2 (by decide) (hts _ (List.mem_of_getElem? (i := 2) (by decide +kernel))) (fun _ h9 => h9) rfl (pc := 19) dX8_makeRoom_19 ?_
    refine lv_iload_n hx hb (pc := 22) dX8_makeRoom_22 rfl (lv_at hl 0 rfl) ?_
    have hPc := hP.sub (ws' := RJ K my room yF) [2] rfl
    have hDc := (hD.sub (ws' := RJ K my room yF) [2] (by decide) rfl).self (sz := s.heap.size)
    have hFc := va_free (wc := RJ K my room yF) hD hS hA [2] rfl
    refine rr_callR (pc := 23) (va_runS (As := [.ref my, .int (nI cap)]) (rest := [.ref wo]) ⟨hx, hb, hml, hown, hts⟩ (c_J7_copyOf_c38d5 l K (va_A (RJ K my room yF) s.heap.size) s.heap.size my room cap yF (by omega) (by omega) (fun q h => Or.inr h) hDc) (va_cwS 2 hts gX8_makeRoom_J7_copyOf_c38d5 rfl rfl rfl (by decide +kernel) ⟨Nat.le_of_ble_eq_true rfl, Nat.le_of_ble_eq_true rfl⟩) (rr_preS hKK (⟨rfl, hPc⟩)) rfl rfl hl.1 rfl (lv_room (Nat.le_of_ble_eq_true rfl)) dX8_makeRoom_23 ⟨by show 0 + 1 ≤ (rmN room cap) - room; omega, by show 0 + cap ≤ 12 * ((rmN room cap) - room); omega⟩) hS (hFc) (fun v H locs hY hsz hfr hS => ?_)
    obtain ⟨q1, rfl, hP1, hD1⟩ := hY
    obtain ⟨hP, hD⟩ := va_join (wr := [(wo, .inr (8, [.ref mo, .ref bh, .ref my, .ref lg, .ref rw, .ref ld])), (bh, .inl (K.2.1, 4 * room, .inl (bF))), (lg, .inl (K.2.2.1, room, .inr (.inl (gF)))), (rw, .inl (K.2.1, 7, .inl (fun j => nI (wF j)))), (ld, .inl (K.2.1, 8, .inl (fun j => nI (dF j)))), (mo, .inr (3, [.int (nI ((kn.map nI).length)), .ref mk, .ref mn, .ref ms, .int (nI b)])), (mk, .inl (K.2.1, cap, .inl (ks))), (mn, .inl (K.2.1, cap, .inl (fun j => nI (no j)))), (ms, .inl (K.2.1, 2 * cap, .inl (fun j => nI (sl j))))]) (w1 := [(my, .inl (K.2.2.1, room, .inr (.inl (yF)))), (q1, .inl (K.2.2.1, cap, .inr (.inl ((cpL yF room)))))]) hP hD [2] [0, 1, 3, 4, 5, 6, 7, 8, 9] rfl rfl (by decide) (by decide) hfr hFc hP1 hD1
    have hP : va_P K.1 vwCl ([(wo, .inr (8, [.ref mo, .ref bh, .ref my, .ref lg, .ref rw, .ref ld])), (bh, .inl (K.2.1, 4 * room, .inl (bF))), (lg, .inl (K.2.2.1, room, .inr (.inl (gF)))), (rw, .inl (K.2.1, 7, .inl (fun j => nI (wF j)))), (ld, .inl (K.2.1, 8, .inl (fun j => nI (dF j)))), (mo, .inr (3, [.int (nI ((kn.map nI).length)), .ref mk, .ref mn, .ref ms, .int (nI b)])), (mk, .inl (K.2.1, cap, .inl (ks))), (mn, .inl (K.2.1, cap, .inl (fun j => nI (no j)))), (ms, .inl (K.2.1, 2 * cap, .inl (fun j => nI (sl j)))), (my, .inl (K.2.2.1, room, .inr (.inl (yF)))), (q1, .inl (K.2.2.1, cap, .inr (.inl ((cpL yF room)))))]) H := hP
    have hD : va_D A ([(wo, .inr (8, [.ref mo, .ref bh, .ref my, .ref lg, .ref rw, .ref ld])), (bh, .inl (K.2.1, 4 * room, .inl (bF))), (lg, .inl (K.2.2.1, room, .inr (.inl (gF)))), (rw, .inl (K.2.1, 7, .inl (fun j => nI (wF j)))), (ld, .inl (K.2.1, 8, .inl (fun j => nI (dF j)))), (mo, .inr (3, [.int (nI ((kn.map nI).length)), .ref mk, .ref mn, .ref ms, .int (nI b)])), (mk, .inl (K.2.1, cap, .inl (ks))), (mn, .inl (K.2.1, cap, .inl (fun j => nI (no j)))), (ms, .inl (K.2.1, 2 * cap, .inl (fun j => nI (sl j)))), (my, .inl (K.2.2.1, room, .inr (.inl (yF)))), (q1, .inl (K.2.2.1, cap, .inr (.inl ((cpL yF room)))))]) := hD
    refine rr_put (v := .ref q1) (ty := tyX8 2) (ws' := [(wo, .inr (8, [.ref mo, .ref bh, .ref q1, .ref lg, .ref rw, .ref ld])), (bh, .inl (K.2.1, 4 * room, .inl (bF))), (lg, .inl (K.2.2.1, room, .inr (.inl (gF)))), (rw, .inl (K.2.1, 7, .inl (fun j => nI (wF j)))), (ld, .inl (K.2.1, 8, .inl (fun j => nI (dF j)))), (mo, .inr (3, [.int (nI ((kn.map nI).length)), .ref mk, .ref mn, .ref ms, .int (nI b)])), (mk, .inl (K.2.1, cap, .inl (ks))), (mn, .inl (K.2.1, cap, .inl (fun j => nI (no j)))), (ms, .inl (K.2.1, 2 * cap, .inl (fun j => nI (sl j)))), (my, .inl (K.2.2.1, room, .inr (.inl (yF)))), (q1, .inl (K.2.2.1, cap, .inr (.inl ((cpL yF room)))))]) hx hb hts (inX8_makeRoom_8) tyX8 tyX8_ok nmX8 hown hKK.1 hP hD hS 0 rfl rfl 2 (by decide) (hts _ (List.mem_of_getElem? (i := 2) (by decide +kernel))) (fun _ h9 => h9) rfl (tyX8_ok 2 (by decide)) rfl rfl (Nat.le_of_ble_eq_true rfl) rfl (pc := 26) dX8_makeRoom_26 (fun H locs hP hD hS => ?_)
    refine lv_aload_n hx hb (pc := 29) dX8_makeRoom_29 rfl (lv_at hl 1 rfl) ?_
    refine lv_aload_n hx hb (pc := 30) dX8_makeRoom_30 rfl (lv_at hl 1 rfl) ?_
    refine va_get (v := .ref lg) hx hb hts (inX8_makeRoom_8) hown hKK.1 hP 0 rfl rfl 3 (by decide) (hts _ (List.mem_of_getElem? (i := 3) (by decide +kernel))) (fun _ h9 => h9) rfl (pc := 31) dX8_makeRoom_31 ?_
    refine lv_iload_n hx hb (pc := 34) dX8_makeRoom_34 rfl (lv_at hl 0 rfl) ?_
    have hPc := hP.sub (ws' := RJ K lg room gF) [2] rfl
    have hDc := (hD.sub (ws' := RJ K lg room gF) [2] (by decide) rfl).self (sz := H.size)
    have hFc := va_free (wc := RJ K lg room gF) hD hS hA [2] rfl
    refine rr_callR (pc := 35) (va_runS (As := [.ref lg, .int (nI cap)]) (rest := [.ref wo]) ⟨hx, hb, hml, hown, hts⟩ (c_J7_copyOf_c38d5 l K (va_A (RJ K lg room gF) H.size) H.size lg room cap gF (by omega) (by omega) (fun q h => Or.inr h) hDc) (va_cwS 2 hts gX8_makeRoom_J7_copyOf_c38d5 rfl rfl rfl (by decide +kernel) ⟨Nat.le_of_ble_eq_true rfl, Nat.le_of_ble_eq_true rfl⟩) (rr_preS hKK (⟨rfl, hPc⟩)) rfl rfl hl.1 rfl (lv_room (Nat.le_of_ble_eq_true rfl)) dX8_makeRoom_35 ⟨by show 0 + 1 + 1 ≤ (rmN room cap) - room; omega, by show 0 + cap + cap ≤ 12 * ((rmN room cap) - room); omega⟩) hS (hFc) (fun v H locs hY hsz hfr hS => ?_)
    obtain ⟨q2, rfl, hP1, hD1⟩ := hY
    obtain ⟨hP, hD⟩ := va_join (wr := [(wo, .inr (8, [.ref mo, .ref bh, .ref q1, .ref lg, .ref rw, .ref ld])), (bh, .inl (K.2.1, 4 * room, .inl (bF))), (rw, .inl (K.2.1, 7, .inl (fun j => nI (wF j)))), (ld, .inl (K.2.1, 8, .inl (fun j => nI (dF j)))), (mo, .inr (3, [.int (nI ((kn.map nI).length)), .ref mk, .ref mn, .ref ms, .int (nI b)])), (mk, .inl (K.2.1, cap, .inl (ks))), (mn, .inl (K.2.1, cap, .inl (fun j => nI (no j)))), (ms, .inl (K.2.1, 2 * cap, .inl (fun j => nI (sl j)))), (my, .inl (K.2.2.1, room, .inr (.inl (yF)))), (q1, .inl (K.2.2.1, cap, .inr (.inl ((cpL yF room)))))]) (w1 := [(lg, .inl (K.2.2.1, room, .inr (.inl (gF)))), (q2, .inl (K.2.2.1, cap, .inr (.inl ((cpL gF room)))))]) hP hD [2] [0, 1, 3, 4, 5, 6, 7, 8, 9, 10] rfl rfl (by decide) (by decide) hfr hFc hP1 hD1
    have hP : va_P K.1 vwCl ([(wo, .inr (8, [.ref mo, .ref bh, .ref q1, .ref lg, .ref rw, .ref ld])), (bh, .inl (K.2.1, 4 * room, .inl (bF))), (rw, .inl (K.2.1, 7, .inl (fun j => nI (wF j)))), (ld, .inl (K.2.1, 8, .inl (fun j => nI (dF j)))), (mo, .inr (3, [.int (nI ((kn.map nI).length)), .ref mk, .ref mn, .ref ms, .int (nI b)])), (mk, .inl (K.2.1, cap, .inl (ks))), (mn, .inl (K.2.1, cap, .inl (fun j => nI (no j)))), (ms, .inl (K.2.1, 2 * cap, .inl (fun j => nI (sl j)))), (my, .inl (K.2.2.1, room, .inr (.inl (yF)))), (q1, .inl (K.2.2.1, cap, .inr (.inl ((cpL yF room))))), (lg, .inl (K.2.2.1, room, .inr (.inl (gF)))), (q2, .inl (K.2.2.1, cap, .inr (.inl ((cpL gF room)))))]) H := hP
    have hD : va_D A ([(wo, .inr (8, [.ref mo, .ref bh, .ref q1, .ref lg, .ref rw, .ref ld])), (bh, .inl (K.2.1, 4 * room, .inl (bF))), (rw, .inl (K.2.1, 7, .inl (fun j => nI (wF j)))), (ld, .inl (K.2.1, 8, .inl (fun j => nI (dF j)))), (mo, .inr (3, [.int (nI ((kn.map nI).length)), .ref mk, .ref mn, .ref ms, .int (nI b)])), (mk, .inl (K.2.1, cap, .inl (ks))), (mn, .inl (K.2.1, cap, .inl (fun j => nI (no j)))), (ms, .inl (K.2.1, 2 * cap, .inl (fun j => nI (sl j)))), (my, .inl (K.2.2.1, room, .inr (.inl (yF)))), (q1, .inl (K.2.2.1, cap, .inr (.inl ((cpL yF room))))), (lg, .inl (K.2.2.1, room, .inr (.inl (gF)))), (q2, .inl (K.2.2.1, cap, .inr (.inl ((cpL gF room)))))]) := hD
    refine rr_put (v := .ref q2) (ty := tyX8 3) (ws' := [(wo, .inr (8, [.ref mo, .ref bh, .ref q1, .ref q2, .ref rw, .ref ld])), (bh, .inl (K.2.1, 4 * room, .inl (bF))), (rw, .inl (K.2.1, 7, .inl (fun j => nI (wF j)))), (ld, .inl (K.2.1, 8, .inl (fun j => nI (dF j)))), (mo, .inr (3, [.int (nI ((kn.map nI).length)), .ref mk, .ref mn, .ref ms, .int (nI b)])), (mk, .inl (K.2.1, cap, .inl (ks))), (mn, .inl (K.2.1, cap, .inl (fun j => nI (no j)))), (ms, .inl (K.2.1, 2 * cap, .inl (fun j => nI (sl j)))), (my, .inl (K.2.2.1, room, .inr (.inl (yF)))), (q1, .inl (K.2.2.1, cap, .inr (.inl ((cpL yF room))))), (lg, .inl (K.2.2.1, room, .inr (.inl (gF)))), (q2, .inl (K.2.2.1, cap, .inr (.inl ((cpL gF room)))))]) hx hb hts (inX8_makeRoom_8) tyX8 tyX8_ok nmX8 hown hKK.1 hP hD hS 0 rfl rfl 3 (by decide) (hts _ (List.mem_of_getElem? (i := 3) (by decide +kernel))) (fun _ h9 => h9) rfl (tyX8_ok 3 (by decide)) rfl rfl (Nat.le_of_ble_eq_true rfl) rfl (pc := 38) dX8_makeRoom_38 (fun H locs hP hD hS => ?_)
    refine lv_aload_n hx hb (pc := 41) dX8_makeRoom_41 rfl (lv_at hl 1 rfl) ?_
    refine lv_aload_n hx hb (pc := 42) dX8_makeRoom_42 rfl (lv_at hl 1 rfl) ?_
    refine va_get (v := .ref bh) hx hb hts (inX8_makeRoom_8) hown hKK.1 hP 0 rfl rfl 1 (by decide) (hts _ (List.mem_of_getElem? (i := 4) (by decide +kernel))) (fun _ h9 => h9) rfl (pc := 43) dX8_makeRoom_43 ?_
    refine lv_iconst (v := nI 4) hx hb (pc := 46) dX8_makeRoom_46 (by decide) ?_
    refine lv_iload_n hx hb (pc := 47) dX8_makeRoom_47 rfl (lv_at hl 0 rfl) ?_
    refine nv_imul (a := 4) (b := cap) hx hb (pc := 48) dX8_makeRoom_48 ?_
    have hPc := hP.sub (ws' := RI K bh (4 * room) bF) [1] rfl
    have hDc := (hD.sub (ws' := RI K bh (4 * room) bF) [1] (by decide) rfl).self (sz := H.size)
    have hFc := va_free (wc := RI K bh (4 * room) bF) hD hS hA [1] rfl
    refine rr_callR (pc := 49) (va_runS (As := [.ref bh, .int (nI (4 * cap))]) (rest := [.ref wo]) ⟨hx, hb, hml, hown, hts⟩ (c_J7_copyOf_59c91 l K (va_A (RI K bh (4 * room) bF) H.size) H.size bh (4 * room) (4 * cap) bF (by omega) (by omega) (fun q h => Or.inr h) hDc) (va_cwS 2 hts gX8_makeRoom_J7_copyOf_59c91 rfl rfl rfl (by decide +kernel) ⟨Nat.le_of_ble_eq_true rfl, Nat.le_of_ble_eq_true rfl⟩) (rr_preS hKK (⟨rfl, hPc⟩)) rfl rfl hl.1 rfl (lv_room (Nat.le_of_ble_eq_true rfl)) dX8_makeRoom_49 ⟨by show 0 + 1 + 1 + 1 ≤ (rmN room cap) - room; omega, by show 0 + cap + cap + 4 * cap ≤ 12 * ((rmN room cap) - room); omega⟩) hS (hFc) (fun v H locs hY hsz hfr hS => ?_)
    obtain ⟨q3, rfl, hP1, hD1⟩ := hY
    obtain ⟨hP, hD⟩ := va_join (wr := [(wo, .inr (8, [.ref mo, .ref bh, .ref q1, .ref q2, .ref rw, .ref ld])), (rw, .inl (K.2.1, 7, .inl (fun j => nI (wF j)))), (ld, .inl (K.2.1, 8, .inl (fun j => nI (dF j)))), (mo, .inr (3, [.int (nI ((kn.map nI).length)), .ref mk, .ref mn, .ref ms, .int (nI b)])), (mk, .inl (K.2.1, cap, .inl (ks))), (mn, .inl (K.2.1, cap, .inl (fun j => nI (no j)))), (ms, .inl (K.2.1, 2 * cap, .inl (fun j => nI (sl j)))), (my, .inl (K.2.2.1, room, .inr (.inl (yF)))), (q1, .inl (K.2.2.1, cap, .inr (.inl ((cpL yF room))))), (lg, .inl (K.2.2.1, room, .inr (.inl (gF)))), (q2, .inl (K.2.2.1, cap, .inr (.inl ((cpL gF room)))))]) (w1 := [(bh, .inl (K.2.1, 4 * room, .inl (bF))), (q3, .inl (K.2.1, 4 * cap, .inl ((cpF bF (4 * room)))))]) hP hD [1] [0, 2, 3, 4, 5, 6, 7, 8, 9, 10, 11] rfl rfl (by decide) (by decide) hfr hFc hP1 hD1
    have hP : va_P K.1 vwCl ([(wo, .inr (8, [.ref mo, .ref bh, .ref q1, .ref q2, .ref rw, .ref ld])), (rw, .inl (K.2.1, 7, .inl (fun j => nI (wF j)))), (ld, .inl (K.2.1, 8, .inl (fun j => nI (dF j)))), (mo, .inr (3, [.int (nI ((kn.map nI).length)), .ref mk, .ref mn, .ref ms, .int (nI b)])), (mk, .inl (K.2.1, cap, .inl (ks))), (mn, .inl (K.2.1, cap, .inl (fun j => nI (no j)))), (ms, .inl (K.2.1, 2 * cap, .inl (fun j => nI (sl j)))), (my, .inl (K.2.2.1, room, .inr (.inl (yF)))), (q1, .inl (K.2.2.1, cap, .inr (.inl ((cpL yF room))))), (lg, .inl (K.2.2.1, room, .inr (.inl (gF)))), (q2, .inl (K.2.2.1, cap, .inr (.inl ((cpL gF room))))), (bh, .inl (K.2.1, 4 * room, .inl (bF))), (q3, .inl (K.2.1, 4 * cap, .inl ((cpF bF (4 * room)))))]) H := hP
    have hD : va_D A ([(wo, .inr (8, [.ref mo, .ref bh, .ref q1, .ref q2, .ref rw, .ref ld])), (rw, .inl (K.2.1, 7, .inl (fun j => nI (wF j)))), (ld, .inl (K.2.1, 8, .inl (fun j => nI (dF j)))), (mo, .inr (3, [.int (nI ((kn.map nI).length)), .ref mk, .ref mn, .ref ms, .int (nI b)])), (mk, .inl (K.2.1, cap, .inl (ks))), (mn, .inl (K.2.1, cap, .inl (fun j => nI (no j)))), (ms, .inl (K.2.1, 2 * cap, .inl (fun j => nI (sl j)))), (my, .inl (K.2.2.1, room, .inr (.inl (yF)))), (q1, .inl (K.2.2.1, cap, .inr (.inl ((cpL yF room))))), (lg, .inl (K.2.2.1, room, .inr (.inl (gF)))), (q2, .inl (K.2.2.1, cap, .inr (.inl ((cpL gF room))))), (bh, .inl (K.2.1, 4 * room, .inl (bF))), (q3, .inl (K.2.1, 4 * cap, .inl ((cpF bF (4 * room)))))]) := hD
    refine rr_put (v := .ref q3) (ty := tyX8 1) (ws' := [(wo, .inr (8, [.ref mo, .ref q3, .ref q1, .ref q2, .ref rw, .ref ld])), (rw, .inl (K.2.1, 7, .inl (fun j => nI (wF j)))), (ld, .inl (K.2.1, 8, .inl (fun j => nI (dF j)))), (mo, .inr (3, [.int (nI ((kn.map nI).length)), .ref mk, .ref mn, .ref ms, .int (nI b)])), (mk, .inl (K.2.1, cap, .inl (ks))), (mn, .inl (K.2.1, cap, .inl (fun j => nI (no j)))), (ms, .inl (K.2.1, 2 * cap, .inl (fun j => nI (sl j)))), (my, .inl (K.2.2.1, room, .inr (.inl (yF)))), (q1, .inl (K.2.2.1, cap, .inr (.inl ((cpL yF room))))), (lg, .inl (K.2.2.1, room, .inr (.inl (gF)))), (q2, .inl (K.2.2.1, cap, .inr (.inl ((cpL gF room))))), (bh, .inl (K.2.1, 4 * room, .inl (bF))), (q3, .inl (K.2.1, 4 * cap, .inl ((cpF bF (4 * room)))))]) hx hb hts (inX8_makeRoom_8) tyX8 tyX8_ok nmX8 hown hKK.1 hP hD hS 0 rfl rfl 1 (by decide) (hts _ (List.mem_of_getElem? (i := 4) (by decide +kernel))) (fun _ h9 => h9) rfl (tyX8_ok 1 (by decide)) rfl rfl (Nat.le_of_ble_eq_true rfl) rfl (pc := 52) dX8_makeRoom_52 (fun H locs hP hD hS => ?_)
    have hP : va_P K.1 vwCl (WW3 K wo mo q3 q1 q2 rw ld cap (cpF bF (4 * room)) (cpL yF room) (cpL gF room) wF dF ++ MW3 K mo mk mn ms ((kn.map nI).length) b cap ks no sl) H := hP.sub [0, 12, 8, 10, 1, 2, 3, 4, 5, 6] rfl
    have hD : va_D A (WW3 K wo mo q3 q1 q2 rw ld cap (cpF bF (4 * room)) (cpL yF room) (cpL gF room) wF dF ++ MW3 K mo mk mn ms ((kn.map nI).length) b cap ks no sl) := hD.sub [0, 12, 8, 10, 1, 2, 3, 4, 5, 6] (by decide) rfl
    have hRN : rmN room cap = cap := by unfold rmN; rw [if_pos (by omega)]
    exact hret _ _ (0 + 1 + 1 + 1) (0 + cap + cap + 4 * cap) 55 _ dX8_makeRoom_55 (by show _ ≤ rmN room cap - room; omega) (by show _ ≤ 12 * (rmN room cap - room); omega) hS (by first | exact ⟨q3, q1, q2, cpF bF (4 * room), cpL yF room, cpL gF room, (fun j hj => by unfold cpF; rw [if_pos hj]), (fun j hj => by unfold cpL; rw [if_pos hj]), by rw [hRN]; exact hP, by rw [hRN]; exact hD⟩ | exact ⟨bh, my, lg, bF, yF, gF, fun _ _ => rfl, fun _ _ => rfl, by rw [hRN]; exact hP, by rw [hRN]; exact hD⟩)

abbrev rmX8_linkOn (mc ms : Nat) : Room := { frames := 4, cells := mc, slots := ms, locals := 87 }
theorem inX8_linkOn_1 : ∀ w ∈ wsX10, w ∈ wsX8_linkOn := fun _ h => List.mem_cons_of_mem _ (List.mem_append_left _ (List.mem_append_right _ h))
theorem inX8_linkOn_8 : ∀ w ∈ wsX80, w ∈ wsX8_linkOn := fun _ h => List.mem_cons_of_mem _ (List.mem_append_left _ (List.mem_append_left _ (List.mem_append_right _ h)))
set_option maxHeartbeats 4000000 in
set_option maxRecDepth 100000 in
theorem c_X8_linkOn (l : Launch) (K : rr_K) (A : Nat → Prop) (sz : Nat) (wo mo bh my lg rw ld room : Nat) (bF : Nat → Int32) (yF gF : Nat → Int64) (wF dF : Nat → Nat) (mk mn ms b cap : Nat) (ks : Nat → Int32) (no sl : Nat → Nat) (kn nt : List Nat) (go ge gt k n gw al lw : Nat) (E T : Nat → Nat) (lo kw : Nat) (hM : MInv (kn.map nI) nt cap b ks no sl) (hk4 : k ≤ 4) (hn : n ≤ 16) (hal : al < 2 ^ n) (hT : TInv k n al E T) (hkw : kw ≤ kn.length) (hlo : lo ≤ kw) (hroom : kw ≤ room) (hrb : room ≤ 65536) (hnz : (∀ y ∈ kn, y ≠ 0 ∧ sub y al)) (hbk : BOK (ldS k n E al) k kn bF lo) (hA : ∀ q, sz ≤ q → A q) (hD : va_D A (WW3 K wo mo bh my lg rw ld room bF yF gF wF dF ++ MW3 K mo mk mn ms ((kn.map nI).length) b cap ks no sl)) (hGA : ∀ (k_ : Nat) (q_ : Nat × va_E), (GW K go ge gt k n gw al lw E T)[k_]? = some q_ → ¬ A q_.1) : MetV l K yX8_linkOn wsX8_linkOn (rmX8_linkOn (((lkP (ldS k n E al) k lo (kw - lo) (kn, cap)).2 - cap)) ((8 * ((lkP (ldS k n E al) k lo (kw - lo) (kn, cap)).2 - cap)))) [.ref wo, .ref go, .int (nI lo), .int (nI kw)] (fun H => H.size = sz ∧ va_P K.1 vwCl (WW3 K wo mo bh my lg rw ld room bF yF gF wF dF ++ MW3 K mo mk mn ms ((kn.map nI).length) b cap ks no sl) H ∧ va_P K.1 vwCl (GW K go ge gt k n gw al lw E T) H) A (fun H => ∃ bF' mk' mn' ms' b' ks' no' sl' nt', MInv ((lkP (ldS k n E al) k lo (kw - lo) (kn, cap)).1.map nI) nt' (lkP (ldS k n E al) k lo (kw - lo) (kn, cap)).2 b' ks' no' sl' ∧ BOK (ldS k n E al) k (lkP (ldS k n E al) k lo (kw - lo) (kn, cap)).1 bF' kw ∧ (∀ y ∈ (lkP (ldS k n E al) k lo (kw - lo) (kn, cap)).1, y ≠ 0 ∧ sub y al) ∧ va_P K.1 vwCl (WW3 K wo mo bh my lg rw ld room bF' yF gF wF dF ++ MW3 K mo mk' mn' ms' ((lkP (ldS k n E al) k lo (kw - lo) (kn, cap)).1.map nI).length b' (lkP (ldS k n E al) k lo (kw - lo) (kn, cap)).2 ks' no' sl') H ∧ va_D A (WW3 K wo mo bh my lg rw ld room bF' yF gF wF dF ++ MW3 K mo mk' mn' ms' ((lkP (ldS k n E al) k lo (kw - lo) (kn, cap)).1.map nI).length b' (lkP (ldS k n E al) k lo (kw - lo) (kn, cap)).2 ks' no' sl')) ((lkP (ldS k n E al) k lo (kw - lo) (kn, cap)).2 - cap) (8 * ((lkP (ldS k n E al) k lo (kw - lo) (kn, cap)).2 - cap)) := by
  refine metV_of (cc := cX8_linkOn) (maxL := 8) (by decide) rfl rfl rfl (Nat.le_of_ble_eq_true rfl) ?_
  intro p e s m args below meth c Q ls hEnt hin hKK hX hret hl
  obtain ⟨hx, hb, hml, hown, hts⟩ := hEnt
  obtain ⟨hsz0, hX⟩ := hX
  have hA : ∀ q, s.heap.size ≤ q → A q := fun q h => hA q (hsz0 ▸ h)
  obtain ⟨hP, hG⟩ := hX
  have hP : va_P K.1 vwCl (WW3 K wo mo bh my lg rw ld room bF yF gF wF dF ++ MW3 K mo mk mn ms ((kn.map nI).length) b cap ks no sl) s.heap := hP
  have hG : va_P K.1 vwCl (GW K go ge gt k n gw al lw E T) s.heap := hG
  have hl : lv_has ls 8 [(0, .ref wo), (1, .ref go), (2, .int (nI lo)), (3, .int (nI kw))] := hl
  have hS : va_S A s.heap s.heap [] := va_S.rf
  have pa : 2 ^ n ≤ 65536 := Nat.le_trans (Nat.pow_le_pow_right (by decide) hn) (by decide)
  refine lv_iload_n hx hb (pc := 0) dX8_linkOn_0 rfl (lv_at hl 2 rfl) ?_
  refine lv_istore (lv' := [(4, .int (nI lo)), (0, .ref wo), (1, .ref go), (2, .int (nI lo)), (3, .int (nI kw))]) hx hb (pc := 1) dX8_linkOn_1 hl (by decide) rfl (fun ls hl => ?_)
  have L3 : ∀ (fz : Nat) (pl : Nat) (bF1 : Nat → Int32) (kn1 : List Nat) (nt1 : List Nat) (cap1 : Nat) (mk1 : Nat) (mn1 : Nat) (ms1 : Nat) (b1 : Nat) (ks1 : Nat → Int32) (no1 : Nat → Nat) (sl1 : Nat → Nat) (H : Heap) (locs : List Loc) (hP : va_P K.1 vwCl (WW3 K wo mo bh my lg rw ld room bF1 yF gF wF dF ++ MW3 K mo mk1 mn1 ms1 ((kn1.map nI).length) b1 cap1 ks1 no1 sl1) H) (hD : va_D A (WW3 K wo mo bh my lg rw ld room bF1 yF gF wF dF ++ MW3 K mo mk1 mn1 ms1 ((kn1.map nI).length) b1 cap1 ks1 no1 sl1)) (hS : va_S A s.heap H locs) (hfz : kw - pl < fz) (hM1 : MInv (kn1.map nI) nt1 cap1 b1 ks1 no1 sl1) (hpl : lo ≤ pl ∧ pl ≤ kw) (hk1 : (∀ y ∈ kn1, y ≠ 0 ∧ sub y al)) (hl1 : kw ≤ kn1.length) (hcc1 : cap ≤ cap1) (he1 : (kn1, cap1) = lkP (ldS k n E al) k lo (pl - lo) (kn, cap)) (hb1 : BOK (ldS k n E al) k kn1 bF1 pl) (ls : Array Slot) (hl : lv_has ls 8 [(0, .ref wo), (1, .ref go), (3, .int (nI kw)), (4, .int (nI pl))]), W p l e (rmX8_linkOn (((lkP (ldS k n E al) k lo (kw - lo) (kn, cap)).2 - cap)) ((8 * ((lkP (ldS k n E al) k lo (kw - lo) (kn, cap)).2 - cap)))) s m args below meth c H locs (cap1 - cap) (8 * (cap1 - cap)) Q (F0 m 3 ls []) := by
    intro fz; induction fz with
    | zero => intro pl bF1 kn1 nt1 cap1 mk1 mn1 ms1 b1 ks1 no1 sl1 H locs hP hD hS hfz hM1 hpl hk1 hl1 hcc1 he1 hb1 ls hl; exact absurd hfz (Nat.not_lt_zero _)
    | succ fz ih3 =>
      intro pl bF1 kn1 nt1 cap1 mk1 mn1 ms1 b1 ks1 no1 sl1 H locs hP hD hS hfz hM1 hpl hk1 hl1 hcc1 he1 hb1 ls hl
      have hlm1 : (kn1.map nI).length = kn1.length := List.length_map _
      have hcF1 : cap1 ≤ (lkP (ldS k n E al) k lo (kw - lo) (kn, cap)).2 := by
        have h := (lkP_mono (ldS k n E al) k lo (kn, cap) (show pl - lo ≤ kw - lo by omega)).1
        rw [← he1] at h
        exact h
      have hcell : cap1 - cap ≤ (lkP (ldS k n E al) k lo (kw - lo) (kn, cap)).2 - cap := by omega
      have hslot : 8 * (cap1 - cap) ≤ 8 * ((lkP (ldS k n E al) k lo (kw - lo) (kn, cap)).2 - cap) := by omega
      refine lv_iload hx hb (pc := 3) dX8_linkOn_3 (lv_at hl 3 rfl) ?_
      refine lv_iload_n hx hb (pc := 5) dX8_linkOn_5 rfl (lv_at hl 2 rfl) ?_
      refine nv_icmp_ge (a := pl) (b := kw) (tgt := 84) hx hb (pc := 6) dX8_linkOn_6 (by decide) (by omega) (by omega) (fun c6 => ?_) (fun c6 => ?_)
      · obtain rfl : pl = kw := by omega
        have hR : (lkP (ldS k n E al) k lo (pl - lo) (kn, cap)) = (kn1, cap1) := he1.symm
        exact hret _ _ (cap1 - cap) (8 * (cap1 - cap)) 84 _ dX8_linkOn_84 (by rw [hR]; exact Nat.le_refl _) (by rw [hR]; exact Nat.le_refl _) hS (⟨bF1, mk1, mn1, ms1, b1, ks1, no1, sl1, nt1, by rw [hR]; exact hM1, by rw [hR]; exact hb1, by rw [hR]; exact hk1, by rw [hR]; exact hP, by rw [hR]; exact hD⟩)
      · have hplk : pl < kn1.length := by omega
        have hkp : (kn1.getD pl 0) ≠ 0 ∧ sub (kn1.getD pl 0) al := hk1 _ (by rw [getD_lt hplk]; exact List.getElem_mem _)
        have hk16 : (kn1.getD pl 0) < 65536 := Nat.lt_of_le_of_lt (sub_le hkp.2) (by omega)
        have hkey1 : ks1 pl = nI (kn1.getD pl 0) := ks_map hM1 hplk
        refine lv_aload_n hx hb (pc := 9) dX8_linkOn_9 rfl (lv_at hl 0 rfl) ?_
        refine va_get (v := .ref mo) hx hb hts (inX8_linkOn_8) hown hKK.1 hP 0 rfl rfl 0 (by decide) (hts _ (List.mem_of_getElem? (i := 1) (by decide +kernel))) (fun _ h9 => h9) rfl (pc := 10) dX8_linkOn_10 ?_
        refine lv_iload hx hb (pc := 13) dX8_linkOn_13 (lv_at hl 3 rfl) ?_
        refine rr_callP (rv := .int (ks1 pl)) (pc := 15) (va_runV (As := [.int (nI pl)]) (rest := []) ⟨hx, hb, hml, hown, hts⟩ (c_X3_keyAt l K mo mk1 mn1 ms1 b1 cap1 ks1 no1 sl1 (kn1.map nI) nt1 pl hM1 (by omega)) (cwV 1 hts gX8_linkOn_X3_keyAt rfl rfl rfl (by decide +kernel) ⟨Nat.le_of_ble_eq_true rfl, Nat.le_of_ble_eq_true rfl⟩) (rr_preV hKK (rr_right hP) (va_recv hKK.1 hP (ci := 3) (q0 := 6) rfl rfl)) rfl rfl hl.1 rfl (lv_room (Nat.le_of_ble_eq_true rfl)) dX8_linkOn_15 ⟨hcell, hslot⟩) ?_
        refine rr_top (v := .int (nI ((kn1.getD pl 0)))) (by rw [hkey1]) ?_
        refine lv_istore (lv' := [(5, .int (nI ((kn1.getD pl 0)))), (0, .ref wo), (1, .ref go), (3, .int (nI kw)), (4, .int (nI pl))]) hx hb (pc := 18) dX8_linkOn_18 hl (by decide) rfl (fun ls hl => ?_)
        refine lv_iconst (v := nI 0) hx hb (pc := 20) dX8_linkOn_20 (by decide) ?_
        refine lv_istore (lv' := [(6, .int (nI 0)), (5, .int (nI ((kn1.getD pl 0)))), (0, .ref wo), (1, .ref go), (3, .int (nI kw)), (4, .int (nI pl))]) hx hb (pc := 21) dX8_linkOn_21 hl (by decide) rfl (fun ls hl => ?_)
        have L23 : ∀ (fz : Nat) (le : Nat) (bF2 : Nat → Int32) (kn2 : List Nat) (nt2 : List Nat) (cap2 : Nat) (mk2 : Nat) (mn2 : Nat) (ms2 : Nat) (b2 : Nat) (ks2 : Nat → Int32) (no2 : Nat → Nat) (sl2 : Nat → Nat) (H : Heap) (locs : List Loc) (hP : va_P K.1 vwCl (WW3 K wo mo bh my lg rw ld room bF2 yF gF wF dF ++ MW3 K mo mk2 mn2 ms2 ((kn2.map nI).length) b2 cap2 ks2 no2 sl2) H) (hD : va_D A (WW3 K wo mo bh my lg rw ld room bF2 yF gF wF dF ++ MW3 K mo mk2 mn2 ms2 ((kn2.map nI).length) b2 cap2 ks2 no2 sl2)) (hS : va_S A s.heap H locs) (hfz : k - le < fz) (hM2 : MInv (kn2.map nI) nt2 cap2 b2 ks2 no2 sl2) (hle : le ≤ k) (hk2 : (∀ y ∈ kn2, y ≠ 0 ∧ sub y al)) (hl2 : kw ≤ kn2.length) (hcc2 : cap1 ≤ cap2) (he2 : (kn2, cap2) = lkY (ldS k n E al) (kn1.getD pl 0) le (kn1, cap1)) (hb2 : BOK (ldS k n E al) k kn2 bF2 pl) (hc2 : ∀ y, y < le → BK1 (ldS k n E al) kn2 bF2 pl y) (hky2 : kn2.getD pl 0 = (kn1.getD pl 0)) (ls : Array Slot) (hl : lv_has ls 8 [(0, .ref wo), (1, .ref go), (3, .int (nI kw)), (4, .int (nI pl)), (5, .int (nI ((kn1.getD pl 0)))), (6, .int (nI le))]), W p l e (rmX8_linkOn (((lkP (ldS k n E al) k lo (kw - lo) (kn, cap)).2 - cap)) ((8 * ((lkP (ldS k n E al) k lo (kw - lo) (kn, cap)).2 - cap)))) s m args below meth c H locs (cap2 - cap) (8 * (cap2 - cap)) Q (F0 m 23 ls []) := by
          intro fz; induction fz with
          | zero => intro le bF2 kn2 nt2 cap2 mk2 mn2 ms2 b2 ks2 no2 sl2 H locs hP hD hS hfz hM2 hle hk2 hl2 hcc2 he2 hb2 hc2 hky2 ls hl; exact absurd hfz (Nat.not_lt_zero _)
          | succ fz ih23 =>
            intro le bF2 kn2 nt2 cap2 mk2 mn2 ms2 b2 ks2 no2 sl2 H locs hP hD hS hfz hM2 hle hk2 hl2 hcc2 he2 hb2 hc2 hky2 ls hl
            have hlm2 : (kn2.map nI).length = kn2.length := List.length_map _
            have hcF2 : cap2 ≤ (lkP (ldS k n E al) k lo (kw - lo) (kn, cap)).2 := lk_in (z := (kn2, cap2)) he1 (by rw [show lo + (pl - lo) = pl by omega]; exact he2) hle (by omega)
            have hcell : cap2 - cap ≤ (lkP (ldS k n E al) k lo (kw - lo) (kn, cap)).2 - cap := by omega
            have hslot : 8 * (cap2 - cap) ≤ 8 * ((lkP (ldS k n E al) k lo (kw - lo) (kn, cap)).2 - cap) := by omega
            refine lv_iload hx hb (pc := 23) dX8_linkOn_23 (lv_at hl 5 rfl) ?_
            refine lv_aload_n hx hb (pc := 25) dX8_linkOn_25 rfl (lv_at hl 1 rfl) ?_
            refine va_get (v := .int (nI k)) hx hb hts (inX8_linkOn_1) hown hKK.1 (rr_ro (A := A) hG hGA hS) 0 rfl rfl 0 (by decide) (hts _ (List.mem_of_getElem? (i := 2) (by decide +kernel))) (fun _ h9 => h9) rfl (pc := 26) dX8_linkOn_26 ?_
            refine nv_icmp_ge (a := le) (b := k) (tgt := 78) hx hb (pc := 29) dX8_linkOn_29 (by decide) (by omega) (by omega) (fun c29 => ?_) (fun c29 => ?_)
            · refine lv_iinc (v := nI (pl + 1)) (lv' := [(4, .int (nI (pl + 1))), (0, .ref wo), (1, .ref go), (3, .int (nI kw)), (5, .int (nI ((kn1.getD pl 0)))), (6, .int (nI le))]) hx hb (pc := 78) dX8_linkOn_78 hl (k := 3) rfl (rr_inc _) (by decide) rfl (fun ls hl => ?_)
              refine lv_goto (tgt := 3) hx hb (pc := 81) dX8_linkOn_81 (by decide) ?_
              obtain rfl : le = k := by omega
              have hb4 : BOK (ldS le n E al) le kn2 bF2 (pl + 1) := fun q hq y hy => by
                rcases Nat.lt_or_ge q pl with q9 | q9
                · exact hb2 q q9 y hy
                · have e9 : q = pl := by omega
                  rw [e9]
                  exact hc2 y hy
              exact ih3 (pl + 1) bF2 kn2 nt2 cap2 mk2 mn2 ms2 b2 ks2 no2 sl2 _ _ hP hD hS (by omega) (hM2) (by omega) (hk2) (hl2) (by omega) (by rw [he2, show pl + 1 - lo = (pl - lo) + 1 by omega, lkP_succ, ← he1, show lo + (pl - lo) = pl by omega]) (hb4) ls (lv_sub hl [1, 2, 3, 0] rfl)
            · have hst := c_X1_step l K go ge gt k n gw al lw E T (kn1.getD pl 0) le hk16 (by omega) hk4
              rw [stp_eq hT hn hkp.2 hal] at hst
              have hto16 : (ldS k n E al (kn1.getD pl 0) le) < 65536 := Nat.lt_of_le_of_lt (sub_le (ldS_sub _ _ _ _ _ _)) (by omega)
              refine lv_aload_n hx hb (pc := 32) dX8_linkOn_32 rfl (lv_at hl 1 rfl) ?_
              refine lv_iload hx hb (pc := 33) dX8_linkOn_33 (lv_at hl 4 rfl) ?_
              refine lv_iload hx hb (pc := 35) dX8_linkOn_35 (lv_at hl 5 rfl) ?_
              refine rr_callP (rv := .int (nI ((ldS k n E al (kn1.getD pl 0) le)))) (pc := 37) (va_runV (As := [.int (nI ((kn1.getD pl 0))), .int (nI le)]) (rest := []) ⟨hx, hb, hml, hown, hts⟩ (hst) (cwV 2 hts gX8_linkOn_X1_step rfl rfl rfl (by decide +kernel) ⟨Nat.le_of_ble_eq_true rfl, Nat.le_of_ble_eq_true rfl⟩) (rr_preV hKK ((rr_ro (A := A) hG hGA hS)) (va_recv hKK.1 (rr_ro (A := A) hG hGA hS) (ci := 1) (q0 := 0) rfl rfl)) rfl rfl hl.1 rfl (lv_room (Nat.le_of_ble_eq_true rfl)) dX8_linkOn_37 ⟨hcell, hslot⟩) ?_
              refine lv_istore (lv' := [(7, .int (nI ((ldS k n E al (kn1.getD pl 0) le)))), (0, .ref wo), (1, .ref go), (3, .int (nI kw)), (4, .int (nI pl)), (5, .int (nI ((kn1.getD pl 0)))), (6, .int (nI le))]) hx hb (pc := 40) dX8_linkOn_40 hl (by decide) rfl (fun ls hl => ?_)
              refine lv_aload_n hx hb (pc := 42) dX8_linkOn_42 rfl (lv_at hl 1 rfl) ?_
              refine va_get (v := .ref bh) hx hb hts (inX8_linkOn_8) hown hKK.1 hP 0 rfl rfl 1 (by decide) (hts _ (List.mem_of_getElem? (i := 3) (by decide +kernel))) (fun _ h9 => h9) rfl (pc := 43) dX8_linkOn_43 ?_
              refine lv_iload hx hb (pc := 46) dX8_linkOn_46 (lv_at hl 4 rfl) ?_
              refine lv_iconst (v := nI 4) hx hb (pc := 48) dX8_linkOn_48 (by decide) ?_
              refine nv_imul (a := pl) (b := 4) hx hb (pc := 49) dX8_linkOn_49 ?_
              refine lv_iload hx hb (pc := 50) dX8_linkOn_50 (lv_at hl 6 rfl) ?_
              refine nv_iadd (a := (pl * 4)) (b := le) hx hb (pc := 52) dX8_linkOn_52 ?_
              refine lv_iload hx hb (pc := 53) dX8_linkOn_53 (lv_at hl 0 rfl) ?_
              refine nv_if_ne (a := (ldS k n E al (kn1.getD pl 0) le)) (tgt := 62) hx hb (pc := 55) dX8_linkOn_55 (by decide) (by omega) (fun c55 => ?_) (fun c55 => ?_)
              · have hk32 : ∀ y ∈ kn2, y < 2 ^ 32 := fun y hy => by have := sub_le (hk2 y hy).2; omega
                have hroom2 := kn_room hM2 (fun y hy => ⟨(hk2 y hy).1, by have := sub_le (hk2 y hy).2; omega⟩)
                have hcl : capN cap2 (kn2.map nI).length = capN cap2 kn2.length := by rw [hlm2]
                have hal2 := adK_len kn2 (ldS k n E al (kn1.getD pl 0) le)
                have hcN := capN_le cap2 kn2.length
                have hidx := adK_idx kn2 (ldS k n E al (kn1.getD pl 0) le)
                have he3 : ((adK kn2 (ldS k n E al (kn1.getD pl 0) le)), capN cap2 kn2.length) = lkY (ldS k n E al) (kn1.getD pl 0) (le + 1) (kn1, cap1) := by rw [lkY_succ, ← he2, lk1, if_neg c55]
                have hcF3 : capN cap2 kn2.length ≤ (lkP (ldS k n E al) k lo (kw - lo) (kn, cap)).2 := lk_in (z := ((adK kn2 (ldS k n E al (kn1.getD pl 0) le)), capN cap2 kn2.length)) he1 (by rw [show lo + (pl - lo) = pl by omega]; exact he3) (by omega) (by omega)
                refine lv_aload_n hx hb (pc := 62) dX8_linkOn_62 rfl (lv_at hl 1 rfl) ?_
                refine va_get (v := .ref mo) hx hb hts (inX8_linkOn_8) hown hKK.1 hP 0 rfl rfl 0 (by decide) (hts _ (List.mem_of_getElem? (i := 1) (by decide +kernel))) (fun _ h9 => h9) rfl (pc := 63) dX8_linkOn_63 ?_
                refine lv_iload hx hb (pc := 66) dX8_linkOn_66 (lv_at hl 0 rfl) ?_
                have hPc := hP.sub (ws' := MW3 K mo mk2 mn2 ms2 ((kn2.map nI).length) b2 cap2 ks2 no2 sl2) [6, 7, 8, 9] rfl
                have hDc := (hD.sub (ws' := MW3 K mo mk2 mn2 ms2 ((kn2.map nI).length) b2 cap2 ks2 no2 sl2) [6, 7, 8, 9] (by decide) rfl).self (sz := H.size)
                have hFc := va_free (wc := MW3 K mo mk2 mn2 ms2 ((kn2.map nI).length) b2 cap2 ks2 no2 sl2) hD hS hA [6, 7, 8, 9] rfl
                refine rr_callR (pc := 68) (va_runV (As := [.int (nI ((ldS k n E al (kn1.getD pl 0) le)))]) (rest := [.int (nI ((pl * 4) + le)), .ref bh]) ⟨hx, hb, hml, hown, hts⟩ (c_X3_placeOf l K (va_A (MW3 K mo mk2 mn2 ms2 ((kn2.map nI).length) b2 cap2 ks2 no2 sl2) H.size) H.size mo mk2 mn2 ms2 b2 cap2 ks2 no2 sl2 (kn2.map nI) nt2 (nI (ldS k n E al (kn1.getD pl 0) le)) hM2 (by omega) (fun q h => Or.inr h) hDc) (cwV 1 hts gX8_linkOn_X3_placeOf rfl rfl rfl (by decide +kernel) ⟨Nat.le_of_ble_eq_true rfl, Nat.le_of_ble_eq_true rfl⟩) (rr_preV hKK (⟨rfl, hPc⟩) (va_recv hKK.1 hP (ci := 3) (q0 := 6) rfl rfl)) rfl rfl hl.1 rfl (lv_room (Nat.le_of_ble_eq_true rfl)) dX8_linkOn_68 ⟨by show cap2 - cap + (capN cap2 (kn2.map nI).length - cap2) ≤ (lkP (ldS k n E al) k lo (kw - lo) (kn, cap)).2 - cap; omega, by show 8 * (cap2 - cap) + 8 * (capN cap2 (kn2.map nI).length - cap2) ≤ 8 * ((lkP (ldS k n E al) k lo (kw - lo) (kn, cap)).2 - cap); omega⟩) hS (hFc) (fun v H locs hY hsz hfr hS => ?_)
                obtain ⟨mk3, mn3, ms3, b3, ks3, no3, sl3, hM3, hP1, hD1, rfl⟩ := hY
                rw [plK_map hk32 (by omega), plN_map hk32 (by omega), hcl] at hM3
                rw [plK_map hk32 (by omega), hcl] at hP1 hD1
                rw [idx_map hk32 (by omega)]
                obtain ⟨hP, hD⟩ := va_join (wr := [(wo, .inr (8, [.ref mo, .ref bh, .ref my, .ref lg, .ref rw, .ref ld])), (bh, .inl (K.2.1, 4 * room, .inl (bF2))), (my, .inl (K.2.2.1, room, .inr (.inl (yF)))), (lg, .inl (K.2.2.1, room, .inr (.inl (gF)))), (rw, .inl (K.2.1, 7, .inl (fun j => nI (wF j)))), (ld, .inl (K.2.1, 8, .inl (fun j => nI (dF j))))]) (w1 := [(mo, .inr (3, [.int (nI (((adK kn2 (ldS k n E al (kn1.getD pl 0) le)).map nI).length)), .ref mk3, .ref mn3, .ref ms3, .int (nI b3)])), (mk3, .inl (K.2.1, (capN cap2 kn2.length), .inl (ks3))), (mn3, .inl (K.2.1, (capN cap2 kn2.length), .inl (fun j => nI (no3 j)))), (ms3, .inl (K.2.1, 2 * (capN cap2 kn2.length), .inl (fun j => nI (sl3 j))))]) hP hD [6, 7, 8, 9] [0, 1, 2, 3, 4, 5] rfl rfl (by decide) (by decide) hfr hFc hP1 hD1
                have hP : va_P K.1 vwCl ([(wo, .inr (8, [.ref mo, .ref bh, .ref my, .ref lg, .ref rw, .ref ld])), (bh, .inl (K.2.1, 4 * room, .inl (bF2))), (my, .inl (K.2.2.1, room, .inr (.inl (yF)))), (lg, .inl (K.2.2.1, room, .inr (.inl (gF)))), (rw, .inl (K.2.1, 7, .inl (fun j => nI (wF j)))), (ld, .inl (K.2.1, 8, .inl (fun j => nI (dF j)))), (mo, .inr (3, [.int (nI (((adK kn2 (ldS k n E al (kn1.getD pl 0) le)).map nI).length)), .ref mk3, .ref mn3, .ref ms3, .int (nI b3)])), (mk3, .inl (K.2.1, (capN cap2 kn2.length), .inl (ks3))), (mn3, .inl (K.2.1, (capN cap2 kn2.length), .inl (fun j => nI (no3 j)))), (ms3, .inl (K.2.1, 2 * (capN cap2 kn2.length), .inl (fun j => nI (sl3 j))))]) H := hP
                have hD : va_D A ([(wo, .inr (8, [.ref mo, .ref bh, .ref my, .ref lg, .ref rw, .ref ld])), (bh, .inl (K.2.1, 4 * room, .inl (bF2))), (my, .inl (K.2.2.1, room, .inr (.inl (yF)))), (lg, .inl (K.2.2.1, room, .inr (.inl (gF)))), (rw, .inl (K.2.1, 7, .inl (fun j => nI (wF j)))), (ld, .inl (K.2.1, 8, .inl (fun j => nI (dF j)))), (mo, .inr (3, [.int (nI (((adK kn2 (ldS k n E al (kn1.getD pl 0) le)).map nI).length)), .ref mk3, .ref mn3, .ref ms3, .int (nI b3)])), (mk3, .inl (K.2.1, (capN cap2 kn2.length), .inl (ks3))), (mn3, .inl (K.2.1, (capN cap2 kn2.length), .inl (fun j => nI (no3 j)))), (ms3, .inl (K.2.1, 2 * (capN cap2 kn2.length), .inl (fun j => nI (sl3 j))))]) := hD
                have hP : va_P K.1 vwCl (WW3 K wo mo bh my lg rw ld room bF2 yF gF wF dF ++ MW3 K mo mk3 mn3 ms3 (((adK kn2 (ldS k n E al (kn1.getD pl 0) le)).map nI).length) b3 (capN cap2 kn2.length) ks3 no3 sl3) H := hP
                have hD : va_D A (WW3 K wo mo bh my lg rw ld room bF2 yF gF wF dF ++ MW3 K mo mk3 mn3 ms3 (((adK kn2 (ldS k n E al (kn1.getD pl 0) le)).map nI).length) b3 (capN cap2 kn2.length) ks3 no3 sl3) := hD
                refine nv_iastr (f := bF2) (x := (nI (kn2.idxOf (ldS k n E al (kn1.getD pl 0) le)))) (ws' := WW3 K wo mo bh my lg rw ld room (va_up bF2 ((pl * 4) + le) (nI (kn2.idxOf (ldS k n E al (kn1.getD pl 0) le)))) yF gF wF dF ++ MW3 K mo mk3 mn3 ms3 (((adK kn2 (ldS k n E al (kn1.getD pl 0) le)).map nI).length) b3 (capN cap2 kn2.length) ks3 no3 sl3) (i := ((pl * 4) + le)) hx hb hKK hP hD hS 1 rfl (by omega) (by omega) (rfl) (pc := 71) dX8_linkOn_71 (fun H locs hP hD hS => ?_)
                refine W.widen (k := capN cap2 kn2.length - cap) (n := 8 * (capN cap2 kn2.length - cap)) (by omega) (by omega) ?_
                have hc4 : ∀ y, y < le + 1 → BK1 (ldS k n E al) (adK kn2 (ldS k n E al (kn1.getD pl 0) le)) (va_up bF2 (pl * 4 + le) (nI (kn2.idxOf (ldS k n E al (kn1.getD pl 0) le)))) pl y := fun y hy => by
                  rcases Nat.lt_or_ge y le with q9 | q9
                  · exact BK1_put (by omega) (BK1_grow (by omega) (hc2 y q9))
                  · have e9 : y = le := by omega
                    rw [e9]
                    have h9 := BK1_yes (sb := (ldS k n E al)) (kn := kn2) (bF := bF2) (q := pl) (y := le) (by omega) (by rw [hky2]; exact c55)
                    rw [hky2] at h9
                    exact h9
                refine lv_iinc (v := nI (le + 1)) (lv' := [(6, .int (nI (le + 1))), (7, .int (nI ((ldS k n E al (kn1.getD pl 0) le)))), (0, .ref wo), (1, .ref go), (3, .int (nI kw)), (4, .int (nI pl)), (5, .int (nI ((kn1.getD pl 0))))]) hx hb (pc := 72) dX8_linkOn_72 hl (k := 6) rfl (rr_inc _) (by decide) rfl (fun ls hl => ?_)
                refine lv_goto (tgt := 23) hx hb (pc := 75) dX8_linkOn_75 (by decide) ?_
                exact ih23 (le + 1) (va_up bF2 (pl * 4 + le) (nI (kn2.idxOf (ldS k n E al (kn1.getD pl 0) le)))) (adK kn2 (ldS k n E al (kn1.getD pl 0) le)) (adN kn2 nt2 (ldS k n E al (kn1.getD pl 0) le) 0) (capN cap2 kn2.length) mk3 mn3 ms3 b3 ks3 no3 sl3 _ _ hP hD hS (by omega) (hM3) (by omega) (adK_all hk2 ⟨c55, ldS_sub _ _ _ _ _ _⟩) (by omega) (by omega) (he3) (fun q hq y hy => BK1_put (by omega) (BK1_grow (by omega) (hb2 q hq y hy))) (hc4) ((adK_getD (by omega)).trans hky2) ls (lv_sub hl [2, 3, 4, 5, 6, 0] rfl)
              · refine lv_iconst (v := -1) hx hb (pc := 58) dX8_linkOn_58 (by decide) ?_
                refine lv_goto (tgt := 71) hx hb (pc := 59) dX8_linkOn_59 (by decide) ?_
                refine nv_iastr (f := bF2) (x := (-1)) (ws' := WW3 K wo mo bh my lg rw ld room (va_up bF2 ((pl * 4) + le) (-1)) yF gF wF dF ++ MW3 K mo mk2 mn2 ms2 ((kn2.map nI).length) b2 cap2 ks2 no2 sl2) (i := ((pl * 4) + le)) hx hb hKK hP hD hS 1 rfl (by omega) (by omega) (rfl) (pc := 71) dX8_linkOn_71 (fun H locs hP hD hS => ?_)
                have hc4 : ∀ y, y < le + 1 → BK1 (ldS k n E al) kn2 (va_up bF2 (pl * 4 + le) (-1)) pl y := fun y hy => by
                  rcases Nat.lt_or_ge y le with q9 | q9
                  · exact BK1_put (by omega) (hc2 y q9)
                  · have e9 : y = le := by omega
                    rw [e9]
                    exact BK1_no (by rw [hky2]; exact c55)
                refine lv_iinc (v := nI (le + 1)) (lv' := [(6, .int (nI (le + 1))), (7, .int (nI ((ldS k n E al (kn1.getD pl 0) le)))), (0, .ref wo), (1, .ref go), (3, .int (nI kw)), (4, .int (nI pl)), (5, .int (nI ((kn1.getD pl 0))))]) hx hb (pc := 72) dX8_linkOn_72 hl (k := 6) rfl (rr_inc _) (by decide) rfl (fun ls hl => ?_)
                refine lv_goto (tgt := 23) hx hb (pc := 75) dX8_linkOn_75 (by decide) ?_
                exact ih23 (le + 1) (va_up bF2 (pl * 4 + le) (-1)) kn2 nt2 cap2 mk2 mn2 ms2 b2 ks2 no2 sl2 _ _ hP hD hS (by omega) (hM2) (by omega) (hk2) (hl2) (hcc2) (by rw [lkY_succ, ← he2, lk1, if_pos c55]) (fun q hq y hy => BK1_put (by omega) (hb2 q hq y hy)) (hc4) (hky2) ls (lv_sub hl [2, 3, 4, 5, 6, 0] rfl)
        exact L23 (k + 1) 0 bF1 kn1 nt1 cap1 mk1 mn1 ms1 b1 ks1 no1 sl1 _ _ hP hD hS (by omega) (hM1) (Nat.zero_le _) (hk1) (hl1) (Nat.le_refl _) (rfl) (hb1) (fun y hy => absurd hy (Nat.not_lt_zero _)) (rfl) ls (lv_sub hl [2, 3, 4, 5, 1, 0] rfl)
  refine W.widen (k := cap - cap) (n := 8 * (cap - cap)) (by omega) (by omega) ?_
  exact L3 (kw - lo + 1) lo bF kn nt cap mk mn ms b ks no sl _ _ hP hD hS (by omega) (hM) (⟨Nat.le_refl _, hlo⟩) (hnz) (hkw) (Nat.le_refl _) (by rw [Nat.sub_self]; rfl) (hbk) ls (lv_sub hl [1, 2, 4, 0] rfl)

abbrev rmX8_countLonger : Room := { frames := 0, cells := 0, slots := 0, locals := 0 }
theorem inX8_countLonger_3 : ∀ w ∈ wsX30, w ∈ wsX8_countLonger := fun _ h => List.mem_cons_of_mem _ (List.mem_append_right _ h)
theorem inX8_countLonger_8 : ∀ w ∈ wsX80, w ∈ wsX8_countLonger := fun _ h => List.mem_cons_of_mem _ (List.mem_append_left _ (List.mem_append_right _ h))
set_option maxHeartbeats 4000000 in
set_option maxRecDepth 100000 in
theorem c_X8_countLonger (l : Launch) (K : rr_K) (A : Nat → Prop) (wo mo bh my lg rw ld room : Nat) (bF : Nat → Int32) (yF gF : Nat → Int64) (wF dF : Nat → Nat) (mk mn ms b cap : Nat) (ks : Nat → Int32) (no sl : Nat → Nat) (kn nt : List Nat) (k kw : Nat) (sb : Nat → Nat → Nat) (hM : MInv (kn.map nI) nt cap b ks no sl) (hk4 : k ≤ 4) (hkw : kw ≤ room) (hroom : kn.length ≤ room) (hrb : room ≤ 65536) (hbk : BOK sb k kn bF kw) (hD : va_D A (WW3 K wo mo bh my lg rw ld room bF yF gF wF dF ++ MW3 K mo mk mn ms ((kn.map nI).length) b cap ks no sl)) : MetV l K yX8_countLonger wsX8_countLonger rmX8_countLonger [.ref wo, .int (nI k), .int (nI kw)] (fun H => va_P K.1 vwCl (WW3 K wo mo bh my lg rw ld room bF yF gF wF dF ++ MW3 K mo mk mn ms ((kn.map nI).length) b cap ks no sl) H) A (fun H => ∃ gF' : Nat → Int64, (∀ W : Nat → Int64, sL kn.length (fun i => gF' i * W (kn.getD i 0)) = sL kw (fun j => yF j * nx sb k W (kn.getD j 0))) ∧ va_P K.1 vwCl (WW3 K wo mo bh lg my rw ld room bF gF' yF wF dF ++ MW3 K mo mk mn ms (kn.map nI).length b cap ks no sl) H ∧ va_D A (WW3 K wo mo bh lg my rw ld room bF gF' yF wF dF ++ MW3 K mo mk mn ms (kn.map nI).length b cap ks no sl)) 0 0 := by
  refine metV_of (cc := cX8_countLonger) (maxL := 8) (by decide) rfl rfl rfl (Nat.le_of_ble_eq_true rfl) ?_
  intro p e s m args below meth c Q ls hEnt hin hKK hX hret hl
  obtain ⟨hx, hb, hml, hown, hts⟩ := hEnt
  have hP : va_P K.1 vwCl (WW3 K wo mo bh my lg rw ld room bF yF gF wF dF ++ MW3 K mo mk mn ms ((kn.map nI).length) b cap ks no sl) s.heap := hX
  have hl : lv_has ls 8 [(0, .ref wo), (1, .int (nI k)), (2, .int (nI kw))] := hl
  have hS : va_S A s.heap s.heap [] := va_S.rf
  have hlm : (kn.map nI).length = kn.length := List.length_map _
  refine lv_iconst (v := nI 0) hx hb (pc := 0) dX8_countLonger_0 (by decide) ?_
  refine lv_istore_n (lv' := [(3, .int (nI 0)), (0, .ref wo), (1, .int (nI k)), (2, .int (nI kw))]) hx hb (pc := 1) dX8_countLonger_1 rfl hl (by decide) rfl (fun ls hl => ?_)
  have L2 : ∀ (fz : Nat) (i : Nat) (gF1 : Nat → Int64) (H : Heap) (locs : List Loc) (hP : va_P K.1 vwCl (WW3 K wo mo bh my lg rw ld room bF yF gF1 wF dF ++ MW3 K mo mk mn ms ((kn.map nI).length) b cap ks no sl) H) (hD : va_D A (WW3 K wo mo bh my lg rw ld room bF yF gF1 wF dF ++ MW3 K mo mk mn ms ((kn.map nI).length) b cap ks no sl)) (hS : va_S A s.heap H locs) (hfz : kn.length - i < fz) (hi : i ≤ kn.length) (hz1 : ∀ j, j < i → gF1 j = 0) (ls : Array Slot) (hl : lv_has ls 8 [(0, .ref wo), (1, .int (nI k)), (2, .int (nI kw)), (3, .int (nI i))]), W p l e rmX8_countLonger s m args below meth c H locs 0 0 Q (F0 m 2 ls []) := by
    intro fz; induction fz with
    | zero => intro i gF1 H locs hP hD hS hfz hi hz1 ls hl; exact absurd hfz (Nat.not_lt_zero _)
    | succ fz ih2 =>
      intro i gF1 H locs hP hD hS hfz hi hz1 ls hl
      refine lv_iload_n hx hb (pc := 2) dX8_countLonger_2 rfl (lv_at hl 3 rfl) ?_
      refine lv_aload_n hx hb (pc := 3) dX8_countLonger_3 rfl (lv_at hl 0 rfl) ?_
      refine va_get (v := .ref mo) hx hb hts (inX8_countLonger_8) hown hKK.1 hP 0 rfl rfl 0 (by decide) (hts _ (List.mem_of_getElem? (i := 1) (by decide +kernel))) (fun _ h9 => h9) rfl (pc := 4) dX8_countLonger_4 ?_
      refine va_get (v := .int (nI ((kn.map nI).length))) hx hb hts (inX8_countLonger_3) hown hKK.1 hP 6 rfl rfl 0 (by decide) (hts _ (List.mem_of_getElem? (i := 2) (by decide +kernel))) (fun _ h9 => h9) rfl (pc := 7) dX8_countLonger_7 ?_
      refine nv_icmp_ge (a := i) (b := ((kn.map nI).length)) (tgt := 26) hx hb (pc := 10) dX8_countLonger_10 (by decide) (by omega) (by omega) (fun c10 => ?_) (fun c10 => ?_)
      · refine lv_iconst (v := nI 0) hx hb (pc := 26) dX8_countLonger_26 (by decide) ?_
        refine lv_istore_n (lv' := [(3, .int (nI 0)), (0, .ref wo), (1, .int (nI k)), (2, .int (nI kw))]) hx hb (pc := 27) dX8_countLonger_27 rfl hl (by decide) rfl (fun ls hl => ?_)
        have L28 : ∀ (fz : Nat) (q : Nat) (gF2 : Nat → Int64) (H : Heap) (locs : List Loc) (hP : va_P K.1 vwCl (WW3 K wo mo bh my lg rw ld room bF yF gF2 wF dF ++ MW3 K mo mk mn ms ((kn.map nI).length) b cap ks no sl) H) (hD : va_D A (WW3 K wo mo bh my lg rw ld room bF yF gF2 wF dF ++ MW3 K mo mk mn ms ((kn.map nI).length) b cap ks no sl)) (hS : va_S A s.heap H locs) (hfz : kw - q < fz) (hq : q ≤ kw) (hS2 : ∀ W : Nat → Int64, sL kn.length (fun i => gF2 i * W (kn.getD i 0)) = sL q (fun j => yF j * nx sb k W (kn.getD j 0))) (ls : Array Slot) (hl : lv_has ls 8 [(0, .ref wo), (1, .int (nI k)), (2, .int (nI kw)), (3, .int (nI q))]), W p l e rmX8_countLonger s m args below meth c H locs 0 0 Q (F0 m 28 ls []) := by
          intro fz; induction fz with
          | zero => intro q gF2 H locs hP hD hS hfz hq hS2 ls hl; exact absurd hfz (Nat.not_lt_zero _)
          | succ fz ih28 =>
            intro q gF2 H locs hP hD hS hfz hq hS2 ls hl
            refine lv_iload_n hx hb (pc := 28) dX8_countLonger_28 rfl (lv_at hl 3 rfl) ?_
            refine lv_iload_n hx hb (pc := 29) dX8_countLonger_29 rfl (lv_at hl 2 rfl) ?_
            refine nv_icmp_ge (a := q) (b := kw) (tgt := 99) hx hb (pc := 30) dX8_countLonger_30 (by decide) (by omega) (by omega) (fun c30 => ?_) (fun c30 => ?_)
            · have hP : va_P K.1 vwCl [(wo, .inr (8, [.ref mo, .ref bh, .ref my, .ref lg, .ref rw, .ref ld])), (bh, .inl (K.2.1, 4 * room, .inl (bF))), (my, .inl (K.2.2.1, room, .inr (.inl (yF)))), (lg, .inl (K.2.2.1, room, .inr (.inl (gF2)))), (rw, .inl (K.2.1, 7, .inl (fun j => nI (wF j)))), (ld, .inl (K.2.1, 8, .inl (fun j => nI (dF j)))), (mo, .inr (3, [.int (nI ((kn.map nI).length)), .ref mk, .ref mn, .ref ms, .int (nI b)])), (mk, .inl (K.2.1, cap, .inl (ks))), (mn, .inl (K.2.1, cap, .inl (fun j => nI (no j)))), (ms, .inl (K.2.1, 2 * cap, .inl (fun j => nI (sl j))))] H := hP
              have hD : va_D A [(wo, .inr (8, [.ref mo, .ref bh, .ref my, .ref lg, .ref rw, .ref ld])), (bh, .inl (K.2.1, 4 * room, .inl (bF))), (my, .inl (K.2.2.1, room, .inr (.inl (yF)))), (lg, .inl (K.2.2.1, room, .inr (.inl (gF2)))), (rw, .inl (K.2.1, 7, .inl (fun j => nI (wF j)))), (ld, .inl (K.2.1, 8, .inl (fun j => nI (dF j)))), (mo, .inr (3, [.int (nI ((kn.map nI).length)), .ref mk, .ref mn, .ref ms, .int (nI b)])), (mk, .inl (K.2.1, cap, .inl (ks))), (mn, .inl (K.2.1, cap, .inl (fun j => nI (no j)))), (ms, .inl (K.2.1, 2 * cap, .inl (fun j => nI (sl j))))] := hD
              refine lv_aload_n hx hb (pc := 99) dX8_countLonger_99 rfl (lv_at hl 0 rfl) ?_
              refine va_get (v := .ref my) hx hb hts (inX8_countLonger_8) hown hKK.1 hP 0 rfl rfl 2 (by decide) (hts _ (List.mem_of_getElem? (i := 4) (by decide +kernel))) (fun _ h9 => h9) rfl (pc := 100) dX8_countLonger_100 ?_
              refine lv_astore_n (lv' := [(3, .ref my), (0, .ref wo), (1, .int (nI k)), (2, .int (nI kw))]) hx hb (pc := 103) dX8_countLonger_103 rfl hl (by decide) rfl (fun ls hl => ?_)
              refine lv_aload_n hx hb (pc := 104) dX8_countLonger_104 rfl (lv_at hl 1 rfl) ?_
              refine lv_aload_n hx hb (pc := 105) dX8_countLonger_105 rfl (lv_at hl 1 rfl) ?_
              refine va_get (v := .ref lg) hx hb hts (inX8_countLonger_8) hown hKK.1 hP 0 rfl rfl 3 (by decide) (hts _ (List.mem_of_getElem? (i := 3) (by decide +kernel))) (fun _ h9 => h9) rfl (pc := 106) dX8_countLonger_106 ?_
              refine rr_put (v := .ref lg) (ty := tyX8 2) (ws' := [(wo, .inr (8, [.ref mo, .ref bh, .ref lg, .ref lg, .ref rw, .ref ld])), (bh, .inl (K.2.1, 4 * room, .inl (bF))), (my, .inl (K.2.2.1, room, .inr (.inl (yF)))), (lg, .inl (K.2.2.1, room, .inr (.inl (gF2)))), (rw, .inl (K.2.1, 7, .inl (fun j => nI (wF j)))), (ld, .inl (K.2.1, 8, .inl (fun j => nI (dF j)))), (mo, .inr (3, [.int (nI ((kn.map nI).length)), .ref mk, .ref mn, .ref ms, .int (nI b)])), (mk, .inl (K.2.1, cap, .inl (ks))), (mn, .inl (K.2.1, cap, .inl (fun j => nI (no j)))), (ms, .inl (K.2.1, 2 * cap, .inl (fun j => nI (sl j))))]) hx hb hts (inX8_countLonger_8) tyX8 tyX8_ok nmX8 hown hKK.1 hP hD hS 0 rfl rfl 2 (by decide) (hts _ (List.mem_of_getElem? (i := 4) (by decide +kernel))) (fun _ h9 => h9) rfl (tyX8_ok 2 (by decide)) rfl rfl (Nat.le_of_ble_eq_true rfl) rfl (pc := 109) dX8_countLonger_109 (fun H locs hP hD hS => ?_)
              refine lv_aload_n hx hb (pc := 112) dX8_countLonger_112 rfl (lv_at hl 1 rfl) ?_
              refine lv_aload_n hx hb (pc := 113) dX8_countLonger_113 rfl (lv_at hl 0 rfl) ?_
              refine rr_put (v := .ref my) (ty := tyX8 3) (ws' := [(wo, .inr (8, [.ref mo, .ref bh, .ref lg, .ref my, .ref rw, .ref ld])), (bh, .inl (K.2.1, 4 * room, .inl (bF))), (my, .inl (K.2.2.1, room, .inr (.inl (yF)))), (lg, .inl (K.2.2.1, room, .inr (.inl (gF2)))), (rw, .inl (K.2.1, 7, .inl (fun j => nI (wF j)))), (ld, .inl (K.2.1, 8, .inl (fun j => nI (dF j)))), (mo, .inr (3, [.int (nI ((kn.map nI).length)), .ref mk, .ref mn, .ref ms, .int (nI b)])), (mk, .inl (K.2.1, cap, .inl (ks))), (mn, .inl (K.2.1, cap, .inl (fun j => nI (no j)))), (ms, .inl (K.2.1, 2 * cap, .inl (fun j => nI (sl j))))]) hx hb hts (inX8_countLonger_8) tyX8 tyX8_ok nmX8 hown hKK.1 hP hD hS 0 rfl rfl 3 (by decide) (hts _ (List.mem_of_getElem? (i := 3) (by decide +kernel))) (fun _ h9 => h9) rfl (tyX8_ok 3 (by decide)) rfl rfl (Nat.le_of_ble_eq_true rfl) rfl (pc := 114) dX8_countLonger_114 (fun H locs hP hD hS => ?_)
              have hP : va_P K.1 vwCl (WW3 K wo mo bh lg my rw ld room bF gF2 yF wF dF ++ MW3 K mo mk mn ms ((kn.map nI).length) b cap ks no sl) H := hP.sub [0, 1, 3, 2, 4, 5, 6, 7, 8, 9] rfl
              have hD : va_D A (WW3 K wo mo bh lg my rw ld room bF gF2 yF wF dF ++ MW3 K mo mk mn ms ((kn.map nI).length) b cap ks no sl) := hD.sub [0, 1, 3, 2, 4, 5, 6, 7, 8, 9] (by decide) rfl
              obtain rfl : q = kw := by omega
              exact hret _ _ 0 0 117 _ dX8_countLonger_117 (by omega) (by omega) hS (⟨gF2, hS2, hP, hD⟩)
            · refine lv_aload_n hx hb (pc := 33) dX8_countLonger_33 rfl (lv_at hl 0 rfl) ?_
              refine va_get (v := .ref my) hx hb hts (inX8_countLonger_8) hown hKK.1 hP 0 rfl rfl 2 (by decide) (hts _ (List.mem_of_getElem? (i := 4) (by decide +kernel))) (fun _ h9 => h9) rfl (pc := 34) dX8_countLonger_34 ?_
              refine lv_iload_n hx hb (pc := 37) dX8_countLonger_37 rfl (lv_at hl 3 rfl) ?_
              refine nv_lald (v := yF q) (i := q) hx hb hKK hP 2 rfl (by omega) (by omega) (rfl) (pc := 38) dX8_countLonger_38 ?_
              refine lv_lstore (lv' := [(4, .long (yF q)), (0, .ref wo), (1, .int (nI k)), (2, .int (nI kw)), (3, .int (nI q))]) hx hb (pc := 39) dX8_countLonger_39 hl (by decide) rfl (fun ls hl => ?_)
              refine lv_iconst (v := nI 0) hx hb (pc := 41) dX8_countLonger_41 (by decide) ?_
              refine lv_istore (lv' := [(6, .int (nI 0)), (4, .long (yF q)), (0, .ref wo), (1, .int (nI k)), (2, .int (nI kw)), (3, .int (nI q))]) hx hb (pc := 42) dX8_countLonger_42 hl (by decide) rfl (fun ls hl => ?_)
              have L44 : ∀ (fz : Nat) (y : Nat) (gF3 : Nat → Int64) (H : Heap) (locs : List Loc) (hP : va_P K.1 vwCl (WW3 K wo mo bh my lg rw ld room bF yF gF3 wF dF ++ MW3 K mo mk mn ms ((kn.map nI).length) b cap ks no sl) H) (hD : va_D A (WW3 K wo mo bh my lg rw ld room bF yF gF3 wF dF ++ MW3 K mo mk mn ms ((kn.map nI).length) b cap ks no sl)) (hS : va_S A s.heap H locs) (hfz : k - y < fz) (hy : y ≤ k) (hS3 : ∀ W : Nat → Int64, sL kn.length (fun i => gF3 i * W (kn.getD i 0)) = sL q (fun j => yF j * nx sb k W (kn.getD j 0)) + yF q * sL y (fun z => if sb (kn.getD q 0) z = 0 then 0 else W (sb (kn.getD q 0) z))) (ls : Array Slot) (hl : lv_has ls 8 [(0, .ref wo), (1, .int (nI k)), (2, .int (nI kw)), (3, .int (nI q)), (4, .long (yF q)), (6, .int (nI y))]), W p l e rmX8_countLonger s m args below meth c H locs 0 0 Q (F0 m 44 ls []) := by
                intro fz; induction fz with
                | zero => intro y gF3 H locs hP hD hS hfz hy hS3 ls hl; exact absurd hfz (Nat.not_lt_zero _)
                | succ fz ih44 =>
                  intro y gF3 H locs hP hD hS hfz hy hS3 ls hl
                  refine lv_iload hx hb (pc := 44) dX8_countLonger_44 (lv_at hl 5 rfl) ?_
                  refine lv_iload_n hx hb (pc := 46) dX8_countLonger_46 rfl (lv_at hl 1 rfl) ?_
                  refine nv_icmp_ge (a := y) (b := k) (tgt := 93) hx hb (pc := 47) dX8_countLonger_47 (by decide) (by omega) (by omega) (fun c47 => ?_) (fun c47 => ?_)
                  · refine lv_iinc (v := nI (q + 1)) (lv' := [(3, .int (nI (q + 1))), (0, .ref wo), (1, .int (nI k)), (2, .int (nI kw)), (4, .long (yF q)), (6, .int (nI y))]) hx hb (pc := 93) dX8_countLonger_93 hl (k := 3) rfl (rr_inc _) (by decide) rfl (fun ls hl => ?_)
                    refine lv_goto (tgt := 28) hx hb (pc := 96) dX8_countLonger_96 (by decide) ?_
                    exact ih28 (q + 1) gF3 _ _ hP hD hS (by omega) (by omega) (fun W => cl_end (by first | exact Or.inl (by omega) | exact Or.inr c53) (hS3 W)) ls (lv_sub hl [1, 2, 3, 0] rfl)
                  · refine lv_lload hx hb (pc := 50) dX8_countLonger_50 (lv_at hl 4 rfl) ?_
                    refine lv_lconst (v := 0) hx hb (pc := 52) dX8_countLonger_52 (by decide) ?_
                    refine rr_lcmp_eq (tgt := 93) hx hb (pc := 53) dX8_countLonger_53 dX8_countLonger_54 (by decide) (fun c53 => ?_) (fun c53 => ?_)
                    · refine lv_iinc (v := nI (q + 1)) (lv' := [(3, .int (nI (q + 1))), (0, .ref wo), (1, .int (nI k)), (2, .int (nI kw)), (4, .long (yF q)), (6, .int (nI y))]) hx hb (pc := 93) dX8_countLonger_93 hl (k := 3) rfl (rr_inc _) (by decide) rfl (fun ls hl => ?_)
                      refine lv_goto (tgt := 28) hx hb (pc := 96) dX8_countLonger_96 (by decide) ?_
                      exact ih28 (q + 1) gF3 _ _ hP hD hS (by omega) (by omega) (fun W => cl_end (by first | exact Or.inl (by omega) | exact Or.inr c53) (hS3 W)) ls (lv_sub hl [1, 2, 3, 0] rfl)
                    · have hb9 := hbk q (by omega) y (by omega)
                      refine lv_aload_n hx hb (pc := 57) dX8_countLonger_57 rfl (lv_at hl 0 rfl) ?_
                      refine va_get (v := .ref bh) hx hb hts (inX8_countLonger_8) hown hKK.1 hP 0 rfl rfl 1 (by decide) (hts _ (List.mem_of_getElem? (i := 5) (by decide +kernel))) (fun _ h9 => h9) rfl (pc := 58) dX8_countLonger_58 ?_
                      refine lv_iload_n hx hb (pc := 61) dX8_countLonger_61 rfl (lv_at hl 3 rfl) ?_
                      refine lv_iconst (v := nI 4) hx hb (pc := 62) dX8_countLonger_62 (by decide) ?_
                      refine nv_imul (a := q) (b := 4) hx hb (pc := 63) dX8_countLonger_63 ?_
                      refine lv_iload hx hb (pc := 64) dX8_countLonger_64 (lv_at hl 5 rfl) ?_
                      refine nv_iadd (a := (q * 4)) (b := y) hx hb (pc := 66) dX8_countLonger_66 ?_
                      refine nv_iald (v := bF ((q * 4) + y)) (i := ((q * 4) + y)) hx hb hKK hP 1 rfl (by omega) (by omega) (rfl) (pc := 67) dX8_countLonger_67 ?_
                      refine lv_istore (lv' := [(7, .int (bF ((q * 4) + y))), (0, .ref wo), (1, .int (nI k)), (2, .int (nI kw)), (3, .int (nI q)), (4, .long (yF q)), (6, .int (nI y))]) hx hb (pc := 68) dX8_countLonger_68 hl (by decide) rfl (fun ls hl => ?_)
                      refine lv_iload hx hb (pc := 70) dX8_countLonger_70 (lv_at hl 0 rfl) ?_
                      refine lv_if_lt (tgt := 87) hx hb (pc := 72) dX8_countLonger_72 (by decide) (fun c72 => ?_) (fun c72 => ?_)
                      · refine lv_iinc (v := nI (y + 1)) (lv' := [(6, .int (nI (y + 1))), (7, .int (bF ((q * 4) + y))), (0, .ref wo), (1, .int (nI k)), (2, .int (nI kw)), (3, .int (nI q)), (4, .long (yF q))]) hx hb (pc := 87) dX8_countLonger_87 hl (k := 6) rfl (rr_inc _) (by decide) rfl (fun ls hl => ?_)
                        refine lv_goto (tgt := 44) hx hb (pc := 90) dX8_countLonger_90 (by decide) ?_
                        exact ih44 (y + 1) gF3 _ _ hP hD hS (by omega) (by omega) (fun W => cl_no (BK1_lt (by omega) hb9 c72) (hS3 W)) ls (lv_sub hl [2, 3, 4, 5, 6, 0] rfl)
                      · obtain ⟨h0, t, ht, hkt, hbt⟩ := BK1_ge hb9 c72
                        have hl : lv_has ls 8 [(7, .int (nI t)), (0, .ref wo), (1, .int (nI k)), (2, .int (nI kw)), (3, .int (nI q)), (4, .long (yF q)), (6, .int (nI y))] := by rw [← hbt]; exact hl
                        refine lv_aload_n hx hb (pc := 75) dX8_countLonger_75 rfl (lv_at hl 1 rfl) ?_
                        refine va_get (v := .ref lg) hx hb hts (inX8_countLonger_8) hown hKK.1 hP 0 rfl rfl 3 (by decide) (hts _ (List.mem_of_getElem? (i := 3) (by decide +kernel))) (fun _ h9 => h9) rfl (pc := 76) dX8_countLonger_76 ?_
                        refine lv_iload hx hb (pc := 79) dX8_countLonger_79 (lv_at hl 0 rfl) ?_
                        refine lv_dup2_11 hx hb (pc := 81) dX8_countLonger_81 rfl rfl ?_
                        refine nv_lald (v := gF3 t) (i := t) hx hb hKK hP 3 rfl (by omega) (by omega) (rfl) (pc := 82) dX8_countLonger_82 ?_
                        refine lv_lload hx hb (pc := 83) dX8_countLonger_83 (lv_at hl 5 rfl) ?_
                        refine lv_ladd hx hb (pc := 85) dX8_countLonger_85 ?_
                        refine nv_last (f := gF3) (x := ((gF3 t) + (yF q))) (ws' := [(wo, .inr (8, [.ref mo, .ref bh, .ref my, .ref lg, .ref rw, .ref ld])), (bh, .inl (K.2.1, 4 * room, .inl (bF))), (my, .inl (K.2.2.1, room, .inr (.inl (yF)))), (lg, .inl (K.2.2.1, room, .inr (.inl (va_up gF3 t ((gF3 t) + (yF q)))))), (rw, .inl (K.2.1, 7, .inl (fun j => nI (wF j)))), (ld, .inl (K.2.1, 8, .inl (fun j => nI (dF j)))), (mo, .inr (3, [.int (nI ((kn.map nI).length)), .ref mk, .ref mn, .ref ms, .int (nI b)])), (mk, .inl (K.2.1, cap, .inl (ks))), (mn, .inl (K.2.1, cap, .inl (fun j => nI (no j)))), (ms, .inl (K.2.1, 2 * cap, .inl (fun j => nI (sl j))))]) (i := t) hx hb hKK hP hD hS 3 rfl (by omega) (by omega) (rfl) (pc := 86) dX8_countLonger_86 (fun H locs hP hD hS => ?_)
                        refine lv_iinc (v := nI (y + 1)) (lv' := [(6, .int (nI (y + 1))), (7, .int (nI t)), (0, .ref wo), (1, .int (nI k)), (2, .int (nI kw)), (3, .int (nI q)), (4, .long (yF q))]) hx hb (pc := 87) dX8_countLonger_87 hl (k := 6) rfl (rr_inc _) (by decide) rfl (fun ls hl => ?_)
                        refine lv_goto (tgt := 44) hx hb (pc := 90) dX8_countLonger_90 (by decide) ?_
                        exact ih44 (y + 1) (va_up gF3 t (gF3 t + yF q)) _ _ hP hD hS (by omega) (by omega) (fun W => cl_yes ht hkt h0 (hS3 W)) ls (lv_sub hl [2, 3, 4, 5, 6, 0] rfl)
              exact L44 (k + 1) 0 gF2 _ _ hP hD hS (by omega) (Nat.zero_le _) (fun W => by rw [hS2 W, show sL 0 (fun z => if sb (kn.getD q 0) z = 0 then 0 else W (sb (kn.getD q 0) z)) = 0 from rfl, Int64.mul_zero, Int64.add_zero]) ls (lv_sub hl [2, 3, 4, 5, 1, 0] rfl)
        exact L28 (kw + 1) 0 gF1 _ _ hP hD hS (by omega) (Nat.zero_le _) (fun W => sL_z (g := gF1) (W := fun i => W (kn.getD i 0)) (fun j hj => hz1 j (by omega))) ls (lv_sub hl [1, 2, 3, 0] rfl)
      · refine lv_aload_n hx hb (pc := 13) dX8_countLonger_13 rfl (lv_at hl 0 rfl) ?_
        refine va_get (v := .ref lg) hx hb hts (inX8_countLonger_8) hown hKK.1 hP 0 rfl rfl 3 (by decide) (hts _ (List.mem_of_getElem? (i := 3) (by decide +kernel))) (fun _ h9 => h9) rfl (pc := 14) dX8_countLonger_14 ?_
        refine lv_iload_n hx hb (pc := 17) dX8_countLonger_17 rfl (lv_at hl 3 rfl) ?_
        refine lv_lconst (v := 0) hx hb (pc := 18) dX8_countLonger_18 (by decide) ?_
        refine nv_last (f := gF1) (x := 0) (ws' := [(wo, .inr (8, [.ref mo, .ref bh, .ref my, .ref lg, .ref rw, .ref ld])), (bh, .inl (K.2.1, 4 * room, .inl (bF))), (my, .inl (K.2.2.1, room, .inr (.inl (yF)))), (lg, .inl (K.2.2.1, room, .inr (.inl (va_up gF1 i 0)))), (rw, .inl (K.2.1, 7, .inl (fun j => nI (wF j)))), (ld, .inl (K.2.1, 8, .inl (fun j => nI (dF j)))), (mo, .inr (3, [.int (nI ((kn.map nI).length)), .ref mk, .ref mn, .ref ms, .int (nI b)])), (mk, .inl (K.2.1, cap, .inl (ks))), (mn, .inl (K.2.1, cap, .inl (fun j => nI (no j)))), (ms, .inl (K.2.1, 2 * cap, .inl (fun j => nI (sl j))))]) (i := i) hx hb hKK hP hD hS 3 rfl (by omega) (by omega) (rfl) (pc := 19) dX8_countLonger_19 (fun H locs hP hD hS => ?_)
        refine lv_iinc (v := nI (i + 1)) (lv' := [(3, .int (nI (i + 1))), (0, .ref wo), (1, .int (nI k)), (2, .int (nI kw))]) hx hb (pc := 20) dX8_countLonger_20 hl (k := 3) rfl (rr_inc _) (by decide) rfl (fun ls hl => ?_)
        refine lv_goto (tgt := 2) hx hb (pc := 23) dX8_countLonger_23 (by decide) ?_
        have hz2 : ∀ j, j < i + 1 → va_up gF1 i 0 j = 0 := fun j hj => by
          unfold va_up
          split
          · rfl
          · exact hz1 j (by omega)
        exact ih2 (i + 1) (va_up gF1 i 0) _ _ hP hD hS (by omega) (by omega) (hz2) ls (lv_sub hl [1, 2, 3, 0] rfl)
  exact L2 (kn.length + 1) 0 gF _ _ hP hD hS (by omega) (Nat.zero_le _) (fun j hj => absurd hj (Nat.not_lt_zero _)) ls (lv_sub hl [1, 2, 3, 0] rfl)

abbrev rmX8_standing (mc ms : Nat) : Room := { frames := 5, cells := mc, slots := ms, locals := 114 }
theorem inX8_standing_1 : ∀ w ∈ wsX10, w ∈ wsX8_standing := fun _ h => List.mem_cons_of_mem _ (List.mem_append_left _ (List.mem_append_right _ h))
theorem inX8_standing_3 : ∀ w ∈ wsX30, w ∈ wsX8_standing := fun _ h => List.mem_cons_of_mem _ (List.mem_append_right _ h)
theorem inX8_standing_8 : ∀ w ∈ wsX80, w ∈ wsX8_standing := fun _ h => List.mem_cons_of_mem _ (List.mem_append_left _ (List.mem_append_left _ (List.mem_append_right _ h)))
set_option maxHeartbeats 4000000 in
set_option maxRecDepth 100000 in
theorem c_X8_standing (l : Launch) (K : rr_K) (A : Nat → Prop) (sz : Nat) (wo mo bh my lg rw ld room : Nat) (bF : Nat → Int32) (yF gF : Nat → Int64) (wF dF : Nat → Nat) (mk mn ms b cap : Nat) (ks : Nat → Int32) (no sl : Nat → Nat) (kn nt : List Nat) (go ge gt k n gw al lw : Nat) (E T : Nat → Nat) (nn : Nat) (hM : MInv (kn.map nI) nt cap b ks no sl) (hr : ∃ e, room = 2 ^ e) (hrb : room ≤ 65536) (hk4 : k ≤ 4) (hn : n ≤ 16) (hal : al < 2 ^ n) (hT : TInv k n al E T) (hnn : nn < 2 ^ 31) (hA : ∀ q, sz ≤ q → A q) (hD : va_D A (WW3 K wo mo bh my lg rw ld room bF yF gF wF dF ++ MW3 K mo mk mn ms ((kn.map nI).length) b cap ks no sl)) (hGA : ∀ (k_ : Nat) (q_ : Nat × va_E), (GW K go ge gt k n gw al lw E T)[k_]? = some q_ → ¬ A q_.1) : MetR l K yX8_standing wsX8_standing (rmX8_standing (((stF (ldS k n E al) k al cap nn).2 - cap) + ((stRm (ldS k n E al) k al cap nn room) - room)) (8 * ((stF (ldS k n E al) k al cap nn).2 - cap) + 12 * ((stRm (ldS k n E al) k al cap nn room) - room))) [.ref wo, .ref go, .int (nI nn)] (fun H => H.size = sz ∧ va_P K.1 vwCl (WW3 K wo mo bh my lg rw ld room bF yF gF wF dF ++ MW3 K mo mk mn ms ((kn.map nI).length) b cap ks no sl) H ∧ va_P K.1 vwCl (GW K go ge gt k n gw al lw E T) H) A (fun v H => ∃ bh' my' lg' bF' yF' gF' mk' mn' ms' b' ks' no' sl' nt', MInv ((stF (ldS k n E al) k al cap nn).1.map nI) nt' (stF (ldS k n E al) k al cap nn).2 b' ks' no' sl' ∧ va_P K.1 vwCl (WW3 K wo mo bh' my' lg' rw ld (stRm (ldS k n E al) k al cap nn room) bF' yF' gF' wF dF ++ MW3 K mo mk' mn' ms' ((stF (ldS k n E al) k al cap nn).1.map nI).length b' (stF (ldS k n E al) k al cap nn).2 ks' no' sl') H ∧ va_D A (WW3 K wo mo bh' my' lg' rw ld (stRm (ldS k n E al) k al cap nn room) bF' yF' gF' wF dF ++ MW3 K mo mk' mn' ms' ((stF (ldS k n E al) k al cap nn).1.map nI).length b' (stF (ldS k n E al) k al cap nn).2 ks' no' sl') ∧ v = .long (if al = 0 then 0 else cntL (ldS k n E al) k nn al)) (((stF (ldS k n E al) k al cap nn).2 - cap) + ((stRm (ldS k n E al) k al cap nn room) - room)) (8 * ((stF (ldS k n E al) k al cap nn).2 - cap) + 12 * ((stRm (ldS k n E al) k al cap nn room) - room)) := by
  refine metR_of (cc := cX8_standing) (maxL := 7) (ret := (some .long)) (rt := .long) (by decide) rfl rfl rfl rfl (Nat.le_of_ble_eq_true rfl) ?_
  intro p e s m args below meth c Q ls hEnt hKK hX hret hl
  obtain ⟨hx, hb, hml, hown, hts⟩ := hEnt
  obtain ⟨hsz0, hX⟩ := hX
  have hA : ∀ q, s.heap.size ≤ q → A q := fun q h => hA q (hsz0 ▸ h)
  obtain ⟨hP, hG⟩ := hX
  have hP : va_P K.1 vwCl (WW3 K wo mo bh my lg rw ld room bF yF gF wF dF ++ MW3 K mo mk mn ms ((kn.map nI).length) b cap ks no sl) s.heap := hP
  have hG : va_P K.1 vwCl (GW K go ge gt k n gw al lw E T) s.heap := hG
  have hl : lv_has ls 7 [(0, .ref wo), (1, .ref go), (2, .int (nI nn))] := hl
  have hS : va_S A s.heap s.heap [] := va_S.rf
  have pa : 2 ^ n ≤ 65536 := Nat.le_trans (Nat.pow_le_pow_right (by decide) hn) (by decide)
  have hcap64 := hM.2.1
  have hc0 : capN cap 0 = cap := by unfold capN; rw [if_neg (by omega)]
  refine lv_aload_n hx hb (pc := 0) dX8_standing_0 rfl (lv_at hl 0 rfl) ?_
  refine va_get (v := .ref mo) hx hb hts (inX8_standing_8) hown hKK.1 hP 0 rfl rfl 0 (by decide) (hts _ (List.mem_of_getElem? (i := 1) (by decide +kernel))) (fun _ h9 => h9) rfl (pc := 1) dX8_standing_1 ?_
  have hP : va_P K.1 vwCl (WW3 K wo mo bh my lg rw ld room bF yF gF wF dF ++ MW3 K mo mk mn ms ((kn.map nI).length) b cap ks no sl) s.heap := hP
  have hD : va_D A (WW3 K wo mo bh my lg rw ld room bF yF gF wF dF ++ MW3 K mo mk mn ms ((kn.map nI).length) b cap ks no sl) := hD
  have hDc := rr_AW (rr_Dright hD)
  refine rr_callV (pc := 4) (va_runV (As := []) (rest := []) ⟨hx, hb, hml, hown, hts⟩ (c_X3_clear l K (AW (MW3 K mo mk mn ms ((kn.map nI).length) b cap ks no sl)) mo mk mn ms b cap ks no sl (kn.map nI) nt hM hDc) (cwV 0 hts gX8_standing_X3_clear rfl rfl rfl (by decide +kernel) ⟨Nat.le_of_ble_eq_true rfl, Nat.le_of_ble_eq_true rfl⟩) (rr_preV hKK (rr_right hP) (va_recv hKK.1 hP (ci := 3) (q0 := 6) rfl rfl)) rfl rfl hl.1 rfl (lv_room (Nat.le_of_ble_eq_true rfl)) dX8_standing_4 ⟨Nat.zero_le _, Nat.zero_le _⟩) hS (rr_AW_in (rr_Dright hD)) (fun H locs hY hsz hfr hS => ?_)
  obtain ⟨b0, sl0, hM0, hP1⟩ := hY
  obtain ⟨hP, hD⟩ := rr_app2 hP hD hfr hP1 rfl
  have hD : va_D A (WW3 K wo mo bh my lg rw ld room bF yF gF wF dF ++ MW3 K mo mk mn ms 0 b0 cap ks no sl0) := hD
  have hP : va_P K.1 vwCl (WW3 K wo mo bh my lg rw ld room bF yF gF wF dF ++ MW3 K mo mk mn ms 0 b0 cap ks no sl0) H := hP
  refine lv_aload_n hx hb (pc := 7) dX8_standing_7 rfl (lv_at hl 1 rfl) ?_
  refine va_get (v := .int (nI al)) hx hb hts (inX8_standing_1) hown hKK.1 (rr_ro (A := A) hG hGA hS) 0 rfl rfl 3 (by decide) (hts _ (List.mem_of_getElem? (i := 2) (by decide +kernel))) (fun _ h9 => h9) rfl (pc := 8) dX8_standing_8 ?_
  refine nv_if_ne (a := al) (tgt := 16) hx hb (pc := 11) dX8_standing_11 (by decide) (by omega) (fun c11 => ?_) (fun c11 => ?_)
  · have hSF : (stF (ldS k n E al) k al cap nn) = (stN (ldS k n E al) k al cap nn).1 := by unfold stF; rw [if_neg c11]
    have hRF : (stRm (ldS k n E al) k al cap nn room) = rmN room (stF (ldS k n E al) k al cap nn).2 := by unfold stRm; rw [if_neg c11]
    have hcF : ∀ i, i ≤ nn → (stN (ldS k n E al) k al cap i).1.2 ≤ (stF (ldS k n E al) k al cap nn).2 := fun i hi => by rw [hSF]; exact stN_mono _ _ _ _ hi
    have hc9 : capN cap 0 ≤ (stF (ldS k n E al) k al cap nn).2 := hcF 0 (Nat.zero_le _)
    have hr9 : (rmN room (capN cap 0)) ≤ (stRm (ldS k n E al) k al cap nn room) := by rw [hRF, rmN_max, rmN_max]; omega
    have hr8 := rmN_le room (capN cap 0)
    refine lv_aload_n hx hb (pc := 16) dX8_standing_16 rfl (lv_at hl 0 rfl) ?_
    refine va_get (v := .ref mo) hx hb hts (inX8_standing_8) hown hKK.1 hP 0 rfl rfl 0 (by decide) (hts _ (List.mem_of_getElem? (i := 1) (by decide +kernel))) (fun _ h9 => h9) rfl (pc := 17) dX8_standing_17 ?_
    refine lv_aload_n hx hb (pc := 20) dX8_standing_20 rfl (lv_at hl 1 rfl) ?_
    refine va_get (v := .int (nI al)) hx hb hts (inX8_standing_1) hown hKK.1 (rr_ro (A := A) hG hGA hS) 0 rfl rfl 3 (by decide) (hts _ (List.mem_of_getElem? (i := 2) (by decide +kernel))) (fun _ h9 => h9) rfl (pc := 21) dX8_standing_21 ?_
    have hPc := hP.sub (ws' := MW3 K mo mk mn ms 0 b0 cap ks no sl0) [6, 7, 8, 9] rfl
    have hDc := (hD.sub (ws' := MW3 K mo mk mn ms 0 b0 cap ks no sl0) [6, 7, 8, 9] (by decide) rfl).self (sz := H.size)
    have hFc := va_free (wc := MW3 K mo mk mn ms 0 b0 cap ks no sl0) hD hS hA [6, 7, 8, 9] rfl
    refine rr_callR (pc := 24) (va_runV (As := [.int (nI al)]) (rest := []) ⟨hx, hb, hml, hown, hts⟩ (c_X3_placeOf l K (va_A (MW3 K mo mk mn ms 0 b0 cap ks no sl0) H.size) H.size mo mk mn ms b0 cap ks no sl0 [] [] (nI al) hM0 (by decide) (fun q h => Or.inr h) hDc) (cwV 1 hts gX8_standing_X3_placeOf rfl rfl rfl (by decide +kernel) ⟨Nat.le_of_ble_eq_true rfl, Nat.le_of_ble_eq_true rfl⟩) (rr_preV hKK (⟨rfl, hPc⟩) (va_recv hKK.1 hP (ci := 3) (q0 := 6) rfl rfl)) rfl rfl hl.1 rfl (lv_room (Nat.le_of_ble_eq_true rfl)) dX8_standing_24 ⟨by show 0 + (capN cap 0 - cap) ≤ ((stF (ldS k n E al) k al cap nn).2 - cap) + ((stRm (ldS k n E al) k al cap nn room) - room); omega, by show 0 + 8 * (capN cap 0 - cap) ≤ 8 * ((stF (ldS k n E al) k al cap nn).2 - cap) + 12 * ((stRm (ldS k n E al) k al cap nn room) - room); omega⟩) hS (hFc) (fun v H locs hY hsz hfr hS => ?_)
    obtain ⟨mk1, mn1, ms1, b1, ks1, no1, sl1, hM1, hP1, hD1, rfl⟩ := hY
    rw [plK_nil, plN_nil] at hM1
    rw [plK_nil] at hP1 hD1
    obtain ⟨hP, hD⟩ := va_join (wr := [(wo, .inr (8, [.ref mo, .ref bh, .ref my, .ref lg, .ref rw, .ref ld])), (bh, .inl (K.2.1, 4 * room, .inl (bF))), (my, .inl (K.2.2.1, room, .inr (.inl (yF)))), (lg, .inl (K.2.2.1, room, .inr (.inl (gF)))), (rw, .inl (K.2.1, 7, .inl (fun j => nI (wF j)))), (ld, .inl (K.2.1, 8, .inl (fun j => nI (dF j))))]) (w1 := [(mo, .inr (3, [.int (nI (([al].map nI).length)), .ref mk1, .ref mn1, .ref ms1, .int (nI b1)])), (mk1, .inl (K.2.1, (capN cap 0), .inl (ks1))), (mn1, .inl (K.2.1, (capN cap 0), .inl (fun j => nI (no1 j)))), (ms1, .inl (K.2.1, 2 * (capN cap 0), .inl (fun j => nI (sl1 j))))]) hP hD [6, 7, 8, 9] [0, 1, 2, 3, 4, 5] rfl rfl (by decide) (by decide) hfr hFc hP1 hD1
    have hP : va_P K.1 vwCl ([(wo, .inr (8, [.ref mo, .ref bh, .ref my, .ref lg, .ref rw, .ref ld])), (bh, .inl (K.2.1, 4 * room, .inl (bF))), (my, .inl (K.2.2.1, room, .inr (.inl (yF)))), (lg, .inl (K.2.2.1, room, .inr (.inl (gF)))), (rw, .inl (K.2.1, 7, .inl (fun j => nI (wF j)))), (ld, .inl (K.2.1, 8, .inl (fun j => nI (dF j)))), (mo, .inr (3, [.int (nI (([al].map nI).length)), .ref mk1, .ref mn1, .ref ms1, .int (nI b1)])), (mk1, .inl (K.2.1, (capN cap 0), .inl (ks1))), (mn1, .inl (K.2.1, (capN cap 0), .inl (fun j => nI (no1 j)))), (ms1, .inl (K.2.1, 2 * (capN cap 0), .inl (fun j => nI (sl1 j))))]) H := hP
    have hD : va_D A ([(wo, .inr (8, [.ref mo, .ref bh, .ref my, .ref lg, .ref rw, .ref ld])), (bh, .inl (K.2.1, 4 * room, .inl (bF))), (my, .inl (K.2.2.1, room, .inr (.inl (yF)))), (lg, .inl (K.2.2.1, room, .inr (.inl (gF)))), (rw, .inl (K.2.1, 7, .inl (fun j => nI (wF j)))), (ld, .inl (K.2.1, 8, .inl (fun j => nI (dF j)))), (mo, .inr (3, [.int (nI (([al].map nI).length)), .ref mk1, .ref mn1, .ref ms1, .int (nI b1)])), (mk1, .inl (K.2.1, (capN cap 0), .inl (ks1))), (mn1, .inl (K.2.1, (capN cap 0), .inl (fun j => nI (no1 j)))), (ms1, .inl (K.2.1, 2 * (capN cap 0), .inl (fun j => nI (sl1 j))))]) := hD
    refine lv_pop hx hb (pc := 27) dX8_standing_27 rfl ?_
    have hP : va_P K.1 vwCl (WW3 K wo mo bh my lg rw ld room bF yF gF wF dF ++ MW3 K mo mk1 mn1 ms1 (([al].map nI).length) b1 (capN cap 0) ks1 no1 sl1) H := hP
    have hD : va_D A (WW3 K wo mo bh my lg rw ld room bF yF gF wF dF ++ MW3 K mo mk1 mn1 ms1 (([al].map nI).length) b1 (capN cap 0) ks1 no1 sl1) := hD
    refine lv_aload_n hx hb (pc := 28) dX8_standing_28 rfl (lv_at hl 0 rfl) ?_
    refine rr_callV (pc := 29) (va_runV (As := []) (rest := []) ⟨hx, hb, hml, hown, hts⟩ (c_X8_makeRoom l K A H.size wo mo bh my lg rw ld room bF yF gF wF dF mk1 mn1 ms1 b1 (capN cap 0) ks1 no1 sl1 [al] [0] hM1 hr hrb (fun q h => hA q (Nat.le_trans hS.1 h)) hD) (cwV 0 hts gX8_standing_X8_makeRoom rfl rfl rfl (by decide +kernel) ⟨Nat.le_of_ble_eq_true rfl, Nat.le_of_ble_eq_true rfl⟩) (rr_preV hKK (⟨rfl, hP⟩) (va_recv hKK.1 hP (ci := 8) (q0 := 0) rfl rfl)) rfl rfl hl.1 rfl (lv_room (Nat.le_of_ble_eq_true rfl)) dX8_standing_29 ⟨by show 0 + (capN cap 0 - cap) + ((rmN room (capN cap 0)) - room) ≤ ((stF (ldS k n E al) k al cap nn).2 - cap) + ((stRm (ldS k n E al) k al cap nn room) - room); omega, by show 0 + 8 * (capN cap 0 - cap) + 12 * ((rmN room (capN cap 0)) - room) ≤ 8 * ((stF (ldS k n E al) k al cap nn).2 - cap) + 12 * ((stRm (ldS k n E al) k al cap nn room) - room); omega⟩) hS (fun _ h => h) (fun H locs hY hsz hfr hS => ?_)
    obtain ⟨bh1, my1, lg1, bF1, yF1, gF1, hbe1, hye1, hP, hD⟩ := hY
    have hP : va_P K.1 vwCl (WW3 K wo mo bh1 my1 lg1 rw ld (rmN room (capN cap 0)) bF1 yF1 gF1 wF dF ++ MW3 K mo mk1 mn1 ms1 (([al].map nI).length) b1 (capN cap 0) ks1 no1 sl1) H := hP
    have hrc9 : rmN room (capN cap 0) ≤ 65536 := by have h9 : capN cap 0 ≤ 65536 := hM1.2.2.1; rw [rmN_max]; omega
    refine lv_aload_n hx hb (pc := 32) dX8_standing_32 rfl (lv_at hl 0 rfl) ?_
    refine va_get (v := .ref my1) hx hb hts (inX8_standing_8) hown hKK.1 hP 0 rfl rfl 2 (by decide) (hts _ (List.mem_of_getElem? (i := 3) (by decide +kernel))) (fun _ h9 => h9) rfl (pc := 33) dX8_standing_33 ?_
    refine lv_iconst (v := nI 0) hx hb (pc := 36) dX8_standing_36 (by decide) ?_
    refine lv_lconst (v := 1) hx hb (pc := 37) dX8_standing_37 (by decide) ?_
    refine nv_last (f := yF1) (x := 1) (ws' := WW3 K wo mo bh1 my1 lg1 rw ld (rmN room (capN cap 0)) bF1 (va_up yF1 0 1) gF1 wF dF ++ MW3 K mo mk1 mn1 ms1 (([al].map nI).length) b1 (capN cap 0) ks1 no1 sl1) (i := 0) hx hb hKK hP hD hS 2 rfl (by omega) (by omega) (rfl) (pc := 38) dX8_standing_38 (fun H locs hP hD hS => ?_)
    refine lv_iconst (v := nI 0) hx hb (pc := 39) dX8_standing_39 (by decide) ?_
    refine lv_istore_n (lv' := [(3, .int (nI 0)), (0, .ref wo), (1, .ref go), (2, .int (nI nn))]) hx hb (pc := 40) dX8_standing_40 rfl hl (by decide) rfl (fun ls hl => ?_)
    refine lv_iconst (v := nI 0) hx hb (pc := 41) dX8_standing_41 (by decide) ?_
    refine lv_istore (lv' := [(4, .int (nI 0)), (3, .int (nI 0)), (0, .ref wo), (1, .ref go), (2, .int (nI nn))]) hx hb (pc := 42) dX8_standing_42 hl (by decide) rfl (fun ls hl => ?_)
    have L44 : ∀ (fz : Nat) (i : Nat) (lk : Nat) (kn1 : List Nat) (nt1 : List Nat) (cap1 : Nat) (mk1 : Nat) (mn1 : Nat) (ms1 : Nat) (b1 : Nat) (ks1 : Nat → Int32) (no1 : Nat → Nat) (sl1 : Nat → Nat) (bh1 : Nat) (my1 : Nat) (lg1 : Nat) (room1 : Nat) (bF1 : Nat → Int32) (yF1 : Nat → Int64) (gF1 : Nat → Int64) (H : Heap) (locs : List Loc) (hP : va_P K.1 vwCl (WW3 K wo mo bh1 my1 lg1 rw ld room1 bF1 yF1 gF1 wF dF ++ MW3 K mo mk1 mn1 ms1 ((kn1.map nI).length) b1 cap1 ks1 no1 sl1) H) (hD : va_D A (WW3 K wo mo bh1 my1 lg1 rw ld room1 bF1 yF1 gF1 wF dF ++ MW3 K mo mk1 mn1 ms1 ((kn1.map nI).length) b1 cap1 ks1 no1 sl1)) (hS : va_S A s.heap H locs) (hfz : nn - i < fz) (hM1 : MInv (kn1.map nI) nt1 cap1 b1 ks1 no1 sl1) (hi : i ≤ nn) (hk1 : (∀ y ∈ kn1, y ≠ 0 ∧ sub y al)) (hlk : lk ≤ kn1.length) (he1 : ((kn1, cap1), lk) = stN (ldS k n E al) k al cap i) (hb1 : BOK (ldS k n E al) k kn1 bF1 lk) (hr1 : room1 = rmN room cap1) (hcc1 : cap ≤ cap1) (hS1 : sL kn1.length (fun j => yF1 j * cntL (ldS k n E al) k (nn - i) (kn1.getD j 0)) = cntL (ldS k n E al) k nn al) (ls : Array Slot) (hl : lv_has ls 7 [(0, .ref wo), (1, .ref go), (2, .int (nI nn)), (3, .int (nI lk)), (4, .int (nI i))]), W p l e (rmX8_standing (((stF (ldS k n E al) k al cap nn).2 - cap) + ((stRm (ldS k n E al) k al cap nn room) - room)) (8 * ((stF (ldS k n E al) k al cap nn).2 - cap) + 12 * ((stRm (ldS k n E al) k al cap nn room) - room))) s m args below meth c H locs ((cap1 - cap) + (room1 - room)) (8 * (cap1 - cap) + 12 * (room1 - room)) Q (F0 m 44 ls []) := by
      intro fz; induction fz with
      | zero => intro i lk kn1 nt1 cap1 mk1 mn1 ms1 b1 ks1 no1 sl1 bh1 my1 lg1 room1 bF1 yF1 gF1 H locs hP hD hS hfz hM1 hi hk1 hlk he1 hb1 hr1 hcc1 hS1 ls hl; exact absurd hfz (Nat.not_lt_zero _)
      | succ fz ih44 =>
        intro i lk kn1 nt1 cap1 mk1 mn1 ms1 b1 ks1 no1 sl1 bh1 my1 lg1 room1 bF1 yF1 gF1 H locs hP hD hS hfz hM1 hi hk1 hlk he1 hb1 hr1 hcc1 hS1 ls hl
        have hlm1 : (kn1.map nI).length = kn1.length := List.length_map _
        have hcF1 : cap1 ≤ (stF (ldS k n E al) k al cap nn).2 := by
          have h := hcF i hi
          rw [← he1] at h
          exact h
        obtain ⟨m1, m2, m3, m4, -⟩ := id hM1
        have hrm1 : room ≤ room1 ∧ cap1 ≤ room1 ∧ room1 ≤ 65536 := by rw [hr1, rmN_max]; omega
        have hrF1 : room1 ≤ (stRm (ldS k n E al) k al cap nn room) := by rw [hRF, hr1, rmN_max, rmN_max]; omega
        have hrp1 : ∃ e, room1 = 2 ^ e := by rw [hr1]; exact rmN_pow hr m4
        refine lv_iload hx hb (pc := 44) dX8_standing_44 (lv_at hl 4 rfl) ?_
        refine lv_iload_n hx hb (pc := 46) dX8_standing_46 rfl (lv_at hl 2 rfl) ?_
        refine nv_icmp_ge (a := i) (b := nn) (tgt := 90) hx hb (pc := 47) dX8_standing_47 (by decide) (by omega) (by omega) (fun c47 => ?_) (fun c47 => ?_)
        · refine lv_lconst (v := 0) hx hb (pc := 90) dX8_standing_90 (by decide) ?_
          refine lv_lstore (lv' := [(4, .long 0), (0, .ref wo), (1, .ref go), (2, .int (nI nn)), (3, .int (nI lk))]) hx hb (pc := 91) dX8_standing_91 hl (by decide) rfl (fun ls hl => ?_)
          refine lv_iconst (v := nI 0) hx hb (pc := 93) dX8_standing_93 (by decide) ?_
          refine lv_istore (lv' := [(6, .int (nI 0)), (4, .long 0), (0, .ref wo), (1, .ref go), (2, .int (nI nn)), (3, .int (nI lk))]) hx hb (pc := 94) dX8_standing_94 hl (by decide) rfl (fun ls hl => ?_)
          have L96 : ∀ (fz : Nat) (j : Nat) (H : Heap) (locs : List Loc) (hP : va_P K.1 vwCl (WW3 K wo mo bh1 my1 lg1 rw ld room1 bF1 yF1 gF1 wF dF ++ MW3 K mo mk1 mn1 ms1 ((kn1.map nI).length) b1 cap1 ks1 no1 sl1) H) (hD : va_D A (WW3 K wo mo bh1 my1 lg1 rw ld room1 bF1 yF1 gF1 wF dF ++ MW3 K mo mk1 mn1 ms1 ((kn1.map nI).length) b1 cap1 ks1 no1 sl1)) (hS : va_S A s.heap H locs) (hfz : kn1.length - j < fz) (hj : j ≤ kn1.length) (ls : Array Slot) (hl : lv_has ls 7 [(0, .ref wo), (4, .long (sL j yF1)), (6, .int (nI j))]), W p l e (rmX8_standing (((stF (ldS k n E al) k al cap nn).2 - cap) + ((stRm (ldS k n E al) k al cap nn room) - room)) (8 * ((stF (ldS k n E al) k al cap nn).2 - cap) + 12 * ((stRm (ldS k n E al) k al cap nn room) - room))) s m args below meth c H locs ((cap1 - cap) + (room1 - room)) (8 * (cap1 - cap) + 12 * (room1 - room)) Q (F0 m 96 ls []) := by
            intro fz; induction fz with
            | zero => intro j H locs hP hD hS hfz hj ls hl; exact absurd hfz (Nat.not_lt_zero _)
            | succ fz ih96 =>
              intro j H locs hP hD hS hfz hj ls hl
              refine lv_iload hx hb (pc := 96) dX8_standing_96 (lv_at hl 2 rfl) ?_
              refine lv_aload_n hx hb (pc := 98) dX8_standing_98 rfl (lv_at hl 0 rfl) ?_
              refine va_get (v := .ref mo) hx hb hts (inX8_standing_8) hown hKK.1 hP 0 rfl rfl 0 (by decide) (hts _ (List.mem_of_getElem? (i := 1) (by decide +kernel))) (fun _ h9 => h9) rfl (pc := 99) dX8_standing_99 ?_
              refine va_get (v := .int (nI ((kn1.map nI).length))) hx hb hts (inX8_standing_3) hown hKK.1 hP 6 rfl rfl 0 (by decide) (hts _ (List.mem_of_getElem? (i := 4) (by decide +kernel))) (fun _ h9 => h9) rfl (pc := 102) dX8_standing_102 ?_
              refine nv_icmp_ge (a := j) (b := ((kn1.map nI).length)) (tgt := 126) hx hb (pc := 105) dX8_standing_105 (by decide) (by omega) (by omega) (fun c105 => ?_) (fun c105 => ?_)
              · refine lv_lload hx hb (pc := 126) dX8_standing_126 (lv_at hl 1 rfl) ?_
                have e9 : j = kn1.length := by omega
                have e8 : i = nn := by omega
                have hR : (stF (ldS k n E al) k al cap nn) = (kn1, cap1) := by rw [hSF, ← e8, ← he1]
                have hR2 : (stRm (ldS k n E al) k al cap nn room) = room1 := by rw [hRF, hR, hr1]
                have hv : sL j yF1 = cntL (ldS k n E al) k nn al := by
                  rw [e9, ← hS1]
                  exact sL_congr (fun i9 h9 => by rw [e8, Nat.sub_self]; exact (Int64.mul_one _).symm)
                exact hret.2.1 _ _ ((cap1 - cap) + (room1 - room)) (8 * (cap1 - cap) + 12 * (room1 - room)) 128 _ (sL j yF1) dX8_standing_128 (by show _ ≤ ((stF (ldS k n E al) k al cap nn).2 - cap) + ((stRm (ldS k n E al) k al cap nn room) - room); omega) (by show _ ≤ 8 * ((stF (ldS k n E al) k al cap nn).2 - cap) + 12 * ((stRm (ldS k n E al) k al cap nn room) - room); omega) hS (⟨bh1, my1, lg1, bF1, yF1, gF1, mk1, mn1, ms1, b1, ks1, no1, sl1, nt1, by rw [hR]; exact hM1, by rw [hR, hR2]; exact hP, by rw [hR, hR2]; exact hD, by rw [if_neg c11, hv]⟩) rfl
              · refine lv_lload hx hb (pc := 108) dX8_standing_108 (lv_at hl 1 rfl) ?_
                refine lv_aload_n hx hb (pc := 110) dX8_standing_110 rfl (lv_at hl 0 rfl) ?_
                refine va_get (v := .ref my1) hx hb hts (inX8_standing_8) hown hKK.1 hP 0 rfl rfl 2 (by decide) (hts _ (List.mem_of_getElem? (i := 3) (by decide +kernel))) (fun _ h9 => h9) rfl (pc := 111) dX8_standing_111 ?_
                refine lv_iload hx hb (pc := 114) dX8_standing_114 (lv_at hl 2 rfl) ?_
                refine nv_lald (v := yF1 j) (i := j) hx hb hKK hP 2 rfl (by omega) (by omega) (rfl) (pc := 116) dX8_standing_116 ?_
                refine lv_ladd hx hb (pc := 117) dX8_standing_117 ?_
                refine lv_lstore (lv' := [(4, .long ((sL j yF1) + (yF1 j))), (0, .ref wo), (6, .int (nI j))]) hx hb (pc := 118) dX8_standing_118 hl (by decide) rfl (fun ls hl => ?_)
                refine lv_iinc (v := nI (j + 1)) (lv' := [(6, .int (nI (j + 1))), (4, .long ((sL j yF1) + (yF1 j))), (0, .ref wo)]) hx hb (pc := 120) dX8_standing_120 hl (k := 2) rfl (rr_inc _) (by decide) rfl (fun ls hl => ?_)
                refine lv_goto (tgt := 96) hx hb (pc := 123) dX8_standing_123 (by decide) ?_
                exact ih96 (j + 1) _ _ hP hD hS (by omega) (by omega) ls (lv_sub hl [2, 1, 0] rfl)
          exact L96 (kn1.length + 1) 0 _ _ hP hD hS (by omega) (Nat.zero_le _) ls (lv_sub hl [2, 1, 0] rfl)
        · refine lv_aload_n hx hb (pc := 50) dX8_standing_50 rfl (lv_at hl 0 rfl) ?_
          refine va_get (v := .ref mo) hx hb hts (inX8_standing_8) hown hKK.1 hP 0 rfl rfl 0 (by decide) (hts _ (List.mem_of_getElem? (i := 1) (by decide +kernel))) (fun _ h9 => h9) rfl (pc := 51) dX8_standing_51 ?_
          refine va_get (v := .int (nI ((kn1.map nI).length))) hx hb hts (inX8_standing_3) hown hKK.1 hP 6 rfl rfl 0 (by decide) (hts _ (List.mem_of_getElem? (i := 4) (by decide +kernel))) (fun _ h9 => h9) rfl (pc := 54) dX8_standing_54 ?_
          refine rr_top (v := .int (nI kn1.length)) (by rw [hlm1]) ?_
          refine lv_istore (lv' := [(5, .int (nI kn1.length)), (0, .ref wo), (1, .ref go), (2, .int (nI nn)), (3, .int (nI lk)), (4, .int (nI i))]) hx hb (pc := 57) dX8_standing_57 hl (by decide) rfl (fun ls hl => ?_)
          obtain ⟨kn2, cap2, e2⟩ : ∃ a c, (lkP (ldS k n E al) k lk (kn1.length - lk) (kn1, cap1)) = (a, c) := ⟨_, _, rfl⟩
          have e2c : (lkP (ldS k n E al) k lk (kn1.length - lk) (kn1, cap1)).2 = cap2 := by rw [e2]
          have hLle := lkP_le (ldS k n E al) k lk (kn1.length - lk) (kn1, cap1)
          rw [e2] at hLle
          have hcc2 : cap1 ≤ cap2 := hLle.1
          have hln2 : kn1.length ≤ kn2.length := hLle.2
          have he2 : ((kn2, cap2), kn1.length) = stN (ldS k n E al) k al cap (i + 1) := by rw [stN_succ, ← he1, ← e2]; rfl
          have hcF2 : cap2 ≤ (stF (ldS k n E al) k al cap nn).2 := by
            have h := hcF (i + 1) (by omega)
            rw [← he2] at h
            exact h
          have hgd2 : ∀ j, j < kn1.length → kn2.getD j 0 = kn1.getD j 0 := fun j hj => by
            have h := lkP_getD (sb := (ldS k n E al)) (k := k) (lo := lk) (x := (kn1, cap1)) hj (kn1.length - lk)
            rw [e2] at h
            exact h
          have hrm2 : room1 ≤ (rmN room1 cap2) ∧ cap2 ≤ (rmN room1 cap2) := rmN_le _ _
          have hrF2 : (rmN room1 cap2) ≤ (stRm (ldS k n E al) k al cap nn room) := by rw [hRF, hr1, rmN_max, rmN_max, rmN_max]; omega
          refine lv_aload_n hx hb (pc := 59) dX8_standing_59 rfl (lv_at hl 1 rfl) ?_
          refine lv_aload_n hx hb (pc := 60) dX8_standing_60 rfl (lv_at hl 2 rfl) ?_
          refine lv_iload_n hx hb (pc := 61) dX8_standing_61 rfl (lv_at hl 4 rfl) ?_
          refine lv_iload hx hb (pc := 62) dX8_standing_62 (lv_at hl 0 rfl) ?_
          refine rr_callV (pc := 64) (va_runV (As := [.ref go, .int (nI lk), .int (nI kn1.length)]) (rest := []) ⟨hx, hb, hml, hown, hts⟩ (c_X8_linkOn l K A H.size wo mo bh1 my1 lg1 rw ld room1 bF1 yF1 gF1 wF dF mk1 mn1 ms1 b1 cap1 ks1 no1 sl1 kn1 nt1 go ge gt k n gw al lw E T lk kn1.length hM1 hk4 hn hal hT (Nat.le_refl _) hlk (by omega) hrm1.2.2 hk1 hb1 (fun q h => hA q (Nat.le_trans hS.1 h)) hD hGA) (cwV 3 hts gX8_standing_X8_linkOn rfl rfl rfl (by decide +kernel) ⟨Nat.le_of_ble_eq_true rfl, Nat.le_of_ble_eq_true rfl⟩) (rr_preV hKK (⟨rfl, hP, rr_ro (A := A) hG hGA hS⟩) (va_recv hKK.1 hP (ci := 8) (q0 := 0) rfl rfl)) rfl rfl hl.1 rfl (lv_room (Nat.le_of_ble_eq_true rfl)) dX8_standing_64 ⟨by show (cap1 - cap) + (room1 - room) + ((lkP (ldS k n E al) k lk (kn1.length - lk) (kn1, cap1)).2 - cap1) ≤ ((stF (ldS k n E al) k al cap nn).2 - cap) + ((stRm (ldS k n E al) k al cap nn room) - room); omega, by show 8 * (cap1 - cap) + 12 * (room1 - room) + 8 * ((lkP (ldS k n E al) k lk (kn1.length - lk) (kn1, cap1)).2 - cap1) ≤ 8 * ((stF (ldS k n E al) k al cap nn).2 - cap) + 12 * ((stRm (ldS k n E al) k al cap nn room) - room); omega⟩) hS (fun _ h => h) (fun H locs hY hsz hfr hS => ?_)
          obtain ⟨bF2, mk2, mn2, ms2, b2, ks2, no2, sl2, nt2, hM2, hbk2, hnz2, hP, hD⟩ := hY
          rw [e2] at hM2 hbk2 hnz2 hP hD
          have hM2 : MInv (kn2.map nI) nt2 cap2 b2 ks2 no2 sl2 := hM2
          have hbk2 : BOK (ldS k n E al) k kn2 bF2 kn1.length := hbk2
          have hnz2 : (∀ y ∈ kn2, y ≠ 0 ∧ sub y al) := hnz2
          have hlm2 : (kn2.map nI).length = kn2.length := List.length_map _
          have hP : va_P K.1 vwCl (WW3 K wo mo bh1 my1 lg1 rw ld room1 bF2 yF1 gF1 wF dF ++ MW3 K mo mk2 mn2 ms2 ((kn2.map nI).length) b2 cap2 ks2 no2 sl2) H := hP
          have hD : va_D A (WW3 K wo mo bh1 my1 lg1 rw ld room1 bF2 yF1 gF1 wF dF ++ MW3 K mo mk2 mn2 ms2 ((kn2.map nI).length) b2 cap2 ks2 no2 sl2) := hD
          refine lv_iload hx hb (pc := 67) dX8_standing_67 (lv_at hl 0 rfl) ?_
          refine lv_istore_n (lv' := [(3, .int (nI kn1.length)), (5, .int (nI kn1.length)), (0, .ref wo), (1, .ref go), (2, .int (nI nn)), (4, .int (nI i))]) hx hb (pc := 69) dX8_standing_69 rfl hl (by decide) rfl (fun ls hl => ?_)
          refine lv_aload_n hx hb (pc := 70) dX8_standing_70 rfl (lv_at hl 2 rfl) ?_
          refine rr_callV (pc := 71) (va_runV (As := []) (rest := []) ⟨hx, hb, hml, hown, hts⟩ (c_X8_makeRoom l K A H.size wo mo bh1 my1 lg1 rw ld room1 bF2 yF1 gF1 wF dF mk2 mn2 ms2 b2 cap2 ks2 no2 sl2 kn2 nt2 hM2 hrp1 hrm1.2.2 (fun q h => hA q (Nat.le_trans hS.1 h)) hD) (cwV 0 hts gX8_standing_X8_makeRoom rfl rfl rfl (by decide +kernel) ⟨Nat.le_of_ble_eq_true rfl, Nat.le_of_ble_eq_true rfl⟩) (rr_preV hKK (⟨rfl, hP⟩) (va_recv hKK.1 hP (ci := 8) (q0 := 0) rfl rfl)) rfl rfl hl.1 rfl (lv_room (Nat.le_of_ble_eq_true rfl)) dX8_standing_71 ⟨by show (cap1 - cap) + (room1 - room) + ((lkP (ldS k n E al) k lk (kn1.length - lk) (kn1, cap1)).2 - cap1) + ((rmN room1 cap2) - room1) ≤ ((stF (ldS k n E al) k al cap nn).2 - cap) + ((stRm (ldS k n E al) k al cap nn room) - room); omega, by show 8 * (cap1 - cap) + 12 * (room1 - room) + 8 * ((lkP (ldS k n E al) k lk (kn1.length - lk) (kn1, cap1)).2 - cap1) + 12 * ((rmN room1 cap2) - room1) ≤ 8 * ((stF (ldS k n E al) k al cap nn).2 - cap) + 12 * ((stRm (ldS k n E al) k al cap nn room) - room); omega⟩) hS (fun _ h => h) (fun H locs hY hsz hfr hS => ?_)
          obtain ⟨bh3, my3, lg3, bF3, yF3, gF3, hbe3, hye3, hP, hD⟩ := hY
          have hP : va_P K.1 vwCl (WW3 K wo mo bh3 my3 lg3 rw ld (rmN room1 cap2) bF3 yF3 gF3 wF dF ++ MW3 K mo mk2 mn2 ms2 ((kn2.map nI).length) b2 cap2 ks2 no2 sl2) H := hP
          have hbk3 : BOK (ldS k n E al) k kn2 bF3 kn1.length := BOK_congr hk4 hbk2 (fun j hj => hbe3 j (by omega))
          refine lv_aload_n hx hb (pc := 74) dX8_standing_74 rfl (lv_at hl 2 rfl) ?_
          refine lv_aload_n hx hb (pc := 75) dX8_standing_75 rfl (lv_at hl 3 rfl) ?_
          refine va_get (v := .int (nI k)) hx hb hts (inX8_standing_1) hown hKK.1 (rr_ro (A := A) hG hGA hS) 0 rfl rfl 0 (by decide) (hts _ (List.mem_of_getElem? (i := 5) (by decide +kernel))) (fun _ h9 => h9) rfl (pc := 76) dX8_standing_76 ?_
          refine lv_iload hx hb (pc := 79) dX8_standing_79 (lv_at hl 1 rfl) ?_
          refine rr_callV (pc := 81) (va_runV (As := [.int (nI k), .int (nI kn1.length)]) (rest := []) ⟨hx, hb, hml, hown, hts⟩ (c_X8_countLonger l K A wo mo bh3 my3 lg3 rw ld (rmN room1 cap2) bF3 yF3 gF3 wF dF mk2 mn2 ms2 b2 cap2 ks2 no2 sl2 kn2 nt2 k kn1.length (ldS k n E al) hM2 hk4 (by omega) (by have := hM2.1; omega) (by have := hM2.2.2.1; rw [rmN_max]; omega) hbk3 hD) (cwV 2 hts gX8_standing_X8_countLonger rfl rfl rfl (by decide +kernel) ⟨Nat.le_of_ble_eq_true rfl, Nat.le_of_ble_eq_true rfl⟩) (rr_preV hKK (hP) (va_recv hKK.1 hP (ci := 8) (q0 := 0) rfl rfl)) rfl rfl hl.1 rfl (lv_room (Nat.le_of_ble_eq_true rfl)) dX8_standing_81 ⟨by show (cap1 - cap) + (room1 - room) + ((lkP (ldS k n E al) k lk (kn1.length - lk) (kn1, cap1)).2 - cap1) + ((rmN room1 cap2) - room1) + 0 ≤ ((stF (ldS k n E al) k al cap nn).2 - cap) + ((stRm (ldS k n E al) k al cap nn room) - room); omega, by show 8 * (cap1 - cap) + 12 * (room1 - room) + 8 * ((lkP (ldS k n E al) k lk (kn1.length - lk) (kn1, cap1)).2 - cap1) + 12 * ((rmN room1 cap2) - room1) + 0 ≤ 8 * ((stF (ldS k n E al) k al cap nn).2 - cap) + 12 * ((stRm (ldS k n E al) k al cap nn room) - room); omega⟩) hS (fun _ h => h) (fun H locs hY hsz hfr hS => ?_)
          obtain ⟨gF4, hS4, hP, hD⟩ := hY
          have hP : va_P K.1 vwCl (WW3 K wo mo bh3 lg3 my3 rw ld (rmN room1 cap2) bF3 gF4 yF3 wF dF ++ MW3 K mo mk2 mn2 ms2 ((kn2.map nI).length) b2 cap2 ks2 no2 sl2) H := hP
          have hS5 : sL kn2.length (fun j => gF4 j * cntL (ldS k n E al) k (nn - (i + 1)) (kn2.getD j 0)) = cntL (ldS k n E al) k nn al := by
            rw [st_step (sb := (ldS k n E al)) (k := k) (kn1 := kn1) (y1 := yF1) hS4 (fun j hj => hye3 j (by omega)) hgd2, show nn - (i + 1) + 1 = nn - i by omega]
            exact hS1
          refine lv_iinc (v := nI (i + 1)) (lv' := [(4, .int (nI (i + 1))), (3, .int (nI kn1.length)), (5, .int (nI kn1.length)), (0, .ref wo), (1, .ref go), (2, .int (nI nn))]) hx hb (pc := 84) dX8_standing_84 hl (k := 5) rfl (rr_inc _) (by decide) rfl (fun ls hl => ?_)
          refine lv_goto (tgt := 44) hx hb (pc := 87) dX8_standing_87 (by decide) ?_
          refine W.widen (k := (cap2 - cap) + ((rmN room1 cap2) - room)) (n := 8 * (cap2 - cap) + 12 * ((rmN room1 cap2) - room)) (by omega) (by omega) ?_
          exact ih44 (i + 1) kn1.length kn2 nt2 cap2 mk2 mn2 ms2 b2 ks2 no2 sl2 bh3 lg3 my3 (rmN room1 cap2) bF3 gF4 yF3 _ _ hP hD hS (by omega) (hM2) (by omega) (hnz2) (hln2) (he2) (hbk3) (by rw [hr1, rmN_max, rmN_max, rmN_max]; omega) (by omega) (hS5) ls (lv_sub hl [3, 4, 5, 1, 0] rfl)
    have hc00 : capN cap ([] : List Int32).length = capN cap 0 := rfl
    have hone : sL [al].length (fun j => va_up yF1 0 1 j * cntL (ldS k n E al) k (nn - 0) ([al].getD j 0)) = cntL (ldS k n E al) k nn al := st_one (W := fun j => cntL (ldS k n E al) k (nn - 0) ([al].getD j 0))
    refine W.widen (k := (capN cap 0 - cap) + ((rmN room (capN cap 0)) - room)) (n := 8 * (capN cap 0 - cap) + 12 * ((rmN room (capN cap 0)) - room)) (by omega) (by omega) ?_
    exact L44 (nn + 1) 0 0 ([al]) ([0]) (capN cap 0) mk1 mn1 ms1 b1 ks1 no1 sl1 bh1 my1 lg1 (rmN room (capN cap 0)) bF1 (va_up yF1 0 1) gF1 _ _ hP hD hS (by omega) (hM1) (Nat.zero_le _) (fun y hy => by rw [List.mem_singleton.mp hy]; exact ⟨c11, sub_refl _⟩) (Nat.zero_le _) (rfl) (fun q hq => absurd hq (Nat.not_lt_zero _)) (rfl) (by omega) (hone) ls (lv_sub hl [2, 3, 4, 1, 0] rfl)
  · refine lv_lconst (v := 0) hx hb (pc := 14) dX8_standing_14 (by decide) ?_
    have hR : (stF (ldS k n E al) k al cap nn) = ([], cap) := by unfold stF; rw [if_pos c11]
    have hR2 : (stRm (ldS k n E al) k al cap nn room) = room := by unfold stRm; rw [if_pos c11]
    exact hret.2.1 _ _ 0 0 15 _ (0) dX8_standing_15 (Nat.zero_le _) (Nat.zero_le _) hS (⟨bh, my, lg, bF, yF, gF, mk, mn, ms, b0, ks, no, sl0, [], by rw [hR]; exact hM0, by rw [hR, hR2]; exact hP, by rw [hR, hR2]; exact hD, by rw [if_pos c11]⟩) rfl

