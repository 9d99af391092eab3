abbrev rmX9_forbid : Room := { frames := 1, cells := 0, slots := 0, locals := 23 }
theorem inX9_forbid_0 : ∀ w ∈ wsX00, w ∈ wsX9_forbid := fun _ h => List.mem_cons_of_mem _ (List.mem_append_right _ h)
theorem inX9_forbid_9 : ∀ w ∈ wsX90, w ∈ wsX9_forbid := fun _ h => List.mem_cons_of_mem _ (List.mem_append_left _ (List.mem_append_right _ h))
set_option maxHeartbeats 4000000 in
set_option maxRecDepth 100000 in
theorem c_X9_forbid (l : Launch) (K : rr_K) (A : Nat → Prop) (sz : Nat) (ca : Nat → Nat) (bh my lg mk mn ms xa xb xv xw ns wl nf wd room mb cap : Nat) (gF : Nat → Option Nat) (WD FL FW BR TD wB dB no sl wS wR wP wV wW pR : Nat → Nat) (bF : Nat → Int32) (yB gB : Nat → Int64) (ks pF : Nat → Int32) (kn : List Nat) (lp ll : Int32) (hnf : nf ≤ 8) (hwl : wl ≤ 30) (hA : ∀ q, sz ≤ q → A q) (hD : va_D A (XC K ca bh my lg mk mn ms xa xb xv xw ns wl nf wd room mb cap gF WD FL FW BR TD wB dB no sl wS wR wP wV wW pR bF yB gB ks pF kn lp ll)) : MetR l K yX9_forbid wsX9_forbid rmX9_forbid [.ref (ca 0)] (fun H => H.size = sz ∧ va_P K.1 vwCl (XC K ca bh my lg mk mn ms xa xb xv xw ns wl nf wd room mb cap gF WD FL FW BR TD wB dB no sl wS wR wP wV wW pR bF yB gB ks pF kn lp ll) H) A (fun v H => v = .int (forA wl nf) ∧ va_P K.1 vwCl (XC K ca bh my lg mk mn ms xa xb xv xw ns wl (cond (forOK wl nf) (nf + 1) nf) wd room mb cap gF WD (cond (forOK wl nf) (va_up FL nf wl) FL) (cond (forOK wl nf) (putN FW WD (nf * 5) wl) FW) BR TD wB dB no sl wS wR wP wV wW pR bF yB gB ks pF kn lp ll) H ∧ va_D A (XC K ca bh my lg mk mn ms xa xb xv xw ns wl (cond (forOK wl nf) (nf + 1) nf) wd room mb cap gF WD (cond (forOK wl nf) (va_up FL nf wl) FL) (cond (forOK wl nf) (putN FW WD (nf * 5) wl) FW) BR TD wB dB no sl wS wR wP wV wW pR bF yB gB ks pF kn lp ll)) 0 0 := by
  refine metR_of (cc := cX9_forbid) (maxL := 1) (ret := (some .int)) (rt := .int) (by decide) rfl rfl rfl rfl (Nat.le_of_ble_eq_true rfl) ?_
  intro p e s m args below meth c Q ls hEnt hKK hX hret hl
  obtain ⟨hx, hb, hml, hown, hts⟩ := hEnt
  obtain ⟨hsz0, hX⟩ := hX
  have hA : ∀ q, s.heap.size ≤ q → A q := fun q h => hA q (hsz0 ▸ h)
  have hP : va_P K.1 vwCl (XC K ca bh my lg mk mn ms xa xb xv xw ns wl nf wd room mb cap gF WD FL FW BR TD wB dB no sl wS wR wP wV wW pR bF yB gB ks pF kn lp ll) s.heap := hX
  have hl : lv_has ls 1 [(0, .ref (ca 0))] := hl
  have hS : va_S A s.heap s.heap [] := va_S.rf
  refine lv_aload_n hx hb (pc := 0) dX9_forbid_0 rfl (lv_at hl 0 rfl) ?_
  refine va_get (v := .int (nI wl)) hx hb hts (inX9_forbid_9) hown hKK.1 hP 0 rfl rfl 3 (by decide) (hts _ (List.mem_of_getElem? (i := 1) (by decide +kernel))) (fun _ h9 => h9) rfl (pc := 1) dX9_forbid_1 ?_
  refine lv_iconst (v := nI 1) hx hb (pc := 4) dX9_forbid_4 (by decide) ?_
  refine lv_iconst (v := nI 5) hx hb (pc := 5) dX9_forbid_5 (by decide) ?_
  refine rr_callP (rv := .int (bI (rrin (nI wl) (nI 1) (nI 5)))) (pc := 6) (va_runS (As := [.int (nI wl), .int (nI 1), .int (nI 5)]) (rest := []) ⟨hx, hb, hml, hown, hts⟩ (c_X9_within l K (nI wl) (nI 1) (nI 5)) (cwS 3 hts gX9_forbid_X9_within rfl rfl rfl (by decide +kernel) ⟨Nat.le_of_ble_eq_true rfl, Nat.le_of_ble_eq_true rfl⟩) (rr_preS hKK (trivial)) rfl rfl hl.1 rfl (lv_room (Nat.le_of_ble_eq_true rfl)) dX9_forbid_6 ⟨Nat.le_refl _, Nat.le_refl _⟩) ?_
  refine nv_if_ne_b (a := (rrin (nI wl) (nI 1) (nI 5))) (tgt := 15) hx hb (pc := 9) dX9_forbid_9 (by decide) (fun c9 => ?_) (fun c9 => ?_)
  · have hc : 1 ≤ wl ∧ wl ≤ 5 := by
      obtain ⟨j, h1, h2, h3⟩ := rrin_Nat (by decide) (by decide) c9
      have h4 : wl = j := nI_inj (by omega) (by omega) h3
      omega
    refine lv_aload_n hx hb (pc := 15) dX9_forbid_15 rfl (lv_at hl 0 rfl) ?_
    refine va_get (v := .ref (ca 3)) hx hb hts (inX9_forbid_9) hown hKK.1 hP 0 rfl rfl 4 (by decide) (hts _ (List.mem_of_getElem? (i := 2) (by decide +kernel))) (fun _ h9 => h9) rfl (pc := 16) dX9_forbid_16 ?_
    refine va_get (v := .int (nI nf)) hx hb hts (inX9_forbid_0) hown hKK.1 hP 3 rfl rfl 0 (by decide) (hts _ (List.mem_of_getElem? (i := 3) (by decide +kernel))) (fun _ h9 => h9) rfl (pc := 19) dX9_forbid_19 ?_
    refine lv_bipush (v := nI 8) hx hb (pc := 22) dX9_forbid_22 (by decide) ?_
    refine nv_icmp_lt (a := nf) (b := 8) (tgt := 30) hx hb (pc := 24) dX9_forbid_24 (by decide) (by omega) (by omega) (fun c24 => ?_) (fun c24 => ?_)
    · refine lv_aload_n hx hb (pc := 30) dX9_forbid_30 rfl (lv_at hl 0 rfl) ?_
      refine va_get (v := .ref (ca 3)) hx hb hts (inX9_forbid_9) hown hKK.1 hP 0 rfl rfl 4 (by decide) (hts _ (List.mem_of_getElem? (i := 2) (by decide +kernel))) (fun _ h9 => h9) rfl (pc := 31) dX9_forbid_31 ?_
      refine lv_aload_n hx hb (pc := 34) dX9_forbid_34 rfl (lv_at hl 0 rfl) ?_
      refine va_get (v := .ref (ca 2)) hx hb hts (inX9_forbid_9) hown hKK.1 hP 0 rfl rfl 2 (by decide) (hts _ (List.mem_of_getElem? (i := 4) (by decide +kernel))) (fun _ h9 => h9) rfl (pc := 35) dX9_forbid_35 ?_
      refine lv_aload_n hx hb (pc := 38) dX9_forbid_38 rfl (lv_at hl 0 rfl) ?_
      refine va_get (v := .int (nI wl)) hx hb hts (inX9_forbid_9) hown hKK.1 hP 0 rfl rfl 3 (by decide) (hts _ (List.mem_of_getElem? (i := 1) (by decide +kernel))) (fun _ h9 => h9) rfl (pc := 39) dX9_forbid_39 ?_
      have hPr : va_P K.1 vwCl (RA K (ca 2) 30 WD) s.heap := hP.sub (ws' := RA K (ca 2) 30 WD) [2] rfl
      have hrr := rr_ro2 (wc := BW K (ca 3) (ca 4) (ca 5) (ca 6) nf FL FW BR) (wr := RA K (ca 2) 30 WD) hP hD [3, 4, 5, 6] [2] rfl rfl (by decide)
      have hPc := hP.sub (ws' := BW K (ca 3) (ca 4) (ca 5) (ca 6) nf FL FW BR) [3, 4, 5, 6] rfl
      have hDc := (hD.sub (ws' := BW K (ca 3) (ca 4) (ca 5) (ca 6) nf FL FW BR) [3, 4, 5, 6] (by decide) rfl).self (sz := s.heap.size)
      have hFc := va_free (wc := BW K (ca 3) (ca 4) (ca 5) (ca 6) nf FL FW BR) hD hS hA [3, 4, 5, 6] rfl
      refine rr_callV (pc := 42) (va_runV (As := [.ref (ca 2), .int (nI wl)]) (rest := []) ⟨hx, hb, hml, hown, hts⟩ (c_X0_add l K (va_A (BW K (ca 3) (ca 4) (ca 5) (ca 6) nf FL FW BR) s.heap.size) (ca 3) (ca 4) (ca 5) (ca 6) nf FL FW BR (ca 2) wl WD (by omega) hc.2 hDc hrr) (cwV 2 hts gX9_forbid_X0_add rfl rfl rfl (by decide +kernel) ⟨Nat.le_of_ble_eq_true rfl, Nat.le_of_ble_eq_true rfl⟩) (rr_preV hKK (⟨hPc, hPr⟩) (va_recv hKK.1 hP (ci := 0) (q0 := 3) rfl rfl)) rfl rfl hl.1 rfl (lv_room (Nat.le_of_ble_eq_true rfl)) dX9_forbid_42 ⟨by omega, by omega⟩) hS (hFc) (fun H locs hY hsz hfr hS => ?_)
      have hP1 := hY
      have hD1 := rr_D (ws' := BW K (ca 3) (ca 4) (ca 5) (ca 6) (nf + 1) (va_up FL nf wl) (putN FW WD (nf * 5) wl) BR) hDc rfl
      obtain ⟨hP, hD⟩ := va_join (wr := [(ca 0, .inr (9, [.ref (ca 1), .int (nI ns), .ref (ca 2), .int (nI wl), .ref (ca 3), .ref (ca 7), .ref (ca 9), .ref (ca 14), .ref (ca 13), .ref (ca 15), .ref (ca 17)])), (ca 1, .inl (K.2.2.2, 6, .inr (.inr (.inr (.inr (gF)))))), (ca 2, .inl (K.2.1, 30, .inl (fun j => nI (WD j)))), (ca 7, .inr (4, [.int (nI wd), .ref (ca 8)])), (ca 8, .inl (K.2.1, 64, .inl (fun j => nI (TD j)))), (ca 9, .inr (8, [.ref (ca 12), .ref bh, .ref my, .ref lg, .ref (ca 10), .ref (ca 11)])), (bh, .inl (K.2.1, 4 * room, .inl (bF))), (my, .inl (K.2.2.1, room, .inr (.inl (yB)))), (lg, .inl (K.2.2.1, room, .inr (.inl (gB)))), (ca 10, .inl (K.2.1, 7, .inl (fun j => nI (wB j)))), (ca 11, .inl (K.2.1, 8, .inl (fun j => nI (dB j)))), (ca 12, .inr (3, [.int (nI ((kn.map nI).length)), .ref mk, .ref mn, .ref ms, .int (nI mb)])), (mk, .inl (K.2.1, cap, .inl (ks))), (mn, .inl (K.2.1, cap, .inl (fun j => nI (no j)))), (ms, .inl (K.2.1, 2 * cap, .inl (fun j => nI (sl j)))), (ca 13, .inr (2, [.ref (ca 12)])), (ca 14, .inr (5, [.ref (ca 12), .int lp, .int ll])), (ca 15, .inr (7, [.ref (ca 16), .ref xa, .ref xb, .ref xv, .ref xw])), (ca 16, .inl (K.2.2.1, 256, .inr (.inl (fun j => lN (wS j))))), (xa, .inl (K.2.2.1, 256, .inr (.inl (fun j => lN (wR j))))), (xb, .inl (K.2.2.1, 256, .inr (.inl (fun j => lN (wP j))))), (xv, .inl (K.2.2.1, 16, .inr (.inl (fun j => lN (wV j))))), (xw, .inl (K.2.2.1, 16, .inr (.inl (fun j => lN (wW j))))), (ca 17, .inr (6, [.ref (ca 18), .ref (ca 19)])), (ca 18, .inl (K.2.1, 16, .inl (fun j => nI (pR j)))), (ca 19, .inl (K.2.1, 16, .inl (pF)))]) (w1 := [(ca 3, .inr (0, [.int (nI ((nf + 1))), .ref (ca 4), .ref (ca 5), .ref (ca 6)])), (ca 4, .inl (K.2.1, 8, .inl (fun j => nI (((va_up FL nf wl)) j)))), (ca 5, .inl (K.2.1, 40, .inl (fun j => nI (((putN FW WD (nf * 5) wl)) j)))), (ca 6, .inl (K.2.1, 5, .inl (fun j => nI (BR j))))]) hP hD [3, 4, 5, 6] [0, 1, 2, 7, 8, 9, 10, 11, 12, 13, 14, 15, 16, 17, 18, 19, 20, 21, 22, 23, 24, 25, 26, 27, 28, 29] rfl rfl (by decide) (by decide) hfr hFc hP1 hD1
      have hP : va_P K.1 vwCl ([(ca 0, .inr (9, [.ref (ca 1), .int (nI ns), .ref (ca 2), .int (nI wl), .ref (ca 3), .ref (ca 7), .ref (ca 9), .ref (ca 14), .ref (ca 13), .ref (ca 15), .ref (ca 17)])), (ca 1, .inl (K.2.2.2, 6, .inr (.inr (.inr (.inr (gF)))))), (ca 2, .inl (K.2.1, 30, .inl (fun j => nI (WD j)))), (ca 7, .inr (4, [.int (nI wd), .ref (ca 8)])), (ca 8, .inl (K.2.1, 64, .inl (fun j => nI (TD j)))), (ca 9, .inr (8, [.ref (ca 12), .ref bh, .ref my, .ref lg, .ref (ca 10), .ref (ca 11)])), (bh, .inl (K.2.1, 4 * room, .inl (bF))), (my, .inl (K.2.2.1, room, .inr (.inl (yB)))), (lg, .inl (K.2.2.1, room, .inr (.inl (gB)))), (ca 10, .inl (K.2.1, 7, .inl (fun j => nI (wB j)))), (ca 11, .inl (K.2.1, 8, .inl (fun j => nI (dB j)))), (ca 12, .inr (3, [.int (nI ((kn.map nI).length)), .ref mk, .ref mn, .ref ms, .int (nI mb)])), (mk, .inl (K.2.1, cap, .inl (ks))), (mn, .inl (K.2.1, cap, .inl (fun j => nI (no j)))), (ms, .inl (K.2.1, 2 * cap, .inl (fun j => nI (sl j)))), (ca 13, .inr (2, [.ref (ca 12)])), (ca 14, .inr (5, [.ref (ca 12), .int lp, .int ll])), (ca 15, .inr (7, [.ref (ca 16), .ref xa, .ref xb, .ref xv, .ref xw])), (ca 16, .inl (K.2.2.1, 256, .inr (.inl (fun j => lN (wS j))))), (xa, .inl (K.2.2.1, 256, .inr (.inl (fun j => lN (wR j))))), (xb, .inl (K.2.2.1, 256, .inr (.inl (fun j => lN (wP j))))), (xv, .inl (K.2.2.1, 16, .inr (.inl (fun j => lN (wV j))))), (xw, .inl (K.2.2.1, 16, .inr (.inl (fun j => lN (wW j))))), (ca 17, .inr (6, [.ref (ca 18), .ref (ca 19)])), (ca 18, .inl (K.2.1, 16, .inl (fun j => nI (pR j)))), (ca 19, .inl (K.2.1, 16, .inl (pF))), (ca 3, .inr (0, [.int (nI ((nf + 1))), .ref (ca 4), .ref (ca 5), .ref (ca 6)])), (ca 4, .inl (K.2.1, 8, .inl (fun j => nI (((va_up FL nf wl)) j)))), (ca 5, .inl (K.2.1, 40, .inl (fun j => nI (((putN FW WD (nf * 5) wl)) j)))), (ca 6, .inl (K.2.1, 5, .inl (fun j => nI (BR j))))]) H := hP
      have hD : va_D A ([(ca 0, .inr (9, [.ref (ca 1), .int (nI ns), .ref (ca 2), .int (nI wl), .ref (ca 3), .ref (ca 7), .ref (ca 9), .ref (ca 14), .ref (ca 13), .ref (ca 15), .ref (ca 17)])), (ca 1, .inl (K.2.2.2, 6, .inr (.inr (.inr (.inr (gF)))))), (ca 2, .inl (K.2.1, 30, .inl (fun j => nI (WD j)))), (ca 7, .inr (4, [.int (nI wd), .ref (ca 8)])), (ca 8, .inl (K.2.1, 64, .inl (fun j => nI (TD j)))), (ca 9, .inr (8, [.ref (ca 12), .ref bh, .ref my, .ref lg, .ref (ca 10), .ref (ca 11)])), (bh, .inl (K.2.1, 4 * room, .inl (bF))), (my, .inl (K.2.2.1, room, .inr (.inl (yB)))), (lg, .inl (K.2.2.1, room, .inr (.inl (gB)))), (ca 10, .inl (K.2.1, 7, .inl (fun j => nI (wB j)))), (ca 11, .inl (K.2.1, 8, .inl (fun j => nI (dB j)))), (ca 12, .inr (3, [.int (nI ((kn.map nI).length)), .ref mk, .ref mn, .ref ms, .int (nI mb)])), (mk, .inl (K.2.1, cap, .inl (ks))), (mn, .inl (K.2.1, cap, .inl (fun j => nI (no j)))), (ms, .inl (K.2.1, 2 * cap, .inl (fun j => nI (sl j)))), (ca 13, .inr (2, [.ref (ca 12)])), (ca 14, .inr (5, [.ref (ca 12), .int lp, .int ll])), (ca 15, .inr (7, [.ref (ca 16), .ref xa, .ref xb, .ref xv, .ref xw])), (ca 16, .inl (K.2.2.1, 256, .inr (.inl (fun j => lN (wS j))))), (xa, .inl (K.2.2.1, 256, .inr (.inl (fun j => lN (wR j))))), (xb, .inl (K.2.2.1, 256, .inr (.inl (fun j => lN (wP j))))), (xv, .inl (K.2.2.1, 16, .inr (.inl (fun j => lN (wV j))))), (xw, .inl (K.2.2.1, 16, .inr (.inl (fun j => lN (wW j))))), (ca 17, .inr (6, [.ref (ca 18), .ref (ca 19)])), (ca 18, .inl (K.2.1, 16, .inl (fun j => nI (pR j)))), (ca 19, .inl (K.2.1, 16, .inl (pF))), (ca 3, .inr (0, [.int (nI ((nf + 1))), .ref (ca 4), .ref (ca 5), .ref (ca 6)])), (ca 4, .inl (K.2.1, 8, .inl (fun j => nI (((va_up FL nf wl)) j)))), (ca 5, .inl (K.2.1, 40, .inl (fun j => nI (((putN FW WD (nf * 5) wl)) j)))), (ca 6, .inl (K.2.1, 5, .inl (fun j => nI (BR j))))]) := hD
      have hP : va_P K.1 vwCl (XC K ca bh my lg mk mn ms xa xb xv xw ns wl (nf + 1) wd room mb cap gF WD (va_up FL nf wl) (putN FW WD (nf * 5) wl) BR TD wB dB no sl wS wR wP wV wW pR bF yB gB ks pF kn lp ll) H := hP.sub (ws' := XC K ca bh my lg mk mn ms xa xb xv xw ns wl (nf + 1) wd room mb cap gF WD (va_up FL nf wl) (putN FW WD (nf * 5) wl) BR TD wB dB no sl wS wR wP wV wW pR bF yB gB ks pF kn lp ll) [0, 1, 2, 26, 27, 28, 29, 3, 4, 5, 6, 7, 8, 9, 10, 11, 12, 13, 14, 15, 16, 17, 18, 19, 20, 21, 22, 23, 24, 25] rfl
      have hD : va_D A (XC K ca bh my lg mk mn ms xa xb xv xw ns wl (nf + 1) wd room mb cap gF WD (va_up FL nf wl) (putN FW WD (nf * 5) wl) BR TD wB dB no sl wS wR wP wV wW pR bF yB gB ks pF kn lp ll) := hD.sub (ws' := XC K ca bh my lg mk mn ms xa xb xv xw ns wl (nf + 1) wd room mb cap gF WD (va_up FL nf wl) (putN FW WD (nf * 5) wl) BR TD wB dB no sl wS wR wP wV wW pR bF yB gB ks pF kn lp ll) [0, 1, 2, 26, 27, 28, 29, 3, 4, 5, 6, 7, 8, 9, 10, 11, 12, 13, 14, 15, 16, 17, 18, 19, 20, 21, 22, 23, 24, 25] (by decide) rfl
      have hD : va_D A (XC K ca bh my lg mk mn ms xa xb xv xw ns wl (nf + 1) wd room mb cap gF WD (va_up FL nf wl) (putN FW WD (nf * 5) wl) BR TD wB dB no sl wS wR wP wV wW pR bF yB gB ks pF kn lp ll) := hD
      have hP : va_P K.1 vwCl (XC K ca bh my lg mk mn ms xa xb xv xw ns wl (nf + 1) wd room mb cap gF WD (va_up FL nf wl) (putN FW WD (nf * 5) wl) BR TD wB dB no sl wS wR wP wV wW pR bF yB gB ks pF kn lp ll) H := hP
      refine lv_aload_n hx hb (pc := 45) dX9_forbid_45 rfl (lv_at hl 0 rfl) ?_
      refine va_get (v := .ref (ca 3)) hx hb hts (inX9_forbid_9) hown hKK.1 hP 0 rfl rfl 4 (by decide) (hts _ (List.mem_of_getElem? (i := 2) (by decide +kernel))) (fun _ h9 => h9) rfl (pc := 46) dX9_forbid_46 ?_
      refine va_get (v := .int (nI ((nf + 1)))) hx hb hts (inX9_forbid_0) hown hKK.1 hP 3 rfl rfl 0 (by decide) (hts _ (List.mem_of_getElem? (i := 3) (by decide +kernel))) (fun _ h9 => h9) rfl (pc := 49) dX9_forbid_49 ?_
      have hok : forOK wl nf = true := by unfold forOK; rw [decide_eq_true hc, decide_eq_false (by omega)]; rfl
      exact hret.1 _ _ 0 0 52 _ (nI (nf + 1)) dX9_forbid_52 (by omega) (by omega) hS (⟨by unfold forA; rw [if_pos hc, if_neg (by omega)], by rw [hok]; exact hP, by rw [hok]; exact hD⟩) (rfl)
    · refine lv_bipush (v := -4) hx hb (pc := 27) dX9_forbid_27 (by decide) ?_
      have e8 : nf = 8 := by omega
      have hno : forOK wl nf = false := by unfold forOK; rw [decide_eq_true hc, decide_eq_true e8]; rfl
      exact hret.1 _ _ 0 0 29 _ (-4) dX9_forbid_29 (by omega) (by omega) hS (⟨by unfold forA; rw [if_pos hc, if_pos e8], by rw [hno]; exact hP, by rw [hno]; exact hD⟩) (rfl)
  · refine lv_bipush (v := -3) hx hb (pc := 12) dX9_forbid_12 (by decide) ?_
    have hc := rrin_out (by omega) (by decide) (by decide) c9
    have hno : forOK wl nf = false := by unfold forOK; rw [decide_eq_false hc]; rfl
    exact hret.1 _ _ 0 0 14 _ (-3) dX9_forbid_14 (by omega) (by omega) hS (⟨by unfold forA; rw [if_neg hc], by rw [hno]; exact hP, by rw [hno]; exact hD⟩) (rfl)

abbrev rmX9_tells : Room := { frames := 1, cells := 0, slots := 0, locals := 22 }
theorem inX9_tells_4 : ∀ w ∈ wsX40, w ∈ wsX9_tells := fun _ h => List.mem_cons_of_mem _ (List.mem_append_right _ h)
theorem inX9_tells_9 : ∀ w ∈ wsX90, w ∈ wsX9_tells := fun _ h => List.mem_cons_of_mem _ (List.mem_append_left _ (List.mem_append_right _ h))
set_option maxHeartbeats 4000000 in
set_option maxRecDepth 100000 in
theorem c_X9_tells (l : Launch) (K : rr_K) (A : Nat → Prop) (sz : Nat) (ca : Nat → Nat) (bh my lg mk mn ms xa xb xv xw ns wl nf wd room mb cap : Nat) (gF : Nat → Option Nat) (WD FL FW BR TD wB dB no sl wS wR wP wV wW pR : Nat → Nat) (bF : Nat → Int32) (yB gB : Nat → Int64) (ks pF : Nat → Int32) (kn : List Nat) (lp ll : Int32) (x y : Int32) (hw : wd ≤ 3) (hA : ∀ q, sz ≤ q → A q) (hD : va_D A (XC K ca bh my lg mk mn ms xa xb xv xw ns wl nf wd room mb cap gF WD FL FW BR TD wB dB no sl wS wR wP wV wW pR bF yB gB ks pF kn lp ll)) : MetR l K yX9_tells wsX9_tells rmX9_tells [.ref (ca 0), .int x, .int y] (fun H => H.size = sz ∧ va_P K.1 vwCl (XC K ca bh my lg mk mn ms xa xb xv xw ns wl nf wd room mb cap gF WD FL FW BR TD wB dB no sl wS wR wP wV wW pR bF yB gB ks pF kn lp ll) H) A (fun v H => v = .int (telA wd TD x y) ∧ va_P K.1 vwCl (XC K ca bh my lg mk mn ms xa xb xv xw ns wl nf wd room mb cap gF WD FL FW BR (cond (telOK wd x y) (va_up TD (cN x) (cN y)) TD) wB dB no sl wS wR wP wV wW pR bF yB gB ks pF kn lp ll) H ∧ va_D A (XC K ca bh my lg mk mn ms xa xb xv xw ns wl nf wd room mb cap gF WD FL FW BR (cond (telOK wd x y) (va_up TD (cN x) (cN y)) TD) wB dB no sl wS wR wP wV wW pR bF yB gB ks pF kn lp ll)) 0 0 := by
  refine metR_of (cc := cX9_tells) (maxL := 4) (ret := (some .int)) (rt := .int) (by decide) rfl rfl rfl rfl (Nat.le_of_ble_eq_true rfl) ?_
  intro p e s m args below meth c Q ls hEnt hKK hX hret hl
  obtain ⟨hx, hb, hml, hown, hts⟩ := hEnt
  obtain ⟨hsz0, hX⟩ := hX
  have hA : ∀ q, s.heap.size ≤ q → A q := fun q h => hA q (hsz0 ▸ h)
  have hP : va_P K.1 vwCl (XC K ca bh my lg mk mn ms xa xb xv xw ns wl nf wd room mb cap gF WD FL FW BR TD wB dB no sl wS wR wP wV wW pR bF yB gB ks pF kn lp ll) s.heap := hX
  have hl : lv_has ls 4 [(0, .ref (ca 0)), (1, .int x), (2, .int y)] := hl
  have hS : va_S A s.heap s.heap [] := va_S.rf
  have h64 := p2w hw
  refine lv_iload_n hx hb (pc := 0) dX9_tells_0 rfl (lv_at hl 1 rfl) ?_
  refine lv_iconst (v := nI 0) hx hb (pc := 1) dX9_tells_1 (by decide) ?_
  refine lv_aload_n hx hb (pc := 2) dX9_tells_2 rfl (lv_at hl 0 rfl) ?_
  refine va_get (v := .ref (ca 7)) hx hb hts (inX9_tells_9) hown hKK.1 hP 0 rfl rfl 5 (by decide) (hts _ (List.mem_of_getElem? (i := 1) (by decide +kernel))) (fun _ h9 => h9) rfl (pc := 3) dX9_tells_3 ?_
  refine rr_callP (rv := .int (nI (2 ^ (2 * wd)))) (pc := 6) (va_runV (As := []) (rest := [.int (nI 0), .int x]) ⟨hx, hb, hml, hown, hts⟩ (c_X4_rows l K (ca 7) (ca 8) wd TD hw) (cwV 0 hts gX9_tells_X4_rows rfl rfl rfl (by decide +kernel) ⟨Nat.le_of_ble_eq_true rfl, Nat.le_of_ble_eq_true rfl⟩) (rr_preV hKK (hP.sub (ws' := PW K (ca 7) (ca 8) wd TD) [7, 8] rfl) (va_recv hKK.1 hP (ci := 4) (q0 := 7) rfl rfl)) rfl rfl hl.1 rfl (lv_room (Nat.le_of_ble_eq_true rfl)) dX9_tells_6 ⟨Nat.le_refl _, Nat.le_refl _⟩) ?_
  refine lv_iconst (v := nI 1) hx hb (pc := 9) dX9_tells_9 (by decide) ?_
  refine lv_isub hx hb (pc := 10) dX9_tells_10 ?_
  refine rr_callP (rv := .int (bI (rrin x (nI 0) ((nI (2 ^ (2 * wd))) - (nI 1))))) (pc := 11) (va_runS (As := [.int x, .int (nI 0), .int ((nI (2 ^ (2 * wd))) - (nI 1))]) (rest := []) ⟨hx, hb, hml, hown, hts⟩ (c_X9_within l K x (nI 0) ((nI (2 ^ (2 * wd))) - (nI 1))) (cwS 3 hts gX9_tells_X9_within rfl rfl rfl (by decide +kernel) ⟨Nat.le_of_ble_eq_true rfl, Nat.le_of_ble_eq_true rfl⟩) (rr_preS hKK (trivial)) rfl rfl hl.1 rfl (lv_room (Nat.le_of_ble_eq_true rfl)) dX9_tells_11 ⟨Nat.le_refl _, Nat.le_refl _⟩) ?_
  refine nv_if_eq_b (a := (rrin x (nI 0) ((nI (2 ^ (2 * wd))) - (nI 1)))) (tgt := 26) hx hb (pc := 14) dX9_tells_14 (by decide) (fun c14 => ?_) (fun c14 => ?_)
  · refine lv_bipush (v := -2) hx hb (pc := 26) dX9_tells_26 (by decide) ?_
    have hb : telOK wd x y = false := by unfold telOK isS; first | (rw [c14, c23]; rfl) | (rw [c14]; rfl)
    exact hret.1 _ _ 0 0 28 _ (-2) dX9_tells_28 (by omega) (by omega) hS (⟨by unfold telA; rw [if_neg (by rw [hb]; decide)], by rw [hb]; exact hP, by rw [hb]; exact hD⟩) (rfl)
  · refine lv_iload_n hx hb (pc := 17) dX9_tells_17 rfl (lv_at hl 2 rfl) ?_
    refine lv_iconst (v := nI 0) hx hb (pc := 18) dX9_tells_18 (by decide) ?_
    refine lv_iconst (v := nI 3) hx hb (pc := 19) dX9_tells_19 (by decide) ?_
    refine rr_callP (rv := .int (bI (rrin y (nI 0) (nI 3)))) (pc := 20) (va_runS (As := [.int y, .int (nI 0), .int (nI 3)]) (rest := []) ⟨hx, hb, hml, hown, hts⟩ (c_X9_within l K y (nI 0) (nI 3)) (cwS 3 hts gX9_tells_X9_within rfl rfl rfl (by decide +kernel) ⟨Nat.le_of_ble_eq_true rfl, Nat.le_of_ble_eq_true rfl⟩) (rr_preS hKK (trivial)) rfl rfl hl.1 rfl (lv_room (Nat.le_of_ble_eq_true rfl)) dX9_tells_20 ⟨Nat.le_refl _, Nat.le_refl _⟩) ?_
    refine nv_if_ne_b (a := (rrin y (nI 0) (nI 3))) (tgt := 29) hx hb (pc := 23) dX9_tells_23 (by decide) (fun c23 => ?_) (fun c23 => ?_)
    · have hs9 : isS (2 ^ (2 * wd)) x = true := c14
      have hbk : telOK wd x y = true := by unfold telOK; rw [hs9, c23]; rfl
      obtain ⟨j, hj, hxj⟩ := isS_of (by omega) hs9
      obtain ⟨y9, hy1, hy2, hyy⟩ := rrin_Nat (by decide) (by decide) c23
      have ecx : cN x = j := by rw [hxj]; exact cN_nI (by omega)
      have ecy : cN y = y9 := by rw [hyy]; exact cN_nI (by omega)
      refine lv_aload_n hx hb (pc := 29) dX9_tells_29 rfl (lv_at hl 0 rfl) ?_
      refine va_get (v := .ref (ca 7)) hx hb hts (inX9_tells_9) hown hKK.1 hP 0 rfl rfl 5 (by decide) (hts _ (List.mem_of_getElem? (i := 1) (by decide +kernel))) (fun _ h9 => h9) rfl (pc := 30) dX9_tells_30 ?_
      refine va_get (v := .ref (ca 8)) hx hb hts (inX9_tells_4) hown hKK.1 hP 7 rfl rfl 1 (by decide) (hts _ (List.mem_of_getElem? (i := 2) (by decide +kernel))) (fun _ h9 => h9) rfl (pc := 33) dX9_tells_33 ?_
      refine lv_iload_n hx hb (pc := 36) dX9_tells_36 rfl (lv_at hl 1 rfl) ?_
      refine rr_top (v := .int (nI j)) (by rw [hxj]) ?_
      refine nv_iald (v := nI (TD j)) (i := j) hx hb hKK hP 8 rfl (by omega) (by decide) (rfl) (pc := 37) dX9_tells_37 ?_
      refine lv_istore_n (lv' := [(3, .int (nI (TD j))), (0, .ref (ca 0)), (1, .int x), (2, .int y)]) hx hb (pc := 38) dX9_tells_38 rfl hl (by decide) rfl (fun ls hl => ?_)
      refine lv_aload_n hx hb (pc := 39) dX9_tells_39 rfl (lv_at hl 1 rfl) ?_
      refine va_get (v := .ref (ca 7)) hx hb hts (inX9_tells_9) hown hKK.1 hP 0 rfl rfl 5 (by decide) (hts _ (List.mem_of_getElem? (i := 1) (by decide +kernel))) (fun _ h9 => h9) rfl (pc := 40) dX9_tells_40 ?_
      refine va_get (v := .ref (ca 8)) hx hb hts (inX9_tells_4) hown hKK.1 hP 7 rfl rfl 1 (by decide) (hts _ (List.mem_of_getElem? (i := 2) (by decide +kernel))) (fun _ h9 => h9) rfl (pc := 43) dX9_tells_43 ?_
      refine lv_iload_n hx hb (pc := 46) dX9_tells_46 rfl (lv_at hl 2 rfl) ?_
      refine rr_top (v := .int (nI j)) (by rw [hxj]) ?_
      refine lv_iload_n hx hb (pc := 47) dX9_tells_47 rfl (lv_at hl 3 rfl) ?_
      refine rr_top (v := .int (nI y9)) (by rw [hyy]) ?_
      refine nv_iast (f := TD) (x := y9) (ws' := XC K ca bh my lg mk mn ms xa xb xv xw ns wl nf wd room mb cap gF WD FL FW BR (va_up TD j y9) wB dB no sl wS wR wP wV wW pR bF yB gB ks pF kn lp ll) (i := j) hx hb hKK hP hD hS 8 rfl (by omega) (by decide) (rfl) (pc := 48) dX9_tells_48 (fun H locs hP hD hS => ?_)
      refine lv_iload_n hx hb (pc := 49) dX9_tells_49 rfl (lv_at hl 0 rfl) ?_
      exact hret.1 _ _ 0 0 50 _ (nI (TD j)) dX9_tells_50 (by omega) (by omega) hS (⟨by unfold telA; rw [if_pos hbk, ecx], by rw [hbk, ecx, ecy]; exact hP, by rw [hbk, ecx, ecy]; exact hD⟩) (rfl)
    · refine lv_bipush (v := -2) hx hb (pc := 26) dX9_tells_26 (by decide) ?_
      have hb : telOK wd x y = false := by unfold telOK isS; first | (rw [c14, c23]; rfl) | (rw [c14]; rfl)
      exact hret.1 _ _ 0 0 28 _ (-2) dX9_tells_28 (by omega) (by omega) hS (⟨by unfold telA; rw [if_neg (by rw [hb]; decide)], by rw [hb]; exact hP, by rw [hb]; exact hD⟩) (rfl)

abbrev rmX9_count : Room := { frames := 0, cells := 0, slots := 0, locals := 0 }
theorem inX9_count_0 : ∀ w ∈ wsX00, w ∈ wsX9_count := fun _ h => List.mem_cons_of_mem _ (List.mem_append_left _ (List.mem_append_right _ h))
theorem inX9_count_4 : ∀ w ∈ wsX40, w ∈ wsX9_count := fun _ h => List.mem_cons_of_mem _ (List.mem_append_right _ h)
theorem inX9_count_9 : ∀ w ∈ wsX90, w ∈ wsX9_count := fun _ h => List.mem_cons_of_mem _ (List.mem_append_left _ (List.mem_append_left _ (List.mem_append_right _ h)))
set_option maxHeartbeats 4000000 in
set_option maxRecDepth 100000 in
theorem c_X9_count (l : Launch) (K : rr_K) (ca : Nat → Nat) (bh my lg mk mn ms xa xb xv xw ns wl nf wd room mb cap : Nat) (gF : Nat → Option Nat) (WD FL FW BR TD wB dB no sl wS wR wP wV wW pR : Nat → Nat) (bF : Nat → Int32) (yB gB : Nat → Int64) (ks pF : Nat → Int32) (kn : List Nat) (lp ll : Int32) (x : Int32) : MetP l K yX9_count wsX9_count rmX9_count [.ref (ca 0), .int x] (fun H => va_P K.1 vwCl (XC K ca bh my lg mk mn ms xa xb xv xw ns wl nf wd room mb cap gF WD FL FW BR TD wB dB no sl wS wR wP wV wW pR bF yB gB ks pF kn lp ll) H) (.int (cntA ns wl nf wd x)) := by
  refine metP_of (cc := cX9_count) (maxL := 2) (ret := (some .int)) (rt := .int) (by decide) rfl rfl (Nat.le_of_ble_eq_true rfl) ?_
  intro p e s m args below meth c Q ls hEnt hKK hX hret hl
  obtain ⟨hx, hb, hml, hown, hts⟩ := hEnt
  have hP : va_P K.1 vwCl (XC K ca bh my lg mk mn ms xa xb xv xw ns wl nf wd room mb cap gF WD FL FW BR TD wB dB no sl wS wR wP wV wW pR bF yB gB ks pF kn lp ll) s.heap := hX
  have hl : lv_has ls 2 [(0, .ref (ca 0)), (1, .int x)] := hl
  refine lv_iload_n hx hb (pc := 0) dX9_count_0 rfl (lv_at hl 1 rfl) ?_
  rcases Bool.eq_false_or_eq_true (rrin x (nI 0) (nI 3)) with cw | cw
  · obtain ⟨w, hw1, hw2, rfl⟩ := rrin_Nat (by decide) (by decide) cw
    have ecw : cN (nI w) = w := cN_nI (by omega)
    rcases (show w = 0 ∨ w = 1 ∨ w = 2 ∨ w = 3 from by omega) with rfl | rfl | rfl | rfl
    · refine lv_tableIn (off := 31) (tgt := 32) hx hb (pc := 1) dX9_count_1 (by decide +kernel) (by decide +kernel) (by decide +kernel) (by decide) ?_
      refine lv_aload_n hx hb (pc := 32) dX9_count_32 rfl (lv_at hl 0 rfl) ?_
      refine va_get (v := .int (nI ns)) hx hb hts (inX9_count_9) hown hKK.1 hP 0 rfl rfl 1 (by decide) (hts _ (List.mem_of_getElem? (i := 1) (by decide +kernel))) (fun _ h9 => h9) rfl (pc := 33) dX9_count_33 ?_
      exact hret.1 36 _ (nI ns) dX9_count_36 (by unfold cntA; rw [if_pos (show nI 0 = 0 from rfl)]) (rfl)
    · refine lv_tableIn (off := 36) (tgt := 37) hx hb (pc := 1) dX9_count_1 (by decide +kernel) (by decide +kernel) (by decide +kernel) (by decide) ?_
      refine lv_aload_n hx hb (pc := 37) dX9_count_37 rfl (lv_at hl 0 rfl) ?_
      refine va_get (v := .int (nI wl)) hx hb hts (inX9_count_9) hown hKK.1 hP 0 rfl rfl 3 (by decide) (hts _ (List.mem_of_getElem? (i := 2) (by decide +kernel))) (fun _ h9 => h9) rfl (pc := 38) dX9_count_38 ?_
      exact hret.1 41 _ (nI wl) dX9_count_41 (by unfold cntA; rw [if_neg (by decide), if_pos rfl]) (rfl)
    · refine lv_tableIn (off := 41) (tgt := 42) hx hb (pc := 1) dX9_count_1 (by decide +kernel) (by decide +kernel) (by decide +kernel) (by decide) ?_
      refine lv_aload_n hx hb (pc := 42) dX9_count_42 rfl (lv_at hl 0 rfl) ?_
      refine va_get (v := .ref (ca 3)) hx hb hts (inX9_count_9) hown hKK.1 hP 0 rfl rfl 4 (by decide) (hts _ (List.mem_of_getElem? (i := 3) (by decide +kernel))) (fun _ h9 => h9) rfl (pc := 43) dX9_count_43 ?_
      refine va_get (v := .int (nI nf)) hx hb hts (inX9_count_0) hown hKK.1 hP 3 rfl rfl 0 (by decide) (hts _ (List.mem_of_getElem? (i := 4) (by decide +kernel))) (fun _ h9 => h9) rfl (pc := 46) dX9_count_46 ?_
      exact hret.1 49 _ (nI nf) dX9_count_49 (by unfold cntA; rw [if_neg (by decide), if_neg (by decide), if_pos rfl]) (rfl)
    · refine lv_tableIn (off := 49) (tgt := 50) hx hb (pc := 1) dX9_count_1 (by decide +kernel) (by decide +kernel) (by decide +kernel) (by decide) ?_
      refine lv_aload_n hx hb (pc := 50) dX9_count_50 rfl (lv_at hl 0 rfl) ?_
      refine va_get (v := .ref (ca 7)) hx hb hts (inX9_count_9) hown hKK.1 hP 0 rfl rfl 5 (by decide) (hts _ (List.mem_of_getElem? (i := 5) (by decide +kernel))) (fun _ h9 => h9) rfl (pc := 51) dX9_count_51 ?_
      refine va_get (v := .int (nI wd)) hx hb hts (inX9_count_4) hown hKK.1 hP 7 rfl rfl 0 (by decide) (hts _ (List.mem_of_getElem? (i := 6) (by decide +kernel))) (fun _ h9 => h9) rfl (pc := 54) dX9_count_54 ?_
      exact hret.1 57 _ (nI wd) dX9_count_57 (by unfold cntA; rw [if_neg (by decide), if_neg (by decide), if_neg (by decide), if_pos rfl]) (rfl)
  · refine lv_tableOut (tgt := 58) hx hb (pc := 1) dX9_count_1 (rrin_no (by decide) (by decide) cw) (by decide) ?_
    refine lv_bipush (v := -2) hx hb (pc := 58) dX9_count_58 (by decide) ?_
    exact hret.1 60 _ (-2) dX9_count_60 (by unfold cntA; rw [if_neg (fun e => by rw [e] at cw; exact absurd cw (by decide)), if_neg (fun e => by rw [e] at cw; exact absurd cw (by decide)), if_neg (fun e => by rw [e] at cw; exact absurd cw (by decide)), if_neg (fun e => by rw [e] at cw; exact absurd cw (by decide))]) (rfl)

abbrev rmX9_live : Room := { frames := 2, cells := 0, slots := 0, locals := 43 }
set_option maxHeartbeats 4000000 in
set_option maxRecDepth 100000 in
theorem cb_X9_live (l : Launch) (K : rr_K) (ca : Nat → Nat) (bh my lg mk mn ms xa xb xv xw ns wl nf wd room mb cap : Nat) (gF : Nat → Option Nat) (WD FL FW BR TD wB dB no sl wS wR wP wV wW pR : Nat → Nat) (bF : Nat → Int32) (yB gB : Nat → Int64) (ks pF : Nat → Int32) (kn : List Nat) (lp ll : Int32) (kF nF yF : Nat → Nat) (x q : Int32) (hb9 : isS ns x = false) : MetP l K yX9_live wsX9_live rmX9_live [.ref (ca 0), .int x, .int q] (fun H => va_P K.1 vwCl (XC K ca bh my lg mk mn ms xa xb xv xw ns wl nf wd room mb cap gF WD FL FW BR TD wB dB no sl wS wR wP wV wW pR bF yB gB ks pF kn lp ll) H) (.int (livA ns kF nF yF x q)) := by
  refine metP_of (cc := cX9_live) (maxL := 4) (ret := (some .int)) (rt := .int) (by decide) rfl rfl (Nat.le_of_ble_eq_true rfl) ?_
  intro p e s m args below meth c Q ls hEnt hKK hX hret hl
  obtain ⟨hx, hb, hml, hown, hts⟩ := hEnt
  have hP : va_P K.1 vwCl (XC K ca bh my lg mk mn ms xa xb xv xw ns wl nf wd room mb cap gF WD FL FW BR TD wB dB no sl wS wR wP wV wW pR bF yB gB ks pF kn lp ll) s.heap := hX
  have hl : lv_has ls 4 [(0, .ref (ca 0)), (1, .int x), (2, .int q)] := hl
  refine lv_aload_n hx hb (pc := 0) dX9_live_0 rfl (lv_at hl 0 rfl) ?_
  refine lv_iload_n hx hb (pc := 1) dX9_live_1 rfl (lv_at hl 1 rfl) ?_
  refine rr_callP (rv := .null) (pc := 2) (va_runV (As := [.int x]) (rest := []) ⟨hx, hb, hml, hown, hts⟩ (cb_X9_graphAt l K ca bh my lg mk mn ms xa xb xv xw ns wl nf wd room mb cap gF WD FL FW BR TD wB dB no sl wS wR wP wV wW pR bF yB gB ks pF kn lp ll x hb9) (cwV 1 hts gX9_live_X9_graphAt rfl rfl rfl (by decide +kernel) ⟨Nat.le_of_ble_eq_true rfl, Nat.le_of_ble_eq_true rfl⟩) (rr_preV hKK (hP) (va_recv hKK.1 hP (ci := 9) (q0 := 0) rfl rfl)) rfl rfl hl.1 rfl (lv_room (Nat.le_of_ble_eq_true rfl)) dX9_live_2 ⟨Nat.le_refl _, Nat.le_refl _⟩) ?_
  refine lv_astore_nN (lv' := [(3, .null), (0, .ref (ca 0)), (1, .int x), (2, .int q)]) hx hb (pc := 5) dX9_live_5 rfl hl (by decide) rfl (fun ls hl => ?_)
  refine lv_aload_nN hx hb (pc := 6) dX9_live_6 rfl (lv_at hl 0 rfl) ?_
  refine lv_ifnullN (tgt := 18) hx hb (pc := 7) dX9_live_7 (by decide) ?_
  refine lv_bipush (v := -2) hx hb (pc := 18) dX9_live_18 (by decide) ?_
  have hb8 : okQ ns nF x q = false := by unfold okQ; rw [hb9]; rfl
  exact hret.1 20 _ (-2) dX9_live_20 (by unfold livA; rw [if_neg (by rw [hb8]; decide)]) (rfl)

set_option maxHeartbeats 4000000 in
set_option maxRecDepth 100000 in
theorem cg_X9_live (l : Launch) (K : rr_K) (ca : Nat → Nat) (bh my lg mk mn ms xa xb xv xw ns wl nf wd room mb cap : Nat) (gF : Nat → Option Nat) (WD FL FW BR TD wB dB no sl wS wR wP wV wW pR : Nat → Nat) (bF : Nat → Int32) (yB gB : Nat → Int64) (ks pF : Nat → Int32) (kn : List Nat) (lp ll : Int32) (kF nF yF : Nat → Nat) (j go ge gt : Nat) (T : Nat → Nat) (q : Int32) (hS9 : SOK ns kF nF yF) (hj : j < ns) (hgj : gF j = some go) (hT : TJ kF nF yF j T) : MetP l K yX9_live wsX9_live rmX9_live [.ref (ca 0), .int (nI j), .int q] (fun H => va_P K.1 vwCl (XC K ca bh my lg mk mn ms xa xb xv xw ns wl nf wd room mb cap gF WD FL FW BR TD wB dB no sl wS wR wP wV wW pR bF yB gB ks pF kn lp ll) H ∧ va_P K.1 vwCl (GJ K go ge gt kF nF yF j T) H) (.int (livA ns kF nF yF (nI j) q)) := by
  refine metP_of (cc := cX9_live) (maxL := 4) (ret := (some .int)) (rt := .int) (by decide) rfl rfl (Nat.le_of_ble_eq_true rfl) ?_
  intro p e s m args below meth c Q ls hEnt hKK hX hret hl
  obtain ⟨hx, hb, hml, hown, hts⟩ := hEnt
  obtain ⟨hP, hG⟩ := hX
  have hl : lv_has ls 4 [(0, .ref (ca 0)), (1, .int (nI j)), (2, .int q)] := hl
  have hns := hS9.1
  obtain ⟨s1j, s2j, s3j, s4j, s5j⟩ := hS9.2 j hj
  have hlvj := liveS_lt16 (k := kF j) (E := Es yF j) s4j
  have hlwj := liveS_lt (kF j) (nF j) (Es yF j)
  have ecj : cN (nI j) = j := cN_nI (by omega)
  have hsj : isS ns (nI j) = true := isS_j hj (by omega)
  refine lv_aload_n hx hb (pc := 0) dX9_live_0 rfl (lv_at hl 0 rfl) ?_
  refine lv_iload_n hx hb (pc := 1) dX9_live_1 rfl (lv_at hl 1 rfl) ?_
  refine rr_callP (rv := .ref go) (pc := 2) (va_runV (As := [.int (nI j)]) (rest := []) ⟨hx, hb, hml, hown, hts⟩ (cg_X9_graphAt l K ca bh my lg mk mn ms xa xb xv xw ns wl nf wd room mb cap gF WD FL FW BR TD wB dB no sl wS wR wP wV wW pR bF yB gB ks pF kn lp ll j go hj hS9.1 hgj) (cwV 1 hts gX9_live_X9_graphAt rfl rfl rfl (by decide +kernel) ⟨Nat.le_of_ble_eq_true rfl, Nat.le_of_ble_eq_true rfl⟩) (rr_preV hKK (hP) (va_recv hKK.1 hP (ci := 9) (q0 := 0) rfl rfl)) rfl rfl hl.1 rfl (lv_room (Nat.le_of_ble_eq_true rfl)) dX9_live_2 ⟨Nat.le_refl _, Nat.le_refl _⟩) ?_
  refine lv_astore_n (lv' := [(3, .ref go), (0, .ref (ca 0)), (1, .int (nI j)), (2, .int q)]) hx hb (pc := 5) dX9_live_5 rfl hl (by decide) rfl (fun ls hl => ?_)
  refine lv_aload_n hx hb (pc := 6) dX9_live_6 rfl (lv_at hl 0 rfl) ?_
  refine lv_ifnull hx hb (pc := 7) dX9_live_7 ?_
  refine lv_aload_n hx hb (pc := 10) dX9_live_10 rfl (lv_at hl 0 rfl) ?_
  refine lv_iload_n hx hb (pc := 11) dX9_live_11 rfl (lv_at hl 3 rfl) ?_
  refine rr_callP (rv := .int (bI (rrin q (nI 0) (nI (nF j - 1))))) (pc := 12) (va_runV (As := [.int q]) (rest := []) ⟨hx, hb, hml, hown, hts⟩ (c_X1_hasState l K go ge gt (kF j) (nF j) (waysS (kF j) (nF j) (Es yF j)) (liveS (kF j) (nF j) (Es yF j)) (lwS (kF j) (nF j) (liveS (kF j) (nF j) (Es yF j)) (Es yF j)) (Es yF j) T q (by omega)) (cwV 1 hts gX9_live_X1_hasState rfl rfl rfl (by decide +kernel) ⟨Nat.le_of_ble_eq_true rfl, Nat.le_of_ble_eq_true rfl⟩) (rr_preV hKK (hG) (va_recv hKK.1 hG (ci := 1) (q0 := 0) rfl rfl)) rfl rfl hl.1 rfl (lv_room (Nat.le_of_ble_eq_true rfl)) dX9_live_12 ⟨Nat.le_refl _, Nat.le_refl _⟩) ?_
  refine nv_if_ne_b (a := (rrin q (nI 0) (nI (nF j - 1)))) (tgt := 21) hx hb (pc := 15) dX9_live_15 (by decide) (fun c15 => ?_) (fun c15 => ?_)
  · have hq9 : isS (nF j) q = true := by rw [← isS_in (by omega)]; exact c15
    obtain ⟨u, hu9, rfl⟩ := isS_of (by omega) hq9
    have ecu : cN (nI u) = u := cN_nI (by omega)
    have hok : okQ ns nF (nI j) (nI u) = true := okQ_nI hS9 hj hu9
    refine lv_aload_n hx hb (pc := 21) dX9_live_21 rfl (lv_at hl 0 rfl) ?_
    refine lv_iload_n hx hb (pc := 22) dX9_live_22 rfl (lv_at hl 3 rfl) ?_
    refine rr_callP (rv := .int (bI ((liveS (kF j) (nF j) (Es yF j)).testBit u))) (pc := 23) (va_runV (As := [.int (nI u)]) (rest := []) ⟨hx, hb, hml, hown, hts⟩ (c_X1_isLive l K go ge gt (kF j) (nF j) (waysS (kF j) (nF j) (Es yF j)) (liveS (kF j) (nF j) (Es yF j)) (lwS (kF j) (nF j) (liveS (kF j) (nF j) (Es yF j)) (Es yF j)) (Es yF j) T u hlvj (by omega)) (cwV 1 hts gX9_live_X1_isLive rfl rfl rfl (by decide +kernel) ⟨Nat.le_of_ble_eq_true rfl, Nat.le_of_ble_eq_true rfl⟩) (rr_preV hKK (hG) (va_recv hKK.1 hG (ci := 1) (q0 := 0) rfl rfl)) rfl rfl hl.1 rfl (lv_room (Nat.le_of_ble_eq_true rfl)) dX9_live_23 ⟨Nat.le_refl _, Nat.le_refl _⟩) ?_
    refine nv_if_eq_b (a := ((liveS (kF j) (nF j) (Es yF j)).testBit u)) (tgt := 33) hx hb (pc := 26) dX9_live_26 (by decide) (fun c26 => ?_) (fun c26 => ?_)
    · refine lv_iconst (v := nI 0) hx hb (pc := 33) dX9_live_33 (by decide) ?_
      exact hret.1 34 _ (nI 0) dX9_live_34 (by unfold livA; rw [if_pos hok, ecj, ecu]; first | (rw [c26]; rfl) | rw [c26]) (rfl)
    · refine lv_iconst (v := nI 1) hx hb (pc := 29) dX9_live_29 (by decide) ?_
      refine lv_goto (tgt := 34) hx hb (pc := 30) dX9_live_30 (by decide) ?_
      exact hret.1 34 _ (nI 1) dX9_live_34 (by unfold livA; rw [if_pos hok, ecj, ecu]; first | (rw [c26]; rfl) | rw [c26]) (rfl)
  · refine lv_bipush (v := -2) hx hb (pc := 18) dX9_live_18 (by decide) ?_
    have hno : okQ ns nF (nI j) q = false := by rw [okQ_j (by omega) rfl, hsj, ← isS_in (by omega)]; exact c15
    exact hret.1 20 _ (-2) dX9_live_20 (by unfold livA; rw [if_neg (by rw [hno]; decide)]) (rfl)

abbrev rmX9_may : Room := { frames := 2, cells := 0, slots := 0, locals := 43 }
set_option maxHeartbeats 4000000 in
set_option maxRecDepth 100000 in
theorem cb_X9_may (l : Launch) (K : rr_K) (ca : Nat → Nat) (bh my lg mk mn ms xa xb xv xw ns wl nf wd room mb cap : Nat) (gF : Nat → Option Nat) (WD FL FW BR TD wB dB no sl wS wR wP wV wW pR : Nat → Nat) (bF : Nat → Int32) (yB gB : Nat → Int64) (ks pF : Nat → Int32) (kn : List Nat) (lp ll : Int32) (kF nF yF : Nat → Nat) (x : Int32) (hb9 : isS ns x = false) : MetP l K yX9_may wsX9_may rmX9_may [.ref (ca 0), .int x] (fun H => va_P K.1 vwCl (XC K ca bh my lg mk mn ms xa xb xv xw ns wl nf wd room mb cap gF WD FL FW BR TD wB dB no sl wS wR wP wV wW pR bF yB gB ks pF kn lp ll) H) (.int (mayA ns kF nF yF wl WD x)) := by
  refine metP_of (cc := cX9_may) (maxL := 5) (ret := (some .int)) (rt := .int) (by decide) rfl rfl (Nat.le_of_ble_eq_true rfl) ?_
  intro p e s m args below meth c Q ls hEnt hKK hX hret hl
  obtain ⟨hx, hb, hml, hown, hts⟩ := hEnt
  have hP : va_P K.1 vwCl (XC K ca bh my lg mk mn ms xa xb xv xw ns wl nf wd room mb cap gF WD FL FW BR TD wB dB no sl wS wR wP wV wW pR bF yB gB ks pF kn lp ll) s.heap := hX
  have hl : lv_has ls 5 [(0, .ref (ca 0)), (1, .int x)] := hl
  refine lv_aload_n hx hb (pc := 0) dX9_may_0 rfl (lv_at hl 0 rfl) ?_
  refine lv_iload_n hx hb (pc := 1) dX9_may_1 rfl (lv_at hl 1 rfl) ?_
  refine rr_callP (rv := .null) (pc := 2) (va_runV (As := [.int x]) (rest := []) ⟨hx, hb, hml, hown, hts⟩ (cb_X9_graphAt l K ca bh my lg mk mn ms xa xb xv xw ns wl nf wd room mb cap gF WD FL FW BR TD wB dB no sl wS wR wP wV wW pR bF yB gB ks pF kn lp ll x hb9) (cwV 1 hts gX9_may_X9_graphAt rfl rfl rfl (by decide +kernel) ⟨Nat.le_of_ble_eq_true rfl, Nat.le_of_ble_eq_true rfl⟩) (rr_preV hKK (hP) (va_recv hKK.1 hP (ci := 9) (q0 := 0) rfl rfl)) rfl rfl hl.1 rfl (lv_room (Nat.le_of_ble_eq_true rfl)) dX9_may_2 ⟨Nat.le_refl _, Nat.le_refl _⟩) ?_
  refine lv_astore_nN (lv' := [(2, .null), (0, .ref (ca 0)), (1, .int x)]) hx hb (pc := 5) dX9_may_5 rfl hl (by decide) rfl (fun ls hl => ?_)
  refine lv_aload_nN hx hb (pc := 6) dX9_may_6 rfl (lv_at hl 0 rfl) ?_
  refine lv_ifnonnullN hx hb (pc := 7) dX9_may_7 ?_
  refine lv_bipush (v := -2) hx hb (pc := 10) dX9_may_10 (by decide) ?_
  exact hret.1 12 _ (-2) dX9_may_12 (by unfold mayA; rw [if_neg (by rw [hb9]; decide)]) (rfl)

theorem inX9_may_1 : ∀ w ∈ wsX10, w ∈ wsX9_may := fun _ h => List.mem_cons_of_mem _ (List.mem_append_left _ (List.mem_append_right _ h))
theorem inX9_may_9 : ∀ w ∈ wsX90, w ∈ wsX9_may := fun _ h => List.mem_cons_of_mem _ (List.mem_append_right _ h)
set_option maxHeartbeats 4000000 in
set_option maxRecDepth 100000 in
theorem cg_X9_may (l : Launch) (K : rr_K) (ca : Nat → Nat) (bh my lg mk mn ms xa xb xv xw ns wl nf wd room mb cap : Nat) (gF : Nat → Option Nat) (WD FL FW BR TD wB dB no sl wS wR wP wV wW pR : Nat → Nat) (bF : Nat → Int32) (yB gB : Nat → Int64) (ks pF : Nat → Int32) (kn : List Nat) (lp ll : Int32) (kF nF yF : Nat → Nat) (j go ge gt : Nat) (T : Nat → Nat) (hS9 : SOK ns kF nF yF) (hj : j < ns) (hgj : gF j = some go) (hT : TJ kF nF yF j T) (hW9 : WOK wl WD) : MetP l K yX9_may wsX9_may rmX9_may [.ref (ca 0), .int (nI j)] (fun H => va_P K.1 vwCl (XC K ca bh my lg mk mn ms xa xb xv xw ns wl nf wd room mb cap gF WD FL FW BR TD wB dB no sl wS wR wP wV wW pR bF yB gB ks pF kn lp ll) H ∧ va_P K.1 vwCl (GJ K go ge gt kF nF yF j T) H) (.int (mayA ns kF nF yF wl WD (nI j))) := by
  refine metP_of (cc := cX9_may) (maxL := 5) (ret := (some .int)) (rt := .int) (by decide) rfl rfl (Nat.le_of_ble_eq_true rfl) ?_
  intro p e s m args below meth c Q ls hEnt hKK hX hret hl
  obtain ⟨hx, hb, hml, hown, hts⟩ := hEnt
  obtain ⟨hP, hG⟩ := hX
  have hl : lv_has ls 5 [(0, .ref (ca 0)), (1, .int (nI j))] := hl
  have hns := hS9.1
  obtain ⟨s1j, s2j, s3j, s4j, s5j⟩ := hS9.2 j hj
  have hlvj := liveS_lt16 (k := kF j) (E := Es yF j) s4j
  have hlwj := liveS_lt (kF j) (nF j) (Es yF j)
  have ecj : cN (nI j) = j := cN_nI (by omega)
  have hsj : isS ns (nI j) = true := isS_j hj (by omega)
  refine lv_aload_n hx hb (pc := 0) dX9_may_0 rfl (lv_at hl 0 rfl) ?_
  refine lv_iload_n hx hb (pc := 1) dX9_may_1 rfl (lv_at hl 1 rfl) ?_
  refine rr_callP (rv := .ref go) (pc := 2) (va_runV (As := [.int (nI j)]) (rest := []) ⟨hx, hb, hml, hown, hts⟩ (cg_X9_graphAt l K ca bh my lg mk mn ms xa xb xv xw ns wl nf wd room mb cap gF WD FL FW BR TD wB dB no sl wS wR wP wV wW pR bF yB gB ks pF kn lp ll j go hj hS9.1 hgj) (cwV 1 hts gX9_may_X9_graphAt rfl rfl rfl (by decide +kernel) ⟨Nat.le_of_ble_eq_true rfl, Nat.le_of_ble_eq_true rfl⟩) (rr_preV hKK (hP) (va_recv hKK.1 hP (ci := 9) (q0 := 0) rfl rfl)) rfl rfl hl.1 rfl (lv_room (Nat.le_of_ble_eq_true rfl)) dX9_may_2 ⟨Nat.le_refl _, Nat.le_refl _⟩) ?_
  refine lv_astore_n (lv' := [(2, .ref go), (0, .ref (ca 0)), (1, .int (nI j))]) hx hb (pc := 5) dX9_may_5 rfl hl (by decide) rfl (fun ls hl => ?_)
  refine lv_aload_n hx hb (pc := 6) dX9_may_6 rfl (lv_at hl 0 rfl) ?_
  refine lv_ifnonnull (tgt := 13) hx hb (pc := 7) dX9_may_7 (by decide) ?_
  have hwl := hW9.1
  refine lv_aload_n hx hb (pc := 13) dX9_may_13 rfl (lv_at hl 0 rfl) ?_
  refine va_get (v := .int (nI (liveS (kF j) (nF j) (Es yF j)))) hx hb hts (inX9_may_1) hown hKK.1 hG 0 rfl rfl 3 (by decide) (hts _ (List.mem_of_getElem? (i := 1) (by decide +kernel))) (fun _ h9 => h9) rfl (pc := 14) dX9_may_14 ?_
  refine lv_istore_n (lv' := [(3, .int (nI (liveS (kF j) (nF j) (Es yF j)))), (2, .ref go), (0, .ref (ca 0)), (1, .int (nI j))]) hx hb (pc := 17) dX9_may_17 rfl hl (by decide) rfl (fun ls hl => ?_)
  refine lv_iconst (v := nI 0) hx hb (pc := 18) dX9_may_18 (by decide) ?_
  refine lv_istore (lv' := [(4, .int (nI 0)), (3, .int (nI (liveS (kF j) (nF j) (Es yF j)))), (2, .ref go), (0, .ref (ca 0)), (1, .int (nI j))]) hx hb (pc := 19) dX9_may_19 hl (by decide) rfl (fun ls hl => ?_)
  have L21 : ∀ (fz : Nat) (i : Nat) (hfz : wl - i < fz) (hi : i ≤ wl) (hsb : sub (mayS (kF j) (nF j) (Es yF j) WD i) (liveS (kF j) (nF j) (Es yF j))) (ls : Array Slot) (hl : lv_has ls 5 [(0, .ref (ca 0)), (2, .ref go), (3, .int (nI (mayS (kF j) (nF j) (Es yF j) WD i))), (4, .int (nI i))]), W p l e rmX9_may s m args below meth c s.heap [] 0 0 Q (F0 m 21 ls []) := by
    intro fz; induction fz with
    | zero => intro i hfz hi hsb ls hl; exact absurd hfz (Nat.not_lt_zero _)
    | succ fz ih21 =>
      intro i hfz hi hsb ls hl
      have hmyl := mayS_lt (k := kF j) (E := Es yF j) (WD := WD) s4j i
      refine lv_iload hx hb (pc := 21) dX9_may_21 (lv_at hl 3 rfl) ?_
      refine lv_aload_n hx hb (pc := 23) dX9_may_23 rfl (lv_at hl 0 rfl) ?_
      refine va_get (v := .int (nI wl)) hx hb hts (inX9_may_9) hown hKK.1 hP 0 rfl rfl 3 (by decide) (hts _ (List.mem_of_getElem? (i := 2) (by decide +kernel))) (fun _ h9 => h9) rfl (pc := 24) dX9_may_24 ?_
      refine nv_icmp_ge (a := i) (b := wl) (tgt := 49) hx hb (pc := 27) dX9_may_27 (by decide) (by omega) (by omega) (fun c27 => ?_) (fun c27 => ?_)
      · refine lv_iload_n hx hb (pc := 49) dX9_may_49 rfl (lv_at hl 2 rfl) ?_
        refine nv_if_eq (a := (mayS (kF j) (nF j) (Es yF j) WD i)) (tgt := 57) hx hb (pc := 50) dX9_may_50 (by decide) (by omega) (fun c50 => ?_) (fun c50 => ?_)
        · refine lv_iconst (v := nI 0) hx hb (pc := 57) dX9_may_57 (by decide) ?_
          have e9 : i = wl := by omega
          exact hret.1 58 _ (nI 0) dX9_may_58 (by unfold mayA; rw [if_pos hsj, ecj, ← e9]; first | (rw [decide_eq_true c50]; rfl) | (rw [c50]; rfl)) (rfl)
        · refine lv_iconst (v := nI 1) hx hb (pc := 53) dX9_may_53 (by decide) ?_
          refine lv_goto (tgt := 58) hx hb (pc := 54) dX9_may_54 (by decide) ?_
          have e9 : i = wl := by omega
          exact hret.1 58 _ (nI 1) dX9_may_58 (by unfold mayA; rw [if_pos hsj, ecj, ← e9]; first | (rw [decide_eq_true c50]; rfl) | (rw [c50]; rfl)) (rfl)
      · refine lv_aload_n hx hb (pc := 30) dX9_may_30 rfl (lv_at hl 1 rfl) ?_
        refine lv_iload_n hx hb (pc := 31) dX9_may_31 rfl (lv_at hl 2 rfl) ?_
        refine lv_aload_n hx hb (pc := 32) dX9_may_32 rfl (lv_at hl 0 rfl) ?_
        refine va_get (v := .ref (ca 2)) hx hb hts (inX9_may_9) hown hKK.1 hP 0 rfl rfl 2 (by decide) (hts _ (List.mem_of_getElem? (i := 3) (by decide +kernel))) (fun _ h9 => h9) rfl (pc := 33) dX9_may_33 ?_
        refine lv_iload hx hb (pc := 36) dX9_may_36 (lv_at hl 3 rfl) ?_
        refine nv_iald (v := nI (WD i)) (i := i) hx hb hKK hP 2 rfl (by omega) (by decide) (rfl) (pc := 38) dX9_may_38 ?_
        refine rr_callP (rv := .int (nI (stp (kF j) T (mayS (kF j) (nF j) (Es yF j) WD i) (WD i)))) (pc := 39) (va_runV (As := [.int (nI (mayS (kF j) (nF j) (Es yF j) WD i)), .int (nI (WD i))]) (rest := []) ⟨hx, hb, hml, hown, hts⟩ (c_X1_step l K go ge gt (kF j) (nF j) (waysS (kF j) (nF j) (Es yF j)) (liveS (kF j) (nF j) (Es yF j)) (lwS (kF j) (nF j) (liveS (kF j) (nF j) (Es yF j)) (Es yF j)) (Es yF j) T (mayS (kF j) (nF j) (Es yF j) WD i) (WD i) hmyl (hW9.2 i (by omega)) s2j) (cwV 2 hts gX9_may_X1_step rfl rfl rfl (by decide +kernel) ⟨Nat.le_of_ble_eq_true rfl, Nat.le_of_ble_eq_true rfl⟩) (rr_preV hKK (hG) (va_recv hKK.1 hG (ci := 1) (q0 := 0) rfl rfl)) rfl rfl hl.1 rfl (lv_room (Nat.le_of_ble_eq_true rfl)) dX9_may_39 ⟨Nat.le_refl _, Nat.le_refl _⟩) ?_
        refine lv_istore_n (lv' := [(3, .int (nI (stp (kF j) T (mayS (kF j) (nF j) (Es yF j) WD i) (WD i)))), (0, .ref (ca 0)), (2, .ref go), (4, .int (nI i))]) hx hb (pc := 42) dX9_may_42 rfl hl (by decide) rfl (fun ls hl => ?_)
        refine lv_iinc (v := nI (i + 1)) (lv' := [(4, .int (nI (i + 1))), (3, .int (nI (stp (kF j) T (mayS (kF j) (nF j) (Es yF j) WD i) (WD i)))), (0, .ref (ca 0)), (2, .ref go)]) hx hb (pc := 43) dX9_may_43 hl (k := 3) rfl (rr_inc _) (by decide) rfl (fun ls hl => ?_)
        refine lv_goto (tgt := 21) hx hb (pc := 46) dX9_may_46 (by decide) ?_
        have hl : lv_has ls 5 [(4, .int (nI (i + 1))), (3, .int (nI (mayS (kF j) (nF j) (Es yF j) WD (i + 1)))), (0, .ref (ca 0)), (2, .ref go)] := by rw [show mayS (kF j) (nF j) (Es yF j) WD (i + 1) = stp (kF j) T (mayS (kF j) (nF j) (Es yF j) WD i) (WD i) from (stp_eq hT s4j hsb hlwj).symm]; exact hl
        exact ih21 (i + 1) (by omega) (by omega) (ldS_sub _ _ _ _ _ _) ls (lv_sub hl [2, 3, 1, 0] rfl)
  have hl : lv_has ls 5 [(4, .int (nI 0)), (3, .int (nI (mayS (kF j) (nF j) (Es yF j) WD 0))), (2, .ref go), (0, .ref (ca 0)), (1, .int (nI j))] := by rw [show mayS (kF j) (nF j) (Es yF j) WD 0 = liveS (kF j) (nF j) (Es yF j) from rfl]; exact hl
  exact L21 (31) 0 (by omega) (Nat.zero_le _) (sub_refl _) ls (lv_sub hl [3, 2, 1, 0] rfl)

