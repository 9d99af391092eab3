abbrev rmX5_isSpentBy (mc ms : Nat) : Room := { frames := 4, cells := mc, slots := ms, locals := 87 }
theorem inX5_isSpentBy_3 : ∀ w ∈ wsX30, w ∈ wsX5_isSpentBy := fun _ h => List.mem_cons_of_mem _ (List.mem_append_right _ h)
theorem inX5_isSpentBy_5 : ∀ w ∈ wsX50, w ∈ wsX5_isSpentBy := fun _ h => List.mem_cons_of_mem _ (List.mem_append_left _ (List.mem_append_right _ h))
set_option maxHeartbeats 4000000 in
set_option maxRecDepth 100000 in
theorem c_X5_isSpentBy (l : Launch) (K : rr_K) (A : Nat → Prop) (sz : Nat) (po mo mk mn ms b cap : Nat) (ks : Nat → Int32) (no sl : Nat → Nat) (kn nt : List Nat) (lp ll : Int32) (key pf le : Nat) (hM : MInv (kn.map nI) nt cap b ks no sl) (hkn : ∀ x ∈ kn, x < 2 ^ 32) (hkey : key < 2 ^ 32) (hlen : kn.length ≤ 20000) (hpf : pf < 20001) (hle : le < 4) (hA : ∀ q, sz ≤ q → A q) (hD : va_D A (PT1 K po mo lp ll ++ MW3 K mo mk mn ms ((kn.map nI).length) b cap ks no sl)) : MetR l K yX5_isSpentBy wsX5_isSpentBy (rmX5_isSpentBy ((capN cap kn.length - cap)) ((8 * (capN cap kn.length - cap)))) [.ref po, .int (nI key), .int (nI pf), .int (nI le)] (fun H => H.size = sz ∧ va_P K.1 vwCl (PT1 K po mo lp ll ++ MW3 K mo mk mn ms ((kn.map nI).length) b cap ks no sl) H) A (fun v H => ∃ mk' mn' ms' b' ks' no' sl', MInv ((adK kn key).map nI) (adN kn nt key (4 * pf + le)) (capN cap kn.length) b' ks' no' sl' ∧ va_P K.1 vwCl (PT1 K po mo lp ll ++ MW3 K mo mk' mn' ms' ((adK kn key).map nI).length b' (capN cap kn.length) ks' no' sl') H ∧ va_D A (PT1 K po mo lp ll ++ MW3 K mo mk' mn' ms' ((adK kn key).map nI).length b' (capN cap kn.length) ks' no' sl') ∧ v = .int (bI (decide (20000 < (adK kn key).length)))) (capN cap kn.length - cap) (8 * (capN cap kn.length - cap)) := by
  refine metR_of (cc := cX5_isSpentBy) (maxL := 6) (ret := (some .boolean)) (rt := .boolean) (by decide) rfl rfl rfl rfl (Nat.le_of_ble_eq_true rfl) ?_
  intro p e s m args below meth c Q ls hEnt hKK hX hret hl
  obtain ⟨hx, hb, hml, hown, hts⟩ := hEnt
  obtain ⟨hsz0, hX⟩ := hX
  have hA : ∀ q, s.heap.size ≤ q → A q := fun q h => hA q (hsz0 ▸ h)
  have hP : va_P K.1 vwCl (PT1 K po mo lp ll ++ MW3 K mo mk mn ms ((kn.map nI).length) b cap ks no sl) s.heap := hX
  have hl : lv_has ls 6 [(0, .ref po), (1, .int (nI key)), (2, .int (nI pf)), (3, .int (nI le))] := hl
  have hS : va_S A s.heap s.heap [] := va_S.rf
  have hlm : (kn.map nI).length = kn.length := List.length_map _
  have hal := adK_len kn key
  have ham : ((adK kn key).map nI).length = (adK kn key).length := List.length_map _
  have hntl : nt.length = kn.length := by rw [← hlm]; exact hM.2.2.2.2.2.1
  refine lv_aload_n hx hb (pc := 0) dX5_isSpentBy_0 rfl (lv_at hl 0 rfl) ?_
  refine va_get (v := .ref mo) hx hb hts (inX5_isSpentBy_5) hown hKK.1 hP 0 rfl rfl 0 (by decide) (hts _ (List.mem_of_getElem? (i := 1) (by decide +kernel))) (fun _ h9 => h9) rfl (pc := 1) dX5_isSpentBy_1 ?_
  refine va_get (v := .int (nI ((kn.map nI).length))) hx hb hts (inX5_isSpentBy_3) hown hKK.1 hP 1 rfl rfl 0 (by decide) (hts _ (List.mem_of_getElem? (i := 2) (by decide +kernel))) (fun _ h9 => h9) rfl (pc := 4) dX5_isSpentBy_4 ?_
  refine lv_istore (lv' := [(4, .int (nI ((kn.map nI).length))), (0, .ref po), (1, .int (nI key)), (2, .int (nI pf)), (3, .int (nI le))]) hx hb (pc := 7) dX5_isSpentBy_7 hl (by decide) rfl (fun ls hl => ?_)
  refine lv_aload_n hx hb (pc := 9) dX5_isSpentBy_9 rfl (lv_at hl 1 rfl) ?_
  refine va_get (v := .ref mo) hx hb hts (inX5_isSpentBy_5) hown hKK.1 hP 0 rfl rfl 0 (by decide) (hts _ (List.mem_of_getElem? (i := 1) (by decide +kernel))) (fun _ h9 => h9) rfl (pc := 10) dX5_isSpentBy_10 ?_
  refine lv_iload_n hx hb (pc := 13) dX5_isSpentBy_13 rfl (lv_at hl 2 rfl) ?_
  have hPc := hP.sub (ws' := MW3 K mo mk mn ms ((kn.map nI).length) b cap ks no sl) [1, 2, 3, 4] rfl
  have hDc := (hD.sub (ws' := MW3 K mo mk mn ms ((kn.map nI).length) b cap ks no sl) [1, 2, 3, 4] (by decide) rfl).self (sz := s.heap.size)
  have hFc := va_free (wc := MW3 K mo mk mn ms ((kn.map nI).length) b cap ks no sl) hD hS hA [1, 2, 3, 4] rfl
  refine rr_callR (pc := 14) (va_runV (As := [.int (nI key)]) (rest := []) ⟨hx, hb, hml, hown, hts⟩ (c_X3_placeOf l K (va_A (MW3 K mo mk mn ms ((kn.map nI).length) b cap ks no sl) s.heap.size) s.heap.size mo mk mn ms b cap ks no sl (kn.map nI) nt (nI key) hM (by omega) (fun q h => Or.inr h) hDc) (cwV 1 hts gX5_isSpentBy_X3_placeOf rfl rfl rfl (by decide +kernel) ⟨Nat.le_of_ble_eq_true rfl, Nat.le_of_ble_eq_true rfl⟩) (rr_preV hKK (⟨rfl, hPc⟩) (va_recv hKK.1 hP (ci := 3) (q0 := 1) rfl rfl)) rfl rfl hl.1 rfl (lv_room (Nat.le_of_ble_eq_true rfl)) dX5_isSpentBy_14 ⟨by show 0 + (capN cap (kn.map nI).length - cap) ≤ capN cap kn.length - cap; rw [hlm]; omega, by show 0 + 8 * (capN cap (kn.map nI).length - cap) ≤ 8 * (capN cap kn.length - cap); rw [hlm]; omega⟩) hS (hFc) (fun v H locs hY hsz hfr hS => ?_)
  obtain ⟨mk2, mn2, ms2, b2, ks2, no2, sl2, hM2, hP1, hD1, rfl⟩ := hY
  rw [plK_map hkn hkey, plN_map hkn hkey] at hM2
  rw [plK_map hkn hkey] at hP1 hD1
  rw [idx_map hkn hkey]
  obtain ⟨hP, hD⟩ := va_join (wr := [(po, .inr (5, [.ref mo, .int lp, .int ll]))]) (w1 := [(mo, .inr (3, [.int (nI (((adK kn key).map nI).length)), .ref mk2, .ref mn2, .ref ms2, .int (nI b2)])), (mk2, .inl (K.2.1, (capN cap (kn.map nI).length), .inl (ks2))), (mn2, .inl (K.2.1, (capN cap (kn.map nI).length), .inl (fun j => nI (no2 j)))), (ms2, .inl (K.2.1, 2 * (capN cap (kn.map nI).length), .inl (fun j => nI (sl2 j))))]) hP hD [1, 2, 3, 4] [0] rfl rfl (by decide) (by decide) hfr hFc hP1 hD1
  have hP : va_P K.1 vwCl ([(po, .inr (5, [.ref mo, .int lp, .int ll])), (mo, .inr (3, [.int (nI (((adK kn key).map nI).length)), .ref mk2, .ref mn2, .ref ms2, .int (nI b2)])), (mk2, .inl (K.2.1, (capN cap (kn.map nI).length), .inl (ks2))), (mn2, .inl (K.2.1, (capN cap (kn.map nI).length), .inl (fun j => nI (no2 j)))), (ms2, .inl (K.2.1, 2 * (capN cap (kn.map nI).length), .inl (fun j => nI (sl2 j))))]) H := hP
  have hD : va_D A ([(po, .inr (5, [.ref mo, .int lp, .int ll])), (mo, .inr (3, [.int (nI (((adK kn key).map nI).length)), .ref mk2, .ref mn2, .ref ms2, .int (nI b2)])), (mk2, .inl (K.2.1, (capN cap (kn.map nI).length), .inl (ks2))), (mn2, .inl (K.2.1, (capN cap (kn.map nI).length), .inl (fun j => nI (no2 j)))), (ms2, .inl (K.2.1, 2 * (capN cap (kn.map nI).length), .inl (fun j => nI (sl2 j))))]) := hD
  have hP : va_P K.1 vwCl (PT1 K po mo lp ll ++ MW3 K mo mk2 mn2 ms2 (((adK kn key).map nI).length) b2 (capN cap (kn.map nI).length) ks2 no2 sl2) H := hP
  have hD : va_D A (PT1 K po mo lp ll ++ MW3 K mo mk2 mn2 ms2 (((adK kn key).map nI).length) b2 (capN cap (kn.map nI).length) ks2 no2 sl2) := hD
  refine lv_istore (lv' := [(5, .int (nI (kn.idxOf key))), (4, .int (nI ((kn.map nI).length))), (0, .ref po), (1, .int (nI key)), (2, .int (nI pf)), (3, .int (nI le))]) hx hb (pc := 17) dX5_isSpentBy_17 hl (by decide) rfl (fun ls hl => ?_)
  refine lv_iload hx hb (pc := 19) dX5_isSpentBy_19 (lv_at hl 0 rfl) ?_
  refine lv_iload hx hb (pc := 21) dX5_isSpentBy_21 (lv_at hl 1 rfl) ?_
  refine nv_icmp_ne (a := (kn.idxOf key)) (b := ((kn.map nI).length)) (tgt := 40) hx hb (pc := 23) dX5_isSpentBy_23 (by decide) (by have := List.idxOf_le_length (a := key) (l := kn); omega) (by omega) (fun c23 => ?_) (fun c23 => ?_)
  · have hmem : key ∈ kn := by
      apply Classical.byContradiction
      intro q
      exact c23 (by rw [List.idxOf_eq_length q, hlm])
    refine lv_aload_n hx hb (pc := 40) dX5_isSpentBy_40 rfl (lv_at hl 2 rfl) ?_
    refine va_get (v := .ref mo) hx hb hts (inX5_isSpentBy_5) hown hKK.1 hP 0 rfl rfl 0 (by decide) (hts _ (List.mem_of_getElem? (i := 1) (by decide +kernel))) (fun _ h9 => h9) rfl (pc := 41) dX5_isSpentBy_41 ?_
    refine va_get (v := .int (nI (((adK kn key).map nI).length))) hx hb hts (inX5_isSpentBy_3) hown hKK.1 hP 1 rfl rfl 0 (by decide) (hts _ (List.mem_of_getElem? (i := 2) (by decide +kernel))) (fun _ h9 => h9) rfl (pc := 44) dX5_isSpentBy_44 ?_
    refine lv_sipush (v := nI 20000) hx hb (pc := 47) dX5_isSpentBy_47 (by decide) ?_
    refine nv_icmp_le (a := (((adK kn key).map nI).length)) (b := 20000) (tgt := 57) hx hb (pc := 50) dX5_isSpentBy_50 (by decide) (by omega) (by omega) (fun c50 => ?_) (fun c50 => ?_)
    · refine lv_iconst (v := nI 0) hx hb (pc := 57) dX5_isSpentBy_57 (by decide) ?_
      exact hret.1 _ _ (0 + (capN cap (kn.map nI).length - cap)) (0 + 8 * (capN cap (kn.map nI).length - cap)) 58 _ (nI 0) dX5_isSpentBy_58 (by rw [hlm]; omega) (by rw [hlm]; omega) hS (by first | exact ⟨mk2, mn2, ms2, b2, ks2, _, sl2, by rw [adN, if_neg hnot, ← hlm]; exact MInv_note hM3 hidx, by rw [← hlm]; exact hP, by rw [← hlm]; exact hD, by first | (rw [decide_eq_true (by omega)]; rfl) | (rw [decide_eq_false (by omega)]; rfl)⟩ | exact ⟨mk2, mn2, ms2, b2, ks2, _, sl2, by rw [adN, if_pos hmem, ← hlm]; rw [adN, if_pos hmem] at hM2; exact hM2, by rw [← hlm]; exact hP, by rw [← hlm]; exact hD, by first | (rw [decide_eq_true (by omega)]; rfl) | (rw [decide_eq_false (by omega)]; rfl)⟩) (by decide)
    · refine lv_iconst (v := nI 1) hx hb (pc := 53) dX5_isSpentBy_53 (by decide) ?_
      refine lv_goto (tgt := 58) hx hb (pc := 54) dX5_isSpentBy_54 (by decide) ?_
      exact hret.1 _ _ (0 + (capN cap (kn.map nI).length - cap)) (0 + 8 * (capN cap (kn.map nI).length - cap)) 58 _ (nI 1) dX5_isSpentBy_58 (by rw [hlm]; omega) (by rw [hlm]; omega) hS (by first | exact ⟨mk2, mn2, ms2, b2, ks2, _, sl2, by rw [adN, if_neg hnot, ← hlm]; exact MInv_note hM3 hidx, by rw [← hlm]; exact hP, by rw [← hlm]; exact hD, by first | (rw [decide_eq_true (by omega)]; rfl) | (rw [decide_eq_false (by omega)]; rfl)⟩ | exact ⟨mk2, mn2, ms2, b2, ks2, _, sl2, by rw [adN, if_pos hmem, ← hlm]; rw [adN, if_pos hmem] at hM2; exact hM2, by rw [← hlm]; exact hP, by rw [← hlm]; exact hD, by first | (rw [decide_eq_true (by omega)]; rfl) | (rw [decide_eq_false (by omega)]; rfl)⟩) (by decide)
  · have hnot : key ∉ kn := fun q => by have := List.idxOf_lt_length_of_mem q; omega
    have hidx : kn.idxOf key = nt.length := by omega
    have hM3 : MInv ((adK kn key).map nI) (nt ++ [0]) (capN cap (kn.map nI).length) b2 ks2 no2 sl2 := by rw [show nt ++ [0] = adN kn nt key 0 from by rw [adN, if_neg hnot]]; exact hM2
    have hadl : (adK kn key).length = kn.length + 1 := by rw [adK, if_neg hnot, List.length_append]; rfl
    refine lv_aload_n hx hb (pc := 26) dX5_isSpentBy_26 rfl (lv_at hl 2 rfl) ?_
    refine va_get (v := .ref mo) hx hb hts (inX5_isSpentBy_5) hown hKK.1 hP 0 rfl rfl 0 (by decide) (hts _ (List.mem_of_getElem? (i := 1) (by decide +kernel))) (fun _ h9 => h9) rfl (pc := 27) dX5_isSpentBy_27 ?_
    refine lv_iload hx hb (pc := 30) dX5_isSpentBy_30 (lv_at hl 0 rfl) ?_
    refine lv_iconst (v := nI 4) hx hb (pc := 32) dX5_isSpentBy_32 (by decide) ?_
    refine lv_iload_n hx hb (pc := 33) dX5_isSpentBy_33 rfl (lv_at hl 4 rfl) ?_
    refine nv_imul (a := 4) (b := pf) hx hb (pc := 34) dX5_isSpentBy_34 ?_
    refine lv_iload_n hx hb (pc := 35) dX5_isSpentBy_35 rfl (lv_at hl 5 rfl) ?_
    refine nv_iadd (a := (4 * pf)) (b := le) hx hb (pc := 36) dX5_isSpentBy_36 ?_
    have hP : va_P K.1 vwCl (PT1 K po mo lp ll ++ MW3 K mo mk2 mn2 ms2 (((adK kn key).map nI).length) b2 (capN cap (kn.map nI).length) ks2 no2 sl2) H := hP
    have hD : va_D A (PT1 K po mo lp ll ++ MW3 K mo mk2 mn2 ms2 (((adK kn key).map nI).length) b2 (capN cap (kn.map nI).length) ks2 no2 sl2) := hD
    have hDc := rr_AW (rr_Dright hD)
    refine rr_callV (pc := 37) (va_runV (As := [.int (nI (kn.idxOf key)), .int (nI ((4 * pf) + le))]) (rest := []) ⟨hx, hb, hml, hown, hts⟩ (c_X3_putNote l K (AW (MW3 K mo mk2 mn2 ms2 (((adK kn key).map nI).length) b2 (capN cap (kn.map nI).length) ks2 no2 sl2)) mo mk2 mn2 ms2 b2 (capN cap (kn.map nI).length) ks2 no2 sl2 ((adK kn key).map nI) (nt ++ [0]) (kn.idxOf key) (4 * pf + le) hM3 (by omega) hDc) (cwV 2 hts gX5_isSpentBy_X3_putNote rfl rfl rfl (by decide +kernel) ⟨Nat.le_of_ble_eq_true rfl, Nat.le_of_ble_eq_true rfl⟩) (rr_preV hKK (rr_right hP) (va_recv hKK.1 hP (ci := 3) (q0 := 1) rfl rfl)) rfl rfl hl.1 rfl (lv_room (Nat.le_of_ble_eq_true rfl)) dX5_isSpentBy_37 ⟨by show 0 + (capN cap (kn.map nI).length - cap) + 0 ≤ capN cap kn.length - cap; rw [hlm]; omega, by show 0 + 8 * (capN cap (kn.map nI).length - cap) + 0 ≤ 8 * (capN cap kn.length - cap); rw [hlm]; omega⟩) hS (rr_AW_in (rr_Dright hD)) (fun H locs hY hsz hfr hS => ?_)
    have hP1 := hY
    obtain ⟨hP, hD⟩ := rr_app2 hP hD hfr hP1 rfl
    have hD : va_D A (PT1 K po mo lp ll ++ MW3 K mo mk2 mn2 ms2 (((adK kn key).map nI).length) b2 (capN cap (kn.map nI).length) ks2 (va_up no2 (kn.idxOf key) (4 * pf + le)) sl2) := hD
    have hP : va_P K.1 vwCl (PT1 K po mo lp ll ++ MW3 K mo mk2 mn2 ms2 (((adK kn key).map nI).length) b2 (capN cap (kn.map nI).length) ks2 (va_up no2 (kn.idxOf key) (4 * pf + le)) sl2) H := hP
    refine lv_aload_n hx hb (pc := 40) dX5_isSpentBy_40 rfl (lv_at hl 2 rfl) ?_
    refine va_get (v := .ref mo) hx hb hts (inX5_isSpentBy_5) hown hKK.1 hP 0 rfl rfl 0 (by decide) (hts _ (List.mem_of_getElem? (i := 1) (by decide +kernel))) (fun _ h9 => h9) rfl (pc := 41) dX5_isSpentBy_41 ?_
    refine va_get (v := .int (nI (((adK kn key).map nI).length))) hx hb hts (inX5_isSpentBy_3) hown hKK.1 hP 1 rfl rfl 0 (by decide) (hts _ (List.mem_of_getElem? (i := 2) (by decide +kernel))) (fun _ h9 => h9) rfl (pc := 44) dX5_isSpentBy_44 ?_
    refine lv_sipush (v := nI 20000) hx hb (pc := 47) dX5_isSpentBy_47 (by decide) ?_
    refine nv_icmp_le (a := (((adK kn key).map nI).length)) (b := 20000) (tgt := 57) hx hb (pc := 50) dX5_isSpentBy_50 (by decide) (by omega) (by omega) (fun c50 => ?_) (fun c50 => ?_)
    · refine lv_iconst (v := nI 0) hx hb (pc := 57) dX5_isSpentBy_57 (by decide) ?_
      exact hret.1 _ _ (0 + (capN cap (kn.map nI).length - cap)) (0 + 8 * (capN cap (kn.map nI).length - cap)) 58 _ (nI 0) dX5_isSpentBy_58 (by rw [hlm]; omega) (by rw [hlm]; omega) hS (by first | exact ⟨mk2, mn2, ms2, b2, ks2, _, sl2, by rw [adN, if_neg hnot, ← hlm]; exact MInv_note hM3 hidx, by rw [← hlm]; exact hP, by rw [← hlm]; exact hD, by first | (rw [decide_eq_true (by omega)]; rfl) | (rw [decide_eq_false (by omega)]; rfl)⟩ | exact ⟨mk2, mn2, ms2, b2, ks2, _, sl2, by rw [adN, if_pos hmem, ← hlm]; rw [adN, if_pos hmem] at hM2; exact hM2, by rw [← hlm]; exact hP, by rw [← hlm]; exact hD, by first | (rw [decide_eq_true (by omega)]; rfl) | (rw [decide_eq_false (by omega)]; rfl)⟩) (by decide)
    · refine lv_iconst (v := nI 1) hx hb (pc := 53) dX5_isSpentBy_53 (by decide) ?_
      refine lv_goto (tgt := 58) hx hb (pc := 54) dX5_isSpentBy_54 (by decide) ?_
      exact hret.1 _ _ (0 + (capN cap (kn.map nI).length - cap)) (0 + 8 * (capN cap (kn.map nI).length - cap)) 58 _ (nI 1) dX5_isSpentBy_58 (by rw [hlm]; omega) (by rw [hlm]; omega) hS (by first | exact ⟨mk2, mn2, ms2, b2, ks2, _, sl2, by rw [adN, if_neg hnot, ← hlm]; exact MInv_note hM3 hidx, by rw [← hlm]; exact hP, by rw [← hlm]; exact hD, by first | (rw [decide_eq_true (by omega)]; rfl) | (rw [decide_eq_false (by omega)]; rfl)⟩ | exact ⟨mk2, mn2, ms2, b2, ks2, _, sl2, by rw [adN, if_pos hmem, ← hlm]; rw [adN, if_pos hmem] at hM2; exact hM2, by rw [← hlm]; exact hP, by rw [← hlm]; exact hD, by first | (rw [decide_eq_true (by omega)]; rfl) | (rw [decide_eq_false (by omega)]; rfl)⟩) (by decide)

