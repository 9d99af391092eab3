abbrev rmX2_meetAll (mc ms : Nat) : Room := { frames := 4, cells := mc, slots := ms, locals := 87 }
theorem inX2_meetAll_2 : ∀ w ∈ wsX20, w ∈ wsX2_meetAll := fun _ h => List.mem_cons_of_mem _ (List.mem_append_left _ (List.mem_append_right _ h))
set_option maxHeartbeats 4000000 in
set_option maxRecDepth 100000 in
theorem c_X2_meetAll (l : Launch) (K : rr_K) (A : Nat → Prop) (sz : Nat) (qo mo mk mn ms b cap : Nat) (ks : Nat → Int32) (no sl : Nat → Nat) (kn nt : List Nat) (sts rest : Nat) (hM : MInv (kn.map nI) nt cap b ks no sl) (hkn : ∀ x ∈ kn, x < 67108864) (hlen : kn.length ≤ 20000) (hst : sts < 65536) (hrest : rest < 4194304) (hA : ∀ q, sz ≤ q → A q) (hD : va_D A (QW1 K qo mo ++ MW3 K mo mk mn ms ((kn.map nI).length) b cap ks no sl)) : MetV l K yX2_meetAll wsX2_meetAll (rmX2_meetAll (((mAll sts rest (kn, cap)).2 - cap)) ((8 * ((mAll sts rest (kn, cap)).2 - cap)))) [.ref qo, .int (nI sts), .int (nI rest)] (fun H => H.size = sz ∧ va_P K.1 vwCl (QW1 K qo mo ++ MW3 K mo mk mn ms ((kn.map nI).length) b cap ks no sl) H) A (fun H => ∃ mk' mn' ms' b' ks' no' sl' nt', MInv ((mAll sts rest (kn, cap)).1.map nI) nt' (mAll sts rest (kn, cap)).2 b' ks' no' sl' ∧ va_P K.1 vwCl (QW1 K qo mo ++ MW3 K mo mk' mn' ms' ((mAll sts rest (kn, cap)).1.map nI).length b' (mAll sts rest (kn, cap)).2 ks' no' sl') H ∧ va_D A (QW1 K qo mo ++ MW3 K mo mk' mn' ms' ((mAll sts rest (kn, cap)).1.map nI).length b' (mAll sts rest (kn, cap)).2 ks' no' sl')) ((mAll sts rest (kn, cap)).2 - cap) (8 * ((mAll sts rest (kn, cap)).2 - cap)) := by
  refine metV_of (cc := cX2_meetAll) (maxL := 4) (by decide) rfl rfl rfl (Nat.le_of_ble_eq_true rfl) ?_
  intro p e s m args below meth c Q ls hEnt hin hKK hX hret hl
  obtain ⟨hx, hb, hml, hown, hts⟩ := hEnt
  obtain ⟨hsz0, hX⟩ := hX
  have hA : ∀ q, s.heap.size ≤ q → A q := fun q h => hA q (hsz0 ▸ h)
  have hP : va_P K.1 vwCl (QW1 K qo mo ++ MW3 K mo mk mn ms ((kn.map nI).length) b cap ks no sl) s.heap := hX
  have hl : lv_has ls 4 [(0, .ref qo), (1, .int (nI sts)), (2, .int (nI rest))] := hl
  have hS : va_S A s.heap s.heap [] := va_S.rf
  refine lv_iconst (v := nI 0) hx hb (pc := 0) dX2_meetAll_0 (by decide) ?_
  refine lv_istore_n (lv' := [(3, .int (nI 0)), (0, .ref qo), (1, .int (nI sts)), (2, .int (nI rest))]) hx hb (pc := 1) dX2_meetAll_1 rfl hl (by decide) rfl (fun ls hl => ?_)
  have L2 : ∀ (fz : Nat) (x : Nat) (kn1 : List Nat) (nt1 : List Nat) (cap1 : Nat) (mk1 : Nat) (mn1 : Nat) (ms1 : Nat) (b1 : Nat) (ks1 : Nat → Int32) (no1 : Nat → Nat) (sl1 : Nat → Nat) (H : Heap) (locs : List Loc) (hP : va_P K.1 vwCl (QW1 K qo mo ++ MW3 K mo mk1 mn1 ms1 ((kn1.map nI).length) b1 cap1 ks1 no1 sl1) H) (hD : va_D A (QW1 K qo mo ++ MW3 K mo mk1 mn1 ms1 ((kn1.map nI).length) b1 cap1 ks1 no1 sl1)) (hS : va_S A s.heap H locs) (hfz : 16 - x < fz) (hM1 : MInv (kn1.map nI) nt1 cap1 b1 ks1 no1 sl1) (hxs : x ≤ 16) (hk1 : ∀ y ∈ kn1, y < 67108864) (hl1 : kn1.length ≤ kn.length + x) (hcc1 : cap ≤ cap1) (he1 : (kn1, cap1) = rr_fold (mA1 sts rest) x (kn, cap)) (ls : Array Slot) (hl : lv_has ls 4 [(0, .ref qo), (1, .int (nI sts)), (2, .int (nI rest)), (3, .int (nI x))]), W p l e (rmX2_meetAll (((mAll sts rest (kn, cap)).2 - cap)) ((8 * ((mAll sts rest (kn, cap)).2 - cap)))) s m args below meth c H locs (cap1 - cap) (8 * (cap1 - cap)) Q (F0 m 2 ls []) := by
    intro fz; induction fz with
    | zero => intro x kn1 nt1 cap1 mk1 mn1 ms1 b1 ks1 no1 sl1 H locs hP hD hS hfz hM1 hxs hk1 hl1 hcc1 he1 ls hl; exact absurd hfz (Nat.not_lt_zero _)
    | succ fz ih2 =>
      intro x kn1 nt1 cap1 mk1 mn1 ms1 b1 ks1 no1 sl1 H locs hP hD hS hfz hM1 hxs hk1 hl1 hcc1 he1 ls hl
      have hlm1 : (kn1.map nI).length = kn1.length := List.length_map _
      refine lv_iload_n hx hb (pc := 2) dX2_meetAll_2 rfl (lv_at hl 3 rfl) ?_
      refine lv_bipush (v := nI 16) hx hb (pc := 3) dX2_meetAll_3 (by decide) ?_
      refine nv_icmp_ge (a := x) (b := 16) (tgt := 36) hx hb (pc := 5) dX2_meetAll_5 (by decide) (by omega) (by omega) (fun c5 => ?_) (fun c5 => ?_)
      · obtain rfl : x = 16 := by omega
        have hR : (mAll sts rest (kn, cap)) = (kn1, cap1) := he1.symm
        exact hret _ _ (cap1 - cap) (8 * (cap1 - cap)) 36 _ dX2_meetAll_36 (by rw [hR]; exact Nat.le_refl _) (by rw [hR]; exact Nat.le_refl _) hS (⟨mk1, mn1, ms1, b1, ks1, no1, sl1, nt1, by rw [hR]; exact hM1, by rw [hR]; exact hP, by rw [hR]; exact hD⟩)
      · refine lv_iload_n hx hb (pc := 8) dX2_meetAll_8 rfl (lv_at hl 1 rfl) ?_
        refine lv_iload_n hx hb (pc := 9) dX2_meetAll_9 rfl (lv_at hl 3 rfl) ?_
        refine nv_ishr (a := sts) (b := x) hx hb (pc := 10) dX2_meetAll_10 (by omega) (by omega) ?_
        refine lv_iconst (v := nI 1) hx hb (pc := 11) dX2_meetAll_11 (by decide) ?_
        refine nv_bit (a := sts) (q := x) hx hb (pc := 12) dX2_meetAll_12 ?_
        refine nv_if_eq_b (a := (sts.testBit x)) (tgt := 30) hx hb (pc := 13) dX2_meetAll_13 (by decide) (fun c13 => ?_) (fun c13 => ?_)
        · refine lv_iinc (v := nI (x + 1)) (lv' := [(3, .int (nI (x + 1))), (0, .ref qo), (1, .int (nI sts)), (2, .int (nI rest))]) hx hb (pc := 30) dX2_meetAll_30 hl (k := 3) rfl (rr_inc _) (by decide) rfl (fun ls hl => ?_)
          refine lv_goto (tgt := 2) hx hb (pc := 33) dX2_meetAll_33 (by decide) ?_
          exact ih2 (x + 1) kn1 nt1 cap1 mk1 mn1 ms1 b1 ks1 no1 sl1 _ _ hP hD hS (by omega) (hM1) (by omega) (hk1) (by omega) (hcc1) (by rw [rr_fold_succ, ← he1, mA1, if_neg (by first | exact c13 | (rw [c13]; decide))]) ls (lv_sub hl [1, 2, 3, 0] rfl)
        · have hky := key22 (show x < 16 by omega) hrest
          have hcl : capN cap1 (kn1.map nI).length = capN cap1 kn1.length := by rw [hlm1]
          have hal := adK_len kn1 (x <<< 22 ||| rest)
          have hcN := capN_le cap1 kn1.length
          have he2 : ((adK kn1 (x <<< 22 ||| rest)), capN cap1 kn1.length) = rr_fold (mA1 sts rest) (x + 1) (kn, cap) := by rw [rr_fold_succ, ← he1, mA1, if_pos (by first | exact c13 | simpa using c13)]
          have hcF : capN cap1 kn1.length ≤ (mAll sts rest (kn, cap)).2 := by
            have h := mF_mono sts rest (kn, cap) (show x + 1 ≤ 16 by omega)
            rw [← he2] at h
            exact h
          refine lv_aload_n hx hb (pc := 16) dX2_meetAll_16 rfl (lv_at hl 0 rfl) ?_
          refine va_get (v := .ref mo) hx hb hts (inX2_meetAll_2) hown hKK.1 hP 0 rfl rfl 0 (by decide) (hts _ (List.mem_of_getElem? (i := 1) (by decide +kernel))) (fun _ h9 => h9) rfl (pc := 17) dX2_meetAll_17 ?_
          refine lv_iload_n hx hb (pc := 20) dX2_meetAll_20 rfl (lv_at hl 3 rfl) ?_
          refine lv_bipush (v := nI 22) hx hb (pc := 21) dX2_meetAll_21 (by decide) ?_
          refine nv_ishl (a := x) (b := 22) hx hb (pc := 23) dX2_meetAll_23 (by omega) ?_
          refine lv_iload_n hx hb (pc := 24) dX2_meetAll_24 rfl (lv_at hl 2 rfl) ?_
          refine nv_ior (a := (x <<< 22)) (b := rest) hx hb (pc := 25) dX2_meetAll_25 ?_
          have hPc := hP.sub (ws' := MW3 K mo mk1 mn1 ms1 ((kn1.map nI).length) b1 cap1 ks1 no1 sl1) [1, 2, 3, 4] rfl
          have hDc := (hD.sub (ws' := MW3 K mo mk1 mn1 ms1 ((kn1.map nI).length) b1 cap1 ks1 no1 sl1) [1, 2, 3, 4] (by decide) rfl).self (sz := H.size)
          have hFc := va_free (wc := MW3 K mo mk1 mn1 ms1 ((kn1.map nI).length) b1 cap1 ks1 no1 sl1) hD hS hA [1, 2, 3, 4] rfl
          refine rr_callR (pc := 26) (va_runV (As := [.int (nI ((x <<< 22) ||| rest))]) (rest := []) ⟨hx, hb, hml, hown, hts⟩ (c_X3_placeOf l K (va_A (MW3 K mo mk1 mn1 ms1 ((kn1.map nI).length) b1 cap1 ks1 no1 sl1) H.size) H.size mo mk1 mn1 ms1 b1 cap1 ks1 no1 sl1 (kn1.map nI) nt1 (nI (x <<< 22 ||| rest)) hM1 (by omega) (fun q h => Or.inr h) hDc) (cwV 1 hts gX2_meetAll_X3_placeOf rfl rfl rfl (by decide +kernel) ⟨Nat.le_of_ble_eq_true rfl, Nat.le_of_ble_eq_true rfl⟩) (rr_preV hKK (⟨rfl, hPc⟩) (va_recv hKK.1 hP (ci := 3) (q0 := 1) rfl rfl)) rfl rfl hl.1 rfl (lv_room (Nat.le_of_ble_eq_true rfl)) dX2_meetAll_26 ⟨by show cap1 - cap + (capN cap1 (kn1.map nI).length - cap1) ≤ (mAll sts rest (kn, cap)).2 - cap; omega, by show 8 * (cap1 - cap) + 8 * (capN cap1 (kn1.map nI).length - cap1) ≤ 8 * ((mAll sts rest (kn, cap)).2 - cap); omega⟩) hS (hFc) (fun v H locs hY hsz hfr hS => ?_)
          obtain ⟨mk2, mn2, ms2, b2, ks2, no2, sl2, hM2, hP1, hD1, rfl⟩ := hY
          have hk32 : ∀ y ∈ kn1, y < 2 ^ 32 := fun y hy => Nat.lt_trans (hk1 y hy) (by decide)
          rw [plK_map hk32 (Nat.lt_trans hky.1 (by decide)), plN_map hk32 (Nat.lt_trans hky.1 (by decide)), hcl] at hM2
          rw [plK_map hk32 (Nat.lt_trans hky.1 (by decide)), hcl] at hP1 hD1
          obtain ⟨hP, hD⟩ := va_join (wr := [(qo, .inr (2, [.ref mo]))]) (w1 := [(mo, .inr (3, [.int (nI (((adK kn1 (x <<< 22 ||| rest)).map nI).length)), .ref mk2, .ref mn2, .ref ms2, .int (nI b2)])), (mk2, .inl (K.2.1, (capN cap1 kn1.length), .inl (ks2))), (mn2, .inl (K.2.1, (capN cap1 kn1.length), .inl (fun j => nI (no2 j)))), (ms2, .inl (K.2.1, 2 * (capN cap1 kn1.length), .inl (fun j => nI (sl2 j))))]) hP hD [1, 2, 3, 4] [0] rfl rfl (by decide) (by decide) hfr hFc hP1 hD1
          have hP : va_P K.1 vwCl ([(qo, .inr (2, [.ref mo])), (mo, .inr (3, [.int (nI (((adK kn1 (x <<< 22 ||| rest)).map nI).length)), .ref mk2, .ref mn2, .ref ms2, .int (nI b2)])), (mk2, .inl (K.2.1, (capN cap1 kn1.length), .inl (ks2))), (mn2, .inl (K.2.1, (capN cap1 kn1.length), .inl (fun j => nI (no2 j)))), (ms2, .inl (K.2.1, 2 * (capN cap1 kn1.length), .inl (fun j => nI (sl2 j))))]) H := hP
          have hD : va_D A ([(qo, .inr (2, [.ref mo])), (mo, .inr (3, [.int (nI (((adK kn1 (x <<< 22 ||| rest)).map nI).length)), .ref mk2, .ref mn2, .ref ms2, .int (nI b2)])), (mk2, .inl (K.2.1, (capN cap1 kn1.length), .inl (ks2))), (mn2, .inl (K.2.1, (capN cap1 kn1.length), .inl (fun j => nI (no2 j)))), (ms2, .inl (K.2.1, 2 * (capN cap1 kn1.length), .inl (fun j => nI (sl2 j))))]) := hD
          have hP : va_P K.1 vwCl (QW1 K qo mo ++ MW3 K mo mk2 mn2 ms2 (((adK kn1 (x <<< 22 ||| rest)).map nI).length) b2 (capN cap1 kn1.length) ks2 no2 sl2) H := hP
          have hD : va_D A (QW1 K qo mo ++ MW3 K mo mk2 mn2 ms2 (((adK kn1 (x <<< 22 ||| rest)).map nI).length) b2 (capN cap1 kn1.length) ks2 no2 sl2) := hD
          refine lv_pop hx hb (pc := 29) dX2_meetAll_29 rfl ?_
          refine W.widen (k := capN cap1 kn1.length - cap) (n := 8 * (capN cap1 kn1.length - cap)) (by omega) (by omega) ?_
          refine lv_iinc (v := nI (x + 1)) (lv' := [(3, .int (nI (x + 1))), (0, .ref qo), (1, .int (nI sts)), (2, .int (nI rest))]) hx hb (pc := 30) dX2_meetAll_30 hl (k := 3) rfl (rr_inc _) (by decide) rfl (fun ls hl => ?_)
          refine lv_goto (tgt := 2) hx hb (pc := 33) dX2_meetAll_33 (by decide) ?_
          exact ih2 (x + 1) (adK kn1 (x <<< 22 ||| rest)) (adN kn1 nt1 (x <<< 22 ||| rest) 0) (capN cap1 kn1.length) mk2 mn2 ms2 b2 ks2 no2 sl2 _ _ hP hD hS (by omega) (hM2) (by omega) (adK_all hk1 hky.1) (by omega) (by omega) (he2) ls (lv_sub hl [1, 2, 3, 0] rfl)
  refine W.widen (k := cap - cap) (n := 8 * (cap - cap)) (by omega) (by omega) ?_
  exact L2 (17) 0 kn nt cap mk mn ms b ks no sl _ _ hP hD hS (by omega) (hM) (Nat.zero_le _) (hkn) (Nat.le_refl _) (Nat.le_refl _) (rfl) ls (lv_sub hl [1, 2, 3, 0] rfl)

abbrev rmX2_behind : Room := { frames := 1, cells := 0, slots := 0, locals := 23 }
theorem inX2_behind_4 : ∀ w ∈ wsX40, w ∈ wsX2_behind := fun _ h => List.mem_cons_of_mem _ (List.mem_append_left _ (List.mem_append_right _ h))
set_option maxHeartbeats 4000000 in
set_option maxRecDepth 100000 in
theorem c_X2_behind (l : Launch) (K : rr_K) (qo po pt wd : Nat) (TD : Nat → Nat) (gb eb tb kb nb gwb alb lwb : Nat) (Eb Tb : Nat → Nat) (key lt : Nat) (hw1 : 1 ≤ wd) (hw : wd ≤ 3) (hTD : ∀ r, r < 64 → TD r < 4) (hk4 : kb ≤ 4) (hnb : nb ≤ 16) (halb : alb < 2 ^ nb) (hTb : TInv kb nb alb Eb Tb) (hkey : key < 67108864) (hlt : lt < 4) (hsub : sub (key &&& 65535) alb) : MetP l K yX2_behind wsX2_behind rmX2_behind [.ref qo, .int (nI key), .int (nI lt), .ref gb, .ref po] (fun H => va_P K.1 vwCl (GW K gb eb tb kb nb gwb alb lwb Eb Tb) H ∧ va_P K.1 vwCl (PW K po pt wd TD) H) (.int (nI (bhd wd TD (ldS kb nb Eb alb) key lt))) := by
  refine metP_of (cc := cX2_behind) (maxL := 9) (ret := (some .int)) (rt := .int) (by decide) rfl rfl (Nat.le_of_ble_eq_true rfl) ?_
  intro p e s m args below meth c Q ls hEnt hKK hX hret hl
  obtain ⟨hx, hb, hml, hown, hts⟩ := hEnt
  obtain ⟨hP, hG⟩ := hX
  have hl : lv_has ls 9 [(0, .ref qo), (1, .int (nI key)), (2, .int (nI lt)), (3, .ref gb), (4, .ref po)] := hl
  have h3 : key >>> 20 &&& 3 ≤ 3 := Nat.and_le_right
  have h15 : key >>> 16 &&& 15 ≤ 15 := Nat.and_le_right
  have hr64 := bhdR_lt key hlt
  have hr15 : bhdR key lt &&& 15 ≤ 15 := Nat.and_le_right
  have h65 : key &&& 65535 ≤ 65535 := Nat.and_le_right
  have h2w : 2 ^ (2 * wd) ≤ 64 := Nat.le_trans (Nat.pow_le_pow_right (by decide) (show 2 * wd ≤ 6 by omega)) (by decide)
  have h4w : 4 ≤ 2 ^ (2 * wd) := Nat.le_trans (by decide) (Nat.pow_le_pow_right (by decide) (show 2 ≤ 2 * wd by omega))
  have h4s : 1 ≤ 2 ^ (2 * wd) >>> 2 := by rw [Nat.shiftRight_eq_div_pow]; omega
  have h4t : 2 ^ (2 * wd) >>> 2 ≤ 16 := by rw [Nat.shiftRight_eq_div_pow]; omega
  have hTDr := hTD _ hr64
  have hTD4 : (if bhdR key lt < 2 ^ (2 * wd) then TD (bhdR key lt) else 0) < 4 := by split <;> omega
  have hkp : bhdR key lt &&& (2 ^ (2 * wd) >>> 2) - 1 ≤ 15 := Nat.le_trans Nat.and_le_right (by omega)
  have pb : 2 ^ nb ≤ 65536 := Nat.le_trans (Nat.pow_le_pow_right (by decide) hnb) (by decide)
  have hst := c_X1_step l K gb eb tb kb nb gwb alb lwb Eb Tb (key &&& 65535) (if bhdR key lt < 2 ^ (2 * wd) then TD (bhdR key lt) else 0) (by omega) hTD4 hk4
  rw [stp_eq hTb hnb hsub halb] at hst
  have hs16 : ldS kb nb Eb alb (key &&& 65535) (if bhdR key lt < 2 ^ (2 * wd) then TD (bhdR key lt) else 0) < 65536 := Nat.lt_of_le_of_lt (sub_le (ldS_sub _ _ _ _ _ _)) (by omega)
  refine lv_iload_n hx hb (pc := 0) dX2_behind_0 rfl (lv_at hl 1 rfl) ?_
  refine lv_bipush (v := nI 20) hx hb (pc := 1) dX2_behind_1 (by decide) ?_
  refine nv_ishr (a := key) (b := 20) hx hb (pc := 3) dX2_behind_3 (by omega) (by omega) ?_
  refine lv_iconst (v := nI 3) hx hb (pc := 4) dX2_behind_4 (by decide) ?_
  refine nv_iand (a := (key >>> 20)) (b := 3) hx hb (pc := 5) dX2_behind_5 ?_
  refine lv_istore (lv' := [(5, .int (nI ((key >>> 20) &&& 3))), (0, .ref qo), (1, .int (nI key)), (2, .int (nI lt)), (3, .ref gb), (4, .ref po)]) hx hb (pc := 6) dX2_behind_6 hl (by decide) rfl (fun ls hl => ?_)
  refine lv_iload_n hx hb (pc := 8) dX2_behind_8 rfl (lv_at hl 2 rfl) ?_
  refine lv_bipush (v := nI 16) hx hb (pc := 9) dX2_behind_9 (by decide) ?_
  refine nv_ishr (a := key) (b := 16) hx hb (pc := 11) dX2_behind_11 (by omega) (by omega) ?_
  refine lv_bipush (v := nI 15) hx hb (pc := 12) dX2_behind_12 (by decide) ?_
  refine nv_iand (a := (key >>> 16)) (b := 15) hx hb (pc := 14) dX2_behind_14 ?_
  refine lv_iconst (v := nI 2) hx hb (pc := 15) dX2_behind_15 (by decide) ?_
  refine nv_ishl (a := ((key >>> 16) &&& 15)) (b := 2) hx hb (pc := 16) dX2_behind_16 (by omega) ?_
  refine lv_iload_n hx hb (pc := 17) dX2_behind_17 rfl (lv_at hl 3 rfl) ?_
  refine nv_ior (a := (((key >>> 16) &&& 15) <<< 2)) (b := lt) hx hb (pc := 18) dX2_behind_18 ?_
  refine rr_top (v := .int (nI (bhdR key lt))) (rfl) ?_
  refine lv_istore (lv' := [(6, .int (nI (bhdR key lt))), (5, .int (nI ((key >>> 20) &&& 3))), (0, .ref qo), (1, .int (nI key)), (2, .int (nI lt)), (3, .ref gb), (4, .ref po)]) hx hb (pc := 19) dX2_behind_19 hl (by decide) rfl (fun ls hl => ?_)
  refine lv_iload hx hb (pc := 21) dX2_behind_21 (lv_at hl 1 rfl) ?_
  refine lv_aload hx hb (pc := 23) dX2_behind_23 (lv_at hl 6 rfl) ?_
  refine va_get (v := .int (nI wd)) hx hb hts (inX2_behind_4) hown hKK.1 hG 0 rfl rfl 0 (by decide) (hts _ (List.mem_of_getElem? (i := 1) (by decide +kernel))) (fun _ h9 => h9) rfl (pc := 25) dX2_behind_25 ?_
  refine lv_iconst (v := nI 1) hx hb (pc := 28) dX2_behind_28 (by decide) ?_
  refine nv_isub (a := wd) (b := 1) hx hb (pc := 29) dX2_behind_29 (by omega) ?_
  refine nv_icmp_ge (a := ((key >>> 20) &&& 3)) (b := (wd - 1)) (tgt := 55) hx hb (pc := 30) dX2_behind_30 (by decide) (by omega) (by omega) (fun c30 => ?_) (fun c30 => ?_)
  · refine lv_iload hx hb (pc := 55) dX2_behind_55 (lv_at hl 0 rfl) ?_
    refine lv_aload hx hb (pc := 57) dX2_behind_57 (lv_at hl 6 rfl) ?_
    refine rr_callP (rv := .int (nI (2 ^ (2 * wd)))) (pc := 59) (va_runV (As := []) (rest := [.int (nI (bhdR key lt))]) ⟨hx, hb, hml, hown, hts⟩ (c_X4_rows l K po pt wd TD hw) (cwV 0 hts gX2_behind_X4_rows rfl rfl rfl (by decide +kernel) ⟨Nat.le_of_ble_eq_true rfl, Nat.le_of_ble_eq_true rfl⟩) (rr_preV hKK (hG) (va_recv hKK.1 hG (ci := 4) (q0 := 0) rfl rfl)) rfl rfl hl.1 rfl (lv_room (Nat.le_of_ble_eq_true rfl)) dX2_behind_59 ⟨Nat.le_refl _, Nat.le_refl _⟩) ?_
    refine nv_icmp_ge (a := (bhdR key lt)) (b := (2 ^ (2 * wd))) (tgt := 76) hx hb (pc := 62) dX2_behind_62 (by decide) (by omega) (by omega) (fun c62 => ?_) (fun c62 => ?_)
    · refine lv_iconst (v := nI 0) hx hb (pc := 76) dX2_behind_76 (by decide) ?_
      refine rr_top (v := .int (nI ((if bhdR key lt < 2 ^ (2 * wd) then TD (bhdR key lt) else 0)))) (by first | rw [if_pos (by omega)] | rw [if_neg (by omega)]) ?_
      refine lv_istore (lv' := [(7, .int (nI ((if bhdR key lt < 2 ^ (2 * wd) then TD (bhdR key lt) else 0)))), (6, .int (nI (bhdR key lt))), (5, .int (nI ((key >>> 20) &&& 3))), (0, .ref qo), (1, .int (nI key)), (2, .int (nI lt)), (3, .ref gb), (4, .ref po)]) hx hb (pc := 77) dX2_behind_77 hl (by decide) rfl (fun ls hl => ?_)
      refine lv_iload hx hb (pc := 79) dX2_behind_79 (lv_at hl 1 rfl) ?_
      refine lv_aload hx hb (pc := 81) dX2_behind_81 (lv_at hl 7 rfl) ?_
      refine rr_callP (rv := .int (nI (2 ^ (2 * wd)))) (pc := 83) (va_runV (As := []) (rest := [.int (nI (bhdR key lt))]) ⟨hx, hb, hml, hown, hts⟩ (c_X4_rows l K po pt wd TD hw) (cwV 0 hts gX2_behind_X4_rows rfl rfl rfl (by decide +kernel) ⟨Nat.le_of_ble_eq_true rfl, Nat.le_of_ble_eq_true rfl⟩) (rr_preV hKK (hG) (va_recv hKK.1 hG (ci := 4) (q0 := 0) rfl rfl)) rfl rfl hl.1 rfl (lv_room (Nat.le_of_ble_eq_true rfl)) dX2_behind_83 ⟨Nat.le_refl _, Nat.le_refl _⟩) ?_
      refine lv_iconst (v := nI 2) hx hb (pc := 86) dX2_behind_86 (by decide) ?_
      refine nv_ishr (a := (2 ^ (2 * wd))) (b := 2) hx hb (pc := 87) dX2_behind_87 (by omega) (by omega) ?_
      refine lv_iconst (v := nI 1) hx hb (pc := 88) dX2_behind_88 (by decide) ?_
      refine nv_isub (a := ((2 ^ (2 * wd)) >>> 2)) (b := 1) hx hb (pc := 89) dX2_behind_89 (by omega) ?_
      refine nv_iand (a := (bhdR key lt)) (b := (((2 ^ (2 * wd)) >>> 2) - 1)) hx hb (pc := 90) dX2_behind_90 ?_
      refine lv_istore (lv' := [(8, .int (nI ((bhdR key lt) &&& (((2 ^ (2 * wd)) >>> 2) - 1)))), (7, .int (nI ((if bhdR key lt < 2 ^ (2 * wd) then TD (bhdR key lt) else 0)))), (6, .int (nI (bhdR key lt))), (5, .int (nI ((key >>> 20) &&& 3))), (0, .ref qo), (1, .int (nI key)), (2, .int (nI lt)), (3, .ref gb), (4, .ref po)]) hx hb (pc := 91) dX2_behind_91 hl (by decide) rfl (fun ls hl => ?_)
      refine lv_iload hx hb (pc := 93) dX2_behind_93 (lv_at hl 3 rfl) ?_
      refine lv_bipush (v := nI 20) hx hb (pc := 95) dX2_behind_95 (by decide) ?_
      refine nv_ishl (a := ((key >>> 20) &&& 3)) (b := 20) hx hb (pc := 97) dX2_behind_97 (by omega) ?_
      refine lv_iload hx hb (pc := 98) dX2_behind_98 (lv_at hl 0 rfl) ?_
      refine lv_bipush (v := nI 16) hx hb (pc := 100) dX2_behind_100 (by decide) ?_
      refine nv_ishl (a := ((bhdR key lt) &&& (((2 ^ (2 * wd)) >>> 2) - 1))) (b := 16) hx hb (pc := 102) dX2_behind_102 (by omega) ?_
      refine nv_ior (a := (((key >>> 20) &&& 3) <<< 20)) (b := (((bhdR key lt) &&& (((2 ^ (2 * wd)) >>> 2) - 1)) <<< 16)) hx hb (pc := 103) dX2_behind_103 ?_
      refine lv_aload_n hx hb (pc := 104) dX2_behind_104 rfl (lv_at hl 7 rfl) ?_
      refine lv_iload_n hx hb (pc := 105) dX2_behind_105 rfl (lv_at hl 5 rfl) ?_
      refine lv_ldc (v := nI 65535) hx hb (pc := 106) hown (hts _ (List.mem_of_getElem? (i := 2) (by decide +kernel))) dX2_behind_106 ?_
      refine nv_iand (a := key) (b := 65535) hx hb (pc := 108) dX2_behind_108 ?_
      refine lv_iload hx hb (pc := 109) dX2_behind_109 (lv_at hl 1 rfl) ?_
      refine rr_callP (rv := .int (nI (ldS kb nb Eb alb (key &&& 65535) (if bhdR key lt < 2 ^ (2 * wd) then TD (bhdR key lt) else 0)))) (pc := 111) (va_runV (As := [.int (nI (key &&& 65535)), .int (nI ((if bhdR key lt < 2 ^ (2 * wd) then TD (bhdR key lt) else 0)))]) (rest := [.int (nI ((((key >>> 20) &&& 3) <<< 20) ||| (((bhdR key lt) &&& (((2 ^ (2 * wd)) >>> 2) - 1)) <<< 16)))]) ⟨hx, hb, hml, hown, hts⟩ (hst) (cwV 2 hts gX2_behind_X1_step rfl rfl rfl (by decide +kernel) ⟨Nat.le_of_ble_eq_true rfl, Nat.le_of_ble_eq_true rfl⟩) (rr_preV hKK (hP) (va_recv hKK.1 hP (ci := 1) (q0 := 0) rfl rfl)) rfl rfl hl.1 rfl (lv_room (Nat.le_of_ble_eq_true rfl)) dX2_behind_111 ⟨Nat.le_refl _, Nat.le_refl _⟩) ?_
      refine nv_ior (a := ((((key >>> 20) &&& 3) <<< 20) ||| (((bhdR key lt) &&& (((2 ^ (2 * wd)) >>> 2) - 1)) <<< 16))) (b := (ldS kb nb Eb alb (key &&& 65535) (if bhdR key lt < 2 ^ (2 * wd) then TD (bhdR key lt) else 0))) hx hb (pc := 114) dX2_behind_114 ?_
      exact hret.1 115 _ (nI (((((key >>> 20) &&& 3) <<< 20) ||| (((bhdR key lt) &&& (((2 ^ (2 * wd)) >>> 2) - 1)) <<< 16)) ||| (ldS kb nb Eb alb (key &&& 65535) (if bhdR key lt < 2 ^ (2 * wd) then TD (bhdR key lt) else 0)))) dX2_behind_115 (by unfold bhd; rw [if_neg (by omega)]) (rfl)
    · refine lv_aload hx hb (pc := 65) dX2_behind_65 (lv_at hl 6 rfl) ?_
      refine va_get (v := .ref pt) hx hb hts (inX2_behind_4) hown hKK.1 hG 0 rfl rfl 1 (by decide) (hts _ (List.mem_of_getElem? (i := 3) (by decide +kernel))) (fun _ h9 => h9) rfl (pc := 67) dX2_behind_67 ?_
      refine lv_iload hx hb (pc := 70) dX2_behind_70 (lv_at hl 0 rfl) ?_
      refine nv_iald (v := nI (TD (bhdR key lt))) (i := (bhdR key lt)) hx hb hKK hG 1 rfl (by omega) (by decide) (rfl) (pc := 72) dX2_behind_72 ?_
      refine lv_goto (tgt := 77) hx hb (pc := 73) dX2_behind_73 (by decide) ?_
      refine rr_top (v := .int (nI ((if bhdR key lt < 2 ^ (2 * wd) then TD (bhdR key lt) else 0)))) (by first | rw [if_pos (by omega)] | rw [if_neg (by omega)]) ?_
      refine lv_istore (lv' := [(7, .int (nI ((if bhdR key lt < 2 ^ (2 * wd) then TD (bhdR key lt) else 0)))), (6, .int (nI (bhdR key lt))), (5, .int (nI ((key >>> 20) &&& 3))), (0, .ref qo), (1, .int (nI key)), (2, .int (nI lt)), (3, .ref gb), (4, .ref po)]) hx hb (pc := 77) dX2_behind_77 hl (by decide) rfl (fun ls hl => ?_)
      refine lv_iload hx hb (pc := 79) dX2_behind_79 (lv_at hl 1 rfl) ?_
      refine lv_aload hx hb (pc := 81) dX2_behind_81 (lv_at hl 7 rfl) ?_
      refine rr_callP (rv := .int (nI (2 ^ (2 * wd)))) (pc := 83) (va_runV (As := []) (rest := [.int (nI (bhdR key lt))]) ⟨hx, hb, hml, hown, hts⟩ (c_X4_rows l K po pt wd TD hw) (cwV 0 hts gX2_behind_X4_rows rfl rfl rfl (by decide +kernel) ⟨Nat.le_of_ble_eq_true rfl, Nat.le_of_ble_eq_true rfl⟩) (rr_preV hKK (hG) (va_recv hKK.1 hG (ci := 4) (q0 := 0) rfl rfl)) rfl rfl hl.1 rfl (lv_room (Nat.le_of_ble_eq_true rfl)) dX2_behind_83 ⟨Nat.le_refl _, Nat.le_refl _⟩) ?_
      refine lv_iconst (v := nI 2) hx hb (pc := 86) dX2_behind_86 (by decide) ?_
      refine nv_ishr (a := (2 ^ (2 * wd))) (b := 2) hx hb (pc := 87) dX2_behind_87 (by omega) (by omega) ?_
      refine lv_iconst (v := nI 1) hx hb (pc := 88) dX2_behind_88 (by decide) ?_
      refine nv_isub (a := ((2 ^ (2 * wd)) >>> 2)) (b := 1) hx hb (pc := 89) dX2_behind_89 (by omega) ?_
      refine nv_iand (a := (bhdR key lt)) (b := (((2 ^ (2 * wd)) >>> 2) - 1)) hx hb (pc := 90) dX2_behind_90 ?_
      refine lv_istore (lv' := [(8, .int (nI ((bhdR key lt) &&& (((2 ^ (2 * wd)) >>> 2) - 1)))), (7, .int (nI ((if bhdR key lt < 2 ^ (2 * wd) then TD (bhdR key lt) else 0)))), (6, .int (nI (bhdR key lt))), (5, .int (nI ((key >>> 20) &&& 3))), (0, .ref qo), (1, .int (nI key)), (2, .int (nI lt)), (3, .ref gb), (4, .ref po)]) hx hb (pc := 91) dX2_behind_91 hl (by decide) rfl (fun ls hl => ?_)
      refine lv_iload hx hb (pc := 93) dX2_behind_93 (lv_at hl 3 rfl) ?_
      refine lv_bipush (v := nI 20) hx hb (pc := 95) dX2_behind_95 (by decide) ?_
      refine nv_ishl (a := ((key >>> 20) &&& 3)) (b := 20) hx hb (pc := 97) dX2_behind_97 (by omega) ?_
      refine lv_iload hx hb (pc := 98) dX2_behind_98 (lv_at hl 0 rfl) ?_
      refine lv_bipush (v := nI 16) hx hb (pc := 100) dX2_behind_100 (by decide) ?_
      refine nv_ishl (a := ((bhdR key lt) &&& (((2 ^ (2 * wd)) >>> 2) - 1))) (b := 16) hx hb (pc := 102) dX2_behind_102 (by omega) ?_
      refine nv_ior (a := (((key >>> 20) &&& 3) <<< 20)) (b := (((bhdR key lt) &&& (((2 ^ (2 * wd)) >>> 2) - 1)) <<< 16)) hx hb (pc := 103) dX2_behind_103 ?_
      refine lv_aload_n hx hb (pc := 104) dX2_behind_104 rfl (lv_at hl 7 rfl) ?_
      refine lv_iload_n hx hb (pc := 105) dX2_behind_105 rfl (lv_at hl 5 rfl) ?_
      refine lv_ldc (v := nI 65535) hx hb (pc := 106) hown (hts _ (List.mem_of_getElem? (i := 2) (by decide +kernel))) dX2_behind_106 ?_
      refine nv_iand (a := key) (b := 65535) hx hb (pc := 108) dX2_behind_108 ?_
      refine lv_iload hx hb (pc := 109) dX2_behind_109 (lv_at hl 1 rfl) ?_
      refine rr_callP (rv := .int (nI (ldS kb nb Eb alb (key &&& 65535) (if bhdR key lt < 2 ^ (2 * wd) then TD (bhdR key lt) else 0)))) (pc := 111) (va_runV (As := [.int (nI (key &&& 65535)), .int (nI ((if bhdR key lt < 2 ^ (2 * wd) then TD (bhdR key lt) else 0)))]) (rest := [.int (nI ((((key >>> 20) &&& 3) <<< 20) ||| (((bhdR key lt) &&& (((2 ^ (2 * wd)) >>> 2) - 1)) <<< 16)))]) ⟨hx, hb, hml, hown, hts⟩ (hst) (cwV 2 hts gX2_behind_X1_step rfl rfl rfl (by decide +kernel) ⟨Nat.le_of_ble_eq_true rfl, Nat.le_of_ble_eq_true rfl⟩) (rr_preV hKK (hP) (va_recv hKK.1 hP (ci := 1) (q0 := 0) rfl rfl)) rfl rfl hl.1 rfl (lv_room (Nat.le_of_ble_eq_true rfl)) dX2_behind_111 ⟨Nat.le_refl _, Nat.le_refl _⟩) ?_
      refine nv_ior (a := ((((key >>> 20) &&& 3) <<< 20) ||| (((bhdR key lt) &&& (((2 ^ (2 * wd)) >>> 2) - 1)) <<< 16))) (b := (ldS kb nb Eb alb (key &&& 65535) (if bhdR key lt < 2 ^ (2 * wd) then TD (bhdR key lt) else 0))) hx hb (pc := 114) dX2_behind_114 ?_
      exact hret.1 115 _ (nI (((((key >>> 20) &&& 3) <<< 20) ||| (((bhdR key lt) &&& (((2 ^ (2 * wd)) >>> 2) - 1)) <<< 16)) ||| (ldS kb nb Eb alb (key &&& 65535) (if bhdR key lt < 2 ^ (2 * wd) then TD (bhdR key lt) else 0)))) dX2_behind_115 (by unfold bhd; rw [if_neg (by omega)]) (rfl)
  · refine lv_iload hx hb (pc := 33) dX2_behind_33 (lv_at hl 1 rfl) ?_
    refine lv_iconst (v := nI 1) hx hb (pc := 35) dX2_behind_35 (by decide) ?_
    refine nv_iadd (a := ((key >>> 20) &&& 3)) (b := 1) hx hb (pc := 36) dX2_behind_36 ?_
    refine lv_bipush (v := nI 20) hx hb (pc := 37) dX2_behind_37 (by decide) ?_
    refine nv_ishl (a := (((key >>> 20) &&& 3) + 1)) (b := 20) hx hb (pc := 39) dX2_behind_39 (by omega) ?_
    refine lv_iload hx hb (pc := 40) dX2_behind_40 (lv_at hl 0 rfl) ?_
    refine lv_bipush (v := nI 15) hx hb (pc := 42) dX2_behind_42 (by decide) ?_
    refine nv_iand (a := (bhdR key lt)) (b := 15) hx hb (pc := 44) dX2_behind_44 ?_
    refine lv_bipush (v := nI 16) hx hb (pc := 45) dX2_behind_45 (by decide) ?_
    refine nv_ishl (a := ((bhdR key lt) &&& 15)) (b := 16) hx hb (pc := 47) dX2_behind_47 (by omega) ?_
    refine nv_ior (a := ((((key >>> 20) &&& 3) + 1) <<< 20)) (b := (((bhdR key lt) &&& 15) <<< 16)) hx hb (pc := 48) dX2_behind_48 ?_
    refine lv_iload_n hx hb (pc := 49) dX2_behind_49 rfl (lv_at hl 3 rfl) ?_
    refine lv_ldc (v := nI 65535) hx hb (pc := 50) hown (hts _ (List.mem_of_getElem? (i := 2) (by decide +kernel))) dX2_behind_50 ?_
    refine nv_iand (a := key) (b := 65535) hx hb (pc := 52) dX2_behind_52 ?_
    refine nv_ior (a := (((((key >>> 20) &&& 3) + 1) <<< 20) ||| (((bhdR key lt) &&& 15) <<< 16))) (b := (key &&& 65535)) hx hb (pc := 53) dX2_behind_53 ?_
    exact hret.1 54 _ (nI ((((((key >>> 20) &&& 3) + 1) <<< 20) ||| (((bhdR key lt) &&& 15) <<< 16)) ||| (key &&& 65535))) dX2_behind_54 (by unfold bhd; rw [if_pos (by omega)]) (rfl)

abbrev rmX2_seek (mc ms : Nat) : Room := { frames := 5, cells := mc, slots := ms, locals := 110 }
theorem inX2_seek_1 : ∀ w ∈ wsX10, w ∈ wsX2_seek := fun _ h => List.mem_cons_of_mem _ (List.mem_append_left _ (List.mem_append_left _ (List.mem_append_right _ h)))
theorem inX2_seek_2 : ∀ w ∈ wsX20, w ∈ wsX2_seek := fun _ h => List.mem_cons_of_mem _ (List.mem_append_left _ (List.mem_append_left _ (List.mem_append_left _ (List.mem_append_right _ h))))
theorem inX2_seek_3 : ∀ w ∈ wsX30, w ∈ wsX2_seek := fun _ h => List.mem_cons_of_mem _ (List.mem_append_left _ (List.mem_append_right _ h))
set_option maxHeartbeats 4000000 in
set_option maxRecDepth 100000 in
theorem c_X2_seek (l : Launch) (K : rr_K) (A : Nat → Prop) (sz : Nat) (qo mo mk mn ms b cap : Nat) (ks : Nat → Int32) (no sl : Nat → Nat) (kn nt : List Nat) (ga ea ta k na gwa ala lwa : Nat) (Ea Ta : Nat → Nat) (gb eb tb kb nb gwb alb lwb : Nat) (Eb Tb : Nat → Nat) (po pt wd : Nat) (TD : Nat → Nat) (hM : MInv (kn.map nI) nt cap b ks no sl) (hk4 : k ≤ 4) (hkb4 : kb ≤ 4) (hna : na ≤ 16) (hala : ala < 2 ^ na) (hnb : nb ≤ 16) (halb : alb < 2 ^ nb) (hTb : TInv kb nb alb Eb Tb) (hw1 : 1 ≤ wd) (hw : wd ≤ 3) (hTD : ∀ r, r < 64 → TD r < 4) (hA : ∀ q, sz ≤ q → A q) (hD : va_D A (QW1 K qo mo ++ MW3 K mo mk mn ms ((kn.map nI).length) b cap ks no sl)) (hGaA : ∀ (k_ : Nat) (q_ : Nat × va_E), (GW K ga ea ta k na gwa ala lwa Ea Ta)[k_]? = some q_ → ¬ A q_.1) (hGbA : ∀ (k_ : Nat) (q_ : Nat × va_E), (GW K gb eb tb kb nb gwb alb lwb Eb Tb)[k_]? = some q_ → ¬ A q_.1) (hPnA : ∀ (k_ : Nat) (q_ : Nat × va_E), (PW K po pt wd TD)[k_]? = some q_ → ¬ A q_.1) : MetR l K yX2_seek wsX2_seek (rmX2_seek (((skM k na Ea ala wd TD kb nb Eb alb cap).2.2 - cap)) ((8 * ((skM k na Ea ala wd TD kb nb Eb alb cap).2.2 - cap)))) [.ref qo, .ref ga, .ref gb, .ref po] (fun H => H.size = sz ∧ va_P K.1 vwCl (QW1 K qo mo ++ MW3 K mo mk mn ms ((kn.map nI).length) b cap ks no sl) H ∧ va_P K.1 vwCl (GW K ga ea ta k na gwa ala lwa Ea Ta) H ∧ va_P K.1 vwCl (GW K gb eb tb kb nb gwb alb lwb Eb Tb) H ∧ va_P K.1 vwCl (PW K po pt wd TD) H) A (fun v H => ∃ mk' mn' ms' b' ks' no' sl' nt', MInv ((skM k na Ea ala wd TD kb nb Eb alb cap).2.1.map nI) nt' (skM k na Ea ala wd TD kb nb Eb alb cap).2.2 b' ks' no' sl' ∧ va_P K.1 vwCl (QW1 K qo mo ++ MW3 K mo mk' mn' ms' ((skM k na Ea ala wd TD kb nb Eb alb cap).2.1.map nI).length b' (skM k na Ea ala wd TD kb nb Eb alb cap).2.2 ks' no' sl') H ∧ va_D A (QW1 K qo mo ++ MW3 K mo mk' mn' ms' ((skM k na Ea ala wd TD kb nb Eb alb cap).2.1.map nI).length b' (skM k na Ea ala wd TD kb nb Eb alb cap).2.2 ks' no' sl') ∧ v = .int (ansQ (skM k na Ea ala wd TD kb nb Eb alb cap).1)) ((skM k na Ea ala wd TD kb nb Eb alb cap).2.2 - cap) (8 * ((skM k na Ea ala wd TD kb nb Eb alb cap).2.2 - cap)) := by
  refine metR_of (cc := cX2_seek) (maxL := 9) (ret := (some .int)) (rt := .int) (by decide) rfl rfl rfl rfl (Nat.le_of_ble_eq_true rfl) ?_
  intro p e s m args below meth c Q ls hEnt hKK hX hret hl
  obtain ⟨hx, hb, hml, hown, hts⟩ := hEnt
  obtain ⟨hsz0, hX⟩ := hX
  have hA : ∀ q, s.heap.size ≤ q → A q := fun q h => hA q (hsz0 ▸ h)
  obtain ⟨hP, hGa, hGb, hPn⟩ := hX
  have hP : va_P K.1 vwCl (QW1 K qo mo ++ MW3 K mo mk mn ms ((kn.map nI).length) b cap ks no sl) s.heap := hP
  have hGa : va_P K.1 vwCl (GW K ga ea ta k na gwa ala lwa Ea Ta) s.heap := hGa
  have hGb : va_P K.1 vwCl (GW K gb eb tb kb nb gwb alb lwb Eb Tb) s.heap := hGb
  have hPn : va_P K.1 vwCl (PW K po pt wd TD) s.heap := hPn
  have hl : lv_has ls 9 [(0, .ref qo), (1, .ref ga), (2, .ref gb), (3, .ref po)] := hl
  have hS : va_S A s.heap s.heap [] := va_S.rf
  have pa : 2 ^ na ≤ 65536 := Nat.le_trans (Nat.pow_le_pow_right (by decide) hna) (by decide)
  have pb : 2 ^ nb ≤ 65536 := Nat.le_trans (Nat.pow_le_pow_right (by decide) hnb) (by decide)
  refine lv_aload_n hx hb (pc := 0) dX2_seek_0 rfl (lv_at hl 0 rfl) ?_
  refine va_get (v := .ref mo) hx hb hts (inX2_seek_2) hown hKK.1 hP 0 rfl rfl 0 (by decide) (hts _ (List.mem_of_getElem? (i := 1) (by decide +kernel))) (fun _ h9 => h9) rfl (pc := 1) dX2_seek_1 ?_
  have hP : va_P K.1 vwCl (QW1 K qo mo ++ MW3 K mo mk mn ms ((kn.map nI).length) b cap ks no sl) s.heap := hP
  have hD : va_D A (QW1 K qo mo ++ MW3 K mo mk mn ms ((kn.map nI).length) b cap ks no sl) := hD
  have hDc := rr_AW (rr_Dright hD)
  refine rr_callV (pc := 4) (va_runV (As := []) (rest := []) ⟨hx, hb, hml, hown, hts⟩ (c_X3_clear l K (AW (MW3 K mo mk mn ms ((kn.map nI).length) b cap ks no sl)) mo mk mn ms b cap ks no sl (kn.map nI) nt hM hDc) (cwV 0 hts gX2_seek_X3_clear rfl rfl rfl (by decide +kernel) ⟨Nat.le_of_ble_eq_true rfl, Nat.le_of_ble_eq_true rfl⟩) (rr_preV hKK (rr_right hP) (va_recv hKK.1 hP (ci := 3) (q0 := 1) rfl rfl)) rfl rfl hl.1 rfl (lv_room (Nat.le_of_ble_eq_true rfl)) dX2_seek_4 ⟨Nat.zero_le _, Nat.zero_le _⟩) hS (rr_AW_in (rr_Dright hD)) (fun H locs hY hsz hfr hS => ?_)
  obtain ⟨b0, sl0, hM0, hP1⟩ := hY
  obtain ⟨hP, hD⟩ := rr_app2 hP hD hfr hP1 rfl
  have hD : va_D A (QW1 K qo mo ++ MW3 K mo mk mn ms 0 b0 cap ks no sl0) := hD
  have hP : va_P K.1 vwCl (QW1 K qo mo ++ MW3 K mo mk mn ms 0 b0 cap ks no sl0) H := hP
  refine lv_aload_n hx hb (pc := 7) dX2_seek_7 rfl (lv_at hl 1 rfl) ?_
  refine va_get (v := .int (nI ala)) hx hb hts (inX2_seek_1) hown hKK.1 (rr_ro (A := A) hGa hGaA hS) 0 rfl rfl 3 (by decide) (hts _ (List.mem_of_getElem? (i := 2) (by decide +kernel))) (fun _ h9 => h9) rfl (pc := 8) dX2_seek_8 ?_
  refine nv_if_ne (a := ala) (tgt := 16) hx hb (pc := 11) dX2_seek_11 (by decide) (by omega) (fun c11 => ?_) (fun c11 => ?_)
  · refine lv_aload_n hx hb (pc := 16) dX2_seek_16 rfl (lv_at hl 2 rfl) ?_
    refine va_get (v := .int (nI alb)) hx hb hts (inX2_seek_1) hown hKK.1 (rr_ro (A := A) hGb hGbA hS) 0 rfl rfl 3 (by decide) (hts _ (List.mem_of_getElem? (i := 2) (by decide +kernel))) (fun _ h9 => h9) rfl (pc := 17) dX2_seek_17 ?_
    refine nv_if_ne (a := alb) (tgt := 25) hx hb (pc := 20) dX2_seek_20 (by decide) (by omega) (fun c20 => ?_) (fun c20 => ?_)
    · have hR0 : (skM k na Ea ala wd TD kb nb Eb alb cap) = mgo (lvE ala Ea) (bhd wd TD (ldS kb nb Eb alb)) k 130000 0 0 (mAll ala alb ([], cap)).1 (mAll ala alb ([], cap)).2 := by unfold skM; rw [if_neg c11, if_neg c20]
      have hcF : (mAll ala alb ([], cap)).2 ≤ (skM k na Ea ala wd TD kb nb Eb alb cap).2.2 := by rw [hR0]; exact mgo_cap _ _ _ _ _ _ _ _
      have hc0 := mF_cap ala alb ([], cap) 16
      have hc1 : cap ≤ (mAll ala alb ([], cap)).2 := hc0.1
      have hc2 : (mAll ala alb ([], cap)).1.length ≤ 16 := by have h := hc0.2.2; rw [show ([] : List Nat).length + 16 = 16 from rfl] at h; exact h
      have hk0 : (∀ y ∈ (mAll ala alb ([], cap)).1, y < 67108864 ∧ sub (y &&& 65535) alb) := mF_all (x := ([], cap)) (fun y hy => by cases hy) (fun s9 hs9 => ⟨(key22 hs9 (by omega)).1, by rw [(key22 hs9 (by omega)).2, show alb &&& 65535 = alb from by rw [and16]; omega]; exact sub_refl _⟩) 16 (Nat.le_refl _)
      refine lv_aload_n hx hb (pc := 25) dX2_seek_25 rfl (lv_at hl 0 rfl) ?_
      refine lv_aload_n hx hb (pc := 26) dX2_seek_26 rfl (lv_at hl 1 rfl) ?_
      refine va_get (v := .int (nI ala)) hx hb hts (inX2_seek_1) hown hKK.1 (rr_ro (A := A) hGa hGaA hS) 0 rfl rfl 3 (by decide) (hts _ (List.mem_of_getElem? (i := 2) (by decide +kernel))) (fun _ h9 => h9) rfl (pc := 27) dX2_seek_27 ?_
      refine lv_aload_n hx hb (pc := 30) dX2_seek_30 rfl (lv_at hl 2 rfl) ?_
      refine va_get (v := .int (nI alb)) hx hb hts (inX2_seek_1) hown hKK.1 (rr_ro (A := A) hGb hGbA hS) 0 rfl rfl 3 (by decide) (hts _ (List.mem_of_getElem? (i := 2) (by decide +kernel))) (fun _ h9 => h9) rfl (pc := 31) dX2_seek_31 ?_
      refine rr_callV (pc := 34) (va_runV (As := [.int (nI ala), .int (nI alb)]) (rest := []) ⟨hx, hb, hml, hown, hts⟩ (c_X2_meetAll l K A H.size qo mo mk mn ms b0 cap ks no sl0 [] [] ala alb hM0 (by intro y hy; cases hy) (by decide) (by omega) (by omega) (fun q h => hA q (Nat.le_trans hS.1 h)) hD) (cwV 2 hts gX2_seek_X2_meetAll rfl rfl rfl (by decide +kernel) ⟨Nat.le_of_ble_eq_true rfl, Nat.le_of_ble_eq_true rfl⟩) (rr_preV hKK (⟨rfl, hP⟩) (va_recv hKK.1 hP (ci := 2) (q0 := 0) rfl rfl)) rfl rfl hl.1 rfl (lv_room (Nat.le_of_ble_eq_true rfl)) dX2_seek_34 ⟨by show 0 + ((mAll ala alb ([], cap)).2 - cap) ≤ (skM k na Ea ala wd TD kb nb Eb alb cap).2.2 - cap; omega, by show 0 + 8 * ((mAll ala alb ([], cap)).2 - cap) ≤ 8 * ((skM k na Ea ala wd TD kb nb Eb alb cap).2.2 - cap); omega⟩) hS (fun _ h => h) (fun H locs hY hsz hfr hS => ?_)
      obtain ⟨mk1, mn1, ms1, b1, ks1, no1, sl1, nt1, hM1, hP, hD⟩ := hY
      have hP : va_P K.1 vwCl (QW1 K qo mo ++ MW3 K mo mk1 mn1 ms1 (((mAll ala alb ([], cap)).1.map nI).length) b1 ((mAll ala alb ([], cap)).2) ks1 no1 sl1) H := hP
      refine lv_iconst (v := nI 0) hx hb (pc := 37) dX2_seek_37 (by decide) ?_
      refine lv_istore (lv' := [(4, .int (nI 0)), (0, .ref qo), (1, .ref ga), (2, .ref gb), (3, .ref po)]) hx hb (pc := 38) dX2_seek_38 hl (by decide) rfl (fun ls hl => ?_)
      have L40 : ∀ (fz : Nat) (pr : Nat) (kn1 : List Nat) (nt1 : List Nat) (cap1 : Nat) (mk1 : Nat) (mn1 : Nat) (ms1 : Nat) (b1 : Nat) (ks1 : Nat → Int32) (no1 : Nat → Nat) (sl1 : Nat → Nat) (ff1 : Nat) (H : Heap) (locs : List Loc) (hP : va_P K.1 vwCl (QW1 K qo mo ++ MW3 K mo mk1 mn1 ms1 ((kn1.map nI).length) b1 cap1 ks1 no1 sl1) H) (hD : va_D A (QW1 K qo mo ++ MW3 K mo mk1 mn1 ms1 ((kn1.map nI).length) b1 cap1 ks1 no1 sl1)) (hS : va_S A s.heap H locs) (hfz : 20001 - pr < fz) (hM1 : MInv (kn1.map nI) nt1 cap1 b1 ks1 no1 sl1) (hk1 : (∀ y ∈ kn1, y < 67108864 ∧ sub (y &&& 65535) alb)) (hl1 : kn1.length ≤ 20000) (hpr1 : pr ≤ 20000) (hg1 : (skM k na Ea ala wd TD kb nb Eb alb cap) = mgo (lvE ala Ea) (bhd wd TD (ldS kb nb Eb alb)) k ff1 pr 0 kn1 cap1) (hff1 : (20000 - pr) * 6 + (5 - 0) ≤ ff1) (hcc1 : cap ≤ cap1) (ls : Array Slot) (hl : lv_has ls 9 [(0, .ref qo), (1, .ref ga), (2, .ref gb), (3, .ref po), (4, .int (nI pr))]), W p l e (rmX2_seek (((skM k na Ea ala wd TD kb nb Eb alb cap).2.2 - cap)) ((8 * ((skM k na Ea ala wd TD kb nb Eb alb cap).2.2 - cap)))) s m args below meth c H locs (cap1 - cap) (8 * (cap1 - cap)) Q (F0 m 40 ls []) := by
        intro fz; induction fz with
        | zero => intro pr kn1 nt1 cap1 mk1 mn1 ms1 b1 ks1 no1 sl1 ff1 H locs hP hD hS hfz hM1 hk1 hl1 hpr1 hg1 hff1 hcc1 ls hl; exact absurd hfz (Nat.not_lt_zero _)
        | succ fz ih40 =>
          intro pr kn1 nt1 cap1 mk1 mn1 ms1 b1 ks1 no1 sl1 ff1 H locs hP hD hS hfz hM1 hk1 hl1 hpr1 hg1 hff1 hcc1 ls hl
          have hlm1 : (kn1.map nI).length = kn1.length := List.length_map _
          have hcF1 : cap1 ≤ (skM k na Ea ala wd TD kb nb Eb alb cap).2.2 := by rw [hg1]; exact mgo_cap _ _ _ _ _ _ _ _
          have hcell : cap1 - cap ≤ (skM k na Ea ala wd TD kb nb Eb alb cap).2.2 - cap := by omega
          have hslot : 8 * (cap1 - cap) ≤ 8 * ((skM k na Ea ala wd TD kb nb Eb alb cap).2.2 - cap) := by omega
          refine lv_iload hx hb (pc := 40) dX2_seek_40 (lv_at hl 4 rfl) ?_
          refine lv_aload_n hx hb (pc := 42) dX2_seek_42 rfl (lv_at hl 0 rfl) ?_
          refine va_get (v := .ref mo) hx hb hts (inX2_seek_2) hown hKK.1 hP 0 rfl rfl 0 (by decide) (hts _ (List.mem_of_getElem? (i := 1) (by decide +kernel))) (fun _ h9 => h9) rfl (pc := 43) dX2_seek_43 ?_
          refine va_get (v := .int (nI ((kn1.map nI).length))) hx hb hts (inX2_seek_3) hown hKK.1 hP 1 rfl rfl 0 (by decide) (hts _ (List.mem_of_getElem? (i := 3) (by decide +kernel))) (fun _ h9 => h9) rfl (pc := 46) dX2_seek_46 ?_
          refine nv_icmp_ge (a := pr) (b := ((kn1.map nI).length)) (tgt := 165) hx hb (pc := 49) dX2_seek_49 (by decide) (by omega) (by omega) (fun c49 => ?_) (fun c49 => ?_)
          · refine lv_iconst (v := nI 1) hx hb (pc := 165) dX2_seek_165 (by decide) ?_
            obtain ⟨f', rfl⟩ : ∃ f', ff1 = f' + 1 := ⟨ff1 - 1, by omega⟩
            rw [mgo_succ, if_neg (by omega)] at hg1
            have hR := hg1
            exact hret.1 _ _ (cap1 - cap) (8 * (cap1 - cap)) 166 _ (nI 1) dX2_seek_166 (by rw [hR]; exact Nat.le_refl _) (by rw [hR]; exact Nat.le_refl _) hS (⟨mk1, mn1, ms1, b1, ks1, no1, sl1, nt1, by rw [hR]; exact hM1, by rw [hR]; exact hP, by rw [hR]; exact hD, by rw [hR]; rfl⟩) (rfl)
          · refine lv_iload hx hb (pc := 52) dX2_seek_52 (lv_at hl 4 rfl) ?_
            refine lv_sipush (v := nI 20000) hx hb (pc := 54) dX2_seek_54 (by decide) ?_
            refine nv_icmp_ge (a := pr) (b := 20000) (tgt := 165) hx hb (pc := 57) dX2_seek_57 (by decide) (by omega) (by omega) (fun c57 => ?_) (fun c57 => ?_)
            · refine lv_iconst (v := nI 1) hx hb (pc := 165) dX2_seek_165 (by decide) ?_
              obtain ⟨f', rfl⟩ : ∃ f', ff1 = f' + 1 := ⟨ff1 - 1, by omega⟩
              rw [mgo_succ, if_neg (by omega)] at hg1
              have hR := hg1
              exact hret.1 _ _ (cap1 - cap) (8 * (cap1 - cap)) 166 _ (nI 1) dX2_seek_166 (by rw [hR]; exact Nat.le_refl _) (by rw [hR]; exact Nat.le_refl _) hS (⟨mk1, mn1, ms1, b1, ks1, no1, sl1, nt1, by rw [hR]; exact hM1, by rw [hR]; exact hP, by rw [hR]; exact hD, by rw [hR]; rfl⟩) (rfl)
            · have hpr20 : pr < 20000 := by omega
              have hlt1 : pr < kn1.length := by omega
              have hkey1 : ks1 pr = nI (kn1.getD pr 0) := ks_map hM1 hlt1
              refine lv_aload_n hx hb (pc := 60) dX2_seek_60 rfl (lv_at hl 0 rfl) ?_
              refine va_get (v := .ref mo) hx hb hts (inX2_seek_2) hown hKK.1 hP 0 rfl rfl 0 (by decide) (hts _ (List.mem_of_getElem? (i := 1) (by decide +kernel))) (fun _ h9 => h9) rfl (pc := 61) dX2_seek_61 ?_
              refine lv_iload hx hb (pc := 64) dX2_seek_64 (lv_at hl 4 rfl) ?_
              refine rr_callP (rv := .int (ks1 pr)) (pc := 66) (va_runV (As := [.int (nI pr)]) (rest := []) ⟨hx, hb, hml, hown, hts⟩ (c_X3_keyAt l K mo mk1 mn1 ms1 b1 cap1 ks1 no1 sl1 (kn1.map nI) nt1 pr hM1 (by omega)) (cwV 1 hts gX2_seek_X3_keyAt rfl rfl rfl (by decide +kernel) ⟨Nat.le_of_ble_eq_true rfl, Nat.le_of_ble_eq_true rfl⟩) (rr_preV hKK (rr_right hP) (va_recv hKK.1 hP (ci := 3) (q0 := 1) rfl rfl)) rfl rfl hl.1 rfl (lv_room (Nat.le_of_ble_eq_true rfl)) dX2_seek_66 ⟨hcell, hslot⟩) ?_
              refine rr_top (v := .int (nI (kn1.getD pr 0))) (by rw [hkey1]) ?_
              refine lv_istore (lv' := [(5, .int (nI (kn1.getD pr 0))), (0, .ref qo), (1, .ref ga), (2, .ref gb), (3, .ref po), (4, .int (nI pr))]) hx hb (pc := 69) dX2_seek_69 hl (by decide) rfl (fun ls hl => ?_)
              refine lv_iconst (v := nI 0) hx hb (pc := 71) dX2_seek_71 (by decide) ?_
              refine lv_istore (lv' := [(6, .int (nI 0)), (5, .int (nI (kn1.getD pr 0))), (0, .ref qo), (1, .ref ga), (2, .ref gb), (3, .ref po), (4, .int (nI pr))]) hx hb (pc := 72) dX2_seek_72 hl (by decide) rfl (fun ls hl => ?_)
              have L74 : ∀ (fz : Nat) (le : Nat) (key : Nat) (kn2 : List Nat) (nt2 : List Nat) (cap2 : Nat) (mk2 : Nat) (mn2 : Nat) (ms2 : Nat) (b2 : Nat) (ks2 : Nat → Int32) (no2 : Nat → Nat) (sl2 : Nat → Nat) (ff2 : Nat) (H : Heap) (locs : List Loc) (hP : va_P K.1 vwCl (QW1 K qo mo ++ MW3 K mo mk2 mn2 ms2 ((kn2.map nI).length) b2 cap2 ks2 no2 sl2) H) (hD : va_D A (QW1 K qo mo ++ MW3 K mo mk2 mn2 ms2 ((kn2.map nI).length) b2 cap2 ks2 no2 sl2)) (hS : va_S A s.heap H locs) (hfz : k - le < fz) (hM2 : MInv (kn2.map nI) nt2 cap2 b2 ks2 no2 sl2) (hk2 : (∀ y ∈ kn2, y < 67108864 ∧ sub (y &&& 65535) alb)) (hl2 : kn2.length ≤ 20000) (hpr2 : pr ≤ 20000) (hg2 : (skM k na Ea ala wd TD kb nb Eb alb cap) = mgo (lvE ala Ea) (bhd wd TD (ldS kb nb Eb alb)) k ff2 pr le kn2 cap2) (hff2 : (20000 - pr) * 6 + (5 - le) ≤ ff2) (hcc2 : cap ≤ cap2) (hlt2 : pr < kn2.length) (hle2 : le ≤ k) (hky2 : kn2.getD pr 0 = key) (ls : Array Slot) (hl : lv_has ls 9 [(0, .ref qo), (1, .ref ga), (2, .ref gb), (3, .ref po), (4, .int (nI pr)), (5, .int (nI key)), (6, .int (nI le))]), W p l e (rmX2_seek (((skM k na Ea ala wd TD kb nb Eb alb cap).2.2 - cap)) ((8 * ((skM k na Ea ala wd TD kb nb Eb alb cap).2.2 - cap)))) s m args below meth c H locs (cap2 - cap) (8 * (cap2 - cap)) Q (F0 m 74 ls []) := by
                intro fz; induction fz with
                | zero => intro le key kn2 nt2 cap2 mk2 mn2 ms2 b2 ks2 no2 sl2 ff2 H locs hP hD hS hfz hM2 hk2 hl2 hpr2 hg2 hff2 hcc2 hlt2 hle2 hky2 ls hl; exact absurd hfz (Nat.not_lt_zero _)
                | succ fz ih74 =>
                  intro le key kn2 nt2 cap2 mk2 mn2 ms2 b2 ks2 no2 sl2 ff2 H locs hP hD hS hfz hM2 hk2 hl2 hpr2 hg2 hff2 hcc2 hlt2 hle2 hky2 ls hl
                  have hkp : key < 67108864 ∧ sub (key &&& 65535) alb := hk2 _ (by rw [← hky2, getD_lt hlt2]; exact List.getElem_mem _)
                  have hcF2 : cap2 ≤ (skM k na Ea ala wd TD kb nb Eb alb cap).2.2 := by rw [hg2]; exact mgo_cap _ _ _ _ _ _ _ _
                  have hcell : cap2 - cap ≤ (skM k na Ea ala wd TD kb nb Eb alb cap).2.2 - cap := by omega
                  have hslot : 8 * (cap2 - cap) ≤ 8 * ((skM k na Ea ala wd TD kb nb Eb alb cap).2.2 - cap) := by omega
                  have h15 : key >>> 22 &&& 15 ≤ 15 := Nat.and_le_right
                  have hE16 : (lvE ala Ea (key >>> 22 &&& 15) le) < 65536 := Nat.lt_of_lt_of_le (lvE_lt hala _ _ _) pa
                  refine lv_iload hx hb (pc := 74) dX2_seek_74 (lv_at hl 6 rfl) ?_
                  refine lv_aload_n hx hb (pc := 76) dX2_seek_76 rfl (lv_at hl 1 rfl) ?_
                  refine va_get (v := .int (nI k)) hx hb hts (inX2_seek_1) hown hKK.1 (rr_ro (A := A) hGa hGaA hS) 0 rfl rfl 0 (by decide) (hts _ (List.mem_of_getElem? (i := 4) (by decide +kernel))) (fun _ h9 => h9) rfl (pc := 77) dX2_seek_77 ?_
                  refine nv_icmp_ge (a := le) (b := k) (tgt := 159) hx hb (pc := 80) dX2_seek_80 (by decide) (by omega) (by omega) (fun c80 => ?_) (fun c80 => ?_)
                  · refine lv_iinc (v := nI (pr + 1)) (lv' := [(4, .int (nI (pr + 1))), (0, .ref qo), (1, .ref ga), (2, .ref gb), (3, .ref po), (5, .int (nI key)), (6, .int (nI le))]) hx hb (pc := 159) dX2_seek_159 hl (k := 4) rfl (rr_inc _) (by decide) rfl (fun ls hl => ?_)
                    refine lv_goto (tgt := 40) hx hb (pc := 162) dX2_seek_162 (by decide) ?_
                    obtain ⟨f', rfl⟩ : ∃ f', ff2 = f' + 1 := ⟨ff2 - 1, by omega⟩
                    rw [mgo_succ, if_pos hlt2, if_neg (by omega)] at hg2
                    exact ih40 (pr + 1) kn2 nt2 cap2 mk2 mn2 ms2 b2 ks2 no2 sl2 f' _ _ hP hD hS (by omega) (hM2) (hk2) (by omega) (by omega) (hg2) (by omega) (by omega) ls (lv_sub hl [1, 2, 3, 4, 0] rfl)
                  · obtain ⟨f', rfl⟩ : ∃ f', ff2 = f' + 1 := ⟨ff2 - 1, by omega⟩
                    rw [mgo_succ, if_pos hlt2, if_pos (by omega), hky2] at hg2
                    refine lv_aload_n hx hb (pc := 83) dX2_seek_83 rfl (lv_at hl 1 rfl) ?_
                    refine lv_iload hx hb (pc := 84) dX2_seek_84 (lv_at hl 5 rfl) ?_
                    refine lv_bipush (v := nI 22) hx hb (pc := 86) dX2_seek_86 (by decide) ?_
                    refine nv_ishr (a := key) (b := 22) hx hb (pc := 88) dX2_seek_88 (by omega) (by omega) ?_
                    refine lv_bipush (v := nI 15) hx hb (pc := 89) dX2_seek_89 (by decide) ?_
                    refine nv_iand (a := (key >>> 22)) (b := 15) hx hb (pc := 91) dX2_seek_91 ?_
                    refine lv_iload hx hb (pc := 92) dX2_seek_92 (lv_at hl 6 rfl) ?_
                    refine rr_callP (rv := .int (nI ((lvE ala Ea (key >>> 22 &&& 15) le)))) (pc := 94) (va_runV (As := [.int (nI ((key >>> 22) &&& 15)), .int (nI le)]) (rest := []) ⟨hx, hb, hml, hown, hts⟩ (c_X1_liveEnds l K ga ea ta k na gwa ala lwa Ea Ta (key >>> 22 &&& 15) le (by omega) (by omega) (by omega)) (cwV 2 hts gX2_seek_X1_liveEnds rfl rfl rfl (by decide +kernel) ⟨Nat.le_of_ble_eq_true rfl, Nat.le_of_ble_eq_true rfl⟩) (rr_preV hKK ((rr_ro (A := A) hGa hGaA hS)) (va_recv hKK.1 (rr_ro (A := A) hGa hGaA hS) (ci := 1) (q0 := 0) rfl rfl)) rfl rfl hl.1 rfl (lv_room (Nat.le_of_ble_eq_true rfl)) dX2_seek_94 ⟨hcell, hslot⟩) ?_
                    refine lv_istore (lv' := [(7, .int (nI ((lvE ala Ea (key >>> 22 &&& 15) le)))), (0, .ref qo), (1, .ref ga), (2, .ref gb), (3, .ref po), (4, .int (nI pr)), (5, .int (nI key)), (6, .int (nI le))]) hx hb (pc := 97) dX2_seek_97 hl (by decide) rfl (fun ls hl => ?_)
                    refine lv_iload hx hb (pc := 99) dX2_seek_99 (lv_at hl 0 rfl) ?_
                    refine nv_if_ne (a := (lvE ala Ea (key >>> 22 &&& 15) le)) (tgt := 107) hx hb (pc := 101) dX2_seek_101 (by decide) (by omega) (fun c101 => ?_) (fun c101 => ?_)
                    · have hbh := c_X2_behind l K qo po pt wd TD gb eb tb kb nb gwb alb lwb Eb Tb key le hw1 hw hTD hkb4 hnb halb hTb hkp.1 (by omega) hkp.2
                      have hbi := bhd_in (TD := TD) (sb := (ldS kb nb Eb alb)) (key := key) hw (show le < 4 by omega) (fun x9 y9 => Nat.lt_of_le_of_lt (sub_le (ldS_sub _ _ _ _ _ _)) (by omega))
                      rw [if_neg c101] at hg2
                      refine lv_aload_n hx hb (pc := 107) dX2_seek_107 rfl (lv_at hl 1 rfl) ?_
                      refine lv_iload hx hb (pc := 108) dX2_seek_108 (lv_at hl 6 rfl) ?_
                      refine lv_iload hx hb (pc := 110) dX2_seek_110 (lv_at hl 7 rfl) ?_
                      refine lv_aload_n hx hb (pc := 112) dX2_seek_112 rfl (lv_at hl 3 rfl) ?_
                      refine lv_aload_n hx hb (pc := 113) dX2_seek_113 rfl (lv_at hl 4 rfl) ?_
                      refine rr_callP (rv := .int (nI ((bhd wd TD (ldS kb nb Eb alb) key le)))) (pc := 114) (va_runV (As := [.int (nI key), .int (nI le), .ref gb, .ref po]) (rest := []) ⟨hx, hb, hml, hown, hts⟩ (hbh) (cwV 4 hts gX2_seek_X2_behind rfl rfl rfl (by decide +kernel) ⟨Nat.le_of_ble_eq_true rfl, Nat.le_of_ble_eq_true rfl⟩) (rr_preV hKK (⟨(rr_ro (A := A) hGb hGbA hS), (rr_ro (A := A) hPn hPnA hS)⟩) (va_recv hKK.1 hP (ci := 2) (q0 := 0) rfl rfl)) rfl rfl hl.1 rfl (lv_room (Nat.le_of_ble_eq_true rfl)) dX2_seek_114 ⟨hcell, hslot⟩) ?_
                      refine lv_istore (lv' := [(8, .int (nI ((bhd wd TD (ldS kb nb Eb alb) key le)))), (7, .int (nI ((lvE ala Ea (key >>> 22 &&& 15) le)))), (0, .ref qo), (1, .ref ga), (2, .ref gb), (3, .ref po), (4, .int (nI pr)), (5, .int (nI key)), (6, .int (nI le))]) hx hb (pc := 117) dX2_seek_117 hl (by decide) rfl (fun ls hl => ?_)
                      refine lv_iload hx hb (pc := 119) dX2_seek_119 (lv_at hl 0 rfl) ?_
                      refine lv_ldc (v := nI 65535) hx hb (pc := 121) hown (hts _ (List.mem_of_getElem? (i := 5) (by decide +kernel))) dX2_seek_121 ?_
                      refine nv_iand (a := (bhd wd TD (ldS kb nb Eb alb) key le)) (b := 65535) hx hb (pc := 123) dX2_seek_123 ?_
                      refine nv_if_ne (a := ((bhd wd TD (ldS kb nb Eb alb) key le) &&& 65535)) (tgt := 129) hx hb (pc := 124) dX2_seek_124 (by decide) (Nat.lt_of_le_of_lt Nat.and_le_right (by decide)) (fun c124 => ?_) (fun c124 => ?_)
                      · rw [if_neg c124] at hg2
                        have hcap3 := mF_cap (lvE ala Ea (key >>> 22 &&& 15) le) (bhd wd TD (ldS kb nb Eb alb) key le) (kn2, cap2) 16
                        have hc3 : cap2 ≤ (mAll (lvE ala Ea (key >>> 22 &&& 15) le) (bhd wd TD (ldS kb nb Eb alb) key le) (kn2, cap2)).2 := hcap3.1
                        have hl3 : kn2.length ≤ (mAll (lvE ala Ea (key >>> 22 &&& 15) le) (bhd wd TD (ldS kb nb Eb alb) key le) (kn2, cap2)).1.length := hcap3.2.1
                        have hu3 : (mAll (lvE ala Ea (key >>> 22 &&& 15) le) (bhd wd TD (ldS kb nb Eb alb) key le) (kn2, cap2)).1.length ≤ kn2.length + 16 := hcap3.2.2
                        have hsb3 : sub ((bhd wd TD (ldS kb nb Eb alb) key le) &&& 65535) alb := by
                          obtain h | ⟨y, h⟩ := hbi.2
                          · rw [h]; exact hkp.2
                          · rw [h]; exact ldS_sub _ _ _ _ _ _
                        have hk3 : (∀ y ∈ (mAll (lvE ala Ea (key >>> 22 &&& 15) le) (bhd wd TD (ldS kb nb Eb alb) key le) (kn2, cap2)).1, y < 67108864 ∧ sub (y &&& 65535) alb) := mF_all (x := (kn2, cap2)) hk2 (fun s9 hs9 => ⟨(key22 hs9 hbi.1).1, by rw [(key22 hs9 hbi.1).2]; exact hsb3⟩) 16 (Nat.le_refl _)
                        have hcF3 : (mAll (lvE ala Ea (key >>> 22 &&& 15) le) (bhd wd TD (ldS kb nb Eb alb) key le) (kn2, cap2)).2 ≤ (skM k na Ea ala wd TD kb nb Eb alb cap).2.2 := by
                          rw [hg2]
                          split
                          · exact Nat.le_refl _
                          · exact mgo_cap _ _ _ _ _ _ _ _
                        refine lv_aload_n hx hb (pc := 129) dX2_seek_129 rfl (lv_at hl 2 rfl) ?_
                        refine lv_iload hx hb (pc := 130) dX2_seek_130 (lv_at hl 1 rfl) ?_
                        refine lv_iload hx hb (pc := 132) dX2_seek_132 (lv_at hl 0 rfl) ?_
                        refine rr_callV (pc := 134) (va_runV (As := [.int (nI ((lvE ala Ea (key >>> 22 &&& 15) le))), .int (nI ((bhd wd TD (ldS kb nb Eb alb) key le)))]) (rest := []) ⟨hx, hb, hml, hown, hts⟩ (c_X2_meetAll l K A H.size qo mo mk2 mn2 ms2 b2 cap2 ks2 no2 sl2 kn2 nt2 (lvE ala Ea (key >>> 22 &&& 15) le) (bhd wd TD (ldS kb nb Eb alb) key le) hM2 (fun y hy => (hk2 y hy).1) hl2 hE16 hbi.1 (fun q h => hA q (Nat.le_trans hS.1 h)) hD) (cwV 2 hts gX2_seek_X2_meetAll rfl rfl rfl (by decide +kernel) ⟨Nat.le_of_ble_eq_true rfl, Nat.le_of_ble_eq_true rfl⟩) (rr_preV hKK (⟨rfl, hP⟩) (va_recv hKK.1 hP (ci := 2) (q0 := 0) rfl rfl)) rfl rfl hl.1 rfl (lv_room (Nat.le_of_ble_eq_true rfl)) dX2_seek_134 ⟨by show cap2 - cap + ((mAll (lvE ala Ea (key >>> 22 &&& 15) le) (bhd wd TD (ldS kb nb Eb alb) key le) (kn2, cap2)).2 - cap2) ≤ (skM k na Ea ala wd TD kb nb Eb alb cap).2.2 - cap; omega, by show 8 * (cap2 - cap) + 8 * ((mAll (lvE ala Ea (key >>> 22 &&& 15) le) (bhd wd TD (ldS kb nb Eb alb) key le) (kn2, cap2)).2 - cap2) ≤ 8 * ((skM k na Ea ala wd TD kb nb Eb alb cap).2.2 - cap); omega⟩) hS (fun _ h => h) (fun H locs hY hsz hfr hS => ?_)
                        obtain ⟨mk3, mn3, ms3, b3, ks3, no3, sl3, nt3, hM3, hP, hD⟩ := hY
                        have hP : va_P K.1 vwCl (QW1 K qo mo ++ MW3 K mo mk3 mn3 ms3 (((mAll (lvE ala Ea (key >>> 22 &&& 15) le) (bhd wd TD (ldS kb nb Eb alb) key le) (kn2, cap2)).1.map nI).length) b3 ((mAll (lvE ala Ea (key >>> 22 &&& 15) le) (bhd wd TD (ldS kb nb Eb alb) key le) (kn2, cap2)).2) ks3 no3 sl3) H := hP
                        have hlm3 : ((mAll (lvE ala Ea (key >>> 22 &&& 15) le) (bhd wd TD (ldS kb nb Eb alb) key le) (kn2, cap2)).1.map nI).length = (mAll (lvE ala Ea (key >>> 22 &&& 15) le) (bhd wd TD (ldS kb nb Eb alb) key le) (kn2, cap2)).1.length := List.length_map _
                        refine lv_aload_n hx hb (pc := 137) dX2_seek_137 rfl (lv_at hl 2 rfl) ?_
                        refine va_get (v := .ref mo) hx hb hts (inX2_seek_2) hown hKK.1 hP 0 rfl rfl 0 (by decide) (hts _ (List.mem_of_getElem? (i := 1) (by decide +kernel))) (fun _ h9 => h9) rfl (pc := 138) dX2_seek_138 ?_
                        refine va_get (v := .int (nI (((mAll (lvE ala Ea (key >>> 22 &&& 15) le) (bhd wd TD (ldS kb nb Eb alb) key le) (kn2, cap2)).1.map nI).length))) hx hb hts (inX2_seek_3) hown hKK.1 hP 1 rfl rfl 0 (by decide) (hts _ (List.mem_of_getElem? (i := 3) (by decide +kernel))) (fun _ h9 => h9) rfl (pc := 141) dX2_seek_141 ?_
                        refine lv_sipush (v := nI 20000) hx hb (pc := 144) dX2_seek_144 (by decide) ?_
                        refine nv_icmp_le (a := (((mAll (lvE ala Ea (key >>> 22 &&& 15) le) (bhd wd TD (ldS kb nb Eb alb) key le) (kn2, cap2)).1.map nI).length)) (b := 20000) (tgt := 153) hx hb (pc := 147) dX2_seek_147 (by decide) (by omega) (by omega) (fun c147 => ?_) (fun c147 => ?_)
                        · have hns : ¬ 20000 < (mAll (lvE ala Ea (key >>> 22 &&& 15) le) (bhd wd TD (ldS kb nb Eb alb) key le) (kn2, cap2)).1.length := fun h => by have := hlm3; omega
                          rw [if_neg hns] at hg2
                          have hgd : (mAll (lvE ala Ea (key >>> 22 &&& 15) le) (bhd wd TD (ldS kb nb Eb alb) key le) (kn2, cap2)).1.getD pr 0 = key := (mF_getD (x := (kn2, cap2)) hlt2 16).trans hky2
                          refine W.widen (k := (mAll (lvE ala Ea (key >>> 22 &&& 15) le) (bhd wd TD (ldS kb nb Eb alb) key le) (kn2, cap2)).2 - cap) (n := 8 * ((mAll (lvE ala Ea (key >>> 22 &&& 15) le) (bhd wd TD (ldS kb nb Eb alb) key le) (kn2, cap2)).2 - cap)) (by omega) (by omega) ?_
                          refine lv_iinc (v := nI (le + 1)) (lv' := [(6, .int (nI (le + 1))), (8, .int (nI ((bhd wd TD (ldS kb nb Eb alb) key le)))), (7, .int (nI ((lvE ala Ea (key >>> 22 &&& 15) le)))), (0, .ref qo), (1, .ref ga), (2, .ref gb), (3, .ref po), (4, .int (nI pr)), (5, .int (nI key))]) hx hb (pc := 153) dX2_seek_153 hl (k := 8) rfl (rr_inc _) (by decide) rfl (fun ls hl => ?_)
                          refine lv_goto (tgt := 74) hx hb (pc := 156) dX2_seek_156 (by decide) ?_
                          exact ih74 (le + 1) key ((mAll (lvE ala Ea (key >>> 22 &&& 15) le) (bhd wd TD (ldS kb nb Eb alb) key le) (kn2, cap2)).1) nt3 ((mAll (lvE ala Ea (key >>> 22 &&& 15) le) (bhd wd TD (ldS kb nb Eb alb) key le) (kn2, cap2)).2) mk3 mn3 ms3 b3 ks3 no3 sl3 f' _ _ hP hD hS (by omega) (hM3) (hk3) (by omega) (by omega) (hg2) (by omega) (by omega) (by omega) (by omega) (hgd) ls (lv_sub hl [3, 4, 5, 6, 7, 8, 0] rfl)
                        · refine lv_bipush (v := -5) hx hb (pc := 150) dX2_seek_150 (by decide) ?_
                          rw [if_pos (by omega)] at hg2
                          have hR := hg2
                          exact hret.1 _ _ (cap2 - cap + ((mAll (lvE ala Ea (key >>> 22 &&& 15) le) (bhd wd TD (ldS kb nb Eb alb) key le) (kn2, cap2)).2 - cap2)) (8 * (cap2 - cap) + 8 * ((mAll (lvE ala Ea (key >>> 22 &&& 15) le) (bhd wd TD (ldS kb nb Eb alb) key le) (kn2, cap2)).2 - cap2)) 152 _ (-5) dX2_seek_152 (by rw [hR]; show _ ≤ (mAll (lvE ala Ea (key >>> 22 &&& 15) le) (bhd wd TD (ldS kb nb Eb alb) key le) (kn2, cap2)).2 - cap; omega) (by rw [hR]; show _ ≤ 8 * ((mAll (lvE ala Ea (key >>> 22 &&& 15) le) (bhd wd TD (ldS kb nb Eb alb) key le) (kn2, cap2)).2 - cap); omega) hS (⟨mk3, mn3, ms3, b3, ks3, no3, sl3, nt3, by rw [hR]; exact hM3, by rw [hR]; exact hP, by rw [hR]; exact hD, by rw [hR]; rfl⟩) (rfl)
                      · refine lv_iconst (v := nI 0) hx hb (pc := 127) dX2_seek_127 (by decide) ?_
                        rw [if_pos c124] at hg2
                        have hR := hg2
                        exact hret.1 _ _ (cap2 - cap) (8 * (cap2 - cap)) 128 _ (nI 0) dX2_seek_128 (by rw [hR]; exact Nat.le_refl _) (by rw [hR]; exact Nat.le_refl _) hS (⟨mk2, mn2, ms2, b2, ks2, no2, sl2, nt2, by rw [hR]; exact hM2, by rw [hR]; exact hP, by rw [hR]; exact hD, by rw [hR]; rfl⟩) (rfl)
                    · refine lv_goto (tgt := 153) hx hb (pc := 104) dX2_seek_104 (by decide) ?_
                      rw [if_pos c101] at hg2
                      refine lv_iinc (v := nI (le + 1)) (lv' := [(6, .int (nI (le + 1))), (7, .int (nI ((lvE ala Ea (key >>> 22 &&& 15) le)))), (0, .ref qo), (1, .ref ga), (2, .ref gb), (3, .ref po), (4, .int (nI pr)), (5, .int (nI key))]) hx hb (pc := 153) dX2_seek_153 hl (k := 7) rfl (rr_inc _) (by decide) rfl (fun ls hl => ?_)
                      refine lv_goto (tgt := 74) hx hb (pc := 156) dX2_seek_156 (by decide) ?_
                      exact ih74 (le + 1) key kn2 nt2 cap2 mk2 mn2 ms2 b2 ks2 no2 sl2 f' _ _ hP hD hS (by omega) (hM2) (hk2) (hl2) (by omega) (hg2) (by omega) (hcc2) (hlt2) (by omega) (hky2) ls (lv_sub hl [2, 3, 4, 5, 6, 7, 0] rfl)
              exact L74 (5) 0 (kn1.getD pr 0) kn1 nt1 cap1 mk1 mn1 ms1 b1 ks1 no1 sl1 ff1 _ _ hP hD hS (by omega) (hM1) (hk1) (by omega) (by omega) (hg1) (by omega) (by omega) (hlt1) (Nat.zero_le _) (rfl) ls (lv_sub hl [2, 3, 4, 5, 6, 1, 0] rfl)
      refine W.widen (k := (mAll ala alb ([], cap)).2 - cap) (n := 8 * ((mAll ala alb ([], cap)).2 - cap)) (by omega) (by omega) ?_
      exact L40 (20002) 0 ((mAll ala alb ([], cap)).1) nt1 ((mAll ala alb ([], cap)).2) mk1 mn1 ms1 b1 ks1 no1 sl1 130000 _ _ hP hD hS (by omega) (hM1) (hk0) (by omega) (by decide) (hR0) (by decide) (hc1) ls (lv_sub hl [1, 2, 3, 4, 0] rfl)
    · refine lv_iconst (v := nI 0) hx hb (pc := 23) dX2_seek_23 (by decide) ?_
      have hR : (skM k na Ea ala wd TD kb nb Eb alb cap) = (1, ([], cap)) := by unfold skM; rw [if_neg c11, if_pos c20]
      exact hret.1 _ _ 0 0 24 _ (nI 0) dX2_seek_24 (Nat.zero_le _) (Nat.zero_le _) hS (⟨mk, mn, ms, b0, ks, no, sl0, [], by rw [hR]; exact hM0, by rw [hR]; exact hP, by rw [hR]; exact hD, by rw [hR]; rfl⟩) (rfl)
  · refine lv_iconst (v := nI 1) hx hb (pc := 14) dX2_seek_14 (by decide) ?_
    have hR : (skM k na Ea ala wd TD kb nb Eb alb cap) = (0, ([], cap)) := by unfold skM; rw [if_pos c11]
    exact hret.1 _ _ 0 0 15 _ (nI 1) dX2_seek_15 (Nat.zero_le _) (Nat.zero_le _) hS (⟨mk, mn, ms, b0, ks, no, sl0, [], by rw [hR]; exact hM0, by rw [hR]; exact hP, by rw [hR]; exact hD, by rw [hR]; rfl⟩) (rfl)

