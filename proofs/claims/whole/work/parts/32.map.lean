abbrev rmX2_meetAll (mc ms : Nat) : Room := { frames := 4, cells := mc, slots := ms, locals := 87 }
theorem inX2_meetAll_2 : ∀ w ∈ wsX20, w ∈ wsX2_meetAll := fun _ h => List.mem_cons_of_mem _ (List.mem_append_left _ (List.mem_append_right _ h))
set_option maxHeartbeats 4000000 in
set_option maxRecDepth 100000 in
theorem c_X2_meetAll (l : Launch) (K : rr_K) (A : Nat → Prop) (sz : Nat) (qo mo mk mn ms b cap : Nat) (ks : Nat → Int32) (no sl : Nat → Nat) (kn nt : List Nat) (sts rest : Nat) (hM : MInv (kn.map nI) nt cap b ks no sl) (hkn : ∀ x ∈ kn, x < 67108864) (hlen : kn.length ≤ 20000) (hst : sts < 65536) (hrest : rest < 4194304) (hA : ∀ q, sz ≤ q → A q) (hD : va_D A (QW1 K qo mo ++ MW3 K mo mk mn ms ((kn.map nI).length) b cap ks no sl)) : MetV l K yX2_meetAll wsX2_meetAll (rmX2_meetAll (((mAll sts rest (kn, cap)).2 - cap)) ((8 * ((mAll sts rest (kn, cap)).2 - cap)))) [.ref qo, .int (nI sts), .int (nI rest)] (fun H => H.size = sz ∧ va_P K.1 vwCl (QW1 K qo mo ++ MW3 K mo mk mn ms ((kn.map nI).length) b cap ks no sl) H) A (fun H => ∃ mk' mn' ms' b' ks' no' sl' nt', MInv ((mAll sts rest (kn, cap)).1.map nI) nt' (mAll sts rest (kn, cap)).2 b' ks' no' sl' ∧ va_P K.1 vwCl (QW1 K qo mo ++ MW3 K mo mk' mn' ms' ((mAll sts rest (kn, cap)).1.map nI).length b' (mAll sts rest (kn, cap)).2 ks' no' sl') H ∧ va_D A (QW1 K qo mo ++ MW3 K mo mk' mn' ms' ((mAll sts rest (kn, cap)).1.map nI).length b' (mAll sts rest (kn, cap)).2 ks' no' sl')) ((mAll sts rest (kn, cap)).2 - cap) (8 * ((mAll sts rest (kn, cap)).2 - cap)) := by
  refine metV_of (cc := cX2_meetAll) (maxL := 4) (by decide) rfl rfl rfl (Nat.le_of_ble_eq_true rfl) ?_
  intro p e s m args below meth c Q ls hEnt hin hKK hX hret hl
  obtain ⟨hx, hb, hml, hown, hts⟩ := hEnt
  obtain ⟨hsz0, hX⟩ := hX
  have hA : ∀ q, s.heap.size ≤ q → A q := fun q h => hA q (hsz0 ▸ h)
  have hP : va_P K.1 vwCl (QW1 K qo mo ++ MW3 K mo mk mn ms ((kn.map nI).length) b cap ks no sl) s.heap := hX
  have hl : lv_has ls 4 [(0, .ref qo), (1, .int (nI sts)), (2, .int (nI rest))] := hl
  have hS : va_S A s.heap s.heap [] := va_S.rf
  refine lv_iconst (v := nI 0) hx hb (pc := 0) dX2_meetAll_0 (by decide) ?_
  refine lv_istore_n (lv' := [(3, .int (nI 0)), (0, .ref qo), (1, .int (nI sts)), (2, .int (nI rest))]) hx hb (pc := 1) dX2_meetAll_1 rfl hl (by decide) rfl (fun ls hl => ?_)
  have L2 : ∀ (fz : Nat) (x : Nat) (kn1 : List Nat) (nt1 : List Nat) (cap1 : Nat) (mk1 : Nat) (mn1 : Nat) (ms1 : Nat) (b1 : Nat) (ks1 : Nat → Int32) (no1 : Nat → Nat) (sl1 : Nat → Nat) (H : Heap) (locs : List Loc) (hP : va_P K.1 vwCl (QW1 K qo mo ++ MW3 K mo mk1 mn1 ms1 ((kn1.map nI).length) b1 cap1 ks1 no1 sl1) H) (hD : va_D A (QW1 K qo mo ++ MW3 K mo mk1 mn1 ms1 ((kn1.map nI).length) b1 cap1 ks1 no1 sl1)) (hS : va_S A s.heap H locs) (hfz : 16 - x < fz) (hM1 : MInv (kn1.map nI) nt1 cap1 b1 ks1 no1 sl1) (hxs : x ≤ 16) (hk1 : ∀ y ∈ kn1, y < 67108864) (hl1 : kn1.length ≤ kn.length + x) (hcc1 : cap ≤ cap1) (he1 : (kn1, cap1) = rr_fold (mA1 sts rest) x (kn, cap)) (ls : Array Slot) (hl : lv_has ls 4 [(0, .ref qo), (1, .int (nI sts)), (2, .int (nI rest)), (3, .int (nI x))]), W p l e (rmX2_meetAll (((mAll sts rest (kn, cap)).2 - cap)) ((8 * ((mAll sts rest (kn, cap)).2 - cap)))) s m args below meth c H locs (cap1 - cap) (8 * (cap1 - cap)) Q (F0 m 2 ls []) := by
    intro fz; induction fz with
    | zero => intro x kn1 nt1 cap1 mk1 mn1 ms1 b1 ks1 no1 sl1 H locs hP hD hS hfz hM1 hxs hk1 hl1 hcc1 he1 ls hl; exact absurd hfz (Nat.not_lt_zero _)
    | succ fz ih2 =>
      intro x kn1 nt1 cap1 mk1 mn1 ms1 b1 ks1 no1 sl1 H locs hP hD hS hfz hM1 hxs hk1 hl1 hcc1 he1 ls hl
      have hlm1 : (kn1.map nI).length = kn1.length := List.length_map _
      refine lv_iload_n hx hb (pc := 2) dX2_meetAll_2 rfl (lv_at hl 3 rfl) ?_
      refine lv_bipush (v := nI 16) hx hb (pc := 3) dX2_meetAll_3 (by decide) ?_
      refine nv_icmp_ge (a := x) (b := 16) (tgt := 36) hx hb (pc := 5) dX2_meetAll_5 (by decide) (by omega) (by omega) (fun c5 => ?_) (fun c5 => ?_)
      · obtain rfl : x = 16 := by omega
        have hR : (mAll sts rest (kn, cap)) = (kn1, cap1) := he1.symm
        exact hret _ _ (cap1 - cap) (8 * (cap1 - cap)) 36 _ dX2_meetAll_36 (by rw [hR]; exact Nat.le_refl _) (by rw [hR]; exact Nat.le_refl _) hS (⟨mk1, mn1, ms1, b1, ks1, no1, sl1, nt1, by rw [hR]; exact hM1, by rw [hR]; exact hP, by rw [hR]; exact hD⟩)
      · refine lv_iload_n hx hb (pc := 8) dX2_meetAll_8 rfl (lv_at hl 1 rfl) ?_
        refine lv_iload_n hx hb (pc := 9) dX2_meetAll_9 rfl (lv_at hl 3 rfl) ?_
        refine nv_ishr (a := sts) (b := x) hx hb (pc := 10) dX2_meetAll_10 (by omega) (by omega) ?_
        refine lv_iconst (v := nI 1) hx hb (pc := 11) dX2_meetAll_11 (by decide) ?_
        refine nv_bit (a := sts) (q := x) hx hb (pc := 12) dX2_meetAll_12 ?_
        refine nv_if_eq_b (a := (sts.testBit x)) (tgt := 30) hx hb (pc := 13) dX2_meetAll_13 (by decide) (fun c13 => ?_) (fun c13 => ?_)
        · refine lv_iinc (v := nI (x + 1)) (lv' := [(3, .int (nI (x + 1))), (0, .ref qo), (1, .int (nI sts)), (2, .int (nI rest))]) hx hb (pc := 30) dX2_meetAll_30 hl (k := 3) rfl (rr_inc _) (by decide) rfl (fun ls hl => ?_)
          refine lv_goto (tgt := 2) hx hb (pc := 33) dX2_meetAll_33 (by decide) ?_
          exact ih2 (x + 1) kn1 nt1 cap1 mk1 mn1 ms1 b1 ks1 no1 sl1 _ _ hP hD hS (by omega) (hM1) (by omega) (hk1) (by omega) (hcc1) (by rw [rr_fold_succ, ← he1, mA1, if_neg (by first | exact c13 | (rw [c13]; decide))]) ls (lv_sub hl [1, 2, 3, 0] rfl)
        · have hky := key22 (show x < 16 by omega) hrest
          have hcl : capN cap1 (kn1.map nI).length = capN cap1 kn1.length := by rw [hlm1]
          have hal := adK_len kn1 (x <<< 22 ||| rest)
          have hcN := capN_le cap1 kn1.length
          have he2 : ((adK kn1 (x <<< 22 ||| rest)), capN cap1 kn1.length) = rr_fold (mA1 sts rest) (x + 1) (kn, cap) := by rw [rr_fold_succ, ← he1, mA1, if_pos (by first | exact c13 | simpa using c13)]
          have hcF : capN cap1 kn1.length ≤ (mAll sts rest (kn, cap)).2 := by
            have h := mF_mono sts rest (kn, cap) (show x + 1 ≤ 16 by omega)
            rw [← he2] at h
            exact h
          refine lv_aload_n hx hb (pc := 16) dX2_meetAll_16 rfl (lv_at hl 0 rfl) ?_
          refine va_get (v := .ref mo) hx hb hts (inX2_meetAll_2) hown hKK.1 hP 0 rfl rfl 0 (by decide) (hts _ (List.mem_of_getElem? (i := 1) (by decide +kernel))) (fun _ h9 => h9) rfl (pc := 17) dX2_meetAll_17 ?_
          refine lv_iload_n hx hb (pc := 20) dX2_meetAll_20 rfl (lv_at hl 3 rfl) ?_
          refine lv_bipush (v := nI 22) hx hb (pc := 21) dX2_meetAll_21 (by decide) ?_
          refine nv_ishl (a := x) (b := 22) hx hb (pc := 23) dX2_meetAll_23 (by omega) ?_
          refine lv_iload_n hx hb (pc := 24) dX2_meetAll_24 rfl (lv_at hl 2 rfl) ?_
          refine nv_ior (a := (x <<< 22)) (b := rest) hx hb (pc := 25) dX2_meetAll_25 ?_
          have hPc := hP.sub (ws' := MW3 K mo mk1 mn1 ms1 ((kn1.map nI).length) b1 cap1 ks1 no1 sl1) [1, 2, 3, 4] rfl
          have hDc := (hD.sub (ws' := MW3 K mo mk1 mn1 ms1 ((kn1.map nI).length) b1 cap1 ks1 no1 sl1) [1, 2, 3, 4] (by decide) rfl).self (sz := H.size)
          have hFc := va_free (wc := MW3 K mo mk1 mn1 ms1 ((kn1.map nI).length) b1 cap1 ks1 no1 sl1) hD hS hA [1, 2, 3, 4] rfl
          refine rr_callR (pc := 26) (va_runV (As := [.int (nI ((x <<< 22) ||| rest))]) (rest := []) ⟨hx, hb, hml, hown, hts⟩ (c_X3_placeOf l K (va_A (MW3 K mo mk1 mn1 ms1 ((kn1.map nI).length) b1 cap1 ks1 no1 sl1) H.size) H.size mo mk1 mn1 ms1 b1 cap1 ks1 no1 sl1 (kn1.map nI) nt1 (nI (x <<< 22 ||| rest)) hM1 (by omega) (fun q h => Or.inr h) hDc) (cwV 1 hts gX2_meetAll_X3_placeOf rfl rfl rfl (by decide +kernel) ⟨Nat.le_of_ble_eq_true rfl, Nat.le_of_ble_eq_true rfl⟩) (rr_preV hKK (⟨rfl, hPc⟩) (va_recv hKK.1 hP (ci := 3) (q0 := 1) rfl rfl)) rfl rfl hl.1 rfl (lv_room (Nat.le_of_ble_eq_true rfl)) dX2_meetAll_26 ⟨by show cap1 - cap + (capN cap1 (kn1.map nI).length - cap1) ≤ (mAll sts rest (kn, cap)).2 - cap; omega, by show 8 * (cap1 - cap) + 8 * (capN cap1 (kn1.map nI).length - cap1) ≤ 8 * ((mAll sts rest (kn, cap)).2 - cap); omega⟩) hS (hFc) (fun v H locs hY hsz hfr hS => ?_)
          obtain ⟨mk2, mn2, ms2, b2, ks2, no2, sl2, hM2, hP1, hD1, rfl⟩ := hY
          have hk32 : ∀ y ∈ kn1, y < 2 ^ 32 := fun y hy => Nat.lt_trans (hk1 y hy) (by decide)
          rw [plK_map hk32 (Nat.lt_trans hky.1 (by decide)), plN_map hk32 (Nat.lt_trans hky.1 (by decide)), hcl] at hM2
          rw [plK_map hk32 (Nat.lt_trans hky.1 (by decide)), hcl] at hP1 hD1
          obtain ⟨hP, hD⟩ := va_join (wr := [(qo, .inr (2, [.ref mo]))]) (w1 := [(mo, .inr (3, [.int (nI (((adK kn1 (x <<< 22 ||| rest)).map nI).length)), .ref mk2, .ref mn2, .ref ms2, .int (nI b2)])), (mk2, .inl (K.2.1, (capN cap1 kn1.length), .inl (ks2))), (mn2, .inl (K.2.1, (capN cap1 kn1.length), .inl (fun j => nI (no2 j)))), (ms2, .inl (K.2.1, 2 * (capN cap1 kn1.length), .inl (fun j => nI (sl2 j))))]) hP hD [1, 2, 3, 4] [0] rfl rfl (by decide) (by decide) hfr hFc hP1 hD1
          have hP : va_P K.1 vwCl ([(qo, .inr (2, [.ref mo])), (mo, .inr (3, [.int (nI (((adK kn1 (x <<< 22 ||| rest)).map nI).length)), .ref mk2, .ref mn2, .ref ms2, .int (nI b2)])), (mk2, .inl (K.2.1, (capN cap1 kn1.length), .inl (ks2))), (mn2, .inl (K.2.1, (capN cap1 kn1.length), .inl (fun j => nI (no2 j)))), (ms2, .inl (K.2.1, 2 * (capN cap1 kn1.length), .inl (fun j => nI (sl2 j))))]) H := hP
          have hD : va_D A ([(qo, .inr (2, [.ref mo])), (mo, .inr (3, [.int (nI (((adK kn1 (x <<< 22 ||| rest)).map nI).length)), .ref mk2, .ref mn2, .ref ms2, .int (nI b2)])), (mk2, .inl (K.2.1, (capN cap1 kn1.length), .inl (ks2))), (mn2, .inl (K.2.1, (capN cap1 kn1.length), .inl (fun j => nI (no2 j)))), (ms2, .inl (K.2.1, 2 * (capN cap1 kn1.length), .inl (fun j => nI (sl2 j))))]) := hD
          have hP : va_P K.1 vwCl (QW1 K qo mo ++ MW3 K mo mk2 mn2 ms2 (((adK kn1 (x <<< 22 ||| rest)).map nI).length) b2 (capN cap1 kn1.length) ks2 no2 sl2) H := hP
          have hD : va_D A (QW1 K qo mo ++ MW3 K mo mk2 mn2 ms2 (((adK kn1 (x <<< 22 ||| rest)).map nI).length) b2 (capN cap1 kn1.length) ks2 no2 sl2) := hD
          refine lv_pop hx hb (pc := 29) dX2_meetAll_29 rfl ?_
          refine W.widen (k := capN cap1 kn1.length - cap) (n := 8 * (capN cap1 kn1.length - cap)) (by omega) (by omega) ?_
          refine lv_iinc (v := nI (x + 1)) (lv' := [(3, .int (nI (x + 1))), (0, .ref qo), (1, .int (nI sts)), (2, .int (nI rest))]) hx hb (pc := 30) dX2_meetAll_30 hl (k := 3) rfl (rr_inc _) (by decide) rfl (fun ls hl => ?_)
          refine lv_goto (tgt := 2) hx hb (pc := 33) dX2_meetAll_33 (by decide) ?_
          exact ih2 (x + 1) (adK kn1 (x <<< 22 ||| rest)) (adN kn1 nt1 (x <<< 22 ||| rest) 0) (capN cap1 kn1.length) mk2 mn2 ms2 b2 ks2 no2 sl2 _ _ hP hD hS (by omega) (hM2) (by omega) (adK_all hk1 hky.1) (by omega) (by omega) (he2) ls (lv_sub hl [1, 2, 3, 0] rfl)
  refine W.widen (k := cap - cap) (n := 8 * (cap - cap)) (by omega) (by omega) ?_
  exact L2 (17) 0 kn nt cap mk mn ms b ks no sl _ _ hP hD hS (by omega) (hM) (Nat.zero_le _) (hkn) (Nat.le_refl _) (Nat.le_refl _) (rfl) ls (lv_sub hl [1, 2, 3, 0] rfl)

abbrev rmX2_behind : Room := { frames := 1, cells := 0, slots := 0, locals := 23 }
theorem inX2_behind_4 : ∀ w ∈ wsX40, w ∈ wsX2_behind := fun _ h => List.mem_cons_of_mem _ (List.mem_append_left _ (List.mem_append_right _ h))
set_option maxHeartbeats 4000000 in
set_option maxRecDepth 100000 in
theorem c_X2_behind (l : Launch) (K : rr_K) (qo po pt wd : Nat) (TD : Nat → Nat) (gb eb tb k nb gwb alb lwb : Nat) (Eb Tb : Nat → Nat) (key lt : Nat) (hw1 : 1 ≤ wd) (hw : wd ≤ 3) (hTD : ∀ r, r < 64 → TD r < 4) (hk4 : k ≤ 4) (hnb : nb ≤ 16) (halb : alb < 2 ^ nb) (hTb : TInv k nb alb Eb Tb) (hkey : key < 67108864) (hlt : lt < 4) (hsub : sub (key &&& 65535) alb) : MetP l K yX2_behind wsX2_behind rmX2_behind [.ref qo, .int (nI key), .int (nI lt), .ref gb, .ref po] (fun H => va_P K.1 vwCl (GW K gb eb tb k nb gwb alb lwb Eb Tb) H ∧ va_P K.1 vwCl (PW K po pt wd TD) H) (.int (nI (bhd wd TD (ldS k nb Eb alb) key lt))) := by
  refine metP_of (cc := cX2_behind) (maxL := 9) (ret := (some .int)) (rt := .int) (by decide) rfl rfl (Nat.le_of_ble_eq_true rfl) ?_
  intro p e s m args below meth c Q ls hEnt hKK hX hret hl
  obtain ⟨hx, hb, hml, hown, hts⟩ := hEnt
  obtain ⟨hP, hG⟩ := hX
  have hl : lv_has ls 9 [(0, .ref qo), (1, .int (nI key)), (2, .int (nI lt)), (3, .ref gb), (4, .ref po)] := hl
  have h3 : key >>> 20 &&& 3 ≤ 3 := Nat.and_le_right
  have h15 : key >>> 16 &&& 15 ≤ 15 := Nat.and_le_right
  have hr64 := bhdR_lt key hlt
  have hr15 : bhdR key lt &&& 15 ≤ 15 := Nat.and_le_right
  have h65 : key &&& 65535 ≤ 65535 := Nat.and_le_right
  have h2w : 2 ^ (2 * wd) ≤ 64 := Nat.le_trans (Nat.pow_le_pow_right (by decide) (show 2 * wd ≤ 6 by omega)) (by decide)
  have h4w : 4 ≤ 2 ^ (2 * wd) := Nat.le_trans (by decide) (Nat.pow_le_pow_right (by decide) (show 2 ≤ 2 * wd by omega))
  have h4s : 1 ≤ 2 ^ (2 * wd) >>> 2 := by rw [Nat.shiftRight_eq_div_pow]; omega
  have h4t : 2 ^ (2 * wd) >>> 2 ≤ 16 := by rw [Nat.shiftRight_eq_div_pow]; omega
  have hTDr := hTD _ hr64
  have hTD4 : (if bhdR key lt < 2 ^ (2 * wd) then TD (bhdR key lt) else 0) < 4 := by split <;> omega
  have hkp : bhdR key lt &&& (2 ^ (2 * wd) >>> 2) - 1 ≤ 15 := Nat.le_trans Nat.and_le_right (by omega)
  have pb : 2 ^ nb ≤ 65536 := Nat.le_trans (Nat.pow_le_pow_right (by decide) hnb) (by decide)
  have hst := c_X1_step l K gb eb tb k nb gwb alb lwb Eb Tb (key &&& 65535) (if bhdR key lt < 2 ^ (2 * wd) then TD (bhdR key lt) else 0) (by omega) hTD4 hk4
  rw [stp_eq hTb hnb hsub halb] at hst
  have hs16 : ldS k nb Eb alb (key &&& 65535) (if bhdR key lt < 2 ^ (2 * wd) then TD (bhdR key lt) else 0) < 65536 := Nat.lt_of_le_of_lt (sub_le (ldS_sub _ _ _ _ _ _)) (by omega)
  refine lv_iload_n hx hb (pc := 0) dX2_behind_0 rfl (lv_at hl 1 rfl) ?_
  refine lv_bipush (v := nI 20) hx hb (pc := 1) dX2_behind_1 (by decide) ?_
  refine nv_ishr (a := key) (b := 20) hx hb (pc := 3) dX2_behind_3 (by omega) (by omega) ?_
  refine lv_iconst (v := nI 3) hx hb (pc := 4) dX2_behind_4 (by decide) ?_
  refine nv_iand (a := (key >>> 20)) (b := 3) hx hb (pc := 5) dX2_behind_5 ?_
  refine lv_istore (lv' := [(5, .int (nI ((key >>> 20) &&& 3))), (0, .ref qo), (1, .int (nI key)), (2, .int (nI lt)), (3, .ref gb), (4, .ref po)]) hx hb (pc := 6) dX2_behind_6 hl (by decide) rfl (fun ls hl => ?_)
  refine lv_iload_n hx hb (pc := 8) dX2_behind_8 rfl (lv_at hl 2 rfl) ?_
  refine lv_bipush (v := nI 16) hx hb (pc := 9) dX2_behind_9 (by decide) ?_
  refine nv_ishr (a := key) (b := 16) hx hb (pc := 11) dX2_behind_11 (by omega) (by omega) ?_
  refine lv_bipush (v := nI 15) hx hb (pc := 12) dX2_behind_12 (by decide) ?_
  refine nv_iand (a := (key >>> 16)) (b := 15) hx hb (pc := 14) dX2_behind_14 ?_
  refine lv_iconst (v := nI 2) hx hb (pc := 15) dX2_behind_15 (by decide) ?_
  refine nv_ishl (a := ((key >>> 16) &&& 15)) (b := 2) hx hb (pc := 16) dX2_behind_16 (by omega) ?_
  refine lv_iload_n hx hb (pc := 17) dX2_behind_17 rfl (lv_at hl 3 rfl) ?_
  refine nv_ior (a := (((key >>> 16) &&& 15) <<< 2)) (b := lt) hx hb (pc := 18) dX2_behind_18 ?_
  refine rr_top (v := .int (nI (bhdR key lt))) (rfl) ?_
  refine lv_istore (lv' := [(6, .int (nI (bhdR key lt))), (5, .int (nI ((key >>> 20) &&& 3))), (0, .ref qo), (1, .int (nI key)), (2, .int (nI lt)), (3, .ref gb), (4, .ref po)]) hx hb (pc := 19) dX2_behind_19 hl (by decide) rfl (fun ls hl => ?_)
  refine lv_iload hx hb (pc := 21) dX2_behind_21 (lv_at hl 1 rfl) ?_
  refine lv_aload hx hb (pc := 23) dX2_behind_23 (lv_at hl 6 rfl) ?_
  refine va_get (v := .int (nI wd)) hx hb hts (inX2_behind_4) hown hKK.1 hG 0 rfl rfl 0 (by decide) (hts _ (List.mem_of_getElem? (i := 1) (by decide +kernel))) (fun _ h9 => h9) rfl (pc := 25) dX2_behind_25 ?_
  refine lv_iconst (v := nI 1) hx hb (pc := 28) dX2_behind_28 (by decide) ?_
  refine nv_isub (a := wd) (b := 1) hx hb (pc := 29) dX2_behind_29 (by omega) ?_
  refine nv_icmp_ge (a := ((key >>> 20) &&& 3)) (b := (wd - 1)) (tgt := 55) hx hb (pc := 30) dX2_behind_30 (by decide) (by omega) (by omega) (fun c30 => ?_) (fun c30 => ?_)
  · refine lv_iload hx hb (pc := 55) dX2_behind_55 (lv_at hl 0 rfl) ?_
    refine lv_aload hx hb (pc := 57) dX2_behind_57 (lv_at hl 6 rfl) ?_
    refine rr_callP (rv := .int (nI (2 ^ (2 * wd)))) (pc := 59) (va_runV (As := []) (rest := [.int (nI (bhdR key lt))]) ⟨hx, hb, hml, hown, hts⟩ (c_X4_rows l K po pt wd TD hw) (cwV 0 hts gX2_behind_X4_rows rfl rfl rfl (by decide +kernel) ⟨Nat.le_of_ble_eq_true rfl, Nat.le_of_ble_eq_true rfl⟩) (rr_preV hKK (hG) (va_recv hKK.1 hG (ci := 4) (q0 := 0) rfl rfl)) rfl rfl hl.1 rfl (lv_room (Nat.le_of_ble_eq_true rfl)) dX2_behind_59 ⟨Nat.le_refl _, Nat.le_refl _⟩) ?_
    refine nv_icmp_ge (a := (bhdR key lt)) (b := (2 ^ (2 * wd))) (tgt := 76) hx hb (pc := 62) dX2_behind_62 (by decide) (by omega) (by omega) (fun c62 => ?_) (fun c62 => ?_)
    · refine lv_iconst (v := nI 0) hx hb (pc := 76) dX2_behind_76 (by decide) ?_
      refine rr_top (v := .int (nI ((if bhdR key lt < 2 ^ (2 * wd) then TD (bhdR key lt) else 0)))) (by first | rw [if_pos (by omega)] | rw [if_neg (by omega)]) ?_
      refine lv_istore (lv' := [(7, .int (nI ((if bhdR key lt < 2 ^ (2 * wd) then TD (bhdR key lt) else 0)))), (6, .int (nI (bhdR key lt))), (5, .int (nI ((key >>> 20) &&& 3))), (0, .ref qo), (1, .int (nI key)), (2, .int (nI lt)), (3, .ref gb), (4, .ref po)]) hx hb (pc := 77) dX2_behind_77 hl (by decide) rfl (fun ls hl => ?_)
      refine lv_iload hx hb (pc := 79) dX2_behind_79 (lv_at hl 1 rfl) ?_
      refine lv_aload hx hb (pc := 81) dX2_behind_81 (lv_at hl 7 rfl) ?_
      refine rr_callP (rv := .int (nI (2 ^ (2 * wd)))) (pc := 83) (va_runV (As := []) (rest := [.int (nI (bhdR key lt))]) ⟨hx, hb, hml, hown, hts⟩ (c_X4_rows l K po pt wd TD hw) (cwV 0 hts gX2_behind_X4_rows rfl rfl rfl (by decide +kernel) ⟨Nat.le_of_ble_eq_true rfl, Nat.le_of_ble_eq_true rfl⟩) (rr_preV hKK (hG) (va_recv hKK.1 hG (ci := 4) (q0 := 0) rfl rfl)) rfl rfl hl.1 rfl (lv_room (Nat.le_of_ble_eq_true rfl)) dX2_behind_83 ⟨Nat.le_refl _, Nat.le_refl _⟩) ?_
      refine lv_iconst (v := nI 2) hx hb (pc := 86) dX2_behind_86 (by decide) ?_
      refine nv_ishr (a := (2 ^ (2 * wd))) (b := 2) hx hb (pc := 87) dX2_behind_87 (by omega) (by omega) ?_
      refine lv_iconst (v := nI 1) hx hb (pc := 88) dX2_behind_88 (by decide) ?_
      refine nv_isub (a := ((2 ^ (2 * wd)) >>> 2)) (b := 1) hx hb (pc := 89) dX2_behind_89 (by omega) ?_
      refine nv_iand (a := (bhdR key lt)) (b := (((2 ^ (2 * wd)) >>> 2) - 1)) hx hb (pc := 90) dX2_behind_90 ?_
      refine lv_istore (lv' := [(8, .int (nI ((bhdR key lt) &&& (((2 ^ (2 * wd)) >>> 2) - 1)))), (7, .int (nI ((if bhdR key lt < 2 ^ (2 * wd) then TD (bhdR key lt) else 0)))), (6, .int (nI (bhdR key lt))), (5, .int (nI ((key >>> 20) &&& 3))), (0, .ref qo), (1, .int (nI key)), (2, .int (nI lt)), (3, .ref gb), (4, .ref po)]) hx hb (pc := 91) dX2_behind_91 hl (by decide) rfl (fun ls hl => ?_)
      refine lv_iload hx hb (pc := 93) dX2_behind_93 (lv_at hl 3 rfl) ?_
      refine lv_bipush (v := nI 20) hx hb (pc := 95) dX2_behind_95 (by decide) ?_
      refine nv_ishl (a := ((key >>> 20) &&& 3)) (b := 20) hx hb (pc := 97) dX2_behind_97 (by omega) ?_
      refine lv_iload hx hb (pc := 98) dX2_behind_98 (lv_at hl 0 rfl) ?_
      refine lv_bipush (v := nI 16) hx hb (pc := 100) dX2_behind_100 (by decide) ?_
      refine nv_ishl (a := ((bhdR key lt) &&& (((2 ^ (2 * wd)) >>> 2) - 1))) (b := 16) hx hb (pc := 102) dX2_behind_102 (by omega) ?_
      refine nv_ior (a := (((key >>> 20) &&& 3) <<< 20)) (b := (((bhdR key lt) &&& (((2 ^ (2 * wd)) >>> 2) - 1)) <<< 16)) hx hb (pc := 103) dX2_behind_103 ?_
      refine lv_aload_n hx hb (pc := 104) dX2_behind_104 rfl (lv_at hl 7 rfl) ?_
      refine lv_iload_n hx hb (pc := 105) dX2_behind_105 rfl (lv_at hl 5 rfl) ?_
      refine lv_ldc (v := nI 65535) hx hb (pc := 106) hown (hts _ (List.mem_of_getElem? (i := 2) (by decide +kernel))) dX2_behind_106 ?_
      refine nv_iand (a := key) (b := 65535) hx hb (pc := 108) dX2_behind_108 ?_
      refine lv_iload hx hb (pc := 109) dX2_behind_109 (lv_at hl 1 rfl) ?_
      refine rr_callP (rv := .int (nI (ldS k nb Eb alb (key &&& 65535) (if bhdR key lt < 2 ^ (2 * wd) then TD (bhdR key lt) else 0)))) (pc := 111) (va_runV (As := [.int (nI (key &&& 65535)), .int (nI ((if bhdR key lt < 2 ^ (2 * wd) then TD (bhdR key lt) else 0)))]) (rest := [.int (nI ((((key >>> 20) &&& 3) <<< 20) ||| (((bhdR key lt) &&& (((2 ^ (2 * wd)) >>> 2) - 1)) <<< 16)))]) ⟨hx, hb, hml, hown, hts⟩ (hst) (cwV 2 hts gX2_behind_X1_step rfl rfl rfl (by decide +kernel) ⟨Nat.le_of_ble_eq_true rfl, Nat.le_of_ble_eq_true rfl⟩) (rr_preV hKK (hP) (va_recv hKK.1 hP (ci := 1) (q0 := 0) rfl rfl)) rfl rfl hl.1 rfl (lv_room (Nat.le_of_ble_eq_true rfl)) dX2_behind_111 ⟨Nat.le_refl _, Nat.le_refl _⟩) ?_
      refine nv_ior (a := ((((key >>> 20) &&& 3) <<< 20) ||| (((bhdR key lt) &&& (((2 ^ (2 * wd)) >>> 2) - 1)) <<< 16))) (b := (ldS k nb Eb alb (key &&& 65535) (if bhdR key lt < 2 ^ (2 * wd) then TD (bhdR key lt) else 0))) hx hb (pc := 114) dX2_behind_114 ?_
      exact hret.1 115 _ (nI (((((key >>> 20) &&& 3) <<< 20) ||| (((bhdR key lt) &&& (((2 ^ (2 * wd)) >>> 2) - 1)) <<< 16)) ||| (ldS k nb Eb alb (key &&& 65535) (if bhdR key lt < 2 ^ (2 * wd) then TD (bhdR key lt) else 0)))) dX2_behind_115 (by unfold bhd; rw [if_neg (by omega)]) (rfl)
    · refine lv_aload hx hb (pc := 65) dX2_behind_65 (lv_at hl 6 rfl) ?_
      refine va_get (v := .ref pt) hx hb hts (inX2_behind_4) hown hKK.1 hG 0 rfl rfl 1 (by decide) (hts _ (List.mem_of_getElem? (i := 3) (by decide +kernel))) (fun _ h9 => h9) rfl (pc := 67) dX2_behind_67 ?_
      refine lv_iload hx hb (pc := 70) dX2_behind_70 (lv_at hl 0 rfl) ?_
      refine nv_iald (v := nI (TD (bhdR key lt))) (i := (bhdR key lt)) hx hb hKK hG 1 rfl (by omega) (by decide) (rfl) (pc := 72) dX2_behind_72 ?_
      refine lv_goto (tgt := 77) hx hb (pc := 73) dX2_behind_73 (by decide) ?_
      refine rr_top (v := .int (nI ((if bhdR key lt < 2 ^ (2 * wd) then TD (bhdR key lt) else 0)))) (by first | rw [if_pos (by omega)] | rw [if_neg (by omega)]) ?_
      refine lv_istore (lv' := [(7, .int (nI ((if bhdR key lt < 2 ^ (2 * wd) then TD (bhdR key lt) else 0)))), (6, .int (nI (bhdR key lt))), (5, .int (nI ((key >>> 20) &&& 3))), (0, .ref qo), (1, .int (nI key)), (2, .int (nI lt)), (3, .ref gb), (4, .ref po)]) hx hb (pc := 77) dX2_behind_77 hl (by decide) rfl (fun ls hl => ?_)
      refine lv_iload hx hb (pc := 79) dX2_behind_79 (lv_at hl 1 rfl) ?_
      refine lv_aload hx hb (pc := 81) dX2_behind_81 (lv_at hl 7 rfl) ?_
      refine rr_callP (rv := .int (nI (2 ^ (2 * wd)))) (pc := 83) (va_runV (As := []) (rest := [.int (nI (bhdR key lt))]) ⟨hx, hb, hml, hown, hts⟩ (c_X4_rows l K po pt wd TD hw) (cwV 0 hts gX2_behind_X4_rows rfl rfl rfl (by decide +kernel) ⟨Nat.le_of_ble_eq_true rfl, Nat.le_of_ble_eq_true rfl⟩) (rr_preV hKK (hG) (va_recv hKK.1 hG (ci := 4) (q0 := 0) rfl rfl)) rfl rfl hl.1 rfl (lv_room (Nat.le_of_ble_eq_true rfl)) dX2_behind_83 ⟨Nat.le_refl _, Nat.le_refl _⟩) ?_
      refine lv_iconst (v := nI 2) hx hb (pc := 86) dX2_behind_86 (by decide) ?_
      refine nv_ishr (a := (2 ^ (2 * wd))) (b := 2) hx hb (pc := 87) dX2_behind_87 (by omega) (by omega) ?_
      refine lv_iconst (v := nI 1) hx hb (pc := 88) dX2_behind_88 (by decide) ?_
      refine nv_isub (a := ((2 ^ (2 * wd)) >>> 2)) (b := 1) hx hb (pc := 89) dX2_behind_89 (by omega) ?_
      refine nv_iand (a := (bhdR key lt)) (b := (((2 ^ (2 * wd)) >>> 2) - 1)) hx hb (pc := 90) dX2_behind_90 ?_
      refine lv_istore (lv' := [(8, .int (nI ((bhdR key lt) &&& (((2 ^ (2 * wd)) >>> 2) - 1)))), (7, .int (nI ((if bhdR key lt < 2 ^ (2 * wd) then TD (bhdR key lt) else 0)))), (6, .int (nI (bhdR key lt))), (5, .int (nI ((key >>> 20) &&& 3))), (0, .ref qo), (1, .int (nI key)), (2, .int (nI lt)), (3, .ref gb), (4, .ref po)]) hx hb (pc := 91) dX2_behind_91 hl (by decide) rfl (fun ls hl => ?_)
      refine lv_iload hx hb (pc := 93) dX2_behind_93 (lv_at hl 3 rfl) ?_
      refine lv_bipush (v := nI 20) hx hb (pc := 95) dX2_behind_95 (by decide) ?_
      refine nv_ishl (a := ((key >>> 20) &&& 3)) (b := 20) hx hb (pc := 97) dX2_behind_97 (by omega) ?_
      refine lv_iload hx hb (pc := 98) dX2_behind_98 (lv_at hl 0 rfl) ?_
      refine lv_bipush (v := nI 16) hx hb (pc := 100) dX2_behind_100 (by decide) ?_
      refine nv_ishl (a := ((bhdR key lt) &&& (((2 ^ (2 * wd)) >>> 2) - 1))) (b := 16) hx hb (pc := 102) dX2_behind_102 (by omega) ?_
      refine nv_ior (a := (((key >>> 20) &&& 3) <<< 20)) (b := (((bhdR key lt) &&& (((2 ^ (2 * wd)) >>> 2) - 1)) <<< 16)) hx hb (pc := 103) dX2_behind_103 ?_
      refine lv_aload_n hx hb (pc := 104) dX2_behind_104 rfl (lv_at hl 7 rfl) ?_
      refine lv_iload_n hx hb (pc := 105) dX2_behind_105 rfl (lv_at hl 5 rfl) ?_
      refine lv_ldc (v := nI 65535) hx hb (pc := 106) hown (hts _ (List.mem_of_getElem? (i := 2) (by decide +kernel))) dX2_behind_106 ?_
      refine nv_iand (a := key) (b := 65535) hx hb (pc := 108) dX2_behind_108 ?_
      refine lv_iload hx hb (pc := 109) dX2_behind_109 (lv_at hl 1 rfl) ?_
      refine rr_callP (rv := .int (nI (ldS k nb Eb alb (key &&& 65535) (if bhdR key lt < 2 ^ (2 * wd) then TD (bhdR key lt) else 0)))) (pc := 111) (va_runV (As := [.int (nI (key &&& 65535)), .int (nI ((if bhdR key lt < 2 ^ (2 * wd) then TD (bhdR key lt) else 0)))]) (rest := [.int (nI ((((key >>> 20) &&& 3) <<< 20) ||| (((bhdR key lt) &&& (((2 ^ (2 * wd)) >>> 2) - 1)) <<< 16)))]) ⟨hx, hb, hml, hown, hts⟩ (hst) (cwV 2 hts gX2_behind_X1_step rfl rfl rfl (by decide +kernel) ⟨Nat.le_of_ble_eq_true rfl, Nat.le_of_ble_eq_true rfl⟩) (rr_preV hKK (hP) (va_recv hKK.1 hP (ci := 1) (q0 := 0) rfl rfl)) rfl rfl hl.1 rfl (lv_room (Nat.le_of_ble_eq_true rfl)) dX2_behind_111 ⟨Nat.le_refl _, Nat.le_refl _⟩) ?_
      refine nv_ior (a := ((((key >>> 20) &&& 3) <<< 20) ||| (((bhdR key lt) &&& (((2 ^ (2 * wd)) >>> 2) - 1)) <<< 16))) (b := (ldS k nb Eb alb (key &&& 65535) (if bhdR key lt < 2 ^ (2 * wd) then TD (bhdR key lt) else 0))) hx hb (pc := 114) dX2_behind_114 ?_
      exact hret.1 115 _ (nI (((((key >>> 20) &&& 3) <<< 20) ||| (((bhdR key lt) &&& (((2 ^ (2 * wd)) >>> 2) - 1)) <<< 16)) ||| (ldS k nb Eb alb (key &&& 65535) (if bhdR key lt < 2 ^ (2 * wd) then TD (bhdR key lt) else 0)))) dX2_behind_115 (by unfold bhd; rw [if_neg (by omega)]) (rfl)
  · refine lv_iload hx hb (pc := 33) dX2_behind_33 (lv_at hl 1 rfl) ?_
    refine lv_iconst (v := nI 1) hx hb (pc := 35) dX2_behind_35 (by decide) ?_
    refine nv_iadd (a := ((key >>> 20) &&& 3)) (b := 1) hx hb (pc := 36) dX2_behind_36 ?_
    refine lv_bipush (v := nI 20) hx hb (pc := 37) dX2_behind_37 (by decide) ?_
    refine nv_ishl (a := (((key >>> 20) &&& 3) + 1)) (b := 20) hx hb (pc := 39) dX2_behind_39 (by omega) ?_
    refine lv_iload hx hb (pc := 40) dX2_behind_40 (lv_at hl 0 rfl) ?_
    refine lv_bipush (v := nI 15) hx hb (pc := 42) dX2_behind_42 (by decide) ?_
    refine nv_iand (a := (bhdR key lt)) (b := 15) hx hb (pc := 44) dX2_behind_44 ?_
    refine lv_bipush (v := nI 16) hx hb (pc := 45) dX2_behind_45 (by decide) ?_
    refine nv_ishl (a := ((bhdR key lt) &&& 15)) (b := 16) hx hb (pc := 47) dX2_behind_47 (by omega) ?_
    refine nv_ior (a := ((((key >>> 20) &&& 3) + 1) <<< 20)) (b := (((bhdR key lt) &&& 15) <<< 16)) hx hb (pc := 48) dX2_behind_48 ?_
    refine lv_iload_n hx hb (pc := 49) dX2_behind_49 rfl (lv_at hl 3 rfl) ?_
    refine lv_ldc (v := nI 65535) hx hb (pc := 50) hown (hts _ (List.mem_of_getElem? (i := 2) (by decide +kernel))) dX2_behind_50 ?_
    refine nv_iand (a := key) (b := 65535) hx hb (pc := 52) dX2_behind_52 ?_
    refine nv_ior (a := (((((key >>> 20) &&& 3) + 1) <<< 20) ||| (((bhdR key lt) &&& 15) <<< 16))) (b := (key &&& 65535)) hx hb (pc := 53) dX2_behind_53 ?_
    exact hret.1 54 _ (nI ((((((key >>> 20) &&& 3) + 1) <<< 20) ||| (((bhdR key lt) &&& 15) <<< 16)) ||| (key &&& 65535))) dX2_behind_54 (by unfold bhd; rw [if_pos (by omega)]) (rfl)

