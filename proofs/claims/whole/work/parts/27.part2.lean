abbrev rmX5_seek (mc ms : Nat) : Room := { frames := 5, cells := mc, slots := ms, locals := 112 }
theorem inX5_seek_1 : ∀ w ∈ wsX10, w ∈ wsX5_seek := fun _ h => List.mem_cons_of_mem _ (List.mem_append_left _ (List.mem_append_right _ h))
theorem inX5_seek_3 : ∀ w ∈ wsX30, w ∈ wsX5_seek := fun _ h => List.mem_cons_of_mem _ (List.mem_append_right _ h)
theorem inX5_seek_5 : ∀ w ∈ wsX50, w ∈ wsX5_seek := fun _ h => List.mem_cons_of_mem _ (List.mem_append_left _ (List.mem_append_left _ (List.mem_append_right _ h)))
set_option maxHeartbeats 4000000 in
set_option maxRecDepth 100000 in
theorem c_X5_seek (l : Launch) (K : rr_K) (A : Nat → Prop) (sz : Nat) (po mo mk mn ms b cap : Nat) (ks : Nat → Int32) (no sl : Nat → Nat) (kn nt : List Nat) (lp ll : Int32) (ga ea ta k na gwa ala lwa : Nat) (Ea Ta : Nat → Nat) (gb eb tb nb gwb alb lwb : Nat) (Eb Tb : Nat → Nat) (hM : MInv (kn.map nI) nt cap b ks no sl) (hlen0 : kn.length < 65536) (hk4 : k ≤ 4) (hna : na ≤ 16) (hala : ala < 2 ^ na) (hTa : TInv k na ala Ea Ta) (hnb : nb ≤ 16) (halb : alb < 2 ^ nb) (hTb : TInv k nb alb Eb Tb) (hA : ∀ q, sz ≤ q → A q) (hD : va_D A (PT1 K po mo lp ll ++ MW3 K mo mk mn ms ((kn.map nI).length) b cap ks no sl)) (hGaA : ∀ (k_ : Nat) (q_ : Nat × va_E), (GW K ga ea ta k na gwa ala lwa Ea Ta)[k_]? = some q_ → ¬ A q_.1) (hGbA : ∀ (k_ : Nat) (q_ : Nat × va_E), (GW K gb eb tb k nb gwb alb lwb Eb Tb)[k_]? = some q_ → ¬ A q_.1) : MetR l K yX5_seek wsX5_seek (rmX5_seek (((skP k na nb Ea Eb ala alb cap).2.2.2 - cap)) ((8 * ((skP k na nb Ea Eb ala alb cap).2.2.2 - cap)))) [.ref po, .ref ga, .ref gb] (fun H => H.size = sz ∧ va_P K.1 vwCl (PT1 K po mo lp ll ++ MW3 K mo mk mn ms ((kn.map nI).length) b cap ks no sl) H ∧ va_P K.1 vwCl (GW K ga ea ta k na gwa ala lwa Ea Ta) H ∧ va_P K.1 vwCl (GW K gb eb tb k nb gwb alb lwb Eb Tb) H) A (fun v H => ∃ mk' mn' ms' b' ks' no' sl' lp' ll', MInv ((skP k na nb Ea Eb ala alb cap).2.1.map nI) (skP k na nb Ea Eb ala alb cap).2.2.1 (skP k na nb Ea Eb ala alb cap).2.2.2 b' ks' no' sl' ∧ va_P K.1 vwCl (PT1 K po mo lp' ll' ++ MW3 K mo mk' mn' ms' ((skP k na nb Ea Eb ala alb cap).2.1.map nI).length b' (skP k na nb Ea Eb ala alb cap).2.2.2 ks' no' sl') H ∧ va_D A (PT1 K po mo lp' ll' ++ MW3 K mo mk' mn' ms' ((skP k na nb Ea Eb ala alb cap).2.1.map nI).length b' (skP k na nb Ea Eb ala alb cap).2.2.2 ks' no' sl') ∧ v = .int (ansP (skP k na nb Ea Eb ala alb cap).1.1) ∧ ((skP k na nb Ea Eb ala alb cap).1.1 = 1 → lp' = nI (skP k na nb Ea Eb ala alb cap).1.2.1 ∧ ll' = nI (skP k na nb Ea Eb ala alb cap).1.2.2) ∧ ((skP k na nb Ea Eb ala alb cap).1.1 = 4 → lp' = -1)) ((skP k na nb Ea Eb ala alb cap).2.2.2 - cap) (8 * ((skP k na nb Ea Eb ala alb cap).2.2.2 - cap)) := by
  refine metR_of (cc := cX5_seek) (maxL := 7) (ret := (some .int)) (rt := .int) (by decide) rfl rfl rfl rfl (Nat.le_of_ble_eq_true rfl) ?_
  intro p e s m args below meth c Q ls hEnt hKK hX hret hl
  obtain ⟨hx, hb, hml, hown, hts⟩ := hEnt
  obtain ⟨hsz0, hX⟩ := hX
  have hA : ∀ q, s.heap.size ≤ q → A q := fun q h => hA q (hsz0 ▸ h)
  obtain ⟨hP, hGa, hGb⟩ := hX
  have hP : va_P K.1 vwCl (PT1 K po mo lp ll ++ MW3 K mo mk mn ms ((kn.map nI).length) b cap ks no sl) s.heap := hP
  have hGa : va_P K.1 vwCl (GW K ga ea ta k na gwa ala lwa Ea Ta) s.heap := hGa
  have hGb : va_P K.1 vwCl (GW K gb eb tb k nb gwb alb lwb Eb Tb) s.heap := hGb
  have hl : lv_has ls 7 [(0, .ref po), (1, .ref ga), (2, .ref gb)] := hl
  have hS : va_S A s.heap s.heap [] := va_S.rf
  have pa : 2 ^ na ≤ 65536 := Nat.le_trans (Nat.pow_le_pow_right (by decide) hna) (by decide)
  have pb : 2 ^ nb ≤ 65536 := Nat.le_trans (Nat.pow_le_pow_right (by decide) hnb) (by decide)
  have hcap64 := hM.2.1
  have hc0 : capN cap 0 = cap := by unfold capN; rw [if_neg (by omega)]
  refine lv_aload_n hx hb (pc := 0) dX5_seek_0 rfl (lv_at hl 0 rfl) ?_
  refine va_get (v := .ref mo) hx hb hts (inX5_seek_5) hown hKK.1 hP 0 rfl rfl 0 (by decide) (hts _ (List.mem_of_getElem? (i := 1) (by decide +kernel))) (fun _ h9 => h9) rfl (pc := 1) dX5_seek_1 ?_
  have hP : va_P K.1 vwCl (PT1 K po mo lp ll ++ MW3 K mo mk mn ms ((kn.map nI).length) b cap ks no sl) s.heap := hP
  have hD : va_D A (PT1 K po mo lp ll ++ MW3 K mo mk mn ms ((kn.map nI).length) b cap ks no sl) := hD
  have hDc := rr_AW (rr_Dright hD)
  refine rr_callV (pc := 4) (va_runV (As := []) (rest := []) ⟨hx, hb, hml, hown, hts⟩ (c_X3_clear l K (AW (MW3 K mo mk mn ms ((kn.map nI).length) b cap ks no sl)) mo mk mn ms b cap ks no sl (kn.map nI) nt hM hDc) (cwV 0 hts gX5_seek_X3_clear rfl rfl rfl (by decide +kernel) ⟨Nat.le_of_ble_eq_true rfl, Nat.le_of_ble_eq_true rfl⟩) (rr_preV hKK (rr_right hP) (va_recv hKK.1 hP (ci := 3) (q0 := 1) rfl rfl)) rfl rfl hl.1 rfl (lv_room (Nat.le_of_ble_eq_true rfl)) dX5_seek_4 ⟨Nat.zero_le _, Nat.zero_le _⟩) hS (rr_AW_in (rr_Dright hD)) (fun H locs hY hsz hfr hS => ?_)
  obtain ⟨b0, sl0, hM0, hP1⟩ := hY
  obtain ⟨hP, hD⟩ := rr_app2 hP hD hfr hP1 rfl
  have hD : va_D A (PT1 K po mo lp ll ++ MW3 K mo mk mn ms 0 b0 cap ks no sl0) := hD
  have hP : va_P K.1 vwCl (PT1 K po mo lp ll ++ MW3 K mo mk mn ms 0 b0 cap ks no sl0) H := hP
  refine lv_aload_n hx hb (pc := 7) dX5_seek_7 rfl (lv_at hl 0 rfl) ?_
  refine lv_iconst (v := -1) hx hb (pc := 8) dX5_seek_8 (by decide) ?_
  refine rr_put (v := .int (-1)) (ty := tyX5 1) (ws' := PT1 K po mo (-1) ll ++ MW3 K mo mk mn ms 0 b0 cap ks no sl0) hx hb hts (inX5_seek_5) tyX5 tyX5_ok nmX5 hown hKK.1 hP hD hS 0 rfl rfl 1 (by decide) (hts _ (List.mem_of_getElem? (i := 2) (by decide +kernel))) (fun _ h9 => h9) rfl (tyX5_ok 1 (by decide)) rfl rfl (Nat.le_of_ble_eq_true rfl) rfl (pc := 9) dX5_seek_9 (fun H locs hP hD hS => ?_)
  refine lv_aload_n hx hb (pc := 12) dX5_seek_12 rfl (lv_at hl 1 rfl) ?_
  refine va_get (v := .int (nI ala)) hx hb hts (inX5_seek_1) hown hKK.1 (rr_ro (A := A) hGa hGaA hS) 0 rfl rfl 3 (by decide) (hts _ (List.mem_of_getElem? (i := 3) (by decide +kernel))) (fun _ h9 => h9) rfl (pc := 13) dX5_seek_13 ?_
  refine nv_if_ne (a := ala) (tgt := 23) hx hb (pc := 16) dX5_seek_16 (by decide) (by omega) (fun c16 => ?_) (fun c16 => ?_)
  · refine lv_iconst (v := nI 0) hx hb (pc := 23) dX5_seek_23 (by decide) ?_
    refine lv_aload_n hx hb (pc := 24) dX5_seek_24 rfl (lv_at hl 2 rfl) ?_
    refine va_get (v := .int (nI alb)) hx hb hts (inX5_seek_1) hown hKK.1 (rr_ro (A := A) hGb hGbA hS) 0 rfl rfl 3 (by decide) (hts _ (List.mem_of_getElem? (i := 3) (by decide +kernel))) (fun _ h9 => h9) rfl (pc := 25) dX5_seek_25 ?_
    refine nv_if_ne (a := alb) (tgt := 35) hx hb (pc := 28) dX5_seek_28 (by decide) (by omega) (fun c28 => ?_) (fun c28 => ?_)
    · refine lv_iconst (v := nI 0) hx hb (pc := 35) dX5_seek_35 (by decide) ?_
      refine nv_icmp_eq (a := 0) (b := 0) (tgt := 41) hx hb (pc := 36) dX5_seek_36 (by decide) (by decide) (by decide) (fun _ => ?_) (fun h => absurd h (by decide))
      have hR0 : (skP k na nb Ea Eb ala alb cap) = pgo (ldS k na Ea ala) (ldS k nb Eb alb) k 130000 0 0 [ala <<< 16 ||| alb] [0] (capN cap 0) := by unfold skP; rw [if_neg (by first | exact rr_eq1 c16 c28 | exact rr_eq2 c16 c28)]
      have hcF : capN cap 0 ≤ (skP k na nb Ea Eb ala alb cap).2.2.2 := by rw [hR0]; exact pgo_cap _ _ _ _ _ _ _ _ _
      have hpk : ala <<< 16 ||| alb < 2 ^ 32 := pk16_lt (by omega) (by omega)
      refine lv_aload_n hx hb (pc := 41) dX5_seek_41 rfl (lv_at hl 0 rfl) ?_
      refine va_get (v := .ref mo) hx hb hts (inX5_seek_5) hown hKK.1 hP 0 rfl rfl 0 (by decide) (hts _ (List.mem_of_getElem? (i := 1) (by decide +kernel))) (fun _ h9 => h9) rfl (pc := 42) dX5_seek_42 ?_
      refine lv_aload_n hx hb (pc := 45) dX5_seek_45 rfl (lv_at hl 1 rfl) ?_
      refine va_get (v := .int (nI ala)) hx hb hts (inX5_seek_1) hown hKK.1 (rr_ro (A := A) hGa hGaA hS) 0 rfl rfl 3 (by decide) (hts _ (List.mem_of_getElem? (i := 3) (by decide +kernel))) (fun _ h9 => h9) rfl (pc := 46) dX5_seek_46 ?_
      refine lv_bipush (v := nI 16) hx hb (pc := 49) dX5_seek_49 (by decide) ?_
      refine nv_ishl (a := ala) (b := 16) hx hb (pc := 51) dX5_seek_51 (by omega) ?_
      refine lv_aload_n hx hb (pc := 52) dX5_seek_52 rfl (lv_at hl 2 rfl) ?_
      refine va_get (v := .int (nI alb)) hx hb hts (inX5_seek_1) hown hKK.1 (rr_ro (A := A) hGb hGbA hS) 0 rfl rfl 3 (by decide) (hts _ (List.mem_of_getElem? (i := 3) (by decide +kernel))) (fun _ h9 => h9) rfl (pc := 53) dX5_seek_53 ?_
      refine nv_ior (a := (ala <<< 16)) (b := alb) hx hb (pc := 56) dX5_seek_56 ?_
      have hPc := hP.sub (ws' := MW3 K mo mk mn ms 0 b0 cap ks no sl0) [1, 2, 3, 4] rfl
      have hDc := (hD.sub (ws' := MW3 K mo mk mn ms 0 b0 cap ks no sl0) [1, 2, 3, 4] (by decide) rfl).self (sz := H.size)
      have hFc := va_free (wc := MW3 K mo mk mn ms 0 b0 cap ks no sl0) hD hS hA [1, 2, 3, 4] rfl
      refine rr_callR (pc := 57) (va_runV (As := [.int (nI ((ala <<< 16) ||| alb))]) (rest := []) ⟨hx, hb, hml, hown, hts⟩ (c_X3_placeOf l K (va_A (MW3 K mo mk mn ms 0 b0 cap ks no sl0) H.size) H.size mo mk mn ms b0 cap ks no sl0 [] [] (nI (ala <<< 16 ||| alb)) hM0 (by decide) (fun q h => Or.inr h) hDc) (cwV 1 hts gX5_seek_X3_placeOf rfl rfl rfl (by decide +kernel) ⟨Nat.le_of_ble_eq_true rfl, Nat.le_of_ble_eq_true rfl⟩) (rr_preV hKK (⟨rfl, hPc⟩) (va_recv hKK.1 hP (ci := 3) (q0 := 1) rfl rfl)) rfl rfl hl.1 rfl (lv_room (Nat.le_of_ble_eq_true rfl)) dX5_seek_57 ⟨by show 0 + (capN cap 0 - cap) ≤ (skP k na nb Ea Eb ala alb cap).2.2.2 - cap; omega, by show 0 + 8 * (capN cap 0 - cap) ≤ 8 * ((skP k na nb Ea Eb ala alb cap).2.2.2 - cap); omega⟩) hS (hFc) (fun v H locs hY hsz hfr hS => ?_)
      obtain ⟨mk1, mn1, ms1, b1, ks1, no1, sl1, hM1, hP1, hD1, rfl⟩ := hY
      rw [plK_nil, plN_nil] at hM1
      rw [plK_nil] at hP1 hD1
      obtain ⟨hP, hD⟩ := va_join (wr := [(po, .inr (5, [.ref mo, .int (-1), .int ll]))]) (w1 := [(mo, .inr (3, [.int (nI ([nI (ala <<< 16 ||| alb)].length)), .ref mk1, .ref mn1, .ref ms1, .int (nI b1)])), (mk1, .inl (K.2.1, (capN cap 0), .inl (ks1))), (mn1, .inl (K.2.1, (capN cap 0), .inl (fun j => nI (no1 j)))), (ms1, .inl (K.2.1, 2 * (capN cap 0), .inl (fun j => nI (sl1 j))))]) hP hD [1, 2, 3, 4] [0] rfl rfl (by decide) (by decide) hfr hFc hP1 hD1
      have hP : va_P K.1 vwCl ([(po, .inr (5, [.ref mo, .int (-1), .int ll])), (mo, .inr (3, [.int (nI ([nI (ala <<< 16 ||| alb)].length)), .ref mk1, .ref mn1, .ref ms1, .int (nI b1)])), (mk1, .inl (K.2.1, (capN cap 0), .inl (ks1))), (mn1, .inl (K.2.1, (capN cap 0), .inl (fun j => nI (no1 j)))), (ms1, .inl (K.2.1, 2 * (capN cap 0), .inl (fun j => nI (sl1 j))))]) H := hP
      have hD : va_D A ([(po, .inr (5, [.ref mo, .int (-1), .int ll])), (mo, .inr (3, [.int (nI ([nI (ala <<< 16 ||| alb)].length)), .ref mk1, .ref mn1, .ref ms1, .int (nI b1)])), (mk1, .inl (K.2.1, (capN cap 0), .inl (ks1))), (mn1, .inl (K.2.1, (capN cap 0), .inl (fun j => nI (no1 j)))), (ms1, .inl (K.2.1, 2 * (capN cap 0), .inl (fun j => nI (sl1 j))))]) := hD
      refine lv_pop hx hb (pc := 60) dX5_seek_60 rfl ?_
      refine lv_iconst (v := nI 0) hx hb (pc := 61) dX5_seek_61 (by decide) ?_
      refine lv_istore_n (lv' := [(3, .int (nI 0)), (0, .ref po), (1, .ref ga), (2, .ref gb)]) hx hb (pc := 62) dX5_seek_62 rfl hl (by decide) rfl (fun ls hl => ?_)
      have L63 : ∀ (fz : Nat) (pr : Nat) (kn1 : List Nat) (nt1 : List Nat) (cap1 : Nat) (mk1 : Nat) (mn1 : Nat) (ms1 : Nat) (b1 : Nat) (ks1 : Nat → Int32) (no1 : Nat → Nat) (sl1 : Nat → Nat) (ff1 : Nat) (H : Heap) (locs : List Loc) (hP : va_P K.1 vwCl (PT1 K po mo (-1) ll ++ MW3 K mo mk1 mn1 ms1 ((kn1.map nI).length) b1 cap1 ks1 no1 sl1) H) (hD : va_D A (PT1 K po mo (-1) ll ++ MW3 K mo mk1 mn1 ms1 ((kn1.map nI).length) b1 cap1 ks1 no1 sl1)) (hS : va_S A s.heap H locs) (hfz : 20001 - pr < fz) (hM1 : MInv (kn1.map nI) nt1 cap1 b1 ks1 no1 sl1) (hk1 : (∀ x ∈ kn1, x < 2 ^ 32 ∧ sub (x >>> 16) ala ∧ sub (x &&& 65535) alb)) (hl1 : kn1.length ≤ 20000) (hpr1 : pr ≤ 20000) (hg1 : (skP k na nb Ea Eb ala alb cap) = pgo (ldS k na Ea ala) (ldS k nb Eb alb) k ff1 pr 0 kn1 nt1 cap1) (hff1 : (20000 - pr) * 6 + (5 - 0) ≤ ff1) (hcc1 : cap ≤ cap1) (ls : Array Slot) (hl : lv_has ls 7 [(0, .ref po), (1, .ref ga), (2, .ref gb), (3, .int (nI pr))]), W p l e (rmX5_seek (((skP k na nb Ea Eb ala alb cap).2.2.2 - cap)) ((8 * ((skP k na nb Ea Eb ala alb cap).2.2.2 - cap)))) s m args below meth c H locs (cap1 - cap) (8 * (cap1 - cap)) Q (F0 m 63 ls []) := by
        intro fz; induction fz with
        | zero => intro pr kn1 nt1 cap1 mk1 mn1 ms1 b1 ks1 no1 sl1 ff1 H locs hP hD hS hfz hM1 hk1 hl1 hpr1 hg1 hff1 hcc1 ls hl; exact absurd hfz (Nat.not_lt_zero _)
        | succ fz ih63 =>
          intro pr kn1 nt1 cap1 mk1 mn1 ms1 b1 ks1 no1 sl1 ff1 H locs hP hD hS hfz hM1 hk1 hl1 hpr1 hg1 hff1 hcc1 ls hl
          have hlm1 : (kn1.map nI).length = kn1.length := List.length_map _
          refine lv_iload_n hx hb (pc := 63) dX5_seek_63 rfl (lv_at hl 3 rfl) ?_
          refine lv_aload_n hx hb (pc := 64) dX5_seek_64 rfl (lv_at hl 0 rfl) ?_
          refine va_get (v := .ref mo) hx hb hts (inX5_seek_5) hown hKK.1 hP 0 rfl rfl 0 (by decide) (hts _ (List.mem_of_getElem? (i := 1) (by decide +kernel))) (fun _ h9 => h9) rfl (pc := 65) dX5_seek_65 ?_
          refine va_get (v := .int (nI ((kn1.map nI).length))) hx hb hts (inX5_seek_3) hown hKK.1 hP 1 rfl rfl 0 (by decide) (hts _ (List.mem_of_getElem? (i := 4) (by decide +kernel))) (fun _ h9 => h9) rfl (pc := 68) dX5_seek_68 ?_
          refine nv_icmp_ge (a := pr) (b := ((kn1.map nI).length)) (tgt := 205) hx hb (pc := 71) dX5_seek_71 (by decide) (by omega) (by omega) (fun c71 => ?_) (fun c71 => ?_)
          · refine lv_iconst (v := nI 1) hx hb (pc := 205) dX5_seek_205 (by decide) ?_
            obtain ⟨f', rfl⟩ : ∃ f', ff1 = f' + 1 := ⟨ff1 - 1, by omega⟩
            rw [pgo_succ, if_neg (by omega)] at hg1
            exact hret.1 _ _ (cap1 - cap) (8 * (cap1 - cap)) 206 _ (nI 1) dX5_seek_206 (by rw [hg1]; exact Nat.le_refl _) (by rw [hg1]; exact Nat.le_refl _) hS (⟨mk1, mn1, ms1, b1, ks1, no1, sl1, -1, ll, by rw [hg1]; exact hM1, by rw [hg1]; exact hP, by rw [hg1]; exact hD, by rw [hg1]; rfl, (by rw [hg1]; intro q; cases q), (by rw [hg1]; intro q; cases q)⟩) (rfl)
          · refine lv_iload_n hx hb (pc := 74) dX5_seek_74 rfl (lv_at hl 3 rfl) ?_
            refine lv_sipush (v := nI 20000) hx hb (pc := 75) dX5_seek_75 (by decide) ?_
            refine nv_icmp_ge (a := pr) (b := 20000) (tgt := 205) hx hb (pc := 78) dX5_seek_78 (by decide) (by omega) (by omega) (fun c78 => ?_) (fun c78 => ?_)
            · refine lv_iconst (v := nI 1) hx hb (pc := 205) dX5_seek_205 (by decide) ?_
              obtain ⟨f', rfl⟩ : ∃ f', ff1 = f' + 1 := ⟨ff1 - 1, by omega⟩
              rw [pgo_succ, if_neg (by omega)] at hg1
              exact hret.1 _ _ (cap1 - cap) (8 * (cap1 - cap)) 206 _ (nI 1) dX5_seek_206 (by rw [hg1]; exact Nat.le_refl _) (by rw [hg1]; exact Nat.le_refl _) hS (⟨mk1, mn1, ms1, b1, ks1, no1, sl1, -1, ll, by rw [hg1]; exact hM1, by rw [hg1]; exact hP, by rw [hg1]; exact hD, by rw [hg1]; rfl, (by rw [hg1]; intro q; cases q), (by rw [hg1]; intro q; cases q)⟩) (rfl)
            · have hpr20 : pr < 20000 := by omega
              refine lv_iconst (v := nI 0) hx hb (pc := 81) dX5_seek_81 (by decide) ?_
              refine lv_istore (lv' := [(4, .int (nI 0)), (0, .ref po), (1, .ref ga), (2, .ref gb), (3, .int (nI pr))]) hx hb (pc := 82) dX5_seek_82 hl (by decide) rfl (fun ls hl => ?_)
              have L84 : ∀ (fz : Nat) (le : Nat) (kn2 : List Nat) (nt2 : List Nat) (cap2 : Nat) (mk2 : Nat) (mn2 : Nat) (ms2 : Nat) (b2 : Nat) (ks2 : Nat → Int32) (no2 : Nat → Nat) (sl2 : Nat → Nat) (ff2 : Nat) (H : Heap) (locs : List Loc) (hP : va_P K.1 vwCl (PT1 K po mo (-1) ll ++ MW3 K mo mk2 mn2 ms2 ((kn2.map nI).length) b2 cap2 ks2 no2 sl2) H) (hD : va_D A (PT1 K po mo (-1) ll ++ MW3 K mo mk2 mn2 ms2 ((kn2.map nI).length) b2 cap2 ks2 no2 sl2)) (hS : va_S A s.heap H locs) (hfz : k - le < fz) (hM2 : MInv (kn2.map nI) nt2 cap2 b2 ks2 no2 sl2) (hk2 : (∀ x ∈ kn2, x < 2 ^ 32 ∧ sub (x >>> 16) ala ∧ sub (x &&& 65535) alb)) (hl2 : kn2.length ≤ 20000) (hpr2 : pr ≤ 20000) (hg2 : (skP k na nb Ea Eb ala alb cap) = pgo (ldS k na Ea ala) (ldS k nb Eb alb) k ff2 pr le kn2 nt2 cap2) (hff2 : (20000 - pr) * 6 + (5 - le) ≤ ff2) (hcc2 : cap ≤ cap2) (hlt2 : pr < kn2.length) (hle2 : le ≤ k) (ls : Array Slot) (hl : lv_has ls 7 [(0, .ref po), (1, .ref ga), (2, .ref gb), (3, .int (nI pr)), (4, .int (nI le))]), W p l e (rmX5_seek (((skP k na nb Ea Eb ala alb cap).2.2.2 - cap)) ((8 * ((skP k na nb Ea Eb ala alb cap).2.2.2 - cap)))) s m args below meth c H locs (cap2 - cap) (8 * (cap2 - cap)) Q (F0 m 84 ls []) := by
                intro fz; induction fz with
                | zero => intro le kn2 nt2 cap2 mk2 mn2 ms2 b2 ks2 no2 sl2 ff2 H locs hP hD hS hfz hM2 hk2 hl2 hpr2 hg2 hff2 hcc2 hlt2 hle2 ls hl; exact absurd hfz (Nat.not_lt_zero _)
                | succ fz ih84 =>
                  intro le kn2 nt2 cap2 mk2 mn2 ms2 b2 ks2 no2 sl2 ff2 H locs hP hD hS hfz hM2 hk2 hl2 hpr2 hg2 hff2 hcc2 hlt2 hle2 ls hl
                  have hkp := hk2 _ (show kn2.getD pr 0 ∈ kn2 from by rw [getD_lt hlt2]; exact List.getElem_mem _)
                  have hkey : ks2 pr = nI (kn2.getD pr 0) := ks_map hM2 hlt2
                  have hcF2 : cap2 ≤ (skP k na nb Ea Eb ala alb cap).2.2.2 := by rw [hg2]; exact pgo_cap _ _ _ _ _ _ _ _ _
                  have hx16 : kn2.getD pr 0 >>> 16 < 65536 := Nat.lt_of_le_of_lt (sub_le hkp.2.1) (by omega)
                  have hy16 : kn2.getD pr 0 &&& 65535 < 65536 := Nat.lt_succ_of_le Nat.and_le_right
                  have hcell : cap2 - cap ≤ (skP k na nb Ea Eb ala alb cap).2.2.2 - cap := by omega
                  have hslot : 8 * (cap2 - cap) ≤ 8 * ((skP k na nb Ea Eb ala alb cap).2.2.2 - cap) := by omega
                  refine lv_iload hx hb (pc := 84) dX5_seek_84 (lv_at hl 4 rfl) ?_
                  refine lv_aload_n hx hb (pc := 86) dX5_seek_86 rfl (lv_at hl 1 rfl) ?_
                  refine va_get (v := .int (nI k)) hx hb hts (inX5_seek_1) hown hKK.1 (rr_ro (A := A) hGa hGaA hS) 0 rfl rfl 0 (by decide) (hts _ (List.mem_of_getElem? (i := 5) (by decide +kernel))) (fun _ h9 => h9) rfl (pc := 87) dX5_seek_87 ?_
                  refine nv_icmp_ge (a := le) (b := k) (tgt := 199) hx hb (pc := 90) dX5_seek_90 (by decide) (by omega) (by omega) (fun c90 => ?_) (fun c90 => ?_)
                  · refine lv_iinc (v := nI (pr + 1)) (lv' := [(3, .int (nI (pr + 1))), (0, .ref po), (1, .ref ga), (2, .ref gb), (4, .int (nI le))]) hx hb (pc := 199) dX5_seek_199 hl (k := 3) rfl (rr_inc _) (by decide) rfl (fun ls hl => ?_)
                    refine lv_goto (tgt := 63) hx hb (pc := 202) dX5_seek_202 (by decide) ?_
                    obtain ⟨f', rfl⟩ : ∃ f', ff2 = f' + 1 := ⟨ff2 - 1, by omega⟩
                    rw [pgo_succ, if_pos hlt2, if_neg (by omega)] at hg2
                    exact ih63 (pr + 1) kn2 nt2 cap2 mk2 mn2 ms2 b2 ks2 no2 sl2 f' _ _ hP hD hS (by omega) (hM2) (hk2) (by omega) (by omega) (hg2) (by omega) (by omega) ls (lv_sub hl [1, 2, 3, 0] rfl)
                  · have hx2 := c_X1_step l K ga ea ta k na gwa ala lwa Ea Ta (kn2.getD pr 0 >>> 16) le hx16 (by omega) hk4
                    rw [stp_eq hTa hna hkp.2.1 hala] at hx2
                    have hy2 := c_X1_step l K gb eb tb k nb gwb alb lwb Eb Tb (kn2.getD pr 0 &&& 65535) le hy16 (by omega) hk4
                    rw [stp_eq hTb hnb hkp.2.2 halb] at hy2
                    obtain ⟨f', rfl⟩ : ∃ f', ff2 = f' + 1 := ⟨ff2 - 1, by omega⟩
                    have hX16 : (ldS k na Ea ala (kn2.getD pr 0 >>> 16) le) < 65536 := Nat.lt_of_le_of_lt (sub_le (ldS_sub _ _ _ _ _ _)) (by omega)
                    have hY16 : (ldS k nb Eb alb (kn2.getD pr 0 &&& 65535) le) < 65536 := Nat.lt_of_le_of_lt (sub_le (ldS_sub _ _ _ _ _ _)) (by omega)
                    rw [pgo_succ, if_pos hlt2, if_pos c90] at hg2
                    refine lv_aload_n hx hb (pc := 93) dX5_seek_93 rfl (lv_at hl 1 rfl) ?_
                    refine lv_aload_n hx hb (pc := 94) dX5_seek_94 rfl (lv_at hl 0 rfl) ?_
                    refine va_get (v := .ref mo) hx hb hts (inX5_seek_5) hown hKK.1 hP 0 rfl rfl 0 (by decide) (hts _ (List.mem_of_getElem? (i := 1) (by decide +kernel))) (fun _ h9 => h9) rfl (pc := 95) dX5_seek_95 ?_
                    refine lv_iload_n hx hb (pc := 98) dX5_seek_98 rfl (lv_at hl 3 rfl) ?_
                    refine rr_callP (rv := .int (ks2 pr)) (pc := 99) (va_runV (As := [.int (nI pr)]) (rest := [.ref ga]) ⟨hx, hb, hml, hown, hts⟩ (c_X3_keyAt l K mo mk2 mn2 ms2 b2 cap2 ks2 no2 sl2 (kn2.map nI) nt2 pr hM2 (by rw [List.length_map]; omega)) (cwV 1 hts gX5_seek_X3_keyAt rfl rfl rfl (by decide +kernel) ⟨Nat.le_of_ble_eq_true rfl, Nat.le_of_ble_eq_true rfl⟩) (rr_preV hKK (rr_right hP) (va_recv hKK.1 hP (ci := 3) (q0 := 1) rfl rfl)) rfl rfl hl.1 rfl (lv_room (Nat.le_of_ble_eq_true rfl)) dX5_seek_99 ⟨hcell, hslot⟩) ?_
                    refine rr_top (v := .int (nI (kn2.getD pr 0))) (by rw [hkey]) ?_
                    refine lv_bipush (v := nI 16) hx hb (pc := 102) dX5_seek_102 (by decide) ?_
                    refine nv_iushr2 (a := (kn2.getD pr 0)) (b := 16) hx hb (pc := 104) dX5_seek_104 (hkp.1) (by omega) ?_
                    refine lv_iload hx hb (pc := 105) dX5_seek_105 (lv_at hl 4 rfl) ?_
                    refine rr_callP (rv := .int (nI ((ldS k na Ea ala (kn2.getD pr 0 >>> 16) le)))) (pc := 107) (va_runV (As := [.int (nI ((kn2.getD pr 0) >>> 16)), .int (nI le)]) (rest := []) ⟨hx, hb, hml, hown, hts⟩ (hx2) (cwV 2 hts gX5_seek_X1_step rfl rfl rfl (by decide +kernel) ⟨Nat.le_of_ble_eq_true rfl, Nat.le_of_ble_eq_true rfl⟩) (rr_preV hKK ((rr_ro (A := A) hGa hGaA hS)) (va_recv hKK.1 (rr_ro (A := A) hGa hGaA hS) (ci := 1) (q0 := 0) rfl rfl)) rfl rfl hl.1 rfl (lv_room (Nat.le_of_ble_eq_true rfl)) dX5_seek_107 ⟨hcell, hslot⟩) ?_
                    refine lv_istore (lv' := [(5, .int (nI ((ldS k na Ea ala (kn2.getD pr 0 >>> 16) le)))), (0, .ref po), (1, .ref ga), (2, .ref gb), (3, .int (nI pr)), (4, .int (nI le))]) hx hb (pc := 110) dX5_seek_110 hl (by decide) rfl (fun ls hl => ?_)
                    refine lv_aload_n hx hb (pc := 112) dX5_seek_112 rfl (lv_at hl 3 rfl) ?_
                    refine lv_aload_n hx hb (pc := 113) dX5_seek_113 rfl (lv_at hl 1 rfl) ?_
                    refine va_get (v := .ref mo) hx hb hts (inX5_seek_5) hown hKK.1 hP 0 rfl rfl 0 (by decide) (hts _ (List.mem_of_getElem? (i := 1) (by decide +kernel))) (fun _ h9 => h9) rfl (pc := 114) dX5_seek_114 ?_
                    refine lv_iload_n hx hb (pc := 117) dX5_seek_117 rfl (lv_at hl 4 rfl) ?_
                    refine rr_callP (rv := .int (ks2 pr)) (pc := 118) (va_runV (As := [.int (nI pr)]) (rest := [.ref gb]) ⟨hx, hb, hml, hown, hts⟩ (c_X3_keyAt l K mo mk2 mn2 ms2 b2 cap2 ks2 no2 sl2 (kn2.map nI) nt2 pr hM2 (by rw [List.length_map]; omega)) (cwV 1 hts gX5_seek_X3_keyAt rfl rfl rfl (by decide +kernel) ⟨Nat.le_of_ble_eq_true rfl, Nat.le_of_ble_eq_true rfl⟩) (rr_preV hKK (rr_right hP) (va_recv hKK.1 hP (ci := 3) (q0 := 1) rfl rfl)) rfl rfl hl.1 rfl (lv_room (Nat.le_of_ble_eq_true rfl)) dX5_seek_118 ⟨hcell, hslot⟩) ?_
                    refine rr_top (v := .int (nI (kn2.getD pr 0))) (by rw [hkey]) ?_
                    refine lv_ldc (v := nI 65535) hx hb (pc := 121) hown (hts _ (List.mem_of_getElem? (i := 6) (by decide +kernel))) dX5_seek_121 ?_
                    refine nv_iand (a := (kn2.getD pr 0)) (b := 65535) hx hb (pc := 123) dX5_seek_123 ?_
                    refine lv_iload hx hb (pc := 124) dX5_seek_124 (lv_at hl 5 rfl) ?_
                    refine rr_callP (rv := .int (nI ((ldS k nb Eb alb (kn2.getD pr 0 &&& 65535) le)))) (pc := 126) (va_runV (As := [.int (nI ((kn2.getD pr 0) &&& 65535)), .int (nI le)]) (rest := []) ⟨hx, hb, hml, hown, hts⟩ (hy2) (cwV 2 hts gX5_seek_X1_step rfl rfl rfl (by decide +kernel) ⟨Nat.le_of_ble_eq_true rfl, Nat.le_of_ble_eq_true rfl⟩) (rr_preV hKK ((rr_ro (A := A) hGb hGbA hS)) (va_recv hKK.1 (rr_ro (A := A) hGb hGbA hS) (ci := 1) (q0 := 0) rfl rfl)) rfl rfl hl.1 rfl (lv_room (Nat.le_of_ble_eq_true rfl)) dX5_seek_126 ⟨hcell, hslot⟩) ?_
                    refine lv_istore (lv' := [(6, .int (nI ((ldS k nb Eb alb (kn2.getD pr 0 &&& 65535) le)))), (5, .int (nI ((ldS k na Ea ala (kn2.getD pr 0 >>> 16) le)))), (0, .ref po), (1, .ref ga), (2, .ref gb), (3, .int (nI pr)), (4, .int (nI le))]) hx hb (pc := 129) dX5_seek_129 hl (by decide) rfl (fun ls hl => ?_)
                    refine lv_iload hx hb (pc := 131) dX5_seek_131 (lv_at hl 1 rfl) ?_
                    refine nv_if_ne (a := (ldS k na Ea ala (kn2.getD pr 0 >>> 16) le)) (tgt := 140) hx hb (pc := 133) dX5_seek_133 (by decide) (by omega) (fun c133 => ?_) (fun c133 => ?_)
                    · refine lv_iconst (v := nI 0) hx hb (pc := 140) dX5_seek_140 (by decide) ?_
                      refine lv_iload hx hb (pc := 141) dX5_seek_141 (lv_at hl 0 rfl) ?_
                      refine nv_if_ne (a := (ldS k nb Eb alb (kn2.getD pr 0 &&& 65535) le)) (tgt := 150) hx hb (pc := 143) dX5_seek_143 (by decide) (by omega) (fun c143 => ?_) (fun c143 => ?_)
                      · refine lv_iconst (v := nI 0) hx hb (pc := 150) dX5_seek_150 (by decide) ?_
                        refine nv_icmp_eq (a := 0) (b := 0) (tgt := 167) hx hb (pc := 151) dX5_seek_151 (by decide) (by decide) (by decide) (fun _ => ?_) (fun h => absurd h (by decide))
                        rw [if_neg (by first | exact rr_eq1 c133 c143 | exact rr_eq2 c133 c143)] at hg2
                        refine lv_iload hx hb (pc := 167) dX5_seek_167 (lv_at hl 1 rfl) ?_
                        refine nv_if_eq (a := (ldS k na Ea ala (kn2.getD pr 0 >>> 16) le)) (tgt := 193) hx hb (pc := 169) dX5_seek_169 (by decide) (by omega) (fun c169 => absurd c169 c133) (fun c169 => ?_)
                        refine lv_aload_n hx hb (pc := 172) dX5_seek_172 rfl (lv_at hl 2 rfl) ?_
                        rw [if_neg c169] at hg2
                        have hkey9 : ((ldS k na Ea ala (kn2.getD pr 0 >>> 16) le) <<< 16 ||| (ldS k nb Eb alb (kn2.getD pr 0 &&& 65535) le)) < 2 ^ 32 := pk16_lt hX16 hY16
                        have hcF3 : capN cap2 kn2.length ≤ (skP k na nb Ea Eb ala alb cap).2.2.2 := by
                          rw [hg2]
                          split
                          · exact Nat.le_refl _
                          · exact pgo_cap _ _ _ _ _ _ _ _ _
                        have hcN := capN_le cap2 kn2.length
                        refine lv_iload hx hb (pc := 173) dX5_seek_173 (lv_at hl 1 rfl) ?_
                        refine lv_bipush (v := nI 16) hx hb (pc := 175) dX5_seek_175 (by decide) ?_
                        refine nv_ishl (a := (ldS k na Ea ala (kn2.getD pr 0 >>> 16) le)) (b := 16) hx hb (pc := 177) dX5_seek_177 (by omega) ?_
                        refine lv_iload hx hb (pc := 178) dX5_seek_178 (lv_at hl 0 rfl) ?_
                        refine nv_ior (a := ((ldS k na Ea ala (kn2.getD pr 0 >>> 16) le) <<< 16)) (b := (ldS k nb Eb alb (kn2.getD pr 0 &&& 65535) le)) hx hb (pc := 180) dX5_seek_180 ?_
                        refine lv_iload_n hx hb (pc := 181) dX5_seek_181 rfl (lv_at hl 5 rfl) ?_
                        refine lv_iload hx hb (pc := 182) dX5_seek_182 (lv_at hl 6 rfl) ?_
                        refine rr_callR (pc := 184) (va_runV (As := [.int (nI (((ldS k na Ea ala (kn2.getD pr 0 >>> 16) le) <<< 16) ||| (ldS k nb Eb alb (kn2.getD pr 0 &&& 65535) le))), .int (nI pr), .int (nI le)]) (rest := []) ⟨hx, hb, hml, hown, hts⟩ (c_X5_isSpentBy l K A H.size po mo mk2 mn2 ms2 b2 cap2 ks2 no2 sl2 kn2 nt2 (-1) ll ((ldS k na Ea ala (kn2.getD pr 0 >>> 16) le) <<< 16 ||| (ldS k nb Eb alb (kn2.getD pr 0 &&& 65535) le)) pr le hM2 (fun x hx => (hk2 x hx).1) hkey9 hl2 (by omega) (by omega) (fun q h => hA q (Nat.le_trans hS.1 h)) hD) (cwV 3 hts gX5_seek_X5_isSpentBy rfl rfl rfl (by decide +kernel) ⟨Nat.le_of_ble_eq_true rfl, Nat.le_of_ble_eq_true rfl⟩) (rr_preV hKK (⟨rfl, hP⟩) (va_recv hKK.1 hP (ci := 5) (q0 := 0) rfl rfl)) rfl rfl hl.1 rfl (lv_room (Nat.le_of_ble_eq_true rfl)) dX5_seek_184 ⟨by show cap2 - cap + (capN cap2 kn2.length - cap2) ≤ (skP k na nb Ea Eb ala alb cap).2.2.2 - cap; omega, by show 8 * (cap2 - cap) + 8 * (capN cap2 kn2.length - cap2) ≤ 8 * ((skP k na nb Ea Eb ala alb cap).2.2.2 - cap); omega⟩) hS (fun _ h => h) (fun v H locs hY hsz hfr hS => ?_)
                        obtain ⟨mk3, mn3, ms3, b3, ks3, no3, sl3, hM3, hP, hD, rfl⟩ := hY
                        have hP : va_P K.1 vwCl (PT1 K po mo (-1) ll ++ MW3 K mo mk3 mn3 ms3 (((adK kn2 ((ldS k na Ea ala (kn2.getD pr 0 >>> 16) le) <<< 16 ||| (ldS k nb Eb alb (kn2.getD pr 0 &&& 65535) le))).map nI).length) b3 (capN cap2 kn2.length) ks3 no3 sl3) H := hP
                        refine nv_if_eq_b (a := (decide (20000 < (adK kn2 ((ldS k na Ea ala (kn2.getD pr 0 >>> 16) le) <<< 16 ||| (ldS k nb Eb alb (kn2.getD pr 0 &&& 65535) le))).length))) (tgt := 193) hx hb (pc := 187) dX5_seek_187 (by decide) (fun c187 => ?_) (fun c187 => ?_)
                        · have hns : ¬ 20000 < (adK kn2 ((ldS k na Ea ala (kn2.getD pr 0 >>> 16) le) <<< 16 ||| (ldS k nb Eb alb (kn2.getD pr 0 &&& 65535) le))).length := of_decide_eq_false c187
                          rw [if_neg hns] at hg2
                          have hk4 : (∀ x ∈ (adK kn2 ((ldS k na Ea ala (kn2.getD pr 0 >>> 16) le) <<< 16 ||| (ldS k nb Eb alb (kn2.getD pr 0 &&& 65535) le))), x < 2 ^ 32 ∧ sub (x >>> 16) ala ∧ sub (x &&& 65535) alb) := adK_all hk2 ⟨hkey9, by rw [pk16_hi hY16]; exact ldS_sub _ _ _ _ _ _, by rw [pk16_lo hY16]; exact ldS_sub _ _ _ _ _ _⟩
                          have hlt4 : pr < (adK kn2 ((ldS k na Ea ala (kn2.getD pr 0 >>> 16) le) <<< 16 ||| (ldS k nb Eb alb (kn2.getD pr 0 &&& 65535) le))).length := Nat.lt_of_lt_of_le hlt2 (adK_len _ _).1
                          refine W.widen (k := capN cap2 kn2.length - cap) (n := 8 * (capN cap2 kn2.length - cap)) (by omega) (by omega) ?_
                          refine lv_iinc (v := nI (le + 1)) (lv' := [(4, .int (nI (le + 1))), (6, .int (nI ((ldS k nb Eb alb (kn2.getD pr 0 &&& 65535) le)))), (5, .int (nI ((ldS k na Ea ala (kn2.getD pr 0 >>> 16) le)))), (0, .ref po), (1, .ref ga), (2, .ref gb), (3, .int (nI pr))]) hx hb (pc := 193) dX5_seek_193 hl (k := 6) rfl (rr_inc _) (by decide) rfl (fun ls hl => ?_)
                          refine lv_goto (tgt := 84) hx hb (pc := 196) dX5_seek_196 (by decide) ?_
                          exact ih84 (le + 1) (adK kn2 ((ldS k na Ea ala (kn2.getD pr 0 >>> 16) le) <<< 16 ||| (ldS k nb Eb alb (kn2.getD pr 0 &&& 65535) le))) (adN kn2 nt2 ((ldS k na Ea ala (kn2.getD pr 0 >>> 16) le) <<< 16 ||| (ldS k nb Eb alb (kn2.getD pr 0 &&& 65535) le)) (4 * pr + le)) (capN cap2 kn2.length) mk3 mn3 ms3 b3 ks3 no3 sl3 f' _ _ hP hD hS (by omega) (hM3) (hk4) (by omega) (by omega) (hg2) (by omega) (by first | omega | exact Nat.le_trans hcc2 (capN_le _ _)) (hlt4) (by omega) ls (lv_sub hl [3, 4, 5, 6, 0] rfl)
                        · refine lv_bipush (v := -5) hx hb (pc := 190) dX5_seek_190 (by decide) ?_
                          rw [if_pos (of_decide_eq_true c187)] at hg2
                          exact hret.1 _ _ (cap2 - cap + (capN cap2 kn2.length - cap2)) (8 * (cap2 - cap) + 8 * (capN cap2 kn2.length - cap2)) 192 _ (-5) dX5_seek_192 (by omega) (by omega) hS (⟨mk3, mn3, ms3, b3, ks3, no3, sl3, -1, ll, by rw [hg2]; exact hM3, by rw [hg2]; exact hP, by rw [hg2]; exact hD, by rw [hg2]; rfl, (by rw [hg2]; intro q; cases q), (by rw [hg2]; intro q; cases q)⟩) (rfl)
                      · refine lv_iconst (v := nI 1) hx hb (pc := 146) dX5_seek_146 (by decide) ?_
                        refine lv_goto (tgt := 151) hx hb (pc := 147) dX5_seek_147 (by decide) ?_
                        refine nv_icmp_eq (a := 0) (b := 1) (tgt := 167) hx hb (pc := 151) dX5_seek_151 (by decide) (by decide) (by decide) (fun h => absurd h (by decide)) (fun _ => ?_)
                        refine lv_aload_n hx hb (pc := 154) dX5_seek_154 rfl (lv_at hl 2 rfl) ?_
                        refine lv_iload_n hx hb (pc := 155) dX5_seek_155 rfl (lv_at hl 5 rfl) ?_
                        refine rr_put (v := .int (nI pr)) (ty := tyX5 1) (ws' := PT1 K po mo (nI pr) ll ++ MW3 K mo mk2 mn2 ms2 ((kn2.map nI).length) b2 cap2 ks2 no2 sl2) hx hb hts (inX5_seek_5) tyX5 tyX5_ok nmX5 hown hKK.1 hP hD hS 0 rfl rfl 1 (by decide) (hts _ (List.mem_of_getElem? (i := 2) (by decide +kernel))) (fun _ h9 => h9) rfl (tyX5_ok 1 (by decide)) rfl rfl (Nat.le_of_ble_eq_true rfl) rfl (pc := 156) dX5_seek_156 (fun H locs hP hD hS => ?_)
                        refine lv_aload_n hx hb (pc := 159) dX5_seek_159 rfl (lv_at hl 2 rfl) ?_
                        refine lv_iload hx hb (pc := 160) dX5_seek_160 (lv_at hl 6 rfl) ?_
                        refine rr_put (v := .int (nI le)) (ty := tyX5 2) (ws' := PT1 K po mo (nI pr) (nI le) ++ MW3 K mo mk2 mn2 ms2 ((kn2.map nI).length) b2 cap2 ks2 no2 sl2) hx hb hts (inX5_seek_5) tyX5 tyX5_ok nmX5 hown hKK.1 hP hD hS 0 rfl rfl 2 (by decide) (hts _ (List.mem_of_getElem? (i := 7) (by decide +kernel))) (fun _ h9 => h9) rfl (tyX5_ok 2 (by decide)) rfl rfl (Nat.le_of_ble_eq_true rfl) rfl (pc := 162) dX5_seek_162 (fun H locs hP hD hS => ?_)
                        refine lv_iconst (v := nI 0) hx hb (pc := 165) dX5_seek_165 (by decide) ?_
                        rw [if_pos (by first | exact rr_ne1 c133 c143 | exact rr_ne2 c133 c143)] at hg2
                        exact hret.1 _ _ (cap2 - cap) (8 * (cap2 - cap)) 166 _ (nI 0) dX5_seek_166 (hcell) (hslot) hS (⟨mk2, mn2, ms2, b2, ks2, no2, sl2, nI pr, nI le, by rw [hg2]; exact hM2, by rw [hg2]; exact hP, by rw [hg2]; exact hD, by rw [hg2]; rfl, by rw [hg2]; exact fun _ => ⟨rfl, rfl⟩, (by rw [hg2]; intro q; cases q)⟩) (rfl)
                    · refine lv_iconst (v := nI 1) hx hb (pc := 136) dX5_seek_136 (by decide) ?_
                      refine lv_goto (tgt := 141) hx hb (pc := 137) dX5_seek_137 (by decide) ?_
                      refine lv_iload hx hb (pc := 141) dX5_seek_141 (lv_at hl 0 rfl) ?_
                      refine nv_if_ne (a := (ldS k nb Eb alb (kn2.getD pr 0 &&& 65535) le)) (tgt := 150) hx hb (pc := 143) dX5_seek_143 (by decide) (by omega) (fun c143 => ?_) (fun c143 => ?_)
                      · refine lv_iconst (v := nI 0) hx hb (pc := 150) dX5_seek_150 (by decide) ?_
                        refine nv_icmp_eq (a := 1) (b := 0) (tgt := 167) hx hb (pc := 151) dX5_seek_151 (by decide) (by decide) (by decide) (fun h => absurd h (by decide)) (fun _ => ?_)
                        refine lv_aload_n hx hb (pc := 154) dX5_seek_154 rfl (lv_at hl 2 rfl) ?_
                        refine lv_iload_n hx hb (pc := 155) dX5_seek_155 rfl (lv_at hl 5 rfl) ?_
                        refine rr_put (v := .int (nI pr)) (ty := tyX5 1) (ws' := PT1 K po mo (nI pr) ll ++ MW3 K mo mk2 mn2 ms2 ((kn2.map nI).length) b2 cap2 ks2 no2 sl2) hx hb hts (inX5_seek_5) tyX5 tyX5_ok nmX5 hown hKK.1 hP hD hS 0 rfl rfl 1 (by decide) (hts _ (List.mem_of_getElem? (i := 2) (by decide +kernel))) (fun _ h9 => h9) rfl (tyX5_ok 1 (by decide)) rfl rfl (Nat.le_of_ble_eq_true rfl) rfl (pc := 156) dX5_seek_156 (fun H locs hP hD hS => ?_)
                        refine lv_aload_n hx hb (pc := 159) dX5_seek_159 rfl (lv_at hl 2 rfl) ?_
                        refine lv_iload hx hb (pc := 160) dX5_seek_160 (lv_at hl 6 rfl) ?_
                        refine rr_put (v := .int (nI le)) (ty := tyX5 2) (ws' := PT1 K po mo (nI pr) (nI le) ++ MW3 K mo mk2 mn2 ms2 ((kn2.map nI).length) b2 cap2 ks2 no2 sl2) hx hb hts (inX5_seek_5) tyX5 tyX5_ok nmX5 hown hKK.1 hP hD hS 0 rfl rfl 2 (by decide) (hts _ (List.mem_of_getElem? (i := 7) (by decide +kernel))) (fun _ h9 => h9) rfl (tyX5_ok 2 (by decide)) rfl rfl (Nat.le_of_ble_eq_true rfl) rfl (pc := 162) dX5_seek_162 (fun H locs hP hD hS => ?_)
                        refine lv_iconst (v := nI 0) hx hb (pc := 165) dX5_seek_165 (by decide) ?_
                        rw [if_pos (by first | exact rr_ne1 c133 c143 | exact rr_ne2 c133 c143)] at hg2
                        exact hret.1 _ _ (cap2 - cap) (8 * (cap2 - cap)) 166 _ (nI 0) dX5_seek_166 (hcell) (hslot) hS (⟨mk2, mn2, ms2, b2, ks2, no2, sl2, nI pr, nI le, by rw [hg2]; exact hM2, by rw [hg2]; exact hP, by rw [hg2]; exact hD, by rw [hg2]; rfl, by rw [hg2]; exact fun _ => ⟨rfl, rfl⟩, (by rw [hg2]; intro q; cases q)⟩) (rfl)
                      · refine lv_iconst (v := nI 1) hx hb (pc := 146) dX5_seek_146 (by decide) ?_
                        refine lv_goto (tgt := 151) hx hb (pc := 147) dX5_seek_147 (by decide) ?_
                        refine nv_icmp_eq (a := 1) (b := 1) (tgt := 167) hx hb (pc := 151) dX5_seek_151 (by decide) (by decide) (by decide) (fun _ => ?_) (fun h => absurd h (by decide))
                        rw [if_neg (by first | exact rr_eq1 c133 c143 | exact rr_eq2 c133 c143)] at hg2
                        refine lv_iload hx hb (pc := 167) dX5_seek_167 (lv_at hl 1 rfl) ?_
                        refine nv_if_eq (a := (ldS k na Ea ala (kn2.getD pr 0 >>> 16) le)) (tgt := 193) hx hb (pc := 169) dX5_seek_169 (by decide) (by omega) (fun c169 => ?_) (fun c169 => absurd c133 c169)
                        rw [if_pos c169] at hg2
                        refine lv_iinc (v := nI (le + 1)) (lv' := [(4, .int (nI (le + 1))), (6, .int (nI ((ldS k nb Eb alb (kn2.getD pr 0 &&& 65535) le)))), (5, .int (nI ((ldS k na Ea ala (kn2.getD pr 0 >>> 16) le)))), (0, .ref po), (1, .ref ga), (2, .ref gb), (3, .int (nI pr))]) hx hb (pc := 193) dX5_seek_193 hl (k := 6) rfl (rr_inc _) (by decide) rfl (fun ls hl => ?_)
                        refine lv_goto (tgt := 84) hx hb (pc := 196) dX5_seek_196 (by decide) ?_
                        exact ih84 (le + 1) kn2 nt2 cap2 mk2 mn2 ms2 b2 ks2 no2 sl2 f' _ _ hP hD hS (by omega) (hM2) (hk2) (hl2) (by omega) (hg2) (by omega) (by first | omega | exact Nat.le_trans hcc2 (capN_le _ _)) (hlt2) (by omega) ls (lv_sub hl [3, 4, 5, 6, 0] rfl)
              exact L84 (5) 0 kn1 nt1 cap1 mk1 mn1 ms1 b1 ks1 no1 sl1 ff1 _ _ hP hD hS (by omega) (hM1) (hk1) (by omega) (by omega) (hg1) (by omega) (by omega) (by omega) (Nat.zero_le _) ls (lv_sub hl [1, 2, 3, 4, 0] rfl)
      have hc00 : capN cap ([] : List Int32).length = capN cap 0 := rfl
      refine W.widen (k := capN cap 0 - cap) (n := 8 * (capN cap 0 - cap)) (by omega) (by omega) ?_
      exact L63 (20002) 0 ([ala <<< 16 ||| alb]) ([0]) (capN cap 0) mk1 mn1 ms1 b1 ks1 no1 sl1 130000 _ _ hP hD hS (by omega) (hM1) (by intro x hx; rw [List.mem_singleton.mp hx, pk16_hi (by omega), pk16_lo (by omega)]; exact ⟨hpk, sub_refl _, sub_refl _⟩) (Nat.le_of_ble_eq_true rfl) (by decide) (hR0) (by decide) (by omega) ls (lv_sub hl [1, 2, 3, 0] rfl)
    · refine lv_iconst (v := nI 1) hx hb (pc := 31) dX5_seek_31 (by decide) ?_
      refine lv_goto (tgt := 36) hx hb (pc := 32) dX5_seek_32 (by decide) ?_
      refine nv_icmp_eq (a := 0) (b := 1) (tgt := 41) hx hb (pc := 36) dX5_seek_36 (by decide) (by decide) (by decide) (fun h => absurd h (by decide)) (fun _ => ?_)
      refine lv_iconst (v := nI 0) hx hb (pc := 39) dX5_seek_39 (by decide) ?_
      have hR : (skP k na nb Ea Eb ala alb cap) = ((4, 0, 0), ([], [], cap)) := by unfold skP; rw [if_pos (by first | exact rr_ne1 c16 c28 | exact rr_ne2 c16 c28)]
      exact hret.1 _ _ 0 0 40 _ (nI 0) dX5_seek_40 (Nat.zero_le _) (Nat.zero_le _) hS (⟨mk, mn, ms, b0, ks, no, sl0, -1, ll, by rw [hR]; exact hM0, by rw [hR]; exact hP, by rw [hR]; exact hD, by rw [hR]; rfl, (by rw [hR]; intro q; cases q), fun _ => rfl⟩) (rfl)
  · refine lv_iconst (v := nI 1) hx hb (pc := 19) dX5_seek_19 (by decide) ?_
    refine lv_goto (tgt := 24) hx hb (pc := 20) dX5_seek_20 (by decide) ?_
    refine lv_aload_n hx hb (pc := 24) dX5_seek_24 rfl (lv_at hl 2 rfl) ?_
    refine va_get (v := .int (nI alb)) hx hb hts (inX5_seek_1) hown hKK.1 (rr_ro (A := A) hGb hGbA hS) 0 rfl rfl 3 (by decide) (hts _ (List.mem_of_getElem? (i := 3) (by decide +kernel))) (fun _ h9 => h9) rfl (pc := 25) dX5_seek_25 ?_
    refine nv_if_ne (a := alb) (tgt := 35) hx hb (pc := 28) dX5_seek_28 (by decide) (by omega) (fun c28 => ?_) (fun c28 => ?_)
    · refine lv_iconst (v := nI 0) hx hb (pc := 35) dX5_seek_35 (by decide) ?_
      refine nv_icmp_eq (a := 1) (b := 0) (tgt := 41) hx hb (pc := 36) dX5_seek_36 (by decide) (by decide) (by decide) (fun h => absurd h (by decide)) (fun _ => ?_)
      refine lv_iconst (v := nI 0) hx hb (pc := 39) dX5_seek_39 (by decide) ?_
      have hR : (skP k na nb Ea Eb ala alb cap) = ((4, 0, 0), ([], [], cap)) := by unfold skP; rw [if_pos (by first | exact rr_ne1 c16 c28 | exact rr_ne2 c16 c28)]
      exact hret.1 _ _ 0 0 40 _ (nI 0) dX5_seek_40 (Nat.zero_le _) (Nat.zero_le _) hS (⟨mk, mn, ms, b0, ks, no, sl0, -1, ll, by rw [hR]; exact hM0, by rw [hR]; exact hP, by rw [hR]; exact hD, by rw [hR]; rfl, (by rw [hR]; intro q; cases q), fun _ => rfl⟩) (rfl)
    · refine lv_iconst (v := nI 1) hx hb (pc := 31) dX5_seek_31 (by decide) ?_
      refine lv_goto (tgt := 36) hx hb (pc := 32) dX5_seek_32 (by decide) ?_
      refine nv_icmp_eq (a := 1) (b := 1) (tgt := 41) hx hb (pc := 36) dX5_seek_36 (by decide) (by decide) (by decide) (fun _ => ?_) (fun h => absurd h (by decide))
      have hR0 : (skP k na nb Ea Eb ala alb cap) = pgo (ldS k na Ea ala) (ldS k nb Eb alb) k 130000 0 0 [ala <<< 16 ||| alb] [0] (capN cap 0) := by unfold skP; rw [if_neg (by first | exact rr_eq1 c16 c28 | exact rr_eq2 c16 c28)]
      have hcF : capN cap 0 ≤ (skP k na nb Ea Eb ala alb cap).2.2.2 := by rw [hR0]; exact pgo_cap _ _ _ _ _ _ _ _ _
      have hpk : ala <<< 16 ||| alb < 2 ^ 32 := pk16_lt (by omega) (by omega)
      refine lv_aload_n hx hb (pc := 41) dX5_seek_41 rfl (lv_at hl 0 rfl) ?_
      refine va_get (v := .ref mo) hx hb hts (inX5_seek_5) hown hKK.1 hP 0 rfl rfl 0 (by decide) (hts _ (List.mem_of_getElem? (i := 1) (by decide +kernel))) (fun _ h9 => h9) rfl (pc := 42) dX5_seek_42 ?_
      refine lv_aload_n hx hb (pc := 45) dX5_seek_45 rfl (lv_at hl 1 rfl) ?_
      refine va_get (v := .int (nI ala)) hx hb hts (inX5_seek_1) hown hKK.1 (rr_ro (A := A) hGa hGaA hS) 0 rfl rfl 3 (by decide) (hts _ (List.mem_of_getElem? (i := 3) (by decide +kernel))) (fun _ h9 => h9) rfl (pc := 46) dX5_seek_46 ?_
      refine lv_bipush (v := nI 16) hx hb (pc := 49) dX5_seek_49 (by decide) ?_
      refine nv_ishl (a := ala) (b := 16) hx hb (pc := 51) dX5_seek_51 (by omega) ?_
      refine lv_aload_n hx hb (pc := 52) dX5_seek_52 rfl (lv_at hl 2 rfl) ?_
      refine va_get (v := .int (nI alb)) hx hb hts (inX5_seek_1) hown hKK.1 (rr_ro (A := A) hGb hGbA hS) 0 rfl rfl 3 (by decide) (hts _ (List.mem_of_getElem? (i := 3) (by decide +kernel))) (fun _ h9 => h9) rfl (pc := 53) dX5_seek_53 ?_
      refine nv_ior (a := (ala <<< 16)) (b := alb) hx hb (pc := 56) dX5_seek_56 ?_
      have hPc := hP.sub (ws' := MW3 K mo mk mn ms 0 b0 cap ks no sl0) [1, 2, 3, 4] rfl
      have hDc := (hD.sub (ws' := MW3 K mo mk mn ms 0 b0 cap ks no sl0) [1, 2, 3, 4] (by decide) rfl).self (sz := H.size)
      have hFc := va_free (wc := MW3 K mo mk mn ms 0 b0 cap ks no sl0) hD hS hA [1, 2, 3, 4] rfl
      refine rr_callR (pc := 57) (va_runV (As := [.int (nI ((ala <<< 16) ||| alb))]) (rest := []) ⟨hx, hb, hml, hown, hts⟩ (c_X3_placeOf l K (va_A (MW3 K mo mk mn ms 0 b0 cap ks no sl0) H.size) H.size mo mk mn ms b0 cap ks no sl0 [] [] (nI (ala <<< 16 ||| alb)) hM0 (by decide) (fun q h => Or.inr h) hDc) (cwV 1 hts gX5_seek_X3_placeOf rfl rfl rfl (by decide +kernel) ⟨Nat.le_of_ble_eq_true rfl, Nat.le_of_ble_eq_true rfl⟩) (rr_preV hKK (⟨rfl, hPc⟩) (va_recv hKK.1 hP (ci := 3) (q0 := 1) rfl rfl)) rfl rfl hl.1 rfl (lv_room (Nat.le_of_ble_eq_true rfl)) dX5_seek_57 ⟨by show 0 + (capN cap 0 - cap) ≤ (skP k na nb Ea Eb ala alb cap).2.2.2 - cap; omega, by show 0 + 8 * (capN cap 0 - cap) ≤ 8 * ((skP k na nb Ea Eb ala alb cap).2.2.2 - cap); omega⟩) hS (hFc) (fun v H locs hY hsz hfr hS => ?_)
      obtain ⟨mk1, mn1, ms1, b1, ks1, no1, sl1, hM1, hP1, hD1, rfl⟩ := hY
      rw [plK_nil, plN_nil] at hM1
      rw [plK_nil] at hP1 hD1
      obtain ⟨hP, hD⟩ := va_join (wr := [(po, .inr (5, [.ref mo, .int (-1), .int ll]))]) (w1 := [(mo, .inr (3, [.int (nI ([nI (ala <<< 16 ||| alb)].length)), .ref mk1, .ref mn1, .ref ms1, .int (nI b1)])), (mk1, .inl (K.2.1, (capN cap 0), .inl (ks1))), (mn1, .inl (K.2.1, (capN cap 0), .inl (fun j => nI (no1 j)))), (ms1, .inl (K.2.1, 2 * (capN cap 0), .inl (fun j => nI (sl1 j))))]) hP hD [1, 2, 3, 4] [0] rfl rfl (by decide) (by decide) hfr hFc hP1 hD1
      have hP : va_P K.1 vwCl ([(po, .inr (5, [.ref mo, .int (-1), .int ll])), (mo, .inr (3, [.int (nI ([nI (ala <<< 16 ||| alb)].length)), .ref mk1, .ref mn1, .ref ms1, .int (nI b1)])), (mk1, .inl (K.2.1, (capN cap 0), .inl (ks1))), (mn1, .inl (K.2.1, (capN cap 0), .inl (fun j => nI (no1 j)))), (ms1, .inl (K.2.1, 2 * (capN cap 0), .inl (fun j => nI (sl1 j))))]) H := hP
      have hD : va_D A ([(po, .inr (5, [.ref mo, .int (-1), .int ll])), (mo, .inr (3, [.int (nI ([nI (ala <<< 16 ||| alb)].length)), .ref mk1, .ref mn1, .ref ms1, .int (nI b1)])), (mk1, .inl (K.2.1, (capN cap 0), .inl (ks1))), (mn1, .inl (K.2.1, (capN cap 0), .inl (fun j => nI (no1 j)))), (ms1, .inl (K.2.1, 2 * (capN cap 0), .inl (fun j => nI (sl1 j))))]) := hD
      refine lv_pop hx hb (pc := 60) dX5_seek_60 rfl ?_
      refine lv_iconst (v := nI 0) hx hb (pc := 61) dX5_seek_61 (by decide) ?_
      refine lv_istore_n (lv' := [(3, .int (nI 0)), (0, .ref po), (1, .ref ga), (2, .ref gb)]) hx hb (pc := 62) dX5_seek_62 rfl hl (by decide) rfl (fun ls hl => ?_)
      have L63 : ∀ (fz : Nat) (pr : Nat) (kn1 : List Nat) (nt1 : List Nat) (cap1 : Nat) (mk1 : Nat) (mn1 : Nat) (ms1 : Nat) (b1 : Nat) (ks1 : Nat → Int32) (no1 : Nat → Nat) (sl1 : Nat → Nat) (ff1 : Nat) (H : Heap) (locs : List Loc) (hP : va_P K.1 vwCl (PT1 K po mo (-1) ll ++ MW3 K mo mk1 mn1 ms1 ((kn1.map nI).length) b1 cap1 ks1 no1 sl1) H) (hD : va_D A (PT1 K po mo (-1) ll ++ MW3 K mo mk1 mn1 ms1 ((kn1.map nI).length) b1 cap1 ks1 no1 sl1)) (hS : va_S A s.heap H locs) (hfz : 20001 - pr < fz) (hM1 : MInv (kn1.map nI) nt1 cap1 b1 ks1 no1 sl1) (hk1 : (∀ x ∈ kn1, x < 2 ^ 32 ∧ sub (x >>> 16) ala ∧ sub (x &&& 65535) alb)) (hl1 : kn1.length ≤ 20000) (hpr1 : pr ≤ 20000) (hg1 : (skP k na nb Ea Eb ala alb cap) = pgo (ldS k na Ea ala) (ldS k nb Eb alb) k ff1 pr 0 kn1 nt1 cap1) (hff1 : (20000 - pr) * 6 + (5 - 0) ≤ ff1) (hcc1 : cap ≤ cap1) (ls : Array Slot) (hl : lv_has ls 7 [(0, .ref po), (1, .ref ga), (2, .ref gb), (3, .int (nI pr))]), W p l e (rmX5_seek (((skP k na nb Ea Eb ala alb cap).2.2.2 - cap)) ((8 * ((skP k na nb Ea Eb ala alb cap).2.2.2 - cap)))) s m args below meth c H locs (cap1 - cap) (8 * (cap1 - cap)) Q (F0 m 63 ls []) := by
        intro fz; induction fz with
        | zero => intro pr kn1 nt1 cap1 mk1 mn1 ms1 b1 ks1 no1 sl1 ff1 H locs hP hD hS hfz hM1 hk1 hl1 hpr1 hg1 hff1 hcc1 ls hl; exact absurd hfz (Nat.not_lt_zero _)
        | succ fz ih63 =>
          intro pr kn1 nt1 cap1 mk1 mn1 ms1 b1 ks1 no1 sl1 ff1 H locs hP hD hS hfz hM1 hk1 hl1 hpr1 hg1 hff1 hcc1 ls hl
          have hlm1 : (kn1.map nI).length = kn1.length := List.length_map _
          refine lv_iload_n hx hb (pc := 63) dX5_seek_63 rfl (lv_at hl 3 rfl) ?_
          refine lv_aload_n hx hb (pc := 64) dX5_seek_64 rfl (lv_at hl 0 rfl) ?_
          refine va_get (v := .ref mo) hx hb hts (inX5_seek_5) hown hKK.1 hP 0 rfl rfl 0 (by decide) (hts _ (List.mem_of_getElem? (i := 1) (by decide +kernel))) (fun _ h9 => h9) rfl (pc := 65) dX5_seek_65 ?_
          refine va_get (v := .int (nI ((kn1.map nI).length))) hx hb hts (inX5_seek_3) hown hKK.1 hP 1 rfl rfl 0 (by decide) (hts _ (List.mem_of_getElem? (i := 4) (by decide +kernel))) (fun _ h9 => h9) rfl (pc := 68) dX5_seek_68 ?_
          refine nv_icmp_ge (a := pr) (b := ((kn1.map nI).length)) (tgt := 205) hx hb (pc := 71) dX5_seek_71 (by decide) (by omega) (by omega) (fun c71 => ?_) (fun c71 => ?_)
          · refine lv_iconst (v := nI 1) hx hb (pc := 205) dX5_seek_205 (by decide) ?_
            obtain ⟨f', rfl⟩ : ∃ f', ff1 = f' + 1 := ⟨ff1 - 1, by omega⟩
            rw [pgo_succ, if_neg (by omega)] at hg1
            exact hret.1 _ _ (cap1 - cap) (8 * (cap1 - cap)) 206 _ (nI 1) dX5_seek_206 (by rw [hg1]; exact Nat.le_refl _) (by rw [hg1]; exact Nat.le_refl _) hS (⟨mk1, mn1, ms1, b1, ks1, no1, sl1, -1, ll, by rw [hg1]; exact hM1, by rw [hg1]; exact hP, by rw [hg1]; exact hD, by rw [hg1]; rfl, (by rw [hg1]; intro q; cases q), (by rw [hg1]; intro q; cases q)⟩) (rfl)
          · refine lv_iload_n hx hb (pc := 74) dX5_seek_74 rfl (lv_at hl 3 rfl) ?_
            refine lv_sipush (v := nI 20000) hx hb (pc := 75) dX5_seek_75 (by decide) ?_
            refine nv_icmp_ge (a := pr) (b := 20000) (tgt := 205) hx hb (pc := 78) dX5_seek_78 (by decide) (by omega) (by omega) (fun c78 => ?_) (fun c78 => ?_)
            · refine lv_iconst (v := nI 1) hx hb (pc := 205) dX5_seek_205 (by decide) ?_
              obtain ⟨f', rfl⟩ : ∃ f', ff1 = f' + 1 := ⟨ff1 - 1, by omega⟩
              rw [pgo_succ, if_neg (by omega)] at hg1
              exact hret.1 _ _ (cap1 - cap) (8 * (cap1 - cap)) 206 _ (nI 1) dX5_seek_206 (by rw [hg1]; exact Nat.le_refl _) (by rw [hg1]; exact Nat.le_refl _) hS (⟨mk1, mn1, ms1, b1, ks1, no1, sl1, -1, ll, by rw [hg1]; exact hM1, by rw [hg1]; exact hP, by rw [hg1]; exact hD, by rw [hg1]; rfl, (by rw [hg1]; intro q; cases q), (by rw [hg1]; intro q; cases q)⟩) (rfl)
            · have hpr20 : pr < 20000 := by omega
              refine lv_iconst (v := nI 0) hx hb (pc := 81) dX5_seek_81 (by decide) ?_
              refine lv_istore (lv' := [(4, .int (nI 0)), (0, .ref po), (1, .ref ga), (2, .ref gb), (3, .int (nI pr))]) hx hb (pc := 82) dX5_seek_82 hl (by decide) rfl (fun ls hl => ?_)
              have L84 : ∀ (fz : Nat) (le : Nat) (kn2 : List Nat) (nt2 : List Nat) (cap2 : Nat) (mk2 : Nat) (mn2 : Nat) (ms2 : Nat) (b2 : Nat) (ks2 : Nat → Int32) (no2 : Nat → Nat) (sl2 : Nat → Nat) (ff2 : Nat) (H : Heap) (locs : List Loc) (hP : va_P K.1 vwCl (PT1 K po mo (-1) ll ++ MW3 K mo mk2 mn2 ms2 ((kn2.map nI).length) b2 cap2 ks2 no2 sl2) H) (hD : va_D A (PT1 K po mo (-1) ll ++ MW3 K mo mk2 mn2 ms2 ((kn2.map nI).length) b2 cap2 ks2 no2 sl2)) (hS : va_S A s.heap H locs) (hfz : k - le < fz) (hM2 : MInv (kn2.map nI) nt2 cap2 b2 ks2 no2 sl2) (hk2 : (∀ x ∈ kn2, x < 2 ^ 32 ∧ sub (x >>> 16) ala ∧ sub (x &&& 65535) alb)) (hl2 : kn2.length ≤ 20000) (hpr2 : pr ≤ 20000) (hg2 : (skP k na nb Ea Eb ala alb cap) = pgo (ldS k na Ea ala) (ldS k nb Eb alb) k ff2 pr le kn2 nt2 cap2) (hff2 : (20000 - pr) * 6 + (5 - le) ≤ ff2) (hcc2 : cap ≤ cap2) (hlt2 : pr < kn2.length) (hle2 : le ≤ k) (ls : Array Slot) (hl : lv_has ls 7 [(0, .ref po), (1, .ref ga), (2, .ref gb), (3, .int (nI pr)), (4, .int (nI le))]), W p l e (rmX5_seek (((skP k na nb Ea Eb ala alb cap).2.2.2 - cap)) ((8 * ((skP k na nb Ea Eb ala alb cap).2.2.2 - cap)))) s m args below meth c H locs (cap2 - cap) (8 * (cap2 - cap)) Q (F0 m 84 ls []) := by
                intro fz; induction fz with
                | zero => intro le kn2 nt2 cap2 mk2 mn2 ms2 b2 ks2 no2 sl2 ff2 H locs hP hD hS hfz hM2 hk2 hl2 hpr2 hg2 hff2 hcc2 hlt2 hle2 ls hl; exact absurd hfz (Nat.not_lt_zero _)
                | succ fz ih84 =>
                  intro le kn2 nt2 cap2 mk2 mn2 ms2 b2 ks2 no2 sl2 ff2 H locs hP hD hS hfz hM2 hk2 hl2 hpr2 hg2 hff2 hcc2 hlt2 hle2 ls hl
                  have hkp := hk2 _ (show kn2.getD pr 0 ∈ kn2 from by rw [getD_lt hlt2]; exact List.getElem_mem _)
                  have hkey : ks2 pr = nI (kn2.getD pr 0) := ks_map hM2 hlt2
                  have hcF2 : cap2 ≤ (skP k na nb Ea Eb ala alb cap).2.2.2 := by rw [hg2]; exact pgo_cap _ _ _ _ _ _ _ _ _
                  have hx16 : kn2.getD pr 0 >>> 16 < 65536 := Nat.lt_of_le_of_lt (sub_le hkp.2.1) (by omega)
                  have hy16 : kn2.getD pr 0 &&& 65535 < 65536 := Nat.lt_succ_of_le Nat.and_le_right
                  have hcell : cap2 - cap ≤ (skP k na nb Ea Eb ala alb cap).2.2.2 - cap := by omega
                  have hslot : 8 * (cap2 - cap) ≤ 8 * ((skP k na nb Ea Eb ala alb cap).2.2.2 - cap) := by omega
                  refine lv_iload hx hb (pc := 84) dX5_seek_84 (lv_at hl 4 rfl) ?_
                  refine lv_aload_n hx hb (pc := 86) dX5_seek_86 rfl (lv_at hl 1 rfl) ?_
                  refine va_get (v := .int (nI k)) hx hb hts (inX5_seek_1) hown hKK.1 (rr_ro (A := A) hGa hGaA hS) 0 rfl rfl 0 (by decide) (hts _ (List.mem_of_getElem? (i := 5) (by decide +kernel))) (fun _ h9 => h9) rfl (pc := 87) dX5_seek_87 ?_
                  refine nv_icmp_ge (a := le) (b := k) (tgt := 199) hx hb (pc := 90) dX5_seek_90 (by decide) (by omega) (by omega) (fun c90 => ?_) (fun c90 => ?_)
                  · refine lv_iinc (v := nI (pr + 1)) (lv' := [(3, .int (nI (pr + 1))), (0, .ref po), (1, .ref ga), (2, .ref gb), (4, .int (nI le))]) hx hb (pc := 199) dX5_seek_199 hl (k := 3) rfl (rr_inc _) (by decide) rfl (fun ls hl => ?_)
                    refine lv_goto (tgt := 63) hx hb (pc := 202) dX5_seek_202 (by decide) ?_
                    obtain ⟨f', rfl⟩ : ∃ f', ff2 = f' + 1 := ⟨ff2 - 1, by omega⟩
                    rw [pgo_succ, if_pos hlt2, if_neg (by omega)] at hg2
                    exact ih63 (pr + 1) kn2 nt2 cap2 mk2 mn2 ms2 b2 ks2 no2 sl2 f' _ _ hP hD hS (by omega) (hM2) (hk2) (by omega) (by omega) (hg2) (by omega) (by omega) ls (lv_sub hl [1, 2, 3, 0] rfl)
                  · have hx2 := c_X1_step l K ga ea ta k na gwa ala lwa Ea Ta (kn2.getD pr 0 >>> 16) le hx16 (by omega) hk4
                    rw [stp_eq hTa hna hkp.2.1 hala] at hx2
                    have hy2 := c_X1_step l K gb eb tb k nb gwb alb lwb Eb Tb (kn2.getD pr 0 &&& 65535) le hy16 (by omega) hk4
                    rw [stp_eq hTb hnb hkp.2.2 halb] at hy2
                    obtain ⟨f', rfl⟩ : ∃ f', ff2 = f' + 1 := ⟨ff2 - 1, by omega⟩
                    have hX16 : (ldS k na Ea ala (kn2.getD pr 0 >>> 16) le) < 65536 := Nat.lt_of_le_of_lt (sub_le (ldS_sub _ _ _ _ _ _)) (by omega)
                    have hY16 : (ldS k nb Eb alb (kn2.getD pr 0 &&& 65535) le) < 65536 := Nat.lt_of_le_of_lt (sub_le (ldS_sub _ _ _ _ _ _)) (by omega)
                    rw [pgo_succ, if_pos hlt2, if_pos c90] at hg2
                    refine lv_aload_n hx hb (pc := 93) dX5_seek_93 rfl (lv_at hl 1 rfl) ?_
                    refine lv_aload_n hx hb (pc := 94) dX5_seek_94 rfl (lv_at hl 0 rfl) ?_
                    refine va_get (v := .ref mo) hx hb hts (inX5_seek_5) hown hKK.1 hP 0 rfl rfl 0 (by decide) (hts _ (List.mem_of_getElem? (i := 1) (by decide +kernel))) (fun _ h9 => h9) rfl (pc := 95) dX5_seek_95 ?_
                    refine lv_iload_n hx hb (pc := 98) dX5_seek_98 rfl (lv_at hl 3 rfl) ?_
                    refine rr_callP (rv := .int (ks2 pr)) (pc := 99) (va_runV (As := [.int (nI pr)]) (rest := [.ref ga]) ⟨hx, hb, hml, hown, hts⟩ (c_X3_keyAt l K mo mk2 mn2 ms2 b2 cap2 ks2 no2 sl2 (kn2.map nI) nt2 pr hM2 (by rw [List.length_map]; omega)) (cwV 1 hts gX5_seek_X3_keyAt rfl rfl rfl (by decide +kernel) ⟨Nat.le_of_ble_eq_true rfl, Nat.le_of_ble_eq_true rfl⟩) (rr_preV hKK (rr_right hP) (va_recv hKK.1 hP (ci := 3) (q0 := 1) rfl rfl)) rfl rfl hl.1 rfl (lv_room (Nat.le_of_ble_eq_true rfl)) dX5_seek_99 ⟨hcell, hslot⟩) ?_
                    refine rr_top (v := .int (nI (kn2.getD pr 0))) (by rw [hkey]) ?_
                    refine lv_bipush (v := nI 16) hx hb (pc := 102) dX5_seek_102 (by decide) ?_
                    refine nv_iushr2 (a := (kn2.getD pr 0)) (b := 16) hx hb (pc := 104) dX5_seek_104 (hkp.1) (by omega) ?_
                    refine lv_iload hx hb (pc := 105) dX5_seek_105 (lv_at hl 4 rfl) ?_
                    refine rr_callP (rv := .int (nI ((ldS k na Ea ala (kn2.getD pr 0 >>> 16) le)))) (pc := 107) (va_runV (As := [.int (nI ((kn2.getD pr 0) >>> 16)), .int (nI le)]) (rest := []) ⟨hx, hb, hml, hown, hts⟩ (hx2) (cwV 2 hts gX5_seek_X1_step rfl rfl rfl (by decide +kernel) ⟨Nat.le_of_ble_eq_true rfl, Nat.le_of_ble_eq_true rfl⟩) (rr_preV hKK ((rr_ro (A := A) hGa hGaA hS)) (va_recv hKK.1 (rr_ro (A := A) hGa hGaA hS) (ci := 1) (q0 := 0) rfl rfl)) rfl rfl hl.1 rfl (lv_room (Nat.le_of_ble_eq_true rfl)) dX5_seek_107 ⟨hcell, hslot⟩) ?_
                    refine lv_istore (lv' := [(5, .int (nI ((ldS k na Ea ala (kn2.getD pr 0 >>> 16) le)))), (0, .ref po), (1, .ref ga), (2, .ref gb), (3, .int (nI pr)), (4, .int (nI le))]) hx hb (pc := 110) dX5_seek_110 hl (by decide) rfl (fun ls hl => ?_)
                    refine lv_aload_n hx hb (pc := 112) dX5_seek_112 rfl (lv_at hl 3 rfl) ?_
                    refine lv_aload_n hx hb (pc := 113) dX5_seek_113 rfl (lv_at hl 1 rfl) ?_
                    refine va_get (v := .ref mo) hx hb hts (inX5_seek_5) hown hKK.1 hP 0 rfl rfl 0 (by decide) (hts _ (List.mem_of_getElem? (i := 1) (by decide +kernel))) (fun _ h9 => h9) rfl (pc := 114) dX5_seek_114 ?_
                    refine lv_iload_n hx hb (pc := 117) dX5_seek_117 rfl (lv_at hl 4 rfl) ?_
                    refine rr_callP (rv := .int (ks2 pr)) (pc := 118) (va_runV (As := [.int (nI pr)]) (rest := [.ref gb]) ⟨hx, hb, hml, hown, hts⟩ (c_X3_keyAt l K mo mk2 mn2 ms2 b2 cap2 ks2 no2 sl2 (kn2.map nI) nt2 pr hM2 (by rw [List.length_map]; omega)) (cwV 1 hts gX5_seek_X3_keyAt rfl rfl rfl (by decide +kernel) ⟨Nat.le_of_ble_eq_true rfl, Nat.le_of_ble_eq_true rfl⟩) (rr_preV hKK (rr_right hP) (va_recv hKK.1 hP (ci := 3) (q0 := 1) rfl rfl)) rfl rfl hl.1 rfl (lv_room (Nat.le_of_ble_eq_true rfl)) dX5_seek_118 ⟨hcell, hslot⟩) ?_
                    refine rr_top (v := .int (nI (kn2.getD pr 0))) (by rw [hkey]) ?_
                    refine lv_ldc (v := nI 65535) hx hb (pc := 121) hown (hts _ (List.mem_of_getElem? (i := 6) (by decide +kernel))) dX5_seek_121 ?_
                    refine nv_iand (a := (kn2.getD pr 0)) (b := 65535) hx hb (pc := 123) dX5_seek_123 ?_
                    refine lv_iload hx hb (pc := 124) dX5_seek_124 (lv_at hl 5 rfl) ?_
                    refine rr_callP (rv := .int (nI ((ldS k nb Eb alb (kn2.getD pr 0 &&& 65535) le)))) (pc := 126) (va_runV (As := [.int (nI ((kn2.getD pr 0) &&& 65535)), .int (nI le)]) (rest := []) ⟨hx, hb, hml, hown, hts⟩ (hy2) (cwV 2 hts gX5_seek_X1_step rfl rfl rfl (by decide +kernel) ⟨Nat.le_of_ble_eq_true rfl, Nat.le_of_ble_eq_true rfl⟩) (rr_preV hKK ((rr_ro (A := A) hGb hGbA hS)) (va_recv hKK.1 (rr_ro (A := A) hGb hGbA hS) (ci := 1) (q0 := 0) rfl rfl)) rfl rfl hl.1 rfl (lv_room (Nat.le_of_ble_eq_true rfl)) dX5_seek_126 ⟨hcell, hslot⟩) ?_
                    refine lv_istore (lv' := [(6, .int (nI ((ldS k nb Eb alb (kn2.getD pr 0 &&& 65535) le)))), (5, .int (nI ((ldS k na Ea ala (kn2.getD pr 0 >>> 16) le)))), (0, .ref po), (1, .ref ga), (2, .ref gb), (3, .int (nI pr)), (4, .int (nI le))]) hx hb (pc := 129) dX5_seek_129 hl (by decide) rfl (fun ls hl => ?_)
                    refine lv_iload hx hb (pc := 131) dX5_seek_131 (lv_at hl 1 rfl) ?_
                    refine nv_if_ne (a := (ldS k na Ea ala (kn2.getD pr 0 >>> 16) le)) (tgt := 140) hx hb (pc := 133) dX5_seek_133 (by decide) (by omega) (fun c133 => ?_) (fun c133 => ?_)
                    · refine lv_iconst (v := nI 0) hx hb (pc := 140) dX5_seek_140 (by decide) ?_
                      refine lv_iload hx hb (pc := 141) dX5_seek_141 (lv_at hl 0 rfl) ?_
                      refine nv_if_ne (a := (ldS k nb Eb alb (kn2.getD pr 0 &&& 65535) le)) (tgt := 150) hx hb (pc := 143) dX5_seek_143 (by decide) (by omega) (fun c143 => ?_) (fun c143 => ?_)
                      · refine lv_iconst (v := nI 0) hx hb (pc := 150) dX5_seek_150 (by decide) ?_
                        refine nv_icmp_eq (a := 0) (b := 0) (tgt := 167) hx hb (pc := 151) dX5_seek_151 (by decide) (by decide) (by decide) (fun _ => ?_) (fun h => absurd h (by decide))
                        rw [if_neg (by first | exact rr_eq1 c133 c143 | exact rr_eq2 c133 c143)] at hg2
                        refine lv_iload hx hb (pc := 167) dX5_seek_167 (lv_at hl 1 rfl) ?_
                        refine nv_if_eq (a := (ldS k na Ea ala (kn2.getD pr 0 >>> 16) le)) (tgt := 193) hx hb (pc := 169) dX5_seek_169 (by decide) (by omega) (fun c169 => absurd c169 c133) (fun c169 => ?_)
                        refine lv_aload_n hx hb (pc := 172) dX5_seek_172 rfl (lv_at hl 2 rfl) ?_
                        rw [if_neg c169] at hg2
                        have hkey9 : ((ldS k na Ea ala (kn2.getD pr 0 >>> 16) le) <<< 16 ||| (ldS k nb Eb alb (kn2.getD pr 0 &&& 65535) le)) < 2 ^ 32 := pk16_lt hX16 hY16
                        have hcF3 : capN cap2 kn2.length ≤ (skP k na nb Ea Eb ala alb cap).2.2.2 := by
                          rw [hg2]
                          split
                          · exact Nat.le_refl _
                          · exact pgo_cap _ _ _ _ _ _ _ _ _
                        have hcN := capN_le cap2 kn2.length
                        refine lv_iload hx hb (pc := 173) dX5_seek_173 (lv_at hl 1 rfl) ?_
                        refine lv_bipush (v := nI 16) hx hb (pc := 175) dX5_seek_175 (by decide) ?_
                        refine nv_ishl (a := (ldS k na Ea ala (kn2.getD pr 0 >>> 16) le)) (b := 16) hx hb (pc := 177) dX5_seek_177 (by omega) ?_
                        refine lv_iload hx hb (pc := 178) dX5_seek_178 (lv_at hl 0 rfl) ?_
                        refine nv_ior (a := ((ldS k na Ea ala (kn2.getD pr 0 >>> 16) le) <<< 16)) (b := (ldS k nb Eb alb (kn2.getD pr 0 &&& 65535) le)) hx hb (pc := 180) dX5_seek_180 ?_
                        refine lv_iload_n hx hb (pc := 181) dX5_seek_181 rfl (lv_at hl 5 rfl) ?_
                        refine lv_iload hx hb (pc := 182) dX5_seek_182 (lv_at hl 6 rfl) ?_
                        refine rr_callR (pc := 184) (va_runV (As := [.int (nI (((ldS k na Ea ala (kn2.getD pr 0 >>> 16) le) <<< 16) ||| (ldS k nb Eb alb (kn2.getD pr 0 &&& 65535) le))), .int (nI pr), .int (nI le)]) (rest := []) ⟨hx, hb, hml, hown, hts⟩ (c_X5_isSpentBy l K A H.size po mo mk2 mn2 ms2 b2 cap2 ks2 no2 sl2 kn2 nt2 (-1) ll ((ldS k na Ea ala (kn2.getD pr 0 >>> 16) le) <<< 16 ||| (ldS k nb Eb alb (kn2.getD pr 0 &&& 65535) le)) pr le hM2 (fun x hx => (hk2 x hx).1) hkey9 hl2 (by omega) (by omega) (fun q h => hA q (Nat.le_trans hS.1 h)) hD) (cwV 3 hts gX5_seek_X5_isSpentBy rfl rfl rfl (by decide +kernel) ⟨Nat.le_of_ble_eq_true rfl, Nat.le_of_ble_eq_true rfl⟩) (rr_preV hKK (⟨rfl, hP⟩) (va_recv hKK.1 hP (ci := 5) (q0 := 0) rfl rfl)) rfl rfl hl.1 rfl (lv_room (Nat.le_of_ble_eq_true rfl)) dX5_seek_184 ⟨by show cap2 - cap + (capN cap2 kn2.length - cap2) ≤ (skP k na nb Ea Eb ala alb cap).2.2.2 - cap; omega, by show 8 * (cap2 - cap) + 8 * (capN cap2 kn2.length - cap2) ≤ 8 * ((skP k na nb Ea Eb ala alb cap).2.2.2 - cap); omega⟩) hS (fun _ h => h) (fun v H locs hY hsz hfr hS => ?_)
                        obtain ⟨mk3, mn3, ms3, b3, ks3, no3, sl3, hM3, hP, hD, rfl⟩ := hY
                        have hP : va_P K.1 vwCl (PT1 K po mo (-1) ll ++ MW3 K mo mk3 mn3 ms3 (((adK kn2 ((ldS k na Ea ala (kn2.getD pr 0 >>> 16) le) <<< 16 ||| (ldS k nb Eb alb (kn2.getD pr 0 &&& 65535) le))).map nI).length) b3 (capN cap2 kn2.length) ks3 no3 sl3) H := hP
                        refine nv_if_eq_b (a := (decide (20000 < (adK kn2 ((ldS k na Ea ala (kn2.getD pr 0 >>> 16) le) <<< 16 ||| (ldS k nb Eb alb (kn2.getD pr 0 &&& 65535) le))).length))) (tgt := 193) hx hb (pc := 187) dX5_seek_187 (by decide) (fun c187 => ?_) (fun c187 => ?_)
                        · have hns : ¬ 20000 < (adK kn2 ((ldS k na Ea ala (kn2.getD pr 0 >>> 16) le) <<< 16 ||| (ldS k nb Eb alb (kn2.getD pr 0 &&& 65535) le))).length := of_decide_eq_false c187
                          rw [if_neg hns] at hg2
                          have hk4 : (∀ x ∈ (adK kn2 ((ldS k na Ea ala (kn2.getD pr 0 >>> 16) le) <<< 16 ||| (ldS k nb Eb alb (kn2.getD pr 0 &&& 65535) le))), x < 2 ^ 32 ∧ sub (x >>> 16) ala ∧ sub (x &&& 65535) alb) := adK_all hk2 ⟨hkey9, by rw [pk16_hi hY16]; exact ldS_sub _ _ _ _ _ _, by rw [pk16_lo hY16]; exact ldS_sub _ _ _ _ _ _⟩
                          have hlt4 : pr < (adK kn2 ((ldS k na Ea ala (kn2.getD pr 0 >>> 16) le) <<< 16 ||| (ldS k nb Eb alb (kn2.getD pr 0 &&& 65535) le))).length := Nat.lt_of_lt_of_le hlt2 (adK_len _ _).1
                          refine W.widen (k := capN cap2 kn2.length - cap) (n := 8 * (capN cap2 kn2.length - cap)) (by omega) (by omega) ?_
                          refine lv_iinc (v := nI (le + 1)) (lv' := [(4, .int (nI (le + 1))), (6, .int (nI ((ldS k nb Eb alb (kn2.getD pr 0 &&& 65535) le)))), (5, .int (nI ((ldS k na Ea ala (kn2.getD pr 0 >>> 16) le)))), (0, .ref po), (1, .ref ga), (2, .ref gb), (3, .int (nI pr))]) hx hb (pc := 193) dX5_seek_193 hl (k := 6) rfl (rr_inc _) (by decide) rfl (fun ls hl => ?_)
                          refine lv_goto (tgt := 84) hx hb (pc := 196) dX5_seek_196 (by decide) ?_
                          exact ih84 (le + 1) (adK kn2 ((ldS k na Ea ala (kn2.getD pr 0 >>> 16) le) <<< 16 ||| (ldS k nb Eb alb (kn2.getD pr 0 &&& 65535) le))) (adN kn2 nt2 ((ldS k na Ea ala (kn2.getD pr 0 >>> 16) le) <<< 16 ||| (ldS k nb Eb alb (kn2.getD pr 0 &&& 65535) le)) (4 * pr + le)) (capN cap2 kn2.length) mk3 mn3 ms3 b3 ks3 no3 sl3 f' _ _ hP hD hS (by omega) (hM3) (hk4) (by omega) (by omega) (hg2) (by omega) (by first | omega | exact Nat.le_trans hcc2 (capN_le _ _)) (hlt4) (by omega) ls (lv_sub hl [3, 4, 5, 6, 0] rfl)
                        · refine lv_bipush (v := -5) hx hb (pc := 190) dX5_seek_190 (by decide) ?_
                          rw [if_pos (of_decide_eq_true c187)] at hg2
                          exact hret.1 _ _ (cap2 - cap + (capN cap2 kn2.length - cap2)) (8 * (cap2 - cap) + 8 * (capN cap2 kn2.length - cap2)) 192 _ (-5) dX5_seek_192 (by omega) (by omega) hS (⟨mk3, mn3, ms3, b3, ks3, no3, sl3, -1, ll, by rw [hg2]; exact hM3, by rw [hg2]; exact hP, by rw [hg2]; exact hD, by rw [hg2]; rfl, (by rw [hg2]; intro q; cases q), (by rw [hg2]; intro q; cases q)⟩) (rfl)
                      · refine lv_iconst (v := nI 1) hx hb (pc := 146) dX5_seek_146 (by decide) ?_
                        refine lv_goto (tgt := 151) hx hb (pc := 147) dX5_seek_147 (by decide) ?_
                        refine nv_icmp_eq (a := 0) (b := 1) (tgt := 167) hx hb (pc := 151) dX5_seek_151 (by decide) (by decide) (by decide) (fun h => absurd h (by decide)) (fun _ => ?_)
                        refine lv_aload_n hx hb (pc := 154) dX5_seek_154 rfl (lv_at hl 2 rfl) ?_
                        refine lv_iload_n hx hb (pc := 155) dX5_seek_155 rfl (lv_at hl 5 rfl) ?_
                        refine rr_put (v := .int (nI pr)) (ty := tyX5 1) (ws' := PT1 K po mo (nI pr) ll ++ MW3 K mo mk2 mn2 ms2 ((kn2.map nI).length) b2 cap2 ks2 no2 sl2) hx hb hts (inX5_seek_5) tyX5 tyX5_ok nmX5 hown hKK.1 hP hD hS 0 rfl rfl 1 (by decide) (hts _ (List.mem_of_getElem? (i := 2) (by decide +kernel))) (fun _ h9 => h9) rfl (tyX5_ok 1 (by decide)) rfl rfl (Nat.le_of_ble_eq_true rfl) rfl (pc := 156) dX5_seek_156 (fun H locs hP hD hS => ?_)
                        refine lv_aload_n hx hb (pc := 159) dX5_seek_159 rfl (lv_at hl 2 rfl) ?_
                        refine lv_iload hx hb (pc := 160) dX5_seek_160 (lv_at hl 6 rfl) ?_
                        refine rr_put (v := .int (nI le)) (ty := tyX5 2) (ws' := PT1 K po mo (nI pr) (nI le) ++ MW3 K mo mk2 mn2 ms2 ((kn2.map nI).length) b2 cap2 ks2 no2 sl2) hx hb hts (inX5_seek_5) tyX5 tyX5_ok nmX5 hown hKK.1 hP hD hS 0 rfl rfl 2 (by decide) (hts _ (List.mem_of_getElem? (i := 7) (by decide +kernel))) (fun _ h9 => h9) rfl (tyX5_ok 2 (by decide)) rfl rfl (Nat.le_of_ble_eq_true rfl) rfl (pc := 162) dX5_seek_162 (fun H locs hP hD hS => ?_)
                        refine lv_iconst (v := nI 0) hx hb (pc := 165) dX5_seek_165 (by decide) ?_
                        rw [if_pos (by first | exact rr_ne1 c133 c143 | exact rr_ne2 c133 c143)] at hg2
                        exact hret.1 _ _ (cap2 - cap) (8 * (cap2 - cap)) 166 _ (nI 0) dX5_seek_166 (hcell) (hslot) hS (⟨mk2, mn2, ms2, b2, ks2, no2, sl2, nI pr, nI le, by rw [hg2]; exact hM2, by rw [hg2]; exact hP, by rw [hg2]; exact hD, by rw [hg2]; rfl, by rw [hg2]; exact fun _ => ⟨rfl, rfl⟩, (by rw [hg2]; intro q; cases q)⟩) (rfl)
                    · refine lv_iconst (v := nI 1) hx hb (pc := 136) dX5_seek_136 (by decide) ?_
                      refine lv_goto (tgt := 141) hx hb (pc := 137) dX5_seek_137 (by decide) ?_
                      refine lv_iload hx hb (pc := 141) dX5_seek_141 (lv_at hl 0 rfl) ?_
                      refine nv_if_ne (a := (ldS k nb Eb alb (kn2.getD pr 0 &&& 65535) le)) (tgt := 150) hx hb (pc := 143) dX5_seek_143 (by decide) (by omega) (fun c143 => ?_) (fun c143 => ?_)
                      · refine lv_iconst (v := nI 0) hx hb (pc := 150) dX5_seek_150 (by decide) ?_
                        refine nv_icmp_eq (a := 1) (b := 0) (tgt := 167) hx hb (pc := 151) dX5_seek_151 (by decide) (by decide) (by decide) (fun h => absurd h (by decide)) (fun _ => ?_)
                        refine lv_aload_n hx hb (pc := 154) dX5_seek_154 rfl (lv_at hl 2 rfl) ?_
                        refine lv_iload_n hx hb (pc := 155) dX5_seek_155 rfl (lv_at hl 5 rfl) ?_
                        refine rr_put (v := .int (nI pr)) (ty := tyX5 1) (ws' := PT1 K po mo (nI pr) ll ++ MW3 K mo mk2 mn2 ms2 ((kn2.map nI).length) b2 cap2 ks2 no2 sl2) hx hb hts (inX5_seek_5) tyX5 tyX5_ok nmX5 hown hKK.1 hP hD hS 0 rfl rfl 1 (by decide) (hts _ (List.mem_of_getElem? (i := 2) (by decide +kernel))) (fun _ h9 => h9) rfl (tyX5_ok 1 (by decide)) rfl rfl (Nat.le_of_ble_eq_true rfl) rfl (pc := 156) dX5_seek_156 (fun H locs hP hD hS => ?_)
                        refine lv_aload_n hx hb (pc := 159) dX5_seek_159 rfl (lv_at hl 2 rfl) ?_
                        refine lv_iload hx hb (pc := 160) dX5_seek_160 (lv_at hl 6 rfl) ?_
                        refine rr_put (v := .int (nI le)) (ty := tyX5 2) (ws' := PT1 K po mo (nI pr) (nI le) ++ MW3 K mo mk2 mn2 ms2 ((kn2.map nI).length) b2 cap2 ks2 no2 sl2) hx hb hts (inX5_seek_5) tyX5 tyX5_ok nmX5 hown hKK.1 hP hD hS 0 rfl rfl 2 (by decide) (hts _ (List.mem_of_getElem? (i := 7) (by decide +kernel))) (fun _ h9 => h9) rfl (tyX5_ok 2 (by decide)) rfl rfl (Nat.le_of_ble_eq_true rfl) rfl (pc := 162) dX5_seek_162 (fun H locs hP hD hS => ?_)
                        refine lv_iconst (v := nI 0) hx hb (pc := 165) dX5_seek_165 (by decide) ?_
                        rw [if_pos (by first | exact rr_ne1 c133 c143 | exact rr_ne2 c133 c143)] at hg2
                        exact hret.1 _ _ (cap2 - cap) (8 * (cap2 - cap)) 166 _ (nI 0) dX5_seek_166 (hcell) (hslot) hS (⟨mk2, mn2, ms2, b2, ks2, no2, sl2, nI pr, nI le, by rw [hg2]; exact hM2, by rw [hg2]; exact hP, by rw [hg2]; exact hD, by rw [hg2]; rfl, by rw [hg2]; exact fun _ => ⟨rfl, rfl⟩, (by rw [hg2]; intro q; cases q)⟩) (rfl)
                      · refine lv_iconst (v := nI 1) hx hb (pc := 146) dX5_seek_146 (by decide) ?_
                        refine lv_goto (tgt := 151) hx hb (pc := 147) dX5_seek_147 (by decide) ?_
                        refine nv_icmp_eq (a := 1) (b := 1) (tgt := 167) hx hb (pc := 151) dX5_seek_151 (by decide) (by decide) (by decide) (fun _ => ?_) (fun h => absurd h (by decide))
                        rw [if_neg (by first | exact rr_eq1 c133 c143 | exact rr_eq2 c133 c143)] at hg2
                        refine lv_iload hx hb (pc := 167) dX5_seek_167 (lv_at hl 1 rfl) ?_
                        refine nv_if_eq (a := (ldS k na Ea ala (kn2.getD pr 0 >>> 16) le)) (tgt := 193) hx hb (pc := 169) dX5_seek_169 (by decide) (by omega) (fun c169 => ?_) (fun c169 => absurd c133 c169)
                        rw [if_pos c169] at hg2
                        refine lv_iinc (v := nI (le + 1)) (lv' := [(4, .int (nI (le + 1))), (6, .int (nI ((ldS k nb Eb alb (kn2.getD pr 0 &&& 65535) le)))), (5, .int (nI ((ldS k na Ea ala (kn2.getD pr 0 >>> 16) le)))), (0, .ref po), (1, .ref ga), (2, .ref gb), (3, .int (nI pr))]) hx hb (pc := 193) dX5_seek_193 hl (k := 6) rfl (rr_inc _) (by decide) rfl (fun ls hl => ?_)
                        refine lv_goto (tgt := 84) hx hb (pc := 196) dX5_seek_196 (by decide) ?_
                        exact ih84 (le + 1) kn2 nt2 cap2 mk2 mn2 ms2 b2 ks2 no2 sl2 f' _ _ hP hD hS (by omega) (hM2) (hk2) (hl2) (by omega) (hg2) (by omega) (by first | omega | exact Nat.le_trans hcc2 (capN_le _ _)) (hlt2) (by omega) ls (lv_sub hl [3, 4, 5, 6, 0] rfl)
              exact L84 (5) 0 kn1 nt1 cap1 mk1 mn1 ms1 b1 ks1 no1 sl1 ff1 _ _ hP hD hS (by omega) (hM1) (hk1) (by omega) (by omega) (hg1) (by omega) (by omega) (by omega) (Nat.zero_le _) ls (lv_sub hl [1, 2, 3, 4, 0] rfl)
      have hc00 : capN cap ([] : List Int32).length = capN cap 0 := rfl
      refine W.widen (k := capN cap 0 - cap) (n := 8 * (capN cap 0 - cap)) (by omega) (by omega) ?_
      exact L63 (20002) 0 ([ala <<< 16 ||| alb]) ([0]) (capN cap 0) mk1 mn1 ms1 b1 ks1 no1 sl1 130000 _ _ hP hD hS (by omega) (hM1) (by intro x hx; rw [List.mem_singleton.mp hx, pk16_hi (by omega), pk16_lo (by omega)]; exact ⟨hpk, sub_refl _, sub_refl _⟩) (Nat.le_of_ble_eq_true rfl) (by decide) (hR0) (by decide) (by omega) ls (lv_sub hl [1, 2, 3, 0] rfl)

