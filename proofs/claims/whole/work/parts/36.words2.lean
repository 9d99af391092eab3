abbrev rmX9_power : Room := { frames := 0, cells := 0, slots := 0, locals := 0 }
set_option maxHeartbeats 4000000 in
set_option maxRecDepth 100000 in
theorem c_X9_power (l : Launch) (K : rr_K) (bs ex : Nat) (hbs : bs ≤ 4) (hex : ex ≤ 8) : MetP l K yX9_power wsX9_power rmX9_power [.int (nI bs), .int (nI ex)] (fun H => True) (.int (nI (bs ^ ex))) := by
  refine metP_of (cc := cX9_power) (maxL := 4) (ret := (some .int)) (rt := .int) (by decide) rfl rfl (Nat.le_of_ble_eq_true rfl) ?_
  intro p e s m args below meth c Q ls hEnt hKK hX hret hl
  obtain ⟨hx, hb, hml, hown, hts⟩ := hEnt
  have hl : lv_has ls 4 [(0, .int (nI bs)), (1, .int (nI ex))] := hl
  refine lv_iconst (v := nI 1) hx hb (pc := 0) dX9_power_0 (by decide) ?_
  refine lv_istore_n (lv' := [(2, .int (nI 1)), (0, .int (nI bs)), (1, .int (nI ex))]) hx hb (pc := 1) dX9_power_1 rfl hl (by decide) rfl (fun ls hl => ?_)
  refine lv_iconst (v := nI 0) hx hb (pc := 2) dX9_power_2 (by decide) ?_
  refine lv_istore_n (lv' := [(3, .int (nI 0)), (2, .int (nI 1)), (0, .int (nI bs)), (1, .int (nI ex))]) hx hb (pc := 3) dX9_power_3 rfl hl (by decide) rfl (fun ls hl => ?_)
  have L4 : ∀ (fz : Nat) (i : Nat) (hfz : ex - i < fz) (hi : i ≤ ex) (ls : Array Slot) (hl : lv_has ls 4 [(0, .int (nI bs)), (1, .int (nI ex)), (2, .int (nI (bs ^ i))), (3, .int (nI i))]), W p l e rmX9_power s m args below meth c s.heap [] 0 0 Q (F0 m 4 ls []) := by
    intro fz; induction fz with
    | zero => intro i hfz hi ls hl; exact absurd hfz (Nat.not_lt_zero _)
    | succ fz ih4 =>
      intro i hfz hi ls hl
      refine lv_iload_n hx hb (pc := 4) dX9_power_4 rfl (lv_at hl 3 rfl) ?_
      refine lv_iload_n hx hb (pc := 5) dX9_power_5 rfl (lv_at hl 1 rfl) ?_
      refine nv_icmp_ge (a := i) (b := ex) (tgt := 19) hx hb (pc := 6) dX9_power_6 (by decide) (by omega) (by omega) (fun c6 => ?_) (fun c6 => ?_)
      · refine lv_iload_n hx hb (pc := 19) dX9_power_19 rfl (lv_at hl 2 rfl) ?_
        obtain rfl : i = ex := by omega
        exact hret.1 20 _ (nI (bs ^ i)) dX9_power_20 (rfl) (rfl)
      · refine lv_iload_n hx hb (pc := 9) dX9_power_9 rfl (lv_at hl 2 rfl) ?_
        refine lv_iload_n hx hb (pc := 10) dX9_power_10 rfl (lv_at hl 0 rfl) ?_
        refine nv_imul (a := (bs ^ i)) (b := bs) hx hb (pc := 11) dX9_power_11 ?_
        refine lv_istore_n (lv' := [(2, .int (nI ((bs ^ i) * bs))), (0, .int (nI bs)), (1, .int (nI ex)), (3, .int (nI i))]) hx hb (pc := 12) dX9_power_12 rfl hl (by decide) rfl (fun ls hl => ?_)
        refine lv_iinc (v := nI (i + 1)) (lv' := [(3, .int (nI (i + 1))), (2, .int (nI ((bs ^ i) * bs))), (0, .int (nI bs)), (1, .int (nI ex))]) hx hb (pc := 13) dX9_power_13 hl (k := 3) rfl (rr_inc _) (by decide) rfl (fun ls hl => ?_)
        refine lv_goto (tgt := 4) hx hb (pc := 16) dX9_power_16 (by decide) ?_
        exact ih4 (i + 1) (by omega) (by omega) ls (lv_sub hl [2, 3, 1, 0] rfl)
  exact L4 (ex + 1) 0 (by omega) (Nat.zero_le _) ls (lv_sub hl [2, 3, 1, 0] rfl)

abbrev rmX9_commonDivisor : Room := { frames := 0, cells := 0, slots := 0, locals := 0 }
set_option maxHeartbeats 4000000 in
set_option maxRecDepth 100000 in
theorem c_X9_commonDivisor (l : Launch) (K : rr_K) (aa bb : Nat) (haa : aa < 2 ^ 63) (hbb : bb < 2 ^ 63) : MetP l K yX9_commonDivisor wsX9_commonDivisor rmX9_commonDivisor [.long (lN (aa)), .long (lN (bb))] (fun H => True) (.long (lN (Nat.gcd aa bb))) := by
  refine metP_of (cc := cX9_commonDivisor) (maxL := 11) (ret := (some .long)) (rt := .long) (by decide) rfl rfl (Nat.le_of_ble_eq_true rfl) ?_
  intro p e s m args below meth c Q ls hEnt hKK hX hret hl
  obtain ⟨hx, hb, hml, hown, hts⟩ := hEnt
  have hl : lv_has ls 11 [(0, .long (lN (aa))), (2, .long (lN (bb)))] := hl
  refine lv_lload_n hx hb (pc := 0) dX9_commonDivisor_0 rfl (lv_at hl 0 rfl) ?_
  refine lv_lstore (lv' := [(4, .long (lN (aa))), (0, .long (lN (aa))), (2, .long (lN (bb)))]) hx hb (pc := 1) dX9_commonDivisor_1 hl (by decide) rfl (fun ls hl => ?_)
  refine lv_lload_n hx hb (pc := 3) dX9_commonDivisor_3 rfl (lv_at hl 2 rfl) ?_
  refine lv_lstore (lv' := [(6, .long (lN (bb))), (4, .long (lN (aa))), (0, .long (lN (aa))), (2, .long (lN (bb)))]) hx hb (pc := 4) dX9_commonDivisor_4 hl (by decide) rfl (fun ls hl => ?_)
  refine lv_iconst (v := nI 0) hx hb (pc := 6) dX9_commonDivisor_6 (by decide) ?_
  refine lv_istore (lv' := [(8, .int (nI 0)), (6, .long (lN (bb))), (4, .long (lN (aa))), (0, .long (lN (aa))), (2, .long (lN (bb)))]) hx hb (pc := 7) dX9_commonDivisor_7 hl (by decide) rfl (fun ls hl => ?_)
  have L9 : ∀ (fz : Nat) (x : Nat) (y : Nat) (i : Nat) (hfz : 100 - i < fz) (hi : i ≤ 100) (hx9 : x < 2 ^ 63) (hy9 : y < 2 ^ 63) (hg : Nat.gcd x y = Nat.gcd aa bb) (hr : ∀ m, eRun m x y → eRun (m + i) aa bb) (ls : Array Slot) (hl : lv_has ls 11 [(4, .long (lN (x))), (6, .long (lN (y))), (8, .int (nI i))]), W p l e rmX9_commonDivisor s m args below meth c s.heap [] 0 0 Q (F0 m 9 ls []) := by
    intro fz; induction fz with
    | zero => intro x y i hfz hi hx9 hy9 hg hr ls hl; exact absurd hfz (Nat.not_lt_zero _)
    | succ fz ih9 =>
      intro x y i hfz hi hx9 hy9 hg hr ls hl
      refine lv_iload hx hb (pc := 9) dX9_commonDivisor_9 (lv_at hl 2 rfl) ?_
      refine lv_bipush (v := nI 100) hx hb (pc := 11) dX9_commonDivisor_11 (by decide) ?_
      refine nv_icmp_ge (a := i) (b := 100) (tgt := 44) hx hb (pc := 13) dX9_commonDivisor_13 (by decide) (by omega) (by omega) (fun c13 => ?_) (fun c13 => ?_)
      · refine lv_lload hx hb (pc := 44) dX9_commonDivisor_44 (lv_at hl 0 rfl) ?_
        have hy0 : y = 0 := by
          first
          | omega
          | exact absurd (show eRun 100 aa bb from by have h9 := hr 0 trivial; rwa [show 0 + i = 100 by omega] at h9) (eRun_100 haa hbb)
        exact hret.2.1 46 _ (lN x) dX9_commonDivisor_46 (by rw [← hg, hy0, Nat.gcd_zero_right]) rfl
      · refine lv_lload hx hb (pc := 16) dX9_commonDivisor_16 (lv_at hl 1 rfl) ?_
        refine lv_lconst (v := lN 0) hx hb (pc := 18) dX9_commonDivisor_18 (by decide) ?_
        refine nv_lcmp_eq (a := y) (b := 0) (tgt := 44) hx hb (pc := 19) dX9_commonDivisor_19 dX9_commonDivisor_20 (by decide) (by omega) (by omega) (fun c19 => ?_) (fun c19 => ?_)
        · refine lv_lload hx hb (pc := 44) dX9_commonDivisor_44 (lv_at hl 0 rfl) ?_
          have hy0 : y = 0 := by
            first
            | omega
            | exact absurd (show eRun 100 aa bb from by have h9 := hr 0 trivial; rwa [show 0 + i = 100 by omega] at h9) (eRun_100 haa hbb)
          exact hret.2.1 46 _ (lN x) dX9_commonDivisor_46 (by rw [← hg, hy0, Nat.gcd_zero_right]) rfl
        · refine lv_lload hx hb (pc := 23) dX9_commonDivisor_23 (lv_at hl 0 rfl) ?_
          refine lv_lload hx hb (pc := 25) dX9_commonDivisor_25 (lv_at hl 1 rfl) ?_
          refine nv_lrem (a := x) (b := y) hx hb (pc := 27) dX9_commonDivisor_27 (by omega) (by omega) (by omega) ?_
          refine lv_lstore (lv' := [(9, .long (lN (x % y))), (4, .long (lN (x))), (6, .long (lN (y))), (8, .int (nI i))]) hx hb (pc := 28) dX9_commonDivisor_28 hl (by decide) rfl (fun ls hl => ?_)
          refine lv_lload hx hb (pc := 30) dX9_commonDivisor_30 (lv_at hl 2 rfl) ?_
          refine lv_lstore (lv' := [(4, .long (lN (y))), (9, .long (lN (x % y))), (6, .long (lN (y))), (8, .int (nI i))]) hx hb (pc := 32) dX9_commonDivisor_32 hl (by decide) rfl (fun ls hl => ?_)
          refine lv_lload hx hb (pc := 34) dX9_commonDivisor_34 (lv_at hl 1 rfl) ?_
          refine lv_lstore (lv' := [(6, .long (lN (x % y))), (4, .long (lN (y))), (9, .long (lN (x % y))), (8, .int (nI i))]) hx hb (pc := 36) dX9_commonDivisor_36 hl (by decide) rfl (fun ls hl => ?_)
          refine lv_iinc (v := nI (i + 1)) (lv' := [(8, .int (nI (i + 1))), (6, .long (lN (x % y))), (4, .long (lN (y))), (9, .long (lN (x % y)))]) hx hb (pc := 38) dX9_commonDivisor_38 hl (k := 3) rfl (rr_inc _) (by decide) rfl (fun ls hl => ?_)
          refine lv_goto (tgt := 9) hx hb (pc := 41) dX9_commonDivisor_41 (by decide) ?_
          exact ih9 y (x % y) (i + 1) (by omega) (by omega) (hy9) (by have := Nat.mod_lt x (show 0 < y by omega); omega) (by rw [← hg, Nat.gcd_comm x y, Nat.gcd_rec y x, Nat.gcd_comm]) (fun m h => by have := hr (m + 1) ⟨by omega, h⟩; rwa [show m + (i + 1) = m + 1 + i by omega]) ls (lv_sub hl [2, 1, 0] rfl)
  exact L9 (101) aa bb 0 (by omega) (Nat.zero_le _) (haa) (hbb) (rfl) (fun m h => h) ls (lv_sub hl [2, 1, 0] rfl)

abbrev rmX8_lasts : Room := { frames := 1, cells := 0, slots := 0, locals := 23 }
theorem inX8_lasts_1 : ∀ w ∈ wsX10, w ∈ wsX8_lasts := fun _ h => List.mem_cons_of_mem _ (List.mem_append_left _ (List.mem_append_right _ h))
theorem inX8_lasts_8 : ∀ w ∈ wsX80, w ∈ wsX8_lasts := fun _ h => List.mem_cons_of_mem _ (List.mem_append_right _ h)
set_option maxHeartbeats 4000000 in
set_option maxRecDepth 100000 in
theorem c_X8_lasts (l : Launch) (K : rr_K) (wo mo bh my lg rw ld room : Nat) (bF : Nat → Int32) (yF gF : Nat → Int64) (wF dF : Nat → Nat) (go ge gt k n gw al lw : Nat) (E T : Nat → Nat) (nn : Nat) (hk4 : k ≤ 4) (hn : n ≤ 16) (hal : al < 2 ^ n) (hT : TInv k n al E T) (hnn : nn ≤ 7) (hwF : ∀ j, j < nn → wF j < k) (hdF : sub (dF nn) al) : MetP l K yX8_lasts wsX8_lasts rmX8_lasts [.ref wo, .ref go, .int (nI nn)] (fun H => va_P K.1 vwCl (WW3 K wo mo bh my lg rw ld room bF yF gF wF dF) H ∧ va_P K.1 vwCl (GW K go ge gt k n gw al lw E T) H) (.int (bI (decide (lsGo (ldS k n E al) wF nn 16 al (dF nn) ≠ 0)))) := by
  refine metP_of (cc := cX8_lasts) (maxL := 7) (ret := (some .boolean)) (rt := .boolean) (by decide) rfl rfl (Nat.le_of_ble_eq_true rfl) ?_
  intro p e s m args below meth c Q ls hEnt hKK hX hret hl
  obtain ⟨hx, hb, hml, hown, hts⟩ := hEnt
  obtain ⟨hP, hG⟩ := hX
  have hl : lv_has ls 7 [(0, .ref wo), (1, .ref go), (2, .int (nI nn))] := hl
  have pa : 2 ^ n ≤ 65536 := Nat.le_trans (Nat.pow_le_pow_right (by decide) hn) (by decide)
  have hd16 := sub_le hdF
  refine lv_aload_n hx hb (pc := 0) dX8_lasts_0 rfl (lv_at hl 1 rfl) ?_
  refine va_get (v := .int (nI al)) hx hb hts (inX8_lasts_1) hown hKK.1 hG 0 rfl rfl 3 (by decide) (hts _ (List.mem_of_getElem? (i := 1) (by decide +kernel))) (fun _ h9 => h9) rfl (pc := 1) dX8_lasts_1 ?_
  refine lv_istore_n (lv' := [(3, .int (nI al)), (0, .ref wo), (1, .ref go), (2, .int (nI nn))]) hx hb (pc := 4) dX8_lasts_4 rfl hl (by decide) rfl (fun ls hl => ?_)
  refine lv_aload_n hx hb (pc := 5) dX8_lasts_5 rfl (lv_at hl 1 rfl) ?_
  refine va_get (v := .ref ld) hx hb hts (inX8_lasts_8) hown hKK.1 hP 0 rfl rfl 5 (by decide) (hts _ (List.mem_of_getElem? (i := 2) (by decide +kernel))) (fun _ h9 => h9) rfl (pc := 6) dX8_lasts_6 ?_
  refine lv_iload_n hx hb (pc := 9) dX8_lasts_9 rfl (lv_at hl 3 rfl) ?_
  refine nv_iald (v := nI (dF nn)) (i := nn) hx hb hKK hP 5 rfl (by omega) (by decide) (rfl) (pc := 10) dX8_lasts_10 ?_
  refine lv_istore (lv' := [(4, .int (nI (dF nn))), (3, .int (nI al)), (0, .ref wo), (1, .ref go), (2, .int (nI nn))]) hx hb (pc := 11) dX8_lasts_11 hl (by decide) rfl (fun ls hl => ?_)
  refine lv_iconst (v := nI 0) hx hb (pc := 13) dX8_lasts_13 (by decide) ?_
  refine lv_istore (lv' := [(5, .int (nI 0)), (4, .int (nI (dF nn))), (3, .int (nI al)), (0, .ref wo), (1, .ref go), (2, .int (nI nn))]) hx hb (pc := 14) dX8_lasts_14 hl (by decide) rfl (fun ls hl => ?_)
  have L16 : ∀ (fz : Nat) (t : Nat) (bf : Nat) (lf : Nat) (hfz : 16 - t < fz) (ht : t ≤ 16) (hsb : sub lf al) (hbf : bf ≤ al) (hg : lsGo (ldS k n E al) wF nn 16 al (dF nn) = lsGo (ldS k n E al) wF nn (16 - t) bf lf) (ls : Array Slot) (hl : lv_has ls 7 [(0, .ref wo), (1, .ref go), (2, .int (nI nn)), (3, .int (nI bf)), (4, .int (nI lf)), (5, .int (nI t))]), W p l e rmX8_lasts s m args below meth c s.heap [] 0 0 Q (F0 m 16 ls []) := by
    intro fz; induction fz with
    | zero => intro t bf lf hfz ht hsb hbf hg ls hl; exact absurd hfz (Nat.not_lt_zero _)
    | succ fz ih16 =>
      intro t bf lf hfz ht hsb hbf hg ls hl
      have hlf := sub_le hsb
      refine lv_iload hx hb (pc := 16) dX8_lasts_16 (lv_at hl 5 rfl) ?_
      refine lv_bipush (v := nI 16) hx hb (pc := 18) dX8_lasts_18 (by decide) ?_
      refine nv_icmp_ge (a := t) (b := 16) (tgt := 73) hx hb (pc := 20) dX8_lasts_20 (by decide) (by omega) (by omega) (fun c20 => ?_) (fun c20 => ?_)
      · have hv : lsGo (ldS k n E al) wF nn 16 al (dF nn) = lf := by
          rw [hg]
          first
          | rw [show 16 - t = 16 - (t + 1) + 1 by omega, lsGo_succ, if_pos (by omega)]
          | rw [show 16 - t = 0 by omega]; rfl
        refine lv_iload hx hb (pc := 73) dX8_lasts_73 (lv_at hl 4 rfl) ?_
        refine nv_if_eq (a := lf) (tgt := 82) hx hb (pc := 75) dX8_lasts_75 (by decide) (by omega) (fun c75 => ?_) (fun c75 => ?_)
        · refine lv_iconst (v := nI 0) hx hb (pc := 82) dX8_lasts_82 (by decide) ?_
          exact hret.1 83 _ (nI 0) dX8_lasts_83 (by first | (rw [hv, decide_eq_true (by omega)]; rfl) | (rw [hv, decide_eq_false (by omega)]; rfl)) (by decide)
        · refine lv_iconst (v := nI 1) hx hb (pc := 78) dX8_lasts_78 (by decide) ?_
          refine lv_goto (tgt := 83) hx hb (pc := 79) dX8_lasts_79 (by decide) ?_
          exact hret.1 83 _ (nI 1) dX8_lasts_83 (by first | (rw [hv, decide_eq_true (by omega)]; rfl) | (rw [hv, decide_eq_false (by omega)]; rfl)) (by decide)
      · refine lv_iload hx hb (pc := 23) dX8_lasts_23 (lv_at hl 4 rfl) ?_
        refine lv_iload_n hx hb (pc := 25) dX8_lasts_25 rfl (lv_at hl 3 rfl) ?_
        refine nv_icmp_eq (a := lf) (b := bf) (tgt := 73) hx hb (pc := 26) dX8_lasts_26 (by decide) (by omega) (by omega) (fun c26 => ?_) (fun c26 => ?_)
        · have hv : lsGo (ldS k n E al) wF nn 16 al (dF nn) = lf := by
            rw [hg]
            first
            | rw [show 16 - t = 16 - (t + 1) + 1 by omega, lsGo_succ, if_pos (by omega)]
            | rw [show 16 - t = 0 by omega]; rfl
          refine lv_iload hx hb (pc := 73) dX8_lasts_73 (lv_at hl 4 rfl) ?_
          refine nv_if_eq (a := lf) (tgt := 82) hx hb (pc := 75) dX8_lasts_75 (by decide) (by omega) (fun c75 => ?_) (fun c75 => ?_)
          · refine lv_iconst (v := nI 0) hx hb (pc := 82) dX8_lasts_82 (by decide) ?_
            exact hret.1 83 _ (nI 0) dX8_lasts_83 (by first | (rw [hv, decide_eq_true (by omega)]; rfl) | (rw [hv, decide_eq_false (by omega)]; rfl)) (by decide)
          · refine lv_iconst (v := nI 1) hx hb (pc := 78) dX8_lasts_78 (by decide) ?_
            refine lv_goto (tgt := 83) hx hb (pc := 79) dX8_lasts_79 (by decide) ?_
            exact hret.1 83 _ (nI 1) dX8_lasts_83 (by first | (rw [hv, decide_eq_true (by omega)]; rfl) | (rw [hv, decide_eq_false (by omega)]; rfl)) (by decide)
        · refine lv_iload hx hb (pc := 29) dX8_lasts_29 (lv_at hl 4 rfl) ?_
          refine nv_if_eq (a := lf) (tgt := 73) hx hb (pc := 31) dX8_lasts_31 (by decide) (by omega) (fun c31 => ?_) (fun c31 => ?_)
          · have hv : lsGo (ldS k n E al) wF nn 16 al (dF nn) = lf := by
              rw [hg]
              first
              | rw [show 16 - t = 16 - (t + 1) + 1 by omega, lsGo_succ, if_pos (by omega)]
              | rw [show 16 - t = 0 by omega]; rfl
            refine lv_iload hx hb (pc := 73) dX8_lasts_73 (lv_at hl 4 rfl) ?_
            refine nv_if_eq (a := lf) (tgt := 82) hx hb (pc := 75) dX8_lasts_75 (by decide) (by omega) (fun c75 => ?_) (fun c75 => absurd c31 c75)
            refine lv_iconst (v := nI 0) hx hb (pc := 82) dX8_lasts_82 (by decide) ?_
            exact hret.1 83 _ (nI 0) dX8_lasts_83 (by first | (rw [hv, decide_eq_true (by omega)]; rfl) | (rw [hv, decide_eq_false (by omega)]; rfl)) (by decide)
          · refine lv_iload hx hb (pc := 34) dX8_lasts_34 (lv_at hl 4 rfl) ?_
            refine lv_istore_n (lv' := [(3, .int (nI lf)), (0, .ref wo), (1, .ref go), (2, .int (nI nn)), (4, .int (nI lf)), (5, .int (nI t))]) hx hb (pc := 36) dX8_lasts_36 rfl hl (by decide) rfl (fun ls hl => ?_)
            refine lv_iconst (v := nI 0) hx hb (pc := 37) dX8_lasts_37 (by decide) ?_
            refine lv_istore (lv' := [(6, .int (nI 0)), (3, .int (nI lf)), (0, .ref wo), (1, .ref go), (2, .int (nI nn)), (4, .int (nI lf)), (5, .int (nI t))]) hx hb (pc := 38) dX8_lasts_38 hl (by decide) rfl (fun ls hl => ?_)
            have L40 : ∀ (fz : Nat) (i : Nat) (hfz : nn - i < fz) (hi : i ≤ nn) (hsi : sub (rsF (ldS k n E al) wF i lf) al) (ls : Array Slot) (hl : lv_has ls 7 [(0, .ref wo), (1, .ref go), (2, .int (nI nn)), (3, .int (nI lf)), (4, .int (nI (rsF (ldS k n E al) wF i lf))), (5, .int (nI t)), (6, .int (nI i))]), W p l e rmX8_lasts s m args below meth c s.heap [] 0 0 Q (F0 m 40 ls []) := by
              intro fz; induction fz with
              | zero => intro i hfz hi hsi ls hl; exact absurd hfz (Nat.not_lt_zero _)
              | succ fz ih40 =>
                intro i hfz hi hsi ls hl
                refine lv_iload hx hb (pc := 40) dX8_lasts_40 (lv_at hl 6 rfl) ?_
                refine lv_iload_n hx hb (pc := 42) dX8_lasts_42 rfl (lv_at hl 2 rfl) ?_
                refine nv_icmp_ge (a := i) (b := nn) (tgt := 67) hx hb (pc := 43) dX8_lasts_43 (by decide) (by omega) (by omega) (fun c43 => ?_) (fun c43 => ?_)
                · refine lv_iinc (v := nI (t + 1)) (lv' := [(5, .int (nI (t + 1))), (0, .ref wo), (1, .ref go), (2, .int (nI nn)), (3, .int (nI lf)), (4, .int (nI (rsF (ldS k n E al) wF i lf))), (6, .int (nI i))]) hx hb (pc := 67) dX8_lasts_67 hl (k := 5) rfl (rr_inc _) (by decide) rfl (fun ls hl => ?_)
                  refine lv_goto (tgt := 16) hx hb (pc := 70) dX8_lasts_70 (by decide) ?_
                  have e9 : i = nn := by omega
                  have hl : lv_has ls 7 [(5, .int (nI (t + 1))), (0, .ref wo), (1, .ref go), (2, .int (nI nn)), (3, .int (nI lf)), (4, .int (nI (rsF (ldS k n E al) wF nn lf))), (6, .int (nI i))] := by rw [show rsF (ldS k n E al) wF nn lf = rsF (ldS k n E al) wF i lf from by rw [e9]]; exact hl
                  exact ih16 (t + 1) lf (rsF (ldS k n E al) wF nn lf) (by omega) (by omega) (by rw [← e9]; exact hsi) (hlf) (by rw [hg, show 16 - t = 16 - (t + 1) + 1 by omega, lsGo_succ, if_neg (by omega)]) ls (lv_sub hl [1, 2, 3, 4, 5, 0] rfl)
                · have hsl := sub_le hsi
                  have hwi := hwF i (by omega)
                  have hst := c_X1_step l K go ge gt k n gw al lw E T (rsF (ldS k n E al) wF i lf) (wF i) (by omega) (by omega) hk4
                  rw [stp_eq hT hn hsi hal] at hst
                  refine lv_aload_n hx hb (pc := 46) dX8_lasts_46 rfl (lv_at hl 1 rfl) ?_
                  refine lv_iload hx hb (pc := 47) dX8_lasts_47 (lv_at hl 4 rfl) ?_
                  refine lv_aload_n hx hb (pc := 49) dX8_lasts_49 rfl (lv_at hl 0 rfl) ?_
                  refine va_get (v := .ref rw) hx hb hts (inX8_lasts_8) hown hKK.1 hP 0 rfl rfl 4 (by decide) (hts _ (List.mem_of_getElem? (i := 3) (by decide +kernel))) (fun _ h9 => h9) rfl (pc := 50) dX8_lasts_50 ?_
                  refine lv_iload hx hb (pc := 53) dX8_lasts_53 (lv_at hl 6 rfl) ?_
                  refine nv_iald (v := nI (wF i)) (i := i) hx hb hKK hP 4 rfl (by omega) (by decide) (rfl) (pc := 55) dX8_lasts_55 ?_
                  refine rr_callP (rv := .int (nI (ldS k n E al (rsF (ldS k n E al) wF i lf) (wF i)))) (pc := 56) (va_runV (As := [.int (nI (rsF (ldS k n E al) wF i lf)), .int (nI (wF i))]) (rest := []) ⟨hx, hb, hml, hown, hts⟩ (hst) (cwV 2 hts gX8_lasts_X1_step rfl rfl rfl (by decide +kernel) ⟨Nat.le_of_ble_eq_true rfl, Nat.le_of_ble_eq_true rfl⟩) (rr_preV hKK (hG) (va_recv hKK.1 hG (ci := 1) (q0 := 0) rfl rfl)) rfl rfl hl.1 rfl (lv_room (Nat.le_of_ble_eq_true rfl)) dX8_lasts_56 ⟨Nat.le_refl _, Nat.le_refl _⟩) ?_
                  refine lv_istore (lv' := [(4, .int (nI (ldS k n E al (rsF (ldS k n E al) wF i lf) (wF i)))), (0, .ref wo), (1, .ref go), (2, .int (nI nn)), (3, .int (nI lf)), (5, .int (nI t)), (6, .int (nI i))]) hx hb (pc := 59) dX8_lasts_59 hl (by decide) rfl (fun ls hl => ?_)
                  refine lv_iinc (v := nI (i + 1)) (lv' := [(6, .int (nI (i + 1))), (4, .int (nI (ldS k n E al (rsF (ldS k n E al) wF i lf) (wF i)))), (0, .ref wo), (1, .ref go), (2, .int (nI nn)), (3, .int (nI lf)), (5, .int (nI t))]) hx hb (pc := 61) dX8_lasts_61 hl (k := 6) rfl (rr_inc _) (by decide) rfl (fun ls hl => ?_)
                  refine lv_goto (tgt := 40) hx hb (pc := 64) dX8_lasts_64 (by decide) ?_
                  have hl : lv_has ls 7 [(6, .int (nI (i + 1))), (4, .int (nI (rsF (ldS k n E al) wF (i + 1) lf))), (0, .ref wo), (1, .ref go), (2, .int (nI nn)), (3, .int (nI lf)), (5, .int (nI t))] := by rw [show rsF (ldS k n E al) wF (i + 1) lf = ldS k n E al (rsF (ldS k n E al) wF i lf) (wF i) from rfl]; exact hl
                  exact ih40 (i + 1) (by omega) (by omega) (ldS_sub _ _ _ _ _ _) ls (lv_sub hl [2, 3, 4, 5, 1, 6, 0] rfl)
            have hl : lv_has ls 7 [(6, .int (nI 0)), (3, .int (nI lf)), (0, .ref wo), (1, .ref go), (2, .int (nI nn)), (4, .int (nI (rsF (ldS k n E al) wF 0 lf))), (5, .int (nI t))] := by rw [show rsF (ldS k n E al) wF 0 lf = lf from rfl]; exact hl
            exact L40 (8) 0 (by omega) (Nat.zero_le _) (hsb) ls (lv_sub hl [2, 3, 4, 1, 5, 6, 0] rfl)
  exact L16 (17) 0 al (dF nn) (by omega) (Nat.zero_le _) (hdF) (Nat.le_refl _) (rfl) ls (lv_sub hl [3, 4, 5, 2, 1, 0] rfl)

abbrev rmX8_turnToNextRow : Room := { frames := 0, cells := 0, slots := 0, locals := 0 }
theorem inX8_turnToNextRow_8 : ∀ w ∈ wsX80, w ∈ wsX8_turnToNextRow := fun _ h => List.mem_cons_of_mem _ (List.mem_append_right _ h)
set_option maxHeartbeats 4000000 in
set_option maxRecDepth 100000 in
theorem c_X8_turnToNextRow (l : Launch) (K : rr_K) (A : Nat → Prop) (wo mo bh my lg rw ld room : Nat) (bF : Nat → Int32) (yF gF : Nat → Int64) (wF dF : Nat → Nat) (k nn r : Nat) (hk2 : 2 ≤ k) (hk4 : k ≤ 4) (hn1 : 1 ≤ nn) (hnn : nn ≤ 7) (hw : ∀ i, i < nn → wF i = dgt k nn r i) (hD : va_D A (WW3 K wo mo bh my lg rw ld room bF yF gF wF dF)) : MetR l K yX8_turnToNextRow wsX8_turnToNextRow rmX8_turnToNextRow [.ref wo, .int (nI k), .int (nI nn)] (fun H => va_P K.1 vwCl (WW3 K wo mo bh my lg rw ld room bF yF gF wF dF) H) A (fun v H => ∃ ch wF', v = .int (nI ch) ∧ ch < nn ∧ (∀ i, i < nn → wF' i = dgt k nn (r + 1) i) ∧ (∀ i, i < ch → wF' i = wF i) ∧ va_P K.1 vwCl (WW3 K wo mo bh my lg rw ld room bF yF gF wF' dF) H) 0 0 := by
  refine metR_of (cc := cX8_turnToNextRow) (maxL := 4) (ret := (some .int)) (rt := .int) (by decide) rfl rfl rfl rfl (Nat.le_of_ble_eq_true rfl) ?_
  intro p e s m args below meth c Q ls hEnt hKK hX hret hl
  obtain ⟨hx, hb, hml, hown, hts⟩ := hEnt
  have hP : va_P K.1 vwCl (WW3 K wo mo bh my lg rw ld room bF yF gF wF dF) s.heap := hX
  have hl : lv_has ls 4 [(0, .ref wo), (1, .int (nI k)), (2, .int (nI nn))] := hl
  have hS : va_S A s.heap s.heap [] := va_S.rf
  refine lv_iload_n hx hb (pc := 0) dX8_turnToNextRow_0 rfl (lv_at hl 2 rfl) ?_
  refine lv_iconst (v := nI 1) hx hb (pc := 1) dX8_turnToNextRow_1 (by decide) ?_
  refine nv_isub (a := nn) (b := 1) hx hb (pc := 2) dX8_turnToNextRow_2 (by omega) ?_
  refine lv_istore_n (lv' := [(3, .int (nI (nn - 1))), (0, .ref wo), (1, .int (nI k)), (2, .int (nI nn))]) hx hb (pc := 3) dX8_turnToNextRow_3 rfl hl (by decide) rfl (fun ls hl => ?_)
  have L4 : ∀ (fz : Nat) (j : Nat) (wF1 : Nat → Nat) (H : Heap) (locs : List Loc) (hP : va_P K.1 vwCl (WW3 K wo mo bh my lg rw ld room bF yF gF wF1 dF) H) (hD : va_D A (WW3 K wo mo bh my lg rw ld room bF yF gF wF1 dF)) (hS : va_S A s.heap H locs) (hfz : j < fz) (hj : j < nn) (hm : r % k ^ (nn - 1 - j) = k ^ (nn - 1 - j) - 1) (hw1 : ∀ i, i ≤ j → wF1 i = wF i) (hz : ∀ i, j < i → i < nn → wF1 i = 0) (ls : Array Slot) (hl : lv_has ls 4 [(0, .ref wo), (1, .int (nI k)), (2, .int (nI nn)), (3, .int (nI j))]), W p l e rmX8_turnToNextRow s m args below meth c H locs 0 0 Q (F0 m 4 ls []) := by
    intro fz; induction fz with
    | zero => intro j wF1 H locs hP hD hS hfz hj hm hw1 hz ls hl; exact absurd hfz (Nat.not_lt_zero _)
    | succ fz ih4 =>
      intro j wF1 H locs hP hD hS hfz hj hm hw1 hz ls hl
      refine lv_iload_n hx hb (pc := 4) dX8_turnToNextRow_4 rfl (lv_at hl 3 rfl) ?_
      refine nv_if_le (a := j) (tgt := 45) hx hb (pc := 5) dX8_turnToNextRow_5 (by decide) (by omega) (fun c5 => ?_) (fun c5 => ?_)
      · obtain rfl : j = 0 := by omega
        refine lv_aload_n hx hb (pc := 45) dX8_turnToNextRow_45 rfl (lv_at hl 0 rfl) ?_
        refine va_get (v := .ref rw) hx hb hts (inX8_turnToNextRow_8) hown hKK.1 hP 0 rfl rfl 4 (by decide) (hts _ (List.mem_of_getElem? (i := 1) (by decide +kernel))) (fun _ h9 => h9) rfl (pc := 46) dX8_turnToNextRow_46 ?_
        refine lv_iconst (v := nI 0) hx hb (pc := 49) dX8_turnToNextRow_49 (by decide) ?_
        refine lv_dup2_11 hx hb (pc := 50) dX8_turnToNextRow_50 rfl rfl ?_
        refine nv_iald (v := nI (wF1 0)) (i := 0) hx hb hKK hP 4 rfl (by omega) (by decide) (rfl) (pc := 51) dX8_turnToNextRow_51 ?_
        refine lv_iconst (v := nI 1) hx hb (pc := 52) dX8_turnToNextRow_52 (by decide) ?_
        refine nv_iadd (a := (wF1 0)) (b := 1) hx hb (pc := 53) dX8_turnToNextRow_53 ?_
        refine nv_iast (f := wF1) (x := ((wF1 0) + 1)) (ws' := WW3 K wo mo bh my lg rw ld room bF yF gF (va_up wF1 0 ((wF1 0) + 1)) dF) (i := 0) hx hb hKK hP hD hS 4 rfl (by omega) (by decide) (rfl) (pc := 54) dX8_turnToNextRow_54 (fun H locs hP hD hS => ?_)
        refine lv_iconst (v := nI 0) hx hb (pc := 55) dX8_turnToNextRow_55 (by decide) ?_
        have hdg : ∀ i, i < nn → va_up wF1 0 (wF1 0 + 1) i = dgt k nn (r + 1) i := fun i hi => by
          rw [nr_dig (by omega) hj hm (fun q => absurd q (Nat.lt_irrefl _)) i hi]
          unfold va_up
          rcases Nat.lt_trichotomy i 0 with q | q | q
          · rw [if_neg (by omega), if_pos q, hw1 i (by omega), hw i hi]
          · rw [if_pos q, if_neg (by omega), if_pos q, hw1 0 (Nat.le_refl _), hw 0 hj]
          · rw [if_neg (by omega), if_neg (by omega), if_neg (by omega), hz i q hi]
        exact hret.1 _ _ 0 0 56 _ (nI 0) dX8_turnToNextRow_56 (by omega) (by omega) hS (⟨0, _, rfl, by omega, hdg, fun i hi => absurd hi (Nat.not_lt_zero _), hP⟩) (rfl)
      · have hdl : wF1 j < k := by
          rw [hw1 j (Nat.le_refl _), hw j hj, dgt_pos (by omega)]
          exact Nat.mod_lt _ (by omega)
        refine lv_aload_n hx hb (pc := 8) dX8_turnToNextRow_8 rfl (lv_at hl 0 rfl) ?_
        refine va_get (v := .ref rw) hx hb hts (inX8_turnToNextRow_8) hown hKK.1 hP 0 rfl rfl 4 (by decide) (hts _ (List.mem_of_getElem? (i := 1) (by decide +kernel))) (fun _ h9 => h9) rfl (pc := 9) dX8_turnToNextRow_9 ?_
        refine lv_iload_n hx hb (pc := 12) dX8_turnToNextRow_12 rfl (lv_at hl 3 rfl) ?_
        refine nv_iald (v := nI (wF1 j)) (i := j) hx hb hKK hP 4 rfl (by omega) (by decide) (rfl) (pc := 13) dX8_turnToNextRow_13 ?_
        refine lv_iload_n hx hb (pc := 14) dX8_turnToNextRow_14 rfl (lv_at hl 1 rfl) ?_
        refine lv_iconst (v := nI 1) hx hb (pc := 15) dX8_turnToNextRow_15 (by decide) ?_
        refine nv_isub (a := k) (b := 1) hx hb (pc := 16) dX8_turnToNextRow_16 (by omega) ?_
        refine nv_icmp_ge (a := (wF1 j)) (b := (k - 1)) (tgt := 32) hx hb (pc := 17) dX8_turnToNextRow_17 (by decide) (by omega) (by omega) (fun c17 => ?_) (fun c17 => ?_)
        · refine lv_aload_n hx hb (pc := 32) dX8_turnToNextRow_32 rfl (lv_at hl 0 rfl) ?_
          refine va_get (v := .ref rw) hx hb hts (inX8_turnToNextRow_8) hown hKK.1 hP 0 rfl rfl 4 (by decide) (hts _ (List.mem_of_getElem? (i := 1) (by decide +kernel))) (fun _ h9 => h9) rfl (pc := 33) dX8_turnToNextRow_33 ?_
          refine lv_iload_n hx hb (pc := 36) dX8_turnToNextRow_36 rfl (lv_at hl 3 rfl) ?_
          refine lv_iconst (v := nI 0) hx hb (pc := 37) dX8_turnToNextRow_37 (by decide) ?_
          refine nv_iast (f := wF1) (x := 0) (ws' := WW3 K wo mo bh my lg rw ld room bF yF gF (va_up wF1 j 0) dF) (i := j) hx hb hKK hP hD hS 4 rfl (by omega) (by decide) (rfl) (pc := 38) dX8_turnToNextRow_38 (fun H locs hP hD hS => ?_)
          refine lv_iinc (v := nI (j - 1)) (lv' := [(3, .int (nI (j - 1))), (0, .ref wo), (1, .int (nI k)), (2, .int (nI nn))]) hx hb (pc := 39) dX8_turnToNextRow_39 hl (k := 3) rfl (rr_dec (by omega)) (by decide) rfl (fun ls hl => ?_)
          refine lv_goto (tgt := 4) hx hb (pc := 42) dX8_turnToNextRow_42 (by decide) ?_
          have hm2 := nr_back (by omega) (by omega) hj hm (by rw [← dgt_pos (by omega), ← hw j hj, ← hw1 j (Nat.le_refl _)]; omega)
          have hwb : ∀ i, i ≤ j - 1 → va_up wF1 j 0 i = wF i := fun i hi => by
            unfold va_up
            rw [if_neg (by omega), hw1 i (by omega)]
          have hzb : ∀ i, j - 1 < i → i < nn → va_up wF1 j 0 i = 0 := fun i h1 h2 => by
            unfold va_up
            split
            · rfl
            · exact hz i (by omega) h2
          exact ih4 (j - 1) (va_up wF1 j 0) _ _ hP hD hS (by omega) (by omega) (hm2) (hwb) (hzb) ls (lv_sub hl [1, 2, 3, 0] rfl)
        · refine lv_aload_n hx hb (pc := 20) dX8_turnToNextRow_20 rfl (lv_at hl 0 rfl) ?_
          refine va_get (v := .ref rw) hx hb hts (inX8_turnToNextRow_8) hown hKK.1 hP 0 rfl rfl 4 (by decide) (hts _ (List.mem_of_getElem? (i := 1) (by decide +kernel))) (fun _ h9 => h9) rfl (pc := 21) dX8_turnToNextRow_21 ?_
          refine lv_iload_n hx hb (pc := 24) dX8_turnToNextRow_24 rfl (lv_at hl 3 rfl) ?_
          refine lv_dup2_11 hx hb (pc := 25) dX8_turnToNextRow_25 rfl rfl ?_
          refine nv_iald (v := nI (wF1 j)) (i := j) hx hb hKK hP 4 rfl (by omega) (by decide) (rfl) (pc := 26) dX8_turnToNextRow_26 ?_
          refine lv_iconst (v := nI 1) hx hb (pc := 27) dX8_turnToNextRow_27 (by decide) ?_
          refine nv_iadd (a := (wF1 j)) (b := 1) hx hb (pc := 28) dX8_turnToNextRow_28 ?_
          refine nv_iast (f := wF1) (x := ((wF1 j) + 1)) (ws' := WW3 K wo mo bh my lg rw ld room bF yF gF (va_up wF1 j ((wF1 j) + 1)) dF) (i := j) hx hb hKK hP hD hS 4 rfl (by omega) (by decide) (rfl) (pc := 29) dX8_turnToNextRow_29 (fun H locs hP hD hS => ?_)
          refine lv_iload_n hx hb (pc := 30) dX8_turnToNextRow_30 rfl (lv_at hl 3 rfl) ?_
          have hdg : ∀ i, i < nn → va_up wF1 j (wF1 j + 1) i = dgt k nn (r + 1) i := fun i hi => by
            rw [nr_dig (by omega) hj hm (fun _ => by rw [← dgt_pos (by omega), ← hw j hj, ← hw1 j (Nat.le_refl _)]; omega) i hi]
            unfold va_up
            rcases Nat.lt_trichotomy i j with q | q | q
            · rw [if_neg (by omega), if_pos q, hw1 i (by omega), hw i hi]
            · rw [if_pos q, if_neg (by omega), if_pos q, hw1 j (Nat.le_refl _), hw j hj]
            · rw [if_neg (by omega), if_neg (by omega), if_neg (by omega), hz i q hi]
          have hkp : ∀ i, i < j → va_up wF1 j (wF1 j + 1) i = wF i := fun i hi => by
            unfold va_up
            rw [if_neg (by omega), hw1 i (by omega)]
          exact hret.1 _ _ 0 0 31 _ (nI j) dX8_turnToNextRow_31 (by omega) (by omega) hS (⟨j, _, rfl, hj, hdg, hkp, hP⟩) (rfl)
  exact L4 (nn) (nn - 1) wF _ _ hP hD hS (by omega) (by omega) (by rw [Nat.sub_self, Nat.pow_zero, Nat.mod_one]) (fun _ _ => rfl) (fun i h1 h2 => by omega) ls (lv_sub hl [1, 2, 3, 0] rfl)

