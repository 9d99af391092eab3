abbrev rmX9_power : Room := { frames := 0, cells := 0, slots := 0, locals := 0 }
set_option maxHeartbeats 4000000 in
set_option maxRecDepth 100000 in
theorem c_X9_power (l : Launch) (K : rr_K) (bs ex : Nat) (hbs : bs ≤ 4) (hex : ex ≤ 8) : MetP l K yX9_power wsX9_power rmX9_power [.int (nI bs), .int (nI ex)] (fun H => True) (.int (nI (bs ^ ex))) := by
  refine metP_of (cc := cX9_power) (maxL := 4) (ret := (some .int)) (rt := .int) (by decide) rfl rfl (Nat.le_of_ble_eq_true rfl) ?_
  intro p e s m args below meth c Q ls hEnt hKK hX hret hl
  obtain ⟨hx, hb, hml, hown, hts⟩ := hEnt
  have hl : lv_has ls 4 [(0, .int (nI bs)), (1, .int (nI ex))] := hl
  refine lv_iconst (v := nI 1) hx hb (pc := 0) dX9_power_0 (by decide) ?_
  refine lv_istore_n (lv' := [(2, .int (nI 1)), (0, .int (nI bs)), (1, .int (nI ex))]) hx hb (pc := 1) dX9_power_1 rfl hl (by decide) rfl (fun ls hl => ?_)
  refine lv_iconst (v := nI 0) hx hb (pc := 2) dX9_power_2 (by decide) ?_
  refine lv_istore_n (lv' := [(3, .int (nI 0)), (2, .int (nI 1)), (0, .int (nI bs)), (1, .int (nI ex))]) hx hb (pc := 3) dX9_power_3 rfl hl (by decide) rfl (fun ls hl => ?_)
  have L4 : ∀ (fz : Nat) (i : Nat) (hfz : ex - i < fz) (hi : i ≤ ex) (ls : Array Slot) (hl : lv_has ls 4 [(0, .int (nI bs)), (1, .int (nI ex)), (2, .int (nI (bs ^ i))), (3, .int (nI i))]), W p l e rmX9_power s m args below meth c s.heap [] 0 0 Q (F0 m 4 ls []) := by
    intro fz; induction fz with
    | zero => intro i hfz hi ls hl; exact absurd hfz (Nat.not_lt_zero _)
    | succ fz ih4 =>
      intro i hfz hi ls hl
      refine lv_iload_n hx hb (pc := 4) dX9_power_4 rfl (lv_at hl 3 rfl) ?_
      refine lv_iload_n hx hb (pc := 5) dX9_power_5 rfl (lv_at hl 1 rfl) ?_
      refine nv_icmp_ge (a := i) (b := ex) (tgt := 19) hx hb (pc := 6) dX9_power_6 (by decide) (by omega) (by omega) (fun c6 => ?_) (fun c6 => ?_)
      · refine lv_iload_n hx hb (pc := 19) dX9_power_19 rfl (lv_at hl 2 rfl) ?_
        obtain rfl : i = ex := by omega
        exact hret.1 20 _ (nI (bs ^ i)) dX9_power_20 (rfl) (rfl)
      · refine lv_iload_n hx hb (pc := 9) dX9_power_9 rfl (lv_at hl 2 rfl) ?_
        refine lv_iload_n hx hb (pc := 10) dX9_power_10 rfl (lv_at hl 0 rfl) ?_
        refine nv_imul (a := (bs ^ i)) (b := bs) hx hb (pc := 11) dX9_power_11 ?_
        refine lv_istore_n (lv' := [(2, .int (nI ((bs ^ i) * bs))), (0, .int (nI bs)), (1, .int (nI ex)), (3, .int (nI i))]) hx hb (pc := 12) dX9_power_12 rfl hl (by decide) rfl (fun ls hl => ?_)
        refine lv_iinc (v := nI (i + 1)) (lv' := [(3, .int (nI (i + 1))), (2, .int (nI ((bs ^ i) * bs))), (0, .int (nI bs)), (1, .int (nI ex))]) hx hb (pc := 13) dX9_power_13 hl (k := 3) rfl (rr_inc _) (by decide) rfl (fun ls hl => ?_)
        refine lv_goto (tgt := 4) hx hb (pc := 16) dX9_power_16 (by decide) ?_
        exact ih4 (i + 1) (by omega) (by omega) ls (lv_sub hl [2, 3, 1, 0] rfl)
  exact L4 (ex + 1) 0 (by omega) (Nat.zero_le _) ls (lv_sub hl [2, 3, 1, 0] rfl)

abbrev rmX9_commonDivisor : Room := { frames := 0, cells := 0, slots := 0, locals := 0 }
set_option maxHeartbeats 4000000 in
set_option maxRecDepth 100000 in
theorem c_X9_commonDivisor (l : Launch) (K : rr_K) (aa bb : Nat) (haa : aa < 2 ^ 63) (hbb : bb < 2 ^ 63) : MetP l K yX9_commonDivisor wsX9_commonDivisor rmX9_commonDivisor [.long (lN (aa)), .long (lN (bb))] (fun H => True) (.long (lN (Nat.gcd aa bb))) := by
  refine metP_of (cc := cX9_commonDivisor) (maxL := 11) (ret := (some .long)) (rt := .long) (by decide) rfl rfl (Nat.le_of_ble_eq_true rfl) ?_
  intro p e s m args below meth c Q ls hEnt hKK hX hret hl
  obtain ⟨hx, hb, hml, hown, hts⟩ := hEnt
  have hl : lv_has ls 11 [(0, .long (lN (aa))), (2, .long (lN (bb)))] := hl
  refine lv_lload_n hx hb (pc := 0) dX9_commonDivisor_0 rfl (lv_at hl 0 rfl) ?_
  refine lv_lstore (lv' := [(4, .long (lN (aa))), (0, .long (lN (aa))), (2, .long (lN (bb)))]) hx hb (pc := 1) dX9_commonDivisor_1 hl (by decide) rfl (fun ls hl => ?_)
  refine lv_lload_n hx hb (pc := 3) dX9_commonDivisor_3 rfl (lv_at hl 2 rfl) ?_
  refine lv_lstore (lv' := [(6, .long (lN (bb))), (4, .long (lN (aa))), (0, .long (lN (aa))), (2, .long (lN (bb)))]) hx hb (pc := 4) dX9_commonDivisor_4 hl (by decide) rfl (fun ls hl => ?_)
  refine lv_iconst (v := nI 0) hx hb (pc := 6) dX9_commonDivisor_6 (by decide) ?_
  refine lv_istore (lv' := [(8, .int (nI 0)), (6, .long (lN (bb))), (4, .long (lN (aa))), (0, .long (lN (aa))), (2, .long (lN (bb)))]) hx hb (pc := 7) dX9_commonDivisor_7 hl (by decide) rfl (fun ls hl => ?_)
  have L9 : ∀ (fz : Nat) (x : Nat) (y : Nat) (i : Nat) (hfz : 100 - i < fz) (hi : i ≤ 100) (hx9 : x < 2 ^ 63) (hy9 : y < 2 ^ 63) (hg : Nat.gcd x y = Nat.gcd aa bb) (hr : ∀ m, eRun m x y → eRun (m + i) aa bb) (ls : Array Slot) (hl : lv_has ls 11 [(4, .long (lN (x))), (6, .long (lN (y))), (8, .int (nI i))]), W p l e rmX9_commonDivisor s m args below meth c s.heap [] 0 0 Q (F0 m 9 ls []) := by
    intro fz; induction fz with
    | zero => intro x y i hfz hi hx9 hy9 hg hr ls hl; exact absurd hfz (Nat.not_lt_zero _)
    | succ fz ih9 =>
      intro x y i hfz hi hx9 hy9 hg hr ls hl
      refine lv_iload hx hb (pc := 9) dX9_commonDivisor_9 (lv_at hl 2 rfl) ?_
      refine lv_bipush (v := nI 100) hx hb (pc := 11) dX9_commonDivisor_11 (by decide) ?_
      refine nv_icmp_ge (a := i) (b := 100) (tgt := 44) hx hb (pc := 13) dX9_commonDivisor_13 (by decide) (by omega) (by omega) (fun c13 => ?_) (fun c13 => ?_)
      · refine lv_lload hx hb (pc := 44) dX9_commonDivisor_44 (lv_at hl 0 rfl) ?_
        have hy0 : y = 0 := by
          first
          | omega
          | exact absurd (show eRun 100 aa bb from by have h9 := hr 0 trivial; rwa [show 0 + i = 100 by omega] at h9) (eRun_100 haa hbb)
        exact hret.2.1 46 _ (lN x) dX9_commonDivisor_46 (by rw [← hg, hy0, Nat.gcd_zero_right]) rfl
      · refine lv_lload hx hb (pc := 16) dX9_commonDivisor_16 (lv_at hl 1 rfl) ?_
        refine lv_lconst (v := lN 0) hx hb (pc := 18) dX9_commonDivisor_18 (by decide) ?_
        refine nv_lcmp_eq (a := y) (b := 0) (tgt := 44) hx hb (pc := 19) dX9_commonDivisor_19 dX9_commonDivisor_20 (by decide) (by omega) (by omega) (fun c19 => ?_) (fun c19 => ?_)
        · refine lv_lload hx hb (pc := 44) dX9_commonDivisor_44 (lv_at hl 0 rfl) ?_
          have hy0 : y = 0 := by
            first
            | omega
            | exact absurd (show eRun 100 aa bb from by have h9 := hr 0 trivial; rwa [show 0 + i = 100 by omega] at h9) (eRun_100 haa hbb)
          exact hret.2.1 46 _ (lN x) dX9_commonDivisor_46 (by rw [← hg, hy0, Nat.gcd_zero_right]) rfl
        · refine lv_lload hx hb (pc := 23) dX9_commonDivisor_23 (lv_at hl 0 rfl) ?_
          refine lv_lload hx hb (pc := 25) dX9_commonDivisor_25 (lv_at hl 1 rfl) ?_
          refine nv_lrem (a := x) (b := y) hx hb (pc := 27) dX9_commonDivisor_27 (by omega) (by omega) (by omega) ?_
          refine lv_lstore (lv' := [(9, .long (lN (x % y))), (4, .long (lN (x))), (6, .long (lN (y))), (8, .int (nI i))]) hx hb (pc := 28) dX9_commonDivisor_28 hl (by decide) rfl (fun ls hl => ?_)
          refine lv_lload hx hb (pc := 30) dX9_commonDivisor_30 (lv_at hl 2 rfl) ?_
          refine lv_lstore (lv' := [(4, .long (lN (y))), (9, .long (lN (x % y))), (6, .long (lN (y))), (8, .int (nI i))]) hx hb (pc := 32) dX9_commonDivisor_32 hl (by decide) rfl (fun ls hl => ?_)
          refine lv_lload hx hb (pc := 34) dX9_commonDivisor_34 (lv_at hl 1 rfl) ?_
          refine lv_lstore (lv' := [(6, .long (lN (x % y))), (4, .long (lN (y))), (9, .long (lN (x % y))), (8, .int (nI i))]) hx hb (pc := 36) dX9_commonDivisor_36 hl (by decide) rfl (fun ls hl => ?_)
          refine lv_iinc (v := nI (i + 1)) (lv' := [(8, .int (nI (i + 1))), (6, .long (lN (x % y))), (4, .long (lN (y))), (9, .long (lN (x % y)))]) hx hb (pc := 38) dX9_commonDivisor_38 hl (k := 3) rfl (rr_inc _) (by decide) rfl (fun ls hl => ?_)
          refine lv_goto (tgt := 9) hx hb (pc := 41) dX9_commonDivisor_41 (by decide) ?_
          exact ih9 y (x % y) (i + 1) (by omega) (by omega) (hy9) (by have := Nat.mod_lt x (show 0 < y by omega); omega) (by rw [← hg, Nat.gcd_comm x y, Nat.gcd_rec y x, Nat.gcd_comm]) (fun m h => by have := hr (m + 1) ⟨by omega, h⟩; rwa [show m + (i + 1) = m + 1 + i by omega]) ls (lv_sub hl [2, 1, 0] rfl)
  exact L9 (101) aa bb 0 (by omega) (Nat.zero_le _) (haa) (hbb) (rfl) (fun m h => h) ls (lv_sub hl [2, 1, 0] rfl)

abbrev rmX8_lasts : Room := { frames := 1, cells := 0, slots := 0, locals := 23 }
theorem inX8_lasts_1 : ∀ w ∈ wsX10, w ∈ wsX8_lasts := fun _ h => List.mem_cons_of_mem _ (List.mem_append_left _ (List.mem_append_right _ h))
theorem inX8_lasts_8 : ∀ w ∈ wsX80, w ∈ wsX8_lasts := fun _ h => List.mem_cons_of_mem _ (List.mem_append_right _ h)
set_option maxHeartbeats 4000000 in
set_option maxRecDepth 100000 in
theorem c_X8_lasts (l : Launch) (K : rr_K) (wo mo bh my lg rw ld room : Nat) (bF : Nat → Int32) (yF gF : Nat → Int64) (wF dF : Nat → Nat) (go ge gt k n gw al lw : Nat) (E T : Nat → Nat) (nn : Nat) (hk4 : k ≤ 4) (hn : n ≤ 16) (hal : al < 2 ^ n) (hT : TInv k n al E T) (hnn : nn ≤ 7) (hwF : ∀ j, j < nn → wF j < k) (hdF : sub (dF nn) al) : MetP l K yX8_lasts wsX8_lasts rmX8_lasts [.ref wo, .ref go, .int (nI nn)] (fun H => va_P K.1 vwCl (WW3 K wo mo bh my lg rw ld room bF yF gF wF dF) H ∧ va_P K.1 vwCl (GW K go ge gt k n gw al lw E T) H) (.int (bI (decide (lsGo (ldS k n E al) wF nn 16 al (dF nn) ≠ 0)))) := by
  refine metP_of (cc := cX8_lasts) (maxL := 7) (ret := (some .boolean)) (rt := .boolean) (by decide) rfl rfl (Nat.le_of_ble_eq_true rfl) ?_
  intro p e s m args below meth c Q ls hEnt hKK hX hret hl
  obtain ⟨hx, hb, hml, hown, hts⟩ := hEnt
  obtain ⟨hP, hG⟩ := hX
  have hl : lv_has ls 7 [(0, .ref wo), (1, .ref go), (2, .int (nI nn))] := hl
  have pa : 2 ^ n ≤ 65536 := Nat.le_trans (Nat.pow_le_pow_right (by decide) hn) (by decide)
  have hd16 := sub_le hdF
  refine lv_aload_n hx hb (pc := 0) dX8_lasts_0 rfl (lv_at hl 1 rfl) ?_
  refine va_get (v := .int (nI al)) hx hb hts (inX8_lasts_1) hown hKK.1 hG 0 rfl rfl 3 (by decide) (hts _ (List.mem_of_getElem? (i := 1) (by decide +kernel))) (fun _ h9 => h9) rfl (pc := 1) dX8_lasts_1 ?_
  refine lv_istore_n (lv' := [(3, .int (nI al)), (0, .ref wo), (1, .ref go), (2, .int (nI nn))]) hx hb (pc := 4) dX8_lasts_4 rfl hl (by decide) rfl (fun ls hl => ?_)
  refine lv_aload_n hx hb (pc := 5) dX8_lasts_5 rfl (lv_at hl 1 rfl) ?_
  refine va_get (v := .ref ld) hx hb hts (inX8_lasts_8) hown hKK.1 hP 0 rfl rfl 5 (by decide) (hts _ (List.mem_of_getElem? (i := 2) (by decide +kernel))) (fun _ h9 => h9) rfl (pc := 6) dX8_lasts_6 ?_
  refine lv_iload_n hx hb (pc := 9) dX8_lasts_9 rfl (lv_at hl 3 rfl) ?_
  refine nv_iald (v := nI (dF nn)) (i := nn) hx hb hKK hP 5 rfl (by omega) (by decide) (rfl) (pc := 10) dX8_lasts_10 ?_
  refine lv_istore (lv' := [(4, .int (nI (dF nn))), (3, .int (nI al)), (0, .ref wo), (1, .ref go), (2, .int (nI nn))]) hx hb (pc := 11) dX8_lasts_11 hl (by decide) rfl (fun ls hl => ?_)
  refine lv_iconst (v := nI 0) hx hb (pc := 13) dX8_lasts_13 (by decide) ?_
  refine lv_istore (lv' := [(5, .int (nI 0)), (4, .int (nI (dF nn))), (3, .int (nI al)), (0, .ref wo), (1, .ref go), (2, .int (nI nn))]) hx hb (pc := 14) dX8_lasts_14 hl (by decide) rfl (fun ls hl => ?_)
  have L16 : ∀ (fz : Nat) (t : Nat) (bf : Nat) (lf : Nat) (hfz : 16 - t < fz) (ht : t ≤ 16) (hsb : sub lf al) (hbf : bf ≤ al) (hg : lsGo (ldS k n E al) wF nn 16 al (dF nn) = lsGo (ldS k n E al) wF nn (16 - t) bf lf) (ls : Array Slot) (hl : lv_has ls 7 [(0, .ref wo), (1, .ref go), (2, .int (nI nn)), (3, .int (nI bf)), (4, .int (nI lf)), (5, .int (nI t))]), W p l e rmX8_lasts s m args below meth c s.heap [] 0 0 Q (F0 m 16 ls []) := by
    intro fz; induction fz with
    | zero => intro t bf lf hfz ht hsb hbf hg ls hl; exact absurd hfz (Nat.not_lt_zero _)
    | succ fz ih16 =>
      intro t bf lf hfz ht hsb hbf hg ls hl
      have hlf := sub_le hsb
      refine lv_iload hx hb (pc := 16) dX8_lasts_16 (lv_at hl 5 rfl) ?_
      refine lv_bipush (v := nI 16) hx hb (pc := 18) dX8_lasts_18 (by decide) ?_
      refine nv_icmp_ge (a := t) (b := 16) (tgt := 73) hx hb (pc := 20) dX8_lasts_20 (by decide) (by omega) (by omega) (fun c20 => ?_) (fun c20 => ?_)
      · have hv : lsGo (ldS k n E al) wF nn 16 al (dF nn) = lf := by
          rw [hg]
          first
          | rw [show 16 - t = 16 - (t + 1) + 1 by omega, lsGo_succ, if_pos (by omega)]
          | rw [show 16 - t = 0 by omega]; rfl
        refine lv_iload hx hb (pc := 73) dX8_lasts_73 (lv_at hl 4 rfl) ?_
        refine nv_if_eq (a := lf) (tgt := 82) hx hb (pc := 75) dX8_lasts_75 (by decide) (by omega) (fun c75 => ?_) (fun c75 => ?_)
        · refine lv_iconst (v := nI 0) hx hb (pc := 82) dX8_lasts_82 (by decide) ?_
          exact hret.1 83 _ (nI 0) dX8_lasts_83 (by first | (rw [hv, decide_eq_true (by omega)]; rfl) | (rw [hv, decide_eq_false (by omega)]; rfl)) (by decide)
        · refine lv_iconst (v := nI 1) hx hb (pc := 78) dX8_lasts_78 (by decide) ?_
          refine lv_goto (tgt := 83) hx hb (pc := 79) dX8_lasts_79 (by decide) ?_
          exact hret.1 83 _ (nI 1) dX8_lasts_83 (by first | (rw [hv, decide_eq_true (by omega)]; rfl) | (rw [hv, decide_eq_false (by omega)]; rfl)) (by decide)
      · refine lv_iload hx hb (pc := 23) dX8_lasts_23 (lv_at hl 4 rfl) ?_
        refine lv_iload_n hx hb (pc := 25) dX8_lasts_25 rfl (lv_at hl 3 rfl) ?_
        refine nv_icmp_eq (a := lf) (b := bf) (tgt := 73) hx hb (pc := 26) dX8_lasts_26 (by decide) (by omega) (by omega) (fun c26 => ?_) (fun c26 => ?_)
        · have hv : lsGo (ldS k n E al) wF nn 16 al (dF nn) = lf := by
            rw [hg]
            first
            | rw [show 16 - t = 16 - (t + 1) + 1 by omega, lsGo_succ, if_pos (by omega)]
            | rw [show 16 - t = 0 by omega]; rfl
          refine lv_iload hx hb (pc := 73) dX8_lasts_73 (lv_at hl 4 rfl) ?_
          refine nv_if_eq (a := lf) (tgt := 82) hx hb (pc := 75) dX8_lasts_75 (by decide) (by omega) (fun c75 => ?_) (fun c75 => ?_)
          · refine lv_iconst (v := nI 0) hx hb (pc := 82) dX8_lasts_82 (by decide) ?_
            exact hret.1 83 _ (nI 0) dX8_lasts_83 (by first | (rw [hv, decide_eq_true (by omega)]; rfl) | (rw [hv, decide_eq_false (by omega)]; rfl)) (by decide)
          · refine lv_iconst (v := nI 1) hx hb (pc := 78) dX8_lasts_78 (by decide) ?_
            refine lv_goto (tgt := 83) hx hb (pc := 79) dX8_lasts_79 (by decide) ?_
            exact hret.1 83 _ (nI 1) dX8_lasts_83 (by first | (rw [hv, decide_eq_true (by omega)]; rfl) | (rw [hv, decide_eq_false (by omega)]; rfl)) (by decide)
        · refine lv_iload hx hb (pc := 29) dX8_lasts_29 (lv_at hl 4 rfl) ?_
          refine nv_if_eq (a := lf) (tgt := 73) hx hb (pc := 31) dX8_lasts_31 (by decide) (by omega) (fun c31 => ?_) (fun c31 => ?_)
          · have hv : lsGo (ldS k n E al) wF nn 16 al (dF nn) = lf := by
              rw [hg]
              first
              | rw [show 16 - t = 16 - (t + 1) + 1 by omega, lsGo_succ, if_pos (by omega)]
              | rw [show 16 - t = 0 by omega]; rfl
            refine lv_iload hx hb (pc := 73) dX8_lasts_73 (lv_at hl 4 rfl) ?_
            refine nv_if_eq (a := lf) (tgt := 82) hx hb (pc := 75) dX8_lasts_75 (by decide) (by omega) (fun c75 => ?_) (fun c75 => absurd c31 c75)
            refine lv_iconst (v := nI 0) hx hb (pc := 82) dX8_lasts_82 (by decide) ?_
            exact hret.1 83 _ (nI 0) dX8_lasts_83 (by first | (rw [hv, decide_eq_true (by omega)]; rfl) | (rw [hv, decide_eq_false (by omega)]; rfl)) (by decide)
          · refine lv_iload hx hb (pc := 34) dX8_lasts_34 (lv_at hl 4 rfl) ?_
            refine lv_istore_n (lv' := [(3, .int (nI lf)), (0, .ref wo), (1, .ref go), (2, .int (nI nn)), (4, .int (nI lf)), (5, .int (nI t))]) hx hb (pc := 36) dX8_lasts_36 rfl hl (by decide) rfl (fun ls hl => ?_)
            refine lv_iconst (v := nI 0) hx hb (pc := 37) dX8_lasts_37 (by decide) ?_
            refine lv_istore (lv' := [(6, .int (nI 0)), (3, .int (nI lf)), (0, .ref wo), (1, .ref go), (2, .int (nI nn)), (4, .int (nI lf)), (5, .int (nI t))]) hx hb (pc := 38) dX8_lasts_38 hl (by decide) rfl (fun ls hl => ?_)
            have L40 : ∀ (fz : Nat) (i : Nat) (hfz : nn - i < fz) (hi : i ≤ nn) (hsi : sub (rsF (ldS k n E al) wF i lf) al) (ls : Array Slot) (hl : lv_has ls 7 [(0, .ref wo), (1, .ref go), (2, .int (nI nn)), (3, .int (nI lf)), (4, .int (nI (rsF (ldS k n E al) wF i lf))), (5, .int (nI t)), (6, .int (nI i))]), W p l e rmX8_lasts s m args below meth c s.heap [] 0 0 Q (F0 m 40 ls []) := by
              intro fz; induction fz with
              | zero => intro i hfz hi hsi ls hl; exact absurd hfz (Nat.not_lt_zero _)
              | succ fz ih40 =>
                intro i hfz hi hsi ls hl
                refine lv_iload hx hb (pc := 40) dX8_lasts_40 (lv_at hl 6 rfl) ?_
                refine lv_iload_n hx hb (pc := 42) dX8_lasts_42 rfl (lv_at hl 2 rfl) ?_
                refine nv_icmp_ge (a := i) (b := nn) (tgt := 67) hx hb (pc := 43) dX8_lasts_43 (by decide) (by omega) (by omega) (fun c43 => ?_) (fun c43 => ?_)
                · refine lv_iinc (v := nI (t + 1)) (lv' := [(5, .int (nI (t + 1))), (0, .ref wo), (1, .ref go), (2, .int (nI nn)), (3, .int (nI lf)), (4, .int (nI (rsF (ldS k n E al) wF i lf))), (6, .int (nI i))]) hx hb (pc := 67) dX8_lasts_67 hl (k := 5) rfl (rr_inc _) (by decide) rfl (fun ls hl => ?_)
                  refine lv_goto (tgt := 16) hx hb (pc := 70) dX8_lasts_70 (by decide) ?_
                  have e9 : i = nn := by omega
                  have hl : lv_has ls 7 [(5, .int (nI (t + 1))), (0, .ref wo), (1, .ref go), (2, .int (nI nn)), (3, .int (nI lf)), (4, .int (nI (rsF (ldS k n E al) wF nn lf))), (6, .int (nI i))] := by rw [show rsF (ldS k n E al) wF nn lf = rsF (ldS k n E al) wF i lf from by rw [e9]]; exact hl
                  exact ih16 (t + 1) lf (rsF (ldS k n E al) wF nn lf) (by omega) (by omega) (by rw [← e9]; exact hsi) (hlf) (by rw [hg, show 16 - t = 16 - (t + 1) + 1 by omega, lsGo_succ, if_neg (by omega)]) ls (lv_sub hl [1, 2, 3, 4, 5, 0] rfl)
                · have hsl := sub_le hsi
                  have hwi := hwF i (by omega)
                  have hst := c_X1_step l K go ge gt k n gw al lw E T (rsF (ldS k n E al) wF i lf) (wF i) (by omega) (by omega) hk4
                  rw [stp_eq hT hn hsi hal] at hst
                  refine lv_aload_n hx hb (pc := 46) dX8_lasts_46 rfl (lv_at hl 1 rfl) ?_
                  refine lv_iload hx hb (pc := 47) dX8_lasts_47 (lv_at hl 4 rfl) ?_
                  refine lv_aload_n hx hb (pc := 49) dX8_lasts_49 rfl (lv_at hl 0 rfl) ?_
                  refine va_get (v := .ref rw) hx hb hts (inX8_lasts_8) hown hKK.1 hP 0 rfl rfl 4 (by decide) (hts _ (List.mem_of_getElem? (i := 3) (by decide +kernel))) (fun _ h9 => h9) rfl (pc := 50) dX8_lasts_50 ?_
                  refine lv_iload hx hb (pc := 53) dX8_lasts_53 (lv_at hl 6 rfl) ?_
                  refine nv_iald (v := nI (wF i)) (i := i) hx hb hKK hP 4 rfl (by omega) (by decide) (rfl) (pc := 55) dX8_lasts_55 ?_
                  refine rr_callP (rv := .int (nI (ldS k n E al (rsF (ldS k n E al) wF i lf) (wF i)))) (pc := 56) (va_runV (As := [.int (nI (rsF (ldS k n E al) wF i lf)), .int (nI (wF i))]) (rest := []) ⟨hx, hb, hml, hown, hts⟩ (hst) (cwV 2 hts gX8_lasts_X1_step rfl rfl rfl (by decide +kernel) ⟨Nat.le_of_ble_eq_true rfl, Nat.le_of_ble_eq_true rfl⟩) (rr_preV hKK (hG) (va_recv hKK.1 hG (ci := 1) (q0 := 0) rfl rfl)) rfl rfl hl.1 rfl (lv_room (Nat.le_of_ble_eq_true rfl)) dX8_lasts_56 ⟨Nat.le_refl _, Nat.le_refl _⟩) ?_
                  refine lv_istore (lv' := [(4, .int (nI (ldS k n E al (rsF (ldS k n E al) wF i lf) (wF i)))), (0, .ref wo), (1, .ref go), (2, .int (nI nn)), (3, .int (nI lf)), (5, .int (nI t)), (6, .int (nI i))]) hx hb (pc := 59) dX8_lasts_59 hl (by decide) rfl (fun ls hl => ?_)
                  refine lv_iinc (v := nI (i + 1)) (lv' := [(6, .int (nI (i + 1))), (4, .int (nI (ldS k n E al (rsF (ldS k n E al) wF i lf) (wF i)))), (0, .ref wo), (1, .ref go), (2, .int (nI nn)), (3, .int (nI lf)), (5, .int (nI t))]) hx hb (pc := 61) dX8_lasts_61 hl (k := 6) rfl (rr_inc _) (by decide) rfl (fun ls hl => ?_)
                  refine lv_goto (tgt := 40) hx hb (pc := 64) dX8_lasts_64 (by decide) ?_
                  have hl : lv_has ls 7 [(6, .int (nI (i + 1))), (4, .int (nI (rsF (ldS k n E al) wF (i + 1) lf))), (0, .ref wo), (1, .ref go), (2, .int (nI nn)), (3, .int (nI lf)), (5, .int (nI t))] := by rw [show rsF (ldS k n E al) wF (i + 1) lf = ldS k n E al (rsF (ldS k n E al) wF i lf) (wF i) from rfl]; exact hl
                  exact ih40 (i + 1) (by omega) (by omega) (ldS_sub _ _ _ _ _ _) ls (lv_sub hl [2, 3, 4, 5, 1, 6, 0] rfl)
            have hl : lv_has ls 7 [(6, .int (nI 0)), (3, .int (nI lf)), (0, .ref wo), (1, .ref go), (2, .int (nI nn)), (4, .int (nI (rsF (ldS k n E al) wF 0 lf))), (5, .int (nI t))] := by rw [show rsF (ldS k n E al) wF 0 lf = lf from rfl]; exact hl
            exact L40 (8) 0 (by omega) (Nat.zero_le _) (hsb) ls (lv_sub hl [2, 3, 4, 1, 5, 6, 0] rfl)
  exact L16 (17) 0 al (dF nn) (by omega) (Nat.zero_le _) (hdF) (Nat.le_refl _) (rfl) ls (lv_sub hl [3, 4, 5, 2, 1, 0] rfl)

abbrev rmX8_turnToNextRow : Room := { frames := 0, cells := 0, slots := 0, locals := 0 }
theorem inX8_turnToNextRow_8 : ∀ w ∈ wsX80, w ∈ wsX8_turnToNextRow := fun _ h => List.mem_cons_of_mem _ (List.mem_append_right _ h)
set_option maxHeartbeats 4000000 in
set_option maxRecDepth 100000 in
theorem c_X8_turnToNextRow (l : Launch) (K : rr_K) (A : Nat → Prop) (wo mo bh my lg rw ld room : Nat) (bF : Nat → Int32) (yF gF : Nat → Int64) (wF dF : Nat → Nat) (k nn r : Nat) (hk2 : 2 ≤ k) (hk4 : k ≤ 4) (hn1 : 1 ≤ nn) (hnn : nn ≤ 7) (hw : ∀ i, i < nn → wF i = dgt k nn r i) (hD : va_D A (WW3 K wo mo bh my lg rw ld room bF yF gF wF dF)) : MetR l K yX8_turnToNextRow wsX8_turnToNextRow rmX8_turnToNextRow [.ref wo, .int (nI k), .int (nI nn)] (fun H => va_P K.1 vwCl (WW3 K wo mo bh my lg rw ld room bF yF gF wF dF) H) A (fun v H => ∃ ch wF', v = .int (nI ch) ∧ ch < nn ∧ (∀ i, i < nn → wF' i = dgt k nn (r + 1) i) ∧ (∀ i, i < ch → wF' i = wF i) ∧ va_P K.1 vwCl (WW3 K wo mo bh my lg rw ld room bF yF gF wF' dF) H) 0 0 := by
  refine metR_of (cc := cX8_turnToNextRow) (maxL := 4) (ret := (some .int)) (rt := .int) (by decide) rfl rfl rfl rfl (Nat.le_of_ble_eq_true rfl) ?_
  intro p e s m args below meth c Q ls hEnt hKK hX hret hl
  obtain ⟨hx, hb, hml, hown, hts⟩ := hEnt
  have hP : va_P K.1 vwCl (WW3 K wo mo bh my lg rw ld room bF yF gF wF dF) s.heap := hX
  have hl : lv_has ls 4 [(0, .ref wo), (1, .int (nI k)), (2, .int (nI nn))] := hl
  have hS : va_S A s.heap s.heap [] := va_S.rf
  refine lv_iload_n hx hb (pc := 0) dX8_turnToNextRow_0 rfl (lv_at hl 2 rfl) ?_
  refine lv_iconst (v := nI 1) hx hb (pc := 1) dX8_turnToNextRow_1 (by decide) ?_
  refine nv_isub (a := nn) (b := 1) hx hb (pc := 2) dX8_turnToNextRow_2 (by omega) ?_
  refine lv_istore_n (lv' := [(3, .int (nI (nn - 1))), (0, .ref wo), (1, .int (nI k)), (2, .int (nI nn))]) hx hb (pc := 3) dX8_turnToNextRow_3 rfl hl (by decide) rfl (fun ls hl => ?_)
  have L4 : ∀ (fz : Nat) (j : Nat) (wF1 : Nat → Nat) (H : Heap) (locs : List Loc) (hP : va_P K.1 vwCl (WW3 K wo mo bh my lg rw ld room bF yF gF wF1 dF) H) (hD : va_D A (WW3 K wo mo bh my lg rw ld room bF yF gF wF1 dF)) (hS : va_S A s.heap H locs) (hfz : j < fz) (hj : j < nn) (hm : r % k ^ (nn - 1 - j) = k ^ (nn - 1 - j) - 1) (hw1 : ∀ i, i ≤ j → wF1 i = wF i) (hz : ∀ i, j < i → i < nn → wF1 i = 0) (ls : Array Slot) (hl : lv_has ls 4 [(0, .ref wo), (1, .int (nI k)), (2, .int (nI nn)), (3, .int (nI j))]), W p l e rmX8_turnToNextRow s m args below meth c H locs 0 0 Q (F0 m 4 ls []) := by
    intro fz; induction fz with
    | zero => intro j wF1 H locs hP hD hS hfz hj hm hw1 hz ls hl; exact absurd hfz (Nat.not_lt_zero _)
    | succ fz ih4 =>
      intro j wF1 H locs hP hD hS hfz hj hm hw1 hz ls hl
      refine lv_iload_n hx hb (pc := 4) dX8_turnToNextRow_4 rfl (lv_at hl 3 rfl) ?_
      refine nv_if_le (a := j) (tgt := 45) hx hb (pc := 5) dX8_turnToNextRow_5 (by decide) (by omega) (fun c5 => ?_) (fun c5 => ?_)
      · obtain rfl : j = 0 := by omega
        refine lv_aload_n hx hb (pc := 45) dX8_turnToNextRow_45 rfl (lv_at hl 0 rfl) ?_
        refine va_get (v := .ref rw) hx hb hts (inX8_turnToNextRow_8) hown hKK.1 hP 0 rfl rfl 4 (by decide) (hts _ (List.mem_of_getElem? (i := 1) (by decide +kernel))) (fun _ h9 => h9) rfl (pc := 46) dX8_turnToNextRow_46 ?_
        refine lv_iconst (v := nI 0) hx hb (pc := 49) dX8_turnToNextRow_49 (by decide) ?_
        refine lv_dup2_11 hx hb (pc := 50) dX8_turnToNextRow_50 rfl rfl ?_
        refine nv_iald (v := nI (wF1 0)) (i := 0) hx hb hKK hP 4 rfl (by omega) (by decide) (rfl) (pc := 51) dX8_turnToNextRow_51 ?_
        refine lv_iconst (v := nI 1) hx hb (pc := 52) dX8_turnToNextRow_52 (by decide) ?_
        refine nv_iadd (a := (wF1 0)) (b := 1) hx hb (pc := 53) dX8_turnToNextRow_53 ?_
        refine nv_iast (f := wF1) (x := ((wF1 0) + 1)) (ws' := WW3 K wo mo bh my lg rw ld room bF yF gF (va_up wF1 0 ((wF1 0) + 1)) dF) (i := 0) hx hb hKK hP hD hS 4 rfl (by omega) (by decide) (rfl) (pc := 54) dX8_turnToNextRow_54 (fun H locs hP hD hS => ?_)
        refine lv_iconst (v := nI 0) hx hb (pc := 55) dX8_turnToNextRow_55 (by decide) ?_
        have hdg : ∀ i, i < nn → va_up wF1 0 (wF1 0 + 1) i = dgt k nn (r + 1) i := fun i hi => by
          rw [nr_dig (by omega) hj hm (fun q => absurd q (Nat.lt_irrefl _)) i hi]
          unfold va_up
          rcases Nat.lt_trichotomy i 0 with q | q | q
          · rw [if_neg (by omega), if_pos q, hw1 i (by omega), hw i hi]
          · rw [if_pos q, if_neg (by omega), if_pos q, hw1 0 (Nat.le_refl _), hw 0 hj]
          · rw [if_neg (by omega), if_neg (by omega), if_neg (by omega), hz i q hi]
        exact hret.1 _ _ 0 0 56 _ (nI 0) dX8_turnToNextRow_56 (by omega) (by omega) hS (⟨0, _, rfl, by omega, hdg, fun i hi => absurd hi (Nat.not_lt_zero _), hP⟩) (rfl)
      · have hdl : wF1 j < k := by
          rw [hw1 j (Nat.le_refl _), hw j hj, dgt_pos (by omega)]
          exact Nat.mod_lt _ (by omega)
        refine lv_aload_n hx hb (pc := 8) dX8_turnToNextRow_8 rfl (lv_at hl 0 rfl) ?_
        refine va_get (v := .ref rw) hx hb hts (inX8_turnToNextRow_8) hown hKK.1 hP 0 rfl rfl 4 (by decide) (hts _ (List.mem_of_getElem? (i := 1) (by decide +kernel))) (fun _ h9 => h9) rfl (pc := 9) dX8_turnToNextRow_9 ?_
        refine lv_iload_n hx hb (pc := 12) dX8_turnToNextRow_12 rfl (lv_at hl 3 rfl) ?_
        refine nv_iald (v := nI (wF1 j)) (i := j) hx hb hKK hP 4 rfl (by omega) (by decide) (rfl) (pc := 13) dX8_turnToNextRow_13 ?_
        refine lv_iload_n hx hb (pc := 14) dX8_turnToNextRow_14 rfl (lv_at hl 1 rfl) ?_
        refine lv_iconst (v := nI 1) hx hb (pc := 15) dX8_turnToNextRow_15 (by decide) ?_
        refine nv_isub (a := k) (b := 1) hx hb (pc := 16) dX8_turnToNextRow_16 (by omega) ?_
        refine nv_icmp_ge (a := (wF1 j)) (b := (k - 1)) (tgt := 32) hx hb (pc := 17) dX8_turnToNextRow_17 (by decide) (by omega) (by omega) (fun c17 => ?_) (fun c17 => ?_)
        · refine lv_aload_n hx hb (pc := 32) dX8_turnToNextRow_32 rfl (lv_at hl 0 rfl) ?_
          refine va_get (v := .ref rw) hx hb hts (inX8_turnToNextRow_8) hown hKK.1 hP 0 rfl rfl 4 (by decide) (hts _ (List.mem_of_getElem? (i := 1) (by decide +kernel))) (fun _ h9 => h9) rfl (pc := 33) dX8_turnToNextRow_33 ?_
          refine lv_iload_n hx hb (pc := 36) dX8_turnToNextRow_36 rfl (lv_at hl 3 rfl) ?_
          refine lv_iconst (v := nI 0) hx hb (pc := 37) dX8_turnToNextRow_37 (by decide) ?_
          refine nv_iast (f := wF1) (x := 0) (ws' := WW3 K wo mo bh my lg rw ld room bF yF gF (va_up wF1 j 0) dF) (i := j) hx hb hKK hP hD hS 4 rfl (by omega) (by decide) (rfl) (pc := 38) dX8_turnToNextRow_38 (fun H locs hP hD hS => ?_)
          refine lv_iinc (v := nI (j - 1)) (lv' := [(3, .int (nI (j - 1))), (0, .ref wo), (1, .int (nI k)), (2, .int (nI nn))]) hx hb (pc := 39) dX8_turnToNextRow_39 hl (k := 3) rfl (rr_dec (by omega)) (by decide) rfl (fun ls hl => ?_)
          refine lv_goto (tgt := 4) hx hb (pc := 42) dX8_turnToNextRow_42 (by decide) ?_
          have hm2 := nr_back (by omega) (by omega) hj hm (by rw [← dgt_pos (by omega), ← hw j hj, ← hw1 j (Nat.le_refl _)]; omega)
          have hwb : ∀ i, i ≤ j - 1 → va_up wF1 j 0 i = wF i := fun i hi => by
            unfold va_up
            rw [if_neg (by omega), hw1 i (by omega)]
          have hzb : ∀ i, j - 1 < i → i < nn → va_up wF1 j 0 i = 0 := fun i h1 h2 => by
            unfold va_up
            split
            · rfl
            · exact hz i (by omega) h2
          exact ih4 (j - 1) (va_up wF1 j 0) _ _ hP hD hS (by omega) (by omega) (hm2) (hwb) (hzb) ls (lv_sub hl [1, 2, 3, 0] rfl)
        · refine lv_aload_n hx hb (pc := 20) dX8_turnToNextRow_20 rfl (lv_at hl 0 rfl) ?_
          refine va_get (v := .ref rw) hx hb hts (inX8_turnToNextRow_8) hown hKK.1 hP 0 rfl rfl 4 (by decide) (hts _ (List.mem_of_getElem? (i := 1) (by decide +kernel))) (fun _ h9 => h9) rfl (pc := 21) dX8_turnToNextRow_21 ?_
          refine lv_iload_n hx hb (pc := 24) dX8_turnToNextRow_24 rfl (lv_at hl 3 rfl) ?_
          refine lv_dup2_11 hx hb (pc := 25) dX8_turnToNextRow_25 rfl rfl ?_
          refine nv_iald (v := nI (wF1 j)) (i := j) hx hb hKK hP 4 rfl (by omega) (by decide) (rfl) (pc := 26) dX8_turnToNextRow_26 ?_
          refine lv_iconst (v := nI 1) hx hb (pc := 27) dX8_turnToNextRow_27 (by decide) ?_
          refine nv_iadd (a := (wF1 j)) (b := 1) hx hb (pc := 28) dX8_turnToNextRow_28 ?_
          refine nv_iast (f := wF1) (x := ((wF1 j) + 1)) (ws' := WW3 K wo mo bh my lg rw ld room bF yF gF (va_up wF1 j ((wF1 j) + 1)) dF) (i := j) hx hb hKK hP hD hS 4 rfl (by omega) (by decide) (rfl) (pc := 29) dX8_turnToNextRow_29 (fun H locs hP hD hS => ?_)
          refine lv_iload_n hx hb (pc := 30) dX8_turnToNextRow_30 rfl (lv_at hl 3 rfl) ?_
          have hdg : ∀ i, i < nn → va_up wF1 j (wF1 j + 1) i = dgt k nn (r + 1) i := fun i hi => by
            rw [nr_dig (by omega) hj hm (fun _ => by rw [← dgt_pos (by omega), ← hw j hj, ← hw1 j (Nat.le_refl _)]; omega) i hi]
            unfold va_up
            rcases Nat.lt_trichotomy i j with q | q | q
            · rw [if_neg (by omega), if_pos q, hw1 i (by omega), hw i hi]
            · rw [if_pos q, if_neg (by omega), if_pos q, hw1 j (Nat.le_refl _), hw j hj]
            · rw [if_neg (by omega), if_neg (by omega), if_neg (by omega), hz i q hi]
          have hkp : ∀ i, i < j → va_up wF1 j (wF1 j + 1) i = wF i := fun i hi => by
            unfold va_up
            rw [if_neg (by omega), hw1 i (by omega)]
          exact hret.1 _ _ 0 0 31 _ (nI j) dX8_turnToNextRow_31 (by omega) (by omega) hS (⟨j, _, rfl, hj, hdg, hkp, hP⟩) (rfl)
  exact L4 (nn) (nn - 1) wF _ _ hP hD hS (by omega) (by omega) (by rw [Nat.sub_self, Nat.pow_zero, Nat.mod_one]) (fun _ _ => rfl) (fun i h1 h2 => by omega) ls (lv_sub hl [1, 2, 3, 0] rfl)

abbrev rmX8_comingRound : Room := { frames := 2, cells := 0, slots := 0, locals := 49 }
theorem inX8_comingRound_1 : ∀ w ∈ wsX10, w ∈ wsX8_comingRound := fun _ h => List.mem_cons_of_mem _ (List.mem_append_right _ h)
theorem inX8_comingRound_8 : ∀ w ∈ wsX80, w ∈ wsX8_comingRound := fun _ h => List.mem_cons_of_mem _ (List.mem_append_left _ (List.mem_append_right _ h))
set_option maxHeartbeats 4000000 in
set_option maxRecDepth 100000 in
theorem c_X8_comingRound (l : Launch) (K : rr_K) (A : Nat → Prop) (wo mo bh my lg rw ld room : Nat) (bF : Nat → Int32) (yF gF : Nat → Int64) (wF dF : Nat → Nat) (go ge gt k n gw al lw : Nat) (E T : Nat → Nat) (nn : Nat) (hk2 : 2 ≤ k) (hk4 : k ≤ 4) (hn : n ≤ 16) (hal : al < 2 ^ n) (hT : TInv k n al E T) (hn1 : 1 ≤ nn) (hnn : nn ≤ 7) (hD : va_D A (WW3 K wo mo bh my lg rw ld room bF yF gF wF dF)) (hGA : ∀ (k_ : Nat) (q_ : Nat × va_E), (GW K go ge gt k n gw al lw E T)[k_]? = some q_ → ¬ A q_.1) : MetR l K yX8_comingRound wsX8_comingRound rmX8_comingRound [.ref wo, .ref go, .int (nI nn)] (fun H => va_P K.1 vwCl (WW3 K wo mo bh my lg rw ld room bF yF gF wF dF) H ∧ va_P K.1 vwCl (GW K go ge gt k n gw al lw E T) H) A (fun v H => v = .int (nI (crN (lgR (ldS k n E al) k nn al) (k ^ nn))) ∧ ∃ wF' dF', va_P K.1 vwCl (WW3 K wo mo bh my lg rw ld room bF yF gF wF' dF') H) 0 0 := by
  refine metR_of (cc := cX8_comingRound) (maxL := 8) (ret := (some .int)) (rt := .int) (by decide) rfl rfl rfl rfl (Nat.le_of_ble_eq_true rfl) ?_
  intro p e s m args below meth c Q ls hEnt hKK hX hret hl
  obtain ⟨hx, hb, hml, hown, hts⟩ := hEnt
  obtain ⟨hP, hG⟩ := hX
  have hP : va_P K.1 vwCl (WW3 K wo mo bh my lg rw ld room bF yF gF wF dF) s.heap := hP
  have hG : va_P K.1 vwCl (GW K go ge gt k n gw al lw E T) s.heap := hG
  have hl : lv_has ls 8 [(0, .ref wo), (1, .ref go), (2, .int (nI nn))] := hl
  have hS : va_S A s.heap s.heap [] := va_S.rf
  have pa : 2 ^ n ≤ 65536 := Nat.le_trans (Nat.pow_le_pow_right (by decide) hn) (by decide)
  have hkn : k ^ nn ≤ 65536 := Nat.le_trans (Nat.pow_le_pow_left hk4 nn) (Nat.le_trans (Nat.pow_le_pow_right (by decide) (show nn ≤ 8 by omega)) (by decide))
  refine lv_aload_n hx hb (pc := 0) dX8_comingRound_0 rfl (lv_at hl 0 rfl) ?_
  refine va_get (v := .ref rw) hx hb hts (inX8_comingRound_8) hown hKK.1 hP 0 rfl rfl 4 (by decide) (hts _ (List.mem_of_getElem? (i := 1) (by decide +kernel))) (fun _ h9 => h9) rfl (pc := 1) dX8_comingRound_1 ?_
  have hP : va_P K.1 vwCl [(wo, .inr (8, [.ref mo, .ref bh, .ref my, .ref lg, .ref rw, .ref ld])), (bh, .inl (K.2.1, 4 * room, .inl (bF))), (my, .inl (K.2.2.1, room, .inr (.inl (yF)))), (lg, .inl (K.2.2.1, room, .inr (.inl (gF)))), (ld, .inl (K.2.1, 8, .inl (fun j => nI (dF j)))), (rw, .inl (K.2.1, 7, .inl (fun j => nI (wF j))))] s.heap := hP.sub [0, 1, 2, 3, 5, 4] rfl
  have hD : va_D A [(wo, .inr (8, [.ref mo, .ref bh, .ref my, .ref lg, .ref rw, .ref ld])), (bh, .inl (K.2.1, 4 * room, .inl (bF))), (my, .inl (K.2.2.1, room, .inr (.inl (yF)))), (lg, .inl (K.2.2.1, room, .inr (.inl (gF)))), (ld, .inl (K.2.1, 8, .inl (fun j => nI (dF j)))), (rw, .inl (K.2.1, 7, .inl (fun j => nI (wF j))))] := hD.sub [0, 1, 2, 3, 5, 4] (by decide) rfl
  refine lv_iconst (v := nI 0) hx hb (pc := 4) dX8_comingRound_4 (by decide) ?_
  have hP : va_P K.1 vwCl ([(wo, .inr (8, [.ref mo, .ref bh, .ref my, .ref lg, .ref rw, .ref ld])), (bh, .inl (K.2.1, 4 * room, .inl (bF))), (my, .inl (K.2.2.1, room, .inr (.inl (yF)))), (lg, .inl (K.2.2.1, room, .inr (.inl (gF)))), (ld, .inl (K.2.1, 8, .inl (fun j => nI (dF j))))] ++ RA K rw 7 wF) s.heap := hP
  have hD : va_D A ([(wo, .inr (8, [.ref mo, .ref bh, .ref my, .ref lg, .ref rw, .ref ld])), (bh, .inl (K.2.1, 4 * room, .inl (bF))), (my, .inl (K.2.2.1, room, .inr (.inl (yF)))), (lg, .inl (K.2.2.1, room, .inr (.inl (gF)))), (ld, .inl (K.2.1, 8, .inl (fun j => nI (dF j))))] ++ RA K rw 7 wF) := hD
  have hDc := rr_AW (rr_Dright hD)
  refine rr_callV (pc := 5) (va_runS (As := [.ref rw, .int (nI 0)]) (rest := []) ⟨hx, hb, hml, hown, hts⟩ (c_J7_fill_53178 l K (AW (RA K rw 7 wF)) rw 7 0 wF (by decide) hDc) (va_cwS 2 hts gX8_comingRound_J7_fill_53178 rfl rfl rfl (by decide +kernel) ⟨Nat.le_of_ble_eq_true rfl, Nat.le_of_ble_eq_true rfl⟩) (rr_preS hKK (rr_right hP)) rfl rfl hl.1 rfl (lv_room (Nat.le_of_ble_eq_true rfl)) dX8_comingRound_5 ⟨by omega, by omega⟩) hS (rr_AW_in (rr_Dright hD)) (fun H locs hY hsz hfr hS => ?_)
  have hP1 := hY
  obtain ⟨hP, hD⟩ := rr_app2 hP hD hfr hP1 rfl
  have hD : va_D A ([(wo, .inr (8, [.ref mo, .ref bh, .ref my, .ref lg, .ref rw, .ref ld])), (bh, .inl (K.2.1, 4 * room, .inl (bF))), (my, .inl (K.2.2.1, room, .inr (.inl (yF)))), (lg, .inl (K.2.2.1, room, .inr (.inl (gF)))), (ld, .inl (K.2.1, 8, .inl (fun j => nI (dF j)))), (rw, .inl (K.2.1, 7, .inl (fun j => nI (((putZ wF (fun _ => 0) 7)) j))))]) := hD
  have hP : va_P K.1 vwCl ([(wo, .inr (8, [.ref mo, .ref bh, .ref my, .ref lg, .ref rw, .ref ld])), (bh, .inl (K.2.1, 4 * room, .inl (bF))), (my, .inl (K.2.2.1, room, .inr (.inl (yF)))), (lg, .inl (K.2.2.1, room, .inr (.inl (gF)))), (ld, .inl (K.2.1, 8, .inl (fun j => nI (dF j)))), (rw, .inl (K.2.1, 7, .inl (fun j => nI (((putZ wF (fun _ => 0) 7)) j))))]) H := hP
  have hP : va_P K.1 vwCl (WW3 K wo mo bh my lg rw ld room bF yF gF (putZ wF (fun _ => 0) 7) dF) H := hP.sub [0, 1, 2, 3, 5, 4] rfl
  have hD : va_D A (WW3 K wo mo bh my lg rw ld room bF yF gF (putZ wF (fun _ => 0) 7) dF) := hD.sub [0, 1, 2, 3, 5, 4] (by decide) rfl
  refine lv_aload_n hx hb (pc := 8) dX8_comingRound_8 rfl (lv_at hl 0 rfl) ?_
  refine va_get (v := .ref ld) hx hb hts (inX8_comingRound_8) hown hKK.1 hP 0 rfl rfl 5 (by decide) (hts _ (List.mem_of_getElem? (i := 2) (by decide +kernel))) (fun _ h9 => h9) rfl (pc := 9) dX8_comingRound_9 ?_
  refine lv_iconst (v := nI 0) hx hb (pc := 12) dX8_comingRound_12 (by decide) ?_
  refine lv_aload_n hx hb (pc := 13) dX8_comingRound_13 rfl (lv_at hl 1 rfl) ?_
  refine va_get (v := .int (nI al)) hx hb hts (inX8_comingRound_1) hown hKK.1 (rr_ro (A := A) hG hGA hS) 0 rfl rfl 3 (by decide) (hts _ (List.mem_of_getElem? (i := 3) (by decide +kernel))) (fun _ h9 => h9) rfl (pc := 14) dX8_comingRound_14 ?_
  refine nv_iast (f := dF) (x := al) (ws' := WW3 K wo mo bh my lg rw ld room bF yF gF (putZ wF (fun _ => 0) 7) (va_up dF 0 al)) (i := 0) hx hb hKK hP hD hS 5 rfl (by omega) (by decide) (rfl) (pc := 17) dX8_comingRound_17 (fun H locs hP hD hS => ?_)
  refine lv_aload_n hx hb (pc := 18) dX8_comingRound_18 rfl (lv_at hl 1 rfl) ?_
  refine va_get (v := .int (nI k)) hx hb hts (inX8_comingRound_1) hown hKK.1 (rr_ro (A := A) hG hGA hS) 0 rfl rfl 0 (by decide) (hts _ (List.mem_of_getElem? (i := 4) (by decide +kernel))) (fun _ h9 => h9) rfl (pc := 19) dX8_comingRound_19 ?_
  refine lv_iload_n hx hb (pc := 22) dX8_comingRound_22 rfl (lv_at hl 2 rfl) ?_
  refine rr_callP (rv := .int (nI (k ^ nn))) (pc := 23) (va_runSN (As := [.int (nI k), .int (nI nn)]) (rest := []) ⟨hx, hb, hml, hown, hts⟩ (c_X9_power l K k nn (by omega) (by omega)) ⟨va_cnB 2 hts gX8_comingRound_X9_power_n88 rfl rfl rfl (hKK.2 _ (List.mem_of_getElem? (i := 4) rfl)) (hts _ (List.mem_of_getElem? (i := 10) (by decide +kernel))) (by decide +kernel) ⟨Nat.le_of_ble_eq_true rfl, Nat.le_of_ble_eq_true rfl⟩, hts _ (List.mem_of_getElem? (i := 9) (by decide +kernel)), trivial⟩ (rr_preS hKK (trivial)) rfl rfl hl.1 rfl (lv_room (Nat.le_of_ble_eq_true rfl)) dX8_comingRound_23 ⟨Nat.le_refl _, Nat.le_refl _⟩) ?_
  refine lv_istore_n (lv' := [(3, .int (nI (k ^ nn))), (0, .ref wo), (1, .ref go), (2, .int (nI nn))]) hx hb (pc := 26) dX8_comingRound_26 rfl hl (by decide) rfl (fun ls hl => ?_)
  refine lv_iconst (v := nI 0) hx hb (pc := 27) dX8_comingRound_27 (by decide) ?_
  refine lv_istore (lv' := [(4, .int (nI 0)), (3, .int (nI (k ^ nn))), (0, .ref wo), (1, .ref go), (2, .int (nI nn))]) hx hb (pc := 28) dX8_comingRound_28 hl (by decide) rfl (fun ls hl => ?_)
  refine lv_iconst (v := nI 0) hx hb (pc := 30) dX8_comingRound_30 (by decide) ?_
  refine lv_istore (lv' := [(5, .int (nI 0)), (4, .int (nI 0)), (3, .int (nI (k ^ nn))), (0, .ref wo), (1, .ref go), (2, .int (nI nn))]) hx hb (pc := 31) dX8_comingRound_31 hl (by decide) rfl (fun ls hl => ?_)
  refine lv_iconst (v := nI 0) hx hb (pc := 33) dX8_comingRound_33 (by decide) ?_
  refine lv_istore (lv' := [(6, .int (nI 0)), (5, .int (nI 0)), (4, .int (nI 0)), (3, .int (nI (k ^ nn))), (0, .ref wo), (1, .ref go), (2, .int (nI nn))]) hx hb (pc := 34) dX8_comingRound_34 hl (by decide) rfl (fun ls hl => ?_)
  have L36 : ∀ (fz : Nat) (r : Nat) (ch : Nat) (wF1 : Nat → Nat) (dF1 : Nat → Nat) (H : Heap) (locs : List Loc) (hP : va_P K.1 vwCl (WW3 K wo mo bh my lg rw ld room bF yF gF wF1 dF1) H) (hD : va_D A (WW3 K wo mo bh my lg rw ld room bF yF gF wF1 dF1)) (hS : va_S A s.heap H locs) (hfz : k ^ nn - r < fz) (hr : r ≤ k ^ nn) (hch : ch ≤ nn) (hw : ∀ i, i < nn → wF1 i = dgt k nn r i) (hd1 : ∀ i, i ≤ ch → dF1 i = rsF (ldS k n E al) wF1 i al) (ls : Array Slot) (hl : lv_has ls 8 [(0, .ref wo), (1, .ref go), (2, .int (nI nn)), (3, .int (nI (k ^ nn))), (4, .int (nI (crN (lgR (ldS k n E al) k nn al) r))), (5, .int (nI ch)), (6, .int (nI r))]), W p l e rmX8_comingRound s m args below meth c H locs 0 0 Q (F0 m 36 ls []) := by
    intro fz; induction fz with
    | zero => intro r ch wF1 dF1 H locs hP hD hS hfz hr hch hw hd1 ls hl; exact absurd hfz (Nat.not_lt_zero _)
    | succ fz ih36 =>
      intro r ch wF1 dF1 H locs hP hD hS hfz hr hch hw hd1 ls hl
      have hcr := crN_le (lgR (ldS k n E al) k nn al) r
      refine lv_iload hx hb (pc := 36) dX8_comingRound_36 (lv_at hl 6 rfl) ?_
      refine lv_iload_n hx hb (pc := 38) dX8_comingRound_38 rfl (lv_at hl 3 rfl) ?_
      refine nv_icmp_ge (a := r) (b := (k ^ nn)) (tgt := 114) hx hb (pc := 39) dX8_comingRound_39 (by decide) (by omega) (by omega) (fun c39 => ?_) (fun c39 => ?_)
      · refine lv_iload hx hb (pc := 114) dX8_comingRound_114 (lv_at hl 4 rfl) ?_
        have e8 : r = k ^ nn := by omega
        exact hret.1 _ _ 0 0 116 _ (nI (crN (lgR (ldS k n E al) k nn al) r)) dX8_comingRound_116 (by omega) (by omega) hS (⟨by rw [e8], _, _, hP⟩) (rfl)
      · have hrk : r < k ^ nn := by omega
        have hwk : ∀ j, j < nn → wF1 j < k := fun j hj => by rw [hw j hj]; exact dgt_lt (by omega) (by omega) hrk
        refine lv_iload hx hb (pc := 42) dX8_comingRound_42 (lv_at hl 5 rfl) ?_
        refine lv_istore (lv' := [(7, .int (nI ch)), (0, .ref wo), (1, .ref go), (2, .int (nI nn)), (3, .int (nI (k ^ nn))), (4, .int (nI (crN (lgR (ldS k n E al) k nn al) r))), (5, .int (nI ch)), (6, .int (nI r))]) hx hb (pc := 44) dX8_comingRound_44 hl (by decide) rfl (fun ls hl => ?_)
        have L46 : ∀ (fz : Nat) (j : Nat) (dF2 : Nat → Nat) (H : Heap) (locs : List Loc) (hP : va_P K.1 vwCl (WW3 K wo mo bh my lg rw ld room bF yF gF wF1 dF2) H) (hD : va_D A (WW3 K wo mo bh my lg rw ld room bF yF gF wF1 dF2)) (hS : va_S A s.heap H locs) (hfz : nn - j < fz) (hj : j ≤ nn) (hcj : ch ≤ j) (hd2 : ∀ i, i ≤ j → dF2 i = rsF (ldS k n E al) wF1 i al) (ls : Array Slot) (hl : lv_has ls 8 [(0, .ref wo), (1, .ref go), (2, .int (nI nn)), (3, .int (nI (k ^ nn))), (4, .int (nI (crN (lgR (ldS k n E al) k nn al) r))), (6, .int (nI r)), (7, .int (nI j))]), W p l e rmX8_comingRound s m args below meth c H locs 0 0 Q (F0 m 46 ls []) := by
          intro fz; induction fz with
          | zero => intro j dF2 H locs hP hD hS hfz hj hcj hd2 ls hl; exact absurd hfz (Nat.not_lt_zero _)
          | succ fz ih46 =>
            intro j dF2 H locs hP hD hS hfz hj hcj hd2 ls hl
            have hsj : sub (rsF (ldS k n E al) wF1 j al) al := by
              rcases Nat.eq_zero_or_pos j with q | q
              · rw [q]; exact sub_refl _
              · obtain ⟨j9, rfl⟩ : ∃ j9, j = j9 + 1 := ⟨j - 1, by omega⟩
                exact ldS_sub _ _ _ _ _ _
            have hsl := sub_le hsj
            refine lv_iload hx hb (pc := 46) dX8_comingRound_46 (lv_at hl 6 rfl) ?_
            refine lv_iload_n hx hb (pc := 48) dX8_comingRound_48 rfl (lv_at hl 2 rfl) ?_
            refine nv_icmp_ge (a := j) (b := nn) (tgt := 85) hx hb (pc := 49) dX8_comingRound_49 (by decide) (by omega) (by omega) (fun c49 => ?_) (fun c49 => ?_)
            · have e9 : j = nn := by omega
              have hdn : dF2 nn = rsF (ldS k n E al) wF1 nn al := hd2 nn (by omega)
              refine lv_aload_n hx hb (pc := 85) dX8_comingRound_85 rfl (lv_at hl 0 rfl) ?_
              refine lv_aload_n hx hb (pc := 86) dX8_comingRound_86 rfl (lv_at hl 1 rfl) ?_
              refine lv_iload_n hx hb (pc := 87) dX8_comingRound_87 rfl (lv_at hl 2 rfl) ?_
              refine rr_callP (rv := .int (bI (decide (lsGo (ldS k n E al) wF1 nn 16 al (dF2 nn) ≠ 0)))) (pc := 88) (va_runV (As := [.ref go, .int (nI nn)]) (rest := []) ⟨hx, hb, hml, hown, hts⟩ (c_X8_lasts l K wo mo bh my lg rw ld room bF yF gF wF1 dF2 go ge gt k n gw al lw E T nn hk4 hn hal hT hnn hwk (by rw [hdn, ← e9]; exact hsj)) (cwV 2 hts gX8_comingRound_X8_lasts rfl rfl rfl (by decide +kernel) ⟨Nat.le_of_ble_eq_true rfl, Nat.le_of_ble_eq_true rfl⟩) (rr_preV hKK (⟨hP, (rr_ro (A := A) hG hGA hS)⟩) (va_recv hKK.1 hP (ci := 8) (q0 := 0) rfl rfl)) rfl rfl hl.1 rfl (lv_room (Nat.le_of_ble_eq_true rfl)) dX8_comingRound_88 ⟨Nat.le_refl _, Nat.le_refl _⟩) ?_
              refine rr_top (v := .int (bI (lgR (ldS k n E al) k nn al r))) (by rw [lgR, hdn, lsGo_congr hw, rsF_congr hw]) ?_
              refine nv_if_eq_b (a := (lgR (ldS k n E al) k nn al r)) (tgt := 97) hx hb (pc := 91) dX8_comingRound_91 (by decide) (fun c91 => ?_) (fun c91 => ?_)
              · refine lv_aload_n hx hb (pc := 97) dX8_comingRound_97 rfl (lv_at hl 0 rfl) ?_
                refine lv_aload_n hx hb (pc := 98) dX8_comingRound_98 rfl (lv_at hl 1 rfl) ?_
                refine va_get (v := .int (nI k)) hx hb hts (inX8_comingRound_1) hown hKK.1 (rr_ro (A := A) hG hGA hS) 0 rfl rfl 0 (by decide) (hts _ (List.mem_of_getElem? (i := 4) (by decide +kernel))) (fun _ h9 => h9) rfl (pc := 99) dX8_comingRound_99 ?_
                refine lv_iload_n hx hb (pc := 102) dX8_comingRound_102 rfl (lv_at hl 2 rfl) ?_
                refine rr_callR (pc := 103) (va_runV (As := [.int (nI k), .int (nI nn)]) (rest := []) ⟨hx, hb, hml, hown, hts⟩ (c_X8_turnToNextRow l K A wo mo bh my lg rw ld room bF yF gF wF1 dF2 k nn r hk2 hk4 hn1 hnn hw hD) (cwV 2 hts gX8_comingRound_X8_turnToNextRow rfl rfl rfl (by decide +kernel) ⟨Nat.le_of_ble_eq_true rfl, Nat.le_of_ble_eq_true rfl⟩) (rr_preV hKK (hP) (va_recv hKK.1 hP (ci := 8) (q0 := 0) rfl rfl)) rfl rfl hl.1 rfl (lv_room (Nat.le_of_ble_eq_true rfl)) dX8_comingRound_103 ⟨by omega, by omega⟩) hS (fun _ h => h) (fun v H locs hY hsz hfr hS => ?_)
                obtain ⟨ch', wF3, rfl, hch', hw', hkp', hP⟩ := hY
                have hD : va_D A (WW3 K wo mo bh my lg rw ld room bF yF gF wF3 dF2) := rr_D hD rfl
                have hP : va_P K.1 vwCl (WW3 K wo mo bh my lg rw ld room bF yF gF wF3 dF2) H := hP
                refine lv_istore (lv' := [(5, .int (nI ch')), (0, .ref wo), (1, .ref go), (2, .int (nI nn)), (3, .int (nI (k ^ nn))), (4, .int (nI (crN (lgR (ldS k n E al) k nn al) r))), (6, .int (nI r)), (7, .int (nI j))]) hx hb (pc := 106) dX8_comingRound_106 hl (by decide) rfl (fun ls hl => ?_)
                refine lv_iinc (v := nI (r + 1)) (lv' := [(6, .int (nI (r + 1))), (5, .int (nI ch')), (0, .ref wo), (1, .ref go), (2, .int (nI nn)), (3, .int (nI (k ^ nn))), (4, .int (nI (crN (lgR (ldS k n E al) k nn al) r))), (7, .int (nI j))]) hx hb (pc := 108) dX8_comingRound_108 hl (k := 6) rfl (rr_inc _) (by decide) rfl (fun ls hl => ?_)
                refine lv_goto (tgt := 36) hx hb (pc := 111) dX8_comingRound_111 (by decide) ?_
                have hl : lv_has ls 8 [(6, .int (nI (r + 1))), (5, .int (nI ch')), (0, .ref wo), (1, .ref go), (2, .int (nI nn)), (3, .int (nI (k ^ nn))), (4, .int (nI (crN (lgR (ldS k n E al) k nn al) (r + 1)))), (7, .int (nI j))] := by rw [show crN (lgR (ldS k n E al) k nn al) (r + 1) = crN (lgR (ldS k n E al) k nn al) r from by first | rw [crN_succ, if_pos c91] | rw [crN_succ, if_neg (by rw [c91]; decide)]]; exact hl
                exact ih36 (r + 1) ch' wF3 dF2 _ _ hP hD hS (by omega) (by omega) (by omega) (hw') (fun i hi => by rw [hd2 i (by omega)]; exact rsF_congr (fun j hj => (hkp' j (by omega)).symm)) ls (lv_sub hl [2, 3, 4, 5, 6, 1, 0] rfl)
              · refine lv_iinc (v := nI ((crN (lgR (ldS k n E al) k nn al) r) + 1)) (lv' := [(4, .int (nI ((crN (lgR (ldS k n E al) k nn al) r) + 1))), (0, .ref wo), (1, .ref go), (2, .int (nI nn)), (3, .int (nI (k ^ nn))), (6, .int (nI r)), (7, .int (nI j))]) hx hb (pc := 94) dX8_comingRound_94 hl (k := 4) rfl (rr_inc _) (by decide) rfl (fun ls hl => ?_)
                refine lv_aload_n hx hb (pc := 97) dX8_comingRound_97 rfl (lv_at hl 1 rfl) ?_
                refine lv_aload_n hx hb (pc := 98) dX8_comingRound_98 rfl (lv_at hl 2 rfl) ?_
                refine va_get (v := .int (nI k)) hx hb hts (inX8_comingRound_1) hown hKK.1 (rr_ro (A := A) hG hGA hS) 0 rfl rfl 0 (by decide) (hts _ (List.mem_of_getElem? (i := 4) (by decide +kernel))) (fun _ h9 => h9) rfl (pc := 99) dX8_comingRound_99 ?_
                refine lv_iload_n hx hb (pc := 102) dX8_comingRound_102 rfl (lv_at hl 3 rfl) ?_
                refine rr_callR (pc := 103) (va_runV (As := [.int (nI k), .int (nI nn)]) (rest := []) ⟨hx, hb, hml, hown, hts⟩ (c_X8_turnToNextRow l K A wo mo bh my lg rw ld room bF yF gF wF1 dF2 k nn r hk2 hk4 hn1 hnn hw hD) (cwV 2 hts gX8_comingRound_X8_turnToNextRow rfl rfl rfl (by decide +kernel) ⟨Nat.le_of_ble_eq_true rfl, Nat.le_of_ble_eq_true rfl⟩) (rr_preV hKK (hP) (va_recv hKK.1 hP (ci := 8) (q0 := 0) rfl rfl)) rfl rfl hl.1 rfl (lv_room (Nat.le_of_ble_eq_true rfl)) dX8_comingRound_103 ⟨by omega, by omega⟩) hS (fun _ h => h) (fun v H locs hY hsz hfr hS => ?_)
                obtain ⟨ch', wF3, rfl, hch', hw', hkp', hP⟩ := hY
                have hD : va_D A (WW3 K wo mo bh my lg rw ld room bF yF gF wF3 dF2) := rr_D hD rfl
                have hP : va_P K.1 vwCl (WW3 K wo mo bh my lg rw ld room bF yF gF wF3 dF2) H := hP
                refine lv_istore (lv' := [(5, .int (nI ch')), (4, .int (nI ((crN (lgR (ldS k n E al) k nn al) r) + 1))), (0, .ref wo), (1, .ref go), (2, .int (nI nn)), (3, .int (nI (k ^ nn))), (6, .int (nI r)), (7, .int (nI j))]) hx hb (pc := 106) dX8_comingRound_106 hl (by decide) rfl (fun ls hl => ?_)
                refine lv_iinc (v := nI (r + 1)) (lv' := [(6, .int (nI (r + 1))), (5, .int (nI ch')), (4, .int (nI ((crN (lgR (ldS k n E al) k nn al) r) + 1))), (0, .ref wo), (1, .ref go), (2, .int (nI nn)), (3, .int (nI (k ^ nn))), (7, .int (nI j))]) hx hb (pc := 108) dX8_comingRound_108 hl (k := 6) rfl (rr_inc _) (by decide) rfl (fun ls hl => ?_)
                refine lv_goto (tgt := 36) hx hb (pc := 111) dX8_comingRound_111 (by decide) ?_
                have hl : lv_has ls 8 [(6, .int (nI (r + 1))), (5, .int (nI ch')), (4, .int (nI (crN (lgR (ldS k n E al) k nn al) (r + 1)))), (0, .ref wo), (1, .ref go), (2, .int (nI nn)), (3, .int (nI (k ^ nn))), (7, .int (nI j))] := by rw [show crN (lgR (ldS k n E al) k nn al) (r + 1) = (crN (lgR (ldS k n E al) k nn al) r) + 1 from by first | rw [crN_succ, if_pos c91] | rw [crN_succ, if_neg (by rw [c91]; decide)]]; exact hl
                exact ih36 (r + 1) ch' wF3 dF2 _ _ hP hD hS (by omega) (by omega) (by omega) (hw') (fun i hi => by rw [hd2 i (by omega)]; exact rsF_congr (fun j hj => (hkp' j (by omega)).symm)) ls (lv_sub hl [3, 4, 5, 6, 2, 1, 0] rfl)
            · have hwj := hwk j (by omega)
              have hst := c_X1_step l K go ge gt k n gw al lw E T (rsF (ldS k n E al) wF1 j al) (wF1 j) (by omega) (by omega) hk4
              rw [stp_eq hT hn hsj hal] at hst
              refine lv_aload_n hx hb (pc := 52) dX8_comingRound_52 rfl (lv_at hl 0 rfl) ?_
              refine va_get (v := .ref ld) hx hb hts (inX8_comingRound_8) hown hKK.1 hP 0 rfl rfl 5 (by decide) (hts _ (List.mem_of_getElem? (i := 2) (by decide +kernel))) (fun _ h9 => h9) rfl (pc := 53) dX8_comingRound_53 ?_
              refine lv_iload hx hb (pc := 56) dX8_comingRound_56 (lv_at hl 6 rfl) ?_
              refine lv_iconst (v := nI 1) hx hb (pc := 58) dX8_comingRound_58 (by decide) ?_
              refine nv_iadd (a := j) (b := 1) hx hb (pc := 59) dX8_comingRound_59 ?_
              refine lv_aload_n hx hb (pc := 60) dX8_comingRound_60 rfl (lv_at hl 1 rfl) ?_
              refine lv_aload_n hx hb (pc := 61) dX8_comingRound_61 rfl (lv_at hl 0 rfl) ?_
              refine va_get (v := .ref ld) hx hb hts (inX8_comingRound_8) hown hKK.1 hP 0 rfl rfl 5 (by decide) (hts _ (List.mem_of_getElem? (i := 2) (by decide +kernel))) (fun _ h9 => h9) rfl (pc := 62) dX8_comingRound_62 ?_
              refine lv_iload hx hb (pc := 65) dX8_comingRound_65 (lv_at hl 6 rfl) ?_
              refine nv_iald (v := nI (rsF (ldS k n E al) wF1 j al)) (i := j) hx hb hKK hP 5 rfl (by omega) (by decide) (by rw [hd2 j (Nat.le_refl _)]) (pc := 67) dX8_comingRound_67 ?_
              refine lv_aload_n hx hb (pc := 68) dX8_comingRound_68 rfl (lv_at hl 0 rfl) ?_
              refine va_get (v := .ref rw) hx hb hts (inX8_comingRound_8) hown hKK.1 hP 0 rfl rfl 4 (by decide) (hts _ (List.mem_of_getElem? (i := 1) (by decide +kernel))) (fun _ h9 => h9) rfl (pc := 69) dX8_comingRound_69 ?_
              refine lv_iload hx hb (pc := 72) dX8_comingRound_72 (lv_at hl 6 rfl) ?_
              refine nv_iald (v := nI (wF1 j)) (i := j) hx hb hKK hP 4 rfl (by omega) (by decide) (rfl) (pc := 74) dX8_comingRound_74 ?_
              refine rr_callP (rv := .int (nI (ldS k n E al (rsF (ldS k n E al) wF1 j al) (wF1 j)))) (pc := 75) (va_runV (As := [.int (nI (rsF (ldS k n E al) wF1 j al)), .int (nI (wF1 j))]) (rest := [.int (nI (j + 1)), .ref ld]) ⟨hx, hb, hml, hown, hts⟩ (hst) (cwV 2 hts gX8_comingRound_X1_step rfl rfl rfl (by decide +kernel) ⟨Nat.le_of_ble_eq_true rfl, Nat.le_of_ble_eq_true rfl⟩) (rr_preV hKK ((rr_ro (A := A) hG hGA hS)) (va_recv hKK.1 (rr_ro (A := A) hG hGA hS) (ci := 1) (q0 := 0) rfl rfl)) rfl rfl hl.1 rfl (lv_room (Nat.le_of_ble_eq_true rfl)) dX8_comingRound_75 ⟨Nat.le_refl _, Nat.le_refl _⟩) ?_
              refine nv_iast (f := dF2) (x := (ldS k n E al (rsF (ldS k n E al) wF1 j al) (wF1 j))) (ws' := WW3 K wo mo bh my lg rw ld room bF yF gF wF1 (va_up dF2 (j + 1) (ldS k n E al (rsF (ldS k n E al) wF1 j al) (wF1 j)))) (i := (j + 1)) hx hb hKK hP hD hS 5 rfl (by omega) (by decide) (rfl) (pc := 78) dX8_comingRound_78 (fun H locs hP hD hS => ?_)
              refine lv_iinc (v := nI (j + 1)) (lv' := [(7, .int (nI (j + 1))), (0, .ref wo), (1, .ref go), (2, .int (nI nn)), (3, .int (nI (k ^ nn))), (4, .int (nI (crN (lgR (ldS k n E al) k nn al) r))), (6, .int (nI r))]) hx hb (pc := 79) dX8_comingRound_79 hl (k := 6) rfl (rr_inc _) (by decide) rfl (fun ls hl => ?_)
              refine lv_goto (tgt := 46) hx hb (pc := 82) dX8_comingRound_82 (by decide) ?_
              have hd3 : ∀ i, i ≤ j + 1 → va_up dF2 (j + 1) (ldS k n E al (rsF (ldS k n E al) wF1 j al) (wF1 j)) i = rsF (ldS k n E al) wF1 i al := fun i hi => by
                unfold va_up
                split
                · rename_i q; rw [q]; rfl
                · exact hd2 i (by omega)
              exact ih46 (j + 1) (va_up dF2 (j + 1) (ldS k n E al (rsF (ldS k n E al) wF1 j al) (wF1 j))) _ _ hP hD hS (by omega) (by omega) (by omega) (hd3) ls (lv_sub hl [1, 2, 3, 4, 5, 6, 0] rfl)
        exact L46 (8) ch dF1 _ _ hP hD hS (by omega) (by omega) (by omega) (hd1) ls (lv_sub hl [1, 2, 3, 4, 5, 7, 0] rfl)
  have hd0 : ∀ i, i ≤ 0 → va_up dF 0 al i = rsF (ldS k n E al) (putZ wF (fun _ => 0) 7) i al := fun i hi => by
    obtain rfl : i = 0 := by omega
    rfl
  have hl : lv_has ls 8 [(6, .int (nI 0)), (5, .int (nI 0)), (4, .int (nI (crN (lgR (ldS k n E al) k nn al) 0))), (3, .int (nI (k ^ nn))), (0, .ref wo), (1, .ref go), (2, .int (nI nn))] := by rw [show crN (lgR (ldS k n E al) k nn al) 0 = 0 from rfl]; exact hl
  exact L36 (k ^ nn + 1) 0 0 (putZ wF (fun _ => 0) 7) (va_up dF 0 al) _ _ hP hD hS (by omega) (Nat.zero_le _) (Nat.zero_le _) (fun i hi => by rw [putZ_in (by omega), dgt_0]) (hd0) ls (lv_sub hl [4, 5, 6, 3, 2, 1, 0] rfl)

