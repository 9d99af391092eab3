abbrev rmX0_layWays : Room := { frames := 2, cells := 0, slots := 0, locals := 46 }
theorem inX0_layWays_0 : ∀ w ∈ wsX00, w ∈ wsX0_layWays := fun _ h => List.mem_cons_of_mem _ (List.mem_append_right _ h)
theorem inX0_layWays_1 : ∀ w ∈ wsX10, w ∈ wsX0_layWays := fun _ h => List.mem_cons_of_mem _ (List.mem_append_left _ (List.mem_append_right _ h))
set_option maxHeartbeats 4000000 in
set_option maxRecDepth 100000 in
theorem c_X0_layWays (l : Launch) (K : rr_K) (A : Nat → Prop) (bo bl bt br nf : Nat) (FL FW RW : Nat → Nat) (go ge gt k n al lw : Nat) (T : Nat → Nat) (len : Nat) (hF : FOK nf FL FW) (hk : 2 ≤ k) (hk4 : k ≤ 4) (hn : 1 ≤ n) (hn16 : n ≤ 16) (hl1 : 1 ≤ len) (hlen : len ≤ 5) (hR : ∀ j, j < 5 → RW j < 65536) (hD : va_D A (BW K bo bl bt br nf FL FW RW ++ GW K go ge gt k n 0 al lw (fun _ => 0) T)) : MetV l K yX0_layWays wsX0_layWays rmX0_layWays [.ref bo, .ref go, .int (nI len)] (fun H => va_P K.1 vwCl (BW K bo bl bt br nf FL FW RW ++ GW K go ge gt k n 0 al lw (fun _ => 0) T) H) A (fun H => ∃ RW' : Nat → Nat, (∀ j, j < 5 → RW' j < 65536) ∧ va_P K.1 vwCl (BW K bo bl bt br nf FL FW RW' ++ GW K go ge gt k n (lyW (lyB nf FL FW k len) (n * k)) al lw (lyE k n (lyB nf FL FW k len) (n * k)) T) H) 0 0 := by
  refine metV_of (cc := cX0_layWays) (maxL := 6) (by decide) rfl rfl rfl (Nat.le_of_ble_eq_true rfl) ?_
  intro p e s m args below meth c Q ls hEnt hin hKK hX hret hl
  obtain ⟨hx, hb, hml, hown, hts⟩ := hEnt
  have hP : va_P K.1 vwCl (BW K bo bl bt br nf FL FW RW ++ GW K go ge gt k n 0 al lw (fun _ => 0) T) s.heap := hX
  have hl : lv_has ls 6 [(0, .ref bo), (1, .ref go), (2, .int (nI len))] := hl
  have hS : va_S A s.heap s.heap [] := va_S.rf
  have hnk : n * k ≤ 64 := Nat.le_trans (Nat.mul_le_mul hn16 hk4) (by decide)
  refine lv_aload_n hx hb (pc := 0) dX0_layWays_0 rfl (lv_at hl 1 rfl) ?_
  refine va_get (v := .int (nI n)) hx hb hts (inX0_layWays_1) hown hKK.1 hP 4 rfl rfl 1 (by decide) (hts _ (List.mem_of_getElem? (i := 1) (by decide +kernel))) (fun _ h9 => h9) rfl (pc := 1) dX0_layWays_1 ?_
  refine lv_aload_n hx hb (pc := 4) dX0_layWays_4 rfl (lv_at hl 1 rfl) ?_
  refine va_get (v := .int (nI k)) hx hb hts (inX0_layWays_1) hown hKK.1 hP 4 rfl rfl 0 (by decide) (hts _ (List.mem_of_getElem? (i := 2) (by decide +kernel))) (fun _ h9 => h9) rfl (pc := 5) dX0_layWays_5 ?_
  refine nv_imul (a := n) (b := k) hx hb (pc := 8) dX0_layWays_8 ?_
  refine lv_istore_n (lv' := [(3, .int (nI (n * k))), (0, .ref bo), (1, .ref go), (2, .int (nI len))]) hx hb (pc := 9) dX0_layWays_9 rfl hl (by decide) rfl (fun ls hl => ?_)
  refine lv_iconst (v := nI 0) hx hb (pc := 10) dX0_layWays_10 (by decide) ?_
  refine lv_istore (lv' := [(4, .int (nI 0)), (3, .int (nI (n * k))), (0, .ref bo), (1, .ref go), (2, .int (nI len))]) hx hb (pc := 11) dX0_layWays_11 hl (by decide) rfl (fun ls hl => ?_)
  have L13 : ∀ (fz : Nat) (x : Nat) (RW1 : Nat → Nat) (gw1 : Nat) (E1 : Nat → Nat) (H : Heap) (locs : List Loc) (hP : va_P K.1 vwCl (BW K bo bl bt br nf FL FW RW1 ++ GW K go ge gt k n gw1 al lw E1 T) H) (hD : va_D A (BW K bo bl bt br nf FL FW RW1 ++ GW K go ge gt k n gw1 al lw E1 T)) (hS : va_S A s.heap H locs) (hfz : n * k - x < fz) (hx1 : x ≤ n * k) (hR1 : ∀ j, j < 5 → RW1 j < 65536) (hg1 : gw1 = lyW (lyB nf FL FW k len) x) (hE1 : E1 = lyE k n (lyB nf FL FW k len) x) (ls : Array Slot) (hl : lv_has ls 6 [(0, .ref bo), (1, .ref go), (2, .int (nI len)), (3, .int (nI (n * k))), (4, .int (nI x))]), W p l e rmX0_layWays s m args below meth c H locs 0 0 Q (F0 m 13 ls []) := by
    intro fz; induction fz with
    | zero => intro x RW1 gw1 E1 H locs hP hD hS hfz hx1 hR1 hg1 hE1 ls hl; exact absurd hfz (Nat.not_lt_zero _)
    | succ fz ih13 =>
      intro x RW1 gw1 E1 H locs hP hD hS hfz hx1 hR1 hg1 hE1 ls hl
      have hE16 : ∀ j, j < 64 → E1 j < 65536 := fun j _ => by rw [hE1]; exact Nat.lt_of_lt_of_le (lyE_lt k (lyB nf FL FW k len) x j (by omega)) (Nat.le_trans (Nat.pow_le_pow_right (by decide) hn16) (by decide))
      refine lv_iload hx hb (pc := 13) dX0_layWays_13 (lv_at hl 4 rfl) ?_
      refine lv_iload_n hx hb (pc := 15) dX0_layWays_15 rfl (lv_at hl 3 rfl) ?_
      refine nv_icmp_ge (a := x) (b := (n * k)) (tgt := 74) hx hb (pc := 16) dX0_layWays_16 (by decide) (by omega) (by omega) (fun c16 => ?_) (fun c16 => ?_)
      · obtain rfl : x = n * k := by omega
        exact hret _ _ _ _ 74 _ dX0_layWays_74 (by omega) (by omega) hS (⟨_, hR1, by rw [hg1, hE1] at hP; exact hP⟩)
      · have hxk0 : x / k < n := Nat.div_lt_of_lt_mul (by rw [Nat.mul_comm]; exact c16)
        have hxk : x / k ≤ 15 := by omega
        have hxm := Nat.mod_lt x (show 0 < k by omega)
        have hxn := Nat.mod_lt x (show 0 < n by omega)
        refine lv_aload_n hx hb (pc := 19) dX0_layWays_19 rfl (lv_at hl 0 rfl) ?_
        refine lv_iload hx hb (pc := 20) dX0_layWays_20 (lv_at hl 4 rfl) ?_
        refine lv_aload_n hx hb (pc := 22) dX0_layWays_22 rfl (lv_at hl 1 rfl) ?_
        refine va_get (v := .int (nI k)) hx hb hts (inX0_layWays_1) hown hKK.1 hP 4 rfl rfl 0 (by decide) (hts _ (List.mem_of_getElem? (i := 2) (by decide +kernel))) (fun _ h9 => h9) rfl (pc := 23) dX0_layWays_23 ?_
        refine lv_iload_n hx hb (pc := 26) dX0_layWays_26 rfl (lv_at hl 2 rfl) ?_
        have hP : va_P K.1 vwCl (BW K bo bl bt br nf FL FW RW1 ++ GW K go ge gt k n gw1 al lw E1 T) H := hP
        have hD : va_D A (BW K bo bl bt br nf FL FW RW1 ++ GW K go ge gt k n gw1 al lw E1 T) := hD
        have hDc := rr_AW (rr_Dleft hD)
        refine rr_callV (pc := 27) (va_runV (As := [.int (nI x), .int (nI k), .int (nI len)]) (rest := []) ⟨hx, hb, hml, hown, hts⟩ (c_X0_writeRow l K (AW (BW K bo bl bt br nf FL FW RW1)) bo bl bt br nf FL FW RW1 x k len (by omega) (by omega) (by omega) hlen hl1 hDc) (cwV 3 hts gX0_layWays_X0_writeRow rfl rfl rfl (by decide +kernel) ⟨Nat.le_of_ble_eq_true rfl, Nat.le_of_ble_eq_true rfl⟩) (rr_preV hKK (rr_left hP) (va_recv hKK.1 hP (ci := 0) (q0 := 0) rfl rfl)) rfl rfl hl.1 rfl (lv_room (Nat.le_of_ble_eq_true rfl)) dX0_layWays_27 ⟨by omega, by omega⟩) hS (rr_AW_in (rr_Dleft hD)) (fun H locs hY hsz hfr hS => ?_)
        have hP1 := hY
        obtain ⟨hP, hD⟩ := rr_app hP hD hfr hP1 rfl
        have hD : va_D A (BW K bo bl bt br nf FL FW (wrR x k len RW1) ++ GW K go ge gt k n gw1 al lw E1 T) := hD
        have hP : va_P K.1 vwCl (BW K bo bl bt br nf FL FW (wrR x k len RW1) ++ GW K go ge gt k n gw1 al lw E1 T) H := hP
        refine lv_aload_n hx hb (pc := 30) dX0_layWays_30 rfl (lv_at hl 0 rfl) ?_
        refine lv_iload_n hx hb (pc := 31) dX0_layWays_31 rfl (lv_at hl 2 rfl) ?_
        have hst := c_X0_standsInRow l K bo bl bt br nf FL FW (wrR x k len RW1) len hF hlen (wrR_lt (by omega) (by omega) hR1)
        rw [lyB_eq] at hst
        refine rr_callP (rv := .int (bI (lyB nf FL FW k len x))) (pc := 32) (va_runV (As := [.int (nI len)]) (rest := []) ⟨hx, hb, hml, hown, hts⟩ (hst) (cwV 1 hts gX0_layWays_X0_standsInRow rfl rfl rfl (by decide +kernel) ⟨Nat.le_of_ble_eq_true rfl, Nat.le_of_ble_eq_true rfl⟩) (rr_preV hKK (rr_left hP) (va_recv hKK.1 hP (ci := 0) (q0 := 0) rfl rfl)) rfl rfl hl.1 rfl (lv_room (Nat.le_of_ble_eq_true rfl)) dX0_layWays_32 ⟨Nat.le_refl _, Nat.le_refl _⟩) ?_
        refine nv_if_ne_b (a := (lyB nf FL FW k len x)) (tgt := 68) hx hb (pc := 35) dX0_layWays_35 (by decide) (fun c35 => ?_) (fun c35 => ?_)
        · refine lv_iinc (v := nI (x + 1)) (lv' := [(4, .int (nI (x + 1))), (0, .ref bo), (1, .ref go), (2, .int (nI len)), (3, .int (nI (n * k)))]) hx hb (pc := 68) dX0_layWays_68 hl (k := 4) rfl (rr_inc _) (by decide) rfl (fun ls hl => ?_)
          refine lv_goto (tgt := 13) hx hb (pc := 71) dX0_layWays_71 (by decide) ?_
          exact ih13 (x + 1) (wrR x k len RW1) gw1 E1 _ _ hP hD hS (by omega) (by omega) (wrR_lt (by omega) (by omega) hR1) (by first | (rw [hg1, lyW, lyW, sN_succ, c35]; rfl) | (rw [hE1, lyE_here (by omega) hk4, Nat.zero_testBit, hg1, lyW, lyW, sN_succ, c35]; rfl)) (by first | (rw [hE1, lyE_yes (by omega) hk4 c35]; done) | (rw [hE1, lyE_no c35]; done)) ls (lv_sub hl [1, 2, 3, 4, 0] rfl)
        · refine lv_aload_n hx hb (pc := 38) dX0_layWays_38 rfl (lv_at hl 0 rfl) ?_
          refine va_get (v := .ref br) hx hb hts (inX0_layWays_0) hown hKK.1 hP 0 rfl rfl 3 (by decide) (hts _ (List.mem_of_getElem? (i := 3) (by decide +kernel))) (fun _ h9 => h9) rfl (pc := 39) dX0_layWays_39 ?_
          refine lv_iload_n hx hb (pc := 42) dX0_layWays_42 rfl (lv_at hl 2 rfl) ?_
          refine lv_iconst (v := nI 1) hx hb (pc := 43) dX0_layWays_43 (by decide) ?_
          refine nv_isub (a := len) (b := 1) hx hb (pc := 44) dX0_layWays_44 (by omega) ?_
          refine nv_iald (v := nI (x % k)) (i := (len - 1)) hx hb hKK hP 3 rfl (by omega) (by decide) (by rw [show wrR x k len RW1 (len - 1) = x % k from by unfold wrR; rw [if_pos (by omega), Nat.sub_self, Nat.pow_zero, Nat.div_one]]) (pc := 45) dX0_layWays_45 ?_
          refine lv_istore (lv' := [(5, .int (nI (x % k))), (0, .ref bo), (1, .ref go), (2, .int (nI len)), (3, .int (nI (n * k))), (4, .int (nI x))]) hx hb (pc := 46) dX0_layWays_46 hl (by decide) rfl (fun ls hl => ?_)
          refine lv_aload_n hx hb (pc := 48) dX0_layWays_48 rfl (lv_at hl 2 rfl) ?_
          refine lv_iload hx hb (pc := 49) dX0_layWays_49 (lv_at hl 5 rfl) ?_
          refine lv_aload_n hx hb (pc := 51) dX0_layWays_51 rfl (lv_at hl 2 rfl) ?_
          refine va_get (v := .int (nI k)) hx hb hts (inX0_layWays_1) hown hKK.1 hP 4 rfl rfl 0 (by decide) (hts _ (List.mem_of_getElem? (i := 2) (by decide +kernel))) (fun _ h9 => h9) rfl (pc := 52) dX0_layWays_52 ?_
          refine nv_idiv (a := x) (b := k) hx hb (pc := 55) dX0_layWays_55 (by omega) (by omega) (by omega) ?_
          refine lv_iload hx hb (pc := 56) dX0_layWays_56 (lv_at hl 0 rfl) ?_
          refine lv_iload hx hb (pc := 58) dX0_layWays_58 (lv_at hl 5 rfl) ?_
          refine lv_aload_n hx hb (pc := 60) dX0_layWays_60 rfl (lv_at hl 2 rfl) ?_
          refine va_get (v := .int (nI n)) hx hb hts (inX0_layWays_1) hown hKK.1 hP 4 rfl rfl 1 (by decide) (hts _ (List.mem_of_getElem? (i := 1) (by decide +kernel))) (fun _ h9 => h9) rfl (pc := 61) dX0_layWays_61 ?_
          refine nv_irem (a := x) (b := n) hx hb (pc := 64) dX0_layWays_64 (by omega) (by omega) (by omega) ?_
          have hP : va_P K.1 vwCl (BW K bo bl bt br nf FL FW (wrR x k len RW1) ++ GW K go ge gt k n gw1 al lw E1 T) H := hP
          have hD : va_D A (BW K bo bl bt br nf FL FW (wrR x k len RW1) ++ GW K go ge gt k n gw1 al lw E1 T) := hD
          have hDc := rr_AW (rr_Dright hD)
          refine rr_callV (pc := 65) (va_runV (As := [.int (nI (x / k)), .int (nI (x % k)), .int (nI (x % n))]) (rest := []) ⟨hx, hb, hml, hown, hts⟩ (c_X1_turnWay l K (AW (GW K go ge gt k n gw1 al lw E1 T)) go ge gt k n gw1 al lw E1 T (x / k) (x % k) (x % n) hE16 (by omega) (by omega) (by omega) (by rw [hE1, lyE_here (by omega) hk4, Nat.zero_testBit]; intro h; cases h) hDc) (cwV 3 hts gX0_layWays_X1_turnWay rfl rfl rfl (by decide +kernel) ⟨Nat.le_of_ble_eq_true rfl, Nat.le_of_ble_eq_true rfl⟩) (rr_preV hKK (rr_right hP) (va_recv hKK.1 hP (ci := 1) (q0 := 4) rfl rfl)) rfl rfl hl.1 rfl (lv_room (Nat.le_of_ble_eq_true rfl)) dX0_layWays_65 ⟨by omega, by omega⟩) hS (rr_AW_in (rr_Dright hD)) (fun H locs hY hsz hfr hS => ?_)
          have hP1 := hY
          obtain ⟨hP, hD⟩ := rr_app2 hP hD hfr hP1 rfl
          have hD : va_D A (BW K bo bl bt br nf FL FW (wrR x k len RW1) ++ GW K go ge gt k n (if (E1 (x / k * 4 + x % k)).testBit (x % n) then gw1 - 1 else gw1 + 1) al lw (va_up E1 (x / k * 4 + x % k) (E1 (x / k * 4 + x % k) ^^^ 1 <<< (x % n))) T) := hD
          have hP : va_P K.1 vwCl (BW K bo bl bt br nf FL FW (wrR x k len RW1) ++ GW K go ge gt k n (if (E1 (x / k * 4 + x % k)).testBit (x % n) then gw1 - 1 else gw1 + 1) al lw (va_up E1 (x / k * 4 + x % k) (E1 (x / k * 4 + x % k) ^^^ 1 <<< (x % n))) T) H := hP
          refine lv_iinc (v := nI (x + 1)) (lv' := [(4, .int (nI (x + 1))), (5, .int (nI (x % k))), (0, .ref bo), (1, .ref go), (2, .int (nI len)), (3, .int (nI (n * k)))]) hx hb (pc := 68) dX0_layWays_68 hl (k := 5) rfl (rr_inc _) (by decide) rfl (fun ls hl => ?_)
          refine lv_goto (tgt := 13) hx hb (pc := 71) dX0_layWays_71 (by decide) ?_
          exact ih13 (x + 1) (wrR x k len RW1) (if (E1 (x / k * 4 + x % k)).testBit (x % n) then gw1 - 1 else gw1 + 1) (va_up E1 (x / k * 4 + x % k) (E1 (x / k * 4 + x % k) ^^^ 1 <<< (x % n))) _ _ hP hD hS (by omega) (by omega) (wrR_lt (by omega) (by omega) hR1) (by first | (rw [hg1, lyW, lyW, sN_succ, c35]; rfl) | (rw [hE1, lyE_here (by omega) hk4, Nat.zero_testBit, hg1, lyW, lyW, sN_succ, c35]; rfl)) (by first | (rw [hE1, lyE_yes (by omega) hk4 c35]; done) | (rw [hE1, lyE_no c35]; done)) ls (lv_sub hl [2, 3, 4, 5, 0] rfl)
  exact L13 (n * k + 1) 0 RW 0 (fun _ => 0) _ _ hP hD hS (by omega) (Nat.zero_le _) (hR) (rfl) ((lyE_0 k n (lyB nf FL FW k len)).symm) ls (lv_sub hl [2, 3, 4, 1, 0] rfl)

abbrev rmX0_digestOn : Room := { frames := 0, cells := 0, slots := 0, locals := 0 }
theorem inX0_digestOn_0 : ∀ w ∈ wsX00, w ∈ wsX0_digestOn := fun _ h => List.mem_cons_of_mem _ (List.mem_append_right _ h)
set_option maxHeartbeats 4000000 in
set_option maxRecDepth 100000 in
theorem c_X0_digestOn (l : Launch) (K : rr_K) (bo bl bt br nf : Nat) (FL FW RW : Nat → Nat) (h : Int64) (hF : FOK nf FL FW) : MetP l K yX0_digestOn wsX0_digestOn rmX0_digestOn [.ref bo, .long h] (fun H => va_P K.1 vwCl (BW K bo bl bt br nf FL FW RW) H) (.long (dgB nf FL FW h)) := by
  refine metP_of (cc := cX0_digestOn) (maxL := 7) (ret := (some .long)) (rt := .long) (by decide) rfl rfl (Nat.le_of_ble_eq_true rfl) ?_
  intro p e s m args below meth c Q ls hEnt hKK hX hret hl
  obtain ⟨hx, hb, hml, hown, hts⟩ := hEnt
  have hP : va_P K.1 vwCl (BW K bo bl bt br nf FL FW RW) s.heap := hX
  have hl : lv_has ls 7 [(0, .ref bo), (1, .long h)] := hl
  have hn8 := hF.1
  refine lv_lload_n hx hb (pc := 0) dX0_digestOn_0 rfl (lv_at hl 1 rfl) ?_
  refine lv_lstore_n (lv' := [(3, .long h), (0, .ref bo), (1, .long h)]) hx hb (pc := 1) dX0_digestOn_1 rfl hl (by decide) rfl (fun ls hl => ?_)
  refine lv_iconst (v := nI 0) hx hb (pc := 2) dX0_digestOn_2 (by decide) ?_
  refine lv_istore (lv' := [(5, .int (nI 0)), (3, .long h), (0, .ref bo), (1, .long h)]) hx hb (pc := 3) dX0_digestOn_3 hl (by decide) rfl (fun ls hl => ?_)
  have L5 : ∀ (fz : Nat) (i : Nat) (hfz : nf - i < fz) (hi : i ≤ nf) (ls : Array Slot) (hl : lv_has ls 7 [(0, .ref bo), (3, .long (dgB i FL FW h)), (5, .int (nI i))]), W p l e rmX0_digestOn s m args below meth c s.heap [] 0 0 Q (F0 m 5 ls []) := by
    intro fz; induction fz with
    | zero => intro i hfz hi ls hl; exact absurd hfz (Nat.not_lt_zero _)
    | succ fz ih5 =>
      intro i hfz hi ls hl
      refine lv_iload hx hb (pc := 5) dX0_digestOn_5 (lv_at hl 2 rfl) ?_
      refine lv_aload_n hx hb (pc := 7) dX0_digestOn_7 rfl (lv_at hl 0 rfl) ?_
      refine va_get (v := .int (nI nf)) hx hb hts (inX0_digestOn_0) hown hKK.1 hP 0 rfl rfl 0 (by decide) (hts _ (List.mem_of_getElem? (i := 1) (by decide +kernel))) (fun _ h9 => h9) rfl (pc := 8) dX0_digestOn_8 ?_
      refine nv_icmp_ge (a := i) (b := nf) (tgt := 76) hx hb (pc := 11) dX0_digestOn_11 (by decide) (by omega) (by omega) (fun c11 => ?_) (fun c11 => ?_)
      · refine lv_lload_n hx hb (pc := 76) dX0_digestOn_76 rfl (lv_at hl 1 rfl) ?_
        obtain rfl : i = nf := by omega
        exact hret.2.1 77 _ (dgB i FL FW h) dX0_digestOn_77 (rfl) rfl
      · have hFi := hF.2 i c11
        refine lv_ldc2 (v := lN 31) hx hb (pc := 14) hown (hts _ (List.mem_of_getElem? (i := 2) (by decide +kernel))) dX0_digestOn_14 ?_
        refine lv_lload_n hx hb (pc := 17) dX0_digestOn_17 rfl (lv_at hl 1 rfl) ?_
        refine lv_lmul hx hb (pc := 18) dX0_digestOn_18 ?_
        refine lv_aload_n hx hb (pc := 19) dX0_digestOn_19 rfl (lv_at hl 0 rfl) ?_
        refine va_get (v := .ref bl) hx hb hts (inX0_digestOn_0) hown hKK.1 hP 0 rfl rfl 1 (by decide) (hts _ (List.mem_of_getElem? (i := 3) (by decide +kernel))) (fun _ h9 => h9) rfl (pc := 20) dX0_digestOn_20 ?_
        refine lv_iload hx hb (pc := 23) dX0_digestOn_23 (lv_at hl 2 rfl) ?_
        refine nv_iald (v := nI (FL i)) (i := i) hx hb hKK hP 1 rfl (by omega) (by decide) (rfl) (pc := 25) dX0_digestOn_25 ?_
        refine lv_i2l (v := (nI (FL i)).toInt64) hx hb (pc := 26) dX0_digestOn_26 (rfl) ?_
        refine lv_ladd hx hb (pc := 27) dX0_digestOn_27 ?_
        refine rr_top (v := .long (dg (dgB i FL FW h) (nI (FL i)))) (congrArg Value.long (dg_def _ _)) ?_
        refine lv_lstore_n (lv' := [(3, .long (dg (dgB i FL FW h) (nI (FL i)))), (0, .ref bo), (5, .int (nI i))]) hx hb (pc := 28) dX0_digestOn_28 rfl hl (by decide) rfl (fun ls hl => ?_)
        refine lv_iconst (v := nI 0) hx hb (pc := 29) dX0_digestOn_29 (by decide) ?_
        refine lv_istore (lv' := [(6, .int (nI 0)), (3, .long (dg (dgB i FL FW h) (nI (FL i)))), (0, .ref bo), (5, .int (nI i))]) hx hb (pc := 30) dX0_digestOn_30 hl (by decide) rfl (fun ls hl => ?_)
        have L32 : ∀ (fz : Nat) (j : Nat) (hfz : FL i - j < fz) (hj : j ≤ FL i) (ls : Array Slot) (hl : lv_has ls 7 [(0, .ref bo), (3, .long (rr_fold (fun j h => dg h (nI (FW (i * 5 + j)))) j (dg (dgB i FL FW h) (nI (FL i))))), (5, .int (nI i)), (6, .int (nI j))]), W p l e rmX0_digestOn s m args below meth c s.heap [] 0 0 Q (F0 m 32 ls []) := by
          intro fz; induction fz with
          | zero => intro j hfz hj ls hl; exact absurd hfz (Nat.not_lt_zero _)
          | succ fz ih32 =>
            intro j hfz hj ls hl
            refine lv_iload hx hb (pc := 32) dX0_digestOn_32 (lv_at hl 3 rfl) ?_
            refine lv_aload_n hx hb (pc := 34) dX0_digestOn_34 rfl (lv_at hl 0 rfl) ?_
            refine va_get (v := .ref bl) hx hb hts (inX0_digestOn_0) hown hKK.1 hP 0 rfl rfl 1 (by decide) (hts _ (List.mem_of_getElem? (i := 3) (by decide +kernel))) (fun _ h9 => h9) rfl (pc := 35) dX0_digestOn_35 ?_
            refine lv_iload hx hb (pc := 38) dX0_digestOn_38 (lv_at hl 2 rfl) ?_
            refine nv_iald (v := nI (FL i)) (i := i) hx hb hKK hP 1 rfl (by omega) (by decide) (rfl) (pc := 40) dX0_digestOn_40 ?_
            refine nv_icmp_ge (a := j) (b := (FL i)) (tgt := 70) hx hb (pc := 41) dX0_digestOn_41 (by decide) (by omega) (by omega) (fun c41 => ?_) (fun c41 => ?_)
            · refine lv_iinc (v := nI (i + 1)) (lv' := [(5, .int (nI (i + 1))), (0, .ref bo), (3, .long (rr_fold (fun j h => dg h (nI (FW (i * 5 + j)))) j (dg (dgB i FL FW h) (nI (FL i))))), (6, .int (nI j))]) hx hb (pc := 70) dX0_digestOn_70 hl (k := 2) rfl (rr_inc _) (by decide) rfl (fun ls hl => ?_)
              refine lv_goto (tgt := 5) hx hb (pc := 73) dX0_digestOn_73 (by decide) ?_
              have hl : lv_has ls 7 [(5, .int (nI (i + 1))), (0, .ref bo), (3, .long (dgB (i + 1) FL FW h)), (6, .int (nI j))] := by rw [show dgB (i + 1) FL FW h = rr_fold (fun j h => dg h (nI (FW (i * 5 + j)))) j (dg (dgB i FL FW h) (nI (FL i))) from by rw [dgB_succ, show j = FL i by omega]]; exact hl
              exact ih5 (i + 1) (by omega) (by omega) ls (lv_sub hl [1, 2, 0] rfl)
            · refine lv_ldc2 (v := lN 31) hx hb (pc := 44) hown (hts _ (List.mem_of_getElem? (i := 2) (by decide +kernel))) dX0_digestOn_44 ?_
              refine lv_lload_n hx hb (pc := 47) dX0_digestOn_47 rfl (lv_at hl 1 rfl) ?_
              refine lv_lmul hx hb (pc := 48) dX0_digestOn_48 ?_
              refine lv_aload_n hx hb (pc := 49) dX0_digestOn_49 rfl (lv_at hl 0 rfl) ?_
              refine va_get (v := .ref bt) hx hb hts (inX0_digestOn_0) hown hKK.1 hP 0 rfl rfl 2 (by decide) (hts _ (List.mem_of_getElem? (i := 4) (by decide +kernel))) (fun _ h9 => h9) rfl (pc := 50) dX0_digestOn_50 ?_
              refine lv_iload hx hb (pc := 53) dX0_digestOn_53 (lv_at hl 2 rfl) ?_
              refine lv_iconst (v := nI 5) hx hb (pc := 55) dX0_digestOn_55 (by decide) ?_
              refine nv_imul (a := i) (b := 5) hx hb (pc := 56) dX0_digestOn_56 ?_
              refine lv_iload hx hb (pc := 57) dX0_digestOn_57 (lv_at hl 3 rfl) ?_
              refine nv_iadd (a := (i * 5)) (b := j) hx hb (pc := 59) dX0_digestOn_59 ?_
              refine nv_iald (v := nI (FW ((i * 5) + j))) (i := ((i * 5) + j)) hx hb hKK hP 2 rfl (by omega) (by decide) (rfl) (pc := 60) dX0_digestOn_60 ?_
              refine lv_i2l (v := (nI (FW ((i * 5) + j))).toInt64) hx hb (pc := 61) dX0_digestOn_61 (rfl) ?_
              refine lv_ladd hx hb (pc := 62) dX0_digestOn_62 ?_
              refine rr_top (v := .long (rr_fold (fun j h => dg h (nI (FW (i * 5 + j)))) (j + 1) (dg (dgB i FL FW h) (nI (FL i))))) (congrArg Value.long (dg_fold (fun j => nI (FW (i * 5 + j))) j _)) ?_
              refine lv_lstore_n (lv' := [(3, .long (rr_fold (fun j h => dg h (nI (FW (i * 5 + j)))) (j + 1) (dg (dgB i FL FW h) (nI (FL i))))), (0, .ref bo), (5, .int (nI i)), (6, .int (nI j))]) hx hb (pc := 63) dX0_digestOn_63 rfl hl (by decide) rfl (fun ls hl => ?_)
              refine lv_iinc (v := nI (j + 1)) (lv' := [(6, .int (nI (j + 1))), (3, .long (rr_fold (fun j h => dg h (nI (FW (i * 5 + j)))) (j + 1) (dg (dgB i FL FW h) (nI (FL i))))), (0, .ref bo), (5, .int (nI i))]) hx hb (pc := 64) dX0_digestOn_64 hl (k := 3) rfl (rr_inc _) (by decide) rfl (fun ls hl => ?_)
              refine lv_goto (tgt := 32) hx hb (pc := 67) dX0_digestOn_67 (by decide) ?_
              exact ih32 (j + 1) (by omega) (by omega) ls (lv_sub hl [2, 1, 3, 0] rfl)
        exact L32 (FL i + 1) 0 (by omega) (Nat.zero_le _) ls (lv_sub hl [2, 1, 3, 0] rfl)
  exact L5 (9) 0 (by omega) (by omega) ls (lv_sub hl [2, 1, 0] rfl)

abbrev rmX4_rows : Room := { frames := 0, cells := 0, slots := 0, locals := 0 }
theorem inX4_rows_4 : ∀ w ∈ wsX40, w ∈ wsX4_rows := fun _ h => List.mem_cons_of_mem _ (List.mem_append_right _ h)
set_option maxHeartbeats 4000000 in
set_option maxRecDepth 100000 in
theorem c_X4_rows (l : Launch) (K : rr_K) (po pt wd : Nat) (TD : Nat → Nat) (hw : wd ≤ 3) : MetP l K yX4_rows wsX4_rows rmX4_rows [.ref po] (fun H => va_P K.1 vwCl (PW K po pt wd TD) H) (.int (nI (2 ^ (2 * wd)))) := by
  refine metP_of (cc := cX4_rows) (maxL := 1) (ret := (some .int)) (rt := .int) (by decide) rfl rfl (Nat.le_of_ble_eq_true rfl) ?_
  intro p e s m args below meth c Q ls hEnt hKK hX hret hl
  obtain ⟨hx, hb, hml, hown, hts⟩ := hEnt
  have hP : va_P K.1 vwCl (PW K po pt wd TD) s.heap := hX
  have hl : lv_has ls 1 [(0, .ref po)] := hl
  refine lv_iconst (v := nI 1) hx hb (pc := 0) dX4_rows_0 (by decide) ?_
  refine lv_iconst (v := nI 2) hx hb (pc := 1) dX4_rows_1 (by decide) ?_
  refine lv_aload_n hx hb (pc := 2) dX4_rows_2 rfl (lv_at hl 0 rfl) ?_
  refine va_get (v := .int (nI wd)) hx hb hts (inX4_rows_4) hown hKK.1 hP 0 rfl rfl 0 (by decide) (hts _ (List.mem_of_getElem? (i := 1) (by decide +kernel))) (fun _ h9 => h9) rfl (pc := 3) dX4_rows_3 ?_
  refine nv_imul (a := 2) (b := wd) hx hb (pc := 6) dX4_rows_6 ?_
  refine nv_ishl (a := 1) (b := (2 * wd)) hx hb (pc := 7) dX4_rows_7 (by omega) ?_
  exact hret.1 8 _ (nI (1 <<< (2 * wd))) dX4_rows_8 (by rw [Nat.one_shiftLeft]) (rfl)

abbrev rmX4_digestOn : Room := { frames := 1, cells := 0, slots := 0, locals := 20 }
theorem inX4_digestOn_4 : ∀ w ∈ wsX40, w ∈ wsX4_digestOn := fun _ h => List.mem_cons_of_mem _ (List.mem_append_right _ h)
set_option maxHeartbeats 4000000 in
set_option maxRecDepth 100000 in
theorem c_X4_digestOn (l : Launch) (K : rr_K) (po pt wd : Nat) (TD : Nat → Nat) (h : Int64) (hw : wd ≤ 3) : MetP l K yX4_digestOn wsX4_digestOn rmX4_digestOn [.ref po, .long h] (fun H => va_P K.1 vwCl (PW K po pt wd TD) H) (.long (dgP wd TD h)) := by
  refine metP_of (cc := cX4_digestOn) (maxL := 6) (ret := (some .long)) (rt := .long) (by decide) rfl rfl (Nat.le_of_ble_eq_true rfl) ?_
  intro p e s m args below meth c Q ls hEnt hKK hX hret hl
  obtain ⟨hx, hb, hml, hown, hts⟩ := hEnt
  have hP : va_P K.1 vwCl (PW K po pt wd TD) s.heap := hX
  have hl : lv_has ls 6 [(0, .ref po), (1, .long h)] := hl
  have hp : 2 ^ (2 * wd) ≤ 64 := Nat.le_trans (Nat.pow_le_pow_right (by decide) (show 2 * wd ≤ 6 by omega)) (by decide)
  refine lv_lload_n hx hb (pc := 0) dX4_digestOn_0 rfl (lv_at hl 1 rfl) ?_
  refine lv_lstore_n (lv' := [(3, .long h), (0, .ref po), (1, .long h)]) hx hb (pc := 1) dX4_digestOn_1 rfl hl (by decide) rfl (fun ls hl => ?_)
  refine lv_iconst (v := nI 0) hx hb (pc := 2) dX4_digestOn_2 (by decide) ?_
  refine lv_istore (lv' := [(5, .int (nI 0)), (3, .long h), (0, .ref po), (1, .long h)]) hx hb (pc := 3) dX4_digestOn_3 hl (by decide) rfl (fun ls hl => ?_)
  have L5 : ∀ (fz : Nat) (i : Nat) (hfz : 2 ^ (2 * wd) - i < fz) (hi : i ≤ 2 ^ (2 * wd)) (ls : Array Slot) (hl : lv_has ls 6 [(0, .ref po), (3, .long (rr_fold (fun r h => dg h (nI (TD r))) i h)), (5, .int (nI i))]), W p l e rmX4_digestOn s m args below meth c s.heap [] 0 0 Q (F0 m 5 ls []) := by
    intro fz; induction fz with
    | zero => intro i hfz hi ls hl; exact absurd hfz (Nat.not_lt_zero _)
    | succ fz ih5 =>
      intro i hfz hi ls hl
      refine lv_iload hx hb (pc := 5) dX4_digestOn_5 (lv_at hl 2 rfl) ?_
      refine lv_aload_n hx hb (pc := 7) dX4_digestOn_7 rfl (lv_at hl 0 rfl) ?_
      refine rr_callP (rv := .int (nI (2 ^ (2 * wd)))) (pc := 8) (va_runV (As := []) (rest := [.int (nI i)]) ⟨hx, hb, hml, hown, hts⟩ (c_X4_rows l K po pt wd TD hw) (cwV 0 hts gX4_digestOn_X4_rows rfl rfl rfl (by decide +kernel) ⟨Nat.le_of_ble_eq_true rfl, Nat.le_of_ble_eq_true rfl⟩) (rr_preV hKK (hP) (va_recv hKK.1 hP (ci := 4) (q0 := 0) rfl rfl)) rfl rfl hl.1 rfl (lv_room (Nat.le_of_ble_eq_true rfl)) dX4_digestOn_8 ⟨Nat.le_refl _, Nat.le_refl _⟩) ?_
      refine nv_icmp_ge (a := i) (b := (2 ^ (2 * wd))) (tgt := 35) hx hb (pc := 11) dX4_digestOn_11 (by decide) (by omega) (by omega) (fun c11 => ?_) (fun c11 => ?_)
      · refine lv_lload_n hx hb (pc := 35) dX4_digestOn_35 rfl (lv_at hl 1 rfl) ?_
        have e9 : i = 2 ^ (2 * wd) := by omega
        exact hret.2.1 36 _ (rr_fold (fun r h => dg h (nI (TD r))) i h) dX4_digestOn_36 (by rw [e9]; rfl) rfl
      · refine lv_ldc2 (v := lN 31) hx hb (pc := 14) hown (hts _ (List.mem_of_getElem? (i := 1) (by decide +kernel))) dX4_digestOn_14 ?_
        refine lv_lload_n hx hb (pc := 17) dX4_digestOn_17 rfl (lv_at hl 1 rfl) ?_
        refine lv_lmul hx hb (pc := 18) dX4_digestOn_18 ?_
        refine lv_aload_n hx hb (pc := 19) dX4_digestOn_19 rfl (lv_at hl 0 rfl) ?_
        refine va_get (v := .ref pt) hx hb hts (inX4_digestOn_4) hown hKK.1 hP 0 rfl rfl 1 (by decide) (hts _ (List.mem_of_getElem? (i := 2) (by decide +kernel))) (fun _ h9 => h9) rfl (pc := 20) dX4_digestOn_20 ?_
        refine lv_iload hx hb (pc := 23) dX4_digestOn_23 (lv_at hl 2 rfl) ?_
        refine nv_iald (v := nI (TD i)) (i := i) hx hb hKK hP 1 rfl (by omega) (by decide) (rfl) (pc := 25) dX4_digestOn_25 ?_
        refine lv_i2l (v := (nI (TD i)).toInt64) hx hb (pc := 26) dX4_digestOn_26 (rfl) ?_
        refine lv_ladd hx hb (pc := 27) dX4_digestOn_27 ?_
        refine rr_top (v := .long (rr_fold (fun r h => dg h (nI (TD r))) (i + 1) h)) (congrArg Value.long (dg_fold (fun r => nI (TD r)) i _)) ?_
        refine lv_lstore_n (lv' := [(3, .long (rr_fold (fun r h => dg h (nI (TD r))) (i + 1) h)), (0, .ref po), (5, .int (nI i))]) hx hb (pc := 28) dX4_digestOn_28 rfl hl (by decide) rfl (fun ls hl => ?_)
        refine lv_iinc (v := nI (i + 1)) (lv' := [(5, .int (nI (i + 1))), (3, .long (rr_fold (fun r h => dg h (nI (TD r))) (i + 1) h)), (0, .ref po)]) hx hb (pc := 29) dX4_digestOn_29 hl (k := 2) rfl (rr_inc _) (by decide) rfl (fun ls hl => ?_)
        refine lv_goto (tgt := 5) hx hb (pc := 32) dX4_digestOn_32 (by decide) ?_
        exact ih5 (i + 1) (by omega) (by omega) ls (lv_sub hl [2, 1, 0] rfl)
  exact L5 (65) 0 (by omega) (Nat.zero_le _) ls (lv_sub hl [2, 1, 0] rfl)

abbrev rmX1_digestOn : Room := { frames := 1, cells := 0, slots := 0, locals := 20 }
theorem inX1_digestOn_1 : ∀ w ∈ wsX10, w ∈ wsX1_digestOn := fun _ h => List.mem_cons_of_mem _ (List.mem_append_right _ h)
set_option maxHeartbeats 4000000 in
set_option maxRecDepth 100000 in
theorem c_X1_digestOn (l : Launch) (K : rr_K) (go ge gt k n gw al lw : Nat) (E T : Nat → Nat) (h : Int64) (hal : al < 65536) (hk : k ≤ 4) (hn : n ≤ 16) : MetP l K yX1_digestOn wsX1_digestOn rmX1_digestOn [.ref go, .long h] (fun H => va_P K.1 vwCl (GW K go ge gt k n gw al lw E T) H) (.long (dgE k n E (dgH h k n gw (pc al) lw))) := by
  refine metP_of (cc := cX1_digestOn) (maxL := 7) (ret := (some .long)) (rt := .long) (by decide) rfl rfl (Nat.le_of_ble_eq_true rfl) ?_
  intro p e s m args below meth c Q ls hEnt hKK hX hret hl
  obtain ⟨hx, hb, hml, hown, hts⟩ := hEnt
  have hP : va_P K.1 vwCl (GW K go ge gt k n gw al lw E T) s.heap := hX
  have hl : lv_has ls 7 [(0, .ref go), (1, .long h)] := hl
  refine lv_ldc2 (v := lN 31) hx hb (pc := 0) hown (hts _ (List.mem_of_getElem? (i := 1) (by decide +kernel))) dX1_digestOn_0 ?_
  refine lv_lload_n hx hb (pc := 3) dX1_digestOn_3 rfl (lv_at hl 1 rfl) ?_
  refine lv_lmul hx hb (pc := 4) dX1_digestOn_4 ?_
  refine lv_aload_n hx hb (pc := 5) dX1_digestOn_5 rfl (lv_at hl 0 rfl) ?_
  refine va_get (v := .int (nI k)) hx hb hts (inX1_digestOn_1) hown hKK.1 hP 0 rfl rfl 0 (by decide) (hts _ (List.mem_of_getElem? (i := 2) (by decide +kernel))) (fun _ h9 => h9) rfl (pc := 6) dX1_digestOn_6 ?_
  refine lv_i2l (v := (nI k).toInt64) hx hb (pc := 9) dX1_digestOn_9 (rfl) ?_
  refine lv_ladd hx hb (pc := 10) dX1_digestOn_10 ?_
  refine lv_lstore_n (lv' := [(3, .long (((lN 31) * h) + ((nI k).toInt64))), (0, .ref go), (1, .long h)]) hx hb (pc := 11) dX1_digestOn_11 rfl hl (by decide) rfl (fun ls hl => ?_)
  refine lv_ldc2 (v := lN 31) hx hb (pc := 12) hown (hts _ (List.mem_of_getElem? (i := 1) (by decide +kernel))) dX1_digestOn_12 ?_
  refine lv_lload_n hx hb (pc := 15) dX1_digestOn_15 rfl (lv_at hl 0 rfl) ?_
  refine lv_lmul hx hb (pc := 16) dX1_digestOn_16 ?_
  refine lv_aload_n hx hb (pc := 17) dX1_digestOn_17 rfl (lv_at hl 1 rfl) ?_
  refine va_get (v := .int (nI n)) hx hb hts (inX1_digestOn_1) hown hKK.1 hP 0 rfl rfl 1 (by decide) (hts _ (List.mem_of_getElem? (i := 3) (by decide +kernel))) (fun _ h9 => h9) rfl (pc := 18) dX1_digestOn_18 ?_
  refine lv_i2l (v := (nI n).toInt64) hx hb (pc := 21) dX1_digestOn_21 (rfl) ?_
  refine lv_ladd hx hb (pc := 22) dX1_digestOn_22 ?_
  refine lv_lstore_n (lv' := [(3, .long (((lN 31) * (((lN 31) * h) + ((nI k).toInt64))) + ((nI n).toInt64))), (0, .ref go), (1, .long h)]) hx hb (pc := 23) dX1_digestOn_23 rfl hl (by decide) rfl (fun ls hl => ?_)
  refine lv_ldc2 (v := lN 31) hx hb (pc := 24) hown (hts _ (List.mem_of_getElem? (i := 1) (by decide +kernel))) dX1_digestOn_24 ?_
  refine lv_lload_n hx hb (pc := 27) dX1_digestOn_27 rfl (lv_at hl 0 rfl) ?_
  refine lv_lmul hx hb (pc := 28) dX1_digestOn_28 ?_
  refine lv_aload_n hx hb (pc := 29) dX1_digestOn_29 rfl (lv_at hl 1 rfl) ?_
  refine va_get (v := .int (nI gw)) hx hb hts (inX1_digestOn_1) hown hKK.1 hP 0 rfl rfl 2 (by decide) (hts _ (List.mem_of_getElem? (i := 4) (by decide +kernel))) (fun _ h9 => h9) rfl (pc := 30) dX1_digestOn_30 ?_
  refine lv_i2l (v := (nI gw).toInt64) hx hb (pc := 33) dX1_digestOn_33 (rfl) ?_
  refine lv_ladd hx hb (pc := 34) dX1_digestOn_34 ?_
  refine lv_lstore_n (lv' := [(3, .long (((lN 31) * (((lN 31) * (((lN 31) * h) + ((nI k).toInt64))) + ((nI n).toInt64))) + ((nI gw).toInt64))), (0, .ref go), (1, .long h)]) hx hb (pc := 35) dX1_digestOn_35 rfl hl (by decide) rfl (fun ls hl => ?_)
  refine lv_ldc2 (v := lN 31) hx hb (pc := 36) hown (hts _ (List.mem_of_getElem? (i := 1) (by decide +kernel))) dX1_digestOn_36 ?_
  refine lv_lload_n hx hb (pc := 39) dX1_digestOn_39 rfl (lv_at hl 0 rfl) ?_
  refine lv_lmul hx hb (pc := 40) dX1_digestOn_40 ?_
  refine lv_aload_n hx hb (pc := 41) dX1_digestOn_41 rfl (lv_at hl 1 rfl) ?_
  refine va_get (v := .int (nI al)) hx hb hts (inX1_digestOn_1) hown hKK.1 hP 0 rfl rfl 3 (by decide) (hts _ (List.mem_of_getElem? (i := 5) (by decide +kernel))) (fun _ h9 => h9) rfl (pc := 42) dX1_digestOn_42 ?_
  refine rr_callP (rv := .int (nI (pc al))) (pc := 45) (va_runS (As := [.int (nI al)]) (rest := [.long ((lN 31) * (((lN 31) * (((lN 31) * (((lN 31) * h) + ((nI k).toInt64))) + ((nI n).toInt64))) + ((nI gw).toInt64)))]) ⟨hx, hb, hml, hown, hts⟩ (c_J6_bitCount_0f7a4 l K al hal) (va_cwS 1 hts gX1_digestOn_J6_bitCount_0f7a4 rfl rfl rfl (by decide +kernel) ⟨Nat.le_of_ble_eq_true rfl, Nat.le_of_ble_eq_true rfl⟩) (rr_preS hKK (trivial)) rfl rfl hl.1 rfl (lv_room (Nat.le_of_ble_eq_true rfl)) dX1_digestOn_45 ⟨Nat.le_refl _, Nat.le_refl _⟩) ?_
  refine lv_i2l (v := (nI (pc al)).toInt64) hx hb (pc := 48) dX1_digestOn_48 (rfl) ?_
  refine lv_ladd hx hb (pc := 49) dX1_digestOn_49 ?_
  refine lv_lstore_n (lv' := [(3, .long (((lN 31) * (((lN 31) * (((lN 31) * (((lN 31) * h) + ((nI k).toInt64))) + ((nI n).toInt64))) + ((nI gw).toInt64))) + ((nI (pc al)).toInt64))), (0, .ref go), (1, .long h)]) hx hb (pc := 50) dX1_digestOn_50 rfl hl (by decide) rfl (fun ls hl => ?_)
  refine lv_ldc2 (v := lN 31) hx hb (pc := 51) hown (hts _ (List.mem_of_getElem? (i := 1) (by decide +kernel))) dX1_digestOn_51 ?_
  refine lv_lload_n hx hb (pc := 54) dX1_digestOn_54 rfl (lv_at hl 0 rfl) ?_
  refine lv_lmul hx hb (pc := 55) dX1_digestOn_55 ?_
  refine lv_aload_n hx hb (pc := 56) dX1_digestOn_56 rfl (lv_at hl 1 rfl) ?_
  refine va_get (v := .int (nI lw)) hx hb hts (inX1_digestOn_1) hown hKK.1 hP 0 rfl rfl 4 (by decide) (hts _ (List.mem_of_getElem? (i := 6) (by decide +kernel))) (fun _ h9 => h9) rfl (pc := 57) dX1_digestOn_57 ?_
  refine lv_i2l (v := (nI lw).toInt64) hx hb (pc := 60) dX1_digestOn_60 (rfl) ?_
  refine lv_ladd hx hb (pc := 61) dX1_digestOn_61 ?_
  refine rr_top (v := .long (dgH h k n gw (pc al) lw)) (congrArg Value.long (dgH_def _ _ _ _ _ _)) ?_
  refine lv_lstore_n (lv' := [(3, .long (dgH h k n gw (pc al) lw)), (0, .ref go), (1, .long h)]) hx hb (pc := 62) dX1_digestOn_62 rfl hl (by decide) rfl (fun ls hl => ?_)
  refine lv_iconst (v := nI 0) hx hb (pc := 63) dX1_digestOn_63 (by decide) ?_
  refine lv_istore (lv' := [(5, .int (nI 0)), (3, .long (dgH h k n gw (pc al) lw)), (0, .ref go), (1, .long h)]) hx hb (pc := 64) dX1_digestOn_64 hl (by decide) rfl (fun ls hl => ?_)
  have L66 : ∀ (fz : Nat) (q : Nat) (hfz : n - q < fz) (hq : q ≤ n) (ls : Array Slot) (hl : lv_has ls 7 [(0, .ref go), (3, .long (dgE k q E (dgH h k n gw (pc al) lw))), (5, .int (nI q))]), W p l e rmX1_digestOn s m args below meth c s.heap [] 0 0 Q (F0 m 66 ls []) := by
    intro fz; induction fz with
    | zero => intro q hfz hq ls hl; exact absurd hfz (Nat.not_lt_zero _)
    | succ fz ih66 =>
      intro q hfz hq ls hl
      refine lv_iload hx hb (pc := 66) dX1_digestOn_66 (lv_at hl 2 rfl) ?_
      refine lv_aload_n hx hb (pc := 68) dX1_digestOn_68 rfl (lv_at hl 0 rfl) ?_
      refine va_get (v := .int (nI n)) hx hb hts (inX1_digestOn_1) hown hKK.1 hP 0 rfl rfl 1 (by decide) (hts _ (List.mem_of_getElem? (i := 3) (by decide +kernel))) (fun _ h9 => h9) rfl (pc := 69) dX1_digestOn_69 ?_
      refine nv_icmp_ge (a := q) (b := n) (tgt := 119) hx hb (pc := 72) dX1_digestOn_72 (by decide) (by omega) (by omega) (fun c72 => ?_) (fun c72 => ?_)
      · refine lv_lload_n hx hb (pc := 119) dX1_digestOn_119 rfl (lv_at hl 1 rfl) ?_
        have e9 : q = n := by omega
        exact hret.2.1 120 _ (dgE k q E (dgH h k n gw (pc al) lw)) dX1_digestOn_120 (by rw [e9]) rfl
      · refine lv_iconst (v := nI 0) hx hb (pc := 75) dX1_digestOn_75 (by decide) ?_
        refine lv_istore (lv' := [(6, .int (nI 0)), (0, .ref go), (3, .long (dgE k q E (dgH h k n gw (pc al) lw))), (5, .int (nI q))]) hx hb (pc := 76) dX1_digestOn_76 hl (by decide) rfl (fun ls hl => ?_)
        have L78 : ∀ (fz : Nat) (y : Nat) (hfz : k - y < fz) (hy : y ≤ k) (ls : Array Slot) (hl : lv_has ls 7 [(0, .ref go), (3, .long (rr_fold (fun y h => dg h (nI (E (q * 4 + y)))) y (dgE k q E (dgH h k n gw (pc al) lw)))), (5, .int (nI q)), (6, .int (nI y))]), W p l e rmX1_digestOn s m args below meth c s.heap [] 0 0 Q (F0 m 78 ls []) := by
          intro fz; induction fz with
          | zero => intro y hfz hy ls hl; exact absurd hfz (Nat.not_lt_zero _)
          | succ fz ih78 =>
            intro y hfz hy ls hl
            refine lv_iload hx hb (pc := 78) dX1_digestOn_78 (lv_at hl 3 rfl) ?_
            refine lv_aload_n hx hb (pc := 80) dX1_digestOn_80 rfl (lv_at hl 0 rfl) ?_
            refine va_get (v := .int (nI k)) hx hb hts (inX1_digestOn_1) hown hKK.1 hP 0 rfl rfl 0 (by decide) (hts _ (List.mem_of_getElem? (i := 2) (by decide +kernel))) (fun _ h9 => h9) rfl (pc := 81) dX1_digestOn_81 ?_
            refine nv_icmp_ge (a := y) (b := k) (tgt := 113) hx hb (pc := 84) dX1_digestOn_84 (by decide) (by omega) (by omega) (fun c84 => ?_) (fun c84 => ?_)
            · refine lv_iinc (v := nI (q + 1)) (lv' := [(5, .int (nI (q + 1))), (0, .ref go), (3, .long (rr_fold (fun y h => dg h (nI (E (q * 4 + y)))) y (dgE k q E (dgH h k n gw (pc al) lw)))), (6, .int (nI y))]) hx hb (pc := 113) dX1_digestOn_113 hl (k := 2) rfl (rr_inc _) (by decide) rfl (fun ls hl => ?_)
              refine lv_goto (tgt := 66) hx hb (pc := 116) dX1_digestOn_116 (by decide) ?_
              have hl : lv_has ls 7 [(5, .int (nI (q + 1))), (0, .ref go), (3, .long (dgE k (q + 1) E (dgH h k n gw (pc al) lw))), (6, .int (nI y))] := by rw [show dgE k (q + 1) E (dgH h k n gw (pc al) lw) = rr_fold (fun y h => dg h (nI (E (q * 4 + y)))) y (dgE k q E (dgH h k n gw (pc al) lw)) from by rw [dgE_succ, show y = k by omega]]; exact hl
              exact ih66 (q + 1) (by omega) (by omega) ls (lv_sub hl [1, 2, 0] rfl)
            · refine lv_ldc2 (v := lN 31) hx hb (pc := 87) hown (hts _ (List.mem_of_getElem? (i := 1) (by decide +kernel))) dX1_digestOn_87 ?_
              refine lv_lload_n hx hb (pc := 90) dX1_digestOn_90 rfl (lv_at hl 1 rfl) ?_
              refine lv_lmul hx hb (pc := 91) dX1_digestOn_91 ?_
              refine lv_aload_n hx hb (pc := 92) dX1_digestOn_92 rfl (lv_at hl 0 rfl) ?_
              refine va_get (v := .ref ge) hx hb hts (inX1_digestOn_1) hown hKK.1 hP 0 rfl rfl 5 (by decide) (hts _ (List.mem_of_getElem? (i := 7) (by decide +kernel))) (fun _ h9 => h9) rfl (pc := 93) dX1_digestOn_93 ?_
              refine lv_iload hx hb (pc := 96) dX1_digestOn_96 (lv_at hl 2 rfl) ?_
              refine lv_iconst (v := nI 4) hx hb (pc := 98) dX1_digestOn_98 (by decide) ?_
              refine nv_imul (a := q) (b := 4) hx hb (pc := 99) dX1_digestOn_99 ?_
              refine lv_iload hx hb (pc := 100) dX1_digestOn_100 (lv_at hl 3 rfl) ?_
              refine nv_iadd (a := (q * 4)) (b := y) hx hb (pc := 102) dX1_digestOn_102 ?_
              refine nv_iald (v := nI (E ((q * 4) + y))) (i := ((q * 4) + y)) hx hb hKK hP 1 rfl (by omega) (by decide) (rfl) (pc := 103) dX1_digestOn_103 ?_
              refine lv_i2l (v := (nI (E ((q * 4) + y))).toInt64) hx hb (pc := 104) dX1_digestOn_104 (rfl) ?_
              refine lv_ladd hx hb (pc := 105) dX1_digestOn_105 ?_
              refine rr_top (v := .long (rr_fold (fun y h => dg h (nI (E (q * 4 + y)))) (y + 1) (dgE k q E (dgH h k n gw (pc al) lw)))) (congrArg Value.long (dg_fold (fun y => nI (E (q * 4 + y))) y _)) ?_
              refine lv_lstore_n (lv' := [(3, .long (rr_fold (fun y h => dg h (nI (E (q * 4 + y)))) (y + 1) (dgE k q E (dgH h k n gw (pc al) lw)))), (0, .ref go), (5, .int (nI q)), (6, .int (nI y))]) hx hb (pc := 106) dX1_digestOn_106 rfl hl (by decide) rfl (fun ls hl => ?_)
              refine lv_iinc (v := nI (y + 1)) (lv' := [(6, .int (nI (y + 1))), (3, .long (rr_fold (fun y h => dg h (nI (E (q * 4 + y)))) (y + 1) (dgE k q E (dgH h k n gw (pc al) lw)))), (0, .ref go), (5, .int (nI q))]) hx hb (pc := 107) dX1_digestOn_107 hl (k := 3) rfl (rr_inc _) (by decide) rfl (fun ls hl => ?_)
              refine lv_goto (tgt := 78) hx hb (pc := 110) dX1_digestOn_110 (by decide) ?_
              exact ih78 (y + 1) (by omega) (by omega) ls (lv_sub hl [2, 1, 3, 0] rfl)
        have hl : lv_has ls 7 [(6, .int (nI 0)), (0, .ref go), (3, .long (rr_fold (fun y h => dg h (nI (E (q * 4 + y)))) 0 (dgE k q E (dgH h k n gw (pc al) lw)))), (5, .int (nI q))] := by rw [show rr_fold (fun y h => dg h (nI (E (q * 4 + y)))) 0 (dgE k q E (dgH h k n gw (pc al) lw)) = dgE k q E (dgH h k n gw (pc al) lw) from rr_fold_0 _ _]; exact hl
        exact L78 (k + 1) 0 (by omega) (Nat.zero_le _) ls (lv_sub hl [1, 2, 3, 0] rfl)
  have hl : lv_has ls 7 [(5, .int (nI 0)), (3, .long (dgE k 0 E (dgH h k n gw (pc al) lw))), (0, .ref go), (1, .long h)] := by rw [show dgE k 0 E (dgH h k n gw (pc al) lw) = dgH h k n gw (pc al) lw from dgE_0 _ _ _]; exact hl
  exact L66 (n + 1) 0 (by omega) (Nat.zero_le _) ls (lv_sub hl [2, 1, 0] rfl)

