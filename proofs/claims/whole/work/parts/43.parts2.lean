abbrev rmX6_measure : Room := { frames := 3, cells := 0, slots := 0, locals := 66 }
theorem inX6_measure_1 : ∀ w ∈ wsX10, w ∈ wsX6_measure := fun _ h => List.mem_cons_of_mem _ (List.mem_append_right _ h)
theorem inX6_measure_6 : ∀ w ∈ wsX60, w ∈ wsX6_measure := fun _ h => List.mem_cons_of_mem _ (List.mem_append_left _ (List.mem_append_right _ h))
set_option maxHeartbeats 4000000 in
set_option maxRecDepth 100000 in
theorem c_X6_measure (l : Launch) (K : rr_K) (A : Nat → Prop) (xo xr xf : Nat) (rF : Nat → Nat) (fF : Nat → Int32) (go ge gt k n gw al lw : Nat) (E T : Nat → Nat) (st mb : Nat) (hk4 : k ≤ 4) (hn : n ≤ 16) (hal : al < 65536) (hst : st < 16) (hmb : mb < 65536) (hD : va_D A (XW6 K xo xr xf rF fF)) (hGA : ∀ (k_ : Nat) (q_ : Nat × va_E), (GW K go ge gt k n gw al lw E T)[k_]? = some q_ → ¬ A q_.1) : MetV l K yX6_measure wsX6_measure rmX6_measure [.ref xo, .ref go, .int (nI st), .int (nI mb)] (fun H => va_P K.1 vwCl (XW6 K xo xr xf rF fF) H ∧ va_P K.1 vwCl (GW K go ge gt k n gw al lw E T) H) A (fun H => ∃ fF', (∀ j, j < 16 → fF' j = nI ((bfS (lO k al E) n mb st 16).1 j) - 1) ∧ va_P K.1 vwCl (XW6 K xo xr xf rF fF') H) 0 0 := by
  refine metV_of (cc := cX6_measure) (maxL := 9) (by decide) rfl rfl rfl (Nat.le_of_ble_eq_true rfl) ?_
  intro p e s m args below meth c Q ls hEnt hin hKK hX hret hl
  obtain ⟨hx, hb, hml, hown, hts⟩ := hEnt
  obtain ⟨hP, hG⟩ := hX
  have hP : va_P K.1 vwCl (XW6 K xo xr xf rF fF) s.heap := hP
  have hG : va_P K.1 vwCl (GW K go ge gt k n gw al lw E T) s.heap := hG
  have hl : lv_has ls 9 [(0, .ref xo), (1, .ref go), (2, .int (nI st)), (3, .int (nI mb))] := hl
  have hS : va_S A s.heap s.heap [] := va_S.rf
  have hlo : ∀ q, lO k al E q < 65536 := orE_lt hal
  have hP : va_P K.1 vwCl (XW6 K xo xr xf rF (fun j => nI ((fun j => (fF j).toUInt32.toNat) j))) s.heap := by rw [rI_u]; exact hP
  have hD : va_D A (XW6 K xo xr xf rF (fun j => nI ((fun j => (fF j).toUInt32.toNat) j))) := rr_D hD rfl
  refine lv_aload_n hx hb (pc := 0) dX6_measure_0 rfl (lv_at hl 0 rfl) ?_
  refine va_get (v := .ref xf) hx hb hts (inX6_measure_6) hown hKK.1 hP 0 rfl rfl 1 (by decide) (hts _ (List.mem_of_getElem? (i := 1) (by decide +kernel))) (fun _ h9 => h9) rfl (pc := 1) dX6_measure_1 ?_
  refine lv_iconst (v := -1) hx hb (pc := 4) dX6_measure_4 (by decide) ?_
  refine rr_top (v := .int (nI 4294967295)) (by decide) ?_
  have hP : va_P K.1 vwCl ([(xo, .inr (6, [.ref xr, .ref xf])), (xr, .inl (K.2.1, 16, .inl (fun j => nI (rF j))))] ++ RA K xf 16 (fun j => (fF j).toUInt32.toNat)) s.heap := hP
  have hD : va_D A ([(xo, .inr (6, [.ref xr, .ref xf])), (xr, .inl (K.2.1, 16, .inl (fun j => nI (rF j))))] ++ RA K xf 16 (fun j => (fF j).toUInt32.toNat)) := hD
  have hDc := rr_AW (rr_Dright hD)
  refine rr_callV (pc := 5) (va_runS (As := [.ref xf, .int (nI 4294967295)]) (rest := []) ⟨hx, hb, hml, hown, hts⟩ (c_J7_fill_53178 l K (AW (RA K xf 16 (fun j => (fF j).toUInt32.toNat))) xf 16 4294967295 (fun j => (fF j).toUInt32.toNat) (by decide) hDc) (va_cwS 2 hts gX6_measure_J7_fill_53178 rfl rfl rfl (by decide +kernel) ⟨Nat.le_of_ble_eq_true rfl, Nat.le_of_ble_eq_true rfl⟩) (rr_preS hKK (rr_right hP)) rfl rfl hl.1 rfl (lv_room (Nat.le_of_ble_eq_true rfl)) dX6_measure_5 ⟨by omega, by omega⟩) hS (rr_AW_in (rr_Dright hD)) (fun H locs hY hsz hfr hS => ?_)
  have hP1 := hY
  obtain ⟨hP, hD⟩ := rr_app2 hP hD hfr hP1 rfl
  have hD : va_D A (XW6 K xo xr xf rF (fun j => nI ((putZ (fun j => (fF j).toUInt32.toNat) (fun _ => 4294967295) 16) j))) := hD
  have hP : va_P K.1 vwCl (XW6 K xo xr xf rF (fun j => nI ((putZ (fun j => (fF j).toUInt32.toNat) (fun _ => 4294967295) 16) j))) H := hP
  refine lv_iconst (v := nI 1) hx hb (pc := 8) dX6_measure_8 (by decide) ?_
  refine lv_iload_n hx hb (pc := 9) dX6_measure_9 rfl (lv_at hl 2 rfl) ?_
  refine nv_ishl (a := 1) (b := st) hx hb (pc := 10) dX6_measure_10 (by omega) ?_
  refine lv_istore (lv' := [(4, .int (nI (1 <<< st))), (0, .ref xo), (1, .ref go), (2, .int (nI st)), (3, .int (nI mb))]) hx hb (pc := 11) dX6_measure_11 hl (by decide) rfl (fun ls hl => ?_)
  refine lv_iload hx hb (pc := 13) dX6_measure_13 (lv_at hl 0 rfl) ?_
  refine lv_istore (lv' := [(5, .int (nI (1 <<< st))), (4, .int (nI (1 <<< st))), (0, .ref xo), (1, .ref go), (2, .int (nI st)), (3, .int (nI mb))]) hx hb (pc := 15) dX6_measure_15 hl (by decide) rfl (fun ls hl => ?_)
  refine lv_iconst (v := nI 0) hx hb (pc := 17) dX6_measure_17 (by decide) ?_
  refine lv_istore (lv' := [(6, .int (nI 0)), (5, .int (nI (1 <<< st))), (4, .int (nI (1 <<< st))), (0, .ref xo), (1, .ref go), (2, .int (nI st)), (3, .int (nI mb))]) hx hb (pc := 18) dX6_measure_18 hl (by decide) rfl (fun ls hl => ?_)
  have L20 : ∀ (fz : Nat) (d : Nat) (fF1 : Nat → Int32) (H : Heap) (locs : List Loc) (hP : va_P K.1 vwCl (XW6 K xo xr xf rF fF1) H) (hD : va_D A (XW6 K xo xr xf rF fF1)) (hS : va_S A s.heap H locs) (hfz : 16 - d < fz) (hd : d ≤ 16) (hf1 : ∀ j, j < 16 → fF1 j = nI ((bfS (lO k al E) n mb st d).1 j) - 1) (ls : Array Slot) (hl : lv_has ls 9 [(0, .ref xo), (1, .ref go), (2, .int (nI st)), (3, .int (nI mb)), (4, .int (nI ((bfS (lO k al E) n mb st d).2.1))), (5, .int (nI ((bfS (lO k al E) n mb st d).2.2))), (6, .int (nI d))]), W p l e rmX6_measure s m args below meth c H locs 0 0 Q (F0 m 20 ls []) := by
    intro fz; induction fz with
    | zero => intro d fF1 H locs hP hD hS hfz hd hf1 ls hl; exact absurd hfz (Nat.not_lt_zero _)
    | succ fz ih20 =>
      intro d fF1 H locs hP hD hS hfz hd hf1 ls hl
      obtain ⟨hb1, hb2⟩ := bfS_lt (lo := lO k al E) (n := n) hst hmb d
      refine lv_iload hx hb (pc := 20) dX6_measure_20 (lv_at hl 6 rfl) ?_
      refine lv_bipush (v := nI 16) hx hb (pc := 22) dX6_measure_22 (by decide) ?_
      refine nv_icmp_ge (a := d) (b := 16) (tgt := 102) hx hb (pc := 24) dX6_measure_24 (by decide) (by omega) (by omega) (fun c24 => ?_) (fun c24 => ?_)
      · have e9 : d = 16 := by omega
        exact hret _ _ 0 0 102 _ dX6_measure_102 (by omega) (by omega) hS (⟨_, fun j hj => by rw [hf1 j hj, e9], hP⟩)
      · refine lv_iconst (v := nI 0) hx hb (pc := 27) dX6_measure_27 (by decide) ?_
        refine lv_istore (lv' := [(7, .int (nI 0)), (0, .ref xo), (1, .ref go), (2, .int (nI st)), (3, .int (nI mb)), (4, .int (nI ((bfS (lO k al E) n mb st d).2.1))), (5, .int (nI ((bfS (lO k al E) n mb st d).2.2))), (6, .int (nI d))]) hx hb (pc := 28) dX6_measure_28 hl (by decide) rfl (fun ls hl => ?_)
        refine lv_iconst (v := nI 0) hx hb (pc := 30) dX6_measure_30 (by decide) ?_
        refine lv_istore (lv' := [(8, .int (nI 0)), (7, .int (nI 0)), (0, .ref xo), (1, .ref go), (2, .int (nI st)), (3, .int (nI mb)), (4, .int (nI ((bfS (lO k al E) n mb st d).2.1))), (5, .int (nI ((bfS (lO k al E) n mb st d).2.2))), (6, .int (nI d))]) hx hb (pc := 31) dX6_measure_31 hl (by decide) rfl (fun ls hl => ?_)
        have L33 : ∀ (fz : Nat) (q : Nat) (fF2 : Nat → Int32) (H : Heap) (locs : List Loc) (hP : va_P K.1 vwCl (XW6 K xo xr xf rF fF2) H) (hD : va_D A (XW6 K xo xr xf rF fF2)) (hS : va_S A s.heap H locs) (hfz : n - q < fz) (hq : q ≤ n) (hf2 : ∀ j, j < 16 → fF2 j = nI ((mI (lO k al E) d (bfS (lO k al E) n mb st d).2.2 q (bfS (lO k al E) n mb st d).1).1 j) - 1) (ls : Array Slot) (hl : lv_has ls 9 [(0, .ref xo), (1, .ref go), (2, .int (nI st)), (3, .int (nI mb)), (4, .int (nI ((bfS (lO k al E) n mb st d).2.1))), (5, .int (nI ((bfS (lO k al E) n mb st d).2.2))), (6, .int (nI d)), (7, .int (nI ((mI (lO k al E) d (bfS (lO k al E) n mb st d).2.2 q (bfS (lO k al E) n mb st d).1).2))), (8, .int (nI q))]), W p l e rmX6_measure s m args below meth c H locs 0 0 Q (F0 m 33 ls []) := by
          intro fz; induction fz with
          | zero => intro q fF2 H locs hP hD hS hfz hq hf2 ls hl; exact absurd hfz (Nat.not_lt_zero _)
          | succ fz ih33 =>
            intro q fF2 H locs hP hD hS hfz hq hf2 ls hl
            have hmi := mI_lt (d := d) (ed := (bfS (lO k al E) n mb st d).2.2) (f := (bfS (lO k al E) n mb st d).1) hlo q
            refine lv_iload hx hb (pc := 33) dX6_measure_33 (lv_at hl 8 rfl) ?_
            refine lv_aload_n hx hb (pc := 35) dX6_measure_35 rfl (lv_at hl 1 rfl) ?_
            refine va_get (v := .int (nI n)) hx hb hts (inX6_measure_1) hown hKK.1 (rr_ro (A := A) hG hGA hS) 0 rfl rfl 1 (by decide) (hts _ (List.mem_of_getElem? (i := 2) (by decide +kernel))) (fun _ h9 => h9) rfl (pc := 36) dX6_measure_36 ?_
            refine nv_icmp_ge (a := q) (b := n) (tgt := 78) hx hb (pc := 39) dX6_measure_39 (by decide) (by omega) (by omega) (fun c39 => ?_) (fun c39 => ?_)
            · have hq9 : q = n := by omega
              have hmm : (mI (lO k al E) d (bfS (lO k al E) n mb st d).2.2 q (bfS (lO k al E) n mb st d).1).2 &&& mb < 65536 := Nat.lt_of_le_of_lt Nat.and_le_right hmb
              refine lv_iload hx hb (pc := 78) dX6_measure_78 (lv_at hl 7 rfl) ?_
              refine lv_iload_n hx hb (pc := 80) dX6_measure_80 rfl (lv_at hl 3 rfl) ?_
              refine nv_iand (a := ((mI (lO k al E) d (bfS (lO k al E) n mb st d).2.2 q (bfS (lO k al E) n mb st d).1).2)) (b := mb) hx hb (pc := 81) dX6_measure_81 ?_
              refine lv_iload hx hb (pc := 82) dX6_measure_82 (lv_at hl 4 rfl) ?_
              refine lv_iconst (v := -1) hx hb (pc := 84) dX6_measure_84 (by decide) ?_
              refine lv_ixor hx hb (pc := 85) dX6_measure_85 ?_
              refine lv_iand hx hb (pc := 86) dX6_measure_86 ?_
              refine rr_top (v := .int (nI (andN ((mI (lO k al E) d (bfS (lO k al E) n mb st d).2.2 q (bfS (lO k al E) n mb st d).1).2 &&& mb) ((bfS (lO k al E) n mb st d).2.1)))) (by rw [andN_eq hmm]) ?_
              refine lv_istore (lv' := [(5, .int (nI (andN ((mI (lO k al E) d (bfS (lO k al E) n mb st d).2.2 q (bfS (lO k al E) n mb st d).1).2 &&& mb) ((bfS (lO k al E) n mb st d).2.1)))), (0, .ref xo), (1, .ref go), (2, .int (nI st)), (3, .int (nI mb)), (4, .int (nI ((bfS (lO k al E) n mb st d).2.1))), (6, .int (nI d)), (7, .int (nI ((mI (lO k al E) d (bfS (lO k al E) n mb st d).2.2 q (bfS (lO k al E) n mb st d).1).2))), (8, .int (nI q))]) hx hb (pc := 87) dX6_measure_87 hl (by decide) rfl (fun ls hl => ?_)
              refine lv_iload hx hb (pc := 89) dX6_measure_89 (lv_at hl 5 rfl) ?_
              refine lv_iload hx hb (pc := 91) dX6_measure_91 (lv_at hl 0 rfl) ?_
              refine nv_ior (a := ((bfS (lO k al E) n mb st d).2.1)) (b := (andN ((mI (lO k al E) d (bfS (lO k al E) n mb st d).2.2 q (bfS (lO k al E) n mb st d).1).2 &&& mb) ((bfS (lO k al E) n mb st d).2.1))) hx hb (pc := 93) dX6_measure_93 ?_
              refine lv_istore (lv' := [(4, .int (nI (((bfS (lO k al E) n mb st d).2.1) ||| (andN ((mI (lO k al E) d (bfS (lO k al E) n mb st d).2.2 q (bfS (lO k al E) n mb st d).1).2 &&& mb) ((bfS (lO k al E) n mb st d).2.1))))), (5, .int (nI (andN ((mI (lO k al E) d (bfS (lO k al E) n mb st d).2.2 q (bfS (lO k al E) n mb st d).1).2 &&& mb) ((bfS (lO k al E) n mb st d).2.1)))), (0, .ref xo), (1, .ref go), (2, .int (nI st)), (3, .int (nI mb)), (6, .int (nI d)), (7, .int (nI ((mI (lO k al E) d (bfS (lO k al E) n mb st d).2.2 q (bfS (lO k al E) n mb st d).1).2))), (8, .int (nI q))]) hx hb (pc := 94) dX6_measure_94 hl (by decide) rfl (fun ls hl => ?_)
              refine lv_iinc (v := nI (d + 1)) (lv' := [(6, .int (nI (d + 1))), (4, .int (nI (((bfS (lO k al E) n mb st d).2.1) ||| (andN ((mI (lO k al E) d (bfS (lO k al E) n mb st d).2.2 q (bfS (lO k al E) n mb st d).1).2 &&& mb) ((bfS (lO k al E) n mb st d).2.1))))), (5, .int (nI (andN ((mI (lO k al E) d (bfS (lO k al E) n mb st d).2.2 q (bfS (lO k al E) n mb st d).1).2 &&& mb) ((bfS (lO k al E) n mb st d).2.1)))), (0, .ref xo), (1, .ref go), (2, .int (nI st)), (3, .int (nI mb)), (7, .int (nI ((mI (lO k al E) d (bfS (lO k al E) n mb st d).2.2 q (bfS (lO k al E) n mb st d).1).2))), (8, .int (nI q))]) hx hb (pc := 96) dX6_measure_96 hl (k := 6) rfl (rr_inc _) (by decide) rfl (fun ls hl => ?_)
              refine lv_goto (tgt := 20) hx hb (pc := 99) dX6_measure_99 (by decide) ?_
              have e9 : q = n := by omega
              have hl : lv_has ls 9 [(6, .int (nI (d + 1))), (4, .int (nI ((bfS (lO k al E) n mb st (d + 1)).2.1))), (5, .int (nI (andN ((mI (lO k al E) d (bfS (lO k al E) n mb st d).2.2 q (bfS (lO k al E) n mb st d).1).2 &&& mb) ((bfS (lO k al E) n mb st d).2.1)))), (0, .ref xo), (1, .ref go), (2, .int (nI st)), (3, .int (nI mb)), (7, .int (nI ((mI (lO k al E) d (bfS (lO k al E) n mb st d).2.2 q (bfS (lO k al E) n mb st d).1).2))), (8, .int (nI q))] := by rw [show (bfS (lO k al E) n mb st (d + 1)).2.1 = ((bfS (lO k al E) n mb st d).2.1) ||| (andN ((mI (lO k al E) d (bfS (lO k al E) n mb st d).2.2 q (bfS (lO k al E) n mb st d).1).2 &&& mb) ((bfS (lO k al E) n mb st d).2.1)) from by rw [e9]; rfl]; exact hl
              have hl : lv_has ls 9 [(6, .int (nI (d + 1))), (4, .int (nI ((bfS (lO k al E) n mb st (d + 1)).2.1))), (5, .int (nI ((bfS (lO k al E) n mb st (d + 1)).2.2))), (0, .ref xo), (1, .ref go), (2, .int (nI st)), (3, .int (nI mb)), (7, .int (nI ((mI (lO k al E) d (bfS (lO k al E) n mb st d).2.2 q (bfS (lO k al E) n mb st d).1).2))), (8, .int (nI q))] := by rw [show (bfS (lO k al E) n mb st (d + 1)).2.2 = andN ((mI (lO k al E) d (bfS (lO k al E) n mb st d).2.2 q (bfS (lO k al E) n mb st d).1).2 &&& mb) ((bfS (lO k al E) n mb st d).2.1) from by rw [e9]; rfl]; exact hl
              exact ih20 (d + 1) fF2 _ _ hP hD hS (by omega) (by omega) (fun j hj => by rw [hf2 j hj, e9]; rfl) ls (lv_sub hl [3, 4, 5, 6, 1, 2, 0] rfl)
            · refine lv_iload hx hb (pc := 42) dX6_measure_42 (lv_at hl 5 rfl) ?_
              refine lv_iload hx hb (pc := 44) dX6_measure_44 (lv_at hl 8 rfl) ?_
              refine nv_ishr (a := ((bfS (lO k al E) n mb st d).2.2)) (b := q) hx hb (pc := 46) dX6_measure_46 (by omega) (by omega) ?_
              refine lv_iconst (v := nI 1) hx hb (pc := 47) dX6_measure_47 (by decide) ?_
              refine nv_bit (a := ((bfS (lO k al E) n mb st d).2.2)) (q := q) hx hb (pc := 48) dX6_measure_48 ?_
              refine nv_if_eq_b (a := (((bfS (lO k al E) n mb st d).2.2).testBit q)) (tgt := 72) hx hb (pc := 49) dX6_measure_49 (by decide) (fun c49 => ?_) (fun c49 => ?_)
              · refine lv_iinc (v := nI (q + 1)) (lv' := [(8, .int (nI (q + 1))), (0, .ref xo), (1, .ref go), (2, .int (nI st)), (3, .int (nI mb)), (4, .int (nI ((bfS (lO k al E) n mb st d).2.1))), (5, .int (nI ((bfS (lO k al E) n mb st d).2.2))), (6, .int (nI d)), (7, .int (nI ((mI (lO k al E) d (bfS (lO k al E) n mb st d).2.2 q (bfS (lO k al E) n mb st d).1).2)))]) hx hb (pc := 72) dX6_measure_72 hl (k := 8) rfl (rr_inc _) (by decide) rfl (fun ls hl => ?_)
                refine lv_goto (tgt := 33) hx hb (pc := 75) dX6_measure_75 (by decide) ?_
                have hl : lv_has ls 9 [(8, .int (nI (q + 1))), (0, .ref xo), (1, .ref go), (2, .int (nI st)), (3, .int (nI mb)), (4, .int (nI ((bfS (lO k al E) n mb st d).2.1))), (5, .int (nI ((bfS (lO k al E) n mb st d).2.2))), (6, .int (nI d)), (7, .int (nI ((mI (lO k al E) d (bfS (lO k al E) n mb st d).2.2 (q + 1) (bfS (lO k al E) n mb st d).1).2)))] := by rw [show (mI (lO k al E) d (bfS (lO k al E) n mb st d).2.2 (q + 1) (bfS (lO k al E) n mb st d).1).2 = (mI (lO k al E) d (bfS (lO k al E) n mb st d).2.2 q (bfS (lO k al E) n mb st d).1).2 from by first | (rw [mI_yes c49]; done) | (rw [mI_no c49]; done)]; exact hl
                exact ih33 (q + 1) fF2 _ _ hP hD hS (by omega) (by omega) (by first | exact hf3 | (rw [mI_no c49]; exact hf2)) ls (lv_sub hl [1, 2, 3, 4, 5, 6, 7, 8, 0] rfl)
              · refine lv_aload_n hx hb (pc := 52) dX6_measure_52 rfl (lv_at hl 0 rfl) ?_
                refine va_get (v := .ref xf) hx hb hts (inX6_measure_6) hown hKK.1 hP 0 rfl rfl 1 (by decide) (hts _ (List.mem_of_getElem? (i := 1) (by decide +kernel))) (fun _ h9 => h9) rfl (pc := 53) dX6_measure_53 ?_
                refine lv_iload hx hb (pc := 56) dX6_measure_56 (lv_at hl 8 rfl) ?_
                refine lv_iload hx hb (pc := 58) dX6_measure_58 (lv_at hl 6 rfl) ?_
                refine nv_iastr (f := fF2) (x := (nI d)) (ws' := XW6 K xo xr xf rF (va_up fF2 q (nI d))) (i := q) hx hb hKK hP hD hS 2 rfl (by omega) (by decide) (rfl) (pc := 60) dX6_measure_60 (fun H locs hP hD hS => ?_)
                have hf3 : ∀ j, j < 16 → va_up fF2 q (nI d) j = nI ((mI (lO k al E) d (bfS (lO k al E) n mb st d).2.2 (q + 1) (bfS (lO k al E) n mb st d).1).1 j) - 1 := fun j hj => by
                  rw [mI_yes c49]
                  show va_up fF2 q (nI d) j = nI (va_up (mI (lO k al E) d (bfS (lO k al E) n mb st d).2.2 q (bfS (lO k al E) n mb st d).1).1 q (d + 1) j) - 1
                  unfold va_up
                  split
                  · exact (nI_pred d).symm
                  · exact hf2 j hj
                refine lv_iload hx hb (pc := 61) dX6_measure_61 (lv_at hl 7 rfl) ?_
                refine lv_aload_n hx hb (pc := 63) dX6_measure_63 rfl (lv_at hl 1 rfl) ?_
                refine lv_iload hx hb (pc := 64) dX6_measure_64 (lv_at hl 8 rfl) ?_
                refine rr_callP (rv := .int (nI (lO k al E q))) (pc := 66) (va_runV (As := [.int (nI q)]) (rest := [.int (nI ((mI (lO k al E) d (bfS (lO k al E) n mb st d).2.2 q (bfS (lO k al E) n mb st d).1).2))]) ⟨hx, hb, hml, hown, hts⟩ (c_X1_liveOuts l K go ge gt k n gw al lw E T q hal (by omega) hk4) (cwV 1 hts gX6_measure_X1_liveOuts rfl rfl rfl (by decide +kernel) ⟨Nat.le_of_ble_eq_true rfl, Nat.le_of_ble_eq_true rfl⟩) (rr_preV hKK ((rr_ro (A := A) hG hGA hS)) (va_recv hKK.1 (rr_ro (A := A) hG hGA hS) (ci := 1) (q0 := 0) rfl rfl)) rfl rfl hl.1 rfl (lv_room (Nat.le_of_ble_eq_true rfl)) dX6_measure_66 ⟨Nat.le_refl _, Nat.le_refl _⟩) ?_
                refine nv_ior (a := ((mI (lO k al E) d (bfS (lO k al E) n mb st d).2.2 q (bfS (lO k al E) n mb st d).1).2)) (b := (lO k al E q)) hx hb (pc := 69) dX6_measure_69 ?_
                refine lv_istore (lv' := [(7, .int (nI (((mI (lO k al E) d (bfS (lO k al E) n mb st d).2.2 q (bfS (lO k al E) n mb st d).1).2) ||| (lO k al E q)))), (0, .ref xo), (1, .ref go), (2, .int (nI st)), (3, .int (nI mb)), (4, .int (nI ((bfS (lO k al E) n mb st d).2.1))), (5, .int (nI ((bfS (lO k al E) n mb st d).2.2))), (6, .int (nI d)), (8, .int (nI q))]) hx hb (pc := 70) dX6_measure_70 hl (by decide) rfl (fun ls hl => ?_)
                refine lv_iinc (v := nI (q + 1)) (lv' := [(8, .int (nI (q + 1))), (7, .int (nI (((mI (lO k al E) d (bfS (lO k al E) n mb st d).2.2 q (bfS (lO k al E) n mb st d).1).2) ||| (lO k al E q)))), (0, .ref xo), (1, .ref go), (2, .int (nI st)), (3, .int (nI mb)), (4, .int (nI ((bfS (lO k al E) n mb st d).2.1))), (5, .int (nI ((bfS (lO k al E) n mb st d).2.2))), (6, .int (nI d))]) hx hb (pc := 72) dX6_measure_72 hl (k := 8) rfl (rr_inc _) (by decide) rfl (fun ls hl => ?_)
                refine lv_goto (tgt := 33) hx hb (pc := 75) dX6_measure_75 (by decide) ?_
                have hl : lv_has ls 9 [(8, .int (nI (q + 1))), (7, .int (nI ((mI (lO k al E) d (bfS (lO k al E) n mb st d).2.2 (q + 1) (bfS (lO k al E) n mb st d).1).2))), (0, .ref xo), (1, .ref go), (2, .int (nI st)), (3, .int (nI mb)), (4, .int (nI ((bfS (lO k al E) n mb st d).2.1))), (5, .int (nI ((bfS (lO k al E) n mb st d).2.2))), (6, .int (nI d))] := by rw [show (mI (lO k al E) d (bfS (lO k al E) n mb st d).2.2 (q + 1) (bfS (lO k al E) n mb st d).1).2 = ((mI (lO k al E) d (bfS (lO k al E) n mb st d).2.2 q (bfS (lO k al E) n mb st d).1).2) ||| (lO k al E q) from by first | (rw [mI_yes c49]; done) | (rw [mI_no c49]; done)]; exact hl
                exact ih33 (q + 1) (va_up fF2 q (nI d)) _ _ hP hD hS (by omega) (by omega) (by first | exact hf3 | (rw [mI_no c49]; exact hf2)) ls (lv_sub hl [2, 3, 4, 5, 6, 7, 8, 1, 0] rfl)
        have hl : lv_has ls 9 [(8, .int (nI 0)), (7, .int (nI ((mI (lO k al E) d (bfS (lO k al E) n mb st d).2.2 0 (bfS (lO k al E) n mb st d).1).2))), (0, .ref xo), (1, .ref go), (2, .int (nI st)), (3, .int (nI mb)), (4, .int (nI ((bfS (lO k al E) n mb st d).2.1))), (5, .int (nI ((bfS (lO k al E) n mb st d).2.2))), (6, .int (nI d))] := by rw [show (mI (lO k al E) d (bfS (lO k al E) n mb st d).2.2 0 (bfS (lO k al E) n mb st d).1).2 = 0 from rfl]; exact hl
        exact L33 (17) 0 fF1 _ _ hP hD hS (by omega) (Nat.zero_le _) (hf1) ls (lv_sub hl [2, 3, 4, 5, 6, 7, 8, 1, 0] rfl)
  have hf0 : ∀ j, j < 16 → (fun j => nI ((putZ (fun j => (fF j).toUInt32.toNat) (fun _ => 4294967295) 16) j)) j = nI ((bfS (lO k al E) n mb st 0).1 j) - 1 := fun j hj => by
    show nI (putZ _ _ 16 j) = _
    rw [putZ_in hj]
    exact nI_m1
  have hl : lv_has ls 9 [(6, .int (nI 0)), (5, .int (nI (1 <<< st))), (4, .int (nI ((bfS (lO k al E) n mb st 0).2.1))), (0, .ref xo), (1, .ref go), (2, .int (nI st)), (3, .int (nI mb))] := by rw [show (bfS (lO k al E) n mb st 0).2.1 = 1 <<< st from rfl]; exact hl
  have hl : lv_has ls 9 [(6, .int (nI 0)), (5, .int (nI ((bfS (lO k al E) n mb st 0).2.2))), (4, .int (nI ((bfS (lO k al E) n mb st 0).2.1))), (0, .ref xo), (1, .ref go), (2, .int (nI st)), (3, .int (nI mb))] := by rw [show (bfS (lO k al E) n mb st 0).2.2 = 1 <<< st from rfl]; exact hl
  exact L20 (17) 0 (fun j => nI ((putZ (fun j => (fF j).toUInt32.toNat) (fun _ => 4294967295) 16) j)) _ _ hP hD hS (by omega) (Nat.zero_le _) (hf0) ls (lv_sub hl [3, 4, 5, 6, 2, 1, 0] rfl)

abbrev rmX6_paceWith : Room := { frames := 1, cells := 0, slots := 0, locals := 30 }
theorem inX6_paceWith_6 : ∀ w ∈ wsX60, w ∈ wsX6_paceWith := fun _ h => List.mem_cons_of_mem _ (List.mem_append_right _ h)
set_option maxHeartbeats 4000000 in
set_option maxRecDepth 100000 in
theorem c_X6_paceWith (l : Launch) (K : rr_K) (xo xr xf : Nat) (rF : Nat → Nat) (fF : Nat → Int32) (gF : Nat → Nat) (x0 frm ed : Nat) (hfr : frm < 16) (hed : ed < 65536) (hx0 : x0 ≤ 100) (hgF : ∀ j, gF j ≤ 16) (hfF : ∀ j, j < 16 → fF j = nI (gF j) - 1) : MetP l K yX6_paceWith wsX6_paceWith rmX6_paceWith [.ref xo, .long (lN (x0)), .int (nI frm), .int (nI ed)] (fun H => va_P K.1 vwCl (XW6 K xo xr xf rF fF) H) (.long (lN (pcF gF frm ed 16 x0))) := by
  refine metP_of (cc := cX6_paceWith) (maxL := 8) (ret := (some .long)) (rt := .long) (by decide) rfl rfl (Nat.le_of_ble_eq_true rfl) ?_
  intro p e s m args below meth c Q ls hEnt hKK hX hret hl
  obtain ⟨hx, hb, hml, hown, hts⟩ := hEnt
  have hP : va_P K.1 vwCl (XW6 K xo xr xf rF fF) s.heap := hX
  have hl : lv_has ls 8 [(0, .ref xo), (1, .long (lN (x0))), (3, .int (nI frm)), (4, .int (nI ed))] := hl
  have hgf := hgF frm
  refine lv_lload_n hx hb (pc := 0) dX6_paceWith_0 rfl (lv_at hl 1 rfl) ?_
  refine lv_lstore (lv' := [(5, .long (lN (x0))), (0, .ref xo), (1, .long (lN (x0))), (3, .int (nI frm)), (4, .int (nI ed))]) hx hb (pc := 1) dX6_paceWith_1 hl (by decide) rfl (fun ls hl => ?_)
  refine lv_iconst (v := nI 0) hx hb (pc := 3) dX6_paceWith_3 (by decide) ?_
  refine lv_istore (lv' := [(7, .int (nI 0)), (5, .long (lN (x0))), (0, .ref xo), (1, .long (lN (x0))), (3, .int (nI frm)), (4, .int (nI ed))]) hx hb (pc := 4) dX6_paceWith_4 hl (by decide) rfl (fun ls hl => ?_)
  have L6 : ∀ (fz : Nat) (j : Nat) (hfz : 16 - j < fz) (hj : j ≤ 16) (ls : Array Slot) (hl : lv_has ls 8 [(0, .ref xo), (3, .int (nI frm)), (4, .int (nI ed)), (5, .long (lN (pcF gF frm ed j x0))), (7, .int (nI j))]), W p l e rmX6_paceWith s m args below meth c s.heap [] 0 0 Q (F0 m 6 ls []) := by
    intro fz; induction fz with
    | zero => intro j hfz hj ls hl; exact absurd hfz (Nat.not_lt_zero _)
    | succ fz ih6 =>
      intro j hfz hj ls hl
      have hpc := pcF_le (frm := frm) (ends := ed) hgF hx0 (by decide) j
      have hgj := hgF j
      have hab := absd_le (a := gF frm + 1) (b := gF j) (by omega) (by omega)
      refine lv_iload hx hb (pc := 6) dX6_paceWith_6 (lv_at hl 4 rfl) ?_
      refine lv_bipush (v := nI 16) hx hb (pc := 8) dX6_paceWith_8 (by decide) ?_
      refine nv_icmp_ge (a := j) (b := 16) (tgt := 56) hx hb (pc := 10) dX6_paceWith_10 (by decide) (by omega) (by omega) (fun c10 => ?_) (fun c10 => ?_)
      · refine lv_lload hx hb (pc := 56) dX6_paceWith_56 (lv_at hl 3 rfl) ?_
        have e9 : j = 16 := by omega
        exact hret.2.1 58 _ (lN (pcF gF frm ed j x0)) dX6_paceWith_58 (by rw [e9]) rfl
      · refine lv_iload hx hb (pc := 13) dX6_paceWith_13 (lv_at hl 2 rfl) ?_
        refine lv_iload hx hb (pc := 15) dX6_paceWith_15 (lv_at hl 4 rfl) ?_
        refine nv_ishr (a := ed) (b := j) hx hb (pc := 17) dX6_paceWith_17 (by omega) (by omega) ?_
        refine lv_iconst (v := nI 1) hx hb (pc := 18) dX6_paceWith_18 (by decide) ?_
        refine nv_bit (a := ed) (q := j) hx hb (pc := 19) dX6_paceWith_19 ?_
        refine nv_if_eq_b (a := (ed.testBit j)) (tgt := 50) hx hb (pc := 20) dX6_paceWith_20 (by decide) (fun c20 => ?_) (fun c20 => ?_)
        · refine lv_iinc (v := nI (j + 1)) (lv' := [(7, .int (nI (j + 1))), (0, .ref xo), (3, .int (nI frm)), (4, .int (nI ed)), (5, .long (lN (pcF gF frm ed j x0)))]) hx hb (pc := 50) dX6_paceWith_50 hl (k := 4) rfl (rr_inc _) (by decide) rfl (fun ls hl => ?_)
          refine lv_goto (tgt := 6) hx hb (pc := 53) dX6_paceWith_53 (by decide) ?_
          have hl : lv_has ls 8 [(7, .int (nI (j + 1))), (0, .ref xo), (3, .int (nI frm)), (4, .int (nI ed)), (5, .long (lN (pcF gF frm ed (j + 1) x0)))] := by rw [show pcF gF frm ed (j + 1) x0 = pcF gF frm ed j x0 from by first | exact pcF_yes c20 | exact pcF_no c20]; exact hl
          exact ih6 (j + 1) (by omega) (by omega) ls (lv_sub hl [1, 2, 3, 4, 0] rfl)
        · refine lv_lload hx hb (pc := 23) dX6_paceWith_23 (lv_at hl 3 rfl) ?_
          refine lv_aload_n hx hb (pc := 25) dX6_paceWith_25 rfl (lv_at hl 0 rfl) ?_
          refine va_get (v := .ref xf) hx hb hts (inX6_paceWith_6) hown hKK.1 hP 0 rfl rfl 1 (by decide) (hts _ (List.mem_of_getElem? (i := 1) (by decide +kernel))) (fun _ h9 => h9) rfl (pc := 26) dX6_paceWith_26 ?_
          refine lv_iload_n hx hb (pc := 29) dX6_paceWith_29 rfl (lv_at hl 1 rfl) ?_
          refine nv_iald (v := nI (gF frm) - 1) (i := frm) hx hb hKK hP 2 rfl (by omega) (by decide) (hfF frm hfr) (pc := 30) dX6_paceWith_30 ?_
          refine lv_iconst (v := nI 1) hx hb (pc := 31) dX6_paceWith_31 (by decide) ?_
          refine lv_iadd hx hb (pc := 32) dX6_paceWith_32 ?_
          refine lv_aload_n hx hb (pc := 33) dX6_paceWith_33 rfl (lv_at hl 0 rfl) ?_
          refine va_get (v := .ref xf) hx hb hts (inX6_paceWith_6) hown hKK.1 hP 0 rfl rfl 1 (by decide) (hts _ (List.mem_of_getElem? (i := 1) (by decide +kernel))) (fun _ h9 => h9) rfl (pc := 34) dX6_paceWith_34 ?_
          refine lv_iload hx hb (pc := 37) dX6_paceWith_37 (lv_at hl 4 rfl) ?_
          refine nv_iald (v := nI (gF j) - 1) (i := j) hx hb hKK hP 2 rfl (by omega) (by decide) (hfF j (by omega)) (pc := 39) dX6_paceWith_39 ?_
          refine lv_isub hx hb (pc := 40) dX6_paceWith_40 ?_
          refine va_mabs hx hb (hml.trans hl.1.symm) hown (hts _ (List.mem_of_getElem? (i := 2) (by decide +kernel))) (hts _ (List.mem_of_getElem? (i := 3) (by decide +kernel))) (hts _ (List.mem_of_getElem? (i := 4) (by decide +kernel))) (hts _ (List.mem_of_getElem? (i := 5) (by decide +kernel))) (Nat.le_of_ble_eq_true rfl) (Nat.le_of_ble_eq_true rfl) (by omega) (by omega) (pc := 41) dX6_paceWith_41 ?_
          refine rr_top (v := .int (nI (absd (gF frm + 1) (gF j)))) (congrArg Value.int (absd_eq (by omega) (by omega))) ?_
          refine lv_i2l (v := lN (absd (gF frm + 1) (gF j))) hx hb (pc := 44) dX6_paceWith_44 (nI_l (by omega)) ?_
          refine rr_callP (rv := .long (lN (Nat.gcd (pcF gF frm ed j x0) (absd (gF frm + 1) (gF j))))) (pc := 45) (va_runSN (As := [.long (lN (pcF gF frm ed j x0)), .long (lN (absd (gF frm + 1) (gF j)))]) (rest := []) ⟨hx, hb, hml, hown, hts⟩ (c_X9_commonDivisor l K (pcF gF frm ed j x0) (absd (gF frm + 1) (gF j)) (by omega) (by omega)) ⟨va_cnB 2 hts gX6_paceWith_X9_commonDivisor_n55 rfl rfl rfl (hKK.2 _ (List.mem_of_getElem? (i := 2) rfl)) (hts _ (List.mem_of_getElem? (i := 7) (by decide +kernel))) (by decide +kernel) ⟨Nat.le_of_ble_eq_true rfl, Nat.le_of_ble_eq_true rfl⟩, hts _ (List.mem_of_getElem? (i := 6) (by decide +kernel)), trivial⟩ (rr_preS hKK (trivial)) rfl rfl hl.1 rfl (lv_room (Nat.le_of_ble_eq_true rfl)) dX6_paceWith_45 ⟨Nat.le_refl _, Nat.le_refl _⟩) ?_
          refine lv_lstore (lv' := [(5, .long (lN (Nat.gcd (pcF gF frm ed j x0) (absd (gF frm + 1) (gF j))))), (0, .ref xo), (3, .int (nI frm)), (4, .int (nI ed)), (7, .int (nI j))]) hx hb (pc := 48) dX6_paceWith_48 hl (by decide) rfl (fun ls hl => ?_)
          refine lv_iinc (v := nI (j + 1)) (lv' := [(7, .int (nI (j + 1))), (5, .long (lN (Nat.gcd (pcF gF frm ed j x0) (absd (gF frm + 1) (gF j))))), (0, .ref xo), (3, .int (nI frm)), (4, .int (nI ed))]) hx hb (pc := 50) dX6_paceWith_50 hl (k := 4) rfl (rr_inc _) (by decide) rfl (fun ls hl => ?_)
          refine lv_goto (tgt := 6) hx hb (pc := 53) dX6_paceWith_53 (by decide) ?_
          have hl : lv_has ls 8 [(7, .int (nI (j + 1))), (5, .long (lN (pcF gF frm ed (j + 1) x0))), (0, .ref xo), (3, .int (nI frm)), (4, .int (nI ed))] := by rw [show pcF gF frm ed (j + 1) x0 = Nat.gcd (pcF gF frm ed j x0) (absd (gF frm + 1) (gF j)) from by first | exact pcF_yes c20 | exact pcF_no c20]; exact hl
          exact ih6 (j + 1) (by omega) (by omega) ls (lv_sub hl [2, 3, 4, 1, 0] rfl)
  have hl : lv_has ls 8 [(7, .int (nI 0)), (5, .long (lN (pcF gF frm ed 0 x0))), (0, .ref xo), (1, .long (lN (x0))), (3, .int (nI frm)), (4, .int (nI ed))] := by rw [show pcF gF frm ed 0 x0 = x0 from rfl]; exact hl
  exact L6 (17) 0 (by omega) (Nat.zero_le _) ls (lv_sub hl [2, 4, 5, 1, 0] rfl)

abbrev rmX6_paceOf : Room := { frames := 4, cells := 0, slots := 0, locals := 94 }
theorem inX6_paceOf_1 : ∀ w ∈ wsX10, w ∈ wsX6_paceOf := fun _ h => List.mem_cons_of_mem _ (List.mem_append_left _ (List.mem_append_right _ h))
set_option maxHeartbeats 4000000 in
set_option maxRecDepth 100000 in
theorem c_X6_paceOf (l : Launch) (K : rr_K) (A : Nat → Prop) (xo xr xf : Nat) (rF : Nat → Nat) (fF : Nat → Int32) (go ge gt k n gw al lw : Nat) (E T : Nat → Nat) (st : Nat) (hk4 : k ≤ 4) (hn : n ≤ 16) (hal : al < 65536) (hst : st < 16) (hD : va_D A (XW6 K xo xr xf rF fF)) (hGA : ∀ (k_ : Nat) (q_ : Nat × va_E), (GW K go ge gt k n gw al lw E T)[k_]? = some q_ → ¬ A q_.1) : MetR l K yX6_paceOf wsX6_paceOf rmX6_paceOf [.ref xo, .ref go, .int (nI st)] (fun H => va_P K.1 vwCl (XW6 K xo xr xf rF fF) H ∧ va_P K.1 vwCl (GW K go ge gt k n gw al lw E T) H) A (fun v H => v = .int (nI (pcO (bfS (lO k al E) n (prM n k al E st) st 16).1 (lO k al E) (prM n k al E st) n)) ∧ ∃ rF' fF', va_P K.1 vwCl (XW6 K xo xr xf rF' fF') H) 0 0 := by
  refine metR_of (cc := cX6_paceOf) (maxL := 7) (ret := (some .int)) (rt := .int) (by decide) rfl rfl rfl rfl (Nat.le_of_ble_eq_true rfl) ?_
  intro p e s m args below meth c Q ls hEnt hKK hX hret hl
  obtain ⟨hx, hb, hml, hown, hts⟩ := hEnt
  obtain ⟨hP, hG⟩ := hX
  have hP : va_P K.1 vwCl (XW6 K xo xr xf rF fF) s.heap := hP
  have hG : va_P K.1 vwCl (GW K go ge gt k n gw al lw E T) s.heap := hG
  have hl : lv_has ls 7 [(0, .ref xo), (1, .ref go), (2, .int (nI st))] := hl
  have hS : va_S A s.heap s.heap [] := va_S.rf
  refine lv_aload_n hx hb (pc := 0) dX6_paceOf_0 rfl (lv_at hl 0 rfl) ?_
  refine lv_aload_n hx hb (pc := 1) dX6_paceOf_1 rfl (lv_at hl 1 rfl) ?_
  refine rr_callV (pc := 2) (va_runV (As := [.ref go]) (rest := []) ⟨hx, hb, hml, hown, hts⟩ (c_X6_findReached l K A xo xr xf rF fF go ge gt k n gw al lw E T hk4 hn hal hD hGA) (cwV 1 hts gX6_paceOf_X6_findReached rfl rfl rfl (by decide +kernel) ⟨Nat.le_of_ble_eq_true rfl, Nat.le_of_ble_eq_true rfl⟩) (rr_preV hKK (⟨hP, (rr_ro (A := A) hG hGA hS)⟩) (va_recv hKK.1 hP (ci := 6) (q0 := 0) rfl rfl)) rfl rfl hl.1 rfl (lv_room (Nat.le_of_ble_eq_true rfl)) dX6_paceOf_2 ⟨by omega, by omega⟩) hS (fun _ h => h) (fun H locs hY hsz hfr hS => ?_)
  obtain ⟨rF', hrE, hrB, hP⟩ := hY
  have hD : va_D A (XW6 K xo xr xf rF' fF) := rr_D hD rfl
  have hP : va_P K.1 vwCl (XW6 K xo xr xf rF' fF) H := hP
  refine lv_aload_n hx hb (pc := 5) dX6_paceOf_5 rfl (lv_at hl 0 rfl) ?_
  refine lv_iload_n hx hb (pc := 6) dX6_paceOf_6 rfl (lv_at hl 2 rfl) ?_
  refine rr_callP (rv := .int (nI (mbF rF' st 16))) (pc := 7) (va_runV (As := [.int (nI st)]) (rest := []) ⟨hx, hb, hml, hown, hts⟩ (c_X6_members l K xo xr xf rF' fF st (by omega) hrB) (cwV 1 hts gX6_paceOf_X6_members rfl rfl rfl (by decide +kernel) ⟨Nat.le_of_ble_eq_true rfl, Nat.le_of_ble_eq_true rfl⟩) (rr_preV hKK (hP) (va_recv hKK.1 hP (ci := 6) (q0 := 0) rfl rfl)) rfl rfl hl.1 rfl (lv_room (Nat.le_of_ble_eq_true rfl)) dX6_paceOf_7 ⟨Nat.le_refl _, Nat.le_refl _⟩) ?_
  refine rr_top (v := .int (nI (prM n k al E st))) (by rw [prM, mbF_congr (by omega) hrE 16 (Nat.le_refl _)]) ?_
  have hm16 : prM n k al E st < 65536 := by
    rw [prM, ← mbF_congr (by omega) hrE 16 (Nat.le_refl _)]
    exact mbF_lt (by omega) (Nat.le_refl _)
  refine lv_istore_n (lv' := [(3, .int (nI (prM n k al E st))), (0, .ref xo), (1, .ref go), (2, .int (nI st))]) hx hb (pc := 10) dX6_paceOf_10 rfl hl (by decide) rfl (fun ls hl => ?_)
  refine lv_aload_n hx hb (pc := 11) dX6_paceOf_11 rfl (lv_at hl 1 rfl) ?_
  refine lv_aload_n hx hb (pc := 12) dX6_paceOf_12 rfl (lv_at hl 2 rfl) ?_
  refine lv_iload_n hx hb (pc := 13) dX6_paceOf_13 rfl (lv_at hl 3 rfl) ?_
  refine lv_iload_n hx hb (pc := 14) dX6_paceOf_14 rfl (lv_at hl 0 rfl) ?_
  refine rr_callV (pc := 15) (va_runV (As := [.ref go, .int (nI st), .int (nI (prM n k al E st))]) (rest := []) ⟨hx, hb, hml, hown, hts⟩ (c_X6_measure l K A xo xr xf rF' fF go ge gt k n gw al lw E T st (prM n k al E st) hk4 hn hal hst hm16 hD hGA) (cwV 3 hts gX6_paceOf_X6_measure rfl rfl rfl (by decide +kernel) ⟨Nat.le_of_ble_eq_true rfl, Nat.le_of_ble_eq_true rfl⟩) (rr_preV hKK (⟨hP, (rr_ro (A := A) hG hGA hS)⟩) (va_recv hKK.1 hP (ci := 6) (q0 := 0) rfl rfl)) rfl rfl hl.1 rfl (lv_room (Nat.le_of_ble_eq_true rfl)) dX6_paceOf_15 ⟨by omega, by omega⟩) hS (fun _ h => h) (fun H locs hY hsz hfr hS => ?_)
  obtain ⟨fF', hfF, hP⟩ := hY
  have hD : va_D A (XW6 K xo xr xf rF' fF') := rr_D hD rfl
  have hP : va_P K.1 vwCl (XW6 K xo xr xf rF' fF') H := hP
  refine lv_lconst (v := lN 0) hx hb (pc := 18) dX6_paceOf_18 (by decide) ?_
  refine lv_lstore (lv' := [(4, .long (lN (0))), (3, .int (nI (prM n k al E st))), (0, .ref xo), (1, .ref go), (2, .int (nI st))]) hx hb (pc := 19) dX6_paceOf_19 hl (by decide) rfl (fun ls hl => ?_)
  refine lv_iconst (v := nI 0) hx hb (pc := 21) dX6_paceOf_21 (by decide) ?_
  refine lv_istore (lv' := [(6, .int (nI 0)), (4, .long (lN (0))), (3, .int (nI (prM n k al E st))), (0, .ref xo), (1, .ref go), (2, .int (nI st))]) hx hb (pc := 22) dX6_paceOf_22 hl (by decide) rfl (fun ls hl => ?_)
  have L24 : ∀ (fz : Nat) (q : Nat) (H : Heap) (locs : List Loc) (hP : va_P K.1 vwCl (XW6 K xo xr xf rF' fF') H) (hD : va_D A (XW6 K xo xr xf rF' fF')) (hS : va_S A s.heap H locs) (hfz : n - q < fz) (hq : q ≤ n) (ls : Array Slot) (hl : lv_has ls 7 [(0, .ref xo), (1, .ref go), (2, .int (nI st)), (3, .int (nI (prM n k al E st))), (4, .long (lN (pcO (bfS (lO k al E) n (prM n k al E st) st 16).1 (lO k al E) (prM n k al E st) q))), (6, .int (nI q))]), W p l e rmX6_paceOf s m args below meth c H locs 0 0 Q (F0 m 24 ls []) := by
    intro fz; induction fz with
    | zero => intro q H locs hP hD hS hfz hq ls hl; exact absurd hfz (Nat.not_lt_zero _)
    | succ fz ih24 =>
      intro q H locs hP hD hS hfz hq ls hl
      have hgl : ∀ j, (bfS (lO k al E) n (prM n k al E st) st 16).1 j ≤ 16 := bfS_le 16
      have hpo := pcO_le (lo := lO k al E) (mb := prM n k al E st) hgl q
      refine lv_iload hx hb (pc := 24) dX6_paceOf_24 (lv_at hl 5 rfl) ?_
      refine lv_aload_n hx hb (pc := 26) dX6_paceOf_26 rfl (lv_at hl 1 rfl) ?_
      refine va_get (v := .int (nI n)) hx hb hts (inX6_paceOf_1) hown hKK.1 (rr_ro (A := A) hG hGA hS) 0 rfl rfl 1 (by decide) (hts _ (List.mem_of_getElem? (i := 1) (by decide +kernel))) (fun _ h9 => h9) rfl (pc := 27) dX6_paceOf_27 ?_
      refine nv_icmp_ge (a := q) (b := n) (tgt := 66) hx hb (pc := 30) dX6_paceOf_30 (by decide) (by omega) (by omega) (fun c30 => ?_) (fun c30 => ?_)
      · refine lv_lload hx hb (pc := 66) dX6_paceOf_66 (lv_at hl 4 rfl) ?_
        refine lv_l2i (v := nI (pcO (bfS (lO k al E) n (prM n k al E st) st 16).1 (lO k al E) (prM n k al E st) q)) hx hb (pc := 68) dX6_paceOf_68 (lN_i _) ?_
        have e9 : q = n := by omega
        exact hret.1 _ _ 0 0 69 _ (nI (pcO (bfS (lO k al E) n (prM n k al E st) st 16).1 (lO k al E) (prM n k al E st) q)) dX6_paceOf_69 (by omega) (by omega) hS (⟨by rw [e9], _, _, hP⟩) (rfl)
      · refine lv_iload_n hx hb (pc := 33) dX6_paceOf_33 rfl (lv_at hl 3 rfl) ?_
        refine lv_iload hx hb (pc := 34) dX6_paceOf_34 (lv_at hl 5 rfl) ?_
        refine nv_ishr (a := (prM n k al E st)) (b := q) hx hb (pc := 36) dX6_paceOf_36 (by omega) (by omega) ?_
        refine lv_iconst (v := nI 1) hx hb (pc := 37) dX6_paceOf_37 (by decide) ?_
        refine nv_bit (a := (prM n k al E st)) (q := q) hx hb (pc := 38) dX6_paceOf_38 ?_
        refine nv_if_eq_b (a := ((prM n k al E st).testBit q)) (tgt := 60) hx hb (pc := 39) dX6_paceOf_39 (by decide) (fun c39 => ?_) (fun c39 => ?_)
        · refine lv_iinc (v := nI (q + 1)) (lv' := [(6, .int (nI (q + 1))), (0, .ref xo), (1, .ref go), (2, .int (nI st)), (3, .int (nI (prM n k al E st))), (4, .long (lN (pcO (bfS (lO k al E) n (prM n k al E st) st 16).1 (lO k al E) (prM n k al E st) q)))]) hx hb (pc := 60) dX6_paceOf_60 hl (k := 5) rfl (rr_inc _) (by decide) rfl (fun ls hl => ?_)
          refine lv_goto (tgt := 24) hx hb (pc := 63) dX6_paceOf_63 (by decide) ?_
          have hl : lv_has ls 7 [(6, .int (nI (q + 1))), (0, .ref xo), (1, .ref go), (2, .int (nI st)), (3, .int (nI (prM n k al E st))), (4, .long (lN (pcO (bfS (lO k al E) n (prM n k al E st) st 16).1 (lO k al E) (prM n k al E st) (q + 1))))] := by rw [show pcO (bfS (lO k al E) n (prM n k al E st) st 16).1 (lO k al E) (prM n k al E st) (q + 1) = pcO (bfS (lO k al E) n (prM n k al E st) st 16).1 (lO k al E) (prM n k al E st) q from by first | exact pcO_yes c39 | exact pcO_no c39]; exact hl
          exact ih24 (q + 1) _ _ hP hD hS (by omega) (by omega) ls (lv_sub hl [1, 2, 3, 4, 5, 0] rfl)
        · refine lv_aload_n hx hb (pc := 42) dX6_paceOf_42 rfl (lv_at hl 0 rfl) ?_
          refine lv_lload hx hb (pc := 43) dX6_paceOf_43 (lv_at hl 4 rfl) ?_
          refine lv_iload hx hb (pc := 45) dX6_paceOf_45 (lv_at hl 5 rfl) ?_
          refine lv_aload_n hx hb (pc := 47) dX6_paceOf_47 rfl (lv_at hl 1 rfl) ?_
          refine lv_iload hx hb (pc := 48) dX6_paceOf_48 (lv_at hl 5 rfl) ?_
          refine rr_callP (rv := .int (nI (lO k al E q))) (pc := 50) (va_runV (As := [.int (nI q)]) (rest := [.int (nI q), .long (lN (pcO (bfS (lO k al E) n (prM n k al E st) st 16).1 (lO k al E) (prM n k al E st) q)), .ref xo]) ⟨hx, hb, hml, hown, hts⟩ (c_X1_liveOuts l K go ge gt k n gw al lw E T q hal (by omega) hk4) (cwV 1 hts gX6_paceOf_X1_liveOuts rfl rfl rfl (by decide +kernel) ⟨Nat.le_of_ble_eq_true rfl, Nat.le_of_ble_eq_true rfl⟩) (rr_preV hKK ((rr_ro (A := A) hG hGA hS)) (va_recv hKK.1 (rr_ro (A := A) hG hGA hS) (ci := 1) (q0 := 0) rfl rfl)) rfl rfl hl.1 rfl (lv_room (Nat.le_of_ble_eq_true rfl)) dX6_paceOf_50 ⟨Nat.le_refl _, Nat.le_refl _⟩) ?_
          refine lv_iload_n hx hb (pc := 53) dX6_paceOf_53 rfl (lv_at hl 3 rfl) ?_
          have hla : lO k al E q &&& prM n k al E st < 65536 := Nat.lt_of_le_of_lt Nat.and_le_right hm16
          refine nv_iand (a := (lO k al E q)) (b := (prM n k al E st)) hx hb (pc := 54) dX6_paceOf_54 ?_
          refine rr_callP (rv := .long (lN (pcF (bfS (lO k al E) n (prM n k al E st) st 16).1 q (lO k al E q &&& prM n k al E st) 16 (pcO (bfS (lO k al E) n (prM n k al E st) st 16).1 (lO k al E) (prM n k al E st) q)))) (pc := 55) (va_runV (As := [.long (lN (pcO (bfS (lO k al E) n (prM n k al E st) st 16).1 (lO k al E) (prM n k al E st) q)), .int (nI q), .int (nI ((lO k al E q) &&& (prM n k al E st)))]) (rest := []) ⟨hx, hb, hml, hown, hts⟩ (c_X6_paceWith l K xo xr xf rF' fF' (bfS (lO k al E) n (prM n k al E st) st 16).1 (pcO (bfS (lO k al E) n (prM n k al E st) st 16).1 (lO k al E) (prM n k al E st) q) q (lO k al E q &&& prM n k al E st) (by omega) hla (by omega) hgl hfF) (cwV 3 hts gX6_paceOf_X6_paceWith rfl rfl rfl (by decide +kernel) ⟨Nat.le_of_ble_eq_true rfl, Nat.le_of_ble_eq_true rfl⟩) (rr_preV hKK (hP) (va_recv hKK.1 hP (ci := 6) (q0 := 0) rfl rfl)) rfl rfl hl.1 rfl (lv_room (Nat.le_of_ble_eq_true rfl)) dX6_paceOf_55 ⟨Nat.le_refl _, Nat.le_refl _⟩) ?_
          refine lv_lstore (lv' := [(4, .long (lN (pcF (bfS (lO k al E) n (prM n k al E st) st 16).1 q (lO k al E q &&& prM n k al E st) 16 (pcO (bfS (lO k al E) n (prM n k al E st) st 16).1 (lO k al E) (prM n k al E st) q)))), (0, .ref xo), (1, .ref go), (2, .int (nI st)), (3, .int (nI (prM n k al E st))), (6, .int (nI q))]) hx hb (pc := 58) dX6_paceOf_58 hl (by decide) rfl (fun ls hl => ?_)
          refine lv_iinc (v := nI (q + 1)) (lv' := [(6, .int (nI (q + 1))), (4, .long (lN (pcF (bfS (lO k al E) n (prM n k al E st) st 16).1 q (lO k al E q &&& prM n k al E st) 16 (pcO (bfS (lO k al E) n (prM n k al E st) st 16).1 (lO k al E) (prM n k al E st) q)))), (0, .ref xo), (1, .ref go), (2, .int (nI st)), (3, .int (nI (prM n k al E st)))]) hx hb (pc := 60) dX6_paceOf_60 hl (k := 5) rfl (rr_inc _) (by decide) rfl (fun ls hl => ?_)
          refine lv_goto (tgt := 24) hx hb (pc := 63) dX6_paceOf_63 (by decide) ?_
          have hl : lv_has ls 7 [(6, .int (nI (q + 1))), (4, .long (lN (pcO (bfS (lO k al E) n (prM n k al E st) st 16).1 (lO k al E) (prM n k al E st) (q + 1)))), (0, .ref xo), (1, .ref go), (2, .int (nI st)), (3, .int (nI (prM n k al E st)))] := by rw [show pcO (bfS (lO k al E) n (prM n k al E st) st 16).1 (lO k al E) (prM n k al E st) (q + 1) = pcF (bfS (lO k al E) n (prM n k al E st) st 16).1 q (lO k al E q &&& prM n k al E st) 16 (pcO (bfS (lO k al E) n (prM n k al E st) st 16).1 (lO k al E) (prM n k al E st) q) from by first | exact pcO_yes c39 | exact pcO_no c39]; exact hl
          exact ih24 (q + 1) _ _ hP hD hS (by omega) (by omega) ls (lv_sub hl [2, 3, 4, 5, 1, 0] rfl)
  have hl : lv_has ls 7 [(6, .int (nI 0)), (4, .long (lN (pcO (bfS (lO k al E) n (prM n k al E st) st 16).1 (lO k al E) (prM n k al E st) 0))), (3, .int (nI (prM n k al E st))), (0, .ref xo), (1, .ref go), (2, .int (nI st))] := by rw [show pcO (bfS (lO k al E) n (prM n k al E st) st 16).1 (lO k al E) (prM n k al E st) 0 = 0 from rfl]; exact hl
  exact L24 (17) 0 _ _ hP hD hS (by omega) (Nat.zero_le _) ls (lv_sub hl [3, 4, 5, 2, 1, 0] rfl)

