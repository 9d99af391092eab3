abbrev rmX6_leastIn : Room := { frames := 0, cells := 0, slots := 0, locals := 0 }
set_option maxHeartbeats 4000000 in
set_option maxRecDepth 100000 in
theorem c_X6_leastIn (l : Launch) (K : rr_K) (x : Nat) (hx16 : x < 65536) : MetP l K yX6_leastIn wsX6_leastIn rmX6_leastIn [.int (nI x)] (fun H => True) (.int (nI (lst16 x))) := by
  refine metP_of (cc := cX6_leastIn) (maxL := 2) (ret := (some .int)) (rt := .int) (by decide) rfl rfl (Nat.le_of_ble_eq_true rfl) ?_
  intro p e s m args below meth c Q ls hEnt hKK hX hret hl
  obtain ⟨hx, hb, hml, hown, hts⟩ := hEnt
  have hl : lv_has ls 2 [(0, .int (nI x))] := hl
  refine lv_iconst (v := nI 0) hx hb (pc := 0) dX6_leastIn_0 (by decide) ?_
  refine lv_istore_n (lv' := [(1, .int (nI 0)), (0, .int (nI x))]) hx hb (pc := 1) dX6_leastIn_1 rfl hl (by decide) rfl (fun ls hl => ?_)
  have L2 : ∀ (fz : Nat) (i : Nat) (hfz : 16 - i < fz) (hi : i ≤ 16) (hg : lst16 x = lstI x (16 - i) i) (ls : Array Slot) (hl : lv_has ls 2 [(0, .int (nI x)), (1, .int (nI i))]), W p l e rmX6_leastIn s m args below meth c s.heap [] 0 0 Q (F0 m 2 ls []) := by
    intro fz; induction fz with
    | zero => intro i hfz hi hg ls hl; exact absurd hfz (Nat.not_lt_zero _)
    | succ fz ih2 =>
      intro i hfz hi hg ls hl
      refine lv_iload_n hx hb (pc := 2) dX6_leastIn_2 rfl (lv_at hl 1 rfl) ?_
      refine lv_bipush (v := nI 16) hx hb (pc := 3) dX6_leastIn_3 (by decide) ?_
      refine nv_icmp_ge (a := i) (b := 16) (tgt := 22) hx hb (pc := 5) dX6_leastIn_5 (by decide) (by omega) (by omega) (fun c5 => ?_) (fun c5 => ?_)
      · refine lv_iload_n hx hb (pc := 22) dX6_leastIn_22 rfl (lv_at hl 1 rfl) ?_
        exact hret.1 23 _ (nI i) dX6_leastIn_23 (by first | (rw [hg, lstI_hit (by omega) c13]; done) | (rw [hg, show 16 - i = 0 by omega]; rfl)) (rfl)
      · refine lv_iload_n hx hb (pc := 8) dX6_leastIn_8 rfl (lv_at hl 0 rfl) ?_
        refine lv_iload_n hx hb (pc := 9) dX6_leastIn_9 rfl (lv_at hl 1 rfl) ?_
        refine nv_ishr (a := x) (b := i) hx hb (pc := 10) dX6_leastIn_10 (by omega) (by omega) ?_
        refine lv_iconst (v := nI 1) hx hb (pc := 11) dX6_leastIn_11 (by decide) ?_
        refine nv_bit (a := x) (q := i) hx hb (pc := 12) dX6_leastIn_12 ?_
        refine nv_if_ne_b (a := (x.testBit i)) (tgt := 22) hx hb (pc := 13) dX6_leastIn_13 (by decide) (fun c13 => ?_) (fun c13 => ?_)
        · refine lv_iload_n hx hb (pc := 22) dX6_leastIn_22 rfl (lv_at hl 1 rfl) ?_
          exact hret.1 23 _ (nI i) dX6_leastIn_23 (by first | (rw [hg, lstI_hit (by omega) c13]; done) | (rw [hg, show 16 - i = 0 by omega]; rfl)) (rfl)
        · refine lv_iinc (v := nI (i + 1)) (lv' := [(1, .int (nI (i + 1))), (0, .int (nI x))]) hx hb (pc := 16) dX6_leastIn_16 hl (k := 1) rfl (rr_inc _) (by decide) rfl (fun ls hl => ?_)
          refine lv_goto (tgt := 2) hx hb (pc := 19) dX6_leastIn_19 (by decide) ?_
          exact ih2 (i + 1) (by omega) (by omega) (by rw [hg]; exact lstI_step (by omega) (by rw [c13]; decide)) ls (lv_sub hl [1, 0] rfl)
  exact L2 (17) 0 (by omega) (Nat.zero_le _) (rfl) ls (lv_sub hl [1, 0] rfl)

abbrev rmX6_members : Room := { frames := 0, cells := 0, slots := 0, locals := 0 }
theorem inX6_members_6 : ∀ w ∈ wsX60, w ∈ wsX6_members := fun _ h => List.mem_cons_of_mem _ (List.mem_append_right _ h)
set_option maxHeartbeats 4000000 in
set_option maxRecDepth 100000 in
theorem c_X6_members (l : Launch) (K : rr_K) (xo xr xf : Nat) (rF : Nat → Nat) (fF : Nat → Int32) (st : Nat) (hst : st < 16) (hrF : ∀ j, j < 16 → rF j < 65536) : MetP l K yX6_members wsX6_members rmX6_members [.ref xo, .int (nI st)] (fun H => va_P K.1 vwCl (XW6 K xo xr xf rF fF) H) (.int (nI (mbF rF st 16))) := by
  refine metP_of (cc := cX6_members) (maxL := 4) (ret := (some .int)) (rt := .int) (by decide) rfl rfl (Nat.le_of_ble_eq_true rfl) ?_
  intro p e s m args below meth c Q ls hEnt hKK hX hret hl
  obtain ⟨hx, hb, hml, hown, hts⟩ := hEnt
  have hP : va_P K.1 vwCl (XW6 K xo xr xf rF fF) s.heap := hX
  have hl : lv_has ls 4 [(0, .ref xo), (1, .int (nI st))] := hl
  have hrs := hrF st hst
  refine lv_iconst (v := nI 1) hx hb (pc := 0) dX6_members_0 (by decide) ?_
  refine lv_iload_n hx hb (pc := 1) dX6_members_1 rfl (lv_at hl 1 rfl) ?_
  refine nv_ishl (a := 1) (b := st) hx hb (pc := 2) dX6_members_2 (by omega) ?_
  refine lv_istore_n (lv' := [(2, .int (nI (1 <<< st))), (0, .ref xo), (1, .int (nI st))]) hx hb (pc := 3) dX6_members_3 rfl hl (by decide) rfl (fun ls hl => ?_)
  refine lv_iconst (v := nI 0) hx hb (pc := 4) dX6_members_4 (by decide) ?_
  refine lv_istore_n (lv' := [(3, .int (nI 0)), (2, .int (nI (1 <<< st))), (0, .ref xo), (1, .int (nI st))]) hx hb (pc := 5) dX6_members_5 rfl hl (by decide) rfl (fun ls hl => ?_)
  have L6 : ∀ (fz : Nat) (j : Nat) (hfz : 16 - j < fz) (hj : j ≤ 16) (ls : Array Slot) (hl : lv_has ls 4 [(0, .ref xo), (1, .int (nI st)), (2, .int (nI (mbF rF st j))), (3, .int (nI j))]), W p l e rmX6_members s m args below meth c s.heap [] 0 0 Q (F0 m 6 ls []) := by
    intro fz; induction fz with
    | zero => intro j hfz hj ls hl; exact absurd hfz (Nat.not_lt_zero _)
    | succ fz ih6 =>
      intro j hfz hj ls hl
      refine lv_iload_n hx hb (pc := 6) dX6_members_6 rfl (lv_at hl 3 rfl) ?_
      refine lv_bipush (v := nI 16) hx hb (pc := 7) dX6_members_7 (by decide) ?_
      refine nv_icmp_ge (a := j) (b := 16) (tgt := 50) hx hb (pc := 9) dX6_members_9 (by decide) (by omega) (by omega) (fun c9 => ?_) (fun c9 => ?_)
      · refine lv_iload_n hx hb (pc := 50) dX6_members_50 rfl (lv_at hl 2 rfl) ?_
        have e9 : j = 16 := by omega
        exact hret.1 51 _ (nI (mbF rF st j)) dX6_members_51 (by rw [e9]) (rfl)
      · have hrj := hrF j (by omega)
        have hml := mbF_lt (rF := rF) hst (m := j) (by omega)
        refine lv_aload_n hx hb (pc := 12) dX6_members_12 rfl (lv_at hl 0 rfl) ?_
        refine va_get (v := .ref xr) hx hb hts (inX6_members_6) hown hKK.1 hP 0 rfl rfl 0 (by decide) (hts _ (List.mem_of_getElem? (i := 1) (by decide +kernel))) (fun _ h9 => h9) rfl (pc := 13) dX6_members_13 ?_
        refine lv_iload_n hx hb (pc := 16) dX6_members_16 rfl (lv_at hl 1 rfl) ?_
        refine nv_iald (v := nI (rF st)) (i := st) hx hb hKK hP 1 rfl (by omega) (by decide) (rfl) (pc := 17) dX6_members_17 ?_
        refine lv_iload_n hx hb (pc := 18) dX6_members_18 rfl (lv_at hl 3 rfl) ?_
        refine nv_ishr (a := (rF st)) (b := j) hx hb (pc := 19) dX6_members_19 (by omega) (by omega) ?_
        refine lv_iconst (v := nI 1) hx hb (pc := 20) dX6_members_20 (by decide) ?_
        refine nv_bit (a := (rF st)) (q := j) hx hb (pc := 21) dX6_members_21 ?_
        refine nv_if_eq_b (a := ((rF st).testBit j)) (tgt := 44) hx hb (pc := 22) dX6_members_22 (by decide) (fun c22 => ?_) (fun c22 => ?_)
        · refine lv_iinc (v := nI (j + 1)) (lv' := [(3, .int (nI (j + 1))), (0, .ref xo), (1, .int (nI st)), (2, .int (nI (mbF rF st j)))]) hx hb (pc := 44) dX6_members_44 hl (k := 3) rfl (rr_inc _) (by decide) rfl (fun ls hl => ?_)
          refine lv_goto (tgt := 6) hx hb (pc := 47) dX6_members_47 (by decide) ?_
          have hl : lv_has ls 4 [(3, .int (nI (j + 1))), (0, .ref xo), (1, .int (nI st)), (2, .int (nI (mbF rF st (j + 1))))] := by rw [show mbF rF st (j + 1) = mbF rF st j from by first | exact mbF_yes c22 c35 | exact mbF_no1 c22 | exact mbF_no2 c35]; exact hl
          exact ih6 (j + 1) (by omega) (by omega) ls (lv_sub hl [1, 2, 3, 0] rfl)
        · refine lv_aload_n hx hb (pc := 25) dX6_members_25 rfl (lv_at hl 0 rfl) ?_
          refine va_get (v := .ref xr) hx hb hts (inX6_members_6) hown hKK.1 hP 0 rfl rfl 0 (by decide) (hts _ (List.mem_of_getElem? (i := 1) (by decide +kernel))) (fun _ h9 => h9) rfl (pc := 26) dX6_members_26 ?_
          refine lv_iload_n hx hb (pc := 29) dX6_members_29 rfl (lv_at hl 3 rfl) ?_
          refine nv_iald (v := nI (rF j)) (i := j) hx hb hKK hP 1 rfl (by omega) (by decide) (rfl) (pc := 30) dX6_members_30 ?_
          refine lv_iload_n hx hb (pc := 31) dX6_members_31 rfl (lv_at hl 1 rfl) ?_
          refine nv_ishr (a := (rF j)) (b := st) hx hb (pc := 32) dX6_members_32 (by omega) (by omega) ?_
          refine lv_iconst (v := nI 1) hx hb (pc := 33) dX6_members_33 (by decide) ?_
          refine nv_bit (a := (rF j)) (q := st) hx hb (pc := 34) dX6_members_34 ?_
          refine nv_if_eq_b (a := ((rF j).testBit st)) (tgt := 44) hx hb (pc := 35) dX6_members_35 (by decide) (fun c35 => ?_) (fun c35 => ?_)
          · refine lv_iinc (v := nI (j + 1)) (lv' := [(3, .int (nI (j + 1))), (0, .ref xo), (1, .int (nI st)), (2, .int (nI (mbF rF st j)))]) hx hb (pc := 44) dX6_members_44 hl (k := 3) rfl (rr_inc _) (by decide) rfl (fun ls hl => ?_)
            refine lv_goto (tgt := 6) hx hb (pc := 47) dX6_members_47 (by decide) ?_
            have hl : lv_has ls 4 [(3, .int (nI (j + 1))), (0, .ref xo), (1, .int (nI st)), (2, .int (nI (mbF rF st (j + 1))))] := by rw [show mbF rF st (j + 1) = mbF rF st j from by first | exact mbF_yes c22 c35 | exact mbF_no1 c22 | exact mbF_no2 c35]; exact hl
            exact ih6 (j + 1) (by omega) (by omega) ls (lv_sub hl [1, 2, 3, 0] rfl)
          · refine lv_iload_n hx hb (pc := 38) dX6_members_38 rfl (lv_at hl 2 rfl) ?_
            refine lv_iconst (v := nI 1) hx hb (pc := 39) dX6_members_39 (by decide) ?_
            refine lv_iload_n hx hb (pc := 40) dX6_members_40 rfl (lv_at hl 3 rfl) ?_
            refine nv_ishl (a := 1) (b := j) hx hb (pc := 41) dX6_members_41 (by omega) ?_
            refine nv_ior (a := (mbF rF st j)) (b := (1 <<< j)) hx hb (pc := 42) dX6_members_42 ?_
            refine lv_istore_n (lv' := [(2, .int (nI ((mbF rF st j) ||| (1 <<< j)))), (0, .ref xo), (1, .int (nI st)), (3, .int (nI j))]) hx hb (pc := 43) dX6_members_43 rfl hl (by decide) rfl (fun ls hl => ?_)
            refine lv_iinc (v := nI (j + 1)) (lv' := [(3, .int (nI (j + 1))), (2, .int (nI ((mbF rF st j) ||| (1 <<< j)))), (0, .ref xo), (1, .int (nI st))]) hx hb (pc := 44) dX6_members_44 hl (k := 3) rfl (rr_inc _) (by decide) rfl (fun ls hl => ?_)
            refine lv_goto (tgt := 6) hx hb (pc := 47) dX6_members_47 (by decide) ?_
            have hl : lv_has ls 4 [(3, .int (nI (j + 1))), (2, .int (nI (mbF rF st (j + 1)))), (0, .ref xo), (1, .int (nI st))] := by rw [show mbF rF st (j + 1) = (mbF rF st j) ||| (1 <<< j) from by first | exact mbF_yes c22 c35 | exact mbF_no1 c22 | exact mbF_no2 c35]; exact hl
            exact ih6 (j + 1) (by omega) (by omega) ls (lv_sub hl [2, 3, 1, 0] rfl)
  have hl : lv_has ls 4 [(3, .int (nI 0)), (2, .int (nI (mbF rF st 0))), (0, .ref xo), (1, .int (nI st))] := by rw [show mbF rF st 0 = 1 <<< st from rfl]; exact hl
  exact L6 (17) 0 (by omega) (Nat.zero_le _) ls (lv_sub hl [2, 3, 1, 0] rfl)

abbrev rmX6_findReached : Room := { frames := 3, cells := 0, slots := 0, locals := 66 }
theorem inX6_findReached_1 : ∀ w ∈ wsX10, w ∈ wsX6_findReached := fun _ h => List.mem_cons_of_mem _ (List.mem_append_right _ h)
theorem inX6_findReached_6 : ∀ w ∈ wsX60, w ∈ wsX6_findReached := fun _ h => List.mem_cons_of_mem _ (List.mem_append_left _ (List.mem_append_right _ h))
set_option maxHeartbeats 4000000 in
set_option maxRecDepth 100000 in
theorem c_X6_findReached (l : Launch) (K : rr_K) (A : Nat → Prop) (xo xr xf : Nat) (rF : Nat → Nat) (fF : Nat → Int32) (go ge gt k n gw al lw : Nat) (E T : Nat → Nat) (hk4 : k ≤ 4) (hn : n ≤ 16) (hal : al < 65536) (hD : va_D A (XW6 K xo xr xf rF fF)) (hGA : ∀ (k_ : Nat) (q_ : Nat × va_E), (GW K go ge gt k n gw al lw E T)[k_]? = some q_ → ¬ A q_.1) : MetV l K yX6_findReached wsX6_findReached rmX6_findReached [.ref xo, .ref go] (fun H => va_P K.1 vwCl (XW6 K xo xr xf rF fF) H ∧ va_P K.1 vwCl (GW K go ge gt k n gw al lw E T) H) A (fun H => ∃ rF', (∀ j, j < 16 → rF' j = frO n n (fr0 n k al E) j) ∧ (∀ j, j < 16 → rF' j < 65536) ∧ va_P K.1 vwCl (XW6 K xo xr xf rF' fF) H) 0 0 := by
  refine metV_of (cc := cX6_findReached) (maxL := 4) (by decide) rfl rfl rfl (Nat.le_of_ble_eq_true rfl) ?_
  intro p e s m args below meth c Q ls hEnt hin hKK hX hret hl
  obtain ⟨hx, hb, hml, hown, hts⟩ := hEnt
  obtain ⟨hP, hG⟩ := hX
  have hP : va_P K.1 vwCl (XW6 K xo xr xf rF fF) s.heap := hP
  have hG : va_P K.1 vwCl (GW K go ge gt k n gw al lw E T) s.heap := hG
  have hl : lv_has ls 4 [(0, .ref xo), (1, .ref go)] := hl
  have hS : va_S A s.heap s.heap [] := va_S.rf
  have h00 : ∀ j, (fr0 n k al E) j < 65536 := fr0_lt (orE_lt hal)
  have hz0 : ∀ j, j < 16 → (putZ rF (fr0 n k al E) 16) j = (fr0 n k al E) j := fun j hj => putZ_in hj
  have hz1 : ∀ j, j < 16 → (putZ rF (fr0 n k al E) 16) j < 65536 := fun j hj => by rw [hz0 j hj]; exact h00 j
  refine lv_iconst (v := nI 0) hx hb (pc := 0) dX6_findReached_0 (by decide) ?_
  refine lv_istore_n (lv' := [(2, .int (nI 0)), (0, .ref xo), (1, .ref go)]) hx hb (pc := 1) dX6_findReached_1 rfl hl (by decide) rfl (fun ls hl => ?_)
  have L2 : ∀ (fz : Nat) (q : Nat) (H : Heap) (locs : List Loc) (hP : va_P K.1 vwCl (XW6 K xo xr xf (putZ rF (fr0 n k al E) q) fF) H) (hD : va_D A (XW6 K xo xr xf (putZ rF (fr0 n k al E) q) fF)) (hS : va_S A s.heap H locs) (hfz : 16 - q < fz) (hq : q ≤ 16) (ls : Array Slot) (hl : lv_has ls 4 [(0, .ref xo), (1, .ref go), (2, .int (nI q))]), W p l e rmX6_findReached s m args below meth c H locs 0 0 Q (F0 m 2 ls []) := by
    intro fz; induction fz with
    | zero => intro q H locs hP hD hS hfz hq ls hl; exact absurd hfz (Nat.not_lt_zero _)
    | succ fz ih2 =>
      intro q H locs hP hD hS hfz hq ls hl
      refine lv_iload_n hx hb (pc := 2) dX6_findReached_2 rfl (lv_at hl 2 rfl) ?_
      refine lv_bipush (v := nI 16) hx hb (pc := 3) dX6_findReached_3 (by decide) ?_
      refine nv_icmp_ge (a := q) (b := 16) (tgt := 37) hx hb (pc := 5) dX6_findReached_5 (by decide) (by omega) (by omega) (fun c5 => ?_) (fun c5 => ?_)
      · obtain rfl : q = 16 := by omega
        refine lv_iconst (v := nI 0) hx hb (pc := 37) dX6_findReached_37 (by decide) ?_
        refine lv_istore_n (lv' := [(2, .int (nI 0)), (0, .ref xo), (1, .ref go)]) hx hb (pc := 38) dX6_findReached_38 rfl hl (by decide) rfl (fun ls hl => ?_)
        have L39 : ∀ (fz : Nat) (o : Nat) (H : Heap) (locs : List Loc) (hP : va_P K.1 vwCl (XW6 K xo xr xf (frO n o (putZ rF (fr0 n k al E) 16)) fF) H) (hD : va_D A (XW6 K xo xr xf (frO n o (putZ rF (fr0 n k al E) 16)) fF)) (hS : va_S A s.heap H locs) (hfz : n - o < fz) (ho : o ≤ n) (ls : Array Slot) (hl : lv_has ls 4 [(0, .ref xo), (1, .ref go), (2, .int (nI o))]), W p l e rmX6_findReached s m args below meth c H locs 0 0 Q (F0 m 39 ls []) := by
          intro fz; induction fz with
          | zero => intro o H locs hP hD hS hfz ho ls hl; exact absurd hfz (Nat.not_lt_zero _)
          | succ fz ih39 =>
            intro o H locs hP hD hS hfz ho ls hl
            refine lv_iload_n hx hb (pc := 39) dX6_findReached_39 rfl (lv_at hl 2 rfl) ?_
            refine lv_aload_n hx hb (pc := 40) dX6_findReached_40 rfl (lv_at hl 1 rfl) ?_
            refine va_get (v := .int (nI n)) hx hb hts (inX6_findReached_1) hown hKK.1 (rr_ro (A := A) hG hGA hS) 0 rfl rfl 1 (by decide) (hts _ (List.mem_of_getElem? (i := 2) (by decide +kernel))) (fun _ h9 => h9) rfl (pc := 41) dX6_findReached_41 ?_
            refine nv_icmp_ge (a := o) (b := n) (tgt := 97) hx hb (pc := 44) dX6_findReached_44 (by decide) (by omega) (by omega) (fun c44 => ?_) (fun c44 => ?_)
            · have e9 : o = n := by omega
              exact hret _ _ 0 0 97 _ dX6_findReached_97 (by omega) (by omega) hS (⟨_, fun j hj => by rw [e9]; exact frO_congr hn hz0 n hn j hj, frO_lt hz1 o (by omega), hP⟩)
            · refine lv_iconst (v := nI 0) hx hb (pc := 47) dX6_findReached_47 (by decide) ?_
              refine lv_istore_n (lv' := [(3, .int (nI 0)), (0, .ref xo), (1, .ref go), (2, .int (nI o))]) hx hb (pc := 48) dX6_findReached_48 rfl hl (by decide) rfl (fun ls hl => ?_)
              have L49 : ∀ (fz : Nat) (q : Nat) (H : Heap) (locs : List Loc) (hP : va_P K.1 vwCl (XW6 K xo xr xf (frI o q (frO n o (putZ rF (fr0 n k al E) 16))) fF) H) (hD : va_D A (XW6 K xo xr xf (frI o q (frO n o (putZ rF (fr0 n k al E) 16))) fF)) (hS : va_S A s.heap H locs) (hfz : n - q < fz) (hq : q ≤ n) (ls : Array Slot) (hl : lv_has ls 4 [(0, .ref xo), (1, .ref go), (2, .int (nI o)), (3, .int (nI q))]), W p l e rmX6_findReached s m args below meth c H locs 0 0 Q (F0 m 49 ls []) := by
                intro fz; induction fz with
                | zero => intro q H locs hP hD hS hfz hq ls hl; exact absurd hfz (Nat.not_lt_zero _)
                | succ fz ih49 =>
                  intro q H locs hP hD hS hfz hq ls hl
                  refine lv_iload_n hx hb (pc := 49) dX6_findReached_49 rfl (lv_at hl 3 rfl) ?_
                  refine lv_aload_n hx hb (pc := 50) dX6_findReached_50 rfl (lv_at hl 1 rfl) ?_
                  refine va_get (v := .int (nI n)) hx hb hts (inX6_findReached_1) hown hKK.1 (rr_ro (A := A) hG hGA hS) 0 rfl rfl 1 (by decide) (hts _ (List.mem_of_getElem? (i := 2) (by decide +kernel))) (fun _ h9 => h9) rfl (pc := 51) dX6_findReached_51 ?_
                  refine nv_icmp_ge (a := q) (b := n) (tgt := 91) hx hb (pc := 54) dX6_findReached_54 (by decide) (by omega) (by omega) (fun c54 => ?_) (fun c54 => ?_)
                  · refine lv_iinc (v := nI (o + 1)) (lv' := [(2, .int (nI (o + 1))), (0, .ref xo), (1, .ref go), (3, .int (nI q))]) hx hb (pc := 91) dX6_findReached_91 hl (k := 2) rfl (rr_inc _) (by decide) rfl (fun ls hl => ?_)
                    refine lv_goto (tgt := 39) hx hb (pc := 94) dX6_findReached_94 (by decide) ?_
                    obtain rfl : q = n := by omega
                    exact ih39 (o + 1) _ _ hP hD hS (by omega) (by omega) ls (lv_sub hl [1, 2, 0] rfl)
                  · have hfb : ∀ j, j < 16 → frI o q (frO n o (putZ rF (fr0 n k al E) 16)) j < 65536 := frI_lt (by omega) (frO_lt hz1 o (by omega)) q
                    have hfq := hfb q (by omega)
                    have hfo := hfb o (by omega)
                    refine lv_aload_n hx hb (pc := 57) dX6_findReached_57 rfl (lv_at hl 0 rfl) ?_
                    refine va_get (v := .ref xr) hx hb hts (inX6_findReached_6) hown hKK.1 hP 0 rfl rfl 0 (by decide) (hts _ (List.mem_of_getElem? (i := 1) (by decide +kernel))) (fun _ h9 => h9) rfl (pc := 58) dX6_findReached_58 ?_
                    refine lv_iload_n hx hb (pc := 61) dX6_findReached_61 rfl (lv_at hl 3 rfl) ?_
                    refine nv_iald (v := nI (((frI o q (frO n o (putZ rF (fr0 n k al E) 16)))) q)) (i := q) hx hb hKK hP 1 rfl (by omega) (by decide) (rfl) (pc := 62) dX6_findReached_62 ?_
                    refine lv_iload_n hx hb (pc := 63) dX6_findReached_63 rfl (lv_at hl 2 rfl) ?_
                    refine nv_ishr (a := (((frI o q (frO n o (putZ rF (fr0 n k al E) 16)))) q)) (b := o) hx hb (pc := 64) dX6_findReached_64 (by omega) (by omega) ?_
                    refine lv_iconst (v := nI 1) hx hb (pc := 65) dX6_findReached_65 (by decide) ?_
                    refine nv_bit (a := (((frI o q (frO n o (putZ rF (fr0 n k al E) 16)))) q)) (q := o) hx hb (pc := 66) dX6_findReached_66 ?_
                    refine nv_if_eq_b (a := ((((frI o q (frO n o (putZ rF (fr0 n k al E) 16)))) q).testBit o)) (tgt := 85) hx hb (pc := 67) dX6_findReached_67 (by decide) (fun c67 => ?_) (fun c67 => ?_)
                    · have hfs : frI o q (frO n o (putZ rF (fr0 n k al E) 16)) = frI o (q + 1) (frO n o (putZ rF (fr0 n k al E) 16)) := by rw [frI_succ, fr1, if_neg (by rw [c67]; decide)]
                      refine lv_iinc (v := nI (q + 1)) (lv' := [(3, .int (nI (q + 1))), (0, .ref xo), (1, .ref go), (2, .int (nI o))]) hx hb (pc := 85) dX6_findReached_85 hl (k := 3) rfl (rr_inc _) (by decide) rfl (fun ls hl => ?_)
                      refine lv_goto (tgt := 49) hx hb (pc := 88) dX6_findReached_88 (by decide) ?_
                      rw [hfs] at hP hD
                      exact ih49 (q + 1) _ _ hP hD hS (by omega) (by omega) ls (lv_sub hl [1, 2, 3, 0] rfl)
                    · refine lv_aload_n hx hb (pc := 70) dX6_findReached_70 rfl (lv_at hl 0 rfl) ?_
                      refine va_get (v := .ref xr) hx hb hts (inX6_findReached_6) hown hKK.1 hP 0 rfl rfl 0 (by decide) (hts _ (List.mem_of_getElem? (i := 1) (by decide +kernel))) (fun _ h9 => h9) rfl (pc := 71) dX6_findReached_71 ?_
                      refine lv_iload_n hx hb (pc := 74) dX6_findReached_74 rfl (lv_at hl 3 rfl) ?_
                      refine lv_dup2_11 hx hb (pc := 75) dX6_findReached_75 rfl rfl ?_
                      refine nv_iald (v := nI (((frI o q (frO n o (putZ rF (fr0 n k al E) 16)))) q)) (i := q) hx hb hKK hP 1 rfl (by omega) (by decide) (rfl) (pc := 76) dX6_findReached_76 ?_
                      refine lv_aload_n hx hb (pc := 77) dX6_findReached_77 rfl (lv_at hl 0 rfl) ?_
                      refine va_get (v := .ref xr) hx hb hts (inX6_findReached_6) hown hKK.1 hP 0 rfl rfl 0 (by decide) (hts _ (List.mem_of_getElem? (i := 1) (by decide +kernel))) (fun _ h9 => h9) rfl (pc := 78) dX6_findReached_78 ?_
                      refine lv_iload_n hx hb (pc := 81) dX6_findReached_81 rfl (lv_at hl 2 rfl) ?_
                      refine nv_iald (v := nI (((frI o q (frO n o (putZ rF (fr0 n k al E) 16)))) o)) (i := o) hx hb hKK hP 1 rfl (by omega) (by decide) (rfl) (pc := 82) dX6_findReached_82 ?_
                      refine nv_ior (a := (((frI o q (frO n o (putZ rF (fr0 n k al E) 16)))) q)) (b := (((frI o q (frO n o (putZ rF (fr0 n k al E) 16)))) o)) hx hb (pc := 83) dX6_findReached_83 ?_
                      refine nv_iast (f := (frI o q (frO n o (putZ rF (fr0 n k al E) 16)))) (x := ((((frI o q (frO n o (putZ rF (fr0 n k al E) 16)))) q) ||| (((frI o q (frO n o (putZ rF (fr0 n k al E) 16)))) o))) (ws' := XW6 K xo xr xf (va_up (frI o q (frO n o (putZ rF (fr0 n k al E) 16))) q ((((frI o q (frO n o (putZ rF (fr0 n k al E) 16)))) q) ||| (((frI o q (frO n o (putZ rF (fr0 n k al E) 16)))) o))) fF) (i := q) hx hb hKK hP hD hS 1 rfl (by omega) (by decide) (rfl) (pc := 84) dX6_findReached_84 (fun H locs hP hD hS => ?_)
                      have hfs : va_up (frI o q (frO n o (putZ rF (fr0 n k al E) 16))) q (frI o q (frO n o (putZ rF (fr0 n k al E) 16)) q ||| frI o q (frO n o (putZ rF (fr0 n k al E) 16)) o) = frI o (q + 1) (frO n o (putZ rF (fr0 n k al E) 16)) := by rw [frI_succ, fr1, if_pos c67]
                      refine lv_iinc (v := nI (q + 1)) (lv' := [(3, .int (nI (q + 1))), (0, .ref xo), (1, .ref go), (2, .int (nI o))]) hx hb (pc := 85) dX6_findReached_85 hl (k := 3) rfl (rr_inc _) (by decide) rfl (fun ls hl => ?_)
                      refine lv_goto (tgt := 49) hx hb (pc := 88) dX6_findReached_88 (by decide) ?_
                      rw [hfs] at hP hD
                      exact ih49 (q + 1) _ _ hP hD hS (by omega) (by omega) ls (lv_sub hl [1, 2, 3, 0] rfl)
              exact L49 (17) 0 _ _ hP hD hS (by omega) (Nat.zero_le _) ls (lv_sub hl [1, 2, 3, 0] rfl)
        exact L39 (17) 0 _ _ hP hD hS (by omega) (Nat.zero_le _) ls (lv_sub hl [1, 2, 0] rfl)
      · refine lv_aload_n hx hb (pc := 8) dX6_findReached_8 rfl (lv_at hl 0 rfl) ?_
        refine va_get (v := .ref xr) hx hb hts (inX6_findReached_6) hown hKK.1 hP 0 rfl rfl 0 (by decide) (hts _ (List.mem_of_getElem? (i := 1) (by decide +kernel))) (fun _ h9 => h9) rfl (pc := 9) dX6_findReached_9 ?_
        refine lv_iload_n hx hb (pc := 12) dX6_findReached_12 rfl (lv_at hl 2 rfl) ?_
        refine lv_iload_n hx hb (pc := 13) dX6_findReached_13 rfl (lv_at hl 2 rfl) ?_
        refine lv_aload_n hx hb (pc := 14) dX6_findReached_14 rfl (lv_at hl 1 rfl) ?_
        refine va_get (v := .int (nI n)) hx hb hts (inX6_findReached_1) hown hKK.1 (rr_ro (A := A) hG hGA hS) 0 rfl rfl 1 (by decide) (hts _ (List.mem_of_getElem? (i := 2) (by decide +kernel))) (fun _ h9 => h9) rfl (pc := 15) dX6_findReached_15 ?_
        refine nv_icmp_ge (a := q) (b := n) (tgt := 29) hx hb (pc := 18) dX6_findReached_18 (by decide) (by omega) (by omega) (fun c18 => ?_) (fun c18 => ?_)
        · refine lv_iconst (v := nI 0) hx hb (pc := 29) dX6_findReached_29 (by decide) ?_
          refine rr_top (v := .int (nI ((fr0 n k al E) q))) (by unfold fr0; first | (rw [if_pos (by omega)]; done) | (rw [if_neg (by omega)]; done)) ?_
          refine nv_iast (f := (putZ rF (fr0 n k al E) q)) (x := ((fr0 n k al E) q)) (ws' := XW6 K xo xr xf (va_up (putZ rF (fr0 n k al E) q) q ((fr0 n k al E) q)) fF) (i := q) hx hb hKK hP hD hS 1 rfl (by omega) (by decide) (rfl) (pc := 30) dX6_findReached_30 (fun H locs hP hD hS => ?_)
          rw [putZ_step rF (fr0 n k al E) q] at hP hD
          refine lv_iinc (v := nI (q + 1)) (lv' := [(2, .int (nI (q + 1))), (0, .ref xo), (1, .ref go)]) hx hb (pc := 31) dX6_findReached_31 hl (k := 2) rfl (rr_inc _) (by decide) rfl (fun ls hl => ?_)
          refine lv_goto (tgt := 2) hx hb (pc := 34) dX6_findReached_34 (by decide) ?_
          exact ih2 (q + 1) _ _ hP hD hS (by omega) (by omega) ls (lv_sub hl [1, 2, 0] rfl)
        · refine lv_aload_n hx hb (pc := 21) dX6_findReached_21 rfl (lv_at hl 1 rfl) ?_
          refine lv_iload_n hx hb (pc := 22) dX6_findReached_22 rfl (lv_at hl 2 rfl) ?_
          refine rr_callP (rv := .int (nI (orN k (lvE al E q)))) (pc := 23) (va_runV (As := [.int (nI q)]) (rest := [.int (nI q), .ref xr]) ⟨hx, hb, hml, hown, hts⟩ (c_X1_liveOuts l K go ge gt k n gw al lw E T q hal (by omega) hk4) (cwV 1 hts gX6_findReached_X1_liveOuts rfl rfl rfl (by decide +kernel) ⟨Nat.le_of_ble_eq_true rfl, Nat.le_of_ble_eq_true rfl⟩) (rr_preV hKK ((rr_ro (A := A) hG hGA hS)) (va_recv hKK.1 (rr_ro (A := A) hG hGA hS) (ci := 1) (q0 := 0) rfl rfl)) rfl rfl hl.1 rfl (lv_room (Nat.le_of_ble_eq_true rfl)) dX6_findReached_23 ⟨Nat.le_refl _, Nat.le_refl _⟩) ?_
          refine lv_goto (tgt := 30) hx hb (pc := 26) dX6_findReached_26 (by decide) ?_
          refine rr_top (v := .int (nI ((fr0 n k al E) q))) (by unfold fr0; first | (rw [if_pos (by omega)]; done) | (rw [if_neg (by omega)]; done)) ?_
          refine nv_iast (f := (putZ rF (fr0 n k al E) q)) (x := ((fr0 n k al E) q)) (ws' := XW6 K xo xr xf (va_up (putZ rF (fr0 n k al E) q) q ((fr0 n k al E) q)) fF) (i := q) hx hb hKK hP hD hS 1 rfl (by omega) (by decide) (rfl) (pc := 30) dX6_findReached_30 (fun H locs hP hD hS => ?_)
          rw [putZ_step rF (fr0 n k al E) q] at hP hD
          refine lv_iinc (v := nI (q + 1)) (lv' := [(2, .int (nI (q + 1))), (0, .ref xo), (1, .ref go)]) hx hb (pc := 31) dX6_findReached_31 hl (k := 2) rfl (rr_inc _) (by decide) rfl (fun ls hl => ?_)
          refine lv_goto (tgt := 2) hx hb (pc := 34) dX6_findReached_34 (by decide) ?_
          exact ih2 (q + 1) _ _ hP hD hS (by omega) (by omega) ls (lv_sub hl [1, 2, 0] rfl)
  rw [← putZ_0 rF (fr0 n k al E)] at hP hD
  exact L2 (17) 0 _ _ hP hD hS (by omega) (Nat.zero_le _) ls (lv_sub hl [1, 2, 0] rfl)

abbrev rmX6_leastOf : Room := { frames := 4, cells := 0, slots := 0, locals := 89 }
set_option maxHeartbeats 4000000 in
set_option maxRecDepth 100000 in
theorem c_X6_leastOf (l : Launch) (K : rr_K) (A : Nat → Prop) (xo xr xf : Nat) (rF : Nat → Nat) (fF : Nat → Int32) (go ge gt k n gw al lw : Nat) (E T : Nat → Nat) (st : Nat) (hk4 : k ≤ 4) (hn : n ≤ 16) (hal : al < 65536) (hst : st < 16) (hD : va_D A (XW6 K xo xr xf rF fF)) (hGA : ∀ (k_ : Nat) (q_ : Nat × va_E), (GW K go ge gt k n gw al lw E T)[k_]? = some q_ → ¬ A q_.1) : MetR l K yX6_leastOf wsX6_leastOf rmX6_leastOf [.ref xo, .ref go, .int (nI st)] (fun H => va_P K.1 vwCl (XW6 K xo xr xf rF fF) H ∧ va_P K.1 vwCl (GW K go ge gt k n gw al lw E T) H) A (fun v H => v = .int (nI (lst16 (prM n k al E st))) ∧ ∃ rF', va_P K.1 vwCl (XW6 K xo xr xf rF' fF) H) 0 0 := by
  refine metR_of (cc := cX6_leastOf) (maxL := 3) (ret := (some .int)) (rt := .int) (by decide) rfl rfl rfl rfl (Nat.le_of_ble_eq_true rfl) ?_
  intro p e s m args below meth c Q ls hEnt hKK hX hret hl
  obtain ⟨hx, hb, hml, hown, hts⟩ := hEnt
  obtain ⟨hP, hG⟩ := hX
  have hP : va_P K.1 vwCl (XW6 K xo xr xf rF fF) s.heap := hP
  have hG : va_P K.1 vwCl (GW K go ge gt k n gw al lw E T) s.heap := hG
  have hl : lv_has ls 3 [(0, .ref xo), (1, .ref go), (2, .int (nI st))] := hl
  have hS : va_S A s.heap s.heap [] := va_S.rf
  refine lv_aload_n hx hb (pc := 0) dX6_leastOf_0 rfl (lv_at hl 0 rfl) ?_
  refine lv_aload_n hx hb (pc := 1) dX6_leastOf_1 rfl (lv_at hl 1 rfl) ?_
  refine rr_callV (pc := 2) (va_runV (As := [.ref go]) (rest := []) ⟨hx, hb, hml, hown, hts⟩ (c_X6_findReached l K A xo xr xf rF fF go ge gt k n gw al lw E T hk4 hn hal hD hGA) (cwV 1 hts gX6_leastOf_X6_findReached rfl rfl rfl (by decide +kernel) ⟨Nat.le_of_ble_eq_true rfl, Nat.le_of_ble_eq_true rfl⟩) (rr_preV hKK (⟨hP, (rr_ro (A := A) hG hGA hS)⟩) (va_recv hKK.1 hP (ci := 6) (q0 := 0) rfl rfl)) rfl rfl hl.1 rfl (lv_room (Nat.le_of_ble_eq_true rfl)) dX6_leastOf_2 ⟨by omega, by omega⟩) hS (fun _ h => h) (fun H locs hY hsz hfr hS => ?_)
  obtain ⟨rF', hrE, hrB, hP⟩ := hY
  have hD : va_D A (XW6 K xo xr xf rF' fF) := rr_D hD rfl
  have hP : va_P K.1 vwCl (XW6 K xo xr xf rF' fF) H := hP
  refine lv_aload_n hx hb (pc := 5) dX6_leastOf_5 rfl (lv_at hl 0 rfl) ?_
  refine lv_iload_n hx hb (pc := 6) dX6_leastOf_6 rfl (lv_at hl 2 rfl) ?_
  refine rr_callP (rv := .int (nI (mbF rF' st 16))) (pc := 7) (va_runV (As := [.int (nI st)]) (rest := []) ⟨hx, hb, hml, hown, hts⟩ (c_X6_members l K xo xr xf rF' fF st (by omega) hrB) (cwV 1 hts gX6_leastOf_X6_members rfl rfl rfl (by decide +kernel) ⟨Nat.le_of_ble_eq_true rfl, Nat.le_of_ble_eq_true rfl⟩) (rr_preV hKK (hP) (va_recv hKK.1 hP (ci := 6) (q0 := 0) rfl rfl)) rfl rfl hl.1 rfl (lv_room (Nat.le_of_ble_eq_true rfl)) dX6_leastOf_7 ⟨Nat.le_refl _, Nat.le_refl _⟩) ?_
  refine rr_top (v := .int (nI (prM n k al E st))) (by rw [prM, mbF_congr (by omega) hrE 16 (Nat.le_refl _)]) ?_
  have hm16 : prM n k al E st < 65536 := by
    rw [prM, ← mbF_congr (by omega) hrE 16 (Nat.le_refl _)]
    exact mbF_lt (by omega) (Nat.le_refl _)
  refine rr_callP (rv := .int (nI (lst16 (prM n k al E st)))) (pc := 10) (va_runS (As := [.int (nI (prM n k al E st))]) (rest := []) ⟨hx, hb, hml, hown, hts⟩ (c_X6_leastIn l K (prM n k al E st) hm16) (cwS 1 hts gX6_leastOf_X6_leastIn rfl rfl rfl (by decide +kernel) ⟨Nat.le_of_ble_eq_true rfl, Nat.le_of_ble_eq_true rfl⟩) (rr_preS hKK (trivial)) rfl rfl hl.1 rfl (lv_room (Nat.le_of_ble_eq_true rfl)) dX6_leastOf_10 ⟨Nat.le_refl _, Nat.le_refl _⟩) ?_
  exact hret.1 _ _ 0 0 13 _ (nI (lst16 (prM n k al E st))) dX6_leastOf_13 (by omega) (by omega) hS (⟨rfl, _, hP⟩) (rfl)

abbrev rmX6_howManyParts : Room := { frames := 4, cells := 0, slots := 0, locals := 89 }
theorem inX6_howManyParts_1 : ∀ w ∈ wsX10, w ∈ wsX6_howManyParts := fun _ h => List.mem_cons_of_mem _ (List.mem_append_left _ (List.mem_append_right _ h))
set_option maxHeartbeats 4000000 in
set_option maxRecDepth 100000 in
theorem c_X6_howManyParts (l : Launch) (K : rr_K) (A : Nat → Prop) (xo xr xf : Nat) (rF : Nat → Nat) (fF : Nat → Int32) (go ge gt k n gw al lw : Nat) (E T : Nat → Nat) (hk4 : k ≤ 4) (hn : n ≤ 16) (hal : al < 65536) (hD : va_D A (XW6 K xo xr xf rF fF)) (hGA : ∀ (k_ : Nat) (q_ : Nat × va_E), (GW K go ge gt k n gw al lw E T)[k_]? = some q_ → ¬ A q_.1) : MetR l K yX6_howManyParts wsX6_howManyParts rmX6_howManyParts [.ref xo, .ref go] (fun H => va_P K.1 vwCl (XW6 K xo xr xf rF fF) H ∧ va_P K.1 vwCl (GW K go ge gt k n gw al lw E T) H) A (fun v H => v = .int (nI (hmP n k al E n)) ∧ ∃ rF', va_P K.1 vwCl (XW6 K xo xr xf rF' fF) H) 0 0 := by
  refine metR_of (cc := cX6_howManyParts) (maxL := 4) (ret := (some .int)) (rt := .int) (by decide) rfl rfl rfl rfl (Nat.le_of_ble_eq_true rfl) ?_
  intro p e s m args below meth c Q ls hEnt hKK hX hret hl
  obtain ⟨hx, hb, hml, hown, hts⟩ := hEnt
  obtain ⟨hP, hG⟩ := hX
  have hP : va_P K.1 vwCl (XW6 K xo xr xf rF fF) s.heap := hP
  have hG : va_P K.1 vwCl (GW K go ge gt k n gw al lw E T) s.heap := hG
  have hl : lv_has ls 4 [(0, .ref xo), (1, .ref go)] := hl
  have hS : va_S A s.heap s.heap [] := va_S.rf
  refine lv_aload_n hx hb (pc := 0) dX6_howManyParts_0 rfl (lv_at hl 0 rfl) ?_
  refine lv_aload_n hx hb (pc := 1) dX6_howManyParts_1 rfl (lv_at hl 1 rfl) ?_
  refine rr_callV (pc := 2) (va_runV (As := [.ref go]) (rest := []) ⟨hx, hb, hml, hown, hts⟩ (c_X6_findReached l K A xo xr xf rF fF go ge gt k n gw al lw E T hk4 hn hal hD hGA) (cwV 1 hts gX6_howManyParts_X6_findReached rfl rfl rfl (by decide +kernel) ⟨Nat.le_of_ble_eq_true rfl, Nat.le_of_ble_eq_true rfl⟩) (rr_preV hKK (⟨hP, (rr_ro (A := A) hG hGA hS)⟩) (va_recv hKK.1 hP (ci := 6) (q0 := 0) rfl rfl)) rfl rfl hl.1 rfl (lv_room (Nat.le_of_ble_eq_true rfl)) dX6_howManyParts_2 ⟨by omega, by omega⟩) hS (fun _ h => h) (fun H locs hY hsz hfr hS => ?_)
  obtain ⟨rF', hrE, hrB, hP⟩ := hY
  have hD : va_D A (XW6 K xo xr xf rF' fF) := rr_D hD rfl
  have hP : va_P K.1 vwCl (XW6 K xo xr xf rF' fF) H := hP
  refine lv_iconst (v := nI 0) hx hb (pc := 5) dX6_howManyParts_5 (by decide) ?_
  refine lv_istore_n (lv' := [(2, .int (nI 0)), (0, .ref xo), (1, .ref go)]) hx hb (pc := 6) dX6_howManyParts_6 rfl hl (by decide) rfl (fun ls hl => ?_)
  refine lv_iconst (v := nI 0) hx hb (pc := 7) dX6_howManyParts_7 (by decide) ?_
  refine lv_istore_n (lv' := [(3, .int (nI 0)), (2, .int (nI 0)), (0, .ref xo), (1, .ref go)]) hx hb (pc := 8) dX6_howManyParts_8 rfl hl (by decide) rfl (fun ls hl => ?_)
  have L9 : ∀ (fz : Nat) (q : Nat) (H : Heap) (locs : List Loc) (hP : va_P K.1 vwCl (XW6 K xo xr xf rF' fF) H) (hD : va_D A (XW6 K xo xr xf rF' fF)) (hS : va_S A s.heap H locs) (hfz : n - q < fz) (hq : q ≤ n) (ls : Array Slot) (hl : lv_has ls 4 [(0, .ref xo), (1, .ref go), (2, .int (nI (hmP n k al E q))), (3, .int (nI q))]), W p l e rmX6_howManyParts s m args below meth c H locs 0 0 Q (F0 m 9 ls []) := by
    intro fz; induction fz with
    | zero => intro q H locs hP hD hS hfz hq ls hl; exact absurd hfz (Nat.not_lt_zero _)
    | succ fz ih9 =>
      intro q H locs hP hD hS hfz hq ls hl
      have hle := hmP_le n k al E q
      refine lv_iload_n hx hb (pc := 9) dX6_howManyParts_9 rfl (lv_at hl 3 rfl) ?_
      refine lv_aload_n hx hb (pc := 10) dX6_howManyParts_10 rfl (lv_at hl 1 rfl) ?_
      refine va_get (v := .int (nI n)) hx hb hts (inX6_howManyParts_1) hown hKK.1 (rr_ro (A := A) hG hGA hS) 0 rfl rfl 1 (by decide) (hts _ (List.mem_of_getElem? (i := 1) (by decide +kernel))) (fun _ h9 => h9) rfl (pc := 11) dX6_howManyParts_11 ?_
      refine nv_icmp_ge (a := q) (b := n) (tgt := 46) hx hb (pc := 14) dX6_howManyParts_14 (by decide) (by omega) (by omega) (fun c14 => ?_) (fun c14 => ?_)
      · refine lv_iload_n hx hb (pc := 46) dX6_howManyParts_46 rfl (lv_at hl 2 rfl) ?_
        have e9 : q = n := by omega
        exact hret.1 _ _ 0 0 47 _ (nI (hmP n k al E q)) dX6_howManyParts_47 (by omega) (by omega) hS (⟨by rw [e9], _, hP⟩) (rfl)
      · refine lv_aload_n hx hb (pc := 17) dX6_howManyParts_17 rfl (lv_at hl 1 rfl) ?_
        refine lv_iload_n hx hb (pc := 18) dX6_howManyParts_18 rfl (lv_at hl 3 rfl) ?_
        refine rr_callP (rv := .int (bI (al.testBit q))) (pc := 19) (va_runV (As := [.int (nI q)]) (rest := []) ⟨hx, hb, hml, hown, hts⟩ (c_X1_isLive l K go ge gt k n gw al lw E T q hal (by omega)) (cwV 1 hts gX6_howManyParts_X1_isLive rfl rfl rfl (by decide +kernel) ⟨Nat.le_of_ble_eq_true rfl, Nat.le_of_ble_eq_true rfl⟩) (rr_preV hKK ((rr_ro (A := A) hG hGA hS)) (va_recv hKK.1 (rr_ro (A := A) hG hGA hS) (ci := 1) (q0 := 0) rfl rfl)) rfl rfl hl.1 rfl (lv_room (Nat.le_of_ble_eq_true rfl)) dX6_howManyParts_19 ⟨Nat.le_refl _, Nat.le_refl _⟩) ?_
        refine nv_if_eq_b (a := (al.testBit q)) (tgt := 40) hx hb (pc := 22) dX6_howManyParts_22 (by decide) (fun c22 => ?_) (fun c22 => ?_)
        · refine lv_iinc (v := nI (q + 1)) (lv' := [(3, .int (nI (q + 1))), (0, .ref xo), (1, .ref go), (2, .int (nI (hmP n k al E q)))]) hx hb (pc := 40) dX6_howManyParts_40 hl (k := 3) rfl (rr_inc _) (by decide) rfl (fun ls hl => ?_)
          refine lv_goto (tgt := 9) hx hb (pc := 43) dX6_howManyParts_43 (by decide) ?_
          have hl : lv_has ls 4 [(3, .int (nI (q + 1))), (0, .ref xo), (1, .ref go), (2, .int (nI (hmP n k al E (q + 1))))] := by rw [show hmP n k al E (q + 1) = hmP n k al E q from by first | exact hmP_yes c22 c34 | exact hmP_no1 c22 | exact hmP_no2 c34]; exact hl
          exact ih9 (q + 1) _ _ hP hD hS (by omega) (by omega) ls (lv_sub hl [1, 2, 3, 0] rfl)
        · refine lv_aload_n hx hb (pc := 25) dX6_howManyParts_25 rfl (lv_at hl 0 rfl) ?_
          refine lv_iload_n hx hb (pc := 26) dX6_howManyParts_26 rfl (lv_at hl 3 rfl) ?_
          refine rr_callP (rv := .int (nI (mbF rF' q 16))) (pc := 27) (va_runV (As := [.int (nI q)]) (rest := []) ⟨hx, hb, hml, hown, hts⟩ (c_X6_members l K xo xr xf rF' fF q (by omega) hrB) (cwV 1 hts gX6_howManyParts_X6_members rfl rfl rfl (by decide +kernel) ⟨Nat.le_of_ble_eq_true rfl, Nat.le_of_ble_eq_true rfl⟩) (rr_preV hKK (hP) (va_recv hKK.1 hP (ci := 6) (q0 := 0) rfl rfl)) rfl rfl hl.1 rfl (lv_room (Nat.le_of_ble_eq_true rfl)) dX6_howManyParts_27 ⟨Nat.le_refl _, Nat.le_refl _⟩) ?_
          refine rr_top (v := .int (nI (prM n k al E q))) (by rw [prM, mbF_congr (by omega) hrE 16 (Nat.le_refl _)]) ?_
          have hm16 : prM n k al E q < 65536 := by
            rw [prM, ← mbF_congr (by omega) hrE 16 (Nat.le_refl _)]
            exact mbF_lt (by omega) (Nat.le_refl _)
          have hl16 := lst16_le (prM n k al E q)
          refine rr_callP (rv := .int (nI (lst16 (prM n k al E q)))) (pc := 30) (va_runS (As := [.int (nI (prM n k al E q))]) (rest := []) ⟨hx, hb, hml, hown, hts⟩ (c_X6_leastIn l K (prM n k al E q) hm16) (cwS 1 hts gX6_howManyParts_X6_leastIn rfl rfl rfl (by decide +kernel) ⟨Nat.le_of_ble_eq_true rfl, Nat.le_of_ble_eq_true rfl⟩) (rr_preS hKK (trivial)) rfl rfl hl.1 rfl (lv_room (Nat.le_of_ble_eq_true rfl)) dX6_howManyParts_30 ⟨Nat.le_refl _, Nat.le_refl _⟩) ?_
          refine lv_iload_n hx hb (pc := 33) dX6_howManyParts_33 rfl (lv_at hl 3 rfl) ?_
          refine nv_icmp_ne (a := (lst16 (prM n k al E q))) (b := q) (tgt := 40) hx hb (pc := 34) dX6_howManyParts_34 (by decide) (by omega) (by omega) (fun c34 => ?_) (fun c34 => ?_)
          · refine lv_iinc (v := nI (q + 1)) (lv' := [(3, .int (nI (q + 1))), (0, .ref xo), (1, .ref go), (2, .int (nI (hmP n k al E q)))]) hx hb (pc := 40) dX6_howManyParts_40 hl (k := 3) rfl (rr_inc _) (by decide) rfl (fun ls hl => ?_)
            refine lv_goto (tgt := 9) hx hb (pc := 43) dX6_howManyParts_43 (by decide) ?_
            have hl : lv_has ls 4 [(3, .int (nI (q + 1))), (0, .ref xo), (1, .ref go), (2, .int (nI (hmP n k al E (q + 1))))] := by rw [show hmP n k al E (q + 1) = hmP n k al E q from by first | exact hmP_yes c22 c34 | exact hmP_no1 c22 | exact hmP_no2 c34]; exact hl
            exact ih9 (q + 1) _ _ hP hD hS (by omega) (by omega) ls (lv_sub hl [1, 2, 3, 0] rfl)
          · refine lv_iinc (v := nI ((hmP n k al E q) + 1)) (lv' := [(2, .int (nI ((hmP n k al E q) + 1))), (0, .ref xo), (1, .ref go), (3, .int (nI q))]) hx hb (pc := 37) dX6_howManyParts_37 hl (k := 2) rfl (rr_inc _) (by decide) rfl (fun ls hl => ?_)
            refine lv_iinc (v := nI (q + 1)) (lv' := [(3, .int (nI (q + 1))), (2, .int (nI ((hmP n k al E q) + 1))), (0, .ref xo), (1, .ref go)]) hx hb (pc := 40) dX6_howManyParts_40 hl (k := 3) rfl (rr_inc _) (by decide) rfl (fun ls hl => ?_)
            refine lv_goto (tgt := 9) hx hb (pc := 43) dX6_howManyParts_43 (by decide) ?_
            have hl : lv_has ls 4 [(3, .int (nI (q + 1))), (2, .int (nI (hmP n k al E (q + 1)))), (0, .ref xo), (1, .ref go)] := by rw [show hmP n k al E (q + 1) = (hmP n k al E q) + 1 from by first | exact hmP_yes c22 c34 | exact hmP_no1 c22 | exact hmP_no2 c34]; exact hl
            exact ih9 (q + 1) _ _ hP hD hS (by omega) (by omega) ls (lv_sub hl [2, 3, 1, 0] rfl)
  have hl : lv_has ls 4 [(3, .int (nI 0)), (2, .int (nI (hmP n k al E 0))), (0, .ref xo), (1, .ref go)] := by rw [show hmP n k al E 0 = 0 from rfl]; exact hl
  exact L9 (17) 0 _ _ hP hD hS (by omega) (Nat.zero_le _) ls (lv_sub hl [2, 3, 1, 0] rfl)

