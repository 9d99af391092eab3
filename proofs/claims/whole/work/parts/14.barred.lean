abbrev rmX0_greatestLetter : Room := { frames := 1, cells := 0, slots := 0, locals := 13 }
theorem inX0_greatestLetter_0 : ∀ w ∈ wsX00, w ∈ wsX0_greatestLetter := fun _ h => List.mem_cons_of_mem _ (List.mem_append_right _ h)
set_option maxHeartbeats 4000000 in
set_option maxRecDepth 100000 in
theorem c_X0_greatestLetter (l : Launch) (K : rr_K) (bo bl bt br nf : Nat) (FL FW RW : Nat → Nat) (hF : FOK nf FL FW) : MetP l K yX0_greatestLetter wsX0_greatestLetter rmX0_greatestLetter [.ref bo] (fun H => va_P K.1 vwCl (BW K bo bl bt br nf FL FW RW) H) (.int (nI (gL nf FL FW))) := by
  refine metP_of (cc := cX0_greatestLetter) (maxL := 4) (ret := (some .int)) (rt := .int) (by decide) rfl rfl (Nat.le_of_ble_eq_true rfl) ?_
  intro p e s m args below meth c Q ls hEnt hKK hX hret hl
  obtain ⟨hx, hb, hml, hown, hts⟩ := hEnt
  have hP : va_P K.1 vwCl (BW K bo bl bt br nf FL FW RW) s.heap := hX
  have hl : lv_has ls 4 [(0, .ref bo)] := hl
  have hn8 := hF.1
  refine lv_iconst (v := nI 0) hx hb (pc := 0) dX0_greatestLetter_0 (by decide) ?_
  refine lv_istore_n (lv' := [(1, .int (nI 0)), (0, .ref bo)]) hx hb (pc := 1) dX0_greatestLetter_1 rfl hl (by decide) rfl (fun ls hl => ?_)
  refine lv_iconst (v := nI 0) hx hb (pc := 2) dX0_greatestLetter_2 (by decide) ?_
  refine lv_istore_n (lv' := [(2, .int (nI 0)), (1, .int (nI 0)), (0, .ref bo)]) hx hb (pc := 3) dX0_greatestLetter_3 rfl hl (by decide) rfl (fun ls hl => ?_)
  have L4 : ∀ (fz : Nat) (i : Nat) (hfz : nf - i < fz) (hi : i ≤ nf) (ls : Array Slot) (hl : lv_has ls 4 [(0, .ref bo), (1, .int (nI (rr_fold (fun i g => rr_fold (fun j g => max g (FW (i * 5 + j))) (FL i) g) i 0))), (2, .int (nI i))]), W p l e rmX0_greatestLetter s m args below meth c s.heap [] 0 0 Q (F0 m 4 ls []) := by
    intro fz; induction fz with
    | zero => intro i hfz hi ls hl; exact absurd hfz (Nat.not_lt_zero _)
    | succ fz ih4 =>
      intro i hfz hi ls hl
      have g4 := gL_lt hF i hi
      refine lv_iload_n hx hb (pc := 4) dX0_greatestLetter_4 rfl (lv_at hl 2 rfl) ?_
      refine lv_aload_n hx hb (pc := 5) dX0_greatestLetter_5 rfl (lv_at hl 0 rfl) ?_
      refine va_get (v := .int (nI nf)) hx hb hts (inX0_greatestLetter_0) hown hKK.1 hP 0 rfl rfl 0 (by decide) (hts _ (List.mem_of_getElem? (i := 1) (by decide +kernel))) (fun _ h9 => h9) rfl (pc := 6) dX0_greatestLetter_6 ?_
      refine nv_icmp_ge (a := i) (b := nf) (tgt := 51) hx hb (pc := 9) dX0_greatestLetter_9 (by decide) (by omega) (by omega) (fun c9 => ?_) (fun c9 => ?_)
      · refine lv_iload_n hx hb (pc := 51) dX0_greatestLetter_51 rfl (lv_at hl 1 rfl) ?_
        obtain rfl : i = nf := by omega
        exact hret.1 52 _ (nI (rr_fold (fun i g => rr_fold (fun j g => max g (FW (i * 5 + j))) (FL i) g) i 0)) dX0_greatestLetter_52 (rfl) (rfl)
      · have hFi := hF.2 i c9
        refine lv_iconst (v := nI 0) hx hb (pc := 12) dX0_greatestLetter_12 (by decide) ?_
        refine lv_istore_n (lv' := [(3, .int (nI 0)), (0, .ref bo), (1, .int (nI (rr_fold (fun i g => rr_fold (fun j g => max g (FW (i * 5 + j))) (FL i) g) i 0))), (2, .int (nI i))]) hx hb (pc := 13) dX0_greatestLetter_13 rfl hl (by decide) rfl (fun ls hl => ?_)
        have L14 : ∀ (fz : Nat) (j : Nat) (hfz : FL i - j < fz) (hj : j ≤ FL i) (ls : Array Slot) (hl : lv_has ls 4 [(0, .ref bo), (1, .int (nI (rr_fold (fun j g => max g (FW (i * 5 + j))) j (rr_fold (fun i g => rr_fold (fun j g => max g (FW (i * 5 + j))) (FL i) g) i 0)))), (2, .int (nI i)), (3, .int (nI j))]), W p l e rmX0_greatestLetter s m args below meth c s.heap [] 0 0 Q (F0 m 14 ls []) := by
          intro fz; induction fz with
          | zero => intro j hfz hj ls hl; exact absurd hfz (Nat.not_lt_zero _)
          | succ fz ih14 =>
            intro j hfz hj ls hl
            refine lv_iload_n hx hb (pc := 14) dX0_greatestLetter_14 rfl (lv_at hl 3 rfl) ?_
            refine lv_aload_n hx hb (pc := 15) dX0_greatestLetter_15 rfl (lv_at hl 0 rfl) ?_
            refine va_get (v := .ref bl) hx hb hts (inX0_greatestLetter_0) hown hKK.1 hP 0 rfl rfl 1 (by decide) (hts _ (List.mem_of_getElem? (i := 2) (by decide +kernel))) (fun _ h9 => h9) rfl (pc := 16) dX0_greatestLetter_16 ?_
            refine lv_iload_n hx hb (pc := 19) dX0_greatestLetter_19 rfl (lv_at hl 2 rfl) ?_
            refine nv_iald (v := nI (FL i)) (i := i) hx hb hKK hP 1 rfl (by omega) (by decide) (rfl) (pc := 20) dX0_greatestLetter_20 ?_
            refine nv_icmp_ge (a := j) (b := (FL i)) (tgt := 45) hx hb (pc := 21) dX0_greatestLetter_21 (by decide) (by omega) (by omega) (fun c21 => ?_) (fun c21 => ?_)
            · refine lv_iinc (v := nI (i + 1)) (lv' := [(2, .int (nI (i + 1))), (0, .ref bo), (1, .int (nI (rr_fold (fun j g => max g (FW (i * 5 + j))) j (rr_fold (fun i g => rr_fold (fun j g => max g (FW (i * 5 + j))) (FL i) g) i 0)))), (3, .int (nI j))]) hx hb (pc := 45) dX0_greatestLetter_45 hl (k := 2) rfl (rr_inc _) (by decide) rfl (fun ls hl => ?_)
              refine lv_goto (tgt := 4) hx hb (pc := 48) dX0_greatestLetter_48 (by decide) ?_
              have hl : lv_has ls 4 [(2, .int (nI (i + 1))), (0, .ref bo), (1, .int (nI (rr_fold (fun i g => rr_fold (fun j g => max g (FW (i * 5 + j))) (FL i) g) (i + 1) 0))), (3, .int (nI j))] := by rw [show rr_fold (fun i g => rr_fold (fun j g => max g (FW (i * 5 + j))) (FL i) g) (i + 1) 0 = rr_fold (fun j g => max g (FW (i * 5 + j))) j (rr_fold (fun i g => rr_fold (fun j g => max g (FW (i * 5 + j))) (FL i) g) i 0) from by rw [show j = FL i by omega]; rfl]; exact hl
              exact ih4 (i + 1) (by omega) (by omega) ls (lv_sub hl [1, 2, 0] rfl)
            · have g5 := gLin_lt (i := i) (n := j) g4 (fun j' h => hFi.2.2 j' (by omega))
              have g6 := hFi.2.2 j c21
              refine lv_iload_n hx hb (pc := 24) dX0_greatestLetter_24 rfl (lv_at hl 1 rfl) ?_
              refine lv_aload_n hx hb (pc := 25) dX0_greatestLetter_25 rfl (lv_at hl 0 rfl) ?_
              refine va_get (v := .ref bt) hx hb hts (inX0_greatestLetter_0) hown hKK.1 hP 0 rfl rfl 2 (by decide) (hts _ (List.mem_of_getElem? (i := 3) (by decide +kernel))) (fun _ h9 => h9) rfl (pc := 26) dX0_greatestLetter_26 ?_
              refine lv_iload_n hx hb (pc := 29) dX0_greatestLetter_29 rfl (lv_at hl 2 rfl) ?_
              refine lv_iconst (v := nI 5) hx hb (pc := 30) dX0_greatestLetter_30 (by decide) ?_
              refine nv_imul (a := i) (b := 5) hx hb (pc := 31) dX0_greatestLetter_31 ?_
              refine lv_iload_n hx hb (pc := 32) dX0_greatestLetter_32 rfl (lv_at hl 3 rfl) ?_
              refine nv_iadd (a := (i * 5)) (b := j) hx hb (pc := 33) dX0_greatestLetter_33 ?_
              refine nv_iald (v := nI (FW ((i * 5) + j))) (i := ((i * 5) + j)) hx hb hKK hP 2 rfl (by omega) (by decide) (rfl) (pc := 34) dX0_greatestLetter_34 ?_
              refine va_mmax hx hb (hml.trans hl.1.symm) hown (hts _ (List.mem_of_getElem? (i := 4) (by decide +kernel))) (hts _ (List.mem_of_getElem? (i := 5) (by decide +kernel))) (hts _ (List.mem_of_getElem? (i := 6) (by decide +kernel))) (hts _ (List.mem_of_getElem? (i := 7) (by decide +kernel))) (Nat.le_of_ble_eq_true rfl) (Nat.le_of_ble_eq_true rfl) (Nat.le_refl _) (Nat.le_refl _) (pc := 35) dX0_greatestLetter_35 ?_
              refine rr_top (v := .int (nI (max (rr_fold (fun j g => max g (FW (i * 5 + j))) j (rr_fold (fun i g => rr_fold (fun j g => max g (FW (i * 5 + j))) (FL i) g) i 0)) (FW (i * 5 + j))))) (by rw [rr_max _ _ (Nat.lt_trans g5 (by decide)) (by omega)]) ?_
              refine lv_istore_n (lv' := [(1, .int (nI (max (rr_fold (fun j g => max g (FW (i * 5 + j))) j (rr_fold (fun i g => rr_fold (fun j g => max g (FW (i * 5 + j))) (FL i) g) i 0)) (FW (i * 5 + j))))), (0, .ref bo), (2, .int (nI i)), (3, .int (nI j))]) hx hb (pc := 38) dX0_greatestLetter_38 rfl hl (by decide) rfl (fun ls hl => ?_)
              refine lv_iinc (v := nI (j + 1)) (lv' := [(3, .int (nI (j + 1))), (1, .int (nI (max (rr_fold (fun j g => max g (FW (i * 5 + j))) j (rr_fold (fun i g => rr_fold (fun j g => max g (FW (i * 5 + j))) (FL i) g) i 0)) (FW (i * 5 + j))))), (0, .ref bo), (2, .int (nI i))]) hx hb (pc := 39) dX0_greatestLetter_39 hl (k := 3) rfl (rr_inc _) (by decide) rfl (fun ls hl => ?_)
              refine lv_goto (tgt := 14) hx hb (pc := 42) dX0_greatestLetter_42 (by decide) ?_
              exact ih14 (j + 1) (by omega) (by omega) ls (lv_sub hl [2, 1, 3, 0] rfl)
        exact L14 (FL i + 1) 0 (by omega) (Nat.zero_le _) ls (lv_sub hl [1, 2, 3, 0] rfl)
  exact L4 (9) 0 (by omega) (by omega) ls (lv_sub hl [2, 1, 0] rfl)

abbrev rmX0_longest : Room := { frames := 1, cells := 0, slots := 0, locals := 13 }
theorem inX0_longest_0 : ∀ w ∈ wsX00, w ∈ wsX0_longest := fun _ h => List.mem_cons_of_mem _ (List.mem_append_right _ h)
set_option maxHeartbeats 4000000 in
set_option maxRecDepth 100000 in
theorem c_X0_longest (l : Launch) (K : rr_K) (bo bl bt br nf : Nat) (FL FW RW : Nat → Nat) (hF : FOK nf FL FW) : MetP l K yX0_longest wsX0_longest rmX0_longest [.ref bo] (fun H => va_P K.1 vwCl (BW K bo bl bt br nf FL FW RW) H) (.int (nI (lM nf FL))) := by
  refine metP_of (cc := cX0_longest) (maxL := 3) (ret := (some .int)) (rt := .int) (by decide) rfl rfl (Nat.le_of_ble_eq_true rfl) ?_
  intro p e s m args below meth c Q ls hEnt hKK hX hret hl
  obtain ⟨hx, hb, hml, hown, hts⟩ := hEnt
  have hP : va_P K.1 vwCl (BW K bo bl bt br nf FL FW RW) s.heap := hX
  have hl : lv_has ls 3 [(0, .ref bo)] := hl
  have hn8 := hF.1
  refine lv_iconst (v := nI 2) hx hb (pc := 0) dX0_longest_0 (by decide) ?_
  refine lv_istore_n (lv' := [(1, .int (nI 2)), (0, .ref bo)]) hx hb (pc := 1) dX0_longest_1 rfl hl (by decide) rfl (fun ls hl => ?_)
  refine lv_iconst (v := nI 0) hx hb (pc := 2) dX0_longest_2 (by decide) ?_
  refine lv_istore_n (lv' := [(2, .int (nI 0)), (1, .int (nI 2)), (0, .ref bo)]) hx hb (pc := 3) dX0_longest_3 rfl hl (by decide) rfl (fun ls hl => ?_)
  have L4 : ∀ (fz : Nat) (i : Nat) (hfz : nf - i < fz) (hi : i ≤ nf) (ls : Array Slot) (hl : lv_has ls 3 [(0, .ref bo), (1, .int (nI (rr_fold (fun i m => max m (FL i)) i 2))), (2, .int (nI i))]), W p l e rmX0_longest s m args below meth c s.heap [] 0 0 Q (F0 m 4 ls []) := by
    intro fz; induction fz with
    | zero => intro i hfz hi ls hl; exact absurd hfz (Nat.not_lt_zero _)
    | succ fz ih4 =>
      intro i hfz hi ls hl
      have g4 := lM_in hF i hi
      refine lv_iload_n hx hb (pc := 4) dX0_longest_4 rfl (lv_at hl 2 rfl) ?_
      refine lv_aload_n hx hb (pc := 5) dX0_longest_5 rfl (lv_at hl 0 rfl) ?_
      refine va_get (v := .int (nI nf)) hx hb hts (inX0_longest_0) hown hKK.1 hP 0 rfl rfl 0 (by decide) (hts _ (List.mem_of_getElem? (i := 1) (by decide +kernel))) (fun _ h9 => h9) rfl (pc := 6) dX0_longest_6 ?_
      refine nv_icmp_ge (a := i) (b := nf) (tgt := 29) hx hb (pc := 9) dX0_longest_9 (by decide) (by omega) (by omega) (fun c9 => ?_) (fun c9 => ?_)
      · refine lv_iload_n hx hb (pc := 29) dX0_longest_29 rfl (lv_at hl 1 rfl) ?_
        obtain rfl : i = nf := by omega
        exact hret.1 30 _ (nI (rr_fold (fun i m => max m (FL i)) i 2)) dX0_longest_30 (rfl) (rfl)
      · have hFi := hF.2 i c9
        refine lv_iload_n hx hb (pc := 12) dX0_longest_12 rfl (lv_at hl 1 rfl) ?_
        refine lv_aload_n hx hb (pc := 13) dX0_longest_13 rfl (lv_at hl 0 rfl) ?_
        refine va_get (v := .ref bl) hx hb hts (inX0_longest_0) hown hKK.1 hP 0 rfl rfl 1 (by decide) (hts _ (List.mem_of_getElem? (i := 2) (by decide +kernel))) (fun _ h9 => h9) rfl (pc := 14) dX0_longest_14 ?_
        refine lv_iload_n hx hb (pc := 17) dX0_longest_17 rfl (lv_at hl 2 rfl) ?_
        refine nv_iald (v := nI (FL i)) (i := i) hx hb hKK hP 1 rfl (by omega) (by decide) (rfl) (pc := 18) dX0_longest_18 ?_
        refine va_mmax hx hb (hml.trans hl.1.symm) hown (hts _ (List.mem_of_getElem? (i := 3) (by decide +kernel))) (hts _ (List.mem_of_getElem? (i := 4) (by decide +kernel))) (hts _ (List.mem_of_getElem? (i := 5) (by decide +kernel))) (hts _ (List.mem_of_getElem? (i := 6) (by decide +kernel))) (Nat.le_of_ble_eq_true rfl) (Nat.le_of_ble_eq_true rfl) (Nat.le_refl _) (Nat.le_refl _) (pc := 19) dX0_longest_19 ?_
        refine rr_top (v := .int (nI (max (rr_fold (fun i m => max m (FL i)) i 2) (FL i)))) (by rw [rr_max _ _ (Nat.lt_of_le_of_lt g4.2 (by decide)) (by omega)]) ?_
        refine lv_istore_n (lv' := [(1, .int (nI (max (rr_fold (fun i m => max m (FL i)) i 2) (FL i)))), (0, .ref bo), (2, .int (nI i))]) hx hb (pc := 22) dX0_longest_22 rfl hl (by decide) rfl (fun ls hl => ?_)
        refine lv_iinc (v := nI (i + 1)) (lv' := [(2, .int (nI (i + 1))), (1, .int (nI (max (rr_fold (fun i m => max m (FL i)) i 2) (FL i)))), (0, .ref bo)]) hx hb (pc := 23) dX0_longest_23 hl (k := 2) rfl (rr_inc _) (by decide) rfl (fun ls hl => ?_)
        refine lv_goto (tgt := 4) hx hb (pc := 26) dX0_longest_26 (by decide) ?_
        exact ih4 (i + 1) (by omega) (by omega) ls (lv_sub hl [2, 1, 0] rfl)
  exact L4 (9) 0 (by omega) (by omega) ls (lv_sub hl [2, 1, 0] rfl)

abbrev rmX0_standsAt : Room := { frames := 0, cells := 0, slots := 0, locals := 0 }
theorem inX0_standsAt_0 : ∀ w ∈ wsX00, w ∈ wsX0_standsAt := fun _ h => List.mem_cons_of_mem _ (List.mem_append_right _ h)
set_option maxHeartbeats 4000000 in
set_option maxRecDepth 100000 in
theorem c_X0_standsAt (l : Launch) (K : rr_K) (bo bl bt br nf : Nat) (FL FW RW : Nat → Nat) (i fr len : Nat) (hF : FOK nf FL FW) (hi : i < nf) (hlen : len ≤ 5) (hfr : fr + FL i ≤ len) (hR : ∀ j, j < 5 → RW j < 65536) : MetP l K yX0_standsAt wsX0_standsAt rmX0_standsAt [.ref bo, .int (nI i), .int (nI fr)] (fun H => va_P K.1 vwCl (BW K bo bl bt br nf FL FW RW) H) (.int (bI (stA FL FW RW i fr))) := by
  refine metP_of (cc := cX0_standsAt) (maxL := 4) (ret := (some .boolean)) (rt := .boolean) (by decide) rfl rfl (Nat.le_of_ble_eq_true rfl) ?_
  intro p e s m args below meth c Q ls hEnt hKK hX hret hl
  obtain ⟨hx, hb, hml, hown, hts⟩ := hEnt
  have hP : va_P K.1 vwCl (BW K bo bl bt br nf FL FW RW) s.heap := hX
  have hl : lv_has ls 4 [(0, .ref bo), (1, .int (nI i)), (2, .int (nI fr))] := hl
  have hn8 := hF.1
  have hFi := hF.2 i hi
  refine lv_iconst (v := nI 0) hx hb (pc := 0) dX0_standsAt_0 (by decide) ?_
  refine lv_istore_n (lv' := [(3, .int (nI 0)), (0, .ref bo), (1, .int (nI i)), (2, .int (nI fr))]) hx hb (pc := 1) dX0_standsAt_1 rfl hl (by decide) rfl (fun ls hl => ?_)
  have L2 : ∀ (fz : Nat) (j : Nat) (hfz : FL i - j < fz) (hj : j ≤ FL i) (hall : ∀ j', j' < j → (RW (fr + j') == FW (i * 5 + j')) = true) (ls : Array Slot) (hl : lv_has ls 4 [(0, .ref bo), (1, .int (nI i)), (2, .int (nI fr)), (3, .int (nI j))]), W p l e rmX0_standsAt s m args below meth c s.heap [] 0 0 Q (F0 m 2 ls []) := by
    intro fz; induction fz with
    | zero => intro j hfz hj hall ls hl; exact absurd hfz (Nat.not_lt_zero _)
    | succ fz ih2 =>
      intro j hfz hj hall ls hl
      refine lv_iload_n hx hb (pc := 2) dX0_standsAt_2 rfl (lv_at hl 3 rfl) ?_
      refine lv_aload_n hx hb (pc := 3) dX0_standsAt_3 rfl (lv_at hl 0 rfl) ?_
      refine va_get (v := .ref bl) hx hb hts (inX0_standsAt_0) hown hKK.1 hP 0 rfl rfl 1 (by decide) (hts _ (List.mem_of_getElem? (i := 1) (by decide +kernel))) (fun _ h9 => h9) rfl (pc := 4) dX0_standsAt_4 ?_
      refine lv_iload_n hx hb (pc := 7) dX0_standsAt_7 rfl (lv_at hl 1 rfl) ?_
      refine nv_iald (v := nI (FL i)) (i := i) hx hb hKK hP 1 rfl (by omega) (by decide) (rfl) (pc := 8) dX0_standsAt_8 ?_
      refine nv_icmp_ge (a := j) (b := (FL i)) (tgt := 41) hx hb (pc := 9) dX0_standsAt_9 (by decide) (by omega) (by omega) (fun c9 => ?_) (fun c9 => ?_)
      · refine lv_iconst (v := nI 1) hx hb (pc := 41) dX0_standsAt_41 (by decide) ?_
        exact hret.1 42 _ (nI 1) dX0_standsAt_42 (by rw [stA, allB_yes (fun j' h => hall j' (by omega))]; rfl) (by decide)
      · have g6 := hFi.2.2 j c9
        have g7 := hR (fr + j) (by omega)
        refine lv_aload_n hx hb (pc := 12) dX0_standsAt_12 rfl (lv_at hl 0 rfl) ?_
        refine va_get (v := .ref br) hx hb hts (inX0_standsAt_0) hown hKK.1 hP 0 rfl rfl 3 (by decide) (hts _ (List.mem_of_getElem? (i := 2) (by decide +kernel))) (fun _ h9 => h9) rfl (pc := 13) dX0_standsAt_13 ?_
        refine lv_iload_n hx hb (pc := 16) dX0_standsAt_16 rfl (lv_at hl 2 rfl) ?_
        refine lv_iload_n hx hb (pc := 17) dX0_standsAt_17 rfl (lv_at hl 3 rfl) ?_
        refine nv_iadd (a := fr) (b := j) hx hb (pc := 18) dX0_standsAt_18 ?_
        refine nv_iald (v := nI (RW (fr + j))) (i := (fr + j)) hx hb hKK hP 3 rfl (by omega) (by decide) (rfl) (pc := 19) dX0_standsAt_19 ?_
        refine lv_aload_n hx hb (pc := 20) dX0_standsAt_20 rfl (lv_at hl 0 rfl) ?_
        refine va_get (v := .ref bt) hx hb hts (inX0_standsAt_0) hown hKK.1 hP 0 rfl rfl 2 (by decide) (hts _ (List.mem_of_getElem? (i := 3) (by decide +kernel))) (fun _ h9 => h9) rfl (pc := 21) dX0_standsAt_21 ?_
        refine lv_iload_n hx hb (pc := 24) dX0_standsAt_24 rfl (lv_at hl 1 rfl) ?_
        refine lv_iconst (v := nI 5) hx hb (pc := 25) dX0_standsAt_25 (by decide) ?_
        refine nv_imul (a := i) (b := 5) hx hb (pc := 26) dX0_standsAt_26 ?_
        refine lv_iload_n hx hb (pc := 27) dX0_standsAt_27 rfl (lv_at hl 3 rfl) ?_
        refine nv_iadd (a := (i * 5)) (b := j) hx hb (pc := 28) dX0_standsAt_28 ?_
        refine nv_iald (v := nI (FW ((i * 5) + j))) (i := ((i * 5) + j)) hx hb hKK hP 2 rfl (by omega) (by decide) (rfl) (pc := 29) dX0_standsAt_29 ?_
        refine nv_icmp_eq (a := (RW (fr + j))) (b := (FW ((i * 5) + j))) (tgt := 35) hx hb (pc := 30) dX0_standsAt_30 (by decide) (by omega) (by omega) (fun c30 => ?_) (fun c30 => ?_)
        · refine lv_iinc (v := nI (j + 1)) (lv' := [(3, .int (nI (j + 1))), (0, .ref bo), (1, .int (nI i)), (2, .int (nI fr))]) hx hb (pc := 35) dX0_standsAt_35 hl (k := 3) rfl (rr_inc _) (by decide) rfl (fun ls hl => ?_)
          refine lv_goto (tgt := 2) hx hb (pc := 38) dX0_standsAt_38 (by decide) ?_
          exact ih2 (j + 1) (by omega) (by omega) (lt_s hall (by rw [c30]; exact beq_self_eq_true _)) ls (lv_sub hl [1, 2, 3, 0] rfl)
        · refine lv_iconst (v := nI 0) hx hb (pc := 33) dX0_standsAt_33 (by decide) ?_
          exact hret.1 34 _ (nI 0) dX0_standsAt_34 (by rw [stA, allB_not c9 (by simp [c30])]; rfl) (by decide)
  exact L2 (FL i + 1) 0 (by omega) (Nat.zero_le _) (fun j h => absurd h (Nat.not_lt_zero _)) ls (lv_sub hl [1, 2, 3, 0] rfl)

abbrev rmX0_standsInRow : Room := { frames := 1, cells := 0, slots := 0, locals := 23 }
theorem inX0_standsInRow_0 : ∀ w ∈ wsX00, w ∈ wsX0_standsInRow := fun _ h => List.mem_cons_of_mem _ (List.mem_append_right _ h)
set_option maxHeartbeats 4000000 in
set_option maxRecDepth 100000 in
theorem c_X0_standsInRow (l : Launch) (K : rr_K) (bo bl bt br nf : Nat) (FL FW RW : Nat → Nat) (len : Nat) (hF : FOK nf FL FW) (hlen : len ≤ 5) (hR : ∀ j, j < 5 → RW j < 65536) : MetP l K yX0_standsInRow wsX0_standsInRow rmX0_standsInRow [.ref bo, .int (nI len)] (fun H => va_P K.1 vwCl (BW K bo bl bt br nf FL FW RW) H) (.int (bI (stR nf FL FW RW len))) := by
  refine metP_of (cc := cX0_standsInRow) (maxL := 4) (ret := (some .boolean)) (rt := .boolean) (by decide) rfl rfl (Nat.le_of_ble_eq_true rfl) ?_
  intro p e s m args below meth c Q ls hEnt hKK hX hret hl
  obtain ⟨hx, hb, hml, hown, hts⟩ := hEnt
  have hP : va_P K.1 vwCl (BW K bo bl bt br nf FL FW RW) s.heap := hX
  have hl : lv_has ls 4 [(0, .ref bo), (1, .int (nI len))] := hl
  have hn8 := hF.1
  refine lv_iconst (v := nI 0) hx hb (pc := 0) dX0_standsInRow_0 (by decide) ?_
  refine lv_istore_n (lv' := [(2, .int (nI 0)), (0, .ref bo), (1, .int (nI len))]) hx hb (pc := 1) dX0_standsInRow_1 rfl hl (by decide) rfl (fun ls hl => ?_)
  have L2 : ∀ (fz : Nat) (i : Nat) (hfz : nf - i < fz) (hi : i ≤ nf) (hno : ∀ i', i' < i → anyB (len + 1 - FL i') (fun fr => stA FL FW RW i' fr) = false) (ls : Array Slot) (hl : lv_has ls 4 [(0, .ref bo), (1, .int (nI len)), (2, .int (nI i))]), W p l e rmX0_standsInRow s m args below meth c s.heap [] 0 0 Q (F0 m 2 ls []) := by
    intro fz; induction fz with
    | zero => intro i hfz hi hno ls hl; exact absurd hfz (Nat.not_lt_zero _)
    | succ fz ih2 =>
      intro i hfz hi hno ls hl
      refine lv_iload_n hx hb (pc := 2) dX0_standsInRow_2 rfl (lv_at hl 2 rfl) ?_
      refine lv_aload_n hx hb (pc := 3) dX0_standsInRow_3 rfl (lv_at hl 0 rfl) ?_
      refine va_get (v := .int (nI nf)) hx hb hts (inX0_standsInRow_0) hown hKK.1 hP 0 rfl rfl 0 (by decide) (hts _ (List.mem_of_getElem? (i := 1) (by decide +kernel))) (fun _ h9 => h9) rfl (pc := 4) dX0_standsInRow_4 ?_
      refine nv_icmp_ge (a := i) (b := nf) (tgt := 47) hx hb (pc := 7) dX0_standsInRow_7 (by decide) (by omega) (by omega) (fun c7 => ?_) (fun c7 => ?_)
      · refine lv_iconst (v := nI 0) hx hb (pc := 47) dX0_standsInRow_47 (by decide) ?_
        exact hret.1 48 _ (nI 0) dX0_standsInRow_48 (by rw [stR, anyB_no (fun i' h => hno i' (by omega))]; rfl) (by decide)
      · have hFi := hF.2 i c7
        refine lv_iconst (v := nI 0) hx hb (pc := 10) dX0_standsInRow_10 (by decide) ?_
        refine lv_istore_n (lv' := [(3, .int (nI 0)), (0, .ref bo), (1, .int (nI len)), (2, .int (nI i))]) hx hb (pc := 11) dX0_standsInRow_11 rfl hl (by decide) rfl (fun ls hl => ?_)
        have L12 : ∀ (fz : Nat) (fr : Nat) (hfz : 6 - fr < fz) (hfr : fr ≤ len + 1 - FL i ∨ fr = 0) (hno2 : ∀ fr', fr' < fr → stA FL FW RW i fr' = false) (ls : Array Slot) (hl : lv_has ls 4 [(0, .ref bo), (1, .int (nI len)), (2, .int (nI i)), (3, .int (nI fr))]), W p l e rmX0_standsInRow s m args below meth c s.heap [] 0 0 Q (F0 m 12 ls []) := by
          intro fz; induction fz with
          | zero => intro fr hfz hfr hno2 ls hl; exact absurd hfz (Nat.not_lt_zero _)
          | succ fz ih12 =>
            intro fr hfz hfr hno2 ls hl
            refine lv_iload_n hx hb (pc := 12) dX0_standsInRow_12 rfl (lv_at hl 3 rfl) ?_
            refine lv_aload_n hx hb (pc := 13) dX0_standsInRow_13 rfl (lv_at hl 0 rfl) ?_
            refine va_get (v := .ref bl) hx hb hts (inX0_standsInRow_0) hown hKK.1 hP 0 rfl rfl 1 (by decide) (hts _ (List.mem_of_getElem? (i := 2) (by decide +kernel))) (fun _ h9 => h9) rfl (pc := 14) dX0_standsInRow_14 ?_
            refine lv_iload_n hx hb (pc := 17) dX0_standsInRow_17 rfl (lv_at hl 2 rfl) ?_
            refine nv_iald (v := nI (FL i)) (i := i) hx hb hKK hP 1 rfl (by omega) (by decide) (rfl) (pc := 18) dX0_standsInRow_18 ?_
            refine nv_iadd (a := fr) (b := (FL i)) hx hb (pc := 19) dX0_standsInRow_19 ?_
            refine lv_iload_n hx hb (pc := 20) dX0_standsInRow_20 rfl (lv_at hl 1 rfl) ?_
            refine nv_icmp_gt (a := (fr + (FL i))) (b := len) (tgt := 41) hx hb (pc := 21) dX0_standsInRow_21 (by decide) (by omega) (by omega) (fun c21 => ?_) (fun c21 => ?_)
            · refine lv_iinc (v := nI (i + 1)) (lv' := [(2, .int (nI (i + 1))), (0, .ref bo), (1, .int (nI len)), (3, .int (nI fr))]) hx hb (pc := 41) dX0_standsInRow_41 hl (k := 2) rfl (rr_inc _) (by decide) rfl (fun ls hl => ?_)
              refine lv_goto (tgt := 2) hx hb (pc := 44) dX0_standsInRow_44 (by decide) ?_
              exact ih2 (i + 1) (by omega) (by omega) (lt_s hno (anyB_no (fun fr' h => hno2 fr' (by omega)))) ls (lv_sub hl [1, 2, 0] rfl)
            · refine lv_aload_n hx hb (pc := 24) dX0_standsInRow_24 rfl (lv_at hl 0 rfl) ?_
              refine lv_iload_n hx hb (pc := 25) dX0_standsInRow_25 rfl (lv_at hl 2 rfl) ?_
              refine lv_iload_n hx hb (pc := 26) dX0_standsInRow_26 rfl (lv_at hl 3 rfl) ?_
              refine rr_callP (rv := .int (bI (stA FL FW RW i fr))) (pc := 27) (va_runV (As := [.int (nI i), .int (nI fr)]) (rest := []) ⟨hx, hb, hml, hown, hts⟩ (c_X0_standsAt l K bo bl bt br nf FL FW RW i fr len hF (by omega) hlen (by omega) hR) (cwV 2 hts gX0_standsInRow_X0_standsAt rfl rfl rfl (by decide +kernel) ⟨Nat.le_of_ble_eq_true rfl, Nat.le_of_ble_eq_true rfl⟩) (rr_preV hKK (hP) (va_recv hKK.1 hP (ci := 0) (q0 := 0) rfl rfl)) rfl rfl hl.1 rfl (lv_room (Nat.le_of_ble_eq_true rfl)) dX0_standsInRow_27 ⟨Nat.le_refl _, Nat.le_refl _⟩) ?_
              refine nv_if_eq_b (a := (stA FL FW RW i fr)) (tgt := 35) hx hb (pc := 30) dX0_standsInRow_30 (by decide) (fun c30 => ?_) (fun c30 => ?_)
              · refine lv_iinc (v := nI (fr + 1)) (lv' := [(3, .int (nI (fr + 1))), (0, .ref bo), (1, .int (nI len)), (2, .int (nI i))]) hx hb (pc := 35) dX0_standsInRow_35 hl (k := 3) rfl (rr_inc _) (by decide) rfl (fun ls hl => ?_)
                refine lv_goto (tgt := 12) hx hb (pc := 38) dX0_standsInRow_38 (by decide) ?_
                exact ih12 (fr + 1) (by omega) (by omega) (lt_s hno2 c30) ls (lv_sub hl [1, 2, 3, 0] rfl)
              · refine lv_iconst (v := nI 1) hx hb (pc := 33) dX0_standsInRow_33 (by decide) ?_
                exact hret.1 34 _ (nI 1) dX0_standsInRow_34 (by rw [stR, anyB_yes (i := i) (by omega) (anyB_yes (i := fr) (by omega) c30)]; rfl) (by decide)
        exact L12 (7) 0 (by omega) (Or.inr rfl) (fun j h => absurd h (Nat.not_lt_zero _)) ls (lv_sub hl [1, 2, 3, 0] rfl)
  exact L2 (9) 0 (by omega) (by omega) (fun j h => absurd h (Nat.not_lt_zero _)) ls (lv_sub hl [1, 2, 0] rfl)

abbrev rmX0_writeRow : Room := { frames := 0, cells := 0, slots := 0, locals := 0 }
theorem inX0_writeRow_0 : ∀ w ∈ wsX00, w ∈ wsX0_writeRow := fun _ h => List.mem_cons_of_mem _ (List.mem_append_right _ h)
set_option maxHeartbeats 4000000 in
set_option maxRecDepth 100000 in
theorem c_X0_writeRow (l : Launch) (K : rr_K) (A : Nat → Prop) (bo bl bt br nf : Nat) (FL FW RW : Nat → Nat) (x b len : Nat) (hx0 : x < 2 ^ 31) (hb0 : 0 < b) (hb4 : b < 5) (hlen : len ≤ 5) (hl1 : 1 ≤ len) (hD : va_D A (BW K bo bl bt br nf FL FW RW)) : MetV l K yX0_writeRow wsX0_writeRow rmX0_writeRow [.ref bo, .int (nI x), .int (nI b), .int (nI len)] (fun H => va_P K.1 vwCl (BW K bo bl bt br nf FL FW RW) H) A (fun H => va_P K.1 vwCl (BW K bo bl bt br nf FL FW (wrR x b len RW)) H) 0 0 := by
  refine metV_of (cc := cX0_writeRow) (maxL := 6) (by decide) rfl rfl rfl (Nat.le_of_ble_eq_true rfl) ?_
  intro p e s m args below meth c Q ls hEnt hin hKK hX hret hl
  obtain ⟨hx, hb, hml, hown, hts⟩ := hEnt
  have hP : va_P K.1 vwCl (BW K bo bl bt br nf FL FW RW) s.heap := hX
  have hl : lv_has ls 6 [(0, .ref bo), (1, .int (nI x)), (2, .int (nI b)), (3, .int (nI len))] := hl
  have hS : va_S A s.heap s.heap [] := va_S.rf
  refine lv_iload_n hx hb (pc := 0) dX0_writeRow_0 rfl (lv_at hl 1 rfl) ?_
  refine lv_istore (lv' := [(4, .int (nI x)), (0, .ref bo), (1, .int (nI x)), (2, .int (nI b)), (3, .int (nI len))]) hx hb (pc := 1) dX0_writeRow_1 hl (by decide) rfl (fun ls hl => ?_)
  refine lv_iload_n hx hb (pc := 3) dX0_writeRow_3 rfl (lv_at hl 4 rfl) ?_
  refine lv_iconst (v := nI 1) hx hb (pc := 4) dX0_writeRow_4 (by decide) ?_
  refine nv_isub (a := len) (b := 1) hx hb (pc := 5) dX0_writeRow_5 (by omega) ?_
  refine rr_top (v := .int (dI len)) (by rw [show len = (len - 1) + 1 by omega, dI_succ]; rfl) ?_
  refine lv_istore (lv' := [(5, .int (dI len)), (4, .int (nI x)), (0, .ref bo), (1, .int (nI x)), (2, .int (nI b)), (3, .int (nI len))]) hx hb (pc := 6) dX0_writeRow_6 hl (by decide) rfl (fun ls hl => ?_)
  have L8 : ∀ (fz : Nat) (t : Nat) (H : Heap) (locs : List Loc) (hP : va_P K.1 vwCl (BW K bo bl bt br nf FL FW (fun j => if t ≤ j ∧ j < len then x / b ^ (len - 1 - j) % b else RW j)) H) (hD : va_D A (BW K bo bl bt br nf FL FW (fun j => if t ≤ j ∧ j < len then x / b ^ (len - 1 - j) % b else RW j))) (hS : va_S A s.heap H locs) (hfz : t < fz) (ht : t ≤ len) (ls : Array Slot) (hl : lv_has ls 6 [(0, .ref bo), (1, .int (nI x)), (2, .int (nI b)), (3, .int (nI len)), (4, .int (nI (x / b ^ (len - t)))), (5, .int (dI t))]), W p l e rmX0_writeRow s m args below meth c H locs 0 0 Q (F0 m 8 ls []) := by
    intro fz; induction fz with
    | zero => intro t H locs hP hD hS hfz ht ls hl; exact absurd hfz (Nat.not_lt_zero _)
    | succ fz ih8 =>
      intro t H locs hP hD hS hfz ht ls hl
      refine lv_iload hx hb (pc := 8) dX0_writeRow_8 (lv_at hl 5 rfl) ?_
      refine lv_if_lt (tgt := 36) hx hb (pc := 10) dX0_writeRow_10 (by decide) (fun c10 => ?_) (fun c10 => ?_)
      · exact hret _ _ _ _ 36 _ dX0_writeRow_36 (by omega) (by omega) hS (by obtain rfl := dI_lt c10 (by omega); exact (show (fun j => if 0 ≤ j ∧ j < len then x / b ^ (len - 1 - j) % b else RW j) = wrR x b len RW from by funext j; unfold wrR; simp) ▸ hP)
      · obtain ⟨i, rfl⟩ := dI_ge c10
        have hl : lv_has ls 6 [(0, .ref bo), (1, .int (nI x)), (2, .int (nI b)), (3, .int (nI len)), (4, .int (nI (x / b ^ (len - (i + 1))))), (5, .int (nI i))] := by rw [← dI_succ i]; exact hl
        have hdv : x / b ^ (len - (i + 1)) ≤ x := Nat.div_le_self _ _
        refine lv_aload_n hx hb (pc := 13) dX0_writeRow_13 rfl (lv_at hl 0 rfl) ?_
        refine va_get (v := .ref br) hx hb hts (inX0_writeRow_0) hown hKK.1 hP 0 rfl rfl 3 (by decide) (hts _ (List.mem_of_getElem? (i := 1) (by decide +kernel))) (fun _ h9 => h9) rfl (pc := 14) dX0_writeRow_14 ?_
        refine lv_iload hx hb (pc := 17) dX0_writeRow_17 (lv_at hl 5 rfl) ?_
        refine lv_iload hx hb (pc := 19) dX0_writeRow_19 (lv_at hl 4 rfl) ?_
        refine lv_iload_n hx hb (pc := 21) dX0_writeRow_21 rfl (lv_at hl 2 rfl) ?_
        refine nv_irem (a := (x / b ^ (len - (i + 1)))) (b := b) hx hb (pc := 22) dX0_writeRow_22 (by omega) (by omega) (by omega) ?_
        refine nv_iast (f := (fun j => if (i + 1) ≤ j ∧ j < len then x / b ^ (len - 1 - j) % b else RW j)) (x := ((x / b ^ (len - (i + 1))) % b)) (ws' := BW K bo bl bt br nf FL FW (va_up (fun j => if (i + 1) ≤ j ∧ j < len then x / b ^ (len - 1 - j) % b else RW j) i ((x / b ^ (len - (i + 1))) % b))) (i := i) hx hb hKK hP hD hS 3 rfl (by omega) (by decide) (rfl) (pc := 23) dX0_writeRow_23 (fun H locs hP hD hS => ?_)
        refine lv_iload hx hb (pc := 24) dX0_writeRow_24 (lv_at hl 4 rfl) ?_
        refine lv_iload_n hx hb (pc := 26) dX0_writeRow_26 rfl (lv_at hl 2 rfl) ?_
        refine nv_idiv (a := (x / b ^ (len - (i + 1)))) (b := b) hx hb (pc := 27) dX0_writeRow_27 (by omega) (by omega) (by omega) ?_
        refine lv_istore (lv' := [(4, .int (nI ((x / b ^ (len - (i + 1))) / b))), (0, .ref bo), (1, .int (nI x)), (2, .int (nI b)), (3, .int (nI len)), (5, .int (nI i))]) hx hb (pc := 28) dX0_writeRow_28 hl (by decide) rfl (fun ls hl => ?_)
        refine lv_iinc (v := dI i) (lv' := [(5, .int (dI i)), (4, .int (nI ((x / b ^ (len - (i + 1))) / b))), (0, .ref bo), (1, .int (nI x)), (2, .int (nI b)), (3, .int (nI len))]) hx hb (pc := 30) dX0_writeRow_30 hl (k := 5) rfl (rr_decr i) (by decide) rfl (fun ls hl => ?_)
        refine lv_goto (tgt := 8) hx hb (pc := 33) dX0_writeRow_33 (by decide) ?_
        rw [show len - (i + 1) = len - 1 - i by omega, wrR_step x b len RW (by omega)] at hP hD
        have hl : lv_has ls 6 [(5, .int (dI i)), (4, .int (nI (x / b ^ (len - i)))), (0, .ref bo), (1, .int (nI x)), (2, .int (nI b)), (3, .int (nI len))] := by rw [show x / b ^ (len - i) = (x / b ^ (len - (i + 1))) / b from by rw [Nat.div_div_eq_div_mul, ← Nat.pow_succ]; congr 2; omega]; exact hl
        exact ih8 _ _ _ hP hD hS (by omega) (by omega) ls (lv_sub hl [2, 3, 4, 5, 1, 0] rfl)
  have e0 : (fun j => if len ≤ j ∧ j < len then x / b ^ (len - 1 - j) % b else RW j) = RW := by funext j; rw [if_neg (by omega)]
  have hP : va_P K.1 vwCl (BW K bo bl bt br nf FL FW (fun j => if len ≤ j ∧ j < len then x / b ^ (len - 1 - j) % b else RW j)) s.heap := by rw [e0]; exact hP
  have hD : va_D A (BW K bo bl bt br nf FL FW (fun j => if len ≤ j ∧ j < len then x / b ^ (len - 1 - j) % b else RW j)) := rr_D hD rfl
  have hl : lv_has ls 6 [(5, .int (dI len)), (4, .int (nI (x / b ^ (len - len)))), (0, .ref bo), (1, .int (nI x)), (2, .int (nI b)), (3, .int (nI len))] := by rw [show x / b ^ (len - len) = x from by rw [Nat.sub_self, Nat.pow_zero, Nat.div_one]]; exact hl
  exact L8 (len + 1) len _ _ hP hD hS (by omega) (by omega) ls (lv_sub hl [2, 3, 4, 5, 1, 0] rfl)

abbrev rmX0_add : Room := { frames := 0, cells := 0, slots := 0, locals := 0 }
theorem inX0_add_0 : ∀ w ∈ wsX00, w ∈ wsX0_add := fun _ h => List.mem_cons_of_mem _ (List.mem_append_right _ h)
set_option maxHeartbeats 4000000 in
set_option maxRecDepth 100000 in
theorem c_X0_add (l : Launch) (K : rr_K) (A : Nat → Prop) (bo bl bt br nf : Nat) (FL FW RW : Nat → Nat) (wo len : Nat) (WD : Nat → Nat) (hn8 : nf < 8) (hlen : len ≤ 5) (hD : va_D A (BW K bo bl bt br nf FL FW RW)) (hGA : ∀ (k : Nat) (q : Nat × va_E), (RA K wo 30 WD)[k]? = some q → ¬ A q.1) : MetV l K yX0_add wsX0_add rmX0_add [.ref bo, .ref wo, .int (nI len)] (fun H => va_P K.1 vwCl (BW K bo bl bt br nf FL FW RW) H ∧ va_P K.1 vwCl (RA K wo 30 WD) H) A (fun H => va_P K.1 vwCl (BW K bo bl bt br (nf + 1) (va_up FL nf len) (putN FW WD (nf * 5) len) RW) H) 0 0 := by
  refine metV_of (cc := cX0_add) (maxL := 4) (by decide) rfl rfl rfl (Nat.le_of_ble_eq_true rfl) ?_
  intro p e s m args below meth c Q ls hEnt hin hKK hX hret hl
  obtain ⟨hx, hb, hml, hown, hts⟩ := hEnt
  obtain ⟨hP, hG⟩ := hX
  have hP : va_P K.1 vwCl (BW K bo bl bt br nf FL FW RW) s.heap := hP
  have hG : va_P K.1 vwCl (RA K wo 30 WD) s.heap := hG
  have hl : lv_has ls 4 [(0, .ref bo), (1, .ref wo), (2, .int (nI len))] := hl
  have hS : va_S A s.heap s.heap [] := va_S.rf
  refine lv_aload_n hx hb (pc := 0) dX0_add_0 rfl (lv_at hl 0 rfl) ?_
  refine va_get (v := .ref bl) hx hb hts (inX0_add_0) hown hKK.1 hP 0 rfl rfl 1 (by decide) (hts _ (List.mem_of_getElem? (i := 1) (by decide +kernel))) (fun _ h9 => h9) rfl (pc := 1) dX0_add_1 ?_
  refine lv_aload_n hx hb (pc := 4) dX0_add_4 rfl (lv_at hl 0 rfl) ?_
  refine va_get (v := .int (nI nf)) hx hb hts (inX0_add_0) hown hKK.1 hP 0 rfl rfl 0 (by decide) (hts _ (List.mem_of_getElem? (i := 2) (by decide +kernel))) (fun _ h9 => h9) rfl (pc := 5) dX0_add_5 ?_
  refine lv_iload_n hx hb (pc := 8) dX0_add_8 rfl (lv_at hl 2 rfl) ?_
  refine nv_iast (f := FL) (x := len) (ws' := BW K bo bl bt br nf (va_up FL nf len) FW RW) (i := nf) hx hb hKK hP hD hS 1 rfl (by omega) (by decide) (rfl) (pc := 9) dX0_add_9 (fun H locs hP hD hS => ?_)
  refine lv_iconst (v := nI 0) hx hb (pc := 10) dX0_add_10 (by decide) ?_
  refine lv_istore_n (lv' := [(3, .int (nI 0)), (0, .ref bo), (1, .ref wo), (2, .int (nI len))]) hx hb (pc := 11) dX0_add_11 rfl hl (by decide) rfl (fun ls hl => ?_)
  have L12 : ∀ (fz : Nat) (i : Nat) (H : Heap) (locs : List Loc) (hP : va_P K.1 vwCl (BW K bo bl bt br nf (va_up FL nf len) (putN FW WD (nf * 5) i) RW) H) (hD : va_D A (BW K bo bl bt br nf (va_up FL nf len) (putN FW WD (nf * 5) i) RW)) (hS : va_S A s.heap H locs) (hfz : len - i < fz) (hi : i ≤ len) (ls : Array Slot) (hl : lv_has ls 4 [(0, .ref bo), (1, .ref wo), (2, .int (nI len)), (3, .int (nI i))]), W p l e rmX0_add s m args below meth c H locs 0 0 Q (F0 m 12 ls []) := by
    intro fz; induction fz with
    | zero => intro i H locs hP hD hS hfz hi ls hl; exact absurd hfz (Nat.not_lt_zero _)
    | succ fz ih12 =>
      intro i H locs hP hD hS hfz hi ls hl
      refine lv_iload_n hx hb (pc := 12) dX0_add_12 rfl (lv_at hl 3 rfl) ?_
      refine lv_iload_n hx hb (pc := 13) dX0_add_13 rfl (lv_at hl 2 rfl) ?_
      refine nv_icmp_ge (a := i) (b := len) (tgt := 39) hx hb (pc := 14) dX0_add_14 (by decide) (by omega) (by omega) (fun c14 => ?_) (fun c14 => ?_)
      · refine lv_aload_n hx hb (pc := 39) dX0_add_39 rfl (lv_at hl 0 rfl) ?_
        refine lv_dup hx hb (pc := 40) dX0_add_40 rfl ?_
        refine va_get (v := .int (nI nf)) hx hb hts (inX0_add_0) hown hKK.1 hP 0 rfl rfl 0 (by decide) (hts _ (List.mem_of_getElem? (i := 2) (by decide +kernel))) (fun _ h9 => h9) rfl (pc := 41) dX0_add_41 ?_
        refine lv_iconst (v := nI 1) hx hb (pc := 44) dX0_add_44 (by decide) ?_
        refine nv_iadd (a := nf) (b := 1) hx hb (pc := 45) dX0_add_45 ?_
        refine rr_put (v := .int (nI (nf + 1))) (ty := tyX0 0) (ws' := BW K bo bl bt br (nf + 1) (va_up FL nf len) (putN FW WD (nf * 5) i) RW) hx hb hts (inX0_add_0) tyX0 tyX0_ok nmX0 hown hKK.1 hP hD hS 0 rfl rfl 0 (by decide) (hts _ (List.mem_of_getElem? (i := 2) (by decide +kernel))) (fun _ h9 => h9) rfl (tyX0_ok 0 (by decide)) rfl rfl (Nat.le_of_ble_eq_true rfl) rfl (pc := 46) dX0_add_46 (fun H locs hP hD hS => ?_)
        obtain rfl : i = len := by omega
        exact hret _ _ _ _ 49 _ dX0_add_49 (by omega) (by omega) hS (hP)
      · refine lv_aload_n hx hb (pc := 17) dX0_add_17 rfl (lv_at hl 0 rfl) ?_
        refine va_get (v := .ref bt) hx hb hts (inX0_add_0) hown hKK.1 hP 0 rfl rfl 2 (by decide) (hts _ (List.mem_of_getElem? (i := 3) (by decide +kernel))) (fun _ h9 => h9) rfl (pc := 18) dX0_add_18 ?_
        refine lv_aload_n hx hb (pc := 21) dX0_add_21 rfl (lv_at hl 0 rfl) ?_
        refine va_get (v := .int (nI nf)) hx hb hts (inX0_add_0) hown hKK.1 hP 0 rfl rfl 0 (by decide) (hts _ (List.mem_of_getElem? (i := 2) (by decide +kernel))) (fun _ h9 => h9) rfl (pc := 22) dX0_add_22 ?_
        refine lv_iconst (v := nI 5) hx hb (pc := 25) dX0_add_25 (by decide) ?_
        refine nv_imul (a := nf) (b := 5) hx hb (pc := 26) dX0_add_26 ?_
        refine lv_iload_n hx hb (pc := 27) dX0_add_27 rfl (lv_at hl 3 rfl) ?_
        refine nv_iadd (a := (nf * 5)) (b := i) hx hb (pc := 28) dX0_add_28 ?_
        refine lv_aload_n hx hb (pc := 29) dX0_add_29 rfl (lv_at hl 1 rfl) ?_
        refine lv_iload_n hx hb (pc := 30) dX0_add_30 rfl (lv_at hl 3 rfl) ?_
        refine nv_iald (v := nI (WD i)) (i := i) hx hb hKK (rr_ro hG hGA hS) 0 rfl (by omega) (by decide) (rfl) (pc := 31) dX0_add_31 ?_
        refine nv_iast (f := (putN FW WD (nf * 5) i)) (x := (WD i)) (ws' := BW K bo bl bt br nf (va_up FL nf len) (va_up (putN FW WD (nf * 5) i) ((nf * 5) + i) (WD i)) RW) (i := ((nf * 5) + i)) hx hb hKK hP hD hS 2 rfl (by omega) (by decide) (rfl) (pc := 32) dX0_add_32 (fun H locs hP hD hS => ?_)
        refine lv_iinc (v := nI (i + 1)) (lv' := [(3, .int (nI (i + 1))), (0, .ref bo), (1, .ref wo), (2, .int (nI len))]) hx hb (pc := 33) dX0_add_33 hl (k := 3) rfl (rr_inc _) (by decide) rfl (fun ls hl => ?_)
        refine lv_goto (tgt := 12) hx hb (pc := 36) dX0_add_36 (by decide) ?_
        rw [putN_step] at hP hD
        exact ih12 (i + 1) _ _ hP hD hS (by omega) (by omega) ls (lv_sub hl [1, 2, 3, 0] rfl)
  rw [← putN_0 FW WD (nf * 5)] at hP hD
  exact L12 (len + 1) 0 _ _ hP hD hS (by omega) (by omega) ls (lv_sub hl [1, 2, 3, 0] rfl)

