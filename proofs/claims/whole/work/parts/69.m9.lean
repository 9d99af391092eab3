abbrev rmX10_howMany : Room := { frames := 3, cells := 0, slots := 0, locals := 73 }
theorem inX10_howMany_10 : ∀ w ∈ wsX100, w ∈ wsX10_howMany := fun _ h => List.mem_cons_of_mem _ (List.mem_append_right _ h)
set_option maxHeartbeats 4000000 in
set_option maxRecDepth 100000 in
theorem c_X10_howMany (l : Launch) (K : rr_K) (A : Nat → Prop) (om : Nat) (ad : Nat → Nat) (ns wl nf wd mt : Nat) (kF nF yF WD FL FW TD RW pl nw xt vF wF qF bY gF : Nat → Nat) (nm xm : Nat → Int64) (fR oF hF dF : Nat → Int32) (x y : Int32) (hS9 : SOK ns kF nF yF) (hpl : ∀ j, j < 65536 → pl j = 0) (hD : va_D A (XM K om ad ns wl nf wd mt kF nF yF WD FL FW TD RW pl nw xt vF wF qF bY gF nm xm fR oF hF dF)) : MetR l K yX10_howMany wsX10_howMany rmX10_howMany [.ref om, .int x, .int y] (fun H => va_P K.1 vwCl (XM K om ad ns wl nf wd mt kF nF yF WD FL FW TD RW pl nw xt vF wF qF bY gF nm xm fR oF hF dF) H) A (fun v H => v = .long (hwmA ns kF nF yF x y) ∧ ∃ pl' nw' xt' nm' xm', (∀ j, j < 65536 → pl' j = 0) ∧ va_P K.1 vwCl (XM K om ad ns wl nf wd mt kF nF yF WD FL FW TD RW pl' nw' xt' vF wF qF bY gF nm' xm' fR oF hF dF) H) 0 0 := by
  refine metR_of (cc := cX10_howMany) (maxL := 10) (ret := (some .long)) (rt := .long) (by decide) rfl rfl rfl rfl (Nat.le_of_ble_eq_true rfl) ?_
  intro p e s m args below meth c Q ls hEnt hKK hX hret hl
  obtain ⟨hx, hb, hml, hown, hts⟩ := hEnt
  have hP : va_P K.1 vwCl (XM K om ad ns wl nf wd mt kF nF yF WD FL FW TD RW pl nw xt vF wF qF bY gF nm xm fR oF hF dF) s.heap := hX
  have hl : lv_has ls 10 [(0, .ref om), (1, .int x), (2, .int y)] := hl
  have hS : va_S A s.heap s.heap [] := va_S.rf
  refine lv_aload_n hx hb (pc := 0) dX10_howMany_0 rfl (lv_at hl 0 rfl) ?_
  refine lv_iload_n hx hb (pc := 1) dX10_howMany_1 rfl (lv_at hl 1 rfl) ?_
  refine rr_callP (rv := .int (bI (isS ns x))) (pc := 2) (va_runV (As := [.int x]) (rest := []) ⟨hx, hb, hml, hown, hts⟩ (c_X10_isSet l K om ad ns wl nf wd mt kF nF yF WD FL FW TD RW pl nw xt vF wF qF bY gF nm xm fR oF hF dF x) (cwV 1 hts gX10_howMany_X10_isSet rfl rfl rfl (by decide +kernel) ⟨Nat.le_of_ble_eq_true rfl, Nat.le_of_ble_eq_true rfl⟩) (rr_preV hKK (hP) (va_recv hKK.1 hP (ci := 10) (q0 := 0) rfl rfl)) rfl rfl hl.1 rfl (lv_room (Nat.le_of_ble_eq_true rfl)) dX10_howMany_2 ⟨Nat.le_refl _, Nat.le_refl _⟩) ?_
  refine nv_if_eq_b (a := (isS ns x)) (tgt := 18) hx hb (pc := 5) dX10_howMany_5 (by decide) (fun c5 => ?_) (fun c5 => ?_)
  · refine lv_ldc2 (v := -2) hx hb (pc := 18) hown (hts _ (List.mem_of_getElem? (i := 1) (by decide +kernel))) dX10_howMany_18 ?_
    have hc : (isS ns x && rrin y (nI 0) (nI 24)) = false := by first | (rw [c5, c15]; rfl) | (rw [c5]; rfl)
    exact hret.2.1 _ _ 0 0 21 _ (-2) dX10_howMany_21 (by omega) (by omega) hS (⟨by unfold hwmA; rw [if_neg (by rw [hc]; decide)], _, _, _, _, _, hpl, hP⟩) rfl
  · refine lv_iload_n hx hb (pc := 8) dX10_howMany_8 rfl (lv_at hl 2 rfl) ?_
    refine lv_iconst (v := nI 0) hx hb (pc := 9) dX10_howMany_9 (by decide) ?_
    refine lv_bipush (v := nI 24) hx hb (pc := 10) dX10_howMany_10 (by decide) ?_
    refine rr_callP (rv := .int (bI (rrin y (nI 0) (nI 24)))) (pc := 12) (va_runS (As := [.int y, .int (nI 0), .int (nI 24)]) (rest := []) ⟨hx, hb, hml, hown, hts⟩ (c_X10_in l K y (nI 0) (nI 24)) (cwS 3 hts gX10_howMany_X10_in rfl rfl rfl (by decide +kernel) ⟨Nat.le_of_ble_eq_true rfl, Nat.le_of_ble_eq_true rfl⟩) (rr_preS hKK (trivial)) rfl rfl hl.1 rfl (lv_room (Nat.le_of_ble_eq_true rfl)) dX10_howMany_12 ⟨Nat.le_refl _, Nat.le_refl _⟩) ?_
    refine nv_if_ne_b (a := (rrin y (nI 0) (nI 24))) (tgt := 22) hx hb (pc := 15) dX10_howMany_15 (by decide) (fun c15 => ?_) (fun c15 => ?_)
    · have hns := hS9.1
      obtain ⟨j, hj6, rfl⟩ := isS_of (by omega) c5
      obtain ⟨s1j, s2j, s3j, s4j, s5j⟩ := hS9.2 j hj6
      have ecj : cN (nI j) = j := cN_nI (by omega)
      obtain ⟨b, hb1, hb2, rfl⟩ := rrin_Nat (by decide) (by decide) c15
      have ecb : cN (nI b) = b := cN_nI (by omega)
      have hlv := liveS_lt16 (k := kF j) (E := Es yF j) s4j
      have hc : (isS ns (nI j) && rrin (nI b) (nI 0) (nI 24)) = true := by rw [c5, c15]; rfl
      refine lv_aload_n hx hb (pc := 22) dX10_howMany_22 rfl (lv_at hl 0 rfl) ?_
      refine lv_iload_n hx hb (pc := 23) dX10_howMany_23 rfl (lv_at hl 1 rfl) ?_
      refine rr_callP (rv := .int (nI (liveS (kF j) (nF j) (Es yF j)))) (pc := 24) (va_runV (As := [.int (nI j)]) (rest := []) ⟨hx, hb, hml, hown, hts⟩ (c_X10_liveOf l K om ad ns wl nf wd mt kF nF yF WD FL FW TD RW pl nw xt vF wF qF bY gF nm xm fR oF hF dF j (by omega) s2j s4j s5j) (cwV 1 hts gX10_howMany_X10_liveOf rfl rfl rfl (by decide +kernel) ⟨Nat.le_of_ble_eq_true rfl, Nat.le_of_ble_eq_true rfl⟩) (rr_preV hKK (hP) (va_recv hKK.1 hP (ci := 10) (q0 := 0) rfl rfl)) rfl rfl hl.1 rfl (lv_room (Nat.le_of_ble_eq_true rfl)) dX10_howMany_24 ⟨Nat.le_refl _, Nat.le_refl _⟩) ?_
      refine lv_istore_n (lv' := [(3, .int (nI (liveS (kF j) (nF j) (Es yF j)))), (0, .ref om), (1, .int (nI j)), (2, .int (nI b))]) hx hb (pc := 27) dX10_howMany_27 rfl hl (by decide) rfl (fun ls hl => ?_)
      refine lv_iload_n hx hb (pc := 28) dX10_howMany_28 rfl (lv_at hl 0 rfl) ?_
      refine nv_if_eq (a := (liveS (kF j) (nF j) (Es yF j))) (tgt := 36) hx hb (pc := 29) dX10_howMany_29 (by decide) (by omega) (fun c29 => ?_) (fun c29 => ?_)
      · refine lv_iconst (v := nI 0) hx hb (pc := 36) dX10_howMany_36 (by decide) ?_
        refine lv_istore (lv' := [(4, .int (nI 0)), (3, .int (nI (liveS (kF j) (nF j) (Es yF j)))), (0, .ref om), (1, .int (nI j)), (2, .int (nI b))]) hx hb (pc := 37) dX10_howMany_37 hl (by decide) rfl (fun ls hl => ?_)
        refine lv_aload_n hx hb (pc := 39) dX10_howMany_39 rfl (lv_at hl 2 rfl) ?_
        refine va_get (v := .ref (ad 13)) hx hb hts (inX10_howMany_10) hown hKK.1 hP 0 rfl rfl 13 (by decide) (hts _ (List.mem_of_getElem? (i := 2) (by decide +kernel))) (fun _ h9 => h9) rfl (pc := 40) dX10_howMany_40 ?_
        refine lv_iconst (v := nI 0) hx hb (pc := 43) dX10_howMany_43 (by decide) ?_
        refine lv_iload_n hx hb (pc := 44) dX10_howMany_44 rfl (lv_at hl 1 rfl) ?_
        refine nv_iast (f := nw) (x := (liveS (kF j) (nF j) (Es yF j))) (ws' := XM K om ad ns wl nf wd mt kF nF yF WD FL FW TD RW pl (va_up nw 0 (liveS (kF j) (nF j) (Es yF j))) xt vF wF qF bY gF nm xm fR oF hF dF) (i := 0) hx hb hKK hP hD hS 10 rfl (by omega) (by decide) (rfl) (pc := 45) dX10_howMany_45 (fun H locs hP hD hS => ?_)
        refine lv_aload_n hx hb (pc := 46) dX10_howMany_46 rfl (lv_at hl 2 rfl) ?_
        refine va_get (v := .ref (ad 14)) hx hb hts (inX10_howMany_10) hown hKK.1 hP 0 rfl rfl 14 (by decide) (hts _ (List.mem_of_getElem? (i := 3) (by decide +kernel))) (fun _ h9 => h9) rfl (pc := 47) dX10_howMany_47 ?_
        refine lv_iconst (v := nI 0) hx hb (pc := 50) dX10_howMany_50 (by decide) ?_
        refine lv_lconst (v := lN 1) hx hb (pc := 51) dX10_howMany_51 (by decide) ?_
        refine nv_last (f := nm) (x := (lN 1)) (ws' := XM K om ad ns wl nf wd mt kF nF yF WD FL FW TD RW pl (va_up nw 0 (liveS (kF j) (nF j) (Es yF j))) xt vF wF qF bY gF (va_up nm 0 (lN 1)) xm fR oF hF dF) (i := 0) hx hb hKK hP hD hS 11 rfl (by omega) (by decide) (rfl) (pc := 52) dX10_howMany_52 (fun H locs hP hD hS => ?_)
        have hnw0 : ∀ i, i < (if (liveS (kF j) (nF j) (Es yF j)) = 0 then 0 else 1) → sub (va_up nw 0 (liveS (kF j) (nF j) (Es yF j)) i) (liveS (kF j) (nF j) (Es yF j)) := fun i hi => by
          have e : i = 0 := by split at hi <;> omega
          rw [e, va_up_self]; exact sub_refl _
        have hsm0 : sL (if (liveS (kF j) (nF j) (Es yF j)) = 0 then 0 else 1) (fun i => va_up nm 0 (lN 1) i * cntL (ldS (kF j) (nF j) (Es yF j) (liveS (kF j) (nF j) (Es yF j))) (kF j) (b - 0) (va_up nw 0 (liveS (kF j) (nF j) (Es yF j)) i)) = (if (liveS (kF j) (nF j) (Es yF j)) = 0 then 0 else cntL (ldS (kF j) (nF j) (Es yF j) (liveS (kF j) (nF j) (Es yF j))) (kF j) b (liveS (kF j) (nF j) (Es yF j))) := by
          by_cases e : (liveS (kF j) (nF j) (Es yF j)) = 0
          · rw [if_pos e, if_pos e]; rfl
          · rw [if_neg e, if_neg e, Nat.sub_zero]
            exact st_one (W := fun i => cntL (ldS (kF j) (nF j) (Es yF j) (liveS (kF j) (nF j) (Es yF j))) (kF j) b (va_up nw 0 (liveS (kF j) (nF j) (Es yF j)) i))
        first | rw [if_pos c29] at hnw0 hsm0 | rw [if_neg c29] at hnw0 hsm0
        refine lv_iconst (v := nI 0) hx hb (pc := 53) dX10_howMany_53 (by decide) ?_
        refine lv_istore (lv' := [(5, .int (nI 0)), (4, .int (nI 0)), (3, .int (nI (liveS (kF j) (nF j) (Es yF j)))), (0, .ref om), (1, .int (nI j)), (2, .int (nI b))]) hx hb (pc := 54) dX10_howMany_54 hl (by decide) rfl (fun ls hl => ?_)
        have L56 : ∀ (fz : Nat) (t : Nat) (N : Nat) (pl1 : Nat → Nat) (nw1 : Nat → Nat) (xt1 : Nat → Nat) (nm1 : Nat → Int64) (xm1 : Nat → Int64) (H : Heap) (locs : List Loc) (hP : va_P K.1 vwCl (XM K om ad ns wl nf wd mt kF nF yF WD FL FW TD RW pl1 nw1 xt1 vF wF qF bY gF nm1 xm1 fR oF hF dF) H) (hD : va_D A (XM K om ad ns wl nf wd mt kF nF yF WD FL FW TD RW pl1 nw1 xt1 vF wF qF bY gF nm1 xm1 fR oF hF dF)) (hS : va_S A s.heap H locs) (hfz : b - t < fz) (ht : t ≤ b) (hN : N ≤ 65535) (hpl1 : ∀ j, j < 65536 → pl1 j = 0) (hnw : ∀ i, i < N → sub (nw1 i) (liveS (kF j) (nF j) (Es yF j))) (hsm : sL N (fun i => nm1 i * cntL (ldS (kF j) (nF j) (Es yF j) (liveS (kF j) (nF j) (Es yF j))) (kF j) (b - t) (nw1 i)) = (if (liveS (kF j) (nF j) (Es yF j)) = 0 then 0 else cntL (ldS (kF j) (nF j) (Es yF j) (liveS (kF j) (nF j) (Es yF j))) (kF j) b (liveS (kF j) (nF j) (Es yF j)))) (ls : Array Slot) (hl : lv_has ls 10 [(0, .ref om), (1, .int (nI j)), (2, .int (nI b)), (3, .int (nI (liveS (kF j) (nF j) (Es yF j)))), (4, .int (nI N)), (5, .int (nI t))]), W p l e rmX10_howMany s m args below meth c H locs 0 0 Q (F0 m 56 ls []) := by
          intro fz; induction fz with
          | zero => intro t N pl1 nw1 xt1 nm1 xm1 H locs hP hD hS hfz ht hN hpl1 hnw hsm ls hl; exact absurd hfz (Nat.not_lt_zero _)
          | succ fz ih56 =>
            intro t N pl1 nw1 xt1 nm1 xm1 H locs hP hD hS hfz ht hN hpl1 hnw hsm ls hl
            refine lv_iload hx hb (pc := 56) dX10_howMany_56 (lv_at hl 5 rfl) ?_
            refine lv_iload_n hx hb (pc := 58) dX10_howMany_58 rfl (lv_at hl 2 rfl) ?_
            refine nv_icmp_ge (a := t) (b := b) (tgt := 253) hx hb (pc := 59) dX10_howMany_59 (by decide) (by omega) (by omega) (fun c59 => ?_) (fun c59 => ?_)
            · refine lv_lconst (v := 0) hx hb (pc := 253) dX10_howMany_253 (by decide) ?_
              refine lv_lstore (lv' := [(5, .long 0), (0, .ref om), (1, .int (nI j)), (2, .int (nI b)), (3, .int (nI (liveS (kF j) (nF j) (Es yF j)))), (4, .int (nI N))]) hx hb (pc := 254) dX10_howMany_254 hl (by decide) rfl (fun ls hl => ?_)
              refine lv_iconst (v := nI 0) hx hb (pc := 256) dX10_howMany_256 (by decide) ?_
              refine lv_istore (lv' := [(7, .int (nI 0)), (5, .long 0), (0, .ref om), (1, .int (nI j)), (2, .int (nI b)), (3, .int (nI (liveS (kF j) (nF j) (Es yF j)))), (4, .int (nI N))]) hx hb (pc := 257) dX10_howMany_257 hl (by decide) rfl (fun ls hl => ?_)
              have L259 : ∀ (fz : Nat) (i : Nat) (H : Heap) (locs : List Loc) (hP : va_P K.1 vwCl (XM K om ad ns wl nf wd mt kF nF yF WD FL FW TD RW pl1 nw1 xt1 vF wF qF bY gF nm1 xm1 fR oF hF dF) H) (hD : va_D A (XM K om ad ns wl nf wd mt kF nF yF WD FL FW TD RW pl1 nw1 xt1 vF wF qF bY gF nm1 xm1 fR oF hF dF)) (hS : va_S A s.heap H locs) (hfz : N - i < fz) (hi : i ≤ N) (ls : Array Slot) (hl : lv_has ls 10 [(0, .ref om), (4, .int (nI N)), (5, .long (sL i nm1)), (7, .int (nI i))]), W p l e rmX10_howMany s m args below meth c H locs 0 0 Q (F0 m 259 ls []) := by
                intro fz; induction fz with
                | zero => intro i H locs hP hD hS hfz hi ls hl; exact absurd hfz (Nat.not_lt_zero _)
                | succ fz ih259 =>
                  intro i H locs hP hD hS hfz hi ls hl
                  refine lv_iload hx hb (pc := 259) dX10_howMany_259 (lv_at hl 3 rfl) ?_
                  refine lv_iload hx hb (pc := 261) dX10_howMany_261 (lv_at hl 1 rfl) ?_
                  refine nv_icmp_ge (a := i) (b := N) (tgt := 284) hx hb (pc := 263) dX10_howMany_263 (by decide) (by omega) (by omega) (fun c263 => ?_) (fun c263 => ?_)
                  · refine lv_lload hx hb (pc := 284) dX10_howMany_284 (lv_at hl 2 rfl) ?_
                    have e9 : i = N := by omega
                    have e8 : t = b := by omega
                    rw [e8, Nat.sub_self] at hsm
                    exact hret.2.1 _ _ 0 0 286 _ (sL i nm1) dX10_howMany_286 (by omega) (by omega) hS (⟨by unfold hwmA; rw [if_pos hc, ecj, ecb, e9, ← hsm]; exact congrArg Value.long (sL_one N nm1).symm, _, _, _, _, _, hpl1, hP⟩) rfl
                  · refine lv_lload hx hb (pc := 266) dX10_howMany_266 (lv_at hl 2 rfl) ?_
                    refine lv_aload_n hx hb (pc := 268) dX10_howMany_268 rfl (lv_at hl 0 rfl) ?_
                    refine va_get (v := .ref (ad 14)) hx hb hts (inX10_howMany_10) hown hKK.1 hP 0 rfl rfl 14 (by decide) (hts _ (List.mem_of_getElem? (i := 3) (by decide +kernel))) (fun _ h9 => h9) rfl (pc := 269) dX10_howMany_269 ?_
                    refine lv_iload hx hb (pc := 272) dX10_howMany_272 (lv_at hl 3 rfl) ?_
                    refine nv_lald (v := nm1 i) (i := i) hx hb hKK hP 11 rfl (by omega) (by decide) (rfl) (pc := 274) dX10_howMany_274 ?_
                    refine lv_ladd hx hb (pc := 275) dX10_howMany_275 ?_
                    refine lv_lstore (lv' := [(5, .long ((sL i nm1) + (nm1 i))), (0, .ref om), (4, .int (nI N)), (7, .int (nI i))]) hx hb (pc := 276) dX10_howMany_276 hl (by decide) rfl (fun ls hl => ?_)
                    refine lv_iinc (v := nI (i + 1)) (lv' := [(7, .int (nI (i + 1))), (5, .long ((sL i nm1) + (nm1 i))), (0, .ref om), (4, .int (nI N))]) hx hb (pc := 278) dX10_howMany_278 hl (k := 3) rfl (rr_inc _) (by decide) rfl (fun ls hl => ?_)
                    refine lv_goto (tgt := 259) hx hb (pc := 281) dX10_howMany_281 (by decide) ?_
                    have hl : lv_has ls 10 [(7, .int (nI (i + 1))), (5, .long (sL (i + 1) nm1)), (0, .ref om), (4, .int (nI N))] := by rw [show sL (i + 1) nm1 = (sL i nm1) + (nm1 i) from rfl]; exact hl
                    exact ih259 (i + 1) _ _ hP hD hS (by omega) (by omega) ls (lv_sub hl [2, 3, 1, 0] rfl)
              have hl : lv_has ls 10 [(7, .int (nI 0)), (5, .long (sL 0 nm1)), (0, .ref om), (1, .int (nI j)), (2, .int (nI b)), (3, .int (nI (liveS (kF j) (nF j) (Es yF j)))), (4, .int (nI N))] := by rw [show sL 0 nm1 = 0 from rfl]; exact hl
              exact L259 (N + 1) 0 _ _ hP hD hS (by omega) (Nat.zero_le _) ls (lv_sub hl [2, 6, 1, 0] rfl)
            · refine lv_iconst (v := nI 0) hx hb (pc := 62) dX10_howMany_62 (by decide) ?_
              refine lv_istore (lv' := [(6, .int (nI 0)), (0, .ref om), (1, .int (nI j)), (2, .int (nI b)), (3, .int (nI (liveS (kF j) (nF j) (Es yF j)))), (4, .int (nI N)), (5, .int (nI t))]) hx hb (pc := 63) dX10_howMany_63 hl (by decide) rfl (fun ls hl => ?_)
              refine lv_iconst (v := nI 0) hx hb (pc := 65) dX10_howMany_65 (by decide) ?_
              refine lv_istore (lv' := [(7, .int (nI 0)), (6, .int (nI 0)), (0, .ref om), (1, .int (nI j)), (2, .int (nI b)), (3, .int (nI (liveS (kF j) (nF j) (Es yF j)))), (4, .int (nI N)), (5, .int (nI t))]) hx hb (pc := 66) dX10_howMany_66 hl (by decide) rfl (fun ls hl => ?_)
              have L68 : ∀ (fz : Nat) (q : Nat) (M : Nat) (pl1 : Nat → Nat) (xt1 : Nat → Nat) (xm1 : Nat → Int64) (H : Heap) (locs : List Loc) (hP : va_P K.1 vwCl (XM K om ad ns wl nf wd mt kF nF yF WD FL FW TD RW pl1 nw1 xt1 vF wF qF bY gF nm1 xm1 fR oF hF dF) H) (hD : va_D A (XM K om ad ns wl nf wd mt kF nF yF WD FL FW TD RW pl1 nw1 xt1 vF wF qF bY gF nm1 xm1 fR oF hF dF)) (hS : va_S A s.heap H locs) (hfz : N - q < fz) (hq : q ≤ N) (hplc : PLC pl1 xt1 M) (hxs : ∀ i, i < M → sub (xt1 i) (liveS (kF j) (nF j) (Es yF j))) (hsx : sL M (fun i => xm1 i * (cntL (ldS (kF j) (nF j) (Es yF j) (liveS (kF j) (nF j) (Es yF j))) (kF j) (b - t - 1)) (xt1 i)) = sL q (fun a => nm1 a * nx (ldS (kF j) (nF j) (Es yF j) (liveS (kF j) (nF j) (Es yF j))) (kF j) (cntL (ldS (kF j) (nF j) (Es yF j) (liveS (kF j) (nF j) (Es yF j))) (kF j) (b - t - 1)) (nw1 a))) (ls : Array Slot) (hl : lv_has ls 10 [(0, .ref om), (1, .int (nI j)), (2, .int (nI b)), (3, .int (nI (liveS (kF j) (nF j) (Es yF j)))), (4, .int (nI N)), (5, .int (nI t)), (6, .int (nI M)), (7, .int (nI q))]), W p l e rmX10_howMany s m args below meth c H locs 0 0 Q (F0 m 68 ls []) := by
                intro fz; induction fz with
                | zero => intro q M pl1 xt1 xm1 H locs hP hD hS hfz hq hplc hxs hsx ls hl; exact absurd hfz (Nat.not_lt_zero _)
                | succ fz ih68 =>
                  intro q M pl1 xt1 xm1 H locs hP hD hS hfz hq hplc hxs hsx ls hl
                  have hM5 := PLC_len hplc
                  refine lv_iload hx hb (pc := 68) dX10_howMany_68 (lv_at hl 7 rfl) ?_
                  refine lv_iload hx hb (pc := 70) dX10_howMany_70 (lv_at hl 4 rfl) ?_
                  refine nv_icmp_ge (a := q) (b := N) (tgt := 186) hx hb (pc := 72) dX10_howMany_72 (by decide) (by omega) (by omega) (fun c72 => ?_) (fun c72 => ?_)
                  · have e9 : q = N := by omega
                    have hsm9 : ∀ z, z = M → sL M (fun i => putZ nm1 xm1 z i * cntL (ldS (kF j) (nF j) (Es yF j) (liveS (kF j) (nF j) (Es yF j))) (kF j) (b - (t + 1)) (putZ nw1 xt1 z i)) = (if (liveS (kF j) (nF j) (Es yF j)) = 0 then 0 else cntL (ldS (kF j) (nF j) (Es yF j) (liveS (kF j) (nF j) (Es yF j))) (kF j) b (liveS (kF j) (nF j) (Es yF j))) := fun z hz => by
                      rw [sL_congr (g := fun i => xm1 i * (cntL (ldS (kF j) (nF j) (Es yF j) (liveS (kF j) (nF j) (Es yF j))) (kF j) (b - t - 1)) (xt1 i)) (fun i hi => by rw [putZ_in (by omega), putZ_in (by omega), show b - (t + 1) = b - t - 1 by omega]), hsx, e9, ← hsm]
                      exact sL_congr (fun i hi => by rw [show b - t = b - t - 1 + 1 by omega]; rfl)
                    refine lv_iconst (v := nI 0) hx hb (pc := 186) dX10_howMany_186 (by decide) ?_
                    refine lv_istore (lv' := [(7, .int (nI 0)), (0, .ref om), (1, .int (nI j)), (2, .int (nI b)), (3, .int (nI (liveS (kF j) (nF j) (Es yF j)))), (4, .int (nI N)), (5, .int (nI t)), (6, .int (nI M))]) hx hb (pc := 187) dX10_howMany_187 hl (by decide) rfl (fun ls hl => ?_)
                    have L189 : ∀ (fz : Nat) (i : Nat) (pl2 : Nat → Nat) (H : Heap) (locs : List Loc) (hP : va_P K.1 vwCl (XM K om ad ns wl nf wd mt kF nF yF WD FL FW TD RW pl2 (putZ nw1 xt1 i) xt1 vF wF qF bY gF (putZ nm1 xm1 i) xm1 fR oF hF dF) H) (hD : va_D A (XM K om ad ns wl nf wd mt kF nF yF WD FL FW TD RW pl2 (putZ nw1 xt1 i) xt1 vF wF qF bY gF (putZ nm1 xm1 i) xm1 fR oF hF dF)) (hS : va_S A s.heap H locs) (hfz : M - i < fz) (hi : i ≤ M) (hpl2 : ∀ a, a < 65536 → pl2 a = 0 ∨ ∃ z, i ≤ z ∧ z < M ∧ xt1 z = a) (ls : Array Slot) (hl : lv_has ls 10 [(0, .ref om), (1, .int (nI j)), (2, .int (nI b)), (3, .int (nI (liveS (kF j) (nF j) (Es yF j)))), (5, .int (nI t)), (6, .int (nI M)), (7, .int (nI i))]), W p l e rmX10_howMany s m args below meth c H locs 0 0 Q (F0 m 189 ls []) := by
                      intro fz; induction fz with
                      | zero => intro i pl2 H locs hP hD hS hfz hi hpl2 ls hl; exact absurd hfz (Nat.not_lt_zero _)
                      | succ fz ih189 =>
                        intro i pl2 H locs hP hD hS hfz hi hpl2 ls hl
                        refine lv_iload hx hb (pc := 189) dX10_howMany_189 (lv_at hl 6 rfl) ?_
                        refine lv_iload hx hb (pc := 191) dX10_howMany_191 (lv_at hl 5 rfl) ?_
                        refine nv_icmp_ge (a := i) (b := M) (tgt := 243) hx hb (pc := 193) dX10_howMany_193 (by decide) (by omega) (by omega) (fun c193 => ?_) (fun c193 => ?_)
                        · refine lv_iload hx hb (pc := 243) dX10_howMany_243 (lv_at hl 5 rfl) ?_
                          refine lv_istore (lv' := [(4, .int (nI M)), (0, .ref om), (1, .int (nI j)), (2, .int (nI b)), (3, .int (nI (liveS (kF j) (nF j) (Es yF j)))), (5, .int (nI t)), (6, .int (nI M)), (7, .int (nI i))]) hx hb (pc := 245) dX10_howMany_245 hl (by decide) rfl (fun ls hl => ?_)
                          refine lv_iinc (v := nI (t + 1)) (lv' := [(5, .int (nI (t + 1))), (4, .int (nI M)), (0, .ref om), (1, .int (nI j)), (2, .int (nI b)), (3, .int (nI (liveS (kF j) (nF j) (Es yF j)))), (6, .int (nI M)), (7, .int (nI i))]) hx hb (pc := 247) dX10_howMany_247 hl (k := 5) rfl (rr_inc _) (by decide) rfl (fun ls hl => ?_)
                          refine lv_goto (tgt := 56) hx hb (pc := 250) dX10_howMany_250 (by decide) ?_
                          have e7 : i = M := by omega
                          exact ih56 (t + 1) M pl2 (putZ nw1 xt1 i) xt1 (putZ nm1 xm1 i) xm1 _ _ hP hD hS (by omega) (by omega) (PLC_len hplc) (fun a ha => (hpl2 a ha).elim id (fun ⟨z, h1, h2, _⟩ => absurd h2 (by omega))) (fun a ha => by rw [putZ_in (by omega)]; exact hxs a ha) (hsm9 i e7) ls (lv_sub hl [2, 3, 4, 5, 1, 0] rfl)
                        · have hxi := (hplc.2 i (by omega)).1
                          refine lv_aload_n hx hb (pc := 196) dX10_howMany_196 rfl (lv_at hl 0 rfl) ?_
                          refine va_get (v := .ref (ad 13)) hx hb hts (inX10_howMany_10) hown hKK.1 hP 0 rfl rfl 13 (by decide) (hts _ (List.mem_of_getElem? (i := 2) (by decide +kernel))) (fun _ h9 => h9) rfl (pc := 197) dX10_howMany_197 ?_
                          refine lv_iload hx hb (pc := 200) dX10_howMany_200 (lv_at hl 6 rfl) ?_
                          refine lv_aload_n hx hb (pc := 202) dX10_howMany_202 rfl (lv_at hl 0 rfl) ?_
                          refine va_get (v := .ref (ad 15)) hx hb hts (inX10_howMany_10) hown hKK.1 hP 0 rfl rfl 15 (by decide) (hts _ (List.mem_of_getElem? (i := 6) (by decide +kernel))) (fun _ h9 => h9) rfl (pc := 203) dX10_howMany_203 ?_
                          refine lv_iload hx hb (pc := 206) dX10_howMany_206 (lv_at hl 6 rfl) ?_
                          refine nv_iald (v := nI (xt1 i)) (i := i) hx hb hKK hP 12 rfl (by omega) (by decide) (rfl) (pc := 208) dX10_howMany_208 ?_
                          refine nv_iast (f := (putZ nw1 xt1 i)) (x := (xt1 i)) (ws' := XM K om ad ns wl nf wd mt kF nF yF WD FL FW TD RW pl2 (va_up (putZ nw1 xt1 i) i (xt1 i)) xt1 vF wF qF bY gF (putZ nm1 xm1 i) xm1 fR oF hF dF) (i := i) hx hb hKK hP hD hS 10 rfl (by omega) (by decide) (rfl) (pc := 209) dX10_howMany_209 (fun H locs hP hD hS => ?_)
                          refine lv_aload_n hx hb (pc := 210) dX10_howMany_210 rfl (lv_at hl 0 rfl) ?_
                          refine va_get (v := .ref (ad 14)) hx hb hts (inX10_howMany_10) hown hKK.1 hP 0 rfl rfl 14 (by decide) (hts _ (List.mem_of_getElem? (i := 3) (by decide +kernel))) (fun _ h9 => h9) rfl (pc := 211) dX10_howMany_211 ?_
                          refine lv_iload hx hb (pc := 214) dX10_howMany_214 (lv_at hl 6 rfl) ?_
                          refine lv_aload_n hx hb (pc := 216) dX10_howMany_216 rfl (lv_at hl 0 rfl) ?_
                          refine va_get (v := .ref (ad 16)) hx hb hts (inX10_howMany_10) hown hKK.1 hP 0 rfl rfl 16 (by decide) (hts _ (List.mem_of_getElem? (i := 7) (by decide +kernel))) (fun _ h9 => h9) rfl (pc := 217) dX10_howMany_217 ?_
                          refine lv_iload hx hb (pc := 220) dX10_howMany_220 (lv_at hl 6 rfl) ?_
                          refine nv_lald (v := xm1 i) (i := i) hx hb hKK hP 13 rfl (by omega) (by decide) (rfl) (pc := 222) dX10_howMany_222 ?_
                          refine nv_last (f := (putZ nm1 xm1 i)) (x := (xm1 i)) (ws' := XM K om ad ns wl nf wd mt kF nF yF WD FL FW TD RW pl2 (va_up (putZ nw1 xt1 i) i (xt1 i)) xt1 vF wF qF bY gF (va_up (putZ nm1 xm1 i) i (xm1 i)) xm1 fR oF hF dF) (i := i) hx hb hKK hP hD hS 11 rfl (by omega) (by decide) (rfl) (pc := 223) dX10_howMany_223 (fun H locs hP hD hS => ?_)
                          refine lv_aload_n hx hb (pc := 224) dX10_howMany_224 rfl (lv_at hl 0 rfl) ?_
                          refine va_get (v := .ref (ad 12)) hx hb hts (inX10_howMany_10) hown hKK.1 hP 0 rfl rfl 12 (by decide) (hts _ (List.mem_of_getElem? (i := 5) (by decide +kernel))) (fun _ h9 => h9) rfl (pc := 225) dX10_howMany_225 ?_
                          refine lv_aload_n hx hb (pc := 228) dX10_howMany_228 rfl (lv_at hl 0 rfl) ?_
                          refine va_get (v := .ref (ad 15)) hx hb hts (inX10_howMany_10) hown hKK.1 hP 0 rfl rfl 15 (by decide) (hts _ (List.mem_of_getElem? (i := 6) (by decide +kernel))) (fun _ h9 => h9) rfl (pc := 229) dX10_howMany_229 ?_
                          refine lv_iload hx hb (pc := 232) dX10_howMany_232 (lv_at hl 6 rfl) ?_
                          refine nv_iald (v := nI (xt1 i)) (i := i) hx hb hKK hP 12 rfl (by omega) (by decide) (rfl) (pc := 234) dX10_howMany_234 ?_
                          refine lv_iconst (v := nI 0) hx hb (pc := 235) dX10_howMany_235 (by decide) ?_
                          refine nv_iast (f := pl2) (x := 0) (ws' := XM K om ad ns wl nf wd mt kF nF yF WD FL FW TD RW (va_up pl2 (xt1 i) 0) (va_up (putZ nw1 xt1 i) i (xt1 i)) xt1 vF wF qF bY gF (va_up (putZ nm1 xm1 i) i (xm1 i)) xm1 fR oF hF dF) (i := (xt1 i)) hx hb hKK hP hD hS 9 rfl (by omega) (by decide) (rfl) (pc := 236) dX10_howMany_236 (fun H locs hP hD hS => ?_)
                          refine lv_iinc (v := nI (i + 1)) (lv' := [(7, .int (nI (i + 1))), (0, .ref om), (1, .int (nI j)), (2, .int (nI b)), (3, .int (nI (liveS (kF j) (nF j) (Es yF j)))), (5, .int (nI t)), (6, .int (nI M))]) hx hb (pc := 237) dX10_howMany_237 hl (k := 6) rfl (rr_inc _) (by decide) rfl (fun ls hl => ?_)
                          refine lv_goto (tgt := 189) hx hb (pc := 240) dX10_howMany_240 (by decide) ?_
                          rw [putZ_step nw1 xt1 i, putZ_step nm1 xm1 i] at hP hD
                          have hpl3 : ∀ a, a < 65536 → va_up pl2 (xt1 i) 0 a = 0 ∨ ∃ z, i + 1 ≤ z ∧ z < M ∧ xt1 z = a := fun a ha => by
                            by_cases e : a = xt1 i
                            · rw [e, va_up_self]; exact Or.inl rfl
                            · rw [va_up_ne _ _ e]
                              rcases hpl2 a ha with w | ⟨z, h1, h2, h3⟩
                              · exact Or.inl w
                              · refine Or.inr ⟨z, ?_, h2, h3⟩
                                rcases Nat.lt_or_ge i z with w | w
                                · exact w
                                · exact absurd (by rw [← h3, show z = i by omega]) e
                          exact ih189 (i + 1) (va_up pl2 (xt1 i) 0) _ _ hP hD hS (by omega) (by omega) (hpl3) ls (lv_sub hl [1, 2, 3, 4, 5, 6, 0] rfl)
                    have hz1 := putZ_0 nw1 xt1
                    have hz2 := putZ_0 nm1 xm1
                    have hP : va_P K.1 vwCl (XM K om ad ns wl nf wd mt kF nF yF WD FL FW TD RW pl1 (putZ nw1 xt1 0) xt1 vF wF qF bY gF (putZ nm1 xm1 0) xm1 fR oF hF dF) H := by rw [hz1, hz2]; exact hP
                    have hD : va_D A (XM K om ad ns wl nf wd mt kF nF yF WD FL FW TD RW pl1 (putZ nw1 xt1 0) xt1 vF wF qF bY gF (putZ nm1 xm1 0) xm1 fR oF hF dF) := by rw [hz1, hz2]; exact hD
                    exact L189 (M + 1) 0 pl1 _ _ hP hD hS (by omega) (Nat.zero_le _) (fun a ha => (hplc.1 a ha).elim Or.inl (fun w => Or.inr ⟨pl1 a - 1, Nat.zero_le _, by omega, w.2.2⟩)) ls (lv_sub hl [1, 2, 3, 4, 6, 7, 0] rfl)
                  · have hsx0 : sL M (fun i => xm1 i * (cntL (ldS (kF j) (nF j) (Es yF j) (liveS (kF j) (nF j) (Es yF j))) (kF j) (b - t - 1)) (xt1 i)) = sL q (fun a => nm1 a * nx (ldS (kF j) (nF j) (Es yF j) (liveS (kF j) (nF j) (Es yF j))) (kF j) (cntL (ldS (kF j) (nF j) (Es yF j) (liveS (kF j) (nF j) (Es yF j))) (kF j) (b - t - 1)) (nw1 a)) + nm1 q * sL 0 (fun z => if (ldS (kF j) (nF j) (Es yF j) (liveS (kF j) (nF j) (Es yF j))) (nw1 q) z = 0 then 0 else (cntL (ldS (kF j) (nF j) (Es yF j) (liveS (kF j) (nF j) (Es yF j))) (kF j) (b - t - 1)) ((ldS (kF j) (nF j) (Es yF j) (liveS (kF j) (nF j) (Es yF j))) (nw1 q) z)) := by
                      rw [hsx, show sL 0 (fun z => if (ldS (kF j) (nF j) (Es yF j) (liveS (kF j) (nF j) (Es yF j))) (nw1 q) z = 0 then 0 else (cntL (ldS (kF j) (nF j) (Es yF j) (liveS (kF j) (nF j) (Es yF j))) (kF j) (b - t - 1)) ((ldS (kF j) (nF j) (Es yF j) (liveS (kF j) (nF j) (Es yF j))) (nw1 q) z)) = (0 : Int64) from rfl, Int64.mul_zero, Int64.add_zero]
                    refine lv_iconst (v := nI 0) hx hb (pc := 75) dX10_howMany_75 (by decide) ?_
                    refine lv_istore (lv' := [(8, .int (nI 0)), (0, .ref om), (1, .int (nI j)), (2, .int (nI b)), (3, .int (nI (liveS (kF j) (nF j) (Es yF j)))), (4, .int (nI N)), (5, .int (nI t)), (6, .int (nI M)), (7, .int (nI q))]) hx hb (pc := 76) dX10_howMany_76 hl (by decide) rfl (fun ls hl => ?_)
                    have L78 : ∀ (fz : Nat) (y9 : Nat) (M : Nat) (pl1 : Nat → Nat) (xt1 : Nat → Nat) (xm1 : Nat → Int64) (H : Heap) (locs : List Loc) (hP : va_P K.1 vwCl (XM K om ad ns wl nf wd mt kF nF yF WD FL FW TD RW pl1 nw1 xt1 vF wF qF bY gF nm1 xm1 fR oF hF dF) H) (hD : va_D A (XM K om ad ns wl nf wd mt kF nF yF WD FL FW TD RW pl1 nw1 xt1 vF wF qF bY gF nm1 xm1 fR oF hF dF)) (hS : va_S A s.heap H locs) (hfz : kF j - y9 < fz) (hy : y9 ≤ kF j) (hplc : PLC pl1 xt1 M) (hxs : ∀ i, i < M → sub (xt1 i) (liveS (kF j) (nF j) (Es yF j))) (hsx : sL M (fun i => xm1 i * (cntL (ldS (kF j) (nF j) (Es yF j) (liveS (kF j) (nF j) (Es yF j))) (kF j) (b - t - 1)) (xt1 i)) = sL q (fun a => nm1 a * nx (ldS (kF j) (nF j) (Es yF j) (liveS (kF j) (nF j) (Es yF j))) (kF j) (cntL (ldS (kF j) (nF j) (Es yF j) (liveS (kF j) (nF j) (Es yF j))) (kF j) (b - t - 1)) (nw1 a)) + nm1 q * sL y9 (fun z => if (ldS (kF j) (nF j) (Es yF j) (liveS (kF j) (nF j) (Es yF j))) (nw1 q) z = 0 then 0 else (cntL (ldS (kF j) (nF j) (Es yF j) (liveS (kF j) (nF j) (Es yF j))) (kF j) (b - t - 1)) ((ldS (kF j) (nF j) (Es yF j) (liveS (kF j) (nF j) (Es yF j))) (nw1 q) z))) (ls : Array Slot) (hl : lv_has ls 10 [(0, .ref om), (1, .int (nI j)), (2, .int (nI b)), (3, .int (nI (liveS (kF j) (nF j) (Es yF j)))), (4, .int (nI N)), (5, .int (nI t)), (6, .int (nI M)), (7, .int (nI q)), (8, .int (nI y9))]), W p l e rmX10_howMany s m args below meth c H locs 0 0 Q (F0 m 78 ls []) := by
                      intro fz; induction fz with
                      | zero => intro y9 M pl1 xt1 xm1 H locs hP hD hS hfz hy hplc hxs hsx ls hl; exact absurd hfz (Nat.not_lt_zero _)
                      | succ fz ih78 =>
                        intro y9 M pl1 xt1 xm1 H locs hP hD hS hfz hy hplc hxs hsx ls hl
                        have hM5 := PLC_len hplc
                        refine lv_iload hx hb (pc := 78) dX10_howMany_78 (lv_at hl 8 rfl) ?_
                        refine lv_aload_n hx hb (pc := 80) dX10_howMany_80 rfl (lv_at hl 0 rfl) ?_
                        refine va_get (v := .ref (ad 1)) hx hb hts (inX10_howMany_10) hown hKK.1 hP 0 rfl rfl 1 (by decide) (hts _ (List.mem_of_getElem? (i := 4) (by decide +kernel))) (fun _ h9 => h9) rfl (pc := 81) dX10_howMany_81 ?_
                        refine lv_iload_n hx hb (pc := 84) dX10_howMany_84 rfl (lv_at hl 1 rfl) ?_
                        refine nv_iald (v := nI (kF j)) (i := j) hx hb hKK hP 1 rfl (by omega) (by decide) (rfl) (pc := 85) dX10_howMany_85 ?_
                        refine nv_icmp_ge (a := y9) (b := (kF j)) (tgt := 180) hx hb (pc := 86) dX10_howMany_86 (by decide) (by omega) (by omega) (fun c86 => ?_) (fun c86 => ?_)
                        · refine lv_iinc (v := nI (q + 1)) (lv' := [(7, .int (nI (q + 1))), (0, .ref om), (1, .int (nI j)), (2, .int (nI b)), (3, .int (nI (liveS (kF j) (nF j) (Es yF j)))), (4, .int (nI N)), (5, .int (nI t)), (6, .int (nI M)), (8, .int (nI y9))]) hx hb (pc := 180) dX10_howMany_180 hl (k := 7) rfl (rr_inc _) (by decide) rfl (fun ls hl => ?_)
                          refine lv_goto (tgt := 68) hx hb (pc := 183) dX10_howMany_183 (by decide) ?_
                          have e7 : y9 = kF j := by omega
                          rw [e7] at hsx
                          exact ih68 (q + 1) M pl1 xt1 xm1 _ _ hP hD hS (by omega) (by omega) (hplc) (hxs) (md_end hsx) ls (lv_sub hl [1, 2, 3, 4, 5, 6, 7, 0] rfl)
                        · refine lv_aload_n hx hb (pc := 89) dX10_howMany_89 rfl (lv_at hl 0 rfl) ?_
                          refine lv_iload_n hx hb (pc := 90) dX10_howMany_90 rfl (lv_at hl 1 rfl) ?_
                          refine lv_iload_n hx hb (pc := 91) dX10_howMany_91 rfl (lv_at hl 3 rfl) ?_
                          refine lv_aload_n hx hb (pc := 92) dX10_howMany_92 rfl (lv_at hl 0 rfl) ?_
                          refine va_get (v := .ref (ad 13)) hx hb hts (inX10_howMany_10) hown hKK.1 hP 0 rfl rfl 13 (by decide) (hts _ (List.mem_of_getElem? (i := 2) (by decide +kernel))) (fun _ h9 => h9) rfl (pc := 93) dX10_howMany_93 ?_
                          refine lv_iload hx hb (pc := 96) dX10_howMany_96 (lv_at hl 7 rfl) ?_
                          refine nv_iald (v := nI (nw1 q)) (i := q) hx hb hKK hP 10 rfl (by omega) (by decide) (rfl) (pc := 98) dX10_howMany_98 ?_
                          refine lv_iload hx hb (pc := 99) dX10_howMany_99 (lv_at hl 8 rfl) ?_
                          have hnq := Nat.lt_of_le_of_lt (sub_le (hnw q (by omega))) hlv
                          refine rr_callP (rv := .int (nI (ldS (kF j) (nF j) (Es yF j) (liveS (kF j) (nF j) (Es yF j)) (nw1 q) y9))) (pc := 101) (va_runV (As := [.int (nI j), .int (nI (liveS (kF j) (nF j) (Es yF j))), .int (nI (nw1 q)), .int (nI y9)]) (rest := []) ⟨hx, hb, hml, hown, hts⟩ (c_X10_lead l K om ad ns wl nf wd mt kF nF yF WD FL FW TD RW pl1 nw1 xt1 vF wF qF bY gF nm1 xm1 fR oF hF dF j (liveS (kF j) (nF j) (Es yF j)) (nw1 q) y9 (by omega) s2j s4j s5j (by omega) (by omega)) (cwV 4 hts gX10_howMany_X10_lead rfl rfl rfl (by decide +kernel) ⟨Nat.le_of_ble_eq_true rfl, Nat.le_of_ble_eq_true rfl⟩) (rr_preV hKK (hP) (va_recv hKK.1 hP (ci := 10) (q0 := 0) rfl rfl)) rfl rfl hl.1 rfl (lv_room (Nat.le_of_ble_eq_true rfl)) dX10_howMany_101 ⟨Nat.le_refl _, Nat.le_refl _⟩) ?_
                          obtain ⟨to, hto⟩ : ∃ to, to = ldS (kF j) (nF j) (Es yF j) (liveS (kF j) (nF j) (Es yF j)) (nw1 q) y9 := ⟨_, rfl⟩
                          have htos : sub to (liveS (kF j) (nF j) (Es yF j)) := by rw [hto]; exact ldS_sub _ _ _ _ _ _
                          have hto6 := Nat.lt_of_le_of_lt (sub_le htos) hlv
                          refine rr_top (v := .int (nI to)) (by rw [hto]) ?_
                          refine lv_istore (lv' := [(9, .int (nI to)), (0, .ref om), (1, .int (nI j)), (2, .int (nI b)), (3, .int (nI (liveS (kF j) (nF j) (Es yF j)))), (4, .int (nI N)), (5, .int (nI t)), (6, .int (nI M)), (7, .int (nI q)), (8, .int (nI y9))]) hx hb (pc := 104) dX10_howMany_104 hl (by decide) rfl (fun ls hl => ?_)
                          refine lv_iload hx hb (pc := 106) dX10_howMany_106 (lv_at hl 0 rfl) ?_
                          refine nv_if_eq (a := to) (tgt := 174) hx hb (pc := 108) dX10_howMany_108 (by decide) (by omega) (fun c108 => ?_) (fun c108 => ?_)
                          · have hsxZ : sL M (fun i => xm1 i * (cntL (ldS (kF j) (nF j) (Es yF j) (liveS (kF j) (nF j) (Es yF j))) (kF j) (b - t - 1)) (xt1 i)) = sL q (fun a => nm1 a * nx (ldS (kF j) (nF j) (Es yF j) (liveS (kF j) (nF j) (Es yF j))) (kF j) (cntL (ldS (kF j) (nF j) (Es yF j) (liveS (kF j) (nF j) (Es yF j))) (kF j) (b - t - 1)) (nw1 a)) + nm1 q * sL (y9 + 1) (fun z => if (ldS (kF j) (nF j) (Es yF j) (liveS (kF j) (nF j) (Es yF j))) (nw1 q) z = 0 then 0 else (cntL (ldS (kF j) (nF j) (Es yF j) (liveS (kF j) (nF j) (Es yF j))) (kF j) (b - t - 1)) ((ldS (kF j) (nF j) (Es yF j) (liveS (kF j) (nF j) (Es yF j))) (nw1 q) z)) := by
                              rw [hsx, sL_succ, if_pos (hto ▸ c108), Int64.add_zero]
                            refine lv_iinc (v := nI (y9 + 1)) (lv' := [(8, .int (nI (y9 + 1))), (9, .int (nI to)), (0, .ref om), (1, .int (nI j)), (2, .int (nI b)), (3, .int (nI (liveS (kF j) (nF j) (Es yF j)))), (4, .int (nI N)), (5, .int (nI t)), (6, .int (nI M)), (7, .int (nI q))]) hx hb (pc := 174) dX10_howMany_174 hl (k := 9) rfl (rr_inc _) (by decide) rfl (fun ls hl => ?_)
                            refine lv_goto (tgt := 78) hx hb (pc := 177) dX10_howMany_177 (by decide) ?_
                            exact ih78 (y9 + 1) M pl1 xt1 xm1 _ _ hP hD hS (by omega) (by omega) (by first | exact hplcN | exact hplc) (by first | exact hxsN | exact hxs) (by first | exact hsxN | exact hsxO | exact hsxZ) ls (lv_sub hl [2, 3, 4, 5, 6, 7, 8, 9, 0] rfl)
                          · have ht0 : ldS (kF j) (nF j) (Es yF j) (liveS (kF j) (nF j) (Es yF j)) (nw1 q) y9 ≠ 0 := hto ▸ c108
                            refine lv_aload_n hx hb (pc := 111) dX10_howMany_111 rfl (lv_at hl 1 rfl) ?_
                            refine va_get (v := .ref (ad 12)) hx hb hts (inX10_howMany_10) hown hKK.1 hP 0 rfl rfl 12 (by decide) (hts _ (List.mem_of_getElem? (i := 5) (by decide +kernel))) (fun _ h9 => h9) rfl (pc := 112) dX10_howMany_112 ?_
                            refine lv_iload hx hb (pc := 115) dX10_howMany_115 (lv_at hl 0 rfl) ?_
                            refine nv_iald (v := nI (pl1 to)) (i := to) hx hb hKK hP 9 rfl (by omega) (by decide) (rfl) (pc := 117) dX10_howMany_117 ?_
                            have hpt : pl1 to ≤ M := (hplc.1 to hto6).elim (fun w => by omega) (fun w => w.2.1)
                            refine nv_if_ne (a := (pl1 to)) (tgt := 150) hx hb (pc := 118) dX10_howMany_118 (by decide) (by omega) (fun c118 => ?_) (fun c118 => ?_)
                            · refine lv_aload_n hx hb (pc := 150) dX10_howMany_150 rfl (lv_at hl 1 rfl) ?_
                              refine va_get (v := .ref (ad 16)) hx hb hts (inX10_howMany_10) hown hKK.1 hP 0 rfl rfl 16 (by decide) (hts _ (List.mem_of_getElem? (i := 7) (by decide +kernel))) (fun _ h9 => h9) rfl (pc := 151) dX10_howMany_151 ?_
                              refine lv_aload_n hx hb (pc := 154) dX10_howMany_154 rfl (lv_at hl 1 rfl) ?_
                              refine va_get (v := .ref (ad 12)) hx hb hts (inX10_howMany_10) hown hKK.1 hP 0 rfl rfl 12 (by decide) (hts _ (List.mem_of_getElem? (i := 5) (by decide +kernel))) (fun _ h9 => h9) rfl (pc := 155) dX10_howMany_155 ?_
                              refine lv_iload hx hb (pc := 158) dX10_howMany_158 (lv_at hl 0 rfl) ?_
                              refine nv_iald (v := nI (pl1 to)) (i := to) hx hb hKK hP 9 rfl (by omega) (by decide) (rfl) (pc := 160) dX10_howMany_160 ?_
                              refine lv_iconst (v := nI 1) hx hb (pc := 161) dX10_howMany_161 (by decide) ?_
                              obtain ⟨g1, g2, g3⟩ := PLC_get hplc hto6 c118
                              refine nv_isub (a := (pl1 to)) (b := 1) hx hb (pc := 162) dX10_howMany_162 (by omega) ?_
                              first
                              | have hsxO := md_yes (sb := (ldS (kF j) (nF j) (Es yF j) (liveS (kF j) (nF j) (Es yF j)))) (x := nm1 q) (S := nw1 q) (y := y9) g2 (g3.trans hto) ht0 hsx
                              | skip
                              refine lv_dup2_11 hx hb (pc := 163) dX10_howMany_163 rfl rfl ?_
                              refine nv_lald (v := xm1 ((pl1 to) - 1)) (i := ((pl1 to) - 1)) hx hb hKK hP 13 rfl (by omega) (by decide) (rfl) (pc := 164) dX10_howMany_164 ?_
                              refine lv_aload_n hx hb (pc := 165) dX10_howMany_165 rfl (lv_at hl 1 rfl) ?_
                              refine va_get (v := .ref (ad 14)) hx hb hts (inX10_howMany_10) hown hKK.1 hP 0 rfl rfl 14 (by decide) (hts _ (List.mem_of_getElem? (i := 3) (by decide +kernel))) (fun _ h9 => h9) rfl (pc := 166) dX10_howMany_166 ?_
                              refine lv_iload hx hb (pc := 169) dX10_howMany_169 (lv_at hl 8 rfl) ?_
                              refine nv_lald (v := nm1 q) (i := q) hx hb hKK hP 11 rfl (by omega) (by decide) (rfl) (pc := 171) dX10_howMany_171 ?_
                              refine lv_ladd hx hb (pc := 172) dX10_howMany_172 ?_
                              refine nv_last (f := xm1) (x := ((xm1 ((pl1 to) - 1)) + (nm1 q))) (ws' := XM K om ad ns wl nf wd mt kF nF yF WD FL FW TD RW pl1 nw1 xt1 vF wF qF bY gF nm1 (va_up xm1 ((pl1 to) - 1) ((xm1 ((pl1 to) - 1)) + (nm1 q))) fR oF hF dF) (i := ((pl1 to) - 1)) hx hb hKK hP hD hS 13 rfl (by omega) (by decide) (rfl) (pc := 173) dX10_howMany_173 (fun H locs hP hD hS => ?_)
                              refine lv_iinc (v := nI (y9 + 1)) (lv' := [(8, .int (nI (y9 + 1))), (9, .int (nI to)), (0, .ref om), (1, .int (nI j)), (2, .int (nI b)), (3, .int (nI (liveS (kF j) (nF j) (Es yF j)))), (4, .int (nI N)), (5, .int (nI t)), (6, .int (nI M)), (7, .int (nI q))]) hx hb (pc := 174) dX10_howMany_174 hl (k := 9) rfl (rr_inc _) (by decide) rfl (fun ls hl => ?_)
                              refine lv_goto (tgt := 78) hx hb (pc := 177) dX10_howMany_177 (by decide) ?_
                              exact ih78 (y9 + 1) M pl1 xt1 (va_up xm1 ((pl1 to) - 1) ((xm1 ((pl1 to) - 1)) + (nm1 q))) _ _ hP hD hS (by omega) (by omega) (by first | exact hplcN | exact hplc) (by first | exact hxsN | exact hxs) (by first | exact hsxN | exact hsxO | exact hsxZ) ls (lv_sub hl [2, 3, 4, 5, 6, 7, 8, 9, 0] rfl)
                            · refine lv_aload_n hx hb (pc := 121) dX10_howMany_121 rfl (lv_at hl 1 rfl) ?_
                              refine va_get (v := .ref (ad 15)) hx hb hts (inX10_howMany_10) hown hKK.1 hP 0 rfl rfl 15 (by decide) (hts _ (List.mem_of_getElem? (i := 6) (by decide +kernel))) (fun _ h9 => h9) rfl (pc := 122) dX10_howMany_122 ?_
                              refine lv_iload hx hb (pc := 125) dX10_howMany_125 (lv_at hl 7 rfl) ?_
                              refine lv_iload hx hb (pc := 127) dX10_howMany_127 (lv_at hl 0 rfl) ?_
                              refine nv_iast (f := xt1) (x := to) (ws' := XM K om ad ns wl nf wd mt kF nF yF WD FL FW TD RW pl1 nw1 (va_up xt1 M to) vF wF qF bY gF nm1 xm1 fR oF hF dF) (i := M) hx hb hKK hP hD hS 12 rfl (by omega) (by decide) (rfl) (pc := 129) dX10_howMany_129 (fun H locs hP hD hS => ?_)
                              refine lv_aload_n hx hb (pc := 130) dX10_howMany_130 rfl (lv_at hl 1 rfl) ?_
                              refine va_get (v := .ref (ad 16)) hx hb hts (inX10_howMany_10) hown hKK.1 hP 0 rfl rfl 16 (by decide) (hts _ (List.mem_of_getElem? (i := 7) (by decide +kernel))) (fun _ h9 => h9) rfl (pc := 131) dX10_howMany_131 ?_
                              refine lv_iload hx hb (pc := 134) dX10_howMany_134 (lv_at hl 7 rfl) ?_
                              refine lv_lconst (v := lN 0) hx hb (pc := 136) dX10_howMany_136 (by decide) ?_
                              refine nv_last (f := xm1) (x := (lN 0)) (ws' := XM K om ad ns wl nf wd mt kF nF yF WD FL FW TD RW pl1 nw1 (va_up xt1 M to) vF wF qF bY gF nm1 (va_up xm1 M (lN 0)) fR oF hF dF) (i := M) hx hb hKK hP hD hS 13 rfl (by omega) (by decide) (rfl) (pc := 137) dX10_howMany_137 (fun H locs hP hD hS => ?_)
                              refine lv_iinc (v := nI (M + 1)) (lv' := [(6, .int (nI (M + 1))), (9, .int (nI to)), (0, .ref om), (1, .int (nI j)), (2, .int (nI b)), (3, .int (nI (liveS (kF j) (nF j) (Es yF j)))), (4, .int (nI N)), (5, .int (nI t)), (7, .int (nI q)), (8, .int (nI y9))]) hx hb (pc := 138) dX10_howMany_138 hl (k := 7) rfl (rr_inc _) (by decide) rfl (fun ls hl => ?_)
                              refine lv_aload_n hx hb (pc := 141) dX10_howMany_141 rfl (lv_at hl 2 rfl) ?_
                              refine va_get (v := .ref (ad 12)) hx hb hts (inX10_howMany_10) hown hKK.1 hP 0 rfl rfl 12 (by decide) (hts _ (List.mem_of_getElem? (i := 5) (by decide +kernel))) (fun _ h9 => h9) rfl (pc := 142) dX10_howMany_142 ?_
                              refine lv_iload hx hb (pc := 145) dX10_howMany_145 (lv_at hl 1 rfl) ?_
                              refine lv_iload hx hb (pc := 147) dX10_howMany_147 (lv_at hl 0 rfl) ?_
                              refine nv_iast (f := pl1) (x := (M + 1)) (ws' := XM K om ad ns wl nf wd mt kF nF yF WD FL FW TD RW (va_up pl1 to (M + 1)) nw1 (va_up xt1 M to) vF wF qF bY gF nm1 (va_up xm1 M (lN 0)) fR oF hF dF) (i := to) hx hb hKK hP hD hS 9 rfl (by omega) (by decide) (rfl) (pc := 149) dX10_howMany_149 (fun H locs hP hD hS => ?_)
                              have hplcN := PLC_add hplc hto6 c108 c118
                              have hxsN : ∀ i, i < M + 1 → sub (va_up xt1 M to i) (liveS (kF j) (nF j) (Es yF j)) := fun i hi => by
                                by_cases e : i = M
                                · rw [e, va_up_self]; exact htos
                                · rw [va_up_ne _ _ e]; exact hxs i (by omega)
                              have hsxA : sL (M + 1) (fun i => (va_up xm1 M (lN 0)) i * (cntL (ldS (kF j) (nF j) (Es yF j) (liveS (kF j) (nF j) (Es yF j))) (kF j) (b - t - 1)) ((va_up xt1 M to) i)) = sL q (fun a => nm1 a * nx (ldS (kF j) (nF j) (Es yF j) (liveS (kF j) (nF j) (Es yF j))) (kF j) (cntL (ldS (kF j) (nF j) (Es yF j) (liveS (kF j) (nF j) (Es yF j))) (kF j) (b - t - 1)) (nw1 a)) + nm1 q * sL y9 (fun z => if (ldS (kF j) (nF j) (Es yF j) (liveS (kF j) (nF j) (Es yF j))) (nw1 q) z = 0 then 0 else (cntL (ldS (kF j) (nF j) (Es yF j) (liveS (kF j) (nF j) (Es yF j))) (kF j) (b - t - 1)) ((ldS (kF j) (nF j) (Es yF j) (liveS (kF j) (nF j) (Es yF j))) (nw1 q) z)) := by rw [md_new]; exact hsx
                              have hsxN := md_yes (sb := (ldS (kF j) (nF j) (Es yF j) (liveS (kF j) (nF j) (Es yF j)))) (x := nm1 q) (S := nw1 q) (y := y9) (Nat.lt_succ_self M) (by rw [va_up_self, hto]) ht0 hsxA
                              refine lv_aload_n hx hb (pc := 150) dX10_howMany_150 rfl (lv_at hl 2 rfl) ?_
                              refine va_get (v := .ref (ad 16)) hx hb hts (inX10_howMany_10) hown hKK.1 hP 0 rfl rfl 16 (by decide) (hts _ (List.mem_of_getElem? (i := 7) (by decide +kernel))) (fun _ h9 => h9) rfl (pc := 151) dX10_howMany_151 ?_
                              refine lv_aload_n hx hb (pc := 154) dX10_howMany_154 rfl (lv_at hl 2 rfl) ?_
                              refine va_get (v := .ref (ad 12)) hx hb hts (inX10_howMany_10) hown hKK.1 hP 0 rfl rfl 12 (by decide) (hts _ (List.mem_of_getElem? (i := 5) (by decide +kernel))) (fun _ h9 => h9) rfl (pc := 155) dX10_howMany_155 ?_
                              refine lv_iload hx hb (pc := 158) dX10_howMany_158 (lv_at hl 1 rfl) ?_
                              refine nv_iald (v := nI (M + 1)) (i := to) hx hb hKK hP 9 rfl (by omega) (by decide) (congrArg nI (va_up_self _ _ _)) (pc := 160) dX10_howMany_160 ?_
                              refine lv_iconst (v := nI 1) hx hb (pc := 161) dX10_howMany_161 (by decide) ?_
                              refine nv_isub (a := (M + 1)) (b := 1) hx hb (pc := 162) dX10_howMany_162 (by omega) ?_
                              first
                              | have hsxO := md_yes (sb := (ldS (kF j) (nF j) (Es yF j) (liveS (kF j) (nF j) (Es yF j)))) (x := nm1 q) (S := nw1 q) (y := y9) g2 (g3.trans hto) ht0 hsx
                              | skip
                              refine rr_top (v := .int (nI M)) (by rw [Nat.add_sub_cancel]) ?_
                              refine lv_dup2_11 hx hb (pc := 163) dX10_howMany_163 rfl rfl ?_
                              refine nv_lald (v := (va_up xm1 M (lN 0)) M) (i := M) hx hb hKK hP 13 rfl (by omega) (by decide) (rfl) (pc := 164) dX10_howMany_164 ?_
                              refine lv_aload_n hx hb (pc := 165) dX10_howMany_165 rfl (lv_at hl 2 rfl) ?_
                              refine va_get (v := .ref (ad 14)) hx hb hts (inX10_howMany_10) hown hKK.1 hP 0 rfl rfl 14 (by decide) (hts _ (List.mem_of_getElem? (i := 3) (by decide +kernel))) (fun _ h9 => h9) rfl (pc := 166) dX10_howMany_166 ?_
                              refine lv_iload hx hb (pc := 169) dX10_howMany_169 (lv_at hl 8 rfl) ?_
                              refine nv_lald (v := nm1 q) (i := q) hx hb hKK hP 11 rfl (by omega) (by decide) (rfl) (pc := 171) dX10_howMany_171 ?_
                              refine lv_ladd hx hb (pc := 172) dX10_howMany_172 ?_
                              refine nv_last (f := (va_up xm1 M (lN 0))) (x := (((va_up xm1 M (lN 0)) M) + (nm1 q))) (ws' := XM K om ad ns wl nf wd mt kF nF yF WD FL FW TD RW (va_up pl1 to (M + 1)) nw1 (va_up xt1 M to) vF wF qF bY gF nm1 (va_up (va_up xm1 M (lN 0)) M (((va_up xm1 M (lN 0)) M) + (nm1 q))) fR oF hF dF) (i := M) hx hb hKK hP hD hS 13 rfl (by omega) (by decide) (rfl) (pc := 173) dX10_howMany_173 (fun H locs hP hD hS => ?_)
                              refine lv_iinc (v := nI (y9 + 1)) (lv' := [(8, .int (nI (y9 + 1))), (6, .int (nI (M + 1))), (9, .int (nI to)), (0, .ref om), (1, .int (nI j)), (2, .int (nI b)), (3, .int (nI (liveS (kF j) (nF j) (Es yF j)))), (4, .int (nI N)), (5, .int (nI t)), (7, .int (nI q))]) hx hb (pc := 174) dX10_howMany_174 hl (k := 9) rfl (rr_inc _) (by decide) rfl (fun ls hl => ?_)
                              refine lv_goto (tgt := 78) hx hb (pc := 177) dX10_howMany_177 (by decide) ?_
                              exact ih78 (y9 + 1) (M + 1) (va_up pl1 to (M + 1)) (va_up xt1 M to) (va_up (va_up xm1 M (lN 0)) M (((va_up xm1 M (lN 0)) M) + (nm1 q))) _ _ hP hD hS (by omega) (by omega) (by first | exact hplcN | exact hplc) (by first | exact hxsN | exact hxs) (by first | exact hsxN | exact hsxO | exact hsxZ) ls (lv_sub hl [3, 4, 5, 6, 7, 8, 1, 9, 0] rfl)
                    exact L78 (5) 0 M pl1 xt1 xm1 _ _ hP hD hS (by omega) (Nat.zero_le _) (hplc) (hxs) (hsx0) ls (lv_sub hl [1, 2, 3, 4, 5, 6, 7, 8, 0] rfl)
              exact L68 (N + 1) 0 0 pl1 xt1 xm1 _ _ hP hD hS (by omega) (Nat.zero_le _) (PLC_0 hpl1) (fun i hi => absurd hi (Nat.not_lt_zero _)) (rfl) ls (lv_sub hl [2, 3, 4, 5, 6, 7, 1, 0] rfl)
        exact L56 (25) 0 0 pl (va_up nw 0 (liveS (kF j) (nF j) (Es yF j))) xt (va_up nm 0 (lN 1)) xm _ _ hP hD hS (by omega) (Nat.zero_le _) (by decide) (hpl) (hnw0) (hsm0) ls (lv_sub hl [3, 4, 5, 2, 1, 0] rfl)
      · refine lv_iconst (v := nI 1) hx hb (pc := 32) dX10_howMany_32 (by decide) ?_
        refine lv_goto (tgt := 37) hx hb (pc := 33) dX10_howMany_33 (by decide) ?_
        refine lv_istore (lv' := [(4, .int (nI 1)), (3, .int (nI (liveS (kF j) (nF j) (Es yF j)))), (0, .ref om), (1, .int (nI j)), (2, .int (nI b))]) hx hb (pc := 37) dX10_howMany_37 hl (by decide) rfl (fun ls hl => ?_)
        refine lv_aload_n hx hb (pc := 39) dX10_howMany_39 rfl (lv_at hl 2 rfl) ?_
        refine va_get (v := .ref (ad 13)) hx hb hts (inX10_howMany_10) hown hKK.1 hP 0 rfl rfl 13 (by decide) (hts _ (List.mem_of_getElem? (i := 2) (by decide +kernel))) (fun _ h9 => h9) rfl (pc := 40) dX10_howMany_40 ?_
        refine lv_iconst (v := nI 0) hx hb (pc := 43) dX10_howMany_43 (by decide) ?_
        refine lv_iload_n hx hb (pc := 44) dX10_howMany_44 rfl (lv_at hl 1 rfl) ?_
        refine nv_iast (f := nw) (x := (liveS (kF j) (nF j) (Es yF j))) (ws' := XM K om ad ns wl nf wd mt kF nF yF WD FL FW TD RW pl (va_up nw 0 (liveS (kF j) (nF j) (Es yF j))) xt vF wF qF bY gF nm xm fR oF hF dF) (i := 0) hx hb hKK hP hD hS 10 rfl (by omega) (by decide) (rfl) (pc := 45) dX10_howMany_45 (fun H locs hP hD hS => ?_)
        refine lv_aload_n hx hb (pc := 46) dX10_howMany_46 rfl (lv_at hl 2 rfl) ?_
        refine va_get (v := .ref (ad 14)) hx hb hts (inX10_howMany_10) hown hKK.1 hP 0 rfl rfl 14 (by decide) (hts _ (List.mem_of_getElem? (i := 3) (by decide +kernel))) (fun _ h9 => h9) rfl (pc := 47) dX10_howMany_47 ?_
        refine lv_iconst (v := nI 0) hx hb (pc := 50) dX10_howMany_50 (by decide) ?_
        refine lv_lconst (v := lN 1) hx hb (pc := 51) dX10_howMany_51 (by decide) ?_
        refine nv_last (f := nm) (x := (lN 1)) (ws' := XM K om ad ns wl nf wd mt kF nF yF WD FL FW TD RW pl (va_up nw 0 (liveS (kF j) (nF j) (Es yF j))) xt vF wF qF bY gF (va_up nm 0 (lN 1)) xm fR oF hF dF) (i := 0) hx hb hKK hP hD hS 11 rfl (by omega) (by decide) (rfl) (pc := 52) dX10_howMany_52 (fun H locs hP hD hS => ?_)
        have hnw0 : ∀ i, i < (if (liveS (kF j) (nF j) (Es yF j)) = 0 then 0 else 1) → sub (va_up nw 0 (liveS (kF j) (nF j) (Es yF j)) i) (liveS (kF j) (nF j) (Es yF j)) := fun i hi => by
          have e : i = 0 := by split at hi <;> omega
          rw [e, va_up_self]; exact sub_refl _
        have hsm0 : sL (if (liveS (kF j) (nF j) (Es yF j)) = 0 then 0 else 1) (fun i => va_up nm 0 (lN 1) i * cntL (ldS (kF j) (nF j) (Es yF j) (liveS (kF j) (nF j) (Es yF j))) (kF j) (b - 0) (va_up nw 0 (liveS (kF j) (nF j) (Es yF j)) i)) = (if (liveS (kF j) (nF j) (Es yF j)) = 0 then 0 else cntL (ldS (kF j) (nF j) (Es yF j) (liveS (kF j) (nF j) (Es yF j))) (kF j) b (liveS (kF j) (nF j) (Es yF j))) := by
          by_cases e : (liveS (kF j) (nF j) (Es yF j)) = 0
          · rw [if_pos e, if_pos e]; rfl
          · rw [if_neg e, if_neg e, Nat.sub_zero]
            exact st_one (W := fun i => cntL (ldS (kF j) (nF j) (Es yF j) (liveS (kF j) (nF j) (Es yF j))) (kF j) b (va_up nw 0 (liveS (kF j) (nF j) (Es yF j)) i))
        first | rw [if_pos c29] at hnw0 hsm0 | rw [if_neg c29] at hnw0 hsm0
        refine lv_iconst (v := nI 0) hx hb (pc := 53) dX10_howMany_53 (by decide) ?_
        refine lv_istore (lv' := [(5, .int (nI 0)), (4, .int (nI 1)), (3, .int (nI (liveS (kF j) (nF j) (Es yF j)))), (0, .ref om), (1, .int (nI j)), (2, .int (nI b))]) hx hb (pc := 54) dX10_howMany_54 hl (by decide) rfl (fun ls hl => ?_)
        have L56 : ∀ (fz : Nat) (t : Nat) (N : Nat) (pl1 : Nat → Nat) (nw1 : Nat → Nat) (xt1 : Nat → Nat) (nm1 : Nat → Int64) (xm1 : Nat → Int64) (H : Heap) (locs : List Loc) (hP : va_P K.1 vwCl (XM K om ad ns wl nf wd mt kF nF yF WD FL FW TD RW pl1 nw1 xt1 vF wF qF bY gF nm1 xm1 fR oF hF dF) H) (hD : va_D A (XM K om ad ns wl nf wd mt kF nF yF WD FL FW TD RW pl1 nw1 xt1 vF wF qF bY gF nm1 xm1 fR oF hF dF)) (hS : va_S A s.heap H locs) (hfz : b - t < fz) (ht : t ≤ b) (hN : N ≤ 65535) (hpl1 : ∀ j, j < 65536 → pl1 j = 0) (hnw : ∀ i, i < N → sub (nw1 i) (liveS (kF j) (nF j) (Es yF j))) (hsm : sL N (fun i => nm1 i * cntL (ldS (kF j) (nF j) (Es yF j) (liveS (kF j) (nF j) (Es yF j))) (kF j) (b - t) (nw1 i)) = (if (liveS (kF j) (nF j) (Es yF j)) = 0 then 0 else cntL (ldS (kF j) (nF j) (Es yF j) (liveS (kF j) (nF j) (Es yF j))) (kF j) b (liveS (kF j) (nF j) (Es yF j)))) (ls : Array Slot) (hl : lv_has ls 10 [(0, .ref om), (1, .int (nI j)), (2, .int (nI b)), (3, .int (nI (liveS (kF j) (nF j) (Es yF j)))), (4, .int (nI N)), (5, .int (nI t))]), W p l e rmX10_howMany s m args below meth c H locs 0 0 Q (F0 m 56 ls []) := by
          intro fz; induction fz with
          | zero => intro t N pl1 nw1 xt1 nm1 xm1 H locs hP hD hS hfz ht hN hpl1 hnw hsm ls hl; exact absurd hfz (Nat.not_lt_zero _)
          | succ fz ih56 =>
            intro t N pl1 nw1 xt1 nm1 xm1 H locs hP hD hS hfz ht hN hpl1 hnw hsm ls hl
            refine lv_iload hx hb (pc := 56) dX10_howMany_56 (lv_at hl 5 rfl) ?_
            refine lv_iload_n hx hb (pc := 58) dX10_howMany_58 rfl (lv_at hl 2 rfl) ?_
            refine nv_icmp_ge (a := t) (b := b) (tgt := 253) hx hb (pc := 59) dX10_howMany_59 (by decide) (by omega) (by omega) (fun c59 => ?_) (fun c59 => ?_)
            · refine lv_lconst (v := 0) hx hb (pc := 253) dX10_howMany_253 (by decide) ?_
              refine lv_lstore (lv' := [(5, .long 0), (0, .ref om), (1, .int (nI j)), (2, .int (nI b)), (3, .int (nI (liveS (kF j) (nF j) (Es yF j)))), (4, .int (nI N))]) hx hb (pc := 254) dX10_howMany_254 hl (by decide) rfl (fun ls hl => ?_)
              refine lv_iconst (v := nI 0) hx hb (pc := 256) dX10_howMany_256 (by decide) ?_
              refine lv_istore (lv' := [(7, .int (nI 0)), (5, .long 0), (0, .ref om), (1, .int (nI j)), (2, .int (nI b)), (3, .int (nI (liveS (kF j) (nF j) (Es yF j)))), (4, .int (nI N))]) hx hb (pc := 257) dX10_howMany_257 hl (by decide) rfl (fun ls hl => ?_)
              have L259 : ∀ (fz : Nat) (i : Nat) (H : Heap) (locs : List Loc) (hP : va_P K.1 vwCl (XM K om ad ns wl nf wd mt kF nF yF WD FL FW TD RW pl1 nw1 xt1 vF wF qF bY gF nm1 xm1 fR oF hF dF) H) (hD : va_D A (XM K om ad ns wl nf wd mt kF nF yF WD FL FW TD RW pl1 nw1 xt1 vF wF qF bY gF nm1 xm1 fR oF hF dF)) (hS : va_S A s.heap H locs) (hfz : N - i < fz) (hi : i ≤ N) (ls : Array Slot) (hl : lv_has ls 10 [(0, .ref om), (4, .int (nI N)), (5, .long (sL i nm1)), (7, .int (nI i))]), W p l e rmX10_howMany s m args below meth c H locs 0 0 Q (F0 m 259 ls []) := by
                intro fz; induction fz with
                | zero => intro i H locs hP hD hS hfz hi ls hl; exact absurd hfz (Nat.not_lt_zero _)
                | succ fz ih259 =>
                  intro i H locs hP hD hS hfz hi ls hl
                  refine lv_iload hx hb (pc := 259) dX10_howMany_259 (lv_at hl 3 rfl) ?_
                  refine lv_iload hx hb (pc := 261) dX10_howMany_261 (lv_at hl 1 rfl) ?_
                  refine nv_icmp_ge (a := i) (b := N) (tgt := 284) hx hb (pc := 263) dX10_howMany_263 (by decide) (by omega) (by omega) (fun c263 => ?_) (fun c263 => ?_)
                  · refine lv_lload hx hb (pc := 284) dX10_howMany_284 (lv_at hl 2 rfl) ?_
                    have e9 : i = N := by omega
                    have e8 : t = b := by omega
                    rw [e8, Nat.sub_self] at hsm
                    exact hret.2.1 _ _ 0 0 286 _ (sL i nm1) dX10_howMany_286 (by omega) (by omega) hS (⟨by unfold hwmA; rw [if_pos hc, ecj, ecb, e9, ← hsm]; exact congrArg Value.long (sL_one N nm1).symm, _, _, _, _, _, hpl1, hP⟩) rfl
                  · refine lv_lload hx hb (pc := 266) dX10_howMany_266 (lv_at hl 2 rfl) ?_
                    refine lv_aload_n hx hb (pc := 268) dX10_howMany_268 rfl (lv_at hl 0 rfl) ?_
                    refine va_get (v := .ref (ad 14)) hx hb hts (inX10_howMany_10) hown hKK.1 hP 0 rfl rfl 14 (by decide) (hts _ (List.mem_of_getElem? (i := 3) (by decide +kernel))) (fun _ h9 => h9) rfl (pc := 269) dX10_howMany_269 ?_
                    refine lv_iload hx hb (pc := 272) dX10_howMany_272 (lv_at hl 3 rfl) ?_
                    refine nv_lald (v := nm1 i) (i := i) hx hb hKK hP 11 rfl (by omega) (by decide) (rfl) (pc := 274) dX10_howMany_274 ?_
                    refine lv_ladd hx hb (pc := 275) dX10_howMany_275 ?_
                    refine lv_lstore (lv' := [(5, .long ((sL i nm1) + (nm1 i))), (0, .ref om), (4, .int (nI N)), (7, .int (nI i))]) hx hb (pc := 276) dX10_howMany_276 hl (by decide) rfl (fun ls hl => ?_)
                    refine lv_iinc (v := nI (i + 1)) (lv' := [(7, .int (nI (i + 1))), (5, .long ((sL i nm1) + (nm1 i))), (0, .ref om), (4, .int (nI N))]) hx hb (pc := 278) dX10_howMany_278 hl (k := 3) rfl (rr_inc _) (by decide) rfl (fun ls hl => ?_)
                    refine lv_goto (tgt := 259) hx hb (pc := 281) dX10_howMany_281 (by decide) ?_
                    have hl : lv_has ls 10 [(7, .int (nI (i + 1))), (5, .long (sL (i + 1) nm1)), (0, .ref om), (4, .int (nI N))] := by rw [show sL (i + 1) nm1 = (sL i nm1) + (nm1 i) from rfl]; exact hl
                    exact ih259 (i + 1) _ _ hP hD hS (by omega) (by omega) ls (lv_sub hl [2, 3, 1, 0] rfl)
              have hl : lv_has ls 10 [(7, .int (nI 0)), (5, .long (sL 0 nm1)), (0, .ref om), (1, .int (nI j)), (2, .int (nI b)), (3, .int (nI (liveS (kF j) (nF j) (Es yF j)))), (4, .int (nI N))] := by rw [show sL 0 nm1 = 0 from rfl]; exact hl
              exact L259 (N + 1) 0 _ _ hP hD hS (by omega) (Nat.zero_le _) ls (lv_sub hl [2, 6, 1, 0] rfl)
            · refine lv_iconst (v := nI 0) hx hb (pc := 62) dX10_howMany_62 (by decide) ?_
              refine lv_istore (lv' := [(6, .int (nI 0)), (0, .ref om), (1, .int (nI j)), (2, .int (nI b)), (3, .int (nI (liveS (kF j) (nF j) (Es yF j)))), (4, .int (nI N)), (5, .int (nI t))]) hx hb (pc := 63) dX10_howMany_63 hl (by decide) rfl (fun ls hl => ?_)
              refine lv_iconst (v := nI 0) hx hb (pc := 65) dX10_howMany_65 (by decide) ?_
              refine lv_istore (lv' := [(7, .int (nI 0)), (6, .int (nI 0)), (0, .ref om), (1, .int (nI j)), (2, .int (nI b)), (3, .int (nI (liveS (kF j) (nF j) (Es yF j)))), (4, .int (nI N)), (5, .int (nI t))]) hx hb (pc := 66) dX10_howMany_66 hl (by decide) rfl (fun ls hl => ?_)
              have L68 : ∀ (fz : Nat) (q : Nat) (M : Nat) (pl1 : Nat → Nat) (xt1 : Nat → Nat) (xm1 : Nat → Int64) (H : Heap) (locs : List Loc) (hP : va_P K.1 vwCl (XM K om ad ns wl nf wd mt kF nF yF WD FL FW TD RW pl1 nw1 xt1 vF wF qF bY gF nm1 xm1 fR oF hF dF) H) (hD : va_D A (XM K om ad ns wl nf wd mt kF nF yF WD FL FW TD RW pl1 nw1 xt1 vF wF qF bY gF nm1 xm1 fR oF hF dF)) (hS : va_S A s.heap H locs) (hfz : N - q < fz) (hq : q ≤ N) (hplc : PLC pl1 xt1 M) (hxs : ∀ i, i < M → sub (xt1 i) (liveS (kF j) (nF j) (Es yF j))) (hsx : sL M (fun i => xm1 i * (cntL (ldS (kF j) (nF j) (Es yF j) (liveS (kF j) (nF j) (Es yF j))) (kF j) (b - t - 1)) (xt1 i)) = sL q (fun a => nm1 a * nx (ldS (kF j) (nF j) (Es yF j) (liveS (kF j) (nF j) (Es yF j))) (kF j) (cntL (ldS (kF j) (nF j) (Es yF j) (liveS (kF j) (nF j) (Es yF j))) (kF j) (b - t - 1)) (nw1 a))) (ls : Array Slot) (hl : lv_has ls 10 [(0, .ref om), (1, .int (nI j)), (2, .int (nI b)), (3, .int (nI (liveS (kF j) (nF j) (Es yF j)))), (4, .int (nI N)), (5, .int (nI t)), (6, .int (nI M)), (7, .int (nI q))]), W p l e rmX10_howMany s m args below meth c H locs 0 0 Q (F0 m 68 ls []) := by
                intro fz; induction fz with
                | zero => intro q M pl1 xt1 xm1 H locs hP hD hS hfz hq hplc hxs hsx ls hl; exact absurd hfz (Nat.not_lt_zero _)
                | succ fz ih68 =>
                  intro q M pl1 xt1 xm1 H locs hP hD hS hfz hq hplc hxs hsx ls hl
                  have hM5 := PLC_len hplc
                  refine lv_iload hx hb (pc := 68) dX10_howMany_68 (lv_at hl 7 rfl) ?_
                  refine lv_iload hx hb (pc := 70) dX10_howMany_70 (lv_at hl 4 rfl) ?_
                  refine nv_icmp_ge (a := q) (b := N) (tgt := 186) hx hb (pc := 72) dX10_howMany_72 (by decide) (by omega) (by omega) (fun c72 => ?_) (fun c72 => ?_)
                  · have e9 : q = N := by omega
                    have hsm9 : ∀ z, z = M → sL M (fun i => putZ nm1 xm1 z i * cntL (ldS (kF j) (nF j) (Es yF j) (liveS (kF j) (nF j) (Es yF j))) (kF j) (b - (t + 1)) (putZ nw1 xt1 z i)) = (if (liveS (kF j) (nF j) (Es yF j)) = 0 then 0 else cntL (ldS (kF j) (nF j) (Es yF j) (liveS (kF j) (nF j) (Es yF j))) (kF j) b (liveS (kF j) (nF j) (Es yF j))) := fun z hz => by
                      rw [sL_congr (g := fun i => xm1 i * (cntL (ldS (kF j) (nF j) (Es yF j) (liveS (kF j) (nF j) (Es yF j))) (kF j) (b - t - 1)) (xt1 i)) (fun i hi => by rw [putZ_in (by omega), putZ_in (by omega), show b - (t + 1) = b - t - 1 by omega]), hsx, e9, ← hsm]
                      exact sL_congr (fun i hi => by rw [show b - t = b - t - 1 + 1 by omega]; rfl)
                    refine lv_iconst (v := nI 0) hx hb (pc := 186) dX10_howMany_186 (by decide) ?_
                    refine lv_istore (lv' := [(7, .int (nI 0)), (0, .ref om), (1, .int (nI j)), (2, .int (nI b)), (3, .int (nI (liveS (kF j) (nF j) (Es yF j)))), (4, .int (nI N)), (5, .int (nI t)), (6, .int (nI M))]) hx hb (pc := 187) dX10_howMany_187 hl (by decide) rfl (fun ls hl => ?_)
                    have L189 : ∀ (fz : Nat) (i : Nat) (pl2 : Nat → Nat) (H : Heap) (locs : List Loc) (hP : va_P K.1 vwCl (XM K om ad ns wl nf wd mt kF nF yF WD FL FW TD RW pl2 (putZ nw1 xt1 i) xt1 vF wF qF bY gF (putZ nm1 xm1 i) xm1 fR oF hF dF) H) (hD : va_D A (XM K om ad ns wl nf wd mt kF nF yF WD FL FW TD RW pl2 (putZ nw1 xt1 i) xt1 vF wF qF bY gF (putZ nm1 xm1 i) xm1 fR oF hF dF)) (hS : va_S A s.heap H locs) (hfz : M - i < fz) (hi : i ≤ M) (hpl2 : ∀ a, a < 65536 → pl2 a = 0 ∨ ∃ z, i ≤ z ∧ z < M ∧ xt1 z = a) (ls : Array Slot) (hl : lv_has ls 10 [(0, .ref om), (1, .int (nI j)), (2, .int (nI b)), (3, .int (nI (liveS (kF j) (nF j) (Es yF j)))), (5, .int (nI t)), (6, .int (nI M)), (7, .int (nI i))]), W p l e rmX10_howMany s m args below meth c H locs 0 0 Q (F0 m 189 ls []) := by
                      intro fz; induction fz with
                      | zero => intro i pl2 H locs hP hD hS hfz hi hpl2 ls hl; exact absurd hfz (Nat.not_lt_zero _)
                      | succ fz ih189 =>
                        intro i pl2 H locs hP hD hS hfz hi hpl2 ls hl
                        refine lv_iload hx hb (pc := 189) dX10_howMany_189 (lv_at hl 6 rfl) ?_
                        refine lv_iload hx hb (pc := 191) dX10_howMany_191 (lv_at hl 5 rfl) ?_
                        refine nv_icmp_ge (a := i) (b := M) (tgt := 243) hx hb (pc := 193) dX10_howMany_193 (by decide) (by omega) (by omega) (fun c193 => ?_) (fun c193 => ?_)
                        · refine lv_iload hx hb (pc := 243) dX10_howMany_243 (lv_at hl 5 rfl) ?_
                          refine lv_istore (lv' := [(4, .int (nI M)), (0, .ref om), (1, .int (nI j)), (2, .int (nI b)), (3, .int (nI (liveS (kF j) (nF j) (Es yF j)))), (5, .int (nI t)), (6, .int (nI M)), (7, .int (nI i))]) hx hb (pc := 245) dX10_howMany_245 hl (by decide) rfl (fun ls hl => ?_)
                          refine lv_iinc (v := nI (t + 1)) (lv' := [(5, .int (nI (t + 1))), (4, .int (nI M)), (0, .ref om), (1, .int (nI j)), (2, .int (nI b)), (3, .int (nI (liveS (kF j) (nF j) (Es yF j)))), (6, .int (nI M)), (7, .int (nI i))]) hx hb (pc := 247) dX10_howMany_247 hl (k := 5) rfl (rr_inc _) (by decide) rfl (fun ls hl => ?_)
                          refine lv_goto (tgt := 56) hx hb (pc := 250) dX10_howMany_250 (by decide) ?_
                          have e7 : i = M := by omega
                          exact ih56 (t + 1) M pl2 (putZ nw1 xt1 i) xt1 (putZ nm1 xm1 i) xm1 _ _ hP hD hS (by omega) (by omega) (PLC_len hplc) (fun a ha => (hpl2 a ha).elim id (fun ⟨z, h1, h2, _⟩ => absurd h2 (by omega))) (fun a ha => by rw [putZ_in (by omega)]; exact hxs a ha) (hsm9 i e7) ls (lv_sub hl [2, 3, 4, 5, 1, 0] rfl)
                        · have hxi := (hplc.2 i (by omega)).1
                          refine lv_aload_n hx hb (pc := 196) dX10_howMany_196 rfl (lv_at hl 0 rfl) ?_
                          refine va_get (v := .ref (ad 13)) hx hb hts (inX10_howMany_10) hown hKK.1 hP 0 rfl rfl 13 (by decide) (hts _ (List.mem_of_getElem? (i := 2) (by decide +kernel))) (fun _ h9 => h9) rfl (pc := 197) dX10_howMany_197 ?_
                          refine lv_iload hx hb (pc := 200) dX10_howMany_200 (lv_at hl 6 rfl) ?_
                          refine lv_aload_n hx hb (pc := 202) dX10_howMany_202 rfl (lv_at hl 0 rfl) ?_
                          refine va_get (v := .ref (ad 15)) hx hb hts (inX10_howMany_10) hown hKK.1 hP 0 rfl rfl 15 (by decide) (hts _ (List.mem_of_getElem? (i := 6) (by decide +kernel))) (fun _ h9 => h9) rfl (pc := 203) dX10_howMany_203 ?_
                          refine lv_iload hx hb (pc := 206) dX10_howMany_206 (lv_at hl 6 rfl) ?_
                          refine nv_iald (v := nI (xt1 i)) (i := i) hx hb hKK hP 12 rfl (by omega) (by decide) (rfl) (pc := 208) dX10_howMany_208 ?_
                          refine nv_iast (f := (putZ nw1 xt1 i)) (x := (xt1 i)) (ws' := XM K om ad ns wl nf wd mt kF nF yF WD FL FW TD RW pl2 (va_up (putZ nw1 xt1 i) i (xt1 i)) xt1 vF wF qF bY gF (putZ nm1 xm1 i) xm1 fR oF hF dF) (i := i) hx hb hKK hP hD hS 10 rfl (by omega) (by decide) (rfl) (pc := 209) dX10_howMany_209 (fun H locs hP hD hS => ?_)
                          refine lv_aload_n hx hb (pc := 210) dX10_howMany_210 rfl (lv_at hl 0 rfl) ?_
                          refine va_get (v := .ref (ad 14)) hx hb hts (inX10_howMany_10) hown hKK.1 hP 0 rfl rfl 14 (by decide) (hts _ (List.mem_of_getElem? (i := 3) (by decide +kernel))) (fun _ h9 => h9) rfl (pc := 211) dX10_howMany_211 ?_
                          refine lv_iload hx hb (pc := 214) dX10_howMany_214 (lv_at hl 6 rfl) ?_
                          refine lv_aload_n hx hb (pc := 216) dX10_howMany_216 rfl (lv_at hl 0 rfl) ?_
                          refine va_get (v := .ref (ad 16)) hx hb hts (inX10_howMany_10) hown hKK.1 hP 0 rfl rfl 16 (by decide) (hts _ (List.mem_of_getElem? (i := 7) (by decide +kernel))) (fun _ h9 => h9) rfl (pc := 217) dX10_howMany_217 ?_
                          refine lv_iload hx hb (pc := 220) dX10_howMany_220 (lv_at hl 6 rfl) ?_
                          refine nv_lald (v := xm1 i) (i := i) hx hb hKK hP 13 rfl (by omega) (by decide) (rfl) (pc := 222) dX10_howMany_222 ?_
                          refine nv_last (f := (putZ nm1 xm1 i)) (x := (xm1 i)) (ws' := XM K om ad ns wl nf wd mt kF nF yF WD FL FW TD RW pl2 (va_up (putZ nw1 xt1 i) i (xt1 i)) xt1 vF wF qF bY gF (va_up (putZ nm1 xm1 i) i (xm1 i)) xm1 fR oF hF dF) (i := i) hx hb hKK hP hD hS 11 rfl (by omega) (by decide) (rfl) (pc := 223) dX10_howMany_223 (fun H locs hP hD hS => ?_)
                          refine lv_aload_n hx hb (pc := 224) dX10_howMany_224 rfl (lv_at hl 0 rfl) ?_
                          refine va_get (v := .ref (ad 12)) hx hb hts (inX10_howMany_10) hown hKK.1 hP 0 rfl rfl 12 (by decide) (hts _ (List.mem_of_getElem? (i := 5) (by decide +kernel))) (fun _ h9 => h9) rfl (pc := 225) dX10_howMany_225 ?_
                          refine lv_aload_n hx hb (pc := 228) dX10_howMany_228 rfl (lv_at hl 0 rfl) ?_
                          refine va_get (v := .ref (ad 15)) hx hb hts (inX10_howMany_10) hown hKK.1 hP 0 rfl rfl 15 (by decide) (hts _ (List.mem_of_getElem? (i := 6) (by decide +kernel))) (fun _ h9 => h9) rfl (pc := 229) dX10_howMany_229 ?_
                          refine lv_iload hx hb (pc := 232) dX10_howMany_232 (lv_at hl 6 rfl) ?_
                          refine nv_iald (v := nI (xt1 i)) (i := i) hx hb hKK hP 12 rfl (by omega) (by decide) (rfl) (pc := 234) dX10_howMany_234 ?_
                          refine lv_iconst (v := nI 0) hx hb (pc := 235) dX10_howMany_235 (by decide) ?_
                          refine nv_iast (f := pl2) (x := 0) (ws' := XM K om ad ns wl nf wd mt kF nF yF WD FL FW TD RW (va_up pl2 (xt1 i) 0) (va_up (putZ nw1 xt1 i) i (xt1 i)) xt1 vF wF qF bY gF (va_up (putZ nm1 xm1 i) i (xm1 i)) xm1 fR oF hF dF) (i := (xt1 i)) hx hb hKK hP hD hS 9 rfl (by omega) (by decide) (rfl) (pc := 236) dX10_howMany_236 (fun H locs hP hD hS => ?_)
                          refine lv_iinc (v := nI (i + 1)) (lv' := [(7, .int (nI (i + 1))), (0, .ref om), (1, .int (nI j)), (2, .int (nI b)), (3, .int (nI (liveS (kF j) (nF j) (Es yF j)))), (5, .int (nI t)), (6, .int (nI M))]) hx hb (pc := 237) dX10_howMany_237 hl (k := 6) rfl (rr_inc _) (by decide) rfl (fun ls hl => ?_)
                          refine lv_goto (tgt := 189) hx hb (pc := 240) dX10_howMany_240 (by decide) ?_
                          rw [putZ_step nw1 xt1 i, putZ_step nm1 xm1 i] at hP hD
                          have hpl3 : ∀ a, a < 65536 → va_up pl2 (xt1 i) 0 a = 0 ∨ ∃ z, i + 1 ≤ z ∧ z < M ∧ xt1 z = a := fun a ha => by
                            by_cases e : a = xt1 i
                            · rw [e, va_up_self]; exact Or.inl rfl
                            · rw [va_up_ne _ _ e]
                              rcases hpl2 a ha with w | ⟨z, h1, h2, h3⟩
                              · exact Or.inl w
                              · refine Or.inr ⟨z, ?_, h2, h3⟩
                                rcases Nat.lt_or_ge i z with w | w
                                · exact w
                                · exact absurd (by rw [← h3, show z = i by omega]) e
                          exact ih189 (i + 1) (va_up pl2 (xt1 i) 0) _ _ hP hD hS (by omega) (by omega) (hpl3) ls (lv_sub hl [1, 2, 3, 4, 5, 6, 0] rfl)
                    have hz1 := putZ_0 nw1 xt1
                    have hz2 := putZ_0 nm1 xm1
                    have hP : va_P K.1 vwCl (XM K om ad ns wl nf wd mt kF nF yF WD FL FW TD RW pl1 (putZ nw1 xt1 0) xt1 vF wF qF bY gF (putZ nm1 xm1 0) xm1 fR oF hF dF) H := by rw [hz1, hz2]; exact hP
                    have hD : va_D A (XM K om ad ns wl nf wd mt kF nF yF WD FL FW TD RW pl1 (putZ nw1 xt1 0) xt1 vF wF qF bY gF (putZ nm1 xm1 0) xm1 fR oF hF dF) := by rw [hz1, hz2]; exact hD
                    exact L189 (M + 1) 0 pl1 _ _ hP hD hS (by omega) (Nat.zero_le _) (fun a ha => (hplc.1 a ha).elim Or.inl (fun w => Or.inr ⟨pl1 a - 1, Nat.zero_le _, by omega, w.2.2⟩)) ls (lv_sub hl [1, 2, 3, 4, 6, 7, 0] rfl)
                  · have hsx0 : sL M (fun i => xm1 i * (cntL (ldS (kF j) (nF j) (Es yF j) (liveS (kF j) (nF j) (Es yF j))) (kF j) (b - t - 1)) (xt1 i)) = sL q (fun a => nm1 a * nx (ldS (kF j) (nF j) (Es yF j) (liveS (kF j) (nF j) (Es yF j))) (kF j) (cntL (ldS (kF j) (nF j) (Es yF j) (liveS (kF j) (nF j) (Es yF j))) (kF j) (b - t - 1)) (nw1 a)) + nm1 q * sL 0 (fun z => if (ldS (kF j) (nF j) (Es yF j) (liveS (kF j) (nF j) (Es yF j))) (nw1 q) z = 0 then 0 else (cntL (ldS (kF j) (nF j) (Es yF j) (liveS (kF j) (nF j) (Es yF j))) (kF j) (b - t - 1)) ((ldS (kF j) (nF j) (Es yF j) (liveS (kF j) (nF j) (Es yF j))) (nw1 q) z)) := by
                      rw [hsx, show sL 0 (fun z => if (ldS (kF j) (nF j) (Es yF j) (liveS (kF j) (nF j) (Es yF j))) (nw1 q) z = 0 then 0 else (cntL (ldS (kF j) (nF j) (Es yF j) (liveS (kF j) (nF j) (Es yF j))) (kF j) (b - t - 1)) ((ldS (kF j) (nF j) (Es yF j) (liveS (kF j) (nF j) (Es yF j))) (nw1 q) z)) = (0 : Int64) from rfl, Int64.mul_zero, Int64.add_zero]
                    refine lv_iconst (v := nI 0) hx hb (pc := 75) dX10_howMany_75 (by decide) ?_
                    refine lv_istore (lv' := [(8, .int (nI 0)), (0, .ref om), (1, .int (nI j)), (2, .int (nI b)), (3, .int (nI (liveS (kF j) (nF j) (Es yF j)))), (4, .int (nI N)), (5, .int (nI t)), (6, .int (nI M)), (7, .int (nI q))]) hx hb (pc := 76) dX10_howMany_76 hl (by decide) rfl (fun ls hl => ?_)
                    have L78 : ∀ (fz : Nat) (y9 : Nat) (M : Nat) (pl1 : Nat → Nat) (xt1 : Nat → Nat) (xm1 : Nat → Int64) (H : Heap) (locs : List Loc) (hP : va_P K.1 vwCl (XM K om ad ns wl nf wd mt kF nF yF WD FL FW TD RW pl1 nw1 xt1 vF wF qF bY gF nm1 xm1 fR oF hF dF) H) (hD : va_D A (XM K om ad ns wl nf wd mt kF nF yF WD FL FW TD RW pl1 nw1 xt1 vF wF qF bY gF nm1 xm1 fR oF hF dF)) (hS : va_S A s.heap H locs) (hfz : kF j - y9 < fz) (hy : y9 ≤ kF j) (hplc : PLC pl1 xt1 M) (hxs : ∀ i, i < M → sub (xt1 i) (liveS (kF j) (nF j) (Es yF j))) (hsx : sL M (fun i => xm1 i * (cntL (ldS (kF j) (nF j) (Es yF j) (liveS (kF j) (nF j) (Es yF j))) (kF j) (b - t - 1)) (xt1 i)) = sL q (fun a => nm1 a * nx (ldS (kF j) (nF j) (Es yF j) (liveS (kF j) (nF j) (Es yF j))) (kF j) (cntL (ldS (kF j) (nF j) (Es yF j) (liveS (kF j) (nF j) (Es yF j))) (kF j) (b - t - 1)) (nw1 a)) + nm1 q * sL y9 (fun z => if (ldS (kF j) (nF j) (Es yF j) (liveS (kF j) (nF j) (Es yF j))) (nw1 q) z = 0 then 0 else (cntL (ldS (kF j) (nF j) (Es yF j) (liveS (kF j) (nF j) (Es yF j))) (kF j) (b - t - 1)) ((ldS (kF j) (nF j) (Es yF j) (liveS (kF j) (nF j) (Es yF j))) (nw1 q) z))) (ls : Array Slot) (hl : lv_has ls 10 [(0, .ref om), (1, .int (nI j)), (2, .int (nI b)), (3, .int (nI (liveS (kF j) (nF j) (Es yF j)))), (4, .int (nI N)), (5, .int (nI t)), (6, .int (nI M)), (7, .int (nI q)), (8, .int (nI y9))]), W p l e rmX10_howMany s m args below meth c H locs 0 0 Q (F0 m 78 ls []) := by
                      intro fz; induction fz with
                      | zero => intro y9 M pl1 xt1 xm1 H locs hP hD hS hfz hy hplc hxs hsx ls hl; exact absurd hfz (Nat.not_lt_zero _)
                      | succ fz ih78 =>
                        intro y9 M pl1 xt1 xm1 H locs hP hD hS hfz hy hplc hxs hsx ls hl
                        have hM5 := PLC_len hplc
                        refine lv_iload hx hb (pc := 78) dX10_howMany_78 (lv_at hl 8 rfl) ?_
                        refine lv_aload_n hx hb (pc := 80) dX10_howMany_80 rfl (lv_at hl 0 rfl) ?_
                        refine va_get (v := .ref (ad 1)) hx hb hts (inX10_howMany_10) hown hKK.1 hP 0 rfl rfl 1 (by decide) (hts _ (List.mem_of_getElem? (i := 4) (by decide +kernel))) (fun _ h9 => h9) rfl (pc := 81) dX10_howMany_81 ?_
                        refine lv_iload_n hx hb (pc := 84) dX10_howMany_84 rfl (lv_at hl 1 rfl) ?_
                        refine nv_iald (v := nI (kF j)) (i := j) hx hb hKK hP 1 rfl (by omega) (by decide) (rfl) (pc := 85) dX10_howMany_85 ?_
                        refine nv_icmp_ge (a := y9) (b := (kF j)) (tgt := 180) hx hb (pc := 86) dX10_howMany_86 (by decide) (by omega) (by omega) (fun c86 => ?_) (fun c86 => ?_)
                        · refine lv_iinc (v := nI (q + 1)) (lv' := [(7, .int (nI (q + 1))), (0, .ref om), (1, .int (nI j)), (2, .int (nI b)), (3, .int (nI (liveS (kF j) (nF j) (Es yF j)))), (4, .int (nI N)), (5, .int (nI t)), (6, .int (nI M)), (8, .int (nI y9))]) hx hb (pc := 180) dX10_howMany_180 hl (k := 7) rfl (rr_inc _) (by decide) rfl (fun ls hl => ?_)
                          refine lv_goto (tgt := 68) hx hb (pc := 183) dX10_howMany_183 (by decide) ?_
                          have e7 : y9 = kF j := by omega
                          rw [e7] at hsx
                          exact ih68 (q + 1) M pl1 xt1 xm1 _ _ hP hD hS (by omega) (by omega) (hplc) (hxs) (md_end hsx) ls (lv_sub hl [1, 2, 3, 4, 5, 6, 7, 0] rfl)
                        · refine lv_aload_n hx hb (pc := 89) dX10_howMany_89 rfl (lv_at hl 0 rfl) ?_
                          refine lv_iload_n hx hb (pc := 90) dX10_howMany_90 rfl (lv_at hl 1 rfl) ?_
                          refine lv_iload_n hx hb (pc := 91) dX10_howMany_91 rfl (lv_at hl 3 rfl) ?_
                          refine lv_aload_n hx hb (pc := 92) dX10_howMany_92 rfl (lv_at hl 0 rfl) ?_
                          refine va_get (v := .ref (ad 13)) hx hb hts (inX10_howMany_10) hown hKK.1 hP 0 rfl rfl 13 (by decide) (hts _ (List.mem_of_getElem? (i := 2) (by decide +kernel))) (fun _ h9 => h9) rfl (pc := 93) dX10_howMany_93 ?_
                          refine lv_iload hx hb (pc := 96) dX10_howMany_96 (lv_at hl 7 rfl) ?_
                          refine nv_iald (v := nI (nw1 q)) (i := q) hx hb hKK hP 10 rfl (by omega) (by decide) (rfl) (pc := 98) dX10_howMany_98 ?_
                          refine lv_iload hx hb (pc := 99) dX10_howMany_99 (lv_at hl 8 rfl) ?_
                          have hnq := Nat.lt_of_le_of_lt (sub_le (hnw q (by omega))) hlv
                          refine rr_callP (rv := .int (nI (ldS (kF j) (nF j) (Es yF j) (liveS (kF j) (nF j) (Es yF j)) (nw1 q) y9))) (pc := 101) (va_runV (As := [.int (nI j), .int (nI (liveS (kF j) (nF j) (Es yF j))), .int (nI (nw1 q)), .int (nI y9)]) (rest := []) ⟨hx, hb, hml, hown, hts⟩ (c_X10_lead l K om ad ns wl nf wd mt kF nF yF WD FL FW TD RW pl1 nw1 xt1 vF wF qF bY gF nm1 xm1 fR oF hF dF j (liveS (kF j) (nF j) (Es yF j)) (nw1 q) y9 (by omega) s2j s4j s5j (by omega) (by omega)) (cwV 4 hts gX10_howMany_X10_lead rfl rfl rfl (by decide +kernel) ⟨Nat.le_of_ble_eq_true rfl, Nat.le_of_ble_eq_true rfl⟩) (rr_preV hKK (hP) (va_recv hKK.1 hP (ci := 10) (q0 := 0) rfl rfl)) rfl rfl hl.1 rfl (lv_room (Nat.le_of_ble_eq_true rfl)) dX10_howMany_101 ⟨Nat.le_refl _, Nat.le_refl _⟩) ?_
                          obtain ⟨to, hto⟩ : ∃ to, to = ldS (kF j) (nF j) (Es yF j) (liveS (kF j) (nF j) (Es yF j)) (nw1 q) y9 := ⟨_, rfl⟩
                          have htos : sub to (liveS (kF j) (nF j) (Es yF j)) := by rw [hto]; exact ldS_sub _ _ _ _ _ _
                          have hto6 := Nat.lt_of_le_of_lt (sub_le htos) hlv
                          refine rr_top (v := .int (nI to)) (by rw [hto]) ?_
                          refine lv_istore (lv' := [(9, .int (nI to)), (0, .ref om), (1, .int (nI j)), (2, .int (nI b)), (3, .int (nI (liveS (kF j) (nF j) (Es yF j)))), (4, .int (nI N)), (5, .int (nI t)), (6, .int (nI M)), (7, .int (nI q)), (8, .int (nI y9))]) hx hb (pc := 104) dX10_howMany_104 hl (by decide) rfl (fun ls hl => ?_)
                          refine lv_iload hx hb (pc := 106) dX10_howMany_106 (lv_at hl 0 rfl) ?_
                          refine nv_if_eq (a := to) (tgt := 174) hx hb (pc := 108) dX10_howMany_108 (by decide) (by omega) (fun c108 => ?_) (fun c108 => ?_)
                          · have hsxZ : sL M (fun i => xm1 i * (cntL (ldS (kF j) (nF j) (Es yF j) (liveS (kF j) (nF j) (Es yF j))) (kF j) (b - t - 1)) (xt1 i)) = sL q (fun a => nm1 a * nx (ldS (kF j) (nF j) (Es yF j) (liveS (kF j) (nF j) (Es yF j))) (kF j) (cntL (ldS (kF j) (nF j) (Es yF j) (liveS (kF j) (nF j) (Es yF j))) (kF j) (b - t - 1)) (nw1 a)) + nm1 q * sL (y9 + 1) (fun z => if (ldS (kF j) (nF j) (Es yF j) (liveS (kF j) (nF j) (Es yF j))) (nw1 q) z = 0 then 0 else (cntL (ldS (kF j) (nF j) (Es yF j) (liveS (kF j) (nF j) (Es yF j))) (kF j) (b - t - 1)) ((ldS (kF j) (nF j) (Es yF j) (liveS (kF j) (nF j) (Es yF j))) (nw1 q) z)) := by
                              rw [hsx, sL_succ, if_pos (hto ▸ c108), Int64.add_zero]
                            refine lv_iinc (v := nI (y9 + 1)) (lv' := [(8, .int (nI (y9 + 1))), (9, .int (nI to)), (0, .ref om), (1, .int (nI j)), (2, .int (nI b)), (3, .int (nI (liveS (kF j) (nF j) (Es yF j)))), (4, .int (nI N)), (5, .int (nI t)), (6, .int (nI M)), (7, .int (nI q))]) hx hb (pc := 174) dX10_howMany_174 hl (k := 9) rfl (rr_inc _) (by decide) rfl (fun ls hl => ?_)
                            refine lv_goto (tgt := 78) hx hb (pc := 177) dX10_howMany_177 (by decide) ?_
                            exact ih78 (y9 + 1) M pl1 xt1 xm1 _ _ hP hD hS (by omega) (by omega) (by first | exact hplcN | exact hplc) (by first | exact hxsN | exact hxs) (by first | exact hsxN | exact hsxO | exact hsxZ) ls (lv_sub hl [2, 3, 4, 5, 6, 7, 8, 9, 0] rfl)
                          · have ht0 : ldS (kF j) (nF j) (Es yF j) (liveS (kF j) (nF j) (Es yF j)) (nw1 q) y9 ≠ 0 := hto ▸ c108
                            refine lv_aload_n hx hb (pc := 111) dX10_howMany_111 rfl (lv_at hl 1 rfl) ?_
                            refine va_get (v := .ref (ad 12)) hx hb hts (inX10_howMany_10) hown hKK.1 hP 0 rfl rfl 12 (by decide) (hts _ (List.mem_of_getElem? (i := 5) (by decide +kernel))) (fun _ h9 => h9) rfl (pc := 112) dX10_howMany_112 ?_
                            refine lv_iload hx hb (pc := 115) dX10_howMany_115 (lv_at hl 0 rfl) ?_
                            refine nv_iald (v := nI (pl1 to)) (i := to) hx hb hKK hP 9 rfl (by omega) (by decide) (rfl) (pc := 117) dX10_howMany_117 ?_
                            have hpt : pl1 to ≤ M := (hplc.1 to hto6).elim (fun w => by omega) (fun w => w.2.1)
                            refine nv_if_ne (a := (pl1 to)) (tgt := 150) hx hb (pc := 118) dX10_howMany_118 (by decide) (by omega) (fun c118 => ?_) (fun c118 => ?_)
                            · refine lv_aload_n hx hb (pc := 150) dX10_howMany_150 rfl (lv_at hl 1 rfl) ?_
                              refine va_get (v := .ref (ad 16)) hx hb hts (inX10_howMany_10) hown hKK.1 hP 0 rfl rfl 16 (by decide) (hts _ (List.mem_of_getElem? (i := 7) (by decide +kernel))) (fun _ h9 => h9) rfl (pc := 151) dX10_howMany_151 ?_
                              refine lv_aload_n hx hb (pc := 154) dX10_howMany_154 rfl (lv_at hl 1 rfl) ?_
                              refine va_get (v := .ref (ad 12)) hx hb hts (inX10_howMany_10) hown hKK.1 hP 0 rfl rfl 12 (by decide) (hts _ (List.mem_of_getElem? (i := 5) (by decide +kernel))) (fun _ h9 => h9) rfl (pc := 155) dX10_howMany_155 ?_
                              refine lv_iload hx hb (pc := 158) dX10_howMany_158 (lv_at hl 0 rfl) ?_
                              refine nv_iald (v := nI (pl1 to)) (i := to) hx hb hKK hP 9 rfl (by omega) (by decide) (rfl) (pc := 160) dX10_howMany_160 ?_
                              refine lv_iconst (v := nI 1) hx hb (pc := 161) dX10_howMany_161 (by decide) ?_
                              obtain ⟨g1, g2, g3⟩ := PLC_get hplc hto6 c118
                              refine nv_isub (a := (pl1 to)) (b := 1) hx hb (pc := 162) dX10_howMany_162 (by omega) ?_
                              first
                              | have hsxO := md_yes (sb := (ldS (kF j) (nF j) (Es yF j) (liveS (kF j) (nF j) (Es yF j)))) (x := nm1 q) (S := nw1 q) (y := y9) g2 (g3.trans hto) ht0 hsx
                              | skip
                              refine lv_dup2_11 hx hb (pc := 163) dX10_howMany_163 rfl rfl ?_
                              refine nv_lald (v := xm1 ((pl1 to) - 1)) (i := ((pl1 to) - 1)) hx hb hKK hP 13 rfl (by omega) (by decide) (rfl) (pc := 164) dX10_howMany_164 ?_
                              refine lv_aload_n hx hb (pc := 165) dX10_howMany_165 rfl (lv_at hl 1 rfl) ?_
                              refine va_get (v := .ref (ad 14)) hx hb hts (inX10_howMany_10) hown hKK.1 hP 0 rfl rfl 14 (by decide) (hts _ (List.mem_of_getElem? (i := 3) (by decide +kernel))) (fun _ h9 => h9) rfl (pc := 166) dX10_howMany_166 ?_
                              refine lv_iload hx hb (pc := 169) dX10_howMany_169 (lv_at hl 8 rfl) ?_
                              refine nv_lald (v := nm1 q) (i := q) hx hb hKK hP 11 rfl (by omega) (by decide) (rfl) (pc := 171) dX10_howMany_171 ?_
                              refine lv_ladd hx hb (pc := 172) dX10_howMany_172 ?_
                              refine nv_last (f := xm1) (x := ((xm1 ((pl1 to) - 1)) + (nm1 q))) (ws' := XM K om ad ns wl nf wd mt kF nF yF WD FL FW TD RW pl1 nw1 xt1 vF wF qF bY gF nm1 (va_up xm1 ((pl1 to) - 1) ((xm1 ((pl1 to) - 1)) + (nm1 q))) fR oF hF dF) (i := ((pl1 to) - 1)) hx hb hKK hP hD hS 13 rfl (by omega) (by decide) (rfl) (pc := 173) dX10_howMany_173 (fun H locs hP hD hS => ?_)
                              refine lv_iinc (v := nI (y9 + 1)) (lv' := [(8, .int (nI (y9 + 1))), (9, .int (nI to)), (0, .ref om), (1, .int (nI j)), (2, .int (nI b)), (3, .int (nI (liveS (kF j) (nF j) (Es yF j)))), (4, .int (nI N)), (5, .int (nI t)), (6, .int (nI M)), (7, .int (nI q))]) hx hb (pc := 174) dX10_howMany_174 hl (k := 9) rfl (rr_inc _) (by decide) rfl (fun ls hl => ?_)
                              refine lv_goto (tgt := 78) hx hb (pc := 177) dX10_howMany_177 (by decide) ?_
                              exact ih78 (y9 + 1) M pl1 xt1 (va_up xm1 ((pl1 to) - 1) ((xm1 ((pl1 to) - 1)) + (nm1 q))) _ _ hP hD hS (by omega) (by omega) (by first | exact hplcN | exact hplc) (by first | exact hxsN | exact hxs) (by first | exact hsxN | exact hsxO | exact hsxZ) ls (lv_sub hl [2, 3, 4, 5, 6, 7, 8, 9, 0] rfl)
                            · refine lv_aload_n hx hb (pc := 121) dX10_howMany_121 rfl (lv_at hl 1 rfl) ?_
                              refine va_get (v := .ref (ad 15)) hx hb hts (inX10_howMany_10) hown hKK.1 hP 0 rfl rfl 15 (by decide) (hts _ (List.mem_of_getElem? (i := 6) (by decide +kernel))) (fun _ h9 => h9) rfl (pc := 122) dX10_howMany_122 ?_
                              refine lv_iload hx hb (pc := 125) dX10_howMany_125 (lv_at hl 7 rfl) ?_
                              refine lv_iload hx hb (pc := 127) dX10_howMany_127 (lv_at hl 0 rfl) ?_
                              refine nv_iast (f := xt1) (x := to) (ws' := XM K om ad ns wl nf wd mt kF nF yF WD FL FW TD RW pl1 nw1 (va_up xt1 M to) vF wF qF bY gF nm1 xm1 fR oF hF dF) (i := M) hx hb hKK hP hD hS 12 rfl (by omega) (by decide) (rfl) (pc := 129) dX10_howMany_129 (fun H locs hP hD hS => ?_)
                              refine lv_aload_n hx hb (pc := 130) dX10_howMany_130 rfl (lv_at hl 1 rfl) ?_
                              refine va_get (v := .ref (ad 16)) hx hb hts (inX10_howMany_10) hown hKK.1 hP 0 rfl rfl 16 (by decide) (hts _ (List.mem_of_getElem? (i := 7) (by decide +kernel))) (fun _ h9 => h9) rfl (pc := 131) dX10_howMany_131 ?_
                              refine lv_iload hx hb (pc := 134) dX10_howMany_134 (lv_at hl 7 rfl) ?_
                              refine lv_lconst (v := lN 0) hx hb (pc := 136) dX10_howMany_136 (by decide) ?_
                              refine nv_last (f := xm1) (x := (lN 0)) (ws' := XM K om ad ns wl nf wd mt kF nF yF WD FL FW TD RW pl1 nw1 (va_up xt1 M to) vF wF qF bY gF nm1 (va_up xm1 M (lN 0)) fR oF hF dF) (i := M) hx hb hKK hP hD hS 13 rfl (by omega) (by decide) (rfl) (pc := 137) dX10_howMany_137 (fun H locs hP hD hS => ?_)
                              refine lv_iinc (v := nI (M + 1)) (lv' := [(6, .int (nI (M + 1))), (9, .int (nI to)), (0, .ref om), (1, .int (nI j)), (2, .int (nI b)), (3, .int (nI (liveS (kF j) (nF j) (Es yF j)))), (4, .int (nI N)), (5, .int (nI t)), (7, .int (nI q)), (8, .int (nI y9))]) hx hb (pc := 138) dX10_howMany_138 hl (k := 7) rfl (rr_inc _) (by decide) rfl (fun ls hl => ?_)
                              refine lv_aload_n hx hb (pc := 141) dX10_howMany_141 rfl (lv_at hl 2 rfl) ?_
                              refine va_get (v := .ref (ad 12)) hx hb hts (inX10_howMany_10) hown hKK.1 hP 0 rfl rfl 12 (by decide) (hts _ (List.mem_of_getElem? (i := 5) (by decide +kernel))) (fun _ h9 => h9) rfl (pc := 142) dX10_howMany_142 ?_
                              refine lv_iload hx hb (pc := 145) dX10_howMany_145 (lv_at hl 1 rfl) ?_
                              refine lv_iload hx hb (pc := 147) dX10_howMany_147 (lv_at hl 0 rfl) ?_
                              refine nv_iast (f := pl1) (x := (M + 1)) (ws' := XM K om ad ns wl nf wd mt kF nF yF WD FL FW TD RW (va_up pl1 to (M + 1)) nw1 (va_up xt1 M to) vF wF qF bY gF nm1 (va_up xm1 M (lN 0)) fR oF hF dF) (i := to) hx hb hKK hP hD hS 9 rfl (by omega) (by decide) (rfl) (pc := 149) dX10_howMany_149 (fun H locs hP hD hS => ?_)
                              have hplcN := PLC_add hplc hto6 c108 c118
                              have hxsN : ∀ i, i < M + 1 → sub (va_up xt1 M to i) (liveS (kF j) (nF j) (Es yF j)) := fun i hi => by
                                by_cases e : i = M
                                · rw [e, va_up_self]; exact htos
                                · rw [va_up_ne _ _ e]; exact hxs i (by omega)
                              have hsxA : sL (M + 1) (fun i => (va_up xm1 M (lN 0)) i * (cntL (ldS (kF j) (nF j) (Es yF j) (liveS (kF j) (nF j) (Es yF j))) (kF j) (b - t - 1)) ((va_up xt1 M to) i)) = sL q (fun a => nm1 a * nx (ldS (kF j) (nF j) (Es yF j) (liveS (kF j) (nF j) (Es yF j))) (kF j) (cntL (ldS (kF j) (nF j) (Es yF j) (liveS (kF j) (nF j) (Es yF j))) (kF j) (b - t - 1)) (nw1 a)) + nm1 q * sL y9 (fun z => if (ldS (kF j) (nF j) (Es yF j) (liveS (kF j) (nF j) (Es yF j))) (nw1 q) z = 0 then 0 else (cntL (ldS (kF j) (nF j) (Es yF j) (liveS (kF j) (nF j) (Es yF j))) (kF j) (b - t - 1)) ((ldS (kF j) (nF j) (Es yF j) (liveS (kF j) (nF j) (Es yF j))) (nw1 q) z)) := by rw [md_new]; exact hsx
                              have hsxN := md_yes (sb := (ldS (kF j) (nF j) (Es yF j) (liveS (kF j) (nF j) (Es yF j)))) (x := nm1 q) (S := nw1 q) (y := y9) (Nat.lt_succ_self M) (by rw [va_up_self, hto]) ht0 hsxA
                              refine lv_aload_n hx hb (pc := 150) dX10_howMany_150 rfl (lv_at hl 2 rfl) ?_
                              refine va_get (v := .ref (ad 16)) hx hb hts (inX10_howMany_10) hown hKK.1 hP 0 rfl rfl 16 (by decide) (hts _ (List.mem_of_getElem? (i := 7) (by decide +kernel))) (fun _ h9 => h9) rfl (pc := 151) dX10_howMany_151 ?_
                              refine lv_aload_n hx hb (pc := 154) dX10_howMany_154 rfl (lv_at hl 2 rfl) ?_
                              refine va_get (v := .ref (ad 12)) hx hb hts (inX10_howMany_10) hown hKK.1 hP 0 rfl rfl 12 (by decide) (hts _ (List.mem_of_getElem? (i := 5) (by decide +kernel))) (fun _ h9 => h9) rfl (pc := 155) dX10_howMany_155 ?_
                              refine lv_iload hx hb (pc := 158) dX10_howMany_158 (lv_at hl 1 rfl) ?_
                              refine nv_iald (v := nI (M + 1)) (i := to) hx hb hKK hP 9 rfl (by omega) (by decide) (congrArg nI (va_up_self _ _ _)) (pc := 160) dX10_howMany_160 ?_
                              refine lv_iconst (v := nI 1) hx hb (pc := 161) dX10_howMany_161 (by decide) ?_
                              refine nv_isub (a := (M + 1)) (b := 1) hx hb (pc := 162) dX10_howMany_162 (by omega) ?_
                              first
                              | have hsxO := md_yes (sb := (ldS (kF j) (nF j) (Es yF j) (liveS (kF j) (nF j) (Es yF j)))) (x := nm1 q) (S := nw1 q) (y := y9) g2 (g3.trans hto) ht0 hsx
                              | skip
                              refine rr_top (v := .int (nI M)) (by rw [Nat.add_sub_cancel]) ?_
                              refine lv_dup2_11 hx hb (pc := 163) dX10_howMany_163 rfl rfl ?_
                              refine nv_lald (v := (va_up xm1 M (lN 0)) M) (i := M) hx hb hKK hP 13 rfl (by omega) (by decide) (rfl) (pc := 164) dX10_howMany_164 ?_
                              refine lv_aload_n hx hb (pc := 165) dX10_howMany_165 rfl (lv_at hl 2 rfl) ?_
                              refine va_get (v := .ref (ad 14)) hx hb hts (inX10_howMany_10) hown hKK.1 hP 0 rfl rfl 14 (by decide) (hts _ (List.mem_of_getElem? (i := 3) (by decide +kernel))) (fun _ h9 => h9) rfl (pc := 166) dX10_howMany_166 ?_
                              refine lv_iload hx hb (pc := 169) dX10_howMany_169 (lv_at hl 8 rfl) ?_
                              refine nv_lald (v := nm1 q) (i := q) hx hb hKK hP 11 rfl (by omega) (by decide) (rfl) (pc := 171) dX10_howMany_171 ?_
                              refine lv_ladd hx hb (pc := 172) dX10_howMany_172 ?_
                              refine nv_last (f := (va_up xm1 M (lN 0))) (x := (((va_up xm1 M (lN 0)) M) + (nm1 q))) (ws' := XM K om ad ns wl nf wd mt kF nF yF WD FL FW TD RW (va_up pl1 to (M + 1)) nw1 (va_up xt1 M to) vF wF qF bY gF nm1 (va_up (va_up xm1 M (lN 0)) M (((va_up xm1 M (lN 0)) M) + (nm1 q))) fR oF hF dF) (i := M) hx hb hKK hP hD hS 13 rfl (by omega) (by decide) (rfl) (pc := 173) dX10_howMany_173 (fun H locs hP hD hS => ?_)
                              refine lv_iinc (v := nI (y9 + 1)) (lv' := [(8, .int (nI (y9 + 1))), (6, .int (nI (M + 1))), (9, .int (nI to)), (0, .ref om), (1, .int (nI j)), (2, .int (nI b)), (3, .int (nI (liveS (kF j) (nF j) (Es yF j)))), (4, .int (nI N)), (5, .int (nI t)), (7, .int (nI q))]) hx hb (pc := 174) dX10_howMany_174 hl (k := 9) rfl (rr_inc _) (by decide) rfl (fun ls hl => ?_)
                              refine lv_goto (tgt := 78) hx hb (pc := 177) dX10_howMany_177 (by decide) ?_
                              exact ih78 (y9 + 1) (M + 1) (va_up pl1 to (M + 1)) (va_up xt1 M to) (va_up (va_up xm1 M (lN 0)) M (((va_up xm1 M (lN 0)) M) + (nm1 q))) _ _ hP hD hS (by omega) (by omega) (by first | exact hplcN | exact hplc) (by first | exact hxsN | exact hxs) (by first | exact hsxN | exact hsxO | exact hsxZ) ls (lv_sub hl [3, 4, 5, 6, 7, 8, 1, 9, 0] rfl)
                    exact L78 (5) 0 M pl1 xt1 xm1 _ _ hP hD hS (by omega) (Nat.zero_le _) (hplc) (hxs) (hsx0) ls (lv_sub hl [1, 2, 3, 4, 5, 6, 7, 8, 0] rfl)
              exact L68 (N + 1) 0 0 pl1 xt1 xm1 _ _ hP hD hS (by omega) (Nat.zero_le _) (PLC_0 hpl1) (fun i hi => absurd hi (Nat.not_lt_zero _)) (rfl) ls (lv_sub hl [2, 3, 4, 5, 6, 7, 1, 0] rfl)
        exact L56 (25) 0 1 pl (va_up nw 0 (liveS (kF j) (nF j) (Es yF j))) xt (va_up nm 0 (lN 1)) xm _ _ hP hD hS (by omega) (Nat.zero_le _) (by decide) (hpl) (hnw0) (hsm0) ls (lv_sub hl [3, 4, 5, 2, 1, 0] rfl)
    · refine lv_ldc2 (v := -2) hx hb (pc := 18) hown (hts _ (List.mem_of_getElem? (i := 1) (by decide +kernel))) dX10_howMany_18 ?_
      have hc : (isS ns x && rrin y (nI 0) (nI 24)) = false := by first | (rw [c5, c15]; rfl) | (rw [c5]; rfl)
      exact hret.2.1 _ _ 0 0 21 _ (-2) dX10_howMany_21 (by omega) (by omega) hS (⟨by unfold hwmA; rw [if_neg (by rw [hc]; decide)], _, _, _, _, _, hpl, hP⟩) rfl

