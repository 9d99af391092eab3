abbrev rmX10_reach : Room := { frames := 2, cells := 0, slots := 0, locals := 46 }
theorem inX10_reach_10 : ∀ w ∈ wsX100, w ∈ wsX10_reach := fun _ h => List.mem_cons_of_mem _ (List.mem_append_right _ h)
set_option maxHeartbeats 4000000 in
set_option maxRecDepth 100000 in
theorem c_X10_reach (l : Launch) (K : rr_K) (om : Nat) (ad : Nat → Nat) (ns wl nf wd mt : Nat) (kF nF yF WD FL FW TD RW pl nw xt vF wF qF bY gF : Nat → Nat) (nm xm : Nat → Int64) (fR oF hF dF : Nat → Int32) (x al q : Nat) (hx6 : x < 6) (hk4 : kF x ≤ 4) (hn : nF x ≤ 16) (hE : ∀ i, i < 64 → Es yF x i < 65536) (hal : al < 65536) (hqn : q < nF x) (hqa : al.testBit q = true) : MetP l K yX10_reach wsX10_reach rmX10_reach [.ref om, .int (nI x), .int (nI al), .int (nI q)] (fun H => va_P K.1 vwCl (XM K om ad ns wl nf wd mt kF nF yF WD FL FW TD RW pl nw xt vF wF qF bY gF nm xm fR oF hF dF) H) (.int (nI (rcF (nF x) (kF x) al (Es yF x) q))) := by
  refine metP_of (cc := cX10_reach) (maxL := 7) (ret := (some .int)) (rt := .int) (by decide) rfl rfl (Nat.le_of_ble_eq_true rfl) ?_
  intro p e s m args below meth c Q ls hEnt hKK hX hret hl
  obtain ⟨hx, hb, hml, hown, hts⟩ := hEnt
  have hP : va_P K.1 vwCl (XM K om ad ns wl nf wd mt kF nF yF WD FL FW TD RW pl nw xt vF wF qF bY gF nm xm fR oF hF dF) s.heap := hX
  have hl : lv_has ls 7 [(0, .ref om), (1, .int (nI x)), (2, .int (nI al)), (3, .int (nI q))] := hl
  refine lv_iconst (v := nI 0) hx hb (pc := 0) dX10_reach_0 (by decide) ?_
  refine lv_istore (lv' := [(4, .int (nI 0)), (0, .ref om), (1, .int (nI x)), (2, .int (nI al)), (3, .int (nI q))]) hx hb (pc := 1) dX10_reach_1 hl (by decide) rfl (fun ls hl => ?_)
  refine lv_aload_n hx hb (pc := 3) dX10_reach_3 rfl (lv_at hl 1 rfl) ?_
  refine lv_iload_n hx hb (pc := 4) dX10_reach_4 rfl (lv_at hl 2 rfl) ?_
  refine lv_iload_n hx hb (pc := 5) dX10_reach_5 rfl (lv_at hl 4 rfl) ?_
  refine rr_callP (rv := .int (nI (oU (kF x) (Es yF x) q))) (pc := 6) (va_runV (As := [.int (nI x), .int (nI q)]) (rest := []) ⟨hx, hb, hml, hown, hts⟩ (c_X10_outOf l K om ad ns wl nf wd mt kF nF yF WD FL FW TD RW pl nw xt vF wF qF bY gF nm xm fR oF hF dF x q hx6 hk4 hn hE (by omega)) (cwV 2 hts gX10_reach_X10_outOf rfl rfl rfl (by decide +kernel) ⟨Nat.le_of_ble_eq_true rfl, Nat.le_of_ble_eq_true rfl⟩) (rr_preV hKK (hP) (va_recv hKK.1 hP (ci := 10) (q0 := 0) rfl rfl)) rfl rfl hl.1 rfl (lv_room (Nat.le_of_ble_eq_true rfl)) dX10_reach_6 ⟨Nat.le_refl _, Nat.le_refl _⟩) ?_
  refine lv_iload_n hx hb (pc := 9) dX10_reach_9 rfl (lv_at hl 3 rfl) ?_
  refine nv_iand (a := (oU (kF x) (Es yF x) q)) (b := al) hx hb (pc := 10) dX10_reach_10 ?_
  refine rr_top (v := .int (nI (lO (kF x) al (Es yF x) q))) (by rw [lO_oU, if_pos hqa]) ?_
  refine lv_istore (lv' := [(5, .int (nI (lO (kF x) al (Es yF x) q))), (4, .int (nI 0)), (0, .ref om), (1, .int (nI x)), (2, .int (nI al)), (3, .int (nI q))]) hx hb (pc := 11) dX10_reach_11 hl (by decide) rfl (fun ls hl => ?_)
  have L13 : ∀ (fz : Nat) (S : Nat) (F : Nat) (hfz : 16 - pcn 16 S < fz) (hS : ∀ r, Nat.testBit S r = true → Rc (lO (kF x) al (Es yF x)) (nF x) q r) (hFr : ∀ r, Nat.testBit F r = true → Rc (lO (kF x) al (Es yF x)) (nF x) q r) (hC : (S = 0 ∧ F = lO (kF x) al (Es yF x) q) ∨ (F = stepR (lO (kF x) al (Es yF x)) (nF x) S ∧ sub (lO (kF x) al (Es yF x) q) S)) (ls : Array Slot) (hl : lv_has ls 7 [(0, .ref om), (1, .int (nI x)), (2, .int (nI al)), (3, .int (nI q)), (4, .int (nI S)), (5, .int (nI F))]), W p l e rmX10_reach s m args below meth c s.heap [] 0 0 Q (F0 m 13 ls []) := by
    intro fz; induction fz with
    | zero => intro S F hfz hS hFr hC ls hl; exact absurd hfz (Nat.not_lt_zero _)
    | succ fz ih13 =>
      intro S F hfz hS hFr hC ls hl
      have hsS : sub S al := sub_bit.mpr (fun r hr => sub_bit.mp (rcF_sub (k := kF x) (al := al) (E := (Es yF x)) hqn) r ((rcF_Rc hqn).mpr (hS r hr)))
      have hsF : sub F al := sub_bit.mpr (fun r hr => sub_bit.mp (rcF_sub (k := kF x) (al := al) (E := (Es yF x)) hqn) r ((rcF_Rc hqn).mpr (hFr r hr)))
      have hS6 := Nat.lt_of_le_of_lt (sub_le hsS) hal
      have hF6 := Nat.lt_of_le_of_lt (sub_le hsF) hal
      refine lv_iload hx hb (pc := 13) dX10_reach_13 (lv_at hl 5 rfl) ?_
      refine lv_iload hx hb (pc := 15) dX10_reach_15 (lv_at hl 4 rfl) ?_
      refine lv_iconst (v := -1) hx hb (pc := 17) dX10_reach_17 (by decide) ?_
      refine lv_ixor hx hb (pc := 18) dX10_reach_18 ?_
      refine lv_iand hx hb (pc := 19) dX10_reach_19 ?_
      refine rr_top (v := .int (nI (andN F S))) (by rw [andN_eq hF6]) ?_
      refine nv_if_eq (a := (andN F S)) (tgt := 85) hx hb (pc := 20) dX10_reach_20 (by decide) (Nat.lt_of_le_of_lt (andN_le F S) (by omega)) (fun c20 => ?_) (fun c20 => ?_)
      · refine lv_iload hx hb (pc := 85) dX10_reach_85 (lv_at hl 4 rfl) ?_
        exact hret.1 87 _ (nI S) dX10_reach_87 (by rw [reach_eq hqn hS ((andN_0 hF6).mp c20) hC]) (rfl)
      · have hS2 : ∀ r, Nat.testBit (S ||| F) r = true → Rc (lO (kF x) al (Es yF x)) (nF x) q r := fun r hr => by
          rw [Nat.testBit_or, Bool.or_eq_true] at hr
          exact hr.elim (hS r) (hFr r)
        have hs2 : sub (S ||| F) al := sub_bit.mpr (fun r hr => sub_bit.mp (rcF_sub (k := kF x) (al := al) (E := (Es yF x)) hqn) r ((rcF_Rc hqn).mpr (hS2 r hr)))
        have hSF6 : S ||| F < 65536 := Nat.or_lt_two_pow (n := 16) hS6 hF6
        have hlq : sub (lO (kF x) al (Es yF x) q) (S ||| F) := by
          refine sub_bit.mpr (fun r hr => ?_)
          rw [Nat.testBit_or, Bool.or_eq_true]
          rcases hC with h | h
          · exact Or.inr (by rw [h.2]; exact hr)
          · exact Or.inl (sub_bit.mp h.2 r hr)
        refine lv_iload hx hb (pc := 23) dX10_reach_23 (lv_at hl 4 rfl) ?_
        refine lv_iload hx hb (pc := 25) dX10_reach_25 (lv_at hl 5 rfl) ?_
        refine nv_ior (a := S) (b := F) hx hb (pc := 27) dX10_reach_27 ?_
        refine lv_istore (lv' := [(4, .int (nI (S ||| F))), (0, .ref om), (1, .int (nI x)), (2, .int (nI al)), (3, .int (nI q)), (5, .int (nI F))]) hx hb (pc := 28) dX10_reach_28 hl (by decide) rfl (fun ls hl => ?_)
        refine lv_iconst (v := nI 0) hx hb (pc := 30) dX10_reach_30 (by decide) ?_
        refine lv_istore (lv' := [(5, .int (nI 0)), (4, .int (nI (S ||| F))), (0, .ref om), (1, .int (nI x)), (2, .int (nI al)), (3, .int (nI q))]) hx hb (pc := 31) dX10_reach_31 hl (by decide) rfl (fun ls hl => ?_)
        refine lv_iconst (v := nI 0) hx hb (pc := 33) dX10_reach_33 (by decide) ?_
        refine lv_istore (lv' := [(6, .int (nI 0)), (5, .int (nI 0)), (4, .int (nI (S ||| F))), (0, .ref om), (1, .int (nI x)), (2, .int (nI al)), (3, .int (nI q))]) hx hb (pc := 34) dX10_reach_34 hl (by decide) rfl (fun ls hl => ?_)
        have L36 : ∀ (fz : Nat) (i : Nat) (hfz : nF x - i < fz) (hi : i ≤ nF x) (ls : Array Slot) (hl : lv_has ls 7 [(0, .ref om), (1, .int (nI x)), (2, .int (nI al)), (3, .int (nI q)), (4, .int (nI (S ||| F))), (5, .int (nI (orN i (stq (S ||| F) (lO (kF x) al (Es yF x)))))), (6, .int (nI i))]), W p l e rmX10_reach s m args below meth c s.heap [] 0 0 Q (F0 m 36 ls []) := by
          intro fz; induction fz with
          | zero => intro i hfz hi ls hl; exact absurd hfz (Nat.not_lt_zero _)
          | succ fz ih36 =>
            intro i hfz hi ls hl
            refine lv_iload hx hb (pc := 36) dX10_reach_36 (lv_at hl 6 rfl) ?_
            refine lv_aload_n hx hb (pc := 38) dX10_reach_38 rfl (lv_at hl 0 rfl) ?_
            refine va_get (v := .ref (ad 2)) hx hb hts (inX10_reach_10) hown hKK.1 hP 0 rfl rfl 2 (by decide) (hts _ (List.mem_of_getElem? (i := 1) (by decide +kernel))) (fun _ h9 => h9) rfl (pc := 39) dX10_reach_39 ?_
            refine lv_iload_n hx hb (pc := 42) dX10_reach_42 rfl (lv_at hl 1 rfl) ?_
            refine nv_iald (v := nI (nF x)) (i := x) hx hb hKK hP 2 rfl (by omega) (by decide) (rfl) (pc := 43) dX10_reach_43 ?_
            refine nv_icmp_ge (a := i) (b := (nF x)) (tgt := 82) hx hb (pc := 44) dX10_reach_44 (by decide) (by omega) (by omega) (fun c44 => ?_) (fun c44 => ?_)
            · refine lv_goto (tgt := 13) hx hb (pc := 82) dX10_reach_82 (by decide) ?_
              have e9 : i = nF x := by omega
              have hpl := or_pcn hS6 hF6 c20
              have hpl2 := pcn_le 16 (S ||| F)
              have hl : lv_has ls 7 [(0, .ref om), (1, .int (nI x)), (2, .int (nI al)), (3, .int (nI q)), (4, .int (nI (S ||| F))), (5, .int (nI (stepR (lO (kF x) al (Es yF x)) (nF x) (S ||| F)))), (6, .int (nI i))] := by rw [show stepR (lO (kF x) al (Es yF x)) (nF x) (S ||| F) = orN i (stq (S ||| F) (lO (kF x) al (Es yF x))) from by rw [e9, stq_step]]; exact hl
              exact ih13 (S ||| F) (stepR (lO (kF x) al (Es yF x)) (nF x) (S ||| F)) (by omega) (hS2) (reach_front hS2) (Or.inr ⟨rfl, hlq⟩) ls (lv_sub hl [0, 1, 2, 3, 4, 5] rfl)
            · refine lv_iload hx hb (pc := 47) dX10_reach_47 (lv_at hl 5 rfl) ?_
              refine lv_iload hx hb (pc := 49) dX10_reach_49 (lv_at hl 4 rfl) ?_
              refine lv_iload hx hb (pc := 51) dX10_reach_51 (lv_at hl 6 rfl) ?_
              refine nv_ishr (a := (S ||| F)) (b := i) hx hb (pc := 53) dX10_reach_53 (by omega) (by omega) ?_
              refine lv_iconst (v := nI 1) hx hb (pc := 54) dX10_reach_54 (by decide) ?_
              refine nv_bit (a := (S ||| F)) (q := i) hx hb (pc := 55) dX10_reach_55 ?_
              refine lv_iconst (v := nI 1) hx hb (pc := 56) dX10_reach_56 (by decide) ?_
              refine nv_icmp_ne_b1 (tgt := 72) hx hb (pc := 57) dX10_reach_57 (by decide) (fun c57 => ?_) (fun c57 => ?_)
              · refine lv_iconst (v := nI 0) hx hb (pc := 72) dX10_reach_72 (by decide) ?_
                refine nv_ior (a := (orN i (stq (S ||| F) (lO (kF x) al (Es yF x))))) (b := 0) hx hb (pc := 73) dX10_reach_73 ?_
                refine lv_istore (lv' := [(5, .int (nI ((orN i (stq (S ||| F) (lO (kF x) al (Es yF x)))) ||| 0))), (0, .ref om), (1, .int (nI x)), (2, .int (nI al)), (3, .int (nI q)), (4, .int (nI (S ||| F))), (6, .int (nI i))]) hx hb (pc := 74) dX10_reach_74 hl (by decide) rfl (fun ls hl => ?_)
                refine lv_iinc (v := nI (i + 1)) (lv' := [(6, .int (nI (i + 1))), (5, .int (nI ((orN i (stq (S ||| F) (lO (kF x) al (Es yF x)))) ||| 0))), (0, .ref om), (1, .int (nI x)), (2, .int (nI al)), (3, .int (nI q)), (4, .int (nI (S ||| F)))]) hx hb (pc := 76) dX10_reach_76 hl (k := 6) rfl (rr_inc _) (by decide) rfl (fun ls hl => ?_)
                refine lv_goto (tgt := 36) hx hb (pc := 79) dX10_reach_79 (by decide) ?_
                have hl : lv_has ls 7 [(6, .int (nI (i + 1))), (5, .int (nI (orN (i + 1) (stq (S ||| F) (lO (kF x) al (Es yF x)))))), (0, .ref om), (1, .int (nI x)), (2, .int (nI al)), (3, .int (nI q)), (4, .int (nI (S ||| F)))] := by rw [show orN (i + 1) (stq (S ||| F) (lO (kF x) al (Es yF x))) = (orN i (stq (S ||| F) (lO (kF x) al (Es yF x)))) ||| 0 from by rw [orN_succ]; unfold stq; first | (rw [if_pos c57]; done) | (rw [if_neg (by rw [c57]; decide)]; done)]; exact hl
                exact ih36 (i + 1) (by omega) (by omega) ls (lv_sub hl [2, 3, 4, 5, 6, 1, 0] rfl)
              · refine lv_aload_n hx hb (pc := 60) dX10_reach_60 rfl (lv_at hl 0 rfl) ?_
                refine lv_iload_n hx hb (pc := 61) dX10_reach_61 rfl (lv_at hl 1 rfl) ?_
                refine lv_iload hx hb (pc := 62) dX10_reach_62 (lv_at hl 6 rfl) ?_
                refine rr_callP (rv := .int (nI (oU (kF x) (Es yF x) i))) (pc := 64) (va_runV (As := [.int (nI x), .int (nI i)]) (rest := [.int (nI (orN i (stq (S ||| F) (lO (kF x) al (Es yF x)))))]) ⟨hx, hb, hml, hown, hts⟩ (c_X10_outOf l K om ad ns wl nf wd mt kF nF yF WD FL FW TD RW pl nw xt vF wF qF bY gF nm xm fR oF hF dF x i hx6 hk4 hn hE (by omega)) (cwV 2 hts gX10_reach_X10_outOf rfl rfl rfl (by decide +kernel) ⟨Nat.le_of_ble_eq_true rfl, Nat.le_of_ble_eq_true rfl⟩) (rr_preV hKK (hP) (va_recv hKK.1 hP (ci := 10) (q0 := 0) rfl rfl)) rfl rfl hl.1 rfl (lv_room (Nat.le_of_ble_eq_true rfl)) dX10_reach_64 ⟨Nat.le_refl _, Nat.le_refl _⟩) ?_
                refine lv_iload_n hx hb (pc := 67) dX10_reach_67 rfl (lv_at hl 2 rfl) ?_
                refine nv_iand (a := (oU (kF x) (Es yF x) i)) (b := al) hx hb (pc := 68) dX10_reach_68 ?_
                refine rr_top (v := .int (nI (lO (kF x) al (Es yF x) i))) (by rw [lO_oU, if_pos (sub_bit.mp hs2 i c57)]) ?_
                refine lv_goto (tgt := 73) hx hb (pc := 69) dX10_reach_69 (by decide) ?_
                refine nv_ior (a := (orN i (stq (S ||| F) (lO (kF x) al (Es yF x))))) (b := (lO (kF x) al (Es yF x) i)) hx hb (pc := 73) dX10_reach_73 ?_
                refine lv_istore (lv' := [(5, .int (nI ((orN i (stq (S ||| F) (lO (kF x) al (Es yF x)))) ||| (lO (kF x) al (Es yF x) i)))), (0, .ref om), (1, .int (nI x)), (2, .int (nI al)), (3, .int (nI q)), (4, .int (nI (S ||| F))), (6, .int (nI i))]) hx hb (pc := 74) dX10_reach_74 hl (by decide) rfl (fun ls hl => ?_)
                refine lv_iinc (v := nI (i + 1)) (lv' := [(6, .int (nI (i + 1))), (5, .int (nI ((orN i (stq (S ||| F) (lO (kF x) al (Es yF x)))) ||| (lO (kF x) al (Es yF x) i)))), (0, .ref om), (1, .int (nI x)), (2, .int (nI al)), (3, .int (nI q)), (4, .int (nI (S ||| F)))]) hx hb (pc := 76) dX10_reach_76 hl (k := 6) rfl (rr_inc _) (by decide) rfl (fun ls hl => ?_)
                refine lv_goto (tgt := 36) hx hb (pc := 79) dX10_reach_79 (by decide) ?_
                have hl : lv_has ls 7 [(6, .int (nI (i + 1))), (5, .int (nI (orN (i + 1) (stq (S ||| F) (lO (kF x) al (Es yF x)))))), (0, .ref om), (1, .int (nI x)), (2, .int (nI al)), (3, .int (nI q)), (4, .int (nI (S ||| F)))] := by rw [show orN (i + 1) (stq (S ||| F) (lO (kF x) al (Es yF x))) = (orN i (stq (S ||| F) (lO (kF x) al (Es yF x)))) ||| (lO (kF x) al (Es yF x) i) from by rw [orN_succ]; unfold stq; first | (rw [if_pos c57]; done) | (rw [if_neg (by rw [c57]; decide)]; done)]; exact hl
                exact ih36 (i + 1) (by omega) (by omega) ls (lv_sub hl [2, 3, 4, 5, 6, 1, 0] rfl)
        have hl : lv_has ls 7 [(6, .int (nI 0)), (5, .int (nI (orN 0 (stq (S ||| F) (lO (kF x) al (Es yF x)))))), (4, .int (nI (S ||| F))), (0, .ref om), (1, .int (nI x)), (2, .int (nI al)), (3, .int (nI q))] := by rw [show orN 0 (stq (S ||| F) (lO (kF x) al (Es yF x))) = 0 from rfl]; exact hl
        exact L36 (17) 0 (by omega) (Nat.zero_le _) ls (lv_sub hl [3, 4, 5, 6, 2, 1, 0] rfl)
  exact L13 (17) 0 (lO (kF x) al (Es yF x) q) (by omega) (fun r hr => by rw [Nat.zero_testBit] at hr; cases hr) (fun r hr => Rc_one hr) (Or.inl ⟨rfl, rfl⟩) ls (lv_sub hl [2, 3, 4, 5, 1, 0] rfl)

abbrev rmX10_partOf : Room := { frames := 3, cells := 0, slots := 0, locals := 72 }
set_option maxHeartbeats 4000000 in
set_option maxRecDepth 100000 in
theorem c_X10_partOf (l : Launch) (K : rr_K) (om : Nat) (ad : Nat → Nat) (ns wl nf wd mt : Nat) (kF nF yF WD FL FW TD RW pl nw xt vF wF qF bY gF : Nat → Nat) (nm xm : Nat → Int64) (fR oF hF dF : Nat → Int32) (x al q : Nat) (hx6 : x < 6) (hk4 : kF x ≤ 4) (hn : nF x ≤ 16) (hE : ∀ i, i < 64 → Es yF x i < 65536) (hal : al < 65536) (hqn : q < nF x) (hqa : al.testBit q = true) : MetP l K yX10_partOf wsX10_partOf rmX10_partOf [.ref om, .int (nI x), .int (nI al), .int (nI q)] (fun H => va_P K.1 vwCl (XM K om ad ns wl nf wd mt kF nF yF WD FL FW TD RW pl nw xt vF wF qF bY gF nm xm fR oF hF dF) H) (.int (nI (lst16 (prM (nF x) (kF x) al (Es yF x) q)))) := by
  refine metP_of (cc := cX10_partOf) (maxL := 6) (ret := (some .int)) (rt := .int) (by decide) rfl rfl (Nat.le_of_ble_eq_true rfl) ?_
  intro p e s m args below meth c Q ls hEnt hKK hX hret hl
  obtain ⟨hx, hb, hml, hown, hts⟩ := hEnt
  have hP : va_P K.1 vwCl (XM K om ad ns wl nf wd mt kF nF yF WD FL FW TD RW pl nw xt vF wF qF bY gF nm xm fR oF hF dF) s.heap := hX
  have hl : lv_has ls 6 [(0, .ref om), (1, .int (nI x)), (2, .int (nI al)), (3, .int (nI q))] := hl
  refine lv_aload_n hx hb (pc := 0) dX10_partOf_0 rfl (lv_at hl 0 rfl) ?_
  refine lv_iload_n hx hb (pc := 1) dX10_partOf_1 rfl (lv_at hl 1 rfl) ?_
  refine lv_iload_n hx hb (pc := 2) dX10_partOf_2 rfl (lv_at hl 2 rfl) ?_
  refine lv_iload_n hx hb (pc := 3) dX10_partOf_3 rfl (lv_at hl 3 rfl) ?_
  refine rr_callP (rv := .int (nI (rcF (nF x) (kF x) al (Es yF x) q))) (pc := 4) (va_runV (As := [.int (nI x), .int (nI al), .int (nI q)]) (rest := []) ⟨hx, hb, hml, hown, hts⟩ (c_X10_reach l K om ad ns wl nf wd mt kF nF yF WD FL FW TD RW pl nw xt vF wF qF bY gF nm xm fR oF hF dF x al q hx6 hk4 hn hE hal hqn hqa) (cwV 3 hts gX10_partOf_X10_reach rfl rfl rfl (by decide +kernel) ⟨Nat.le_of_ble_eq_true rfl, Nat.le_of_ble_eq_true rfl⟩) (rr_preV hKK (hP) (va_recv hKK.1 hP (ci := 10) (q0 := 0) rfl rfl)) rfl rfl hl.1 rfl (lv_room (Nat.le_of_ble_eq_true rfl)) dX10_partOf_4 ⟨Nat.le_refl _, Nat.le_refl _⟩) ?_
  refine lv_istore (lv' := [(4, .int (nI (rcF (nF x) (kF x) al (Es yF x) q))), (0, .ref om), (1, .int (nI x)), (2, .int (nI al)), (3, .int (nI q))]) hx hb (pc := 7) dX10_partOf_7 hl (by decide) rfl (fun ls hl => ?_)
  have hsr := rcF_sub (k := kF x) (al := al) (E := (Es yF x)) hqn
  have hr6 := Nat.lt_of_le_of_lt (sub_le hsr) hal
  refine lv_iconst (v := nI 0) hx hb (pc := 9) dX10_partOf_9 (by decide) ?_
  refine lv_istore (lv' := [(5, .int (nI 0)), (4, .int (nI (rcF (nF x) (kF x) al (Es yF x) q))), (0, .ref om), (1, .int (nI x)), (2, .int (nI al)), (3, .int (nI q))]) hx hb (pc := 10) dX10_partOf_10 hl (by decide) rfl (fun ls hl => ?_)
  have L12 : ∀ (fz : Nat) (i : Nat) (hfz : q - i < fz) (hi : i ≤ q) (hno : ∀ z, z < i → ¬ ((rcF (nF x) (kF x) al (Es yF x) q).testBit z = true ∧ (rcF (nF x) (kF x) al (Es yF x) z).testBit q = true)) (ls : Array Slot) (hl : lv_has ls 6 [(0, .ref om), (1, .int (nI x)), (2, .int (nI al)), (3, .int (nI q)), (4, .int (nI (rcF (nF x) (kF x) al (Es yF x) q))), (5, .int (nI i))]), W p l e rmX10_partOf s m args below meth c s.heap [] 0 0 Q (F0 m 12 ls []) := by
    intro fz; induction fz with
    | zero => intro i hfz hi hno ls hl; exact absurd hfz (Nat.not_lt_zero _)
    | succ fz ih12 =>
      intro i hfz hi hno ls hl
      refine lv_iload hx hb (pc := 12) dX10_partOf_12 (lv_at hl 5 rfl) ?_
      refine lv_iload_n hx hb (pc := 14) dX10_partOf_14 rfl (lv_at hl 3 rfl) ?_
      refine nv_icmp_ge (a := i) (b := q) (tgt := 54) hx hb (pc := 15) dX10_partOf_15 (by decide) (by omega) (by omega) (fun c15 => ?_) (fun c15 => ?_)
      · refine lv_iload_n hx hb (pc := 54) dX10_partOf_54 rfl (lv_at hl 3 rfl) ?_
        have e9 : i = q := by omega
        exact hret.1 55 _ (nI q) dX10_partOf_55 (by rw [part_own hn hqn (fun z hz => hno z (by omega))]) (rfl)
      · refine lv_iload hx hb (pc := 18) dX10_partOf_18 (lv_at hl 4 rfl) ?_
        refine lv_iload hx hb (pc := 20) dX10_partOf_20 (lv_at hl 5 rfl) ?_
        refine nv_ishr (a := (rcF (nF x) (kF x) al (Es yF x) q)) (b := i) hx hb (pc := 22) dX10_partOf_22 (by omega) (by omega) ?_
        refine lv_iconst (v := nI 1) hx hb (pc := 23) dX10_partOf_23 (by decide) ?_
        refine nv_bit (a := (rcF (nF x) (kF x) al (Es yF x) q)) (q := i) hx hb (pc := 24) dX10_partOf_24 ?_
        refine lv_iconst (v := nI 1) hx hb (pc := 25) dX10_partOf_25 (by decide) ?_
        refine nv_icmp_ne_b1 (tgt := 48) hx hb (pc := 26) dX10_partOf_26 (by decide) (fun c26 => ?_) (fun c26 => ?_)
        · have hnA : ∀ z, z < i + 1 → ¬ ((rcF (nF x) (kF x) al (Es yF x) q).testBit z = true ∧ (rcF (nF x) (kF x) al (Es yF x) z).testBit q = true) := by
            intro z hz hh
            rcases Nat.lt_or_ge z i with w | w
            · exact hno z w hh
            · obtain rfl : z = i := by omega
              rw [c26] at hh
              exact absurd hh.1 (by decide)
          refine lv_iinc (v := nI (i + 1)) (lv' := [(5, .int (nI (i + 1))), (0, .ref om), (1, .int (nI x)), (2, .int (nI al)), (3, .int (nI q)), (4, .int (nI (rcF (nF x) (kF x) al (Es yF x) q)))]) hx hb (pc := 48) dX10_partOf_48 hl (k := 5) rfl (rr_inc _) (by decide) rfl (fun ls hl => ?_)
          refine lv_goto (tgt := 12) hx hb (pc := 51) dX10_partOf_51 (by decide) ?_
          exact ih12 (i + 1) (by omega) (by omega) (by first | exact hnA | exact hnB) ls (lv_sub hl [1, 2, 3, 4, 5, 0] rfl)
        · refine lv_aload_n hx hb (pc := 29) dX10_partOf_29 rfl (lv_at hl 0 rfl) ?_
          refine lv_iload_n hx hb (pc := 30) dX10_partOf_30 rfl (lv_at hl 1 rfl) ?_
          refine lv_iload_n hx hb (pc := 31) dX10_partOf_31 rfl (lv_at hl 2 rfl) ?_
          refine lv_iload hx hb (pc := 32) dX10_partOf_32 (lv_at hl 5 rfl) ?_
          have hia := sub_bit.mp hsr i c26
          refine rr_callP (rv := .int (nI (rcF (nF x) (kF x) al (Es yF x) i))) (pc := 34) (va_runV (As := [.int (nI x), .int (nI al), .int (nI i)]) (rest := []) ⟨hx, hb, hml, hown, hts⟩ (c_X10_reach l K om ad ns wl nf wd mt kF nF yF WD FL FW TD RW pl nw xt vF wF qF bY gF nm xm fR oF hF dF x al i hx6 hk4 hn hE hal (by omega) hia) (cwV 3 hts gX10_partOf_X10_reach rfl rfl rfl (by decide +kernel) ⟨Nat.le_of_ble_eq_true rfl, Nat.le_of_ble_eq_true rfl⟩) (rr_preV hKK (hP) (va_recv hKK.1 hP (ci := 10) (q0 := 0) rfl rfl)) rfl rfl hl.1 rfl (lv_room (Nat.le_of_ble_eq_true rfl)) dX10_partOf_34 ⟨Nat.le_refl _, Nat.le_refl _⟩) ?_
          have hri := Nat.lt_of_le_of_lt (sub_le (rcF_sub (k := kF x) (al := al) (E := (Es yF x)) (show i < nF x by omega))) hal
          refine lv_iload_n hx hb (pc := 37) dX10_partOf_37 rfl (lv_at hl 3 rfl) ?_
          refine nv_ishr (a := (rcF (nF x) (kF x) al (Es yF x) i)) (b := q) hx hb (pc := 38) dX10_partOf_38 (by omega) (by omega) ?_
          refine lv_iconst (v := nI 1) hx hb (pc := 39) dX10_partOf_39 (by decide) ?_
          refine nv_bit (a := (rcF (nF x) (kF x) al (Es yF x) i)) (q := q) hx hb (pc := 40) dX10_partOf_40 ?_
          refine lv_iconst (v := nI 1) hx hb (pc := 41) dX10_partOf_41 (by decide) ?_
          refine nv_icmp_ne_b1 (tgt := 48) hx hb (pc := 42) dX10_partOf_42 (by decide) (fun c42 => ?_) (fun c42 => ?_)
          · have hnB : ∀ z, z < i + 1 → ¬ ((rcF (nF x) (kF x) al (Es yF x) q).testBit z = true ∧ (rcF (nF x) (kF x) al (Es yF x) z).testBit q = true) := by
              intro z hz hh
              rcases Nat.lt_or_ge z i with w | w
              · exact hno z w hh
              · obtain rfl : z = i := by omega
                rw [c42] at hh
                exact absurd hh.2 (by decide)
            refine lv_iinc (v := nI (i + 1)) (lv' := [(5, .int (nI (i + 1))), (0, .ref om), (1, .int (nI x)), (2, .int (nI al)), (3, .int (nI q)), (4, .int (nI (rcF (nF x) (kF x) al (Es yF x) q)))]) hx hb (pc := 48) dX10_partOf_48 hl (k := 5) rfl (rr_inc _) (by decide) rfl (fun ls hl => ?_)
            refine lv_goto (tgt := 12) hx hb (pc := 51) dX10_partOf_51 (by decide) ?_
            exact ih12 (i + 1) (by omega) (by omega) (by first | exact hnA | exact hnB) ls (lv_sub hl [1, 2, 3, 4, 5, 0] rfl)
          · refine lv_iload hx hb (pc := 45) dX10_partOf_45 (lv_at hl 5 rfl) ?_
            exact hret.1 47 _ (nI i) dX10_partOf_47 (by rw [part_at hn (by omega) hqn c26 c42 hno]) (rfl)
  exact L12 (17) 0 (by omega) (Nat.zero_le _) (fun z hz => absurd hz (Nat.not_lt_zero _)) ls (lv_sub hl [2, 3, 4, 5, 1, 0] rfl)

abbrev rmX10_part : Room := { frames := 4, cells := 0, slots := 0, locals := 97 }
set_option maxHeartbeats 4000000 in
set_option maxRecDepth 100000 in
theorem c_X10_part (l : Launch) (K : rr_K) (om : Nat) (ad : Nat → Nat) (ns wl nf wd mt : Nat) (kF nF yF WD FL FW TD RW pl nw xt vF wF qF bY gF : Nat → Nat) (nm xm : Nat → Int64) (fR oF hF dF : Nat → Int32) (x q : Int32) (hS9 : SOK ns kF nF yF) : MetP l K yX10_part wsX10_part rmX10_part [.ref om, .int x, .int q] (fun H => va_P K.1 vwCl (XM K om ad ns wl nf wd mt kF nF yF WD FL FW TD RW pl nw xt vF wF qF bY gF nm xm fR oF hF dF) H) (.int (parA ns kF nF yF x q)) := by
  refine metP_of (cc := cX10_part) (maxL := 4) (ret := (some .int)) (rt := .int) (by decide) rfl rfl (Nat.le_of_ble_eq_true rfl) ?_
  intro p e s m args below meth c Q ls hEnt hKK hX hret hl
  obtain ⟨hx, hb, hml, hown, hts⟩ := hEnt
  have hP : va_P K.1 vwCl (XM K om ad ns wl nf wd mt kF nF yF WD FL FW TD RW pl nw xt vF wF qF bY gF nm xm fR oF hF dF) s.heap := hX
  have hl : lv_has ls 4 [(0, .ref om), (1, .int x), (2, .int q)] := hl
  refine lv_aload_n hx hb (pc := 0) dX10_part_0 rfl (lv_at hl 0 rfl) ?_
  refine lv_iload_n hx hb (pc := 1) dX10_part_1 rfl (lv_at hl 1 rfl) ?_
  refine lv_iload_n hx hb (pc := 2) dX10_part_2 rfl (lv_at hl 2 rfl) ?_
  refine rr_callP (rv := .int (bI (okQ ns nF x q))) (pc := 3) (va_runV (As := [.int x, .int q]) (rest := []) ⟨hx, hb, hml, hown, hts⟩ (c_X10_isState l K om ad ns wl nf wd mt kF nF yF WD FL FW TD RW pl nw xt vF wF qF bY gF nm xm fR oF hF dF x q hS9.1) (cwV 2 hts gX10_part_X10_isState rfl rfl rfl (by decide +kernel) ⟨Nat.le_of_ble_eq_true rfl, Nat.le_of_ble_eq_true rfl⟩) (rr_preV hKK (hP) (va_recv hKK.1 hP (ci := 10) (q0 := 0) rfl rfl)) rfl rfl hl.1 rfl (lv_room (Nat.le_of_ble_eq_true rfl)) dX10_part_3 ⟨Nat.le_refl _, Nat.le_refl _⟩) ?_
  refine nv_if_ne_b (a := (okQ ns nF x q)) (tgt := 12) hx hb (pc := 6) dX10_part_6 (by decide) (fun c6 => ?_) (fun c6 => ?_)
  · obtain ⟨j, u, rfl, rfl, hj6, hu9⟩ := okQ_of hS9 c6
    obtain ⟨s1j, s2j, s3j, s4j, s5j⟩ := hS9.2 j hj6
    have hns := hS9.1
    have ecj : cN (nI j) = j := cN_nI (by omega)
    have ecu : cN (nI u) = u := cN_nI (by omega)
    have hlv := liveS_lt16 (k := kF j) (E := Es yF j) s4j
    refine lv_aload_n hx hb (pc := 12) dX10_part_12 rfl (lv_at hl 0 rfl) ?_
    refine lv_iload_n hx hb (pc := 13) dX10_part_13 rfl (lv_at hl 1 rfl) ?_
    refine rr_callP (rv := .int (nI (liveS (kF j) (nF j) (Es yF j)))) (pc := 14) (va_runV (As := [.int (nI j)]) (rest := []) ⟨hx, hb, hml, hown, hts⟩ (c_X10_liveOf l K om ad ns wl nf wd mt kF nF yF WD FL FW TD RW pl nw xt vF wF qF bY gF nm xm fR oF hF dF j (by omega) s2j s4j s5j) (cwV 1 hts gX10_part_X10_liveOf rfl rfl rfl (by decide +kernel) ⟨Nat.le_of_ble_eq_true rfl, Nat.le_of_ble_eq_true rfl⟩) (rr_preV hKK (hP) (va_recv hKK.1 hP (ci := 10) (q0 := 0) rfl rfl)) rfl rfl hl.1 rfl (lv_room (Nat.le_of_ble_eq_true rfl)) dX10_part_14 ⟨Nat.le_refl _, Nat.le_refl _⟩) ?_
    refine lv_istore_n (lv' := [(3, .int (nI (liveS (kF j) (nF j) (Es yF j)))), (0, .ref om), (1, .int (nI j)), (2, .int (nI u))]) hx hb (pc := 17) dX10_part_17 rfl hl (by decide) rfl (fun ls hl => ?_)
    refine lv_iload_n hx hb (pc := 18) dX10_part_18 rfl (lv_at hl 0 rfl) ?_
    refine lv_iload_n hx hb (pc := 19) dX10_part_19 rfl (lv_at hl 3 rfl) ?_
    refine nv_ishr (a := (liveS (kF j) (nF j) (Es yF j))) (b := u) hx hb (pc := 20) dX10_part_20 (by omega) (by omega) ?_
    refine lv_iconst (v := nI 1) hx hb (pc := 21) dX10_part_21 (by decide) ?_
    refine nv_bit (a := (liveS (kF j) (nF j) (Es yF j))) (q := u) hx hb (pc := 22) dX10_part_22 ?_
    refine nv_if_ne_b (a := ((liveS (kF j) (nF j) (Es yF j)).testBit u)) (tgt := 30) hx hb (pc := 23) dX10_part_23 (by decide) (fun c23 => ?_) (fun c23 => ?_)
    · refine lv_aload_n hx hb (pc := 30) dX10_part_30 rfl (lv_at hl 1 rfl) ?_
      refine lv_iload_n hx hb (pc := 31) dX10_part_31 rfl (lv_at hl 2 rfl) ?_
      refine lv_iload_n hx hb (pc := 32) dX10_part_32 rfl (lv_at hl 0 rfl) ?_
      refine lv_iload_n hx hb (pc := 33) dX10_part_33 rfl (lv_at hl 3 rfl) ?_
      refine rr_callP (rv := .int (nI (lst16 (prM (nF j) (kF j) (liveS (kF j) (nF j) (Es yF j)) (Es yF j) u)))) (pc := 34) (va_runV (As := [.int (nI j), .int (nI (liveS (kF j) (nF j) (Es yF j))), .int (nI u)]) (rest := []) ⟨hx, hb, hml, hown, hts⟩ (c_X10_partOf l K om ad ns wl nf wd mt kF nF yF WD FL FW TD RW pl nw xt vF wF qF bY gF nm xm fR oF hF dF j (liveS (kF j) (nF j) (Es yF j)) u (by omega) s2j s4j s5j hlv hu9 c23) (cwV 3 hts gX10_part_X10_partOf rfl rfl rfl (by decide +kernel) ⟨Nat.le_of_ble_eq_true rfl, Nat.le_of_ble_eq_true rfl⟩) (rr_preV hKK (hP) (va_recv hKK.1 hP (ci := 10) (q0 := 0) rfl rfl)) rfl rfl hl.1 rfl (lv_room (Nat.le_of_ble_eq_true rfl)) dX10_part_34 ⟨Nat.le_refl _, Nat.le_refl _⟩) ?_
      exact hret.1 37 _ (nI (lst16 (prM (nF j) (kF j) (liveS (kF j) (nF j) (Es yF j)) (Es yF j) u))) dX10_part_37 (by unfold parA; rw [if_pos c6, ecj, ecu]; first | (rw [if_pos c23]; done) | (rw [if_neg (by rw [c23]; decide)]; done)) (rfl)
    · refine lv_iconst (v := -1) hx hb (pc := 26) dX10_part_26 (by decide) ?_
      refine lv_goto (tgt := 37) hx hb (pc := 27) dX10_part_27 (by decide) ?_
      exact hret.1 37 _ (-1) dX10_part_37 (by unfold parA; rw [if_pos c6, ecj, ecu]; first | (rw [if_pos c23]; done) | (rw [if_neg (by rw [c23]; decide)]; done)) (rfl)
  · refine lv_bipush (v := -2) hx hb (pc := 9) dX10_part_9 (by decide) ?_
    exact hret.1 11 _ (-2) dX10_part_11 (by unfold parA; rw [if_neg (by rw [c6]; decide)]) (rfl)

