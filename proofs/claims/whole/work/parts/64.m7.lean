abbrev rmX10_reach : Room := { frames := 2, cells := 0, slots := 0, locals := 46 }
theorem inX10_reach_10 : ∀ w ∈ wsX100, w ∈ wsX10_reach := fun _ h => List.mem_cons_of_mem _ (List.mem_append_right _ h)
set_option maxHeartbeats 4000000 in
set_option maxRecDepth 100000 in
theorem c_X10_reach (l : Launch) (K : rr_K) (om : Nat) (ad : Nat → Nat) (ns wl nf wd mt : Nat) (kF nF yF WD FL FW TD RW pl nw xt vF wF qF bY gF : Nat → Nat) (nm xm : Nat → Int64) (fR oF hF dF : Nat → Int32) (x al q : Nat) (hx6 : x < 6) (hk4 : kF x ≤ 4) (hn : nF x ≤ 16) (hE : ∀ i, i < 64 → Es yF x i < 65536) (hal : al < 65536) (hqn : q < nF x) (hqa : al.testBit q = true) : MetP l K yX10_reach wsX10_reach rmX10_reach [.ref om, .int (nI x), .int (nI al), .int (nI q)] (fun H => va_P K.1 vwCl (XM K om ad ns wl nf wd mt kF nF yF WD FL FW TD RW pl nw xt vF wF qF bY gF nm xm fR oF hF dF) H) (.int (nI (rcF (nF x) (kF x) al (Es yF x) q))) := by
  refine metP_of (cc := cX10_reach) (maxL := 7) (ret := (some .int)) (rt := .int) (by decide) rfl rfl (Nat.le_of_ble_eq_true rfl) ?_
  intro p e s m args below meth c Q ls hEnt hKK hX hret hl
  obtain ⟨hx, hb, hml, hown, hts⟩ := hEnt
  have hP : va_P K.1 vwCl (XM K om ad ns wl nf wd mt kF nF yF WD FL FW TD RW pl nw xt vF wF qF bY gF nm xm fR oF hF dF) s.heap := hX
  have hl : lv_has ls 7 [(0, .ref om), (1, .int (nI x)), (2, .int (nI al)), (3, .int (nI q))] := hl
  refine lv_iconst (v := nI 0) hx hb (pc := 0) dX10_reach_0 (by decide) ?_
  refine lv_istore (lv' := [(4, .int (nI 0)), (0, .ref om), (1, .int (nI x)), (2, .int (nI al)), (3, .int (nI q))]) hx hb (pc := 1) dX10_reach_1 hl (by decide) rfl (fun ls hl => ?_)
  refine lv_aload_n hx hb (pc := 3) dX10_reach_3 rfl (lv_at hl 1 rfl) ?_
  refine lv_iload_n hx hb (pc := 4) dX10_reach_4 rfl (lv_at hl 2 rfl) ?_
  refine lv_iload_n hx hb (pc := 5) dX10_reach_5 rfl (lv_at hl 4 rfl) ?_
  refine rr_callP (rv := .int (nI (oU (kF x) (Es yF x) q))) (pc := 6) (va_runV (As := [.int (nI x), .int (nI q)]) (rest := []) ⟨hx, hb, hml, hown, hts⟩ (c_X10_outOf l K om ad ns wl nf wd mt kF nF yF WD FL FW TD RW pl nw xt vF wF qF bY gF nm xm fR oF hF dF x q hx6 hk4 hn hE (by omega)) (cwV 2 hts gX10_reach_X10_outOf rfl rfl rfl (by decide +kernel) ⟨Nat.le_of_ble_eq_true rfl, Nat.le_of_ble_eq_true rfl⟩) (rr_preV hKK (hP) (va_recv hKK.1 hP (ci := 10) (q0 := 0) rfl rfl)) rfl rfl hl.1 rfl (lv_room (Nat.le_of_ble_eq_true rfl)) dX10_reach_6 ⟨Nat.le_refl _, Nat.le_refl _⟩) ?_
  refine lv_iload_n hx hb (pc := 9) dX10_reach_9 rfl (lv_at hl 3 rfl) ?_
  refine nv_iand (a := (oU (kF x) (Es yF x) q)) (b := al) hx hb (pc := 10) dX10_reach_10 ?_
  refine rr_top (v := .int (nI (lO (kF x) al (Es yF x) q))) (by rw [lO_oU, if_pos hqa]) ?_
  refine lv_istore (lv' := [(5, .int (nI (lO (kF x) al (Es yF x) q))), (4, .int (nI 0)), (0, .ref om), (1, .int (nI x)), (2, .int (nI al)), (3, .int (nI q))]) hx hb (pc := 11) dX10_reach_11 hl (by decide) rfl (fun ls hl => ?_)
  have L13 : ∀ (fz : Nat) (S : Nat) (F : Nat) (hfz : 16 - pcn 16 S < fz) (hS : ∀ r, Nat.testBit S r = true → Rc (lO (kF x) al (Es yF x)) (nF x) q r) (hFr : ∀ r, Nat.testBit F r = true → Rc (lO (kF x) al (Es yF x)) (nF x) q r) (hC : (S = 0 ∧ F = lO (kF x) al (Es yF x) q) ∨ (F = stepR (lO (kF x) al (Es yF x)) (nF x) S ∧ sub (lO (kF x) al (Es yF x) q) S)) (ls : Array Slot) (hl : lv_has ls 7 [(0, .ref om), (1, .int (nI x)), (2, .int (nI al)), (3, .int (nI q)), (4, .int (nI S)), (5, .int (nI F))]), W p l e rmX10_reach s m args below meth c s.heap [] 0 0 Q (F0 m 13 ls []) := by
    intro fz; induction fz with
    | zero => intro S F hfz hS hFr hC ls hl; exact absurd hfz (Nat.not_lt_zero _)
    | succ fz ih13 =>
      intro S F hfz hS hFr hC ls hl
      have hsS : sub S al := sub_bit.mpr (fun r hr => sub_bit.mp (rcF_sub (k := kF x) (al := al) (E := (Es yF x)) hqn) r ((rcF_Rc hqn).mpr (hS r hr)))
      have hsF : sub F al := sub_bit.mpr (fun r hr => sub_bit.mp (rcF_sub (k := kF x) (al := al) (E := (Es yF x)) hqn) r ((rcF_Rc hqn).mpr (hFr r hr)))
      have hS6 := Nat.lt_of_le_of_lt (sub_le hsS) hal
      have hF6 := Nat.lt_of_le_of_lt (sub_le hsF) hal
      refine lv_iload hx hb (pc := 13) dX10_reach_13 (lv_at hl 5 rfl) ?_
      refine lv_iload hx hb (pc := 15) dX10_reach_15 (lv_at hl 4 rfl) ?_
      refine lv_iconst (v := -1) hx hb (pc := 17) dX10_reach_17 (by decide) ?_
      refine lv_ixor hx hb (pc := 18) dX10_reach_18 ?_
      refine lv_iand hx hb (pc := 19) dX10_reach_19 ?_
      refine rr_top (v := .int (nI (andN F S))) (by rw [andN_eq hF6]) ?_
      refine nv_if_eq (a := (andN F S)) (tgt := 85) hx hb (pc := 20) dX10_reach_20 (by decide) (Nat.lt_of_le_of_lt (andN_le F S) (by omega)) (fun c20 => ?_) (fun c20 => ?_)
      · refine lv_iload hx hb (pc := 85) dX10_reach_85 (lv_at hl 4 rfl) ?_
        exact hret.1 87 _ (nI S) dX10_reach_87 (by rw [reach_eq hqn hS ((andN_0 hF6).mp c20) hC]) (rfl)
      · have hS2 : ∀ r, Nat.testBit (S ||| F) r = true → Rc (lO (kF x) al (Es yF x)) (nF x) q r := fun r hr => by
          rw [Nat.testBit_or, Bool.or_eq_true] at hr
          exact hr.elim (hS r) (hFr r)
        have hs2 : sub (S ||| F) al := sub_bit.mpr (fun r hr => sub_bit.mp (rcF_sub (k := kF x) (al := al) (E := (Es yF x)) hqn) r ((rcF_Rc hqn).mpr (hS2 r hr)))
        have hSF6 : S ||| F < 65536 := Nat.or_lt_two_pow (n := 16) hS6 hF6
        have hlq : sub (lO (kF x) al (Es yF x) q) (S ||| F) := by
          refine sub_bit.mpr (fun r hr => ?_)
          rw [Nat.testBit_or, Bool.or_eq_true]
          rcases hC with h | h
          · exact Or.inr (by rw [h.2]; exact hr)
          · exact Or.inl (sub_bit.mp h.2 r hr)
        refine lv_iload hx hb (pc := 23) dX10_reach_23 (lv_at hl 4 rfl) ?_
        refine lv_iload hx hb (pc := 25) dX10_reach_25 (lv_at hl 5 rfl) ?_
        refine nv_ior (a := S) (b := F) hx hb (pc := 27) dX10_reach_27 ?_
        refine lv_istore (lv' := [(4, .int (nI (S ||| F))), (0, .ref om), (1, .int (nI x)), (2, .int (nI al)), (3, .int (nI q)), (5, .int (nI F))]) hx hb (pc := 28) dX10_reach_28 hl (by decide) rfl (fun ls hl => ?_)
        refine lv_iconst (v := nI 0) hx hb (pc := 30) dX10_reach_30 (by decide) ?_
        refine lv_istore (lv' := [(5, .int (nI 0)), (4, .int (nI (S ||| F))), (0, .ref om), (1, .int (nI x)), (2, .int (nI al)), (3, .int (nI q))]) hx hb (pc := 31) dX10_reach_31 hl (by decide) rfl (fun ls hl => ?_)
        refine lv_iconst (v := nI 0) hx hb (pc := 33) dX10_reach_33 (by decide) ?_
        refine lv_istore (lv' := [(6, .int (nI 0)), (5, .int (nI 0)), (4, .int (nI (S ||| F))), (0, .ref om), (1, .int (nI x)), (2, .int (nI al)), (3, .int (nI q))]) hx hb (pc := 34) dX10_reach_34 hl (by decide) rfl (fun ls hl => ?_)
        have L36 : ∀ (fz : Nat) (i : Nat) (hfz : nF x - i < fz) (hi : i ≤ nF x) (ls : Array Slot) (hl : lv_has ls 7 [(0, .ref om), (1, .int (nI x)), (2, .int (nI al)), (3, .int (nI q)), (4, .int (nI (S ||| F))), (5, .int (nI (orN i (stq (S ||| F) (lO (kF x) al (Es yF x)))))), (6, .int (nI i))]), W p l e rmX10_reach s m args below meth c s.heap [] 0 0 Q (F0 m 36 ls []) := by
          intro fz; induction fz with
          | zero => intro i hfz hi ls hl; exact absurd hfz (Nat.not_lt_zero _)
          | succ fz ih36 =>
            intro i hfz hi ls hl
            refine lv_iload hx hb (pc := 36) dX10_reach_36 (lv_at hl 6 rfl) ?_
            refine lv_aload_n hx hb (pc := 38) dX10_reach_38 rfl (lv_at hl 0 rfl) ?_
            refine va_get (v := .ref (ad 2)) hx hb hts (inX10_reach_10) hown hKK.1 hP 0 rfl rfl 2 (by decide) (hts _ (List.mem_of_getElem? (i := 1) (by decide +kernel))) (fun _ h9 => h9) rfl (pc := 39) dX10_reach_39 ?_
            refine lv_iload_n hx hb (pc := 42) dX10_reach_42 rfl (lv_at hl 1 rfl) ?_
            refine nv_iald (v := nI (nF x)) (i := x) hx hb hKK hP 2 rfl (by omega) (by decide) (rfl) (pc := 43) dX10_reach_43 ?_
            refine nv_icmp_ge (a := i) (b := (nF x)) (tgt := 82) hx hb (pc := 44) dX10_reach_44 (by decide) (by omega) (by omega) (fun c44 => ?_) (fun c44 => ?_)
            · refine lv_goto (tgt := 13) hx hb (pc := 82) dX10_reach_82 (by decide) ?_
              have e9 : i = nF x := by omega
              have hpl := or_pcn hS6 hF6 c20
              have hpl2 := pcn_le 16 (S ||| F)
              have hl : lv_has ls 7 [(0, .ref om), (1, .int (nI x)), (2, .int (nI al)), (3, .int (nI q)), (4, .int (nI (S ||| F))), (5, .int (nI (stepR (lO (kF x) al (Es yF x)) (nF x) (S ||| F)))), (6, .int (nI i))] := by rw [show stepR (lO (kF x) al (Es yF x)) (nF x) (S ||| F) = orN i (stq (S ||| F) (lO (kF x) al (Es yF x))) from by rw [e9, stq_step]]; exact hl
              exact ih13 (S ||| F) (stepR (lO (kF x) al (Es yF x)) (nF x) (S ||| F)) (by omega) (hS2) (reach_front hS2) (Or.inr ⟨rfl, hlq⟩) ls (lv_sub hl [0, 1, 2, 3, 4, 5] rfl)
            · refine lv_iload hx hb (pc := 47) dX10_reach_47 (lv_at hl 5 rfl) ?_
              refine lv_iload hx hb (pc := 49) dX10_reach_49 (lv_at hl 4 rfl) ?_
              refine lv_iload hx hb (pc := 51) dX10_reach_51 (lv_at hl 6 rfl) ?_
              refine nv_ishr (a := (S ||| F)) (b := i) hx hb (pc := 53) dX10_reach_53 (by omega) (by omega) ?_
              refine lv_iconst (v := nI 1) hx hb (pc := 54) dX10_reach_54 (by decide) ?_
              refine nv_bit (a := (S ||| F)) (q := i) hx hb (pc := 55) dX10_reach_55 ?_
              refine lv_iconst (v := nI 1) hx hb (pc := 56) dX10_reach_56 (by decide) ?_
              refine nv_icmp_ne_b1 (tgt := 72) hx hb (pc := 57) dX10_reach_57 (by decide) (fun c57 => ?_) (fun c57 => ?_)
              · refine lv_iconst (v := nI 0) hx hb (pc := 72) dX10_reach_72 (by decide) ?_
                refine nv_ior (a := (orN i (stq (S ||| F) (lO (kF x) al (Es yF x))))) (b := 0) hx hb (pc := 73) dX10_reach_73 ?_
                refine lv_istore (lv' := [(5, .int (nI ((orN i (stq (S ||| F) (lO (kF x) al (Es yF x)))) ||| 0))), (0, .ref om), (1, .int (nI x)), (2, .int (nI al)), (3, .int (nI q)), (4, .int (nI (S ||| F))), (6, .int (nI i))]) hx hb (pc := 74) dX10_reach_74 hl (by decide) rfl (fun ls hl => ?_)
                refine lv_iinc (v := nI (i + 1)) (lv' := [(6, .int (nI (i + 1))), (5, .int (nI ((orN i (stq (S ||| F) (lO (kF x) al (Es yF x)))) ||| 0))), (0, .ref om), (1, .int (nI x)), (2, .int (nI al)), (3, .int (nI q)), (4, .int (nI (S ||| F)))]) hx hb (pc := 76) dX10_reach_76 hl (k := 6) rfl (rr_inc _) (by decide) rfl (fun ls hl => ?_)
                refine lv_goto (tgt := 36) hx hb (pc := 79) dX10_reach_79 (by decide) ?_
                have hl : lv_has ls 7 [(6, .int (nI (i + 1))), (5, .int (nI (orN (i + 1) (stq (S ||| F) (lO (kF x) al (Es yF x)))))), (0, .ref om), (1, .int (nI x)), (2, .int (nI al)), (3, .int (nI q)), (4, .int (nI (S ||| F)))] := by rw [show orN (i + 1) (stq (S ||| F) (lO (kF x) al (Es yF x))) = (orN i (stq (S ||| F) (lO (kF x) al (Es yF x)))) ||| 0 from by rw [orN_succ]; unfold stq; first | (rw [if_pos c57]; done) | (rw [if_neg (by rw [c57]; decide)]; done)]; exact hl
                exact ih36 (i + 1) (by omega) (by omega) ls (lv_sub hl [2, 3, 4, 5, 6, 1, 0] rfl)
              · refine lv_aload_n hx hb (pc := 60) dX10_reach_60 rfl (lv_at hl 0 rfl) ?_
                refine lv_iload_n hx hb (pc := 61) dX10_reach_61 rfl (lv_at hl 1 rfl) ?_
                refine lv_iload hx hb (pc := 62) dX10_reach_62 (lv_at hl 6 rfl) ?_
                refine rr_callP (rv := .int (nI (oU (kF x) (Es yF x) i))) (pc := 64) (va_runV (As := [.int (nI x), .int (nI i)]) (rest := [.int (nI (orN i (stq (S ||| F) (lO (kF x) al (Es yF x)))))]) ⟨hx, hb, hml, hown, hts⟩ (c_X10_outOf l K om ad ns wl nf wd mt kF nF yF WD FL FW TD RW pl nw xt vF wF qF bY gF nm xm fR oF hF dF x i hx6 hk4 hn hE (by omega)) (cwV 2 hts gX10_reach_X10_outOf rfl rfl rfl (by decide +kernel) ⟨Nat.le_of_ble_eq_true rfl, Nat.le_of_ble_eq_true rfl⟩) (rr_preV hKK (hP) (va_recv hKK.1 hP (ci := 10) (q0 := 0) rfl rfl)) rfl rfl hl.1 rfl (lv_room (Nat.le_of_ble_eq_true rfl)) dX10_reach_64 ⟨Nat.le_refl _, Nat.le_refl _⟩) ?_
                refine lv_iload_n hx hb (pc := 67) dX10_reach_67 rfl (lv_at hl 2 rfl) ?_
                refine nv_iand (a := (oU (kF x) (Es yF x) i)) (b := al) hx hb (pc := 68) dX10_reach_68 ?_
                refine rr_top (v := .int (nI (lO (kF x) al (Es yF x) i))) (by rw [lO_oU, if_pos (sub_bit.mp hs2 i c57)]) ?_
                refine lv_goto (tgt := 73) hx hb (pc := 69) dX10_reach_69 (by decide) ?_
                refine nv_ior (a := (orN i (stq (S ||| F) (lO (kF x) al (Es yF x))))) (b := (lO (kF x) al (Es yF x) i)) hx hb (pc := 73) dX10_reach_73 ?_
                refine lv_istore (lv' := [(5, .int (nI ((orN i (stq (S ||| F) (lO (kF x) al (Es yF x)))) ||| (lO (kF x) al (Es yF x) i)))), (0, .ref om), (1, .int (nI x)), (2, .int (nI al)), (3, .int (nI q)), (4, .int (nI (S ||| F))), (6, .int (nI i))]) hx hb (pc := 74) dX10_reach_74 hl (by decide) rfl (fun ls hl => ?_)
                refine lv_iinc (v := nI (i + 1)) (lv' := [(6, .int (nI (i + 1))), (5, .int (nI ((orN i (stq (S ||| F) (lO (kF x) al (Es yF x)))) ||| (lO (kF x) al (Es yF x) i)))), (0, .ref om), (1, .int (nI x)), (2, .int (nI al)), (3, .int (nI q)), (4, .int (nI (S ||| F)))]) hx hb (pc := 76) dX10_reach_76 hl (k := 6) rfl (rr_inc _) (by decide) rfl (fun ls hl => ?_)
                refine lv_goto (tgt := 36) hx hb (pc := 79) dX10_reach_79 (by decide) ?_
                have hl : lv_has ls 7 [(6, .int (nI (i + 1))), (5, .int (nI (orN (i + 1) (stq (S ||| F) (lO (kF x) al (Es yF x)))))), (0, .ref om), (1, .int (nI x)), (2, .int (nI al)), (3, .int (nI q)), (4, .int (nI (S ||| F)))] := by rw [show orN (i + 1) (stq (S ||| F) (lO (kF x) al (Es yF x))) = (orN i (stq (S ||| F) (lO (kF x) al (Es yF x)))) ||| (lO (kF x) al (Es yF x) i) from by rw [orN_succ]; unfold stq; first | (rw [if_pos c57]; done) | (rw [if_neg (by rw [c57]; decide)]; done)]; exact hl
                exact ih36 (i + 1) (by omega) (by omega) ls (lv_sub hl [2, 3, 4, 5, 6, 1, 0] rfl)
        have hl : lv_has ls 7 [(6, .int (nI 0)), (5, .int (nI (orN 0 (stq (S ||| F) (lO (kF x) al (Es yF x)))))), (4, .int (nI (S ||| F))), (0, .ref om), (1, .int (nI x)), (2, .int (nI al)), (3, .int (nI q))] := by rw [show orN 0 (stq (S ||| F) (lO (kF x) al (Es yF x))) = 0 from rfl]; exact hl
        exact L36 (17) 0 (by omega) (Nat.zero_le _) ls (lv_sub hl [3, 4, 5, 6, 2, 1, 0] rfl)
  exact L13 (17) 0 (lO (kF x) al (Es yF x) q) (by omega) (fun r hr => by rw [Nat.zero_testBit] at hr; cases hr) (fun r hr => Rc_one hr) (Or.inl ⟨rfl, rfl⟩) ls (lv_sub hl [2, 3, 4, 5, 1, 0] rfl)

abbrev rmX10_partOf : Room := { frames := 3, cells := 0, slots := 0, locals := 72 }
set_option maxHeartbeats 4000000 in
set_option maxRecDepth 100000 in
theorem c_X10_partOf (l : Launch) (K : rr_K) (om : Nat) (ad : Nat → Nat) (ns wl nf wd mt : Nat) (kF nF yF WD FL FW TD RW pl nw xt vF wF qF bY gF : Nat → Nat) (nm xm : Nat → Int64) (fR oF hF dF : Nat → Int32) (x al q : Nat) (hx6 : x < 6) (hk4 : kF x ≤ 4) (hn : nF x ≤ 16) (hE : ∀ i, i < 64 → Es yF x i < 65536) (hal : al < 65536) (hqn : q < nF x) (hqa : al.testBit q = true) : MetP l K yX10_partOf wsX10_partOf rmX10_partOf [.ref om, .int (nI x), .int (nI al), .int (nI q)] (fun H => va_P K.1 vwCl (XM K om ad ns wl nf wd mt kF nF yF WD FL FW TD RW pl nw xt vF wF qF bY gF nm xm fR oF hF dF) H) (.int (nI (lst16 (prM (nF x) (kF x) al (Es yF x) q)))) := by
  refine metP_of (cc := cX10_partOf) (maxL := 6) (ret := (some .int)) (rt := .int) (by decide) rfl rfl (Nat.le_of_ble_eq_true rfl) ?_
  intro p e s m args below meth c Q ls hEnt hKK hX hret hl
  obtain ⟨hx, hb, hml, hown, hts⟩ := hEnt
  have hP : va_P K.1 vwCl (XM K om ad ns wl nf wd mt kF nF yF WD FL FW TD RW pl nw xt vF wF qF bY gF nm xm fR oF hF dF) s.heap := hX
  have hl : lv_has ls 6 [(0, .ref om), (1, .int (nI x)), (2, .int (nI al)), (3, .int (nI q))] := hl
  refine lv_aload_n hx hb (pc := 0) dX10_partOf_0 rfl (lv_at hl 0 rfl) ?_
  refine lv_iload_n hx hb (pc := 1) dX10_partOf_1 rfl (lv_at hl 1 rfl) ?_
  refine lv_iload_n hx hb (pc := 2) dX10_partOf_2 rfl (lv_at hl 2 rfl) ?_
  refine lv_iload_n hx hb (pc := 3) dX10_partOf_3 rfl (lv_at hl 3 rfl) ?_
  refine rr_callP (rv := .int (nI (rcF (nF x) (kF x) al (Es yF x) q))) (pc := 4) (va_runV (As := [.int (nI x), .int (nI al), .int (nI q)]) (rest := []) ⟨hx, hb, hml, hown, hts⟩ (c_X10_reach l K om ad ns wl nf wd mt kF nF yF WD FL FW TD RW pl nw xt vF wF qF bY gF nm xm fR oF hF dF x al q hx6 hk4 hn hE hal hqn hqa) (cwV 3 hts gX10_partOf_X10_reach rfl rfl rfl (by decide +kernel) ⟨Nat.le_of_ble_eq_true rfl, Nat.le_of_ble_eq_true rfl⟩) (rr_preV hKK (hP) (va_recv hKK.1 hP (ci := 10) (q0 := 0) rfl rfl)) rfl rfl hl.1 rfl (lv_room (Nat.le_of_ble_eq_true rfl)) dX10_partOf_4 ⟨Nat.le_refl _, Nat.le_refl _⟩) ?_
  refine lv_istore (lv' := [(4, .int (nI (rcF (nF x) (kF x) al (Es yF x) q))), (0, .ref om), (1, .int (nI x)), (2, .int (nI al)), (3, .int (nI q))]) hx hb (pc := 7) dX10_partOf_7 hl (by decide) rfl (fun ls hl => ?_)
  have hsr := rcF_sub (k := kF x) (al := al) (E := (Es yF x)) hqn
  have hr6 := Nat.lt_of_le_of_lt (sub_le hsr) hal
  refine lv_iconst (v := nI 0) hx hb (pc := 9) dX10_partOf_9 (by decide) ?_
  refine lv_istore (lv' := [(5, .int (nI 0)), (4, .int (nI (rcF (nF x) (kF x) al (Es yF x) q))), (0, .ref om), (1, .int (nI x)), (2, .int (nI al)), (3, .int (nI q))]) hx hb (pc := 10) dX10_partOf_10 hl (by decide) rfl (fun ls hl => ?_)
  have L12 : ∀ (fz : Nat) (i : Nat) (hfz : q - i < fz) (hi : i ≤ q) (hno : ∀ z, z < i → ¬ ((rcF (nF x) (kF x) al (Es yF x) q).testBit z = true ∧ (rcF (nF x) (kF x) al (Es yF x) z).testBit q = true)) (ls : Array Slot) (hl : lv_has ls 6 [(0, .ref om), (1, .int (nI x)), (2, .int (nI al)), (3, .int (nI q)), (4, .int (nI (rcF (nF x) (kF x) al (Es yF x) q))), (5, .int (nI i))]), W p l e rmX10_partOf s m args below meth c s.heap [] 0 0 Q (F0 m 12 ls []) := by
    intro fz; induction fz with
    | zero => intro i hfz hi hno ls hl; exact absurd hfz (Nat.not_lt_zero _)
    | succ fz ih12 =>
      intro i hfz hi hno ls hl
      refine lv_iload hx hb (pc := 12) dX10_partOf_12 (lv_at hl 5 rfl) ?_
      refine lv_iload_n hx hb (pc := 14) dX10_partOf_14 rfl (lv_at hl 3 rfl) ?_
      refine nv_icmp_ge (a := i) (b := q) (tgt := 54) hx hb (pc := 15) dX10_partOf_15 (by decide) (by omega) (by omega) (fun c15 => ?_) (fun c15 => ?_)
      · refine lv_iload_n hx hb (pc := 54) dX10_partOf_54 rfl (lv_at hl 3 rfl) ?_
        have e9 : i = q := by omega
        exact hret.1 55 _ (nI q) dX10_partOf_55 (by rw [part_own hn hqn (fun z hz => hno z (by omega))]) (rfl)
      · refine lv_iload hx hb (pc := 18) dX10_partOf_18 (lv_at hl 4 rfl) ?_
        refine lv_iload hx hb (pc := 20) dX10_partOf_20 (lv_at hl 5 rfl) ?_
        refine nv_ishr (a := (rcF (nF x) (kF x) al (Es yF x) q)) (b := i) hx hb (pc := 22) dX10_partOf_22 (by omega) (by omega) ?_
        refine lv_iconst (v := nI 1) hx hb (pc := 23) dX10_partOf_23 (by decide) ?_
        refine nv_bit (a := (rcF (nF x) (kF x) al (Es yF x) q)) (q := i) hx hb (pc := 24) dX10_partOf_24 ?_
        refine lv_iconst (v := nI 1) hx hb (pc := 25) dX10_partOf_25 (by decide) ?_
        refine nv_icmp_ne_b1 (tgt := 48) hx hb (pc := 26) dX10_partOf_26 (by decide) (fun c26 => ?_) (fun c26 => ?_)
        · have hnA : ∀ z, z < i + 1 → ¬ ((rcF (nF x) (kF x) al (Es yF x) q).testBit z = true ∧ (rcF (nF x) (kF x) al (Es yF x) z).testBit q = true) := by
            intro z hz hh
            rcases Nat.lt_or_ge z i with w | w
            · exact hno z w hh
            · obtain rfl : z = i := by omega
              rw [c26] at hh
              exact absurd hh.1 (by decide)
          refine lv_iinc (v := nI (i + 1)) (lv' := [(5, .int (nI (i + 1))), (0, .ref om), (1, .int (nI x)), (2, .int (nI al)), (3, .int (nI q)), (4, .int (nI (rcF (nF x) (kF x) al (Es yF x) q)))]) hx hb (pc := 48) dX10_partOf_48 hl (k := 5) rfl (rr_inc _) (by decide) rfl (fun ls hl => ?_)
          refine lv_goto (tgt := 12) hx hb (pc := 51) dX10_partOf_51 (by decide) ?_
          exact ih12 (i + 1) (by omega) (by omega) (by first | exact hnA | exact hnB) ls (lv_sub hl [1, 2, 3, 4, 5, 0] rfl)
        · refine lv_aload_n hx hb (pc := 29) dX10_partOf_29 rfl (lv_at hl 0 rfl) ?_
          refine lv_iload_n hx hb (pc := 30) dX10_partOf_30 rfl (lv_at hl 1 rfl) ?_
          refine lv_iload_n hx hb (pc := 31) dX10_partOf_31 rfl (lv_at hl 2 rfl) ?_
          refine lv_iload hx hb (pc := 32) dX10_partOf_32 (lv_at hl 5 rfl) ?_
          have hia := sub_bit.mp hsr i c26
          refine rr_callP (rv := .int (nI (rcF (nF x) (kF x) al (Es yF x) i))) (pc := 34) (va_runV (As := [.int (nI x), .int (nI al), .int (nI i)]) (rest := []) ⟨hx, hb, hml, hown, hts⟩ (c_X10_reach l K om ad ns wl nf wd mt kF nF yF WD FL FW TD RW pl nw xt vF wF qF bY gF nm xm fR oF hF dF x al i hx6 hk4 hn hE hal (by omega) hia) (cwV 3 hts gX10_partOf_X10_reach rfl rfl rfl (by decide +kernel) ⟨Nat.le_of_ble_eq_true rfl, Nat.le_of_ble_eq_true rfl⟩) (rr_preV hKK (hP) (va_recv hKK.1 hP (ci := 10) (q0 := 0) rfl rfl)) rfl rfl hl.1 rfl (lv_room (Nat.le_of_ble_eq_true rfl)) dX10_partOf_34 ⟨Nat.le_refl _, Nat.le_refl _⟩) ?_
          have hri := Nat.lt_of_le_of_lt (sub_le (rcF_sub (k := kF x) (al := al) (E := (Es yF x)) (show i < nF x by omega))) hal
          refine lv_iload_n hx hb (pc := 37) dX10_partOf_37 rfl (lv_at hl 3 rfl) ?_
          refine nv_ishr (a := (rcF (nF x) (kF x) al (Es yF x) i)) (b := q) hx hb (pc := 38) dX10_partOf_38 (by omega) (by omega) ?_
          refine lv_iconst (v := nI 1) hx hb (pc := 39) dX10_partOf_39 (by decide) ?_
          refine nv_bit (a := (rcF (nF x) (kF x) al (Es yF x) i)) (q := q) hx hb (pc := 40) dX10_partOf_40 ?_
          refine lv_iconst (v := nI 1) hx hb (pc := 41) dX10_partOf_41 (by decide) ?_
          refine nv_icmp_ne_b1 (tgt := 48) hx hb (pc := 42) dX10_partOf_42 (by decide) (fun c42 => ?_) (fun c42 => ?_)
          · have hnB : ∀ z, z < i + 1 → ¬ ((rcF (nF x) (kF x) al (Es yF x) q).testBit z = true ∧ (rcF (nF x) (kF x) al (Es yF x) z).testBit q = true) := by
              intro z hz hh
              rcases Nat.lt_or_ge z i with w | w
              · exact hno z w hh
              · obtain rfl : z = i := by omega
                rw [c42] at hh
                exact absurd hh.2 (by decide)
            refine lv_iinc (v := nI (i + 1)) (lv' := [(5, .int (nI (i + 1))), (0, .ref om), (1, .int (nI x)), (2, .int (nI al)), (3, .int (nI q)), (4, .int (nI (rcF (nF x) (kF x) al (Es yF x) q)))]) hx hb (pc := 48) dX10_partOf_48 hl (k := 5) rfl (rr_inc _) (by decide) rfl (fun ls hl => ?_)
            refine lv_goto (tgt := 12) hx hb (pc := 51) dX10_partOf_51 (by decide) ?_
            exact ih12 (i + 1) (by omega) (by omega) (by first | exact hnA | exact hnB) ls (lv_sub hl [1, 2, 3, 4, 5, 0] rfl)
          · refine lv_iload hx hb (pc := 45) dX10_partOf_45 (lv_at hl 5 rfl) ?_
            exact hret.1 47 _ (nI i) dX10_partOf_47 (by rw [part_at hn (by omega) hqn c26 c42 hno]) (rfl)
  exact L12 (17) 0 (by omega) (Nat.zero_le _) (fun z hz => absurd hz (Nat.not_lt_zero _)) ls (lv_sub hl [2, 3, 4, 5, 1, 0] rfl)

abbrev rmX10_part : Room := { frames := 4, cells := 0, slots := 0, locals := 97 }
set_option maxHeartbeats 4000000 in
set_option maxRecDepth 100000 in
theorem c_X10_part (l : Launch) (K : rr_K) (om : Nat) (ad : Nat → Nat) (ns wl nf wd mt : Nat) (kF nF yF WD FL FW TD RW pl nw xt vF wF qF bY gF : Nat → Nat) (nm xm : Nat → Int64) (fR oF hF dF : Nat → Int32) (x q : Int32) (hS9 : SOK ns kF nF yF) : MetP l K yX10_part wsX10_part rmX10_part [.ref om, .int x, .int q] (fun H => va_P K.1 vwCl (XM K om ad ns wl nf wd mt kF nF yF WD FL FW TD RW pl nw xt vF wF qF bY gF nm xm fR oF hF dF) H) (.int (parA ns kF nF yF x q)) := by
  refine metP_of (cc := cX10_part) (maxL := 4) (ret := (some .int)) (rt := .int) (by decide) rfl rfl (Nat.le_of_ble_eq_true rfl) ?_
  intro p e s m args below meth c Q ls hEnt hKK hX hret hl
  obtain ⟨hx, hb, hml, hown, hts⟩ := hEnt
  have hP : va_P K.1 vwCl (XM K om ad ns wl nf wd mt kF nF yF WD FL FW TD RW pl nw xt vF wF qF bY gF nm xm fR oF hF dF) s.heap := hX
  have hl : lv_has ls 4 [(0, .ref om), (1, .int x), (2, .int q)] := hl
  refine lv_aload_n hx hb (pc := 0) dX10_part_0 rfl (lv_at hl 0 rfl) ?_
  refine lv_iload_n hx hb (pc := 1) dX10_part_1 rfl (lv_at hl 1 rfl) ?_
  refine lv_iload_n hx hb (pc := 2) dX10_part_2 rfl (lv_at hl 2 rfl) ?_
  refine rr_callP (rv := .int (bI (okQ ns nF x q))) (pc := 3) (va_runV (As := [.int x, .int q]) (rest := []) ⟨hx, hb, hml, hown, hts⟩ (c_X10_isState l K om ad ns wl nf wd mt kF nF yF WD FL FW TD RW pl nw xt vF wF qF bY gF nm xm fR oF hF dF x q hS9.1) (cwV 2 hts gX10_part_X10_isState rfl rfl rfl (by decide +kernel) ⟨Nat.le_of_ble_eq_true rfl, Nat.le_of_ble_eq_true rfl⟩) (rr_preV hKK (hP) (va_recv hKK.1 hP (ci := 10) (q0 := 0) rfl rfl)) rfl rfl hl.1 rfl (lv_room (Nat.le_of_ble_eq_true rfl)) dX10_part_3 ⟨Nat.le_refl _, Nat.le_refl _⟩) ?_
  refine nv_if_ne_b (a := (okQ ns nF x q)) (tgt := 12) hx hb (pc := 6) dX10_part_6 (by decide) (fun c6 => ?_) (fun c6 => ?_)
  · obtain ⟨j, u, rfl, rfl, hj6, hu9⟩ := okQ_of hS9 c6
    obtain ⟨s1j, s2j, s3j, s4j, s5j⟩ := hS9.2 j hj6
    have hns := hS9.1
    have ecj : cN (nI j) = j := cN_nI (by omega)
    have ecu : cN (nI u) = u := cN_nI (by omega)
    have hlv := liveS_lt16 (k := kF j) (E := Es yF j) s4j
    refine lv_aload_n hx hb (pc := 12) dX10_part_12 rfl (lv_at hl 0 rfl) ?_
    refine lv_iload_n hx hb (pc := 13) dX10_part_13 rfl (lv_at hl 1 rfl) ?_
    refine rr_callP (rv := .int (nI (liveS (kF j) (nF j) (Es yF j)))) (pc := 14) (va_runV (As := [.int (nI j)]) (rest := []) ⟨hx, hb, hml, hown, hts⟩ (c_X10_liveOf l K om ad ns wl nf wd mt kF nF yF WD FL FW TD RW pl nw xt vF wF qF bY gF nm xm fR oF hF dF j (by omega) s2j s4j s5j) (cwV 1 hts gX10_part_X10_liveOf rfl rfl rfl (by decide +kernel) ⟨Nat.le_of_ble_eq_true rfl, Nat.le_of_ble_eq_true rfl⟩) (rr_preV hKK (hP) (va_recv hKK.1 hP (ci := 10) (q0 := 0) rfl rfl)) rfl rfl hl.1 rfl (lv_room (Nat.le_of_ble_eq_true rfl)) dX10_part_14 ⟨Nat.le_refl _, Nat.le_refl _⟩) ?_
    refine lv_istore_n (lv' := [(3, .int (nI (liveS (kF j) (nF j) (Es yF j)))), (0, .ref om), (1, .int (nI j)), (2, .int (nI u))]) hx hb (pc := 17) dX10_part_17 rfl hl (by decide) rfl (fun ls hl => ?_)
    refine lv_iload_n hx hb (pc := 18) dX10_part_18 rfl (lv_at hl 0 rfl) ?_
    refine lv_iload_n hx hb (pc := 19) dX10_part_19 rfl (lv_at hl 3 rfl) ?_
    refine nv_ishr (a := (liveS (kF j) (nF j) (Es yF j))) (b := u) hx hb (pc := 20) dX10_part_20 (by omega) (by omega) ?_
    refine lv_iconst (v := nI 1) hx hb (pc := 21) dX10_part_21 (by decide) ?_
    refine nv_bit (a := (liveS (kF j) (nF j) (Es yF j))) (q := u) hx hb (pc := 22) dX10_part_22 ?_
    refine nv_if_ne_b (a := ((liveS (kF j) (nF j) (Es yF j)).testBit u)) (tgt := 30) hx hb (pc := 23) dX10_part_23 (by decide) (fun c23 => ?_) (fun c23 => ?_)
    · refine lv_aload_n hx hb (pc := 30) dX10_part_30 rfl (lv_at hl 1 rfl) ?_
      refine lv_iload_n hx hb (pc := 31) dX10_part_31 rfl (lv_at hl 2 rfl) ?_
      refine lv_iload_n hx hb (pc := 32) dX10_part_32 rfl (lv_at hl 0 rfl) ?_
      refine lv_iload_n hx hb (pc := 33) dX10_part_33 rfl (lv_at hl 3 rfl) ?_
      refine rr_callP (rv := .int (nI (lst16 (prM (nF j) (kF j) (liveS (kF j) (nF j) (Es yF j)) (Es yF j) u)))) (pc := 34) (va_runV (As := [.int (nI j), .int (nI (liveS (kF j) (nF j) (Es yF j))), .int (nI u)]) (rest := []) ⟨hx, hb, hml, hown, hts⟩ (c_X10_partOf l K om ad ns wl nf wd mt kF nF yF WD FL FW TD RW pl nw xt vF wF qF bY gF nm xm fR oF hF dF j (liveS (kF j) (nF j) (Es yF j)) u (by omega) s2j s4j s5j hlv hu9 c23) (cwV 3 hts gX10_part_X10_partOf rfl rfl rfl (by decide +kernel) ⟨Nat.le_of_ble_eq_true rfl, Nat.le_of_ble_eq_true rfl⟩) (rr_preV hKK (hP) (va_recv hKK.1 hP (ci := 10) (q0 := 0) rfl rfl)) rfl rfl hl.1 rfl (lv_room (Nat.le_of_ble_eq_true rfl)) dX10_part_34 ⟨Nat.le_refl _, Nat.le_refl _⟩) ?_
      exact hret.1 37 _ (nI (lst16 (prM (nF j) (kF j) (liveS (kF j) (nF j) (Es yF j)) (Es yF j) u))) dX10_part_37 (by unfold parA; rw [if_pos c6, ecj, ecu]; first | (rw [if_pos c23]; done) | (rw [if_neg (by rw [c23]; decide)]; done)) (rfl)
    · refine lv_iconst (v := -1) hx hb (pc := 26) dX10_part_26 (by decide) ?_
      refine lv_goto (tgt := 37) hx hb (pc := 27) dX10_part_27 (by decide) ?_
      exact hret.1 37 _ (-1) dX10_part_37 (by unfold parA; rw [if_pos c6, ecj, ecu]; first | (rw [if_pos c23]; done) | (rw [if_neg (by rw [c23]; decide)]; done)) (rfl)
  · refine lv_bipush (v := -2) hx hb (pc := 9) dX10_part_9 (by decide) ?_
    exact hret.1 11 _ (-2) dX10_part_11 (by unfold parA; rw [if_neg (by rw [c6]; decide)]) (rfl)

abbrev rmX10_about : Room := { frames := 4, cells := 0, slots := 0, locals := 97 }
theorem inX10_about_10 : ∀ w ∈ wsX100, w ∈ wsX10_about := fun _ h => List.mem_cons_of_mem _ (List.mem_append_right _ h)
set_option maxHeartbeats 4000000 in
set_option maxRecDepth 100000 in
theorem c_X10_about (l : Launch) (K : rr_K) (om : Nat) (ad : Nat → Nat) (ns wl nf wd mt : Nat) (kF nF yF WD FL FW TD RW pl nw xt vF wF qF bY gF : Nat → Nat) (nm xm : Nat → Int64) (fR oF hF dF : Nat → Int32) (x wh : Int32) (hS9 : SOK ns kF nF yF) : MetP l K yX10_about wsX10_about rmX10_about [.ref om, .int x, .int wh] (fun H => va_P K.1 vwCl (XM K om ad ns wl nf wd mt kF nF yF WD FL FW TD RW pl nw xt vF wF qF bY gF nm xm fR oF hF dF) H) (.int (abtA ns kF nF yF x wh)) := by
  refine metP_of (cc := cX10_about) (maxL := 8) (ret := (some .int)) (rt := .int) (by decide) rfl rfl (Nat.le_of_ble_eq_true rfl) ?_
  intro p e s m args below meth c Q ls hEnt hKK hX hret hl
  obtain ⟨hx, hb, hml, hown, hts⟩ := hEnt
  have hP : va_P K.1 vwCl (XM K om ad ns wl nf wd mt kF nF yF WD FL FW TD RW pl nw xt vF wF qF bY gF nm xm fR oF hF dF) s.heap := hX
  have hl : lv_has ls 8 [(0, .ref om), (1, .int x), (2, .int wh)] := hl
  refine lv_aload_n hx hb (pc := 0) dX10_about_0 rfl (lv_at hl 0 rfl) ?_
  refine lv_iload_n hx hb (pc := 1) dX10_about_1 rfl (lv_at hl 1 rfl) ?_
  refine rr_callP (rv := .int (bI (isS ns x))) (pc := 2) (va_runV (As := [.int x]) (rest := []) ⟨hx, hb, hml, hown, hts⟩ (c_X10_isSet l K om ad ns wl nf wd mt kF nF yF WD FL FW TD RW pl nw xt vF wF qF bY gF nm xm fR oF hF dF x) (cwV 1 hts gX10_about_X10_isSet rfl rfl rfl (by decide +kernel) ⟨Nat.le_of_ble_eq_true rfl, Nat.le_of_ble_eq_true rfl⟩) (rr_preV hKK (hP) (va_recv hKK.1 hP (ci := 10) (q0 := 0) rfl rfl)) rfl rfl hl.1 rfl (lv_room (Nat.le_of_ble_eq_true rfl)) dX10_about_2 ⟨Nat.le_refl _, Nat.le_refl _⟩) ?_
  refine nv_if_eq_b (a := (isS ns x)) (tgt := 17) hx hb (pc := 5) dX10_about_5 (by decide) (fun c5 => ?_) (fun c5 => ?_)
  · refine lv_bipush (v := -2) hx hb (pc := 17) dX10_about_17 (by decide) ?_
    have hc : (isS ns x && rrin wh (nI 0) (nI 5)) = false := by first | (rw [c5, c14]; rfl) | (rw [c5]; rfl)
    exact hret.1 19 _ (-2) dX10_about_19 (by unfold abtA; rw [if_neg (by rw [hc]; decide)]) (rfl)
  · refine lv_iload_n hx hb (pc := 8) dX10_about_8 rfl (lv_at hl 2 rfl) ?_
    refine lv_iconst (v := nI 0) hx hb (pc := 9) dX10_about_9 (by decide) ?_
    refine lv_iconst (v := nI 5) hx hb (pc := 10) dX10_about_10 (by decide) ?_
    refine rr_callP (rv := .int (bI (rrin wh (nI 0) (nI 5)))) (pc := 11) (va_runS (As := [.int wh, .int (nI 0), .int (nI 5)]) (rest := []) ⟨hx, hb, hml, hown, hts⟩ (c_X10_in l K wh (nI 0) (nI 5)) (cwS 3 hts gX10_about_X10_in rfl rfl rfl (by decide +kernel) ⟨Nat.le_of_ble_eq_true rfl, Nat.le_of_ble_eq_true rfl⟩) (rr_preS hKK (trivial)) rfl rfl hl.1 rfl (lv_room (Nat.le_of_ble_eq_true rfl)) dX10_about_11 ⟨Nat.le_refl _, Nat.le_refl _⟩) ?_
    refine nv_if_ne_b (a := (rrin wh (nI 0) (nI 5))) (tgt := 20) hx hb (pc := 14) dX10_about_14 (by decide) (fun c14 => ?_) (fun c14 => ?_)
    · have hns := hS9.1
      obtain ⟨j, hj6, rfl⟩ := isS_of (by omega) c5
      obtain ⟨s1j, s2j, s3j, s4j, s5j⟩ := hS9.2 j hj6
      have ecj : cN (nI j) = j := cN_nI (by omega)
      obtain ⟨w, hw1, hw2, rfl⟩ := rrin_Nat (by decide) (by decide) c14
      have ecw : cN (nI w) = w := cN_nI (by omega)
      have hlv := liveS_lt16 (k := kF j) (E := Es yF j) s4j
      have hc : (isS ns (nI j) && rrin (nI w) (nI 0) (nI 5)) = true := by rw [c5, c14]; rfl
      refine lv_aload_n hx hb (pc := 20) dX10_about_20 rfl (lv_at hl 0 rfl) ?_
      refine lv_iload_n hx hb (pc := 21) dX10_about_21 rfl (lv_at hl 1 rfl) ?_
      refine rr_callP (rv := .int (nI (liveS (kF j) (nF j) (Es yF j)))) (pc := 22) (va_runV (As := [.int (nI j)]) (rest := []) ⟨hx, hb, hml, hown, hts⟩ (c_X10_liveOf l K om ad ns wl nf wd mt kF nF yF WD FL FW TD RW pl nw xt vF wF qF bY gF nm xm fR oF hF dF j (by omega) s2j s4j s5j) (cwV 1 hts gX10_about_X10_liveOf rfl rfl rfl (by decide +kernel) ⟨Nat.le_of_ble_eq_true rfl, Nat.le_of_ble_eq_true rfl⟩) (rr_preV hKK (hP) (va_recv hKK.1 hP (ci := 10) (q0 := 0) rfl rfl)) rfl rfl hl.1 rfl (lv_room (Nat.le_of_ble_eq_true rfl)) dX10_about_22 ⟨Nat.le_refl _, Nat.le_refl _⟩) ?_
      refine lv_istore_n (lv' := [(3, .int (nI (liveS (kF j) (nF j) (Es yF j)))), (0, .ref om), (1, .int (nI j)), (2, .int (nI w))]) hx hb (pc := 25) dX10_about_25 rfl hl (by decide) rfl (fun ls hl => ?_)
      refine lv_iconst (v := nI 0) hx hb (pc := 26) dX10_about_26 (by decide) ?_
      refine lv_istore (lv' := [(4, .int (nI 0)), (3, .int (nI (liveS (kF j) (nF j) (Es yF j)))), (0, .ref om), (1, .int (nI j)), (2, .int (nI w))]) hx hb (pc := 27) dX10_about_27 hl (by decide) rfl (fun ls hl => ?_)
      refine lv_iload_n hx hb (pc := 29) dX10_about_29 rfl (lv_at hl 4 rfl) ?_
      rcases (show w = 0 ∨ w = 1 ∨ w = 2 ∨ w = 3 ∨ w = 4 ∨ w = 5 from by omega) with rfl | rfl | rfl | rfl | rfl | rfl
      · refine lv_tableIn (off := 38) (tgt := 68) hx hb (pc := 30) dX10_about_30 (by decide +kernel) (by decide +kernel) (by decide +kernel) (by decide) ?_
        refine lv_aload_n hx hb (pc := 68) dX10_about_68 rfl (lv_at hl 2 rfl) ?_
        refine va_get (v := .ref (ad 1)) hx hb hts (inX10_about_10) hown hKK.1 hP 0 rfl rfl 1 (by decide) (hts _ (List.mem_of_getElem? (i := 1) (by decide +kernel))) (fun _ h9 => h9) rfl (pc := 69) dX10_about_69 ?_
        refine lv_iload_n hx hb (pc := 72) dX10_about_72 rfl (lv_at hl 3 rfl) ?_
        refine nv_iald (v := nI (kF j)) (i := j) hx hb hKK hP 1 rfl (by omega) (by decide) (rfl) (pc := 73) dX10_about_73 ?_
        exact hret.1 74 _ (nI (kF j)) dX10_about_74 (by unfold abtA; rw [if_pos hc, ecj, ecw]; rfl) (rfl)
      · refine lv_tableIn (off := 45) (tgt := 75) hx hb (pc := 30) dX10_about_30 (by decide +kernel) (by decide +kernel) (by decide +kernel) (by decide) ?_
        refine lv_aload_n hx hb (pc := 75) dX10_about_75 rfl (lv_at hl 2 rfl) ?_
        refine va_get (v := .ref (ad 2)) hx hb hts (inX10_about_10) hown hKK.1 hP 0 rfl rfl 2 (by decide) (hts _ (List.mem_of_getElem? (i := 2) (by decide +kernel))) (fun _ h9 => h9) rfl (pc := 76) dX10_about_76 ?_
        refine lv_iload_n hx hb (pc := 79) dX10_about_79 rfl (lv_at hl 3 rfl) ?_
        refine nv_iald (v := nI (nF j)) (i := j) hx hb hKK hP 2 rfl (by omega) (by decide) (rfl) (pc := 80) dX10_about_80 ?_
        exact hret.1 81 _ (nI (nF j)) dX10_about_81 (by unfold abtA; rw [if_pos hc, ecj, ecw]; rfl) (rfl)
      · refine lv_tableIn (off := 113) (tgt := 143) hx hb (pc := 30) dX10_about_30 (by decide +kernel) (by decide +kernel) (by decide +kernel) (by decide) ?_
        refine lv_iconst (v := nI 0) hx hb (pc := 143) dX10_about_143 (by decide) ?_
        refine lv_istore (lv' := [(5, .int (nI 0)), (4, .int (nI 0)), (3, .int (nI (liveS (kF j) (nF j) (Es yF j)))), (0, .ref om), (1, .int (nI j)), (2, .int (nI 2))]) hx hb (pc := 144) dX10_about_144 hl (by decide) rfl (fun ls hl => ?_)
        have L146 : ∀ (fz : Nat) (q : Nat) (hfz : nF j - q < fz) (hq : q ≤ nF j) (ls : Array Slot) (hl : lv_has ls 8 [(0, .ref om), (1, .int (nI j)), (3, .int (nI (liveS (kF j) (nF j) (Es yF j)))), (2, .int (nI 2)), (4, .int (nI (sN q (fun q => sN (kF j) (fun y => pc (Es yF j (q * 4 + y))))))), (5, .int (nI q))]), W p l e rmX10_about s m args below meth c s.heap [] 0 0 Q (F0 m 146 ls []) := by
          intro fz; induction fz with
          | zero => intro q hfz hq ls hl; exact absurd hfz (Nat.not_lt_zero _)
          | succ fz ih146 =>
            intro q hfz hq ls hl
            refine lv_iload hx hb (pc := 146) dX10_about_146 (lv_at hl 5 rfl) ?_
            refine lv_aload_n hx hb (pc := 148) dX10_about_148 rfl (lv_at hl 0 rfl) ?_
            refine va_get (v := .ref (ad 2)) hx hb hts (inX10_about_10) hown hKK.1 hP 0 rfl rfl 2 (by decide) (hts _ (List.mem_of_getElem? (i := 2) (by decide +kernel))) (fun _ h9 => h9) rfl (pc := 149) dX10_about_149 ?_
            refine lv_iload_n hx hb (pc := 152) dX10_about_152 rfl (lv_at hl 1 rfl) ?_
            refine nv_iald (v := nI (nF j)) (i := j) hx hb hKK hP 2 rfl (by omega) (by decide) (rfl) (pc := 153) dX10_about_153 ?_
            refine nv_icmp_ge (a := q) (b := (nF j)) (tgt := 237) hx hb (pc := 154) dX10_about_154 (by decide) (by omega) (by omega) (fun c154 => ?_) (fun c154 => ?_)
            · refine lv_iload hx hb (pc := 237) dX10_about_237 (lv_at hl 4 rfl) ?_
              exact hret.1 239 _ (nI (sN q (fun q => sN (kF j) (fun y => pc (Es yF j (q * 4 + y)))))) dX10_about_239 (by unfold abtA; rw [if_pos hc, ecj, ecw]; rw [show q = nF j by omega]; rfl) (rfl)
            · refine lv_iconst (v := nI 0) hx hb (pc := 157) dX10_about_157 (by decide) ?_
              refine lv_istore (lv' := [(6, .int (nI 0)), (0, .ref om), (1, .int (nI j)), (3, .int (nI (liveS (kF j) (nF j) (Es yF j)))), (2, .int (nI 2)), (4, .int (nI (sN q (fun q => sN (kF j) (fun y => pc (Es yF j (q * 4 + y))))))), (5, .int (nI q))]) hx hb (pc := 158) dX10_about_158 hl (by decide) rfl (fun ls hl => ?_)
              have L160 : ∀ (fz : Nat) (y : Nat) (hfz : kF j - y < fz) (hy : y ≤ kF j) (ls : Array Slot) (hl : lv_has ls 8 [(0, .ref om), (1, .int (nI j)), (3, .int (nI (liveS (kF j) (nF j) (Es yF j)))), (2, .int (nI 2)), (4, .int (nI (sN q (fun q => sN (kF j) (fun y => pc (Es yF j (q * 4 + y)))) + sN y (fun y => pc (Es yF j (q * 4 + y)))))), (5, .int (nI q)), (6, .int (nI y))]), W p l e rmX10_about s m args below meth c s.heap [] 0 0 Q (F0 m 160 ls []) := by
                intro fz; induction fz with
                | zero => intro y hfz hy ls hl; exact absurd hfz (Nat.not_lt_zero _)
                | succ fz ih160 =>
                  intro y hfz hy ls hl
                  refine lv_iload hx hb (pc := 160) dX10_about_160 (lv_at hl 6 rfl) ?_
                  refine lv_aload_n hx hb (pc := 162) dX10_about_162 rfl (lv_at hl 0 rfl) ?_
                  refine va_get (v := .ref (ad 1)) hx hb hts (inX10_about_10) hown hKK.1 hP 0 rfl rfl 1 (by decide) (hts _ (List.mem_of_getElem? (i := 1) (by decide +kernel))) (fun _ h9 => h9) rfl (pc := 163) dX10_about_163 ?_
                  refine lv_iload_n hx hb (pc := 166) dX10_about_166 rfl (lv_at hl 1 rfl) ?_
                  refine nv_iald (v := nI (kF j)) (i := j) hx hb hKK hP 1 rfl (by omega) (by decide) (rfl) (pc := 167) dX10_about_167 ?_
                  refine nv_icmp_ge (a := y) (b := (kF j)) (tgt := 231) hx hb (pc := 168) dX10_about_168 (by decide) (by omega) (by omega) (fun c168 => ?_) (fun c168 => ?_)
                  · refine lv_iinc (v := nI (q + 1)) (lv' := [(5, .int (nI (q + 1))), (0, .ref om), (1, .int (nI j)), (3, .int (nI (liveS (kF j) (nF j) (Es yF j)))), (2, .int (nI 2)), (4, .int (nI (sN q (fun q => sN (kF j) (fun y => pc (Es yF j (q * 4 + y)))) + sN y (fun y => pc (Es yF j (q * 4 + y)))))), (6, .int (nI y))]) hx hb (pc := 231) dX10_about_231 hl (k := 5) rfl (rr_inc _) (by decide) rfl (fun ls hl => ?_)
                    refine lv_goto (tgt := 146) hx hb (pc := 234) dX10_about_234 (by decide) ?_
                    have hl : lv_has ls 8 [(5, .int (nI (q + 1))), (0, .ref om), (1, .int (nI j)), (3, .int (nI (liveS (kF j) (nF j) (Es yF j)))), (2, .int (nI 2)), (4, .int (nI (sN (q + 1) (fun q => sN (kF j) (fun y => pc (Es yF j (q * 4 + y))))))), (6, .int (nI y))] := by rw [show sN (q + 1) (fun q => sN (kF j) (fun y => pc (Es yF j (q * 4 + y)))) = sN q (fun q => sN (kF j) (fun y => pc (Es yF j (q * 4 + y)))) + sN y (fun y => pc (Es yF j (q * 4 + y))) from by rw [show y = kF j by omega]; rfl]; exact hl
                    exact ih146 (q + 1) (by omega) (by omega) ls (lv_sub hl [1, 2, 3, 4, 5, 0] rfl)
                  · refine lv_aload_n hx hb (pc := 171) dX10_about_171 rfl (lv_at hl 0 rfl) ?_
                    refine va_get (v := .ref (ad 3)) hx hb hts (inX10_about_10) hown hKK.1 hP 0 rfl rfl 3 (by decide) (hts _ (List.mem_of_getElem? (i := 3) (by decide +kernel))) (fun _ h9 => h9) rfl (pc := 172) dX10_about_172 ?_
                    refine lv_iload_n hx hb (pc := 175) dX10_about_175 rfl (lv_at hl 1 rfl) ?_
                    refine lv_iload hx hb (pc := 176) dX10_about_176 (lv_at hl 5 rfl) ?_
                    refine lv_iload hx hb (pc := 178) dX10_about_178 (lv_at hl 6 rfl) ?_
                    refine rr_callP (rv := .int (nI (64 * j + (q * 4 + y)))) (pc := 180) (va_runS (As := [.int (nI j), .int (nI q), .int (nI y)]) (rest := [.ref (ad 3)]) ⟨hx, hb, hml, hown, hts⟩ (c_X10_at l K j q y) (cwS 3 hts gX10_about_X10_at rfl rfl rfl (by decide +kernel) ⟨Nat.le_of_ble_eq_true rfl, Nat.le_of_ble_eq_true rfl⟩) (rr_preS hKK (trivial)) rfl rfl hl.1 rfl (lv_room (Nat.le_of_ble_eq_true rfl)) dX10_about_180 ⟨Nat.le_refl _, Nat.le_refl _⟩) ?_
                    refine nv_iald (v := nI (Es yF j (q * 4 + y))) (i := (64 * j + (q * 4 + y))) hx hb hKK hP 3 rfl (by omega) (by decide) (rfl) (pc := 183) dX10_about_183 ?_
                    have hE9 := s5j (q * 4 + y) (by omega)
                    refine lv_istore (lv' := [(7, .int (nI (Es yF j (q * 4 + y)))), (0, .ref om), (1, .int (nI j)), (3, .int (nI (liveS (kF j) (nF j) (Es yF j)))), (2, .int (nI 2)), (4, .int (nI (sN q (fun q => sN (kF j) (fun y => pc (Es yF j (q * 4 + y)))) + sN y (fun y => pc (Es yF j (q * 4 + y)))))), (5, .int (nI q)), (6, .int (nI y))]) hx hb (pc := 184) dX10_about_184 hl (by decide) rfl (fun ls hl => ?_)
                    refine lv_iload hx hb (pc := 186) dX10_about_186 (lv_at hl 5 rfl) ?_
                    refine lv_iload_n hx hb (pc := 188) dX10_about_188 rfl (lv_at hl 4 rfl) ?_
                    refine lv_iconst (v := nI 2) hx hb (pc := 189) dX10_about_189 (by decide) ?_
                    refine nv_icmp_ne (a := 2) (b := 2) (tgt := 201) hx hb (pc := 190) dX10_about_190 (by decide) (by decide) (by decide) (fun h => absurd h (by decide)) (fun _ => ?_)
                    refine lv_iload hx hb (pc := 193) dX10_about_193 (lv_at hl 0 rfl) ?_
                    refine rr_callP (rv := .int (nI (pc (Es yF j (q * 4 + y))))) (pc := 195) (va_runS (As := [.int (nI (Es yF j (q * 4 + y)))]) (rest := [.int (nI (sN q (fun q => sN (kF j) (fun y => pc (Es yF j (q * 4 + y)))) + sN y (fun y => pc (Es yF j (q * 4 + y)))))]) ⟨hx, hb, hml, hown, hts⟩ (c_X10_bits l K (Es yF j (q * 4 + y)) hE9) (cwS 1 hts gX10_about_X10_bits rfl rfl rfl (by decide +kernel) ⟨Nat.le_of_ble_eq_true rfl, Nat.le_of_ble_eq_true rfl⟩) (rr_preS hKK (trivial)) rfl rfl hl.1 rfl (lv_room (Nat.le_of_ble_eq_true rfl)) dX10_about_195 ⟨Nat.le_refl _, Nat.le_refl _⟩) ?_
                    refine lv_goto (tgt := 222) hx hb (pc := 198) dX10_about_198 (by decide) ?_
                    refine nv_iadd (a := (sN q (fun q => sN (kF j) (fun y => pc (Es yF j (q * 4 + y)))) + sN y (fun y => pc (Es yF j (q * 4 + y))))) (b := (pc (Es yF j (q * 4 + y)))) hx hb (pc := 222) dX10_about_222 ?_
                    refine lv_istore (lv' := [(4, .int (nI ((sN q (fun q => sN (kF j) (fun y => pc (Es yF j (q * 4 + y)))) + sN y (fun y => pc (Es yF j (q * 4 + y)))) + (pc (Es yF j (q * 4 + y)))))), (7, .int (nI (Es yF j (q * 4 + y)))), (0, .ref om), (1, .int (nI j)), (3, .int (nI (liveS (kF j) (nF j) (Es yF j)))), (2, .int (nI 2)), (5, .int (nI q)), (6, .int (nI y))]) hx hb (pc := 223) dX10_about_223 hl (by decide) rfl (fun ls hl => ?_)
                    refine lv_iinc (v := nI (y + 1)) (lv' := [(6, .int (nI (y + 1))), (4, .int (nI ((sN q (fun q => sN (kF j) (fun y => pc (Es yF j (q * 4 + y)))) + sN y (fun y => pc (Es yF j (q * 4 + y)))) + (pc (Es yF j (q * 4 + y)))))), (7, .int (nI (Es yF j (q * 4 + y)))), (0, .ref om), (1, .int (nI j)), (3, .int (nI (liveS (kF j) (nF j) (Es yF j)))), (2, .int (nI 2)), (5, .int (nI q))]) hx hb (pc := 225) dX10_about_225 hl (k := 7) rfl (rr_inc _) (by decide) rfl (fun ls hl => ?_)
                    refine lv_goto (tgt := 160) hx hb (pc := 228) dX10_about_228 (by decide) ?_
                    have hl : lv_has ls 8 [(6, .int (nI (y + 1))), (4, .int (nI (sN q (fun q => sN (kF j) (fun y => pc (Es yF j (q * 4 + y)))) + sN (y + 1) (fun y => pc (Es yF j (q * 4 + y)))))), (7, .int (nI (Es yF j (q * 4 + y)))), (0, .ref om), (1, .int (nI j)), (3, .int (nI (liveS (kF j) (nF j) (Es yF j)))), (2, .int (nI 2)), (5, .int (nI q))] := by rw [show sN q (fun q => sN (kF j) (fun y => pc (Es yF j (q * 4 + y)))) + sN (y + 1) (fun y => pc (Es yF j (q * 4 + y))) = (sN q (fun q => sN (kF j) (fun y => pc (Es yF j (q * 4 + y)))) + sN y (fun y => pc (Es yF j (q * 4 + y)))) + (pc (Es yF j (q * 4 + y))) from by rw [sN_succ, Nat.add_assoc]]; exact hl
                    exact ih160 (y + 1) (by omega) (by omega) ls (lv_sub hl [3, 4, 5, 6, 1, 7, 0] rfl)
              have hl : lv_has ls 8 [(6, .int (nI 0)), (0, .ref om), (1, .int (nI j)), (3, .int (nI (liveS (kF j) (nF j) (Es yF j)))), (2, .int (nI 2)), (4, .int (nI (sN q (fun q => sN (kF j) (fun y => pc (Es yF j (q * 4 + y)))) + sN 0 (fun y => pc (Es yF j (q * 4 + y)))))), (5, .int (nI q))] := by rw [show sN q (fun q => sN (kF j) (fun y => pc (Es yF j (q * 4 + y)))) + sN 0 (fun y => pc (Es yF j (q * 4 + y))) = sN q (fun q => sN (kF j) (fun y => pc (Es yF j (q * 4 + y)))) from rfl]; exact hl
              exact L160 (5) 0 (by omega) (Nat.zero_le _) ls (lv_sub hl [1, 2, 3, 4, 5, 6, 0] rfl)
        have hl : lv_has ls 8 [(5, .int (nI 0)), (4, .int (nI (sN 0 (fun q => sN (kF j) (fun y => pc (Es yF j (q * 4 + y))))))), (3, .int (nI (liveS (kF j) (nF j) (Es yF j)))), (0, .ref om), (1, .int (nI j)), (2, .int (nI 2))] := by rw [show sN 0 (fun q => sN (kF j) (fun y => pc (Es yF j (q * 4 + y)))) = 0 from rfl]; exact hl
        exact L146 (17) 0 (by omega) (Nat.zero_le _) ls (lv_sub hl [3, 4, 2, 5, 1, 0] rfl)
      · refine lv_tableIn (off := 52) (tgt := 82) hx hb (pc := 30) dX10_about_30 (by decide +kernel) (by decide +kernel) (by decide +kernel) (by decide) ?_
        refine lv_iload_n hx hb (pc := 82) dX10_about_82 rfl (lv_at hl 1 rfl) ?_
        refine rr_callP (rv := .int (nI (pc (liveS (kF j) (nF j) (Es yF j))))) (pc := 83) (va_runS (As := [.int (nI (liveS (kF j) (nF j) (Es yF j)))]) (rest := []) ⟨hx, hb, hml, hown, hts⟩ (c_X10_bits l K (liveS (kF j) (nF j) (Es yF j)) hlv) (cwS 1 hts gX10_about_X10_bits rfl rfl rfl (by decide +kernel) ⟨Nat.le_of_ble_eq_true rfl, Nat.le_of_ble_eq_true rfl⟩) (rr_preS hKK (trivial)) rfl rfl hl.1 rfl (lv_room (Nat.le_of_ble_eq_true rfl)) dX10_about_83 ⟨Nat.le_refl _, Nat.le_refl _⟩) ?_
        exact hret.1 86 _ (nI (pc (liveS (kF j) (nF j) (Es yF j)))) dX10_about_86 (by unfold abtA; rw [if_pos hc, ecj, ecw]; rfl) (rfl)
      · refine lv_tableIn (off := 113) (tgt := 143) hx hb (pc := 30) dX10_about_30 (by decide +kernel) (by decide +kernel) (by decide +kernel) (by decide) ?_
        refine lv_iconst (v := nI 0) hx hb (pc := 143) dX10_about_143 (by decide) ?_
        refine lv_istore (lv' := [(5, .int (nI 0)), (4, .int (nI 0)), (3, .int (nI (liveS (kF j) (nF j) (Es yF j)))), (0, .ref om), (1, .int (nI j)), (2, .int (nI 4))]) hx hb (pc := 144) dX10_about_144 hl (by decide) rfl (fun ls hl => ?_)
        have L146 : ∀ (fz : Nat) (q : Nat) (hfz : nF j - q < fz) (hq : q ≤ nF j) (ls : Array Slot) (hl : lv_has ls 8 [(0, .ref om), (1, .int (nI j)), (3, .int (nI (liveS (kF j) (nF j) (Es yF j)))), (2, .int (nI 4)), (4, .int (nI (sN q (fun q => sN (kF j) (fun y => pc (lvE (liveS (kF j) (nF j) (Es yF j)) (Es yF j) q y)))))), (5, .int (nI q))]), W p l e rmX10_about s m args below meth c s.heap [] 0 0 Q (F0 m 146 ls []) := by
          intro fz; induction fz with
          | zero => intro q hfz hq ls hl; exact absurd hfz (Nat.not_lt_zero _)
          | succ fz ih146 =>
            intro q hfz hq ls hl
            refine lv_iload hx hb (pc := 146) dX10_about_146 (lv_at hl 5 rfl) ?_
            refine lv_aload_n hx hb (pc := 148) dX10_about_148 rfl (lv_at hl 0 rfl) ?_
            refine va_get (v := .ref (ad 2)) hx hb hts (inX10_about_10) hown hKK.1 hP 0 rfl rfl 2 (by decide) (hts _ (List.mem_of_getElem? (i := 2) (by decide +kernel))) (fun _ h9 => h9) rfl (pc := 149) dX10_about_149 ?_
            refine lv_iload_n hx hb (pc := 152) dX10_about_152 rfl (lv_at hl 1 rfl) ?_
            refine nv_iald (v := nI (nF j)) (i := j) hx hb hKK hP 2 rfl (by omega) (by decide) (rfl) (pc := 153) dX10_about_153 ?_
            refine nv_icmp_ge (a := q) (b := (nF j)) (tgt := 237) hx hb (pc := 154) dX10_about_154 (by decide) (by omega) (by omega) (fun c154 => ?_) (fun c154 => ?_)
            · refine lv_iload hx hb (pc := 237) dX10_about_237 (lv_at hl 4 rfl) ?_
              exact hret.1 239 _ (nI (sN q (fun q => sN (kF j) (fun y => pc (lvE (liveS (kF j) (nF j) (Es yF j)) (Es yF j) q y))))) dX10_about_239 (by unfold abtA; rw [if_pos hc, ecj, ecw]; rw [show q = nF j by omega]; rfl) (rfl)
            · refine lv_iconst (v := nI 0) hx hb (pc := 157) dX10_about_157 (by decide) ?_
              refine lv_istore (lv' := [(6, .int (nI 0)), (0, .ref om), (1, .int (nI j)), (3, .int (nI (liveS (kF j) (nF j) (Es yF j)))), (2, .int (nI 4)), (4, .int (nI (sN q (fun q => sN (kF j) (fun y => pc (lvE (liveS (kF j) (nF j) (Es yF j)) (Es yF j) q y)))))), (5, .int (nI q))]) hx hb (pc := 158) dX10_about_158 hl (by decide) rfl (fun ls hl => ?_)
              have L160 : ∀ (fz : Nat) (y : Nat) (hfz : kF j - y < fz) (hy : y ≤ kF j) (ls : Array Slot) (hl : lv_has ls 8 [(0, .ref om), (1, .int (nI j)), (3, .int (nI (liveS (kF j) (nF j) (Es yF j)))), (2, .int (nI 4)), (4, .int (nI (sN q (fun q => sN (kF j) (fun y => pc (lvE (liveS (kF j) (nF j) (Es yF j)) (Es yF j) q y))) + sN y (fun y => pc (lvE (liveS (kF j) (nF j) (Es yF j)) (Es yF j) q y))))), (5, .int (nI q)), (6, .int (nI y))]), W p l e rmX10_about s m args below meth c s.heap [] 0 0 Q (F0 m 160 ls []) := by
                intro fz; induction fz with
                | zero => intro y hfz hy ls hl; exact absurd hfz (Nat.not_lt_zero _)
                | succ fz ih160 =>
                  intro y hfz hy ls hl
                  refine lv_iload hx hb (pc := 160) dX10_about_160 (lv_at hl 6 rfl) ?_
                  refine lv_aload_n hx hb (pc := 162) dX10_about_162 rfl (lv_at hl 0 rfl) ?_
                  refine va_get (v := .ref (ad 1)) hx hb hts (inX10_about_10) hown hKK.1 hP 0 rfl rfl 1 (by decide) (hts _ (List.mem_of_getElem? (i := 1) (by decide +kernel))) (fun _ h9 => h9) rfl (pc := 163) dX10_about_163 ?_
                  refine lv_iload_n hx hb (pc := 166) dX10_about_166 rfl (lv_at hl 1 rfl) ?_
                  refine nv_iald (v := nI (kF j)) (i := j) hx hb hKK hP 1 rfl (by omega) (by decide) (rfl) (pc := 167) dX10_about_167 ?_
                  refine nv_icmp_ge (a := y) (b := (kF j)) (tgt := 231) hx hb (pc := 168) dX10_about_168 (by decide) (by omega) (by omega) (fun c168 => ?_) (fun c168 => ?_)
                  · refine lv_iinc (v := nI (q + 1)) (lv' := [(5, .int (nI (q + 1))), (0, .ref om), (1, .int (nI j)), (3, .int (nI (liveS (kF j) (nF j) (Es yF j)))), (2, .int (nI 4)), (4, .int (nI (sN q (fun q => sN (kF j) (fun y => pc (lvE (liveS (kF j) (nF j) (Es yF j)) (Es yF j) q y))) + sN y (fun y => pc (lvE (liveS (kF j) (nF j) (Es yF j)) (Es yF j) q y))))), (6, .int (nI y))]) hx hb (pc := 231) dX10_about_231 hl (k := 5) rfl (rr_inc _) (by decide) rfl (fun ls hl => ?_)
                    refine lv_goto (tgt := 146) hx hb (pc := 234) dX10_about_234 (by decide) ?_
                    have hl : lv_has ls 8 [(5, .int (nI (q + 1))), (0, .ref om), (1, .int (nI j)), (3, .int (nI (liveS (kF j) (nF j) (Es yF j)))), (2, .int (nI 4)), (4, .int (nI (sN (q + 1) (fun q => sN (kF j) (fun y => pc (lvE (liveS (kF j) (nF j) (Es yF j)) (Es yF j) q y)))))), (6, .int (nI y))] := by rw [show sN (q + 1) (fun q => sN (kF j) (fun y => pc (lvE (liveS (kF j) (nF j) (Es yF j)) (Es yF j) q y))) = sN q (fun q => sN (kF j) (fun y => pc (lvE (liveS (kF j) (nF j) (Es yF j)) (Es yF j) q y))) + sN y (fun y => pc (lvE (liveS (kF j) (nF j) (Es yF j)) (Es yF j) q y)) from by rw [show y = kF j by omega]; rfl]; exact hl
                    exact ih146 (q + 1) (by omega) (by omega) ls (lv_sub hl [1, 2, 3, 4, 5, 0] rfl)
                  · refine lv_aload_n hx hb (pc := 171) dX10_about_171 rfl (lv_at hl 0 rfl) ?_
                    refine va_get (v := .ref (ad 3)) hx hb hts (inX10_about_10) hown hKK.1 hP 0 rfl rfl 3 (by decide) (hts _ (List.mem_of_getElem? (i := 3) (by decide +kernel))) (fun _ h9 => h9) rfl (pc := 172) dX10_about_172 ?_
                    refine lv_iload_n hx hb (pc := 175) dX10_about_175 rfl (lv_at hl 1 rfl) ?_
                    refine lv_iload hx hb (pc := 176) dX10_about_176 (lv_at hl 5 rfl) ?_
                    refine lv_iload hx hb (pc := 178) dX10_about_178 (lv_at hl 6 rfl) ?_
                    refine rr_callP (rv := .int (nI (64 * j + (q * 4 + y)))) (pc := 180) (va_runS (As := [.int (nI j), .int (nI q), .int (nI y)]) (rest := [.ref (ad 3)]) ⟨hx, hb, hml, hown, hts⟩ (c_X10_at l K j q y) (cwS 3 hts gX10_about_X10_at rfl rfl rfl (by decide +kernel) ⟨Nat.le_of_ble_eq_true rfl, Nat.le_of_ble_eq_true rfl⟩) (rr_preS hKK (trivial)) rfl rfl hl.1 rfl (lv_room (Nat.le_of_ble_eq_true rfl)) dX10_about_180 ⟨Nat.le_refl _, Nat.le_refl _⟩) ?_
                    refine nv_iald (v := nI (Es yF j (q * 4 + y))) (i := (64 * j + (q * 4 + y))) hx hb hKK hP 3 rfl (by omega) (by decide) (rfl) (pc := 183) dX10_about_183 ?_
                    have hE9 := s5j (q * 4 + y) (by omega)
                    refine lv_istore (lv' := [(7, .int (nI (Es yF j (q * 4 + y)))), (0, .ref om), (1, .int (nI j)), (3, .int (nI (liveS (kF j) (nF j) (Es yF j)))), (2, .int (nI 4)), (4, .int (nI (sN q (fun q => sN (kF j) (fun y => pc (lvE (liveS (kF j) (nF j) (Es yF j)) (Es yF j) q y))) + sN y (fun y => pc (lvE (liveS (kF j) (nF j) (Es yF j)) (Es yF j) q y))))), (5, .int (nI q)), (6, .int (nI y))]) hx hb (pc := 184) dX10_about_184 hl (by decide) rfl (fun ls hl => ?_)
                    refine lv_iload hx hb (pc := 186) dX10_about_186 (lv_at hl 5 rfl) ?_
                    refine lv_iload_n hx hb (pc := 188) dX10_about_188 rfl (lv_at hl 4 rfl) ?_
                    refine lv_iconst (v := nI 2) hx hb (pc := 189) dX10_about_189 (by decide) ?_
                    refine nv_icmp_ne (a := 4) (b := 2) (tgt := 201) hx hb (pc := 190) dX10_about_190 (by decide) (by decide) (by decide) (fun _ => ?_) (fun h => absurd h (by decide))
                    refine lv_iload_n hx hb (pc := 201) dX10_about_201 rfl (lv_at hl 3 rfl) ?_
                    refine lv_iload hx hb (pc := 202) dX10_about_202 (lv_at hl 6 rfl) ?_
                    refine nv_ishr (a := (liveS (kF j) (nF j) (Es yF j))) (b := q) hx hb (pc := 204) dX10_about_204 (by omega) (by omega) ?_
                    refine lv_iconst (v := nI 1) hx hb (pc := 205) dX10_about_205 (by decide) ?_
                    refine nv_bit (a := (liveS (kF j) (nF j) (Es yF j))) (q := q) hx hb (pc := 206) dX10_about_206 ?_
                    refine lv_iconst (v := nI 1) hx hb (pc := 207) dX10_about_207 (by decide) ?_
                    refine nv_icmp_ne_b1 (tgt := 221) hx hb (pc := 208) dX10_about_208 (by decide) (fun c208 => ?_) (fun c208 => ?_)
                    · refine lv_iconst (v := nI 0) hx hb (pc := 221) dX10_about_221 (by decide) ?_
                      refine nv_iadd (a := (sN q (fun q => sN (kF j) (fun y => pc (lvE (liveS (kF j) (nF j) (Es yF j)) (Es yF j) q y))) + sN y (fun y => pc (lvE (liveS (kF j) (nF j) (Es yF j)) (Es yF j) q y)))) (b := 0) hx hb (pc := 222) dX10_about_222 ?_
                      refine lv_istore (lv' := [(4, .int (nI ((sN q (fun q => sN (kF j) (fun y => pc (lvE (liveS (kF j) (nF j) (Es yF j)) (Es yF j) q y))) + sN y (fun y => pc (lvE (liveS (kF j) (nF j) (Es yF j)) (Es yF j) q y))) + 0))), (7, .int (nI (Es yF j (q * 4 + y)))), (0, .ref om), (1, .int (nI j)), (3, .int (nI (liveS (kF j) (nF j) (Es yF j)))), (2, .int (nI 4)), (5, .int (nI q)), (6, .int (nI y))]) hx hb (pc := 223) dX10_about_223 hl (by decide) rfl (fun ls hl => ?_)
                      refine lv_iinc (v := nI (y + 1)) (lv' := [(6, .int (nI (y + 1))), (4, .int (nI ((sN q (fun q => sN (kF j) (fun y => pc (lvE (liveS (kF j) (nF j) (Es yF j)) (Es yF j) q y))) + sN y (fun y => pc (lvE (liveS (kF j) (nF j) (Es yF j)) (Es yF j) q y))) + 0))), (7, .int (nI (Es yF j (q * 4 + y)))), (0, .ref om), (1, .int (nI j)), (3, .int (nI (liveS (kF j) (nF j) (Es yF j)))), (2, .int (nI 4)), (5, .int (nI q))]) hx hb (pc := 225) dX10_about_225 hl (k := 7) rfl (rr_inc _) (by decide) rfl (fun ls hl => ?_)
                      refine lv_goto (tgt := 160) hx hb (pc := 228) dX10_about_228 (by decide) ?_
                      have hl : lv_has ls 8 [(6, .int (nI (y + 1))), (4, .int (nI (sN q (fun q => sN (kF j) (fun y => pc (lvE (liveS (kF j) (nF j) (Es yF j)) (Es yF j) q y))) + sN (y + 1) (fun y => pc (lvE (liveS (kF j) (nF j) (Es yF j)) (Es yF j) q y))))), (7, .int (nI (Es yF j (q * 4 + y)))), (0, .ref om), (1, .int (nI j)), (3, .int (nI (liveS (kF j) (nF j) (Es yF j)))), (2, .int (nI 4)), (5, .int (nI q))] := by rw [show sN q (fun q => sN (kF j) (fun y => pc (lvE (liveS (kF j) (nF j) (Es yF j)) (Es yF j) q y))) + sN (y + 1) (fun y => pc (lvE (liveS (kF j) (nF j) (Es yF j)) (Es yF j) q y)) = (sN q (fun q => sN (kF j) (fun y => pc (lvE (liveS (kF j) (nF j) (Es yF j)) (Es yF j) q y))) + sN y (fun y => pc (lvE (liveS (kF j) (nF j) (Es yF j)) (Es yF j) q y))) + 0 from by rw [sN_succ, Nat.add_assoc]; first | done | (rw [lvE_dead c208]; done)]; exact hl
                      exact ih160 (y + 1) (by omega) (by omega) ls (lv_sub hl [3, 4, 5, 6, 1, 7, 0] rfl)
                    · refine lv_iload hx hb (pc := 211) dX10_about_211 (lv_at hl 0 rfl) ?_
                      refine lv_iload_n hx hb (pc := 213) dX10_about_213 rfl (lv_at hl 3 rfl) ?_
                      refine nv_iand (a := (Es yF j (q * 4 + y))) (b := (liveS (kF j) (nF j) (Es yF j))) hx hb (pc := 214) dX10_about_214 ?_
                      refine rr_top (v := .int (nI (lvE (liveS (kF j) (nF j) (Es yF j)) (Es yF j) q y))) (by rw [lvE_or c208]) ?_
                      refine rr_callP (rv := .int (nI (pc (lvE (liveS (kF j) (nF j) (Es yF j)) (Es yF j) q y)))) (pc := 215) (va_runS (As := [.int (nI (lvE (liveS (kF j) (nF j) (Es yF j)) (Es yF j) q y))]) (rest := [.int (nI (sN q (fun q => sN (kF j) (fun y => pc (lvE (liveS (kF j) (nF j) (Es yF j)) (Es yF j) q y))) + sN y (fun y => pc (lvE (liveS (kF j) (nF j) (Es yF j)) (Es yF j) q y))))]) ⟨hx, hb, hml, hown, hts⟩ (c_X10_bits l K (lvE (liveS (kF j) (nF j) (Es yF j)) (Es yF j) q y) (lvE_lt (b := 16) hlv _ _ _)) (cwS 1 hts gX10_about_X10_bits rfl rfl rfl (by decide +kernel) ⟨Nat.le_of_ble_eq_true rfl, Nat.le_of_ble_eq_true rfl⟩) (rr_preS hKK (trivial)) rfl rfl hl.1 rfl (lv_room (Nat.le_of_ble_eq_true rfl)) dX10_about_215 ⟨Nat.le_refl _, Nat.le_refl _⟩) ?_
                      refine lv_goto (tgt := 222) hx hb (pc := 218) dX10_about_218 (by decide) ?_
                      refine nv_iadd (a := (sN q (fun q => sN (kF j) (fun y => pc (lvE (liveS (kF j) (nF j) (Es yF j)) (Es yF j) q y))) + sN y (fun y => pc (lvE (liveS (kF j) (nF j) (Es yF j)) (Es yF j) q y)))) (b := (pc (lvE (liveS (kF j) (nF j) (Es yF j)) (Es yF j) q y))) hx hb (pc := 222) dX10_about_222 ?_
                      refine lv_istore (lv' := [(4, .int (nI ((sN q (fun q => sN (kF j) (fun y => pc (lvE (liveS (kF j) (nF j) (Es yF j)) (Es yF j) q y))) + sN y (fun y => pc (lvE (liveS (kF j) (nF j) (Es yF j)) (Es yF j) q y))) + (pc (lvE (liveS (kF j) (nF j) (Es yF j)) (Es yF j) q y))))), (7, .int (nI (Es yF j (q * 4 + y)))), (0, .ref om), (1, .int (nI j)), (3, .int (nI (liveS (kF j) (nF j) (Es yF j)))), (2, .int (nI 4)), (5, .int (nI q)), (6, .int (nI y))]) hx hb (pc := 223) dX10_about_223 hl (by decide) rfl (fun ls hl => ?_)
                      refine lv_iinc (v := nI (y + 1)) (lv' := [(6, .int (nI (y + 1))), (4, .int (nI ((sN q (fun q => sN (kF j) (fun y => pc (lvE (liveS (kF j) (nF j) (Es yF j)) (Es yF j) q y))) + sN y (fun y => pc (lvE (liveS (kF j) (nF j) (Es yF j)) (Es yF j) q y))) + (pc (lvE (liveS (kF j) (nF j) (Es yF j)) (Es yF j) q y))))), (7, .int (nI (Es yF j (q * 4 + y)))), (0, .ref om), (1, .int (nI j)), (3, .int (nI (liveS (kF j) (nF j) (Es yF j)))), (2, .int (nI 4)), (5, .int (nI q))]) hx hb (pc := 225) dX10_about_225 hl (k := 7) rfl (rr_inc _) (by decide) rfl (fun ls hl => ?_)
                      refine lv_goto (tgt := 160) hx hb (pc := 228) dX10_about_228 (by decide) ?_
                      have hl : lv_has ls 8 [(6, .int (nI (y + 1))), (4, .int (nI (sN q (fun q => sN (kF j) (fun y => pc (lvE (liveS (kF j) (nF j) (Es yF j)) (Es yF j) q y))) + sN (y + 1) (fun y => pc (lvE (liveS (kF j) (nF j) (Es yF j)) (Es yF j) q y))))), (7, .int (nI (Es yF j (q * 4 + y)))), (0, .ref om), (1, .int (nI j)), (3, .int (nI (liveS (kF j) (nF j) (Es yF j)))), (2, .int (nI 4)), (5, .int (nI q))] := by rw [show sN q (fun q => sN (kF j) (fun y => pc (lvE (liveS (kF j) (nF j) (Es yF j)) (Es yF j) q y))) + sN (y + 1) (fun y => pc (lvE (liveS (kF j) (nF j) (Es yF j)) (Es yF j) q y)) = (sN q (fun q => sN (kF j) (fun y => pc (lvE (liveS (kF j) (nF j) (Es yF j)) (Es yF j) q y))) + sN y (fun y => pc (lvE (liveS (kF j) (nF j) (Es yF j)) (Es yF j) q y))) + (pc (lvE (liveS (kF j) (nF j) (Es yF j)) (Es yF j) q y)) from by rw [sN_succ, Nat.add_assoc]; first | done | (rw [lvE_dead c208]; done)]; exact hl
                      exact ih160 (y + 1) (by omega) (by omega) ls (lv_sub hl [3, 4, 5, 6, 1, 7, 0] rfl)
              have hl : lv_has ls 8 [(6, .int (nI 0)), (0, .ref om), (1, .int (nI j)), (3, .int (nI (liveS (kF j) (nF j) (Es yF j)))), (2, .int (nI 4)), (4, .int (nI (sN q (fun q => sN (kF j) (fun y => pc (lvE (liveS (kF j) (nF j) (Es yF j)) (Es yF j) q y))) + sN 0 (fun y => pc (lvE (liveS (kF j) (nF j) (Es yF j)) (Es yF j) q y))))), (5, .int (nI q))] := by rw [show sN q (fun q => sN (kF j) (fun y => pc (lvE (liveS (kF j) (nF j) (Es yF j)) (Es yF j) q y))) + sN 0 (fun y => pc (lvE (liveS (kF j) (nF j) (Es yF j)) (Es yF j) q y)) = sN q (fun q => sN (kF j) (fun y => pc (lvE (liveS (kF j) (nF j) (Es yF j)) (Es yF j) q y))) from rfl]; exact hl
              exact L160 (5) 0 (by omega) (Nat.zero_le _) ls (lv_sub hl [1, 2, 3, 4, 5, 6, 0] rfl)
        have hl : lv_has ls 8 [(5, .int (nI 0)), (4, .int (nI (sN 0 (fun q => sN (kF j) (fun y => pc (lvE (liveS (kF j) (nF j) (Es yF j)) (Es yF j) q y)))))), (3, .int (nI (liveS (kF j) (nF j) (Es yF j)))), (0, .ref om), (1, .int (nI j)), (2, .int (nI 4))] := by rw [show sN 0 (fun q => sN (kF j) (fun y => pc (lvE (liveS (kF j) (nF j) (Es yF j)) (Es yF j) q y))) = 0 from rfl]; exact hl
        exact L146 (17) 0 (by omega) (Nat.zero_le _) ls (lv_sub hl [3, 4, 2, 5, 1, 0] rfl)
      · refine lv_tableIn (off := 57) (tgt := 87) hx hb (pc := 30) dX10_about_30 (by decide +kernel) (by decide +kernel) (by decide +kernel) (by decide) ?_
        refine lv_iconst (v := nI 0) hx hb (pc := 87) dX10_about_87 (by decide) ?_
        refine lv_istore (lv' := [(5, .int (nI 0)), (4, .int (nI 0)), (3, .int (nI (liveS (kF j) (nF j) (Es yF j)))), (0, .ref om), (1, .int (nI j)), (2, .int (nI 5))]) hx hb (pc := 88) dX10_about_88 hl (by decide) rfl (fun ls hl => ?_)
        have L90 : ∀ (fz : Nat) (q : Nat) (hfz : nF j - q < fz) (hq : q ≤ nF j) (ls : Array Slot) (hl : lv_has ls 8 [(0, .ref om), (1, .int (nI j)), (3, .int (nI (liveS (kF j) (nF j) (Es yF j)))), (4, .int (nI (hmP (nF j) (kF j) (liveS (kF j) (nF j) (Es yF j)) (Es yF j) q))), (5, .int (nI q))]), W p l e rmX10_about s m args below meth c s.heap [] 0 0 Q (F0 m 90 ls []) := by
          intro fz; induction fz with
          | zero => intro q hfz hq ls hl; exact absurd hfz (Nat.not_lt_zero _)
          | succ fz ih90 =>
            intro q hfz hq ls hl
            refine lv_iload hx hb (pc := 90) dX10_about_90 (lv_at hl 4 rfl) ?_
            refine lv_aload_n hx hb (pc := 92) dX10_about_92 rfl (lv_at hl 0 rfl) ?_
            refine va_get (v := .ref (ad 2)) hx hb hts (inX10_about_10) hown hKK.1 hP 0 rfl rfl 2 (by decide) (hts _ (List.mem_of_getElem? (i := 2) (by decide +kernel))) (fun _ h9 => h9) rfl (pc := 93) dX10_about_93 ?_
            refine lv_iload_n hx hb (pc := 96) dX10_about_96 rfl (lv_at hl 1 rfl) ?_
            refine nv_iald (v := nI (nF j)) (i := j) hx hb hKK hP 2 rfl (by omega) (by decide) (rfl) (pc := 97) dX10_about_97 ?_
            refine nv_icmp_ge (a := q) (b := (nF j)) (tgt := 140) hx hb (pc := 98) dX10_about_98 (by decide) (by omega) (by omega) (fun c98 => ?_) (fun c98 => ?_)
            · refine lv_iload hx hb (pc := 140) dX10_about_140 (lv_at hl 3 rfl) ?_
              exact hret.1 142 _ (nI (hmP (nF j) (kF j) (liveS (kF j) (nF j) (Es yF j)) (Es yF j) q)) dX10_about_142 (by unfold abtA; rw [if_pos hc, ecj, ecw]; rw [show q = nF j by omega]; rfl) (rfl)
            · refine lv_iload hx hb (pc := 101) dX10_about_101 (lv_at hl 3 rfl) ?_
              refine lv_iload_n hx hb (pc := 103) dX10_about_103 rfl (lv_at hl 2 rfl) ?_
              refine lv_iload hx hb (pc := 104) dX10_about_104 (lv_at hl 4 rfl) ?_
              refine nv_ishr (a := (liveS (kF j) (nF j) (Es yF j))) (b := q) hx hb (pc := 106) dX10_about_106 (by omega) (by omega) ?_
              refine lv_iconst (v := nI 1) hx hb (pc := 107) dX10_about_107 (by decide) ?_
              refine nv_bit (a := (liveS (kF j) (nF j) (Es yF j))) (q := q) hx hb (pc := 108) dX10_about_108 ?_
              refine lv_iconst (v := nI 1) hx hb (pc := 109) dX10_about_109 (by decide) ?_
              refine nv_icmp_ne_b1 (tgt := 130) hx hb (pc := 110) dX10_about_110 (by decide) (fun c110 => ?_) (fun c110 => ?_)
              · refine lv_iconst (v := nI 0) hx hb (pc := 130) dX10_about_130 (by decide) ?_
                refine nv_iadd (a := (hmP (nF j) (kF j) (liveS (kF j) (nF j) (Es yF j)) (Es yF j) q)) (b := 0) hx hb (pc := 131) dX10_about_131 ?_
                refine lv_istore (lv' := [(4, .int (nI ((hmP (nF j) (kF j) (liveS (kF j) (nF j) (Es yF j)) (Es yF j) q) + 0))), (0, .ref om), (1, .int (nI j)), (3, .int (nI (liveS (kF j) (nF j) (Es yF j)))), (5, .int (nI q))]) hx hb (pc := 132) dX10_about_132 hl (by decide) rfl (fun ls hl => ?_)
                refine lv_iinc (v := nI (q + 1)) (lv' := [(5, .int (nI (q + 1))), (4, .int (nI ((hmP (nF j) (kF j) (liveS (kF j) (nF j) (Es yF j)) (Es yF j) q) + 0))), (0, .ref om), (1, .int (nI j)), (3, .int (nI (liveS (kF j) (nF j) (Es yF j))))]) hx hb (pc := 134) dX10_about_134 hl (k := 4) rfl (rr_inc _) (by decide) rfl (fun ls hl => ?_)
                refine lv_goto (tgt := 90) hx hb (pc := 137) dX10_about_137 (by decide) ?_
                have hl : lv_has ls 8 [(5, .int (nI (q + 1))), (4, .int (nI (hmP (nF j) (kF j) (liveS (kF j) (nF j) (Es yF j)) (Es yF j) (q + 1)))), (0, .ref om), (1, .int (nI j)), (3, .int (nI (liveS (kF j) (nF j) (Es yF j))))] := by rw [show hmP (nF j) (kF j) (liveS (kF j) (nF j) (Es yF j)) (Es yF j) (q + 1) = (hmP (nF j) (kF j) (liveS (kF j) (nF j) (Es yF j)) (Es yF j) q) + 0 from by first | exact hmP_no1 c110 | exact hmP_yes c110 c123 | exact hmP_no2 c123]; exact hl
                exact ih90 (q + 1) (by omega) (by omega) ls (lv_sub hl [2, 3, 4, 1, 0] rfl)
              · refine lv_aload_n hx hb (pc := 113) dX10_about_113 rfl (lv_at hl 0 rfl) ?_
                refine lv_iload_n hx hb (pc := 114) dX10_about_114 rfl (lv_at hl 1 rfl) ?_
                refine lv_iload_n hx hb (pc := 115) dX10_about_115 rfl (lv_at hl 2 rfl) ?_
                refine lv_iload hx hb (pc := 116) dX10_about_116 (lv_at hl 4 rfl) ?_
                refine rr_callP (rv := .int (nI (lst16 (prM (nF j) (kF j) (liveS (kF j) (nF j) (Es yF j)) (Es yF j) q)))) (pc := 118) (va_runV (As := [.int (nI j), .int (nI (liveS (kF j) (nF j) (Es yF j))), .int (nI q)]) (rest := [.int (nI (hmP (nF j) (kF j) (liveS (kF j) (nF j) (Es yF j)) (Es yF j) q))]) ⟨hx, hb, hml, hown, hts⟩ (c_X10_partOf l K om ad ns wl nf wd mt kF nF yF WD FL FW TD RW pl nw xt vF wF qF bY gF nm xm fR oF hF dF j (liveS (kF j) (nF j) (Es yF j)) q (by omega) s2j s4j s5j hlv (by omega) c110) (cwV 3 hts gX10_about_X10_partOf rfl rfl rfl (by decide +kernel) ⟨Nat.le_of_ble_eq_true rfl, Nat.le_of_ble_eq_true rfl⟩) (rr_preV hKK (hP) (va_recv hKK.1 hP (ci := 10) (q0 := 0) rfl rfl)) rfl rfl hl.1 rfl (lv_room (Nat.le_of_ble_eq_true rfl)) dX10_about_118 ⟨Nat.le_refl _, Nat.le_refl _⟩) ?_
                refine lv_iload hx hb (pc := 121) dX10_about_121 (lv_at hl 4 rfl) ?_
                refine nv_icmp_ne (a := (lst16 (prM (nF j) (kF j) (liveS (kF j) (nF j) (Es yF j)) (Es yF j) q))) (b := q) (tgt := 130) hx hb (pc := 123) dX10_about_123 (by decide) (Nat.lt_of_le_of_lt (lst16_le _) (by decide)) (by omega) (fun c123 => ?_) (fun c123 => ?_)
                · refine lv_iconst (v := nI 0) hx hb (pc := 130) dX10_about_130 (by decide) ?_
                  refine nv_iadd (a := (hmP (nF j) (kF j) (liveS (kF j) (nF j) (Es yF j)) (Es yF j) q)) (b := 0) hx hb (pc := 131) dX10_about_131 ?_
                  refine lv_istore (lv' := [(4, .int (nI ((hmP (nF j) (kF j) (liveS (kF j) (nF j) (Es yF j)) (Es yF j) q) + 0))), (0, .ref om), (1, .int (nI j)), (3, .int (nI (liveS (kF j) (nF j) (Es yF j)))), (5, .int (nI q))]) hx hb (pc := 132) dX10_about_132 hl (by decide) rfl (fun ls hl => ?_)
                  refine lv_iinc (v := nI (q + 1)) (lv' := [(5, .int (nI (q + 1))), (4, .int (nI ((hmP (nF j) (kF j) (liveS (kF j) (nF j) (Es yF j)) (Es yF j) q) + 0))), (0, .ref om), (1, .int (nI j)), (3, .int (nI (liveS (kF j) (nF j) (Es yF j))))]) hx hb (pc := 134) dX10_about_134 hl (k := 4) rfl (rr_inc _) (by decide) rfl (fun ls hl => ?_)
                  refine lv_goto (tgt := 90) hx hb (pc := 137) dX10_about_137 (by decide) ?_
                  have hl : lv_has ls 8 [(5, .int (nI (q + 1))), (4, .int (nI (hmP (nF j) (kF j) (liveS (kF j) (nF j) (Es yF j)) (Es yF j) (q + 1)))), (0, .ref om), (1, .int (nI j)), (3, .int (nI (liveS (kF j) (nF j) (Es yF j))))] := by rw [show hmP (nF j) (kF j) (liveS (kF j) (nF j) (Es yF j)) (Es yF j) (q + 1) = (hmP (nF j) (kF j) (liveS (kF j) (nF j) (Es yF j)) (Es yF j) q) + 0 from by first | exact hmP_no1 c110 | exact hmP_yes c110 c123 | exact hmP_no2 c123]; exact hl
                  exact ih90 (q + 1) (by omega) (by omega) ls (lv_sub hl [2, 3, 4, 1, 0] rfl)
                · refine lv_iconst (v := nI 1) hx hb (pc := 126) dX10_about_126 (by decide) ?_
                  refine lv_goto (tgt := 131) hx hb (pc := 127) dX10_about_127 (by decide) ?_
                  refine nv_iadd (a := (hmP (nF j) (kF j) (liveS (kF j) (nF j) (Es yF j)) (Es yF j) q)) (b := 1) hx hb (pc := 131) dX10_about_131 ?_
                  refine lv_istore (lv' := [(4, .int (nI ((hmP (nF j) (kF j) (liveS (kF j) (nF j) (Es yF j)) (Es yF j) q) + 1))), (0, .ref om), (1, .int (nI j)), (3, .int (nI (liveS (kF j) (nF j) (Es yF j)))), (5, .int (nI q))]) hx hb (pc := 132) dX10_about_132 hl (by decide) rfl (fun ls hl => ?_)
                  refine lv_iinc (v := nI (q + 1)) (lv' := [(5, .int (nI (q + 1))), (4, .int (nI ((hmP (nF j) (kF j) (liveS (kF j) (nF j) (Es yF j)) (Es yF j) q) + 1))), (0, .ref om), (1, .int (nI j)), (3, .int (nI (liveS (kF j) (nF j) (Es yF j))))]) hx hb (pc := 134) dX10_about_134 hl (k := 4) rfl (rr_inc _) (by decide) rfl (fun ls hl => ?_)
                  refine lv_goto (tgt := 90) hx hb (pc := 137) dX10_about_137 (by decide) ?_
                  have hl : lv_has ls 8 [(5, .int (nI (q + 1))), (4, .int (nI (hmP (nF j) (kF j) (liveS (kF j) (nF j) (Es yF j)) (Es yF j) (q + 1)))), (0, .ref om), (1, .int (nI j)), (3, .int (nI (liveS (kF j) (nF j) (Es yF j))))] := by rw [show hmP (nF j) (kF j) (liveS (kF j) (nF j) (Es yF j)) (Es yF j) (q + 1) = (hmP (nF j) (kF j) (liveS (kF j) (nF j) (Es yF j)) (Es yF j) q) + 1 from by first | exact hmP_no1 c110 | exact hmP_yes c110 c123 | exact hmP_no2 c123]; exact hl
                  exact ih90 (q + 1) (by omega) (by omega) ls (lv_sub hl [2, 3, 4, 1, 0] rfl)
        have hl : lv_has ls 8 [(5, .int (nI 0)), (4, .int (nI (hmP (nF j) (kF j) (liveS (kF j) (nF j) (Es yF j)) (Es yF j) 0))), (3, .int (nI (liveS (kF j) (nF j) (Es yF j)))), (0, .ref om), (1, .int (nI j)), (2, .int (nI 5))] := by rw [show hmP (nF j) (kF j) (liveS (kF j) (nF j) (Es yF j)) (Es yF j) 0 = 0 from rfl]; exact hl
        exact L90 (17) 0 (by omega) (Nat.zero_le _) ls (lv_sub hl [3, 4, 2, 1, 0] rfl)
    · refine lv_bipush (v := -2) hx hb (pc := 17) dX10_about_17 (by decide) ?_
      have hc : (isS ns x && rrin wh (nI 0) (nI 5)) = false := by first | (rw [c5, c14]; rfl) | (rw [c5]; rfl)
      exact hret.1 19 _ (-2) dX10_about_19 (by unfold abtA; rw [if_neg (by rw [hc]; decide)]) (rfl)

