abbrev rmX10_pace : Room := { frames := 3, cells := 0, slots := 0, locals := 73 }
theorem inX10_pace_10 : ∀ w ∈ wsX100, w ∈ wsX10_pace := fun _ h => List.mem_cons_of_mem _ (List.mem_append_right _ h)
set_option maxHeartbeats 4000000 in
set_option maxRecDepth 100000 in
theorem c_X10_pace (l : Launch) (K : rr_K) (A : Nat → Prop) (om : Nat) (ad : Nat → Nat) (ns wl nf wd mt : Nat) (kF nF yF WD FL FW TD RW pl nw xt vF wF qF bY gF : Nat → Nat) (nm xm : Nat → Int64) (fR oF hF dF : Nat → Int32) (x q : Int32) (hS9 : SOK ns kF nF yF) (hD : va_D A (XM K om ad ns wl nf wd mt kF nF yF WD FL FW TD RW pl nw xt vF wF qF bY gF nm xm fR oF hF dF)) : MetR l K yX10_pace wsX10_pace rmX10_pace [.ref om, .int x, .int q] (fun H => va_P K.1 vwCl (XM K om ad ns wl nf wd mt kF nF yF WD FL FW TD RW pl nw xt vF wF qF bY gF nm xm fR oF hF dF) H) A (fun v H => v = .int (pacA ns kF nF yF x q) ∧ ∃ dF', va_P K.1 vwCl (XM K om ad ns wl nf wd mt kF nF yF WD FL FW TD RW pl nw xt vF wF qF bY gF nm xm fR oF hF dF') H) 0 0 := by
  refine metR_of (cc := cX10_pace) (maxL := 13) (ret := (some .int)) (rt := .int) (by decide) rfl rfl rfl rfl (Nat.le_of_ble_eq_true rfl) ?_
  intro p e s m args below meth c Q ls hEnt hKK hX hret hl
  obtain ⟨hx, hb, hml, hown, hts⟩ := hEnt
  have hP : va_P K.1 vwCl (XM K om ad ns wl nf wd mt kF nF yF WD FL FW TD RW pl nw xt vF wF qF bY gF nm xm fR oF hF dF) s.heap := hX
  have hl : lv_has ls 13 [(0, .ref om), (1, .int x), (2, .int q)] := hl
  have hS : va_S A s.heap s.heap [] := va_S.rf
  refine lv_aload_n hx hb (pc := 0) dX10_pace_0 rfl (lv_at hl 0 rfl) ?_
  refine lv_iload_n hx hb (pc := 1) dX10_pace_1 rfl (lv_at hl 1 rfl) ?_
  refine lv_iload_n hx hb (pc := 2) dX10_pace_2 rfl (lv_at hl 2 rfl) ?_
  refine rr_callP (rv := .int (bI (okQ ns nF x q))) (pc := 3) (va_runV (As := [.int x, .int q]) (rest := []) ⟨hx, hb, hml, hown, hts⟩ (c_X10_isState l K om ad ns wl nf wd mt kF nF yF WD FL FW TD RW pl nw xt vF wF qF bY gF nm xm fR oF hF dF x q hS9.1) (cwV 2 hts gX10_pace_X10_isState rfl rfl rfl (by decide +kernel) ⟨Nat.le_of_ble_eq_true rfl, Nat.le_of_ble_eq_true rfl⟩) (rr_preV hKK (hP) (va_recv hKK.1 hP (ci := 10) (q0 := 0) rfl rfl)) rfl rfl hl.1 rfl (lv_room (Nat.le_of_ble_eq_true rfl)) dX10_pace_3 ⟨Nat.le_refl _, Nat.le_refl _⟩) ?_
  refine nv_if_ne_b (a := (okQ ns nF x q)) (tgt := 12) hx hb (pc := 6) dX10_pace_6 (by decide) (fun c6 => ?_) (fun c6 => ?_)
  · obtain ⟨j, u, rfl, rfl, hj6, hu9⟩ := okQ_of hS9 c6
    obtain ⟨s1j, s2j, s3j, s4j, s5j⟩ := hS9.2 j hj6
    have hns := hS9.1
    have ecj : cN (nI j) = j := cN_nI (by omega)
    have ecu : cN (nI u) = u := cN_nI (by omega)
    have hlv := liveS_lt16 (k := kF j) (E := Es yF j) s4j
    have hlv2 := liveS_lt (kF j) (nF j) (Es yF j)
    have hlo : ∀ u, lO (kF j) (liveS (kF j) (nF j) (Es yF j)) (Es yF j) u < 65536 := fun u => Nat.lt_of_le_of_lt (sub_le (lO_sub (kF j) (liveS (kF j) (nF j) (Es yF j)) (Es yF j) u)) hlv
    refine lv_aload_n hx hb (pc := 12) dX10_pace_12 rfl (lv_at hl 0 rfl) ?_
    refine lv_iload_n hx hb (pc := 13) dX10_pace_13 rfl (lv_at hl 1 rfl) ?_
    refine rr_callP (rv := .int (nI (liveS (kF j) (nF j) (Es yF j)))) (pc := 14) (va_runV (As := [.int (nI j)]) (rest := []) ⟨hx, hb, hml, hown, hts⟩ (c_X10_liveOf l K om ad ns wl nf wd mt kF nF yF WD FL FW TD RW pl nw xt vF wF qF bY gF nm xm fR oF hF dF j (by omega) s2j s4j s5j) (cwV 1 hts gX10_pace_X10_liveOf rfl rfl rfl (by decide +kernel) ⟨Nat.le_of_ble_eq_true rfl, Nat.le_of_ble_eq_true rfl⟩) (rr_preV hKK (hP) (va_recv hKK.1 hP (ci := 10) (q0 := 0) rfl rfl)) rfl rfl hl.1 rfl (lv_room (Nat.le_of_ble_eq_true rfl)) dX10_pace_14 ⟨Nat.le_refl _, Nat.le_refl _⟩) ?_
    refine lv_istore_n (lv' := [(3, .int (nI (liveS (kF j) (nF j) (Es yF j)))), (0, .ref om), (1, .int (nI j)), (2, .int (nI u))]) hx hb (pc := 17) dX10_pace_17 rfl hl (by decide) rfl (fun ls hl => ?_)
    refine lv_iload_n hx hb (pc := 18) dX10_pace_18 rfl (lv_at hl 0 rfl) ?_
    refine lv_iload_n hx hb (pc := 19) dX10_pace_19 rfl (lv_at hl 3 rfl) ?_
    refine nv_ishr (a := (liveS (kF j) (nF j) (Es yF j))) (b := u) hx hb (pc := 20) dX10_pace_20 (by omega) (by omega) ?_
    refine lv_iconst (v := nI 1) hx hb (pc := 21) dX10_pace_21 (by decide) ?_
    refine nv_bit (a := (liveS (kF j) (nF j) (Es yF j))) (q := u) hx hb (pc := 22) dX10_pace_22 ?_
    refine nv_if_ne_b (a := ((liveS (kF j) (nF j) (Es yF j)).testBit u)) (tgt := 28) hx hb (pc := 23) dX10_pace_23 (by decide) (fun c23 => ?_) (fun c23 => ?_)
    · refine lv_iconst (v := nI 0) hx hb (pc := 28) dX10_pace_28 (by decide) ?_
      refine lv_istore (lv' := [(4, .int (nI 0)), (3, .int (nI (liveS (kF j) (nF j) (Es yF j)))), (0, .ref om), (1, .int (nI j)), (2, .int (nI u))]) hx hb (pc := 29) dX10_pace_29 hl (by decide) rfl (fun ls hl => ?_)
      refine lv_aload_n hx hb (pc := 31) dX10_pace_31 rfl (lv_at hl 2 rfl) ?_
      refine lv_iload_n hx hb (pc := 32) dX10_pace_32 rfl (lv_at hl 3 rfl) ?_
      refine lv_iload_n hx hb (pc := 33) dX10_pace_33 rfl (lv_at hl 1 rfl) ?_
      refine lv_iload_n hx hb (pc := 34) dX10_pace_34 rfl (lv_at hl 4 rfl) ?_
      refine rr_callP (rv := .int (nI (rcF (nF j) (kF j) (liveS (kF j) (nF j) (Es yF j)) (Es yF j) u))) (pc := 35) (va_runV (As := [.int (nI j), .int (nI (liveS (kF j) (nF j) (Es yF j))), .int (nI u)]) (rest := []) ⟨hx, hb, hml, hown, hts⟩ (c_X10_reach l K om ad ns wl nf wd mt kF nF yF WD FL FW TD RW pl nw xt vF wF qF bY gF nm xm fR oF hF dF j (liveS (kF j) (nF j) (Es yF j)) u (by omega) s2j s4j s5j hlv hu9 c23) (cwV 3 hts gX10_pace_X10_reach rfl rfl rfl (by decide +kernel) ⟨Nat.le_of_ble_eq_true rfl, Nat.le_of_ble_eq_true rfl⟩) (rr_preV hKK (hP) (va_recv hKK.1 hP (ci := 10) (q0 := 0) rfl rfl)) rfl rfl hl.1 rfl (lv_room (Nat.le_of_ble_eq_true rfl)) dX10_pace_35 ⟨Nat.le_refl _, Nat.le_refl _⟩) ?_
      have hsr := rcF_sub (k := kF j) (al := (liveS (kF j) (nF j) (Es yF j))) (E := Es yF j) hu9
      have hr6 := Nat.lt_of_le_of_lt (sub_le hsr) hlv
      refine lv_istore (lv' := [(5, .int (nI (rcF (nF j) (kF j) (liveS (kF j) (nF j) (Es yF j)) (Es yF j) u))), (4, .int (nI 0)), (3, .int (nI (liveS (kF j) (nF j) (Es yF j)))), (0, .ref om), (1, .int (nI j)), (2, .int (nI u))]) hx hb (pc := 38) dX10_pace_38 hl (by decide) rfl (fun ls hl => ?_)
      refine lv_iconst (v := nI 0) hx hb (pc := 40) dX10_pace_40 (by decide) ?_
      refine lv_istore (lv' := [(6, .int (nI 0)), (5, .int (nI (rcF (nF j) (kF j) (liveS (kF j) (nF j) (Es yF j)) (Es yF j) u))), (4, .int (nI 0)), (3, .int (nI (liveS (kF j) (nF j) (Es yF j)))), (0, .ref om), (1, .int (nI j)), (2, .int (nI u))]) hx hb (pc := 41) dX10_pace_41 hl (by decide) rfl (fun ls hl => ?_)
      have L43 : ∀ (fz : Nat) (i : Nat) (H : Heap) (locs : List Loc) (hP : va_P K.1 vwCl (XM K om ad ns wl nf wd mt kF nF yF WD FL FW TD RW pl nw xt vF wF qF bY gF nm xm fR oF hF dF) H) (hD : va_D A (XM K om ad ns wl nf wd mt kF nF yF WD FL FW TD RW pl nw xt vF wF qF bY gF nm xm fR oF hF dF)) (hS : va_S A s.heap H locs) (hfz : nF j - i < fz) (hi : i ≤ nF j) (ls : Array Slot) (hl : lv_has ls 13 [(0, .ref om), (1, .int (nI j)), (2, .int (nI u)), (3, .int (nI (liveS (kF j) (nF j) (Es yF j)))), (4, .int (nI (orN i (pmQ (nF j) (kF j) (liveS (kF j) (nF j) (Es yF j)) (Es yF j) u)))), (5, .int (nI (rcF (nF j) (kF j) (liveS (kF j) (nF j) (Es yF j)) (Es yF j) u))), (6, .int (nI i))]), W p l e rmX10_pace s m args below meth c H locs 0 0 Q (F0 m 43 ls []) := by
        intro fz; induction fz with
        | zero => intro i H locs hP hD hS hfz hi ls hl; exact absurd hfz (Nat.not_lt_zero _)
        | succ fz ih43 =>
          intro i H locs hP hD hS hfz hi ls hl
          refine lv_iload hx hb (pc := 43) dX10_pace_43 (lv_at hl 6 rfl) ?_
          refine lv_aload_n hx hb (pc := 45) dX10_pace_45 rfl (lv_at hl 0 rfl) ?_
          refine va_get (v := .ref (ad 2)) hx hb hts (inX10_pace_10) hown hKK.1 hP 0 rfl rfl 2 (by decide) (hts _ (List.mem_of_getElem? (i := 1) (by decide +kernel))) (fun _ h9 => h9) rfl (pc := 46) dX10_pace_46 ?_
          refine lv_iload_n hx hb (pc := 49) dX10_pace_49 rfl (lv_at hl 1 rfl) ?_
          refine nv_iald (v := nI (nF j)) (i := j) hx hb hKK hP 2 rfl (by omega) (by decide) (rfl) (pc := 50) dX10_pace_50 ?_
          refine nv_icmp_ge (a := i) (b := (nF j)) (tgt := 100) hx hb (pc := 51) dX10_pace_51 (by decide) (by omega) (by omega) (fun c51 => ?_) (fun c51 => ?_)
          · have e9 : i = nF j := by omega
            rw [e9] at hl
            have hpl9 : orN (nF j) (pmQ (nF j) (kF j) (liveS (kF j) (nF j) (Es yF j)) (Es yF j) u) < 65536 := orN_lt (b := 16) (fun i hi => by unfold pmQ; split; (rw [Nat.one_shiftLeft]; exact Nat.pow_lt_pow_right (by decide) (by omega)); decide)
            refine lv_iload hx hb (pc := 100) dX10_pace_100 (lv_at hl 4 rfl) ?_
            refine nv_if_ne (a := (orN (nF j) (pmQ (nF j) (kF j) (liveS (kF j) (nF j) (Es yF j)) (Es yF j) u))) (tgt := 107) hx hb (pc := 102) dX10_pace_102 (by decide) (by omega) (fun c102 => ?_) (fun c102 => ?_)
            · obtain ⟨mb, hmb⟩ : ∃ mb, mb = prM (nF j) (kF j) (liveS (kF j) (nF j) (Es yF j)) (Es yF j) u := ⟨_, rfl⟩
              have hpm := pm_part s4j hlv2 hu9 c102
              rw [← hmb] at hpm
              have hmlt := prM_lt (k := kF j) (E := Es yF j) s4j hlv2 hu9
              rw [← hmb] at hmlt
              have hmq : mb.testBit u = true := by rw [hmb]; exact (prM_bit s4j hlv2 hu9).mpr (Or.inl rfl)
              have hmb6 : mb < 65536 := Nat.lt_of_lt_of_le hmlt (Nat.le_trans (Nat.pow_le_pow_right (by decide) s4j) (by decide))
              have hma : ∀ v, mb.testBit v = true → Nat.testBit (liveS (kF j) (nF j) (Es yF j)) v = true := fun v hv => by
                rw [← hpm] at hv
                exact sub_bit.mp hsr v ((pm_bit _ v).mp hv).2.1
              refine lv_iconst (v := nI 0) hx hb (pc := 107) dX10_pace_107 (by decide) ?_
              refine lv_istore (lv' := [(6, .int (nI 0)), (0, .ref om), (1, .int (nI j)), (2, .int (nI u)), (3, .int (nI (liveS (kF j) (nF j) (Es yF j)))), (4, .int (nI (orN (nF j) (pmQ (nF j) (kF j) (liveS (kF j) (nF j) (Es yF j)) (Es yF j) u)))), (5, .int (nI (rcF (nF j) (kF j) (liveS (kF j) (nF j) (Es yF j)) (Es yF j) u)))]) hx hb (pc := 108) dX10_pace_108 hl (by decide) rfl (fun ls hl => ?_)
              have L110 : ∀ (fz : Nat) (i : Nat) (H : Heap) (locs : List Loc) (hP : va_P K.1 vwCl (XM K om ad ns wl nf wd mt kF nF yF WD FL FW TD RW pl nw xt vF wF qF bY gF nm xm fR oF hF (putZ dF (fun _ => -1) i)) H) (hD : va_D A (XM K om ad ns wl nf wd mt kF nF yF WD FL FW TD RW pl nw xt vF wF qF bY gF nm xm fR oF hF (putZ dF (fun _ => -1) i))) (hS : va_S A s.heap H locs) (hfz : 16 - i < fz) (hi : i ≤ 16) (ls : Array Slot) (hl : lv_has ls 13 [(0, .ref om), (1, .int (nI j)), (2, .int (nI u)), (3, .int (nI (liveS (kF j) (nF j) (Es yF j)))), (4, .int (nI mb)), (6, .int (nI i))]), W p l e rmX10_pace s m args below meth c H locs 0 0 Q (F0 m 110 ls []) := by
                intro fz; induction fz with
                | zero => intro i H locs hP hD hS hfz hi ls hl; exact absurd hfz (Nat.not_lt_zero _)
                | succ fz ih110 =>
                  intro i H locs hP hD hS hfz hi ls hl
                  refine lv_iload hx hb (pc := 110) dX10_pace_110 (lv_at hl 5 rfl) ?_
                  refine lv_bipush (v := nI 16) hx hb (pc := 112) dX10_pace_112 (by decide) ?_
                  refine nv_icmp_ge (a := i) (b := 16) (tgt := 131) hx hb (pc := 114) dX10_pace_114 (by decide) (by omega) (by omega) (fun c114 => ?_) (fun c114 => ?_)
                  · refine lv_aload_n hx hb (pc := 131) dX10_pace_131 rfl (lv_at hl 0 rfl) ?_
                    refine va_get (v := .ref (ad 25)) hx hb hts (inX10_pace_10) hown hKK.1 hP 0 rfl rfl 25 (by decide) (hts _ (List.mem_of_getElem? (i := 2) (by decide +kernel))) (fun _ h9 => h9) rfl (pc := 132) dX10_pace_132 ?_
                    refine lv_iload_n hx hb (pc := 135) dX10_pace_135 rfl (lv_at hl 2 rfl) ?_
                    refine lv_iconst (v := nI 0) hx hb (pc := 136) dX10_pace_136 (by decide) ?_
                    refine nv_iastr (f := (putZ dF (fun _ => -1) i)) (x := (nI 0)) (ws' := XM K om ad ns wl nf wd mt kF nF yF WD FL FW TD RW pl nw xt vF wF qF bY gF nm xm fR oF hF (va_up (putZ dF (fun _ => -1) i) u (nI 0))) (i := u) hx hb hKK hP hD hS 21 rfl (by omega) (by decide) (rfl) (pc := 137) dX10_pace_137 (fun H locs hP hD hS => ?_)
                    have hd0 : ∀ z, z < 16 → va_up (putZ dF (fun _ => -1) i) u (nI 0) z = nI ((fun v => if v = u then 1 else 0) z) - 1 := fun z hz => by
                      dsimp only
                      by_cases e : z = u
                      · rw [e, va_up_self, if_pos rfl]; rfl
                      · rw [va_up_ne _ _ e, if_neg e, putZ_in (by omega)]; rfl
                    have hp0 : ∀ v, 0 < (fun v => if v = u then 1 else 0) v → mb.testBit v = true ∧ PL (lO (kF j) (liveS (kF j) (nF j) (Es yF j)) (Es yF j)) (nF j) mb u v ((fun v => if v = u then 1 else 0) v - 1) := fun v hv => by
                      dsimp only at hv ⊢
                      by_cases e : v = u
                      · rw [if_pos e, e]; exact ⟨hmq, PL_0⟩
                      · rw [if_neg e] at hv; exact absurd hv (Nat.lt_irrefl _)
                    have hl0 := asg_one (n := nF j) hu9
                    refine lv_iconst (v := nI 1) hx hb (pc := 138) dX10_pace_138 (by decide) ?_
                    refine lv_istore (lv' := [(6, .int (nI 1)), (0, .ref om), (1, .int (nI j)), (2, .int (nI u)), (3, .int (nI (liveS (kF j) (nF j) (Es yF j)))), (4, .int (nI mb))]) hx hb (pc := 139) dX10_pace_139 hl (by decide) rfl (fun ls hl => ?_)
                    have L141 : ∀ (fz : Nat) (D : Nat → Nat) (dF1 : Nat → Int32) (ch : Bool) (H : Heap) (locs : List Loc) (hP : va_P K.1 vwCl (XM K om ad ns wl nf wd mt kF nF yF WD FL FW TD RW pl nw xt vF wF qF bY gF nm xm fR oF hF dF1) H) (hD : va_D A (XM K om ad ns wl nf wd mt kF nF yF WD FL FW TD RW pl nw xt vF wF qF bY gF nm xm fR oF hF dF1)) (hS : va_S A s.heap H locs) (hfz : (nF j - asg (nF j) D) + ch.toNat < fz) (hd1 : ∀ i, i < 16 → dF1 i = nI (D i) - 1) (hu1 : D u = 1) (hp1 : ∀ v, 0 < D v → mb.testBit v = true ∧ PL (lO (kF j) (liveS (kF j) (nF j) (Es yF j)) (Es yF j)) (nF j) mb u v (D v - 1)) (hl1 : ∀ v, D v ≤ asg (nF j) D) (hcl : ch = false → ∀ r2 t2, r2 < nF j → t2 < nF j → 0 < D r2 → mb.testBit t2 = true → Nat.testBit ((lO (kF j) (liveS (kF j) (nF j) (Es yF j)) (Es yF j)) r2) t2 = true → 0 < D t2) (ls : Array Slot) (hl : lv_has ls 13 [(0, .ref om), (1, .int (nI j)), (2, .int (nI u)), (3, .int (nI (liveS (kF j) (nF j) (Es yF j)))), (4, .int (nI mb)), (6, .int (bI (ch)))]), W p l e rmX10_pace s m args below meth c H locs 0 0 Q (F0 m 141 ls []) := by
                      intro fz; induction fz with
                      | zero => intro D dF1 ch H locs hP hD hS hfz hd1 hu1 hp1 hl1 hcl ls hl; exact absurd hfz (Nat.not_lt_zero _)
                      | succ fz ih141 =>
                        intro D dF1 ch H locs hP hD hS hfz hd1 hu1 hp1 hl1 hcl ls hl
                        have hfz5 := hfz
                        have hal9 := asg_le (nF j) D
                        have hD16 : ∀ v, D v ≤ 16 := fun v => Nat.le_trans (hl1 v) (by omega)
                        refine lv_iload hx hb (pc := 141) dX10_pace_141 (lv_at hl 5 rfl) ?_
                        refine nv_if_eq_b (a := ch) (tgt := 254) hx hb (pc := 143) dX10_pace_143 (by decide) (fun c143 => ?_) (fun c143 => ?_)
                        · have hlen : LenOK (lO (kF j) (liveS (kF j) (nF j) (Es yF j)) (Es yF j)) (nF j) mb u D := by
                            refine ⟨hu1, fun v hv => ?_⟩
                            have h9 : 0 < D v := by
                              rw [hmb] at hv
                              refine part_closed (P := fun v => 0 < D v) s4j hlv2 hu9 (by rw [hu1]; decide) (fun a b h1 h2 h3 h4 h5 => ?_) v hv
                              rw [← hmb] at h5
                              exact hcl c143 a b h1 (bit_lt hmlt h5) h3 h5 h4
                            exact ⟨h9, (hp1 v h9).2⟩
                          have hpac := pacN_len s4j hlv2 hu9 hlo (hmb ▸ hlen)
                          rw [← hmb] at hpac
                          refine lv_lconst (v := lN 0) hx hb (pc := 254) dX10_pace_254 (by decide) ?_
                          refine lv_lstore (lv' := [(7, .long (lN (0))), (0, .ref om), (1, .int (nI j)), (2, .int (nI u)), (3, .int (nI (liveS (kF j) (nF j) (Es yF j)))), (4, .int (nI mb)), (6, .int (bI (ch)))]) hx hb (pc := 255) dX10_pace_255 hl (by decide) rfl (fun ls hl => ?_)
                          refine lv_iconst (v := nI 0) hx hb (pc := 257) dX10_pace_257 (by decide) ?_
                          refine lv_istore (lv' := [(9, .int (nI 0)), (7, .long (lN (0))), (0, .ref om), (1, .int (nI j)), (2, .int (nI u)), (3, .int (nI (liveS (kF j) (nF j) (Es yF j)))), (4, .int (nI mb)), (6, .int (bI (ch)))]) hx hb (pc := 258) dX10_pace_258 hl (by decide) rfl (fun ls hl => ?_)
                          have L260 : ∀ (fz : Nat) (r : Nat) (H : Heap) (locs : List Loc) (hP : va_P K.1 vwCl (XM K om ad ns wl nf wd mt kF nF yF WD FL FW TD RW pl nw xt vF wF qF bY gF nm xm fR oF hF dF1) H) (hD : va_D A (XM K om ad ns wl nf wd mt kF nF yF WD FL FW TD RW pl nw xt vF wF qF bY gF nm xm fR oF hF dF1)) (hS : va_S A s.heap H locs) (hfz : nF j - r < fz) (hr : r ≤ nF j) (ls : Array Slot) (hl : lv_has ls 13 [(0, .ref om), (1, .int (nI j)), (2, .int (nI u)), (3, .int (nI (liveS (kF j) (nF j) (Es yF j)))), (4, .int (nI mb)), (7, .long (lN (pcO D (lO (kF j) (liveS (kF j) (nF j) (Es yF j)) (Es yF j)) mb r))), (9, .int (nI r))]), W p l e rmX10_pace s m args below meth c H locs 0 0 Q (F0 m 260 ls []) := by
                            intro fz; induction fz with
                            | zero => intro r H locs hP hD hS hfz hr ls hl; exact absurd hfz (Nat.not_lt_zero _)
                            | succ fz ih260 =>
                              intro r H locs hP hD hS hfz hr ls hl
                              refine lv_iload hx hb (pc := 260) dX10_pace_260 (lv_at hl 6 rfl) ?_
                              refine lv_aload_n hx hb (pc := 262) dX10_pace_262 rfl (lv_at hl 0 rfl) ?_
                              refine va_get (v := .ref (ad 2)) hx hb hts (inX10_pace_10) hown hKK.1 hP 0 rfl rfl 2 (by decide) (hts _ (List.mem_of_getElem? (i := 1) (by decide +kernel))) (fun _ h9 => h9) rfl (pc := 263) dX10_pace_263 ?_
                              refine lv_iload_n hx hb (pc := 266) dX10_pace_266 rfl (lv_at hl 1 rfl) ?_
                              refine nv_iald (v := nI (nF j)) (i := j) hx hb hKK hP 2 rfl (by omega) (by decide) (rfl) (pc := 267) dX10_pace_267 ?_
                              refine nv_icmp_ge (a := r) (b := (nF j)) (tgt := 373) hx hb (pc := 268) dX10_pace_268 (by decide) (by omega) (by omega) (fun c268 => ?_) (fun c268 => ?_)
                              · refine lv_lload hx hb (pc := 373) dX10_pace_373 (lv_at hl 5 rfl) ?_
                                refine lv_l2i (v := nI (pcO D (lO (kF j) (liveS (kF j) (nF j) (Es yF j)) (Es yF j)) mb r)) hx hb (pc := 375) dX10_pace_375 (lN_i _) ?_
                                have e7 : r = nF j := by omega
                                exact hret.1 _ _ 0 0 376 _ (nI (pcO D (lO (kF j) (liveS (kF j) (nF j) (Es yF j)) (Es yF j)) mb r)) dX10_pace_376 (by omega) (by omega) hS (⟨by unfold pacA; rw [if_pos c6, ecj, ecu, if_pos c23, ← hpac, e7], _, hP⟩) (rfl)
                              · refine lv_iconst (v := nI 0) hx hb (pc := 271) dX10_pace_271 (by decide) ?_
                                refine lv_istore (lv' := [(10, .int (nI 0)), (0, .ref om), (1, .int (nI j)), (2, .int (nI u)), (3, .int (nI (liveS (kF j) (nF j) (Es yF j)))), (4, .int (nI mb)), (7, .long (lN (pcO D (lO (kF j) (liveS (kF j) (nF j) (Es yF j)) (Es yF j)) mb r))), (9, .int (nI r))]) hx hb (pc := 272) dX10_pace_272 hl (by decide) rfl (fun ls hl => ?_)
                                have L274 : ∀ (fz : Nat) (t : Nat) (H : Heap) (locs : List Loc) (hP : va_P K.1 vwCl (XM K om ad ns wl nf wd mt kF nF yF WD FL FW TD RW pl nw xt vF wF qF bY gF nm xm fR oF hF dF1) H) (hD : va_D A (XM K om ad ns wl nf wd mt kF nF yF WD FL FW TD RW pl nw xt vF wF qF bY gF nm xm fR oF hF dF1)) (hS : va_S A s.heap H locs) (hfz : nF j - t < fz) (ht : t ≤ nF j) (ls : Array Slot) (hl : lv_has ls 13 [(0, .ref om), (1, .int (nI j)), (2, .int (nI u)), (3, .int (nI (liveS (kF j) (nF j) (Es yF j)))), (4, .int (nI mb)), (7, .long (lN (pcG D (lO (kF j) (liveS (kF j) (nF j) (Es yF j)) (Es yF j)) mb r t))), (9, .int (nI r)), (10, .int (nI t))]), W p l e rmX10_pace s m args below meth c H locs 0 0 Q (F0 m 274 ls []) := by
                                  intro fz; induction fz with
                                  | zero => intro t H locs hP hD hS hfz ht ls hl; exact absurd hfz (Nat.not_lt_zero _)
                                  | succ fz ih274 =>
                                    intro t H locs hP hD hS hfz ht ls hl
                                    refine lv_iload hx hb (pc := 274) dX10_pace_274 (lv_at hl 7 rfl) ?_
                                    refine lv_aload_n hx hb (pc := 276) dX10_pace_276 rfl (lv_at hl 0 rfl) ?_
                                    refine va_get (v := .ref (ad 2)) hx hb hts (inX10_pace_10) hown hKK.1 hP 0 rfl rfl 2 (by decide) (hts _ (List.mem_of_getElem? (i := 1) (by decide +kernel))) (fun _ h9 => h9) rfl (pc := 277) dX10_pace_277 ?_
                                    refine lv_iload_n hx hb (pc := 280) dX10_pace_280 rfl (lv_at hl 1 rfl) ?_
                                    refine nv_iald (v := nI (nF j)) (i := j) hx hb hKK hP 2 rfl (by omega) (by decide) (rfl) (pc := 281) dX10_pace_281 ?_
                                    refine nv_icmp_ge (a := t) (b := (nF j)) (tgt := 367) hx hb (pc := 282) dX10_pace_282 (by decide) (by omega) (by omega) (fun c282 => ?_) (fun c282 => ?_)
                                    · refine lv_iinc (v := nI (r + 1)) (lv' := [(9, .int (nI (r + 1))), (0, .ref om), (1, .int (nI j)), (2, .int (nI u)), (3, .int (nI (liveS (kF j) (nF j) (Es yF j)))), (4, .int (nI mb)), (7, .long (lN (pcG D (lO (kF j) (liveS (kF j) (nF j) (Es yF j)) (Es yF j)) mb r t))), (10, .int (nI t))]) hx hb (pc := 367) dX10_pace_367 hl (k := 6) rfl (rr_inc _) (by decide) rfl (fun ls hl => ?_)
                                      refine lv_goto (tgt := 260) hx hb (pc := 370) dX10_pace_370 (by decide) ?_
                                      have hl : lv_has ls 13 [(9, .int (nI (r + 1))), (0, .ref om), (1, .int (nI j)), (2, .int (nI u)), (3, .int (nI (liveS (kF j) (nF j) (Es yF j)))), (4, .int (nI mb)), (7, .long (lN (pcO D (lO (kF j) (liveS (kF j) (nF j) (Es yF j)) (Es yF j)) mb (r + 1)))), (10, .int (nI t))] := by rw [show pcO D (lO (kF j) (liveS (kF j) (nF j) (Es yF j)) (Es yF j)) mb (r + 1) = pcG D (lO (kF j) (liveS (kF j) (nF j) (Es yF j)) (Es yF j)) mb r t from by rw [show t = nF j by omega, pcG_n s4j hmlt]]; exact hl
                                      exact ih260 (r + 1) _ _ hP hD hS (by omega) (by omega) ls (lv_sub hl [1, 2, 3, 4, 5, 6, 0] rfl)
                                    · refine lv_iload hx hb (pc := 285) dX10_pace_285 (lv_at hl 4 rfl) ?_
                                      refine lv_iload hx hb (pc := 287) dX10_pace_287 (lv_at hl 6 rfl) ?_
                                      refine nv_ishr (a := mb) (b := r) hx hb (pc := 289) dX10_pace_289 (by omega) (by omega) ?_
                                      refine lv_iconst (v := nI 1) hx hb (pc := 290) dX10_pace_290 (by decide) ?_
                                      refine nv_bit (a := mb) (q := r) hx hb (pc := 291) dX10_pace_291 ?_
                                      refine lv_iconst (v := nI 1) hx hb (pc := 292) dX10_pace_292 (by decide) ?_
                                      refine nv_icmp_ne_b1 (tgt := 361) hx hb (pc := 293) dX10_pace_293 (by decide) (fun c293 => ?_) (fun c293 => ?_)
                                      · refine lv_iinc (v := nI (t + 1)) (lv' := [(10, .int (nI (t + 1))), (0, .ref om), (1, .int (nI j)), (2, .int (nI u)), (3, .int (nI (liveS (kF j) (nF j) (Es yF j)))), (4, .int (nI mb)), (7, .long (lN (pcG D (lO (kF j) (liveS (kF j) (nF j) (Es yF j)) (Es yF j)) mb r t))), (9, .int (nI r))]) hx hb (pc := 361) dX10_pace_361 hl (k := 7) rfl (rr_inc _) (by decide) rfl (fun ls hl => ?_)
                                        refine lv_goto (tgt := 274) hx hb (pc := 364) dX10_pace_364 (by decide) ?_
                                        have hl : lv_has ls 13 [(10, .int (nI (t + 1))), (0, .ref om), (1, .int (nI j)), (2, .int (nI u)), (3, .int (nI (liveS (kF j) (nF j) (Es yF j)))), (4, .int (nI mb)), (7, .long (lN (pcG D (lO (kF j) (liveS (kF j) (nF j) (Es yF j)) (Es yF j)) mb r (t + 1)))), (9, .int (nI r))] := by rw [show pcG D (lO (kF j) (liveS (kF j) (nF j) (Es yF j)) (Es yF j)) mb r (t + 1) = pcG D (lO (kF j) (liveS (kF j) (nF j) (Es yF j)) (Es yF j)) mb r t from by first | exact pcG_no1 c293 | exact pcG_no2 (by rw [Nat.testBit_and, c304, Bool.and_false]) | exact pcG_no2 (by rw [Nat.testBit_and, hno9, Bool.false_and]) | exact pcG_yes c293 hed9 c304]; exact hl
                                        exact ih274 (t + 1) _ _ hP hD hS (by omega) (by omega) ls (lv_sub hl [1, 2, 3, 4, 5, 6, 7, 0] rfl)
                                      · refine lv_iload hx hb (pc := 296) dX10_pace_296 (lv_at hl 4 rfl) ?_
                                        refine lv_iload hx hb (pc := 298) dX10_pace_298 (lv_at hl 7 rfl) ?_
                                        refine nv_ishr (a := mb) (b := t) hx hb (pc := 300) dX10_pace_300 (by omega) (by omega) ?_
                                        refine lv_iconst (v := nI 1) hx hb (pc := 301) dX10_pace_301 (by decide) ?_
                                        refine nv_bit (a := mb) (q := t) hx hb (pc := 302) dX10_pace_302 ?_
                                        refine lv_iconst (v := nI 1) hx hb (pc := 303) dX10_pace_303 (by decide) ?_
                                        refine nv_icmp_ne_b1 (tgt := 361) hx hb (pc := 304) dX10_pace_304 (by decide) (fun c304 => ?_) (fun c304 => ?_)
                                        · refine lv_iinc (v := nI (t + 1)) (lv' := [(10, .int (nI (t + 1))), (0, .ref om), (1, .int (nI j)), (2, .int (nI u)), (3, .int (nI (liveS (kF j) (nF j) (Es yF j)))), (4, .int (nI mb)), (7, .long (lN (pcG D (lO (kF j) (liveS (kF j) (nF j) (Es yF j)) (Es yF j)) mb r t))), (9, .int (nI r))]) hx hb (pc := 361) dX10_pace_361 hl (k := 7) rfl (rr_inc _) (by decide) rfl (fun ls hl => ?_)
                                          refine lv_goto (tgt := 274) hx hb (pc := 364) dX10_pace_364 (by decide) ?_
                                          have hl : lv_has ls 13 [(10, .int (nI (t + 1))), (0, .ref om), (1, .int (nI j)), (2, .int (nI u)), (3, .int (nI (liveS (kF j) (nF j) (Es yF j)))), (4, .int (nI mb)), (7, .long (lN (pcG D (lO (kF j) (liveS (kF j) (nF j) (Es yF j)) (Es yF j)) mb r (t + 1)))), (9, .int (nI r))] := by rw [show pcG D (lO (kF j) (liveS (kF j) (nF j) (Es yF j)) (Es yF j)) mb r (t + 1) = pcG D (lO (kF j) (liveS (kF j) (nF j) (Es yF j)) (Es yF j)) mb r t from by first | exact pcG_no1 c293 | exact pcG_no2 (by rw [Nat.testBit_and, c304, Bool.and_false]) | exact pcG_no2 (by rw [Nat.testBit_and, hno9, Bool.false_and]) | exact pcG_yes c293 hed9 c304]; exact hl
                                          exact ih274 (t + 1) _ _ hP hD hS (by omega) (by omega) ls (lv_sub hl [1, 2, 3, 4, 5, 6, 7, 0] rfl)
                                        · refine lv_aload_n hx hb (pc := 307) dX10_pace_307 rfl (lv_at hl 0 rfl) ?_
                                          refine lv_iload_n hx hb (pc := 308) dX10_pace_308 rfl (lv_at hl 1 rfl) ?_
                                          refine lv_iload hx hb (pc := 309) dX10_pace_309 (lv_at hl 6 rfl) ?_
                                          refine lv_iload hx hb (pc := 311) dX10_pace_311 (lv_at hl 7 rfl) ?_
                                          have hwb := wB_le (kF j) (Es yF j) r t
                                          have hwl := wB_lO (k := kF j) (E := Es yF j) (hma r c293) (hma t c304)
                                          refine rr_callP (rv := .int (nI (wB (kF j) (Es yF j) r t))) (pc := 313) (va_runV (As := [.int (nI j), .int (nI r), .int (nI t)]) (rest := []) ⟨hx, hb, hml, hown, hts⟩ (c_X10_waysBetween l K om ad ns wl nf wd mt kF nF yF WD FL FW TD RW pl nw xt vF wF qF bY gF nm xm fR oF hF dF1 j r t (by omega) s2j s4j s5j (by omega) (by omega)) (cwV 3 hts gX10_pace_X10_waysBetween rfl rfl rfl (by decide +kernel) ⟨Nat.le_of_ble_eq_true rfl, Nat.le_of_ble_eq_true rfl⟩) (rr_preV hKK (hP) (va_recv hKK.1 hP (ci := 10) (q0 := 0) rfl rfl)) rfl rfl hl.1 rfl (lv_room (Nat.le_of_ble_eq_true rfl)) dX10_pace_313 ⟨Nat.le_refl _, Nat.le_refl _⟩) ?_
                                          refine nv_if_le (a := (wB (kF j) (Es yF j) r t)) (tgt := 361) hx hb (pc := 316) dX10_pace_316 (by decide) (by omega) (fun c316 => ?_) (fun c316 => ?_)
                                          · have hno9 : Nat.testBit ((lO (kF j) (liveS (kF j) (nF j) (Es yF j)) (Es yF j)) r) t = false := Bool.eq_false_iff.mpr (fun h => by have := hwl.mpr h; omega)
                                            refine lv_iinc (v := nI (t + 1)) (lv' := [(10, .int (nI (t + 1))), (0, .ref om), (1, .int (nI j)), (2, .int (nI u)), (3, .int (nI (liveS (kF j) (nF j) (Es yF j)))), (4, .int (nI mb)), (7, .long (lN (pcG D (lO (kF j) (liveS (kF j) (nF j) (Es yF j)) (Es yF j)) mb r t))), (9, .int (nI r))]) hx hb (pc := 361) dX10_pace_361 hl (k := 7) rfl (rr_inc _) (by decide) rfl (fun ls hl => ?_)
                                            refine lv_goto (tgt := 274) hx hb (pc := 364) dX10_pace_364 (by decide) ?_
                                            have hl : lv_has ls 13 [(10, .int (nI (t + 1))), (0, .ref om), (1, .int (nI j)), (2, .int (nI u)), (3, .int (nI (liveS (kF j) (nF j) (Es yF j)))), (4, .int (nI mb)), (7, .long (lN (pcG D (lO (kF j) (liveS (kF j) (nF j) (Es yF j)) (Es yF j)) mb r (t + 1)))), (9, .int (nI r))] := by rw [show pcG D (lO (kF j) (liveS (kF j) (nF j) (Es yF j)) (Es yF j)) mb r (t + 1) = pcG D (lO (kF j) (liveS (kF j) (nF j) (Es yF j)) (Es yF j)) mb r t from by first | exact pcG_no1 c293 | exact pcG_no2 (by rw [Nat.testBit_and, c304, Bool.and_false]) | exact pcG_no2 (by rw [Nat.testBit_and, hno9, Bool.false_and]) | exact pcG_yes c293 hed9 c304]; exact hl
                                            exact ih274 (t + 1) _ _ hP hD hS (by omega) (by omega) ls (lv_sub hl [1, 2, 3, 4, 5, 6, 7, 0] rfl)
                                          · have hed9 := hwl.mp (by omega)
                                            have hoff := off_abs (a := D r) (b := D t) (by have := hD16 r; omega) (by have := hD16 t; omega)
                                            have hpcl := pcG_le (g := D) (lo := (lO (kF j) (liveS (kF j) (nF j) (Es yF j)) (Es yF j))) (mb := mb) (r := r) hD16 t
                                            have hab := absd_le (a := D r + 1) (b := D t) (by have := hD16 r; omega) (by have := hD16 t; omega)
                                            refine lv_aload_n hx hb (pc := 319) dX10_pace_319 rfl (lv_at hl 0 rfl) ?_
                                            refine va_get (v := .ref (ad 25)) hx hb hts (inX10_pace_10) hown hKK.1 hP 0 rfl rfl 25 (by decide) (hts _ (List.mem_of_getElem? (i := 2) (by decide +kernel))) (fun _ h9 => h9) rfl (pc := 320) dX10_pace_320 ?_
                                            refine lv_iload hx hb (pc := 323) dX10_pace_323 (lv_at hl 6 rfl) ?_
                                            refine nv_iald (v := nI (D r) - 1) (i := r) hx hb hKK hP 21 rfl (by omega) (by decide) (hd1 r (by omega)) (pc := 325) dX10_pace_325 ?_
                                            refine lv_iconst (v := nI 1) hx hb (pc := 326) dX10_pace_326 (by decide) ?_
                                            refine lv_iadd hx hb (pc := 327) dX10_pace_327 ?_
                                            refine lv_aload_n hx hb (pc := 328) dX10_pace_328 rfl (lv_at hl 0 rfl) ?_
                                            refine va_get (v := .ref (ad 25)) hx hb hts (inX10_pace_10) hown hKK.1 hP 0 rfl rfl 25 (by decide) (hts _ (List.mem_of_getElem? (i := 2) (by decide +kernel))) (fun _ h9 => h9) rfl (pc := 329) dX10_pace_329 ?_
                                            refine lv_iload hx hb (pc := 332) dX10_pace_332 (lv_at hl 7 rfl) ?_
                                            refine nv_iald (v := nI (D t) - 1) (i := t) hx hb hKK hP 21 rfl (by omega) (by decide) (hd1 t (by omega)) (pc := 334) dX10_pace_334 ?_
                                            refine lv_isub hx hb (pc := 335) dX10_pace_335 ?_
                                            refine lv_i2l (v := (((nI (D r) - 1) + (nI 1)) - (nI (D t) - 1)).toInt64) hx hb (pc := 336) dX10_pace_336 (rfl) ?_
                                            refine lv_lstore (lv' := [(11, .long ((((nI (D r) - 1) + (nI 1)) - (nI (D t) - 1)).toInt64)), (0, .ref om), (1, .int (nI j)), (2, .int (nI u)), (3, .int (nI (liveS (kF j) (nF j) (Es yF j)))), (4, .int (nI mb)), (7, .long (lN (pcG D (lO (kF j) (liveS (kF j) (nF j) (Es yF j)) (Es yF j)) mb r t))), (9, .int (nI r)), (10, .int (nI t))]) hx hb (pc := 337) dX10_pace_337 hl (by decide) rfl (fun ls hl => ?_)
                                            refine lv_lload hx hb (pc := 339) dX10_pace_339 (lv_at hl 6 rfl) ?_
                                            refine lv_lload hx hb (pc := 341) dX10_pace_341 (lv_at hl 0 rfl) ?_
                                            refine lv_lconst (v := lN 0) hx hb (pc := 343) dX10_pace_343 (by decide) ?_
                                            refine rr_lcmp_ge (tgt := 354) hx hb (pc := 344) dX10_pace_344 dX10_pace_345 (by decide) (fun c344 => ?_) (fun c344 => ?_)
                                            · refine lv_lload hx hb (pc := 354) dX10_pace_354 (lv_at hl 0 rfl) ?_
                                              refine rr_top (v := .long (lN (absd (D r + 1) (D t)))) (by first | exact congrArg Value.long (hoff.1 c343) | exact congrArg Value.long (hoff.2 c343) | exact congrArg Value.long (hoff.1 c344) | exact congrArg Value.long (hoff.2 c344)) ?_
                                              refine rr_callP (rv := .long (lN (Nat.gcd (pcG D (lO (kF j) (liveS (kF j) (nF j) (Es yF j)) (Es yF j)) mb r t) (absd (D r + 1) (D t))))) (pc := 356) (va_runS (As := [.long (lN (pcG D (lO (kF j) (liveS (kF j) (nF j) (Es yF j)) (Es yF j)) mb r t)), .long (lN (absd (D r + 1) (D t)))]) (rest := []) ⟨hx, hb, hml, hown, hts⟩ (c_X10_common l K (pcG D (lO (kF j) (liveS (kF j) (nF j) (Es yF j)) (Es yF j)) mb r t) (absd (D r + 1) (D t)) (by omega) (by omega)) (cwS 2 hts gX10_pace_X10_common rfl rfl rfl (by decide +kernel) ⟨Nat.le_of_ble_eq_true rfl, Nat.le_of_ble_eq_true rfl⟩) (rr_preS hKK (trivial)) rfl rfl hl.1 rfl (lv_room (Nat.le_of_ble_eq_true rfl)) dX10_pace_356 ⟨Nat.le_refl _, Nat.le_refl _⟩) ?_
                                              refine lv_lstore (lv' := [(7, .long (lN (Nat.gcd (pcG D (lO (kF j) (liveS (kF j) (nF j) (Es yF j)) (Es yF j)) mb r t) (absd (D r + 1) (D t))))), (11, .long ((((nI (D r) - 1) + (nI 1)) - (nI (D t) - 1)).toInt64)), (0, .ref om), (1, .int (nI j)), (2, .int (nI u)), (3, .int (nI (liveS (kF j) (nF j) (Es yF j)))), (4, .int (nI mb)), (9, .int (nI r)), (10, .int (nI t))]) hx hb (pc := 359) dX10_pace_359 hl (by decide) rfl (fun ls hl => ?_)
                                              refine lv_iinc (v := nI (t + 1)) (lv' := [(10, .int (nI (t + 1))), (7, .long (lN (Nat.gcd (pcG D (lO (kF j) (liveS (kF j) (nF j) (Es yF j)) (Es yF j)) mb r t) (absd (D r + 1) (D t))))), (11, .long ((((nI (D r) - 1) + (nI 1)) - (nI (D t) - 1)).toInt64)), (0, .ref om), (1, .int (nI j)), (2, .int (nI u)), (3, .int (nI (liveS (kF j) (nF j) (Es yF j)))), (4, .int (nI mb)), (9, .int (nI r))]) hx hb (pc := 361) dX10_pace_361 hl (k := 8) rfl (rr_inc _) (by decide) rfl (fun ls hl => ?_)
                                              refine lv_goto (tgt := 274) hx hb (pc := 364) dX10_pace_364 (by decide) ?_
                                              have hl : lv_has ls 13 [(10, .int (nI (t + 1))), (7, .long (lN (pcG D (lO (kF j) (liveS (kF j) (nF j) (Es yF j)) (Es yF j)) mb r (t + 1)))), (11, .long ((((nI (D r) - 1) + (nI 1)) - (nI (D t) - 1)).toInt64)), (0, .ref om), (1, .int (nI j)), (2, .int (nI u)), (3, .int (nI (liveS (kF j) (nF j) (Es yF j)))), (4, .int (nI mb)), (9, .int (nI r))] := by rw [show pcG D (lO (kF j) (liveS (kF j) (nF j) (Es yF j)) (Es yF j)) mb r (t + 1) = Nat.gcd (pcG D (lO (kF j) (liveS (kF j) (nF j) (Es yF j)) (Es yF j)) mb r t) (absd (D r + 1) (D t)) from by first | exact pcG_no1 c293 | exact pcG_no2 (by rw [Nat.testBit_and, c304, Bool.and_false]) | exact pcG_no2 (by rw [Nat.testBit_and, hno9, Bool.false_and]) | exact pcG_yes c293 hed9 c304]; exact hl
                                              exact ih274 (t + 1) _ _ hP hD hS (by omega) (by omega) ls (lv_sub hl [3, 4, 5, 6, 7, 1, 8, 0] rfl)
                                            · refine lv_lload hx hb (pc := 348) dX10_pace_348 (lv_at hl 0 rfl) ?_
                                              refine lv_lneg hx hb (pc := 350) dX10_pace_350 ?_
                                              refine lv_goto (tgt := 356) hx hb (pc := 351) dX10_pace_351 (by decide) ?_
                                              refine rr_top (v := .long (lN (absd (D r + 1) (D t)))) (by first | exact congrArg Value.long (hoff.1 c343) | exact congrArg Value.long (hoff.2 c343) | exact congrArg Value.long (hoff.1 c344) | exact congrArg Value.long (hoff.2 c344)) ?_
                                              refine rr_callP (rv := .long (lN (Nat.gcd (pcG D (lO (kF j) (liveS (kF j) (nF j) (Es yF j)) (Es yF j)) mb r t) (absd (D r + 1) (D t))))) (pc := 356) (va_runS (As := [.long (lN (pcG D (lO (kF j) (liveS (kF j) (nF j) (Es yF j)) (Es yF j)) mb r t)), .long (lN (absd (D r + 1) (D t)))]) (rest := []) ⟨hx, hb, hml, hown, hts⟩ (c_X10_common l K (pcG D (lO (kF j) (liveS (kF j) (nF j) (Es yF j)) (Es yF j)) mb r t) (absd (D r + 1) (D t)) (by omega) (by omega)) (cwS 2 hts gX10_pace_X10_common rfl rfl rfl (by decide +kernel) ⟨Nat.le_of_ble_eq_true rfl, Nat.le_of_ble_eq_true rfl⟩) (rr_preS hKK (trivial)) rfl rfl hl.1 rfl (lv_room (Nat.le_of_ble_eq_true rfl)) dX10_pace_356 ⟨Nat.le_refl _, Nat.le_refl _⟩) ?_
                                              refine lv_lstore (lv' := [(7, .long (lN (Nat.gcd (pcG D (lO (kF j) (liveS (kF j) (nF j) (Es yF j)) (Es yF j)) mb r t) (absd (D r + 1) (D t))))), (11, .long ((((nI (D r) - 1) + (nI 1)) - (nI (D t) - 1)).toInt64)), (0, .ref om), (1, .int (nI j)), (2, .int (nI u)), (3, .int (nI (liveS (kF j) (nF j) (Es yF j)))), (4, .int (nI mb)), (9, .int (nI r)), (10, .int (nI t))]) hx hb (pc := 359) dX10_pace_359 hl (by decide) rfl (fun ls hl => ?_)
                                              refine lv_iinc (v := nI (t + 1)) (lv' := [(10, .int (nI (t + 1))), (7, .long (lN (Nat.gcd (pcG D (lO (kF j) (liveS (kF j) (nF j) (Es yF j)) (Es yF j)) mb r t) (absd (D r + 1) (D t))))), (11, .long ((((nI (D r) - 1) + (nI 1)) - (nI (D t) - 1)).toInt64)), (0, .ref om), (1, .int (nI j)), (2, .int (nI u)), (3, .int (nI (liveS (kF j) (nF j) (Es yF j)))), (4, .int (nI mb)), (9, .int (nI r))]) hx hb (pc := 361) dX10_pace_361 hl (k := 8) rfl (rr_inc _) (by decide) rfl (fun ls hl => ?_)
                                              refine lv_goto (tgt := 274) hx hb (pc := 364) dX10_pace_364 (by decide) ?_
                                              have hl : lv_has ls 13 [(10, .int (nI (t + 1))), (7, .long (lN (pcG D (lO (kF j) (liveS (kF j) (nF j) (Es yF j)) (Es yF j)) mb r (t + 1)))), (11, .long ((((nI (D r) - 1) + (nI 1)) - (nI (D t) - 1)).toInt64)), (0, .ref om), (1, .int (nI j)), (2, .int (nI u)), (3, .int (nI (liveS (kF j) (nF j) (Es yF j)))), (4, .int (nI mb)), (9, .int (nI r))] := by rw [show pcG D (lO (kF j) (liveS (kF j) (nF j) (Es yF j)) (Es yF j)) mb r (t + 1) = Nat.gcd (pcG D (lO (kF j) (liveS (kF j) (nF j) (Es yF j)) (Es yF j)) mb r t) (absd (D r + 1) (D t)) from by first | exact pcG_no1 c293 | exact pcG_no2 (by rw [Nat.testBit_and, c304, Bool.and_false]) | exact pcG_no2 (by rw [Nat.testBit_and, hno9, Bool.false_and]) | exact pcG_yes c293 hed9 c304]; exact hl
                                              exact ih274 (t + 1) _ _ hP hD hS (by omega) (by omega) ls (lv_sub hl [3, 4, 5, 6, 7, 1, 8, 0] rfl)
                                have hl : lv_has ls 13 [(10, .int (nI 0)), (0, .ref om), (1, .int (nI j)), (2, .int (nI u)), (3, .int (nI (liveS (kF j) (nF j) (Es yF j)))), (4, .int (nI mb)), (7, .long (lN (pcG D (lO (kF j) (liveS (kF j) (nF j) (Es yF j)) (Es yF j)) mb r 0))), (9, .int (nI r))] := by rw [show pcG D (lO (kF j) (liveS (kF j) (nF j) (Es yF j)) (Es yF j)) mb r 0 = pcO D (lO (kF j) (liveS (kF j) (nF j) (Es yF j)) (Es yF j)) mb r from rfl]; exact hl
                                exact L274 (17) 0 _ _ hP hD hS (by omega) (Nat.zero_le _) ls (lv_sub hl [1, 2, 3, 4, 5, 6, 7, 0] rfl)
                          have hl : lv_has ls 13 [(9, .int (nI 0)), (7, .long (lN (pcO D (lO (kF j) (liveS (kF j) (nF j) (Es yF j)) (Es yF j)) mb 0))), (0, .ref om), (1, .int (nI j)), (2, .int (nI u)), (3, .int (nI (liveS (kF j) (nF j) (Es yF j)))), (4, .int (nI mb)), (6, .int (bI (ch)))] := by rw [show pcO D (lO (kF j) (liveS (kF j) (nF j) (Es yF j)) (Es yF j)) mb 0 = 0 from rfl]; exact hl
                          exact L260 (17) 0 _ _ hP hD hS (by omega) (Nat.zero_le _) ls (lv_sub hl [2, 3, 4, 5, 6, 1, 0] rfl)
                        · refine lv_iconst (v := nI 0) hx hb (pc := 146) dX10_pace_146 (by decide) ?_
                          refine lv_istore (lv' := [(6, .int (nI 0)), (0, .ref om), (1, .int (nI j)), (2, .int (nI u)), (3, .int (nI (liveS (kF j) (nF j) (Es yF j)))), (4, .int (nI mb))]) hx hb (pc := 147) dX10_pace_147 hl (by decide) rfl (fun ls hl => ?_)
                          refine lv_iconst (v := nI 0) hx hb (pc := 149) dX10_pace_149 (by decide) ?_
                          refine lv_istore (lv' := [(7, .int (nI 0)), (6, .int (nI 0)), (0, .ref om), (1, .int (nI j)), (2, .int (nI u)), (3, .int (nI (liveS (kF j) (nF j) (Es yF j)))), (4, .int (nI mb))]) hx hb (pc := 150) dX10_pace_150 hl (by decide) rfl (fun ls hl => ?_)
                          have L152 : ∀ (fz : Nat) (r : Nat) (D2 : Nat → Nat) (dF2 : Nat → Int32) (ch2 : Bool) (H : Heap) (locs : List Loc) (hP : va_P K.1 vwCl (XM K om ad ns wl nf wd mt kF nF yF WD FL FW TD RW pl nw xt vF wF qF bY gF nm xm fR oF hF dF2) H) (hD : va_D A (XM K om ad ns wl nf wd mt kF nF yF WD FL FW TD RW pl nw xt vF wF qF bY gF nm xm fR oF hF dF2)) (hS : va_S A s.heap H locs) (hfz : nF j - r < fz) (hr : r ≤ nF j) (hd2 : ∀ i, i < 16 → dF2 i = nI (D2 i) - 1) (hu2 : D2 u = 1) (hp2 : ∀ v, 0 < D2 v → mb.testBit v = true ∧ PL (lO (kF j) (liveS (kF j) (nF j) (Es yF j)) (Es yF j)) (nF j) mb u v (D2 v - 1)) (hl2 : ∀ v, D2 v ≤ asg (nF j) D2) (hmo : asg (nF j) D ≤ asg (nF j) D2) (hst : ch2 = true → asg (nF j) D < asg (nF j) D2) (hcl2 : ch2 = false → ∀ r2 t2, r2 < r → t2 < nF j → 0 < D2 r2 → mb.testBit t2 = true → Nat.testBit ((lO (kF j) (liveS (kF j) (nF j) (Es yF j)) (Es yF j)) r2) t2 = true → 0 < D2 t2) (ls : Array Slot) (hl : lv_has ls 13 [(0, .ref om), (1, .int (nI j)), (2, .int (nI u)), (3, .int (nI (liveS (kF j) (nF j) (Es yF j)))), (4, .int (nI mb)), (6, .int (bI (ch2))), (7, .int (nI r))]), W p l e rmX10_pace s m args below meth c H locs 0 0 Q (F0 m 152 ls []) := by
                            intro fz; induction fz with
                            | zero => intro r D2 dF2 ch2 H locs hP hD hS hfz hr hd2 hu2 hp2 hl2 hmo hst hcl2 ls hl; exact absurd hfz (Nat.not_lt_zero _)
                            | succ fz ih152 =>
                              intro r D2 dF2 ch2 H locs hP hD hS hfz hr hd2 hu2 hp2 hl2 hmo hst hcl2 ls hl
                              refine lv_iload hx hb (pc := 152) dX10_pace_152 (lv_at hl 6 rfl) ?_
                              refine lv_aload_n hx hb (pc := 154) dX10_pace_154 rfl (lv_at hl 0 rfl) ?_
                              refine va_get (v := .ref (ad 2)) hx hb hts (inX10_pace_10) hown hKK.1 hP 0 rfl rfl 2 (by decide) (hts _ (List.mem_of_getElem? (i := 1) (by decide +kernel))) (fun _ h9 => h9) rfl (pc := 155) dX10_pace_155 ?_
                              refine lv_iload_n hx hb (pc := 158) dX10_pace_158 rfl (lv_at hl 1 rfl) ?_
                              refine nv_iald (v := nI (nF j)) (i := j) hx hb hKK hP 2 rfl (by omega) (by decide) (rfl) (pc := 159) dX10_pace_159 ?_
                              refine nv_icmp_ge (a := r) (b := (nF j)) (tgt := 251) hx hb (pc := 160) dX10_pace_160 (by decide) (by omega) (by omega) (fun c160 => ?_) (fun c160 => ?_)
                              · refine lv_goto (tgt := 141) hx hb (pc := 251) dX10_pace_251 (by decide) ?_
                                have e8 : r = nF j := by omega
                                have hal8 := asg_le (nF j) D2
                                rw [c143] at hfz5
                                rw [show true.toNat = 1 from rfl] at hfz5
                                exact ih141 D2 dF2 ch2 _ _ hP hD hS (by cases ch2 with | true => have := hst rfl; show _ + 1 < _; omega | false => show _ + 0 < _; omega) (hd2) (hu2) (hp2) (hl2) (fun h r2 t2 h1 => hcl2 h r2 t2 (by omega)) ls (lv_sub hl [0, 1, 2, 3, 4, 5] rfl)
                              · refine lv_iconst (v := nI 0) hx hb (pc := 163) dX10_pace_163 (by decide) ?_
                                refine lv_istore (lv' := [(8, .int (nI 0)), (0, .ref om), (1, .int (nI j)), (2, .int (nI u)), (3, .int (nI (liveS (kF j) (nF j) (Es yF j)))), (4, .int (nI mb)), (6, .int (bI (ch2))), (7, .int (nI r))]) hx hb (pc := 164) dX10_pace_164 hl (by decide) rfl (fun ls hl => ?_)
                                have L166 : ∀ (fz : Nat) (t : Nat) (D2 : Nat → Nat) (dF2 : Nat → Int32) (ch2 : Bool) (H : Heap) (locs : List Loc) (hP : va_P K.1 vwCl (XM K om ad ns wl nf wd mt kF nF yF WD FL FW TD RW pl nw xt vF wF qF bY gF nm xm fR oF hF dF2) H) (hD : va_D A (XM K om ad ns wl nf wd mt kF nF yF WD FL FW TD RW pl nw xt vF wF qF bY gF nm xm fR oF hF dF2)) (hS : va_S A s.heap H locs) (hfz : nF j - t < fz) (ht : t ≤ nF j) (hd2 : ∀ i, i < 16 → dF2 i = nI (D2 i) - 1) (hu2 : D2 u = 1) (hp2 : ∀ v, 0 < D2 v → mb.testBit v = true ∧ PL (lO (kF j) (liveS (kF j) (nF j) (Es yF j)) (Es yF j)) (nF j) mb u v (D2 v - 1)) (hl2 : ∀ v, D2 v ≤ asg (nF j) D2) (hmo : asg (nF j) D ≤ asg (nF j) D2) (hst : ch2 = true → asg (nF j) D < asg (nF j) D2) (hcl3 : ch2 = false → ∀ r2 t2, (r2 < r ∨ (r2 = r ∧ t2 < t)) → t2 < nF j → 0 < D2 r2 → mb.testBit t2 = true → Nat.testBit ((lO (kF j) (liveS (kF j) (nF j) (Es yF j)) (Es yF j)) r2) t2 = true → 0 < D2 t2) (ls : Array Slot) (hl : lv_has ls 13 [(0, .ref om), (1, .int (nI j)), (2, .int (nI u)), (3, .int (nI (liveS (kF j) (nF j) (Es yF j)))), (4, .int (nI mb)), (6, .int (bI (ch2))), (7, .int (nI r)), (8, .int (nI t))]), W p l e rmX10_pace s m args below meth c H locs 0 0 Q (F0 m 166 ls []) := by
                                  intro fz; induction fz with
                                  | zero => intro t D2 dF2 ch2 H locs hP hD hS hfz ht hd2 hu2 hp2 hl2 hmo hst hcl3 ls hl; exact absurd hfz (Nat.not_lt_zero _)
                                  | succ fz ih166 =>
                                    intro t D2 dF2 ch2 H locs hP hD hS hfz ht hd2 hu2 hp2 hl2 hmo hst hcl3 ls hl
                                    have hal7 := asg_le (nF j) D2
                                    have hE16 : ∀ v, D2 v ≤ 16 := fun v => Nat.le_trans (hl2 v) (by omega)
                                    refine lv_iload hx hb (pc := 166) dX10_pace_166 (lv_at hl 7 rfl) ?_
                                    refine lv_aload_n hx hb (pc := 168) dX10_pace_168 rfl (lv_at hl 0 rfl) ?_
                                    refine va_get (v := .ref (ad 2)) hx hb hts (inX10_pace_10) hown hKK.1 hP 0 rfl rfl 2 (by decide) (hts _ (List.mem_of_getElem? (i := 1) (by decide +kernel))) (fun _ h9 => h9) rfl (pc := 169) dX10_pace_169 ?_
                                    refine lv_iload_n hx hb (pc := 172) dX10_pace_172 rfl (lv_at hl 1 rfl) ?_
                                    refine nv_iald (v := nI (nF j)) (i := j) hx hb hKK hP 2 rfl (by omega) (by decide) (rfl) (pc := 173) dX10_pace_173 ?_
                                    refine nv_icmp_ge (a := t) (b := (nF j)) (tgt := 245) hx hb (pc := 174) dX10_pace_174 (by decide) (by omega) (by omega) (fun c174 => ?_) (fun c174 => ?_)
                                    · refine lv_iinc (v := nI (r + 1)) (lv' := [(7, .int (nI (r + 1))), (0, .ref om), (1, .int (nI j)), (2, .int (nI u)), (3, .int (nI (liveS (kF j) (nF j) (Es yF j)))), (4, .int (nI mb)), (6, .int (bI (ch2))), (8, .int (nI t))]) hx hb (pc := 245) dX10_pace_245 hl (k := 6) rfl (rr_inc _) (by decide) rfl (fun ls hl => ?_)
                                      refine lv_goto (tgt := 152) hx hb (pc := 248) dX10_pace_248 (by decide) ?_
                                      exact ih152 (r + 1) _ dF2 ch2 _ _ hP hD hS (by omega) (by omega) (hd2) (hu2) (hp2) (hl2) (hmo) (hst) (fun h r2 t2 h1 h2 => hcl3 h r2 t2 ((Nat.lt_or_ge r2 r).elim Or.inl (fun w => Or.inr ⟨by omega, by omega⟩)) h2) ls (lv_sub hl [1, 2, 3, 4, 5, 6, 0] rfl)
                                    · refine lv_aload_n hx hb (pc := 177) dX10_pace_177 rfl (lv_at hl 0 rfl) ?_
                                      refine va_get (v := .ref (ad 25)) hx hb hts (inX10_pace_10) hown hKK.1 hP 0 rfl rfl 25 (by decide) (hts _ (List.mem_of_getElem? (i := 2) (by decide +kernel))) (fun _ h9 => h9) rfl (pc := 178) dX10_pace_178 ?_
                                      refine lv_iload hx hb (pc := 181) dX10_pace_181 (lv_at hl 6 rfl) ?_
                                      refine nv_iald (v := nI (D2 r) - 1) (i := r) hx hb hKK hP 21 rfl (by omega) (by decide) (hd2 r (by omega)) (pc := 183) dX10_pace_183 ?_
                                      refine lv_if_lt (tgt := 239) hx hb (pc := 184) dX10_pace_184 (by decide) (fun c184 => ?_) (fun c184 => ?_)
                                      · have hgo : ∀ t2, t2 = t → 0 < D2 r → mb.testBit t2 = true → Nat.testBit ((lO (kF j) (liveS (kF j) (nF j) (Es yF j)) (Es yF j)) r) t2 = true → 0 < D2 t2 := fun t2 _ h3 _ _ => by
                                          have := um0 (hE16 r) c184
                                          omega
                                        refine lv_iinc (v := nI (t + 1)) (lv' := [(8, .int (nI (t + 1))), (0, .ref om), (1, .int (nI j)), (2, .int (nI u)), (3, .int (nI (liveS (kF j) (nF j) (Es yF j)))), (4, .int (nI mb)), (6, .int (bI (ch2))), (7, .int (nI r))]) hx hb (pc := 239) dX10_pace_239 hl (k := 7) rfl (rr_inc _) (by decide) rfl (fun ls hl => ?_)
                                        refine lv_goto (tgt := 166) hx hb (pc := 242) dX10_pace_242 (by decide) ?_
                                        exact ih166 (t + 1) _ dF2 ch2 _ _ hP hD hS (by omega) (by omega) (by first | exact hd2N | exact hd2) (by first | exact hu2N | exact hu2) (by first | exact hp2N | exact hp2) (by first | exact hl2N | exact hl2) (by first | exact hmoN | exact hmo) (by first | exact hstN | exact hst) (by first | (intro h; cases h; done) | exact fun h r2 t2 h1 h2 h3 h4 h5 => h1.elim (fun w => hcl3 h r2 t2 (Or.inl w) h2 h3 h4 h5) (fun w => (Nat.lt_or_ge t2 t).elim (fun z => hcl3 h r2 t2 (Or.inr ⟨w.1, z⟩) h2 h3 h4 h5) (fun z => hgo t2 (by omega) (by rw [← w.1]; exact h3) h4 (by rw [← w.1]; exact h5)))) ls (lv_sub hl [1, 2, 3, 4, 5, 6, 7, 0] rfl)
                                      · have hr0 := um2 (hE16 r) c184
                                        refine lv_aload_n hx hb (pc := 187) dX10_pace_187 rfl (lv_at hl 0 rfl) ?_
                                        refine va_get (v := .ref (ad 25)) hx hb hts (inX10_pace_10) hown hKK.1 hP 0 rfl rfl 25 (by decide) (hts _ (List.mem_of_getElem? (i := 2) (by decide +kernel))) (fun _ h9 => h9) rfl (pc := 188) dX10_pace_188 ?_
                                        refine lv_iload hx hb (pc := 191) dX10_pace_191 (lv_at hl 7 rfl) ?_
                                        refine nv_iald (v := nI (D2 t) - 1) (i := t) hx hb hKK hP 21 rfl (by omega) (by decide) (hd2 t (by omega)) (pc := 193) dX10_pace_193 ?_
                                        refine lv_if_ge (tgt := 239) hx hb (pc := 194) dX10_pace_194 (by decide) (fun c194 => ?_) (fun c194 => ?_)
                                        · have hgo : ∀ t2, t2 = t → 0 < D2 r → mb.testBit t2 = true → Nat.testBit ((lO (kF j) (liveS (kF j) (nF j) (Es yF j)) (Es yF j)) r) t2 = true → 0 < D2 t2 := fun t2 e _ _ _ => by
                                            have := um_ge (hE16 t) c194
                                            rw [e]; omega
                                          refine lv_iinc (v := nI (t + 1)) (lv' := [(8, .int (nI (t + 1))), (0, .ref om), (1, .int (nI j)), (2, .int (nI u)), (3, .int (nI (liveS (kF j) (nF j) (Es yF j)))), (4, .int (nI mb)), (6, .int (bI (ch2))), (7, .int (nI r))]) hx hb (pc := 239) dX10_pace_239 hl (k := 7) rfl (rr_inc _) (by decide) rfl (fun ls hl => ?_)
                                          refine lv_goto (tgt := 166) hx hb (pc := 242) dX10_pace_242 (by decide) ?_
                                          exact ih166 (t + 1) _ dF2 ch2 _ _ hP hD hS (by omega) (by omega) (by first | exact hd2N | exact hd2) (by first | exact hu2N | exact hu2) (by first | exact hp2N | exact hp2) (by first | exact hl2N | exact hl2) (by first | exact hmoN | exact hmo) (by first | exact hstN | exact hst) (by first | (intro h; cases h; done) | exact fun h r2 t2 h1 h2 h3 h4 h5 => h1.elim (fun w => hcl3 h r2 t2 (Or.inl w) h2 h3 h4 h5) (fun w => (Nat.lt_or_ge t2 t).elim (fun z => hcl3 h r2 t2 (Or.inr ⟨w.1, z⟩) h2 h3 h4 h5) (fun z => hgo t2 (by omega) (by rw [← w.1]; exact h3) h4 (by rw [← w.1]; exact h5)))) ls (lv_sub hl [1, 2, 3, 4, 5, 6, 7, 0] rfl)
                                        · have ht0 := um_nge (hE16 t) c194
                                          refine lv_iload hx hb (pc := 197) dX10_pace_197 (lv_at hl 4 rfl) ?_
                                          refine lv_iload hx hb (pc := 199) dX10_pace_199 (lv_at hl 7 rfl) ?_
                                          refine nv_ishr (a := mb) (b := t) hx hb (pc := 201) dX10_pace_201 (by omega) (by omega) ?_
                                          refine lv_iconst (v := nI 1) hx hb (pc := 202) dX10_pace_202 (by decide) ?_
                                          refine nv_bit (a := mb) (q := t) hx hb (pc := 203) dX10_pace_203 ?_
                                          refine lv_iconst (v := nI 1) hx hb (pc := 204) dX10_pace_204 (by decide) ?_
                                          refine nv_icmp_ne_b1 (tgt := 239) hx hb (pc := 205) dX10_pace_205 (by decide) (fun c205 => ?_) (fun c205 => ?_)
                                          · have hgo : ∀ t2, t2 = t → 0 < D2 r → mb.testBit t2 = true → Nat.testBit ((lO (kF j) (liveS (kF j) (nF j) (Es yF j)) (Es yF j)) r) t2 = true → 0 < D2 t2 := fun t2 e _ h4 _ => by
                                              rw [e, c205] at h4; cases h4
                                            refine lv_iinc (v := nI (t + 1)) (lv' := [(8, .int (nI (t + 1))), (0, .ref om), (1, .int (nI j)), (2, .int (nI u)), (3, .int (nI (liveS (kF j) (nF j) (Es yF j)))), (4, .int (nI mb)), (6, .int (bI (ch2))), (7, .int (nI r))]) hx hb (pc := 239) dX10_pace_239 hl (k := 7) rfl (rr_inc _) (by decide) rfl (fun ls hl => ?_)
                                            refine lv_goto (tgt := 166) hx hb (pc := 242) dX10_pace_242 (by decide) ?_
                                            exact ih166 (t + 1) _ dF2 ch2 _ _ hP hD hS (by omega) (by omega) (by first | exact hd2N | exact hd2) (by first | exact hu2N | exact hu2) (by first | exact hp2N | exact hp2) (by first | exact hl2N | exact hl2) (by first | exact hmoN | exact hmo) (by first | exact hstN | exact hst) (by first | (intro h; cases h; done) | exact fun h r2 t2 h1 h2 h3 h4 h5 => h1.elim (fun w => hcl3 h r2 t2 (Or.inl w) h2 h3 h4 h5) (fun w => (Nat.lt_or_ge t2 t).elim (fun z => hcl3 h r2 t2 (Or.inr ⟨w.1, z⟩) h2 h3 h4 h5) (fun z => hgo t2 (by omega) (by rw [← w.1]; exact h3) h4 (by rw [← w.1]; exact h5)))) ls (lv_sub hl [1, 2, 3, 4, 5, 6, 7, 0] rfl)
                                          · refine lv_aload_n hx hb (pc := 208) dX10_pace_208 rfl (lv_at hl 0 rfl) ?_
                                            refine lv_iload_n hx hb (pc := 209) dX10_pace_209 rfl (lv_at hl 1 rfl) ?_
                                            refine lv_iload hx hb (pc := 210) dX10_pace_210 (lv_at hl 6 rfl) ?_
                                            refine lv_iload hx hb (pc := 212) dX10_pace_212 (lv_at hl 7 rfl) ?_
                                            have hwb := wB_le (kF j) (Es yF j) r t
                                            have hpr := hp2 r (by omega)
                                            have hwl := wB_lO (k := kF j) (E := Es yF j) (hma r hpr.1) (hma t c205)
                                            refine rr_callP (rv := .int (nI (wB (kF j) (Es yF j) r t))) (pc := 214) (va_runV (As := [.int (nI j), .int (nI r), .int (nI t)]) (rest := []) ⟨hx, hb, hml, hown, hts⟩ (c_X10_waysBetween l K om ad ns wl nf wd mt kF nF yF WD FL FW TD RW pl nw xt vF wF qF bY gF nm xm fR oF hF dF2 j r t (by omega) s2j s4j s5j (by omega) (by omega)) (cwV 3 hts gX10_pace_X10_waysBetween rfl rfl rfl (by decide +kernel) ⟨Nat.le_of_ble_eq_true rfl, Nat.le_of_ble_eq_true rfl⟩) (rr_preV hKK (hP) (va_recv hKK.1 hP (ci := 10) (q0 := 0) rfl rfl)) rfl rfl hl.1 rfl (lv_room (Nat.le_of_ble_eq_true rfl)) dX10_pace_214 ⟨Nat.le_refl _, Nat.le_refl _⟩) ?_
                                            refine nv_if_le (a := (wB (kF j) (Es yF j) r t)) (tgt := 239) hx hb (pc := 217) dX10_pace_217 (by decide) (by omega) (fun c217 => ?_) (fun c217 => ?_)
                                            · have hgo : ∀ t2, t2 = t → 0 < D2 r → mb.testBit t2 = true → Nat.testBit ((lO (kF j) (liveS (kF j) (nF j) (Es yF j)) (Es yF j)) r) t2 = true → 0 < D2 t2 := fun t2 e _ _ h5 => by
                                                rw [e] at h5
                                                have := hwl.mpr h5
                                                omega
                                              refine lv_iinc (v := nI (t + 1)) (lv' := [(8, .int (nI (t + 1))), (0, .ref om), (1, .int (nI j)), (2, .int (nI u)), (3, .int (nI (liveS (kF j) (nF j) (Es yF j)))), (4, .int (nI mb)), (6, .int (bI (ch2))), (7, .int (nI r))]) hx hb (pc := 239) dX10_pace_239 hl (k := 7) rfl (rr_inc _) (by decide) rfl (fun ls hl => ?_)
                                              refine lv_goto (tgt := 166) hx hb (pc := 242) dX10_pace_242 (by decide) ?_
                                              exact ih166 (t + 1) _ dF2 ch2 _ _ hP hD hS (by omega) (by omega) (by first | exact hd2N | exact hd2) (by first | exact hu2N | exact hu2) (by first | exact hp2N | exact hp2) (by first | exact hl2N | exact hl2) (by first | exact hmoN | exact hmo) (by first | exact hstN | exact hst) (by first | (intro h; cases h; done) | exact fun h r2 t2 h1 h2 h3 h4 h5 => h1.elim (fun w => hcl3 h r2 t2 (Or.inl w) h2 h3 h4 h5) (fun w => (Nat.lt_or_ge t2 t).elim (fun z => hcl3 h r2 t2 (Or.inr ⟨w.1, z⟩) h2 h3 h4 h5) (fun z => hgo t2 (by omega) (by rw [← w.1]; exact h3) h4 (by rw [← w.1]; exact h5)))) ls (lv_sub hl [1, 2, 3, 4, 5, 6, 7, 0] rfl)
                                            · have hed := hwl.mp (by omega)
                                              refine lv_aload_n hx hb (pc := 220) dX10_pace_220 rfl (lv_at hl 0 rfl) ?_
                                              refine va_get (v := .ref (ad 25)) hx hb hts (inX10_pace_10) hown hKK.1 hP 0 rfl rfl 25 (by decide) (hts _ (List.mem_of_getElem? (i := 2) (by decide +kernel))) (fun _ h9 => h9) rfl (pc := 221) dX10_pace_221 ?_
                                              refine lv_iload hx hb (pc := 224) dX10_pace_224 (lv_at hl 7 rfl) ?_
                                              refine lv_aload_n hx hb (pc := 226) dX10_pace_226 rfl (lv_at hl 0 rfl) ?_
                                              refine va_get (v := .ref (ad 25)) hx hb hts (inX10_pace_10) hown hKK.1 hP 0 rfl rfl 25 (by decide) (hts _ (List.mem_of_getElem? (i := 2) (by decide +kernel))) (fun _ h9 => h9) rfl (pc := 227) dX10_pace_227 ?_
                                              refine lv_iload hx hb (pc := 230) dX10_pace_230 (lv_at hl 6 rfl) ?_
                                              refine nv_iald (v := nI (D2 r) - 1) (i := r) hx hb hKK hP 21 rfl (by omega) (by decide) (hd2 r (by omega)) (pc := 232) dX10_pace_232 ?_
                                              refine lv_iconst (v := nI 1) hx hb (pc := 233) dX10_pace_233 (by decide) ?_
                                              refine lv_iadd hx hb (pc := 234) dX10_pace_234 ?_
                                              refine nv_iastr (f := dF2) (x := ((nI (D2 r) - 1) + (nI 1))) (ws' := XM K om ad ns wl nf wd mt kF nF yF WD FL FW TD RW pl nw xt vF wF qF bY gF nm xm fR oF hF (va_up dF2 t ((nI (D2 r) - 1) + (nI 1)))) (i := t) hx hb hKK hP hD hS 21 rfl (by omega) (by decide) (rfl) (pc := 235) dX10_pace_235 (fun H locs hP hD hS => ?_)
                                              have htn : t < nF j := by omega
                                              have hag := asg_up (x := D2 r + 1) htn ht0 (Nat.succ_pos _)
                                              have hd2N : ∀ i, i < 16 → va_up dF2 t ((nI (D2 r) - 1) + (nI 1)) i = nI ((va_up D2 t (D2 r + 1)) i) - 1 := fun i hi => by
                                                by_cases e : i = t
                                                · rw [e, va_up_self, va_up_self]; exact dep_inc (by have := hE16 r; omega)
                                                · rw [va_up_ne _ _ e, va_up_ne _ _ e]; exact hd2 i hi
                                              have hu2N : (va_up D2 t (D2 r + 1)) u = 1 := by rw [va_up_ne _ _ (fun e => by rw [← e, hu2] at ht0; cases ht0)]; exact hu2
                                              have hp2N : ∀ v, 0 < (va_up D2 t (D2 r + 1)) v → mb.testBit v = true ∧ PL (lO (kF j) (liveS (kF j) (nF j) (Es yF j)) (Es yF j)) (nF j) mb u v ((va_up D2 t (D2 r + 1)) v - 1) := fun v hv => by
                                                by_cases e : v = t
                                                · rw [e, va_up_self]
                                                  refine ⟨c205, ?_⟩
                                                  have h9 := PL_snoc hpr.2 (show r < nF j by omega) hed c205
                                                  rwa [show D2 r - 1 + 1 = D2 r + 1 - 1 by omega] at h9
                                                · rw [va_up_ne _ _ e] at hv ⊢; exact hp2 v hv
                                              have hl2N : ∀ v, (va_up D2 t (D2 r + 1)) v ≤ asg (nF j) (va_up D2 t (D2 r + 1)) := fun v => by
                                                rw [hag]
                                                by_cases e : v = t
                                                · rw [e, va_up_self]; have := hl2 r; omega
                                                · rw [va_up_ne _ _ e]; have := hl2 v; omega
                                              have hmoN : asg (nF j) D ≤ asg (nF j) (va_up D2 t (D2 r + 1)) := by rw [hag]; omega
                                              have hstN : true = true → asg (nF j) D < asg (nF j) (va_up D2 t (D2 r + 1)) := fun _ => by rw [hag]; omega
                                              refine lv_iconst (v := nI 1) hx hb (pc := 236) dX10_pace_236 (by decide) ?_
                                              refine lv_istore (lv' := [(6, .int (nI 1)), (0, .ref om), (1, .int (nI j)), (2, .int (nI u)), (3, .int (nI (liveS (kF j) (nF j) (Es yF j)))), (4, .int (nI mb)), (7, .int (nI r)), (8, .int (nI t))]) hx hb (pc := 237) dX10_pace_237 hl (by decide) rfl (fun ls hl => ?_)
                                              refine lv_iinc (v := nI (t + 1)) (lv' := [(8, .int (nI (t + 1))), (6, .int (nI 1)), (0, .ref om), (1, .int (nI j)), (2, .int (nI u)), (3, .int (nI (liveS (kF j) (nF j) (Es yF j)))), (4, .int (nI mb)), (7, .int (nI r))]) hx hb (pc := 239) dX10_pace_239 hl (k := 7) rfl (rr_inc _) (by decide) rfl (fun ls hl => ?_)
                                              refine lv_goto (tgt := 166) hx hb (pc := 242) dX10_pace_242 (by decide) ?_
                                              exact ih166 (t + 1) _ (va_up dF2 t ((nI (D2 r) - 1) + (nI 1))) true _ _ hP hD hS (by omega) (by omega) (by first | exact hd2N | exact hd2) (by first | exact hu2N | exact hu2) (by first | exact hp2N | exact hp2) (by first | exact hl2N | exact hl2) (by first | exact hmoN | exact hmo) (by first | exact hstN | exact hst) (by first | (intro h; cases h; done) | exact fun h r2 t2 h1 h2 h3 h4 h5 => h1.elim (fun w => hcl3 h r2 t2 (Or.inl w) h2 h3 h4 h5) (fun w => (Nat.lt_or_ge t2 t).elim (fun z => hcl3 h r2 t2 (Or.inr ⟨w.1, z⟩) h2 h3 h4 h5) (fun z => hgo t2 (by omega) (by rw [← w.1]; exact h3) h4 (by rw [← w.1]; exact h5)))) ls (lv_sub hl [2, 3, 4, 5, 6, 1, 7, 0] rfl)
                                exact L166 (17) 0 _ dF2 ch2 _ _ hP hD hS (by omega) (Nat.zero_le _) (hd2) (hu2) (hp2) (hl2) (hmo) (hst) (fun h r2 t2 h1 => hcl2 h r2 t2 (h1.elim id (fun z => absurd z.2 (Nat.not_lt_zero _)))) ls (lv_sub hl [1, 2, 3, 4, 5, 6, 7, 0] rfl)
                          exact L152 (17) 0 D dF1 false _ _ hP hD hS (by omega) (Nat.zero_le _) (hd1) (hu1) (hp1) (hl1) (Nat.le_refl _) (fun h => by cases h) (fun _ r2 t2 h => absurd h (Nat.not_lt_zero _)) ls (lv_sub hl [2, 3, 4, 5, 6, 1, 0] rfl)
                    exact L141 (nF j + 2) (fun v => if v = u then 1 else 0) (va_up (putZ dF (fun _ => -1) i) u (nI 0)) true _ _ hP hD hS (by show nF j - _ + 1 < _; omega) (hd0) (if_pos rfl) (hp0) (hl0) (fun h => by cases h) ls (lv_sub hl [1, 2, 3, 4, 5, 0] rfl)
                  · refine lv_aload_n hx hb (pc := 117) dX10_pace_117 rfl (lv_at hl 0 rfl) ?_
                    refine va_get (v := .ref (ad 25)) hx hb hts (inX10_pace_10) hown hKK.1 hP 0 rfl rfl 25 (by decide) (hts _ (List.mem_of_getElem? (i := 2) (by decide +kernel))) (fun _ h9 => h9) rfl (pc := 118) dX10_pace_118 ?_
                    refine lv_iload hx hb (pc := 121) dX10_pace_121 (lv_at hl 5 rfl) ?_
                    refine lv_iconst (v := -1) hx hb (pc := 123) dX10_pace_123 (by decide) ?_
                    refine nv_iastr (f := (putZ dF (fun _ => -1) i)) (x := (-1)) (ws' := XM K om ad ns wl nf wd mt kF nF yF WD FL FW TD RW pl nw xt vF wF qF bY gF nm xm fR oF hF (va_up (putZ dF (fun _ => -1) i) i (-1))) (i := i) hx hb hKK hP hD hS 21 rfl (by omega) (by decide) (rfl) (pc := 124) dX10_pace_124 (fun H locs hP hD hS => ?_)
                    refine lv_iinc (v := nI (i + 1)) (lv' := [(6, .int (nI (i + 1))), (0, .ref om), (1, .int (nI j)), (2, .int (nI u)), (3, .int (nI (liveS (kF j) (nF j) (Es yF j)))), (4, .int (nI mb))]) hx hb (pc := 125) dX10_pace_125 hl (k := 5) rfl (rr_inc _) (by decide) rfl (fun ls hl => ?_)
                    refine lv_goto (tgt := 110) hx hb (pc := 128) dX10_pace_128 (by decide) ?_
                    rw [show va_up (putZ dF (fun _ => -1) i) i (-1) = putZ dF (fun _ => -1) (i + 1) from putZ_step dF (fun _ => -1) i] at hP hD
                    exact ih110 (i + 1) _ _ hP hD hS (by omega) (by omega) ls (lv_sub hl [1, 2, 3, 4, 5, 0] rfl)
              rw [← putZ_0 dF (fun _ => -1)] at hP hD
              have hl : lv_has ls 13 [(6, .int (nI 0)), (0, .ref om), (1, .int (nI j)), (2, .int (nI u)), (3, .int (nI (liveS (kF j) (nF j) (Es yF j)))), (4, .int (nI mb)), (5, .int (nI (rcF (nF j) (kF j) (liveS (kF j) (nF j) (Es yF j)) (Es yF j) u)))] := by rw [show mb = orN (nF j) (pmQ (nF j) (kF j) (liveS (kF j) (nF j) (Es yF j)) (Es yF j) u) from hpm.symm]; exact hl
              exact L110 (17) 0 _ _ hP hD hS (by omega) (Nat.zero_le _) ls (lv_sub hl [1, 2, 3, 4, 5, 0] rfl)
            · refine lv_iconst (v := nI 0) hx hb (pc := 105) dX10_pace_105 (by decide) ?_
              exact hret.1 _ _ 0 0 106 _ (nI 0) dX10_pace_106 (by omega) (by omega) hS (⟨by unfold pacA; rw [if_pos c6, ecj, ecu, if_pos c23, pacN_0 s4j hlv2 hu9 (pm_0 hu9 c102)], _, hP⟩) (rfl)
          · refine lv_iload hx hb (pc := 54) dX10_pace_54 (lv_at hl 4 rfl) ?_
            refine lv_iload hx hb (pc := 56) dX10_pace_56 (lv_at hl 5 rfl) ?_
            refine lv_iload hx hb (pc := 58) dX10_pace_58 (lv_at hl 6 rfl) ?_
            refine nv_ishr (a := (rcF (nF j) (kF j) (liveS (kF j) (nF j) (Es yF j)) (Es yF j) u)) (b := i) hx hb (pc := 60) dX10_pace_60 (by omega) (by omega) ?_
            refine lv_iconst (v := nI 1) hx hb (pc := 61) dX10_pace_61 (by decide) ?_
            refine nv_bit (a := (rcF (nF j) (kF j) (liveS (kF j) (nF j) (Es yF j)) (Es yF j) u)) (q := i) hx hb (pc := 62) dX10_pace_62 ?_
            refine lv_iconst (v := nI 1) hx hb (pc := 63) dX10_pace_63 (by decide) ?_
            refine nv_icmp_ne_b1 (tgt := 90) hx hb (pc := 64) dX10_pace_64 (by decide) (fun c64 => ?_) (fun c64 => ?_)
            · refine lv_iconst (v := nI 0) hx hb (pc := 90) dX10_pace_90 (by decide) ?_
              refine nv_ior (a := (orN i (pmQ (nF j) (kF j) (liveS (kF j) (nF j) (Es yF j)) (Es yF j) u))) (b := 0) hx hb (pc := 91) dX10_pace_91 ?_
              refine lv_istore (lv' := [(4, .int (nI ((orN i (pmQ (nF j) (kF j) (liveS (kF j) (nF j) (Es yF j)) (Es yF j) u)) ||| 0))), (0, .ref om), (1, .int (nI j)), (2, .int (nI u)), (3, .int (nI (liveS (kF j) (nF j) (Es yF j)))), (5, .int (nI (rcF (nF j) (kF j) (liveS (kF j) (nF j) (Es yF j)) (Es yF j) u))), (6, .int (nI i))]) hx hb (pc := 92) dX10_pace_92 hl (by decide) rfl (fun ls hl => ?_)
              refine lv_iinc (v := nI (i + 1)) (lv' := [(6, .int (nI (i + 1))), (4, .int (nI ((orN i (pmQ (nF j) (kF j) (liveS (kF j) (nF j) (Es yF j)) (Es yF j) u)) ||| 0))), (0, .ref om), (1, .int (nI j)), (2, .int (nI u)), (3, .int (nI (liveS (kF j) (nF j) (Es yF j)))), (5, .int (nI (rcF (nF j) (kF j) (liveS (kF j) (nF j) (Es yF j)) (Es yF j) u)))]) hx hb (pc := 94) dX10_pace_94 hl (k := 6) rfl (rr_inc _) (by decide) rfl (fun ls hl => ?_)
              refine lv_goto (tgt := 43) hx hb (pc := 97) dX10_pace_97 (by decide) ?_
              have hl : lv_has ls 13 [(6, .int (nI (i + 1))), (4, .int (nI (orN (i + 1) (pmQ (nF j) (kF j) (liveS (kF j) (nF j) (Es yF j)) (Es yF j) u)))), (0, .ref om), (1, .int (nI j)), (2, .int (nI u)), (3, .int (nI (liveS (kF j) (nF j) (Es yF j)))), (5, .int (nI (rcF (nF j) (kF j) (liveS (kF j) (nF j) (Es yF j)) (Es yF j) u)))] := by rw [show orN (i + 1) (pmQ (nF j) (kF j) (liveS (kF j) (nF j) (Es yF j)) (Es yF j) u) = (orN i (pmQ (nF j) (kF j) (liveS (kF j) (nF j) (Es yF j)) (Es yF j) u)) ||| 0 from by rw [orN_succ]; unfold pmQ; first | (rw [if_pos ⟨c64, c80⟩]; done) | (rw [if_neg (fun z => absurd (c64.symm.trans z.1) (by decide)), Nat.or_zero]; done) | (rw [if_neg (fun z => absurd (c64.symm.trans z.1) (by decide))]; done) | (rw [if_neg (fun z => absurd (c80.symm.trans z.2) (by decide)), Nat.or_zero]; done) | (rw [if_neg (fun z => absurd (c80.symm.trans z.2) (by decide))]; done)]; exact hl
              exact ih43 (i + 1) _ _ hP hD hS (by omega) (by omega) ls (lv_sub hl [2, 3, 4, 5, 1, 6, 0] rfl)
            · refine lv_aload_n hx hb (pc := 67) dX10_pace_67 rfl (lv_at hl 0 rfl) ?_
              refine lv_iload_n hx hb (pc := 68) dX10_pace_68 rfl (lv_at hl 1 rfl) ?_
              refine lv_iload_n hx hb (pc := 69) dX10_pace_69 rfl (lv_at hl 3 rfl) ?_
              refine lv_iload hx hb (pc := 70) dX10_pace_70 (lv_at hl 6 rfl) ?_
              have hia := sub_bit.mp hsr i c64
              refine rr_callP (rv := .int (nI (rcF (nF j) (kF j) (liveS (kF j) (nF j) (Es yF j)) (Es yF j) i))) (pc := 72) (va_runV (As := [.int (nI j), .int (nI (liveS (kF j) (nF j) (Es yF j))), .int (nI i)]) (rest := [.int (nI (orN i (pmQ (nF j) (kF j) (liveS (kF j) (nF j) (Es yF j)) (Es yF j) u)))]) ⟨hx, hb, hml, hown, hts⟩ (c_X10_reach l K om ad ns wl nf wd mt kF nF yF WD FL FW TD RW pl nw xt vF wF qF bY gF nm xm fR oF hF dF j (liveS (kF j) (nF j) (Es yF j)) i (by omega) s2j s4j s5j hlv (by omega) hia) (cwV 3 hts gX10_pace_X10_reach rfl rfl rfl (by decide +kernel) ⟨Nat.le_of_ble_eq_true rfl, Nat.le_of_ble_eq_true rfl⟩) (rr_preV hKK (hP) (va_recv hKK.1 hP (ci := 10) (q0 := 0) rfl rfl)) rfl rfl hl.1 rfl (lv_room (Nat.le_of_ble_eq_true rfl)) dX10_pace_72 ⟨Nat.le_refl _, Nat.le_refl _⟩) ?_
              have hri := Nat.lt_of_le_of_lt (sub_le (rcF_sub (k := kF j) (al := (liveS (kF j) (nF j) (Es yF j))) (E := Es yF j) (show i < nF j by omega))) hlv
              refine lv_iload_n hx hb (pc := 75) dX10_pace_75 rfl (lv_at hl 2 rfl) ?_
              refine nv_ishr (a := (rcF (nF j) (kF j) (liveS (kF j) (nF j) (Es yF j)) (Es yF j) i)) (b := u) hx hb (pc := 76) dX10_pace_76 (by omega) (by omega) ?_
              refine lv_iconst (v := nI 1) hx hb (pc := 77) dX10_pace_77 (by decide) ?_
              refine nv_bit (a := (rcF (nF j) (kF j) (liveS (kF j) (nF j) (Es yF j)) (Es yF j) i)) (q := u) hx hb (pc := 78) dX10_pace_78 ?_
              refine lv_iconst (v := nI 1) hx hb (pc := 79) dX10_pace_79 (by decide) ?_
              refine nv_icmp_ne_b1 (tgt := 90) hx hb (pc := 80) dX10_pace_80 (by decide) (fun c80 => ?_) (fun c80 => ?_)
              · refine lv_iconst (v := nI 0) hx hb (pc := 90) dX10_pace_90 (by decide) ?_
                refine nv_ior (a := (orN i (pmQ (nF j) (kF j) (liveS (kF j) (nF j) (Es yF j)) (Es yF j) u))) (b := 0) hx hb (pc := 91) dX10_pace_91 ?_
                refine lv_istore (lv' := [(4, .int (nI ((orN i (pmQ (nF j) (kF j) (liveS (kF j) (nF j) (Es yF j)) (Es yF j) u)) ||| 0))), (0, .ref om), (1, .int (nI j)), (2, .int (nI u)), (3, .int (nI (liveS (kF j) (nF j) (Es yF j)))), (5, .int (nI (rcF (nF j) (kF j) (liveS (kF j) (nF j) (Es yF j)) (Es yF j) u))), (6, .int (nI i))]) hx hb (pc := 92) dX10_pace_92 hl (by decide) rfl (fun ls hl => ?_)
                refine lv_iinc (v := nI (i + 1)) (lv' := [(6, .int (nI (i + 1))), (4, .int (nI ((orN i (pmQ (nF j) (kF j) (liveS (kF j) (nF j) (Es yF j)) (Es yF j) u)) ||| 0))), (0, .ref om), (1, .int (nI j)), (2, .int (nI u)), (3, .int (nI (liveS (kF j) (nF j) (Es yF j)))), (5, .int (nI (rcF (nF j) (kF j) (liveS (kF j) (nF j) (Es yF j)) (Es yF j) u)))]) hx hb (pc := 94) dX10_pace_94 hl (k := 6) rfl (rr_inc _) (by decide) rfl (fun ls hl => ?_)
                refine lv_goto (tgt := 43) hx hb (pc := 97) dX10_pace_97 (by decide) ?_
                have hl : lv_has ls 13 [(6, .int (nI (i + 1))), (4, .int (nI (orN (i + 1) (pmQ (nF j) (kF j) (liveS (kF j) (nF j) (Es yF j)) (Es yF j) u)))), (0, .ref om), (1, .int (nI j)), (2, .int (nI u)), (3, .int (nI (liveS (kF j) (nF j) (Es yF j)))), (5, .int (nI (rcF (nF j) (kF j) (liveS (kF j) (nF j) (Es yF j)) (Es yF j) u)))] := by rw [show orN (i + 1) (pmQ (nF j) (kF j) (liveS (kF j) (nF j) (Es yF j)) (Es yF j) u) = (orN i (pmQ (nF j) (kF j) (liveS (kF j) (nF j) (Es yF j)) (Es yF j) u)) ||| 0 from by rw [orN_succ]; unfold pmQ; first | (rw [if_pos ⟨c64, c80⟩]; done) | (rw [if_neg (fun z => absurd (c64.symm.trans z.1) (by decide)), Nat.or_zero]; done) | (rw [if_neg (fun z => absurd (c64.symm.trans z.1) (by decide))]; done) | (rw [if_neg (fun z => absurd (c80.symm.trans z.2) (by decide)), Nat.or_zero]; done) | (rw [if_neg (fun z => absurd (c80.symm.trans z.2) (by decide))]; done)]; exact hl
                exact ih43 (i + 1) _ _ hP hD hS (by omega) (by omega) ls (lv_sub hl [2, 3, 4, 5, 1, 6, 0] rfl)
              · refine lv_iconst (v := nI 1) hx hb (pc := 83) dX10_pace_83 (by decide) ?_
                refine lv_iload hx hb (pc := 84) dX10_pace_84 (lv_at hl 6 rfl) ?_
                refine nv_ishl (a := 1) (b := i) hx hb (pc := 86) dX10_pace_86 (by omega) ?_
                refine lv_goto (tgt := 91) hx hb (pc := 87) dX10_pace_87 (by decide) ?_
                refine nv_ior (a := (orN i (pmQ (nF j) (kF j) (liveS (kF j) (nF j) (Es yF j)) (Es yF j) u))) (b := (1 <<< i)) hx hb (pc := 91) dX10_pace_91 ?_
                refine lv_istore (lv' := [(4, .int (nI ((orN i (pmQ (nF j) (kF j) (liveS (kF j) (nF j) (Es yF j)) (Es yF j) u)) ||| (1 <<< i)))), (0, .ref om), (1, .int (nI j)), (2, .int (nI u)), (3, .int (nI (liveS (kF j) (nF j) (Es yF j)))), (5, .int (nI (rcF (nF j) (kF j) (liveS (kF j) (nF j) (Es yF j)) (Es yF j) u))), (6, .int (nI i))]) hx hb (pc := 92) dX10_pace_92 hl (by decide) rfl (fun ls hl => ?_)
                refine lv_iinc (v := nI (i + 1)) (lv' := [(6, .int (nI (i + 1))), (4, .int (nI ((orN i (pmQ (nF j) (kF j) (liveS (kF j) (nF j) (Es yF j)) (Es yF j) u)) ||| (1 <<< i)))), (0, .ref om), (1, .int (nI j)), (2, .int (nI u)), (3, .int (nI (liveS (kF j) (nF j) (Es yF j)))), (5, .int (nI (rcF (nF j) (kF j) (liveS (kF j) (nF j) (Es yF j)) (Es yF j) u)))]) hx hb (pc := 94) dX10_pace_94 hl (k := 6) rfl (rr_inc _) (by decide) rfl (fun ls hl => ?_)
                refine lv_goto (tgt := 43) hx hb (pc := 97) dX10_pace_97 (by decide) ?_
                have hl : lv_has ls 13 [(6, .int (nI (i + 1))), (4, .int (nI (orN (i + 1) (pmQ (nF j) (kF j) (liveS (kF j) (nF j) (Es yF j)) (Es yF j) u)))), (0, .ref om), (1, .int (nI j)), (2, .int (nI u)), (3, .int (nI (liveS (kF j) (nF j) (Es yF j)))), (5, .int (nI (rcF (nF j) (kF j) (liveS (kF j) (nF j) (Es yF j)) (Es yF j) u)))] := by rw [show orN (i + 1) (pmQ (nF j) (kF j) (liveS (kF j) (nF j) (Es yF j)) (Es yF j) u) = (orN i (pmQ (nF j) (kF j) (liveS (kF j) (nF j) (Es yF j)) (Es yF j) u)) ||| (1 <<< i) from by rw [orN_succ]; unfold pmQ; first | (rw [if_pos ⟨c64, c80⟩]; done) | (rw [if_neg (fun z => absurd (c64.symm.trans z.1) (by decide)), Nat.or_zero]; done) | (rw [if_neg (fun z => absurd (c64.symm.trans z.1) (by decide))]; done) | (rw [if_neg (fun z => absurd (c80.symm.trans z.2) (by decide)), Nat.or_zero]; done) | (rw [if_neg (fun z => absurd (c80.symm.trans z.2) (by decide))]; done)]; exact hl
                exact ih43 (i + 1) _ _ hP hD hS (by omega) (by omega) ls (lv_sub hl [2, 3, 4, 5, 1, 6, 0] rfl)
      have hl : lv_has ls 13 [(6, .int (nI 0)), (5, .int (nI (rcF (nF j) (kF j) (liveS (kF j) (nF j) (Es yF j)) (Es yF j) u))), (4, .int (nI (orN 0 (pmQ (nF j) (kF j) (liveS (kF j) (nF j) (Es yF j)) (Es yF j) u)))), (3, .int (nI (liveS (kF j) (nF j) (Es yF j)))), (0, .ref om), (1, .int (nI j)), (2, .int (nI u))] := by rw [show orN 0 (pmQ (nF j) (kF j) (liveS (kF j) (nF j) (Es yF j)) (Es yF j) u) = 0 from rfl]; exact hl
      exact L43 (17) 0 _ _ hP hD hS (by omega) (Nat.zero_le _) ls (lv_sub hl [4, 5, 6, 3, 2, 1, 0] rfl)
    · refine lv_iconst (v := -1) hx hb (pc := 26) dX10_pace_26 (by decide) ?_
      exact hret.1 _ _ 0 0 27 _ (-1) dX10_pace_27 (by omega) (by omega) hS (⟨by unfold pacA; rw [if_pos c6, ecj, ecu, if_neg (by rw [c23]; decide)], _, hP⟩) (rfl)
  · refine lv_bipush (v := -2) hx hb (pc := 9) dX10_pace_9 (by decide) ?_
    exact hret.1 _ _ 0 0 11 _ (-2) dX10_pace_11 (by omega) (by omega) hS (⟨by unfold pacA; rw [if_neg (by rw [c6]; decide)], _, hP⟩) (rfl)

