abbrev rmX10_layWeights : Room := { frames := 3, cells := 0, slots := 0, locals := 73 }
theorem inX10_layWeights_10 : ∀ w ∈ wsX100, w ∈ wsX10_layWeights := fun _ h => List.mem_cons_of_mem _ (List.mem_append_right _ h)
set_option maxHeartbeats 4000000 in
set_option maxRecDepth 100000 in
theorem c_X10_layWeights (l : Launch) (K : rr_K) (A : Nat → Prop) (om : Nat) (ad : Nat → Nat) (ns wl nf wd mt : Nat) (kF nF yF WD FL FW TD RW pl nw xt vF wF qF bY gF : Nat → Nat) (nm xm : Nat → Int64) (fR oF hF dF : Nat → Int32) (j a b mm : Nat) (hS9 : SOK ns kF nF yF) (hj6 : j < ns) (ha1 : 1 ≤ a) (ha2 : a ≤ 8) (hb1 : 1 ≤ b) (hb2 : b ≤ 4) (hm1 : 1 ≤ mm) (hm2 : mm ≤ 100) (hD : va_D A (XM K om ad ns wl nf wd mt kF nF yF WD FL FW TD RW pl nw xt vF wF qF bY gF nm xm fR oF hF dF)) : MetV l K yX10_layWeights wsX10_layWeights rmX10_layWeights [.ref om, .int (nI j), .int (nI a), .int (nI b), .int (nI mm)] (fun H => va_P K.1 vwCl (XM K om ad ns wl nf wd mt kF nF yF WD FL FW TD RW pl nw xt vF wF qF bY gF nm xm fR oF hF dF) H) A (fun H => ∃ vF' wF' gF', (∀ i, i < nF j → gF' i = wgT (kF j) (nF j) (Es yF j) a b mm i) ∧ va_P K.1 vwCl (XM K om ad ns wl nf wd mt kF nF yF WD FL FW TD RW pl nw xt vF' wF' qF bY gF' nm xm fR oF hF dF) H) 0 0 := by
  refine metV_of (cc := cX10_layWeights) (maxL := 10) (by decide) rfl rfl rfl (Nat.le_of_ble_eq_true rfl) ?_
  intro p e s m args below meth c Q ls hEnt hin hKK hX hret hl
  obtain ⟨hx, hb, hml, hown, hts⟩ := hEnt
  have hP : va_P K.1 vwCl (XM K om ad ns wl nf wd mt kF nF yF WD FL FW TD RW pl nw xt vF wF qF bY gF nm xm fR oF hF dF) s.heap := hX
  have hl : lv_has ls 10 [(0, .ref om), (1, .int (nI j)), (2, .int (nI a)), (3, .int (nI b)), (4, .int (nI mm))] := hl
  have hS : va_S A s.heap s.heap [] := va_S.rf
  have hns := hS9.1
  obtain ⟨s1j, s2j, s3j, s4j, s5j⟩ := hS9.2 j hj6
  have hlv := liveS_lt16 (k := kF j) (E := Es yF j) s4j
  refine lv_aload_n hx hb (pc := 0) dX10_layWeights_0 rfl (lv_at hl 0 rfl) ?_
  refine lv_iload_n hx hb (pc := 1) dX10_layWeights_1 rfl (lv_at hl 1 rfl) ?_
  refine rr_callP (rv := .int (nI (liveS (kF j) (nF j) (Es yF j)))) (pc := 2) (va_runV (As := [.int (nI j)]) (rest := []) ⟨hx, hb, hml, hown, hts⟩ (c_X10_liveOf l K om ad ns wl nf wd mt kF nF yF WD FL FW TD RW pl nw xt vF wF qF bY gF nm xm fR oF hF dF j (by omega) s2j s4j s5j) (cwV 1 hts gX10_layWeights_X10_liveOf rfl rfl rfl (by decide +kernel) ⟨Nat.le_of_ble_eq_true rfl, Nat.le_of_ble_eq_true rfl⟩) (rr_preV hKK (hP) (va_recv hKK.1 hP (ci := 10) (q0 := 0) rfl rfl)) rfl rfl hl.1 rfl (lv_room (Nat.le_of_ble_eq_true rfl)) dX10_layWeights_2 ⟨Nat.le_refl _, Nat.le_refl _⟩) ?_
  refine lv_istore (lv' := [(5, .int (nI (liveS (kF j) (nF j) (Es yF j)))), (0, .ref om), (1, .int (nI j)), (2, .int (nI a)), (3, .int (nI b)), (4, .int (nI mm))]) hx hb (pc := 5) dX10_layWeights_5 hl (by decide) rfl (fun ls hl => ?_)
  refine lv_iconst (v := nI 0) hx hb (pc := 7) dX10_layWeights_7 (by decide) ?_
  refine lv_istore (lv' := [(6, .int (nI 0)), (5, .int (nI (liveS (kF j) (nF j) (Es yF j)))), (0, .ref om), (1, .int (nI j)), (2, .int (nI a)), (3, .int (nI b)), (4, .int (nI mm))]) hx hb (pc := 8) dX10_layWeights_8 hl (by decide) rfl (fun ls hl => ?_)
  have L10 : ∀ (fz : Nat) (q : Nat) (gF1 : Nat → Nat) (H : Heap) (locs : List Loc) (hP : va_P K.1 vwCl (XM K om ad ns wl nf wd mt kF nF yF WD FL FW TD RW pl nw xt vF wF qF bY gF1 nm xm fR oF hF dF) H) (hD : va_D A (XM K om ad ns wl nf wd mt kF nF yF WD FL FW TD RW pl nw xt vF wF qF bY gF1 nm xm fR oF hF dF)) (hS : va_S A s.heap H locs) (hfz : nF j - q < fz) (hq : q ≤ nF j) (hg1 : ∀ i, i < q → gF1 i = wgI (nF j) a (pwS (nF j) (aMy (liveS (kF j) (nF j) (Es yF j)) (Es yF j) (kF j)) (b - 1)) mm (liveS (kF j) (nF j) (Es yF j)) 0 i) (ls : Array Slot) (hl : lv_has ls 10 [(0, .ref om), (1, .int (nI j)), (2, .int (nI a)), (3, .int (nI b)), (4, .int (nI mm)), (5, .int (nI (liveS (kF j) (nF j) (Es yF j)))), (6, .int (nI q))]), W p l e rmX10_layWeights s m args below meth c H locs 0 0 Q (F0 m 10 ls []) := by
    intro fz; induction fz with
    | zero => intro q gF1 H locs hP hD hS hfz hq hg1 ls hl; exact absurd hfz (Nat.not_lt_zero _)
    | succ fz ih10 =>
      intro q gF1 H locs hP hD hS hfz hq hg1 ls hl
      refine lv_iload hx hb (pc := 10) dX10_layWeights_10 (lv_at hl 6 rfl) ?_
      refine lv_aload_n hx hb (pc := 12) dX10_layWeights_12 rfl (lv_at hl 0 rfl) ?_
      refine va_get (v := .ref (ad 2)) hx hb hts (inX10_layWeights_10) hown hKK.1 hP 0 rfl rfl 2 (by decide) (hts _ (List.mem_of_getElem? (i := 1) (by decide +kernel))) (fun _ h9 => h9) rfl (pc := 13) dX10_layWeights_13 ?_
      refine lv_iload_n hx hb (pc := 16) dX10_layWeights_16 rfl (lv_at hl 1 rfl) ?_
      refine nv_iald (v := nI (nF j)) (i := j) hx hb hKK hP 2 rfl (by omega) (by decide) (rfl) (pc := 17) dX10_layWeights_17 ?_
      refine nv_icmp_ge (a := q) (b := (nF j)) (tgt := 52) hx hb (pc := 18) dX10_layWeights_18 (by decide) (by omega) (by omega) (fun c18 => ?_) (fun c18 => ?_)
      · refine lv_iconst (v := nI 1) hx hb (pc := 52) dX10_layWeights_52 (by decide) ?_
        refine lv_istore (lv' := [(6, .int (nI 1)), (0, .ref om), (1, .int (nI j)), (2, .int (nI a)), (3, .int (nI b)), (4, .int (nI mm)), (5, .int (nI (liveS (kF j) (nF j) (Es yF j))))]) hx hb (pc := 53) dX10_layWeights_53 hl (by decide) rfl (fun ls hl => ?_)
        have L55 : ∀ (fz : Nat) (r : Nat) (ch : Bool) (vF1 : Nat → Nat) (wF1 : Nat → Nat) (gF2 : Nat → Nat) (H : Heap) (locs : List Loc) (hP : va_P K.1 vwCl (XM K om ad ns wl nf wd mt kF nF yF WD FL FW TD RW pl nw xt vF1 wF1 qF bY gF2 nm xm fR oF hF dF) H) (hD : va_D A (XM K om ad ns wl nf wd mt kF nF yF WD FL FW TD RW pl nw xt vF1 wF1 qF bY gF2 nm xm fR oF hF dF)) (hS : va_S A s.heap H locs) (hfz : sN (nF j) (wgI (nF j) a (pwS (nF j) (aMy (liveS (kF j) (nF j) (Es yF j)) (Es yF j) (kF j)) (b - 1)) mm (liveS (kF j) (nF j) (Es yF j)) r ) + ch.toNat < fz) (hg2 : ∀ i, i < nF j → gF2 i = wgI (nF j) a (pwS (nF j) (aMy (liveS (kF j) (nF j) (Es yF j)) (Es yF j) (kF j)) (b - 1)) mm (liveS (kF j) (nF j) (Es yF j)) r i) (hch : ch = false → wgS (nF j) a (pwS (nF j) (aMy (liveS (kF j) (nF j) (Es yF j)) (Es yF j) (kF j)) (b - 1)) (wgI (nF j) a (pwS (nF j) (aMy (liveS (kF j) (nF j) (Es yF j)) (Es yF j) (kF j)) (b - 1)) mm (liveS (kF j) (nF j) (Es yF j)) r ) = wgI (nF j) a (pwS (nF j) (aMy (liveS (kF j) (nF j) (Es yF j)) (Es yF j) (kF j)) (b - 1)) mm (liveS (kF j) (nF j) (Es yF j)) r ) (hms : r + sN (nF j) (wgI (nF j) a (pwS (nF j) (aMy (liveS (kF j) (nF j) (Es yF j)) (Es yF j) (kF j)) (b - 1)) mm (liveS (kF j) (nF j) (Es yF j)) r ) ≤ 16 * mm + (!ch).toNat) (ls : Array Slot) (hl : lv_has ls 10 [(0, .ref om), (1, .int (nI j)), (2, .int (nI a)), (3, .int (nI b)), (4, .int (nI mm)), (5, .int (nI (liveS (kF j) (nF j) (Es yF j)))), (6, .int (bI (ch)))]), W p l e rmX10_layWeights s m args below meth c H locs 0 0 Q (F0 m 55 ls []) := by
          intro fz; induction fz with
          | zero => intro r ch vF1 wF1 gF2 H locs hP hD hS hfz hg2 hch hms ls hl; exact absurd hfz (Nat.not_lt_zero _)
          | succ fz ih55 =>
            intro r ch vF1 wF1 gF2 H locs hP hD hS hfz hg2 hch hms ls hl
            have hfz5 := hfz
            refine lv_iload hx hb (pc := 55) dX10_layWeights_55 (lv_at hl 6 rfl) ?_
            refine nv_if_eq_b (a := ch) (tgt := 183) hx hb (pc := 57) dX10_layWeights_57 (by decide) (fun c57 => ?_) (fun c57 => ?_)
            · rw [c57] at hms
              have hms1 : r + sN (nF j) (wgI (nF j) a (pwS (nF j) (aMy (liveS (kF j) (nF j) (Es yF j)) (Es yF j) (kF j)) (b - 1)) mm (liveS (kF j) (nF j) (Es yF j)) r ) ≤ 16 * mm + 1 := hms
              exact hret _ _ 0 0 183 _ dX10_layWeights_183 (by omega) (by omega) hS (⟨_, _, _, fun i hi => by rw [hg2 i hi]; exact (congrFun (wgI_end (hch c57) (show r ≤ 16 * mm + 1 by omega)) i).symm, hP⟩)
            · refine lv_iconst (v := nI 0) hx hb (pc := 60) dX10_layWeights_60 (by decide) ?_
              refine lv_istore (lv' := [(7, .int (nI 0)), (0, .ref om), (1, .int (nI j)), (2, .int (nI a)), (3, .int (nI b)), (4, .int (nI mm)), (5, .int (nI (liveS (kF j) (nF j) (Es yF j)))), (6, .int (bI (ch)))]) hx hb (pc := 61) dX10_layWeights_61 hl (by decide) rfl (fun ls hl => ?_)
              have L63 : ∀ (fz : Nat) (q2 : Nat) (H : Heap) (locs : List Loc) (hP : va_P K.1 vwCl (XM K om ad ns wl nf wd mt kF nF yF WD FL FW TD RW pl nw xt (putZ vF1 gF2 q2) wF1 qF bY gF2 nm xm fR oF hF dF) H) (hD : va_D A (XM K om ad ns wl nf wd mt kF nF yF WD FL FW TD RW pl nw xt (putZ vF1 gF2 q2) wF1 qF bY gF2 nm xm fR oF hF dF)) (hS : va_S A s.heap H locs) (hfz : nF j - q2 < fz) (hq2 : q2 ≤ nF j) (ls : Array Slot) (hl : lv_has ls 10 [(0, .ref om), (1, .int (nI j)), (2, .int (nI a)), (3, .int (nI b)), (4, .int (nI mm)), (5, .int (nI (liveS (kF j) (nF j) (Es yF j)))), (7, .int (nI q2))]), W p l e rmX10_layWeights s m args below meth c H locs 0 0 Q (F0 m 63 ls []) := by
                intro fz; induction fz with
                | zero => intro q2 H locs hP hD hS hfz hq2 ls hl; exact absurd hfz (Nat.not_lt_zero _)
                | succ fz ih63 =>
                  intro q2 H locs hP hD hS hfz hq2 ls hl
                  refine lv_iload hx hb (pc := 63) dX10_layWeights_63 (lv_at hl 6 rfl) ?_
                  refine lv_aload_n hx hb (pc := 65) dX10_layWeights_65 rfl (lv_at hl 0 rfl) ?_
                  refine va_get (v := .ref (ad 2)) hx hb hts (inX10_layWeights_10) hown hKK.1 hP 0 rfl rfl 2 (by decide) (hts _ (List.mem_of_getElem? (i := 1) (by decide +kernel))) (fun _ h9 => h9) rfl (pc := 66) dX10_layWeights_66 ?_
                  refine lv_iload_n hx hb (pc := 69) dX10_layWeights_69 rfl (lv_at hl 1 rfl) ?_
                  refine nv_iald (v := nI (nF j)) (i := j) hx hb hKK hP 2 rfl (by omega) (by decide) (rfl) (pc := 70) dX10_layWeights_70 ?_
                  refine nv_icmp_ge (a := q2) (b := (nF j)) (tgt := 94) hx hb (pc := 71) dX10_layWeights_71 (by decide) (by omega) (by omega) (fun c71 => ?_) (fun c71 => ?_)
                  · refine lv_iconst (v := nI 0) hx hb (pc := 94) dX10_layWeights_94 (by decide) ?_
                    refine lv_istore (lv' := [(7, .int (nI 0)), (0, .ref om), (1, .int (nI j)), (2, .int (nI a)), (3, .int (nI b)), (4, .int (nI mm)), (5, .int (nI (liveS (kF j) (nF j) (Es yF j))))]) hx hb (pc := 95) dX10_layWeights_95 hl (by decide) rfl (fun ls hl => ?_)
                    have L97 : ∀ (fz : Nat) (t : Nat) (vF3 : Nat → Nat) (wF3 : Nat → Nat) (H : Heap) (locs : List Loc) (hP : va_P K.1 vwCl (XM K om ad ns wl nf wd mt kF nF yF WD FL FW TD RW pl nw xt vF3 wF3 qF bY gF2 nm xm fR oF hF dF) H) (hD : va_D A (XM K om ad ns wl nf wd mt kF nF yF WD FL FW TD RW pl nw xt vF3 wF3 qF bY gF2 nm xm fR oF hF dF)) (hS : va_S A s.heap H locs) (hfz : b - t < fz) (ht : t ≤ b) (hv3 : ∀ i, i < nF j → vF3 i = wV (nF j) (aMy (liveS (kF j) (nF j) (Es yF j)) (Es yF j) (kF j)) (wgI (nF j) a (pwS (nF j) (aMy (liveS (kF j) (nF j) (Es yF j)) (Es yF j) (kF j)) (b - 1)) mm (liveS (kF j) (nF j) (Es yF j)) r ) t i) (ls : Array Slot) (hl : lv_has ls 10 [(0, .ref om), (1, .int (nI j)), (2, .int (nI a)), (3, .int (nI b)), (4, .int (nI mm)), (5, .int (nI (liveS (kF j) (nF j) (Es yF j)))), (7, .int (nI t))]), W p l e rmX10_layWeights s m args below meth c H locs 0 0 Q (F0 m 97 ls []) := by
                      intro fz; induction fz with
                      | zero => intro t vF3 wF3 H locs hP hD hS hfz ht hv3 ls hl; exact absurd hfz (Nat.not_lt_zero _)
                      | succ fz ih97 =>
                        intro t vF3 wF3 H locs hP hD hS hfz ht hv3 ls hl
                        refine lv_iload hx hb (pc := 97) dX10_layWeights_97 (lv_at hl 6 rfl) ?_
                        refine lv_iload_n hx hb (pc := 99) dX10_layWeights_99 rfl (lv_at hl 3 rfl) ?_
                        refine nv_icmp_ge (a := t) (b := b) (tgt := 121) hx hb (pc := 100) dX10_layWeights_100 (by decide) (by omega) (by omega) (fun c100 => ?_) (fun c100 => ?_)
                        · have e9 : t = b := by omega
                          have hv4 : ∀ i, i < nF j → vF3 i = sN (nF j) (fun o => (pwS (nF j) (aMy (liveS (kF j) (nF j) (Es yF j)) (Es yF j) (kF j)) (b - 1)) i o * wgI (nF j) a (pwS (nF j) (aMy (liveS (kF j) (nF j) (Es yF j)) (Es yF j) (kF j)) (b - 1)) mm (liveS (kF j) (nF j) (Es yF j)) r o) := fun i hi => by
                            rw [hv3 i hi, e9, show b = b - 1 + 1 by omega, wV_pw, Nat.add_sub_cancel]
                          have hsum : ∀ i, sN (nF j) (fun o => (pwS (nF j) (aMy (liveS (kF j) (nF j) (Es yF j)) (Es yF j) (kF j)) (b - 1)) i o * wgI (nF j) a (pwS (nF j) (aMy (liveS (kF j) (nF j) (Es yF j)) (Es yF j) (kF j)) (b - 1)) mm (liveS (kF j) (nF j) (Es yF j)) r o) < 2 ^ 62 := fun i => wg_sum s4j (show b - 1 ≤ 3 by omega) hm2 (fun x y => pwS_le s4j (aMy4 s2j) (b - 1) x y) (fun t => wgI_le r t) i
                          refine lv_iconst (v := nI 0) hx hb (pc := 121) dX10_layWeights_121 (by decide) ?_
                          refine lv_istore (lv' := [(6, .int (nI 0)), (0, .ref om), (1, .int (nI j)), (2, .int (nI a)), (3, .int (nI b)), (4, .int (nI mm)), (5, .int (nI (liveS (kF j) (nF j) (Es yF j)))), (7, .int (nI t))]) hx hb (pc := 122) dX10_layWeights_122 hl (by decide) rfl (fun ls hl => ?_)
                          refine lv_iconst (v := nI 0) hx hb (pc := 124) dX10_layWeights_124 (by decide) ?_
                          refine lv_istore (lv' := [(7, .int (nI 0)), (6, .int (nI 0)), (0, .ref om), (1, .int (nI j)), (2, .int (nI a)), (3, .int (nI b)), (4, .int (nI mm)), (5, .int (nI (liveS (kF j) (nF j) (Es yF j))))]) hx hb (pc := 125) dX10_layWeights_125 hl (by decide) rfl (fun ls hl => ?_)
                          have L127 : ∀ (fz : Nat) (i : Nat) (ch2 : Bool) (gF3 : Nat → Nat) (H : Heap) (locs : List Loc) (hP : va_P K.1 vwCl (XM K om ad ns wl nf wd mt kF nF yF WD FL FW TD RW pl nw xt vF3 wF3 qF bY gF3 nm xm fR oF hF dF) H) (hD : va_D A (XM K om ad ns wl nf wd mt kF nF yF WD FL FW TD RW pl nw xt vF3 wF3 qF bY gF3 nm xm fR oF hF dF)) (hS : va_S A s.heap H locs) (hfz : nF j - i < fz) (hi : i ≤ nF j) (hg3 : ∀ q, q < i → gF3 q = wgI (nF j) a (pwS (nF j) (aMy (liveS (kF j) (nF j) (Es yF j)) (Es yF j) (kF j)) (b - 1)) mm (liveS (kF j) (nF j) (Es yF j)) (r + 1) q) (hg4 : ∀ q, i ≤ q → q < nF j → gF3 q = wgI (nF j) a (pwS (nF j) (aMy (liveS (kF j) (nF j) (Es yF j)) (Es yF j) (kF j)) (b - 1)) mm (liveS (kF j) (nF j) (Es yF j)) r q) (hcf : ch2 = false → ∀ q, q < i → wgI (nF j) a (pwS (nF j) (aMy (liveS (kF j) (nF j) (Es yF j)) (Es yF j) (kF j)) (b - 1)) mm (liveS (kF j) (nF j) (Es yF j)) (r + 1) q = wgI (nF j) a (pwS (nF j) (aMy (liveS (kF j) (nF j) (Es yF j)) (Es yF j) (kF j)) (b - 1)) mm (liveS (kF j) (nF j) (Es yF j)) r q) (hct : ch2 = true → ∃ q, q < i ∧ wgI (nF j) a (pwS (nF j) (aMy (liveS (kF j) (nF j) (Es yF j)) (Es yF j) (kF j)) (b - 1)) mm (liveS (kF j) (nF j) (Es yF j)) (r + 1) q < wgI (nF j) a (pwS (nF j) (aMy (liveS (kF j) (nF j) (Es yF j)) (Es yF j) (kF j)) (b - 1)) mm (liveS (kF j) (nF j) (Es yF j)) r q) (ls : Array Slot) (hl : lv_has ls 10 [(0, .ref om), (1, .int (nI j)), (2, .int (nI a)), (3, .int (nI b)), (4, .int (nI mm)), (5, .int (nI (liveS (kF j) (nF j) (Es yF j)))), (6, .int (bI (ch2))), (7, .int (nI i))]), W p l e rmX10_layWeights s m args below meth c H locs 0 0 Q (F0 m 127 ls []) := by
                            intro fz; induction fz with
                            | zero => intro i ch2 gF3 H locs hP hD hS hfz hi hg3 hg4 hcf hct ls hl; exact absurd hfz (Nat.not_lt_zero _)
                            | succ fz ih127 =>
                              intro i ch2 gF3 H locs hP hD hS hfz hi hg3 hg4 hcf hct ls hl
                              refine lv_iload hx hb (pc := 127) dX10_layWeights_127 (lv_at hl 7 rfl) ?_
                              refine lv_aload_n hx hb (pc := 129) dX10_layWeights_129 rfl (lv_at hl 0 rfl) ?_
                              refine va_get (v := .ref (ad 2)) hx hb hts (inX10_layWeights_10) hown hKK.1 hP 0 rfl rfl 2 (by decide) (hts _ (List.mem_of_getElem? (i := 1) (by decide +kernel))) (fun _ h9 => h9) rfl (pc := 130) dX10_layWeights_130 ?_
                              refine lv_iload_n hx hb (pc := 133) dX10_layWeights_133 rfl (lv_at hl 1 rfl) ?_
                              refine nv_iald (v := nI (nF j)) (i := j) hx hb hKK hP 2 rfl (by omega) (by decide) (rfl) (pc := 134) dX10_layWeights_134 ?_
                              refine nv_icmp_ge (a := i) (b := (nF j)) (tgt := 180) hx hb (pc := 135) dX10_layWeights_135 (by decide) (by omega) (by omega) (fun c135 => ?_) (fun c135 => ?_)
                              · refine lv_goto (tgt := 55) hx hb (pc := 180) dX10_layWeights_180 (by decide) ?_
                                have e8 : i = nF j := by omega
                                have hle9 : sN (nF j) (wgI (nF j) a (pwS (nF j) (aMy (liveS (kF j) (nF j) (Es yF j)) (Es yF j) (kF j)) (b - 1)) mm (liveS (kF j) (nF j) (Es yF j)) (r + 1) ) ≤ sN (nF j) (wgI (nF j) a (pwS (nF j) (aMy (liveS (kF j) (nF j) (Es yF j)) (Es yF j) (kF j)) (b - 1)) mm (liveS (kF j) (nF j) (Es yF j)) r ) := sN_mono (fun i _ => wgI_down i)
                                have hms2 : ch2 = true → sN (nF j) (wgI (nF j) a (pwS (nF j) (aMy (liveS (kF j) (nF j) (Es yF j)) (Es yF j) (kF j)) (b - 1)) mm (liveS (kF j) (nF j) (Es yF j)) (r + 1) ) + 1 ≤ sN (nF j) (wgI (nF j) a (pwS (nF j) (aMy (liveS (kF j) (nF j) (Es yF j)) (Es yF j) (kF j)) (b - 1)) mm (liveS (kF j) (nF j) (Es yF j)) r ) := fun h => by
                                  obtain ⟨z, hz1, hz2⟩ := hct h
                                  exact sN_lt z (by omega) (fun i _ => wgI_down i) hz2
                                rw [c57] at hfz5 hms
                                have hfz1 := hfz5
                                rw [show true.toNat = 1 from rfl] at hfz1
                                have hms1 : r + sN (nF j) (wgI (nF j) a (pwS (nF j) (aMy (liveS (kF j) (nF j) (Es yF j)) (Es yF j) (kF j)) (b - 1)) mm (liveS (kF j) (nF j) (Es yF j)) r ) ≤ 16 * mm + 0 := hms
                                exact ih55 (r + 1) ch2 vF3 wF3 gF3 _ _ hP hD hS (by cases ch2 with | true => have := hms2 rfl; show _ + 1 < _; omega | false => show _ + 0 < _; omega) (fun i hi => hg3 i (by omega)) (fun h => wgI_fix (fun q hq => hcf h q (by omega))) (by cases ch2 with | true => have := hms2 rfl; show _ ≤ 16 * mm + 0; omega | false => show _ ≤ 16 * mm + 1; omega) ls (lv_sub hl [0, 1, 2, 3, 4, 5, 6] rfl)
                              · refine lv_aload_n hx hb (pc := 138) dX10_layWeights_138 rfl (lv_at hl 0 rfl) ?_
                                refine va_get (v := .ref (ad 17)) hx hb hts (inX10_layWeights_10) hown hKK.1 hP 0 rfl rfl 17 (by decide) (hts _ (List.mem_of_getElem? (i := 3) (by decide +kernel))) (fun _ h9 => h9) rfl (pc := 139) dX10_layWeights_139 ?_
                                refine lv_iload hx hb (pc := 142) dX10_layWeights_142 (lv_at hl 7 rfl) ?_
                                refine nv_lald (v := lN (sN (nF j) (fun o => (pwS (nF j) (aMy (liveS (kF j) (nF j) (Es yF j)) (Es yF j) (kF j)) (b - 1)) i o * wgI (nF j) a (pwS (nF j) (aMy (liveS (kF j) (nF j) (Es yF j)) (Es yF j) (kF j)) (b - 1)) mm (liveS (kF j) (nF j) (Es yF j)) r o))) (i := i) hx hb hKK hP 14 rfl (by omega) (by decide) (congrArg lN (hv4 i (by omega))) (pc := 144) dX10_layWeights_144 ?_
                                refine lv_iload_n hx hb (pc := 145) dX10_layWeights_145 rfl (lv_at hl 2 rfl) ?_
                                refine lv_lshr (v := lN (sN (nF j) (fun o => (pwS (nF j) (aMy (liveS (kF j) (nF j) (Es yF j)) (Es yF j) (kF j)) (b - 1)) i o * wgI (nF j) a (pwS (nF j) (aMy (liveS (kF j) (nF j) (Es yF j)) (Es yF j) (kF j)) (b - 1)) mm (liveS (kF j) (nF j) (Es yF j)) r o) >>> a)) hx hb (pc := 146) dX10_layWeights_146 (rr_lshr (hsum i) (by omega)) ?_
                                refine lv_lstore (lv' := [(8, .long (lN (sN (nF j) (fun o => (pwS (nF j) (aMy (liveS (kF j) (nF j) (Es yF j)) (Es yF j) (kF j)) (b - 1)) i o * wgI (nF j) a (pwS (nF j) (aMy (liveS (kF j) (nF j) (Es yF j)) (Es yF j) (kF j)) (b - 1)) mm (liveS (kF j) (nF j) (Es yF j)) r o) >>> a))), (0, .ref om), (1, .int (nI j)), (2, .int (nI a)), (3, .int (nI b)), (4, .int (nI mm)), (5, .int (nI (liveS (kF j) (nF j) (Es yF j)))), (6, .int (bI (ch2))), (7, .int (nI i))]) hx hb (pc := 147) dX10_layWeights_147 hl (by decide) rfl (fun ls hl => ?_)
                                refine lv_lload hx hb (pc := 149) dX10_layWeights_149 (lv_at hl 0 rfl) ?_
                                refine lv_aload_n hx hb (pc := 151) dX10_layWeights_151 rfl (lv_at hl 1 rfl) ?_
                                refine va_get (v := .ref (ad 26)) hx hb hts (inX10_layWeights_10) hown hKK.1 hP 0 rfl rfl 26 (by decide) (hts _ (List.mem_of_getElem? (i := 2) (by decide +kernel))) (fun _ h9 => h9) rfl (pc := 152) dX10_layWeights_152 ?_
                                refine lv_iload hx hb (pc := 155) dX10_layWeights_155 (lv_at hl 8 rfl) ?_
                                refine nv_lald (v := lN (wgI (nF j) a (pwS (nF j) (aMy (liveS (kF j) (nF j) (Es yF j)) (Es yF j) (kF j)) (b - 1)) mm (liveS (kF j) (nF j) (Es yF j)) r i)) (i := i) hx hb hKK hP 22 rfl (by omega) (by decide) (congrArg lN (hg4 i (Nat.le_refl _) (by omega))) (pc := 157) dX10_layWeights_157 ?_
                                have hsh9 : (sN (nF j) (fun o => (pwS (nF j) (aMy (liveS (kF j) (nF j) (Es yF j)) (Es yF j) (kF j)) (b - 1)) i o * wgI (nF j) a (pwS (nF j) (aMy (liveS (kF j) (nF j) (Es yF j)) (Es yF j) (kF j)) (b - 1)) mm (liveS (kF j) (nF j) (Es yF j)) r o)) >>> a ≤ sN (nF j) (fun o => (pwS (nF j) (aMy (liveS (kF j) (nF j) (Es yF j)) (Es yF j) (kF j)) (b - 1)) i o * wgI (nF j) a (pwS (nF j) (aMy (liveS (kF j) (nF j) (Es yF j)) (Es yF j) (kF j)) (b - 1)) mm (liveS (kF j) (nF j) (Es yF j)) r o) := shr_le _ _
                                have hsm9 := hsum i
                                have hwl9 := wgI_le (n := nF j) (p := a) (P := (pwS (nF j) (aMy (liveS (kF j) (nF j) (Es yF j)) (Es yF j) (kF j)) (b - 1))) (L := mm) (al := (liveS (kF j) (nF j) (Es yF j))) r i
                                have hmn9 := wgI_lt (n := nF j) (p := a) (P := (pwS (nF j) (aMy (liveS (kF j) (nF j) (Es yF j)) (Es yF j) (kF j)) (b - 1))) (L := mm) (al := (liveS (kF j) (nF j) (Es yF j))) (r := r) (q := i) (by omega)
                                refine nv_lcmp_ge (a := (sN (nF j) (fun o => (pwS (nF j) (aMy (liveS (kF j) (nF j) (Es yF j)) (Es yF j) (kF j)) (b - 1)) i o * wgI (nF j) a (pwS (nF j) (aMy (liveS (kF j) (nF j) (Es yF j)) (Es yF j) (kF j)) (b - 1)) mm (liveS (kF j) (nF j) (Es yF j)) r o) >>> a)) (b := (wgI (nF j) a (pwS (nF j) (aMy (liveS (kF j) (nF j) (Es yF j)) (Es yF j) (kF j)) (b - 1)) mm (liveS (kF j) (nF j) (Es yF j)) r i)) (tgt := 174) hx hb (pc := 158) dX10_layWeights_158 dX10_layWeights_159 (by decide) (by omega) (by omega) (fun c158 => ?_) (fun c158 => ?_)
                                · rw [Nat.min_eq_left (by omega)] at hmn9
                                  have hgA : ∀ q, q < i + 1 → gF3 q = wgI (nF j) a (pwS (nF j) (aMy (liveS (kF j) (nF j) (Es yF j)) (Es yF j) (kF j)) (b - 1)) mm (liveS (kF j) (nF j) (Es yF j)) (r + 1) q := fun q hq => by
                                    rcases Nat.lt_or_ge q i with z | z
                                    · exact hg3 q z
                                    · obtain rfl : q = i := by omega
                                      rw [hmn9]; exact hg4 q (Nat.le_refl _) (by omega)
                                  have hcA : ch2 = false → ∀ q, q < i + 1 → wgI (nF j) a (pwS (nF j) (aMy (liveS (kF j) (nF j) (Es yF j)) (Es yF j) (kF j)) (b - 1)) mm (liveS (kF j) (nF j) (Es yF j)) (r + 1) q = wgI (nF j) a (pwS (nF j) (aMy (liveS (kF j) (nF j) (Es yF j)) (Es yF j) (kF j)) (b - 1)) mm (liveS (kF j) (nF j) (Es yF j)) r q := fun h q hq => by
                                    rcases Nat.lt_or_ge q i with z | z
                                    · exact hcf h q z
                                    · obtain rfl : q = i := by omega
                                      exact hmn9
                                  refine lv_iinc (v := nI (i + 1)) (lv' := [(7, .int (nI (i + 1))), (8, .long (lN (sN (nF j) (fun o => (pwS (nF j) (aMy (liveS (kF j) (nF j) (Es yF j)) (Es yF j) (kF j)) (b - 1)) i o * wgI (nF j) a (pwS (nF j) (aMy (liveS (kF j) (nF j) (Es yF j)) (Es yF j) (kF j)) (b - 1)) mm (liveS (kF j) (nF j) (Es yF j)) r o) >>> a))), (0, .ref om), (1, .int (nI j)), (2, .int (nI a)), (3, .int (nI b)), (4, .int (nI mm)), (5, .int (nI (liveS (kF j) (nF j) (Es yF j)))), (6, .int (bI (ch2)))]) hx hb (pc := 174) dX10_layWeights_174 hl (k := 8) rfl (rr_inc _) (by decide) rfl (fun ls hl => ?_)
                                  refine lv_goto (tgt := 127) hx hb (pc := 177) dX10_layWeights_177 (by decide) ?_
                                  exact ih127 (i + 1) ch2 gF3 _ _ hP hD hS (by omega) (by omega) (by first | exact hgA | exact hgB) (by first | exact fun q h1 h2 => hg4 q (by omega) h2 | exact hgC) (by first | (intro h; cases h; done) | exact hcA) (by first | exact fun _ => ⟨i, Nat.lt_succ_self _, hlt9⟩ | exact fun h => (hct h).elim (fun q hq => ⟨q, by omega, hq.2⟩)) ls (lv_sub hl [2, 3, 4, 5, 6, 7, 8, 0] rfl)
                                · rw [Nat.min_eq_right (by omega)] at hmn9
                                  have hlt9 : wgI (nF j) a (pwS (nF j) (aMy (liveS (kF j) (nF j) (Es yF j)) (Es yF j) (kF j)) (b - 1)) mm (liveS (kF j) (nF j) (Es yF j)) (r + 1) i < wgI (nF j) a (pwS (nF j) (aMy (liveS (kF j) (nF j) (Es yF j)) (Es yF j) (kF j)) (b - 1)) mm (liveS (kF j) (nF j) (Es yF j)) r i := by omega
                                  refine lv_aload_n hx hb (pc := 162) dX10_layWeights_162 rfl (lv_at hl 1 rfl) ?_
                                  refine va_get (v := .ref (ad 26)) hx hb hts (inX10_layWeights_10) hown hKK.1 hP 0 rfl rfl 26 (by decide) (hts _ (List.mem_of_getElem? (i := 2) (by decide +kernel))) (fun _ h9 => h9) rfl (pc := 163) dX10_layWeights_163 ?_
                                  refine lv_iload hx hb (pc := 166) dX10_layWeights_166 (lv_at hl 8 rfl) ?_
                                  refine lv_lload hx hb (pc := 168) dX10_layWeights_168 (lv_at hl 0 rfl) ?_
                                  refine nv_lastN (f := gF3) (x := (sN (nF j) (fun o => (pwS (nF j) (aMy (liveS (kF j) (nF j) (Es yF j)) (Es yF j) (kF j)) (b - 1)) i o * wgI (nF j) a (pwS (nF j) (aMy (liveS (kF j) (nF j) (Es yF j)) (Es yF j) (kF j)) (b - 1)) mm (liveS (kF j) (nF j) (Es yF j)) r o) >>> a)) (ws' := XM K om ad ns wl nf wd mt kF nF yF WD FL FW TD RW pl nw xt vF3 wF3 qF bY (va_up gF3 i (sN (nF j) (fun o => (pwS (nF j) (aMy (liveS (kF j) (nF j) (Es yF j)) (Es yF j) (kF j)) (b - 1)) i o * wgI (nF j) a (pwS (nF j) (aMy (liveS (kF j) (nF j) (Es yF j)) (Es yF j) (kF j)) (b - 1)) mm (liveS (kF j) (nF j) (Es yF j)) r o) >>> a)) nm xm fR oF hF dF) (i := i) hx hb hKK hP hD hS 22 rfl (by omega) (by decide) (rfl) (pc := 170) dX10_layWeights_170 (fun H locs hP hD hS => ?_)
                                  have hgB : ∀ q, q < i + 1 → va_up gF3 i ((sN (nF j) (fun o => (pwS (nF j) (aMy (liveS (kF j) (nF j) (Es yF j)) (Es yF j) (kF j)) (b - 1)) i o * wgI (nF j) a (pwS (nF j) (aMy (liveS (kF j) (nF j) (Es yF j)) (Es yF j) (kF j)) (b - 1)) mm (liveS (kF j) (nF j) (Es yF j)) r o)) >>> a) q = wgI (nF j) a (pwS (nF j) (aMy (liveS (kF j) (nF j) (Es yF j)) (Es yF j) (kF j)) (b - 1)) mm (liveS (kF j) (nF j) (Es yF j)) (r + 1) q := fun q hq => by
                                    unfold va_up
                                    split
                                    · rename_i e; rw [e, hmn9]
                                    · exact hg3 q (by omega)
                                  have hgC : ∀ q, i + 1 ≤ q → q < nF j → va_up gF3 i ((sN (nF j) (fun o => (pwS (nF j) (aMy (liveS (kF j) (nF j) (Es yF j)) (Es yF j) (kF j)) (b - 1)) i o * wgI (nF j) a (pwS (nF j) (aMy (liveS (kF j) (nF j) (Es yF j)) (Es yF j) (kF j)) (b - 1)) mm (liveS (kF j) (nF j) (Es yF j)) r o)) >>> a) q = wgI (nF j) a (pwS (nF j) (aMy (liveS (kF j) (nF j) (Es yF j)) (Es yF j) (kF j)) (b - 1)) mm (liveS (kF j) (nF j) (Es yF j)) r q := fun q h1 h2 => by
                                    unfold va_up
                                    rw [if_neg (by omega)]
                                    exact hg4 q (by omega) h2
                                  refine lv_iconst (v := nI 1) hx hb (pc := 171) dX10_layWeights_171 (by decide) ?_
                                  refine lv_istore (lv' := [(6, .int (nI 1)), (8, .long (lN (sN (nF j) (fun o => (pwS (nF j) (aMy (liveS (kF j) (nF j) (Es yF j)) (Es yF j) (kF j)) (b - 1)) i o * wgI (nF j) a (pwS (nF j) (aMy (liveS (kF j) (nF j) (Es yF j)) (Es yF j) (kF j)) (b - 1)) mm (liveS (kF j) (nF j) (Es yF j)) r o) >>> a))), (0, .ref om), (1, .int (nI j)), (2, .int (nI a)), (3, .int (nI b)), (4, .int (nI mm)), (5, .int (nI (liveS (kF j) (nF j) (Es yF j)))), (7, .int (nI i))]) hx hb (pc := 172) dX10_layWeights_172 hl (by decide) rfl (fun ls hl => ?_)
                                  refine lv_iinc (v := nI (i + 1)) (lv' := [(7, .int (nI (i + 1))), (6, .int (nI 1)), (8, .long (lN (sN (nF j) (fun o => (pwS (nF j) (aMy (liveS (kF j) (nF j) (Es yF j)) (Es yF j) (kF j)) (b - 1)) i o * wgI (nF j) a (pwS (nF j) (aMy (liveS (kF j) (nF j) (Es yF j)) (Es yF j) (kF j)) (b - 1)) mm (liveS (kF j) (nF j) (Es yF j)) r o) >>> a))), (0, .ref om), (1, .int (nI j)), (2, .int (nI a)), (3, .int (nI b)), (4, .int (nI mm)), (5, .int (nI (liveS (kF j) (nF j) (Es yF j))))]) hx hb (pc := 174) dX10_layWeights_174 hl (k := 8) rfl (rr_inc _) (by decide) rfl (fun ls hl => ?_)
                                  refine lv_goto (tgt := 127) hx hb (pc := 177) dX10_layWeights_177 (by decide) ?_
                                  exact ih127 (i + 1) true (va_up gF3 i (sN (nF j) (fun o => (pwS (nF j) (aMy (liveS (kF j) (nF j) (Es yF j)) (Es yF j) (kF j)) (b - 1)) i o * wgI (nF j) a (pwS (nF j) (aMy (liveS (kF j) (nF j) (Es yF j)) (Es yF j) (kF j)) (b - 1)) mm (liveS (kF j) (nF j) (Es yF j)) r o) >>> a)) _ _ hP hD hS (by omega) (by omega) (by first | exact hgA | exact hgB) (by first | exact fun q h1 h2 => hg4 q (by omega) h2 | exact hgC) (by first | (intro h; cases h; done) | exact hcA) (by first | exact fun _ => ⟨i, Nat.lt_succ_self _, hlt9⟩ | exact fun h => (hct h).elim (fun q hq => ⟨q, by omega, hq.2⟩)) ls (lv_sub hl [3, 4, 5, 6, 7, 8, 1, 0] rfl)
                          exact L127 (17) 0 false gF2 _ _ hP hD hS (by omega) (Nat.zero_le _) (fun q hq => absurd hq (Nat.not_lt_zero _)) (fun q _ hq => hg2 q hq) (fun _ q hq => absurd hq (Nat.not_lt_zero _)) (fun h => by cases h) ls (lv_sub hl [2, 3, 4, 5, 6, 7, 1, 0] rfl)
                        · refine lv_aload_n hx hb (pc := 103) dX10_layWeights_103 rfl (lv_at hl 0 rfl) ?_
                          refine lv_iload_n hx hb (pc := 104) dX10_layWeights_104 rfl (lv_at hl 1 rfl) ?_
                          refine lv_iload hx hb (pc := 105) dX10_layWeights_105 (lv_at hl 5 rfl) ?_
                          refine rr_callV (pc := 107) (va_runV (As := [.int (nI j), .int (nI (liveS (kF j) (nF j) (Es yF j)))]) (rest := []) ⟨hx, hb, hml, hown, hts⟩ (c_X10_sumUp l K A om ad ns wl nf wd mt kF nF yF WD FL FW TD RW pl nw xt vF3 wF3 qF bY gF2 nm xm fR oF hF dF j (liveS (kF j) (nF j) (Es yF j)) (by omega) s2j s4j s5j hlv hD) (cwV 2 hts gX10_layWeights_X10_sumUp rfl rfl rfl (by decide +kernel) ⟨Nat.le_of_ble_eq_true rfl, Nat.le_of_ble_eq_true rfl⟩) (rr_preV hKK (hP) (va_recv hKK.1 hP (ci := 10) (q0 := 0) rfl rfl)) rfl rfl hl.1 rfl (lv_room (Nat.le_of_ble_eq_true rfl)) dX10_layWeights_107 ⟨by omega, by omega⟩) hS (fun _ h => h) (fun H locs hY hsz hfr hS => ?_)
                          obtain ⟨wF', hw', hP⟩ := hY
                          have hD : va_D A (XM K om ad ns wl nf wd mt kF nF yF WD FL FW TD RW pl nw xt vF3 wF' qF bY gF2 nm xm fR oF hF dF) := rr_D hD rfl
                          have hP : va_P K.1 vwCl (XM K om ad ns wl nf wd mt kF nF yF WD FL FW TD RW pl nw xt vF3 wF' qF bY gF2 nm xm fR oF hF dF) H := hP
                          refine lv_aload_n hx hb (pc := 110) dX10_layWeights_110 rfl (lv_at hl 0 rfl) ?_
                          refine lv_iload_n hx hb (pc := 111) dX10_layWeights_111 rfl (lv_at hl 1 rfl) ?_
                          refine rr_callV (pc := 112) (va_runV (As := [.int (nI j)]) (rest := []) ⟨hx, hb, hml, hown, hts⟩ (c_X10_goOn l K A om ad ns wl nf wd mt kF nF yF WD FL FW TD RW pl nw xt vF3 wF' qF bY gF2 nm xm fR oF hF dF j (by omega) s4j hD) (cwV 1 hts gX10_layWeights_X10_goOn rfl rfl rfl (by decide +kernel) ⟨Nat.le_of_ble_eq_true rfl, Nat.le_of_ble_eq_true rfl⟩) (rr_preV hKK (hP) (va_recv hKK.1 hP (ci := 10) (q0 := 0) rfl rfl)) rfl rfl hl.1 rfl (lv_room (Nat.le_of_ble_eq_true rfl)) dX10_layWeights_112 ⟨by omega, by omega⟩) hS (fun _ h => h) (fun H locs hY hsz hfr hS => ?_)
                          have hP := hY
                          have hD : va_D A (XM K om ad ns wl nf wd mt kF nF yF WD FL FW TD RW pl nw xt (putZ vF3 wF' (nF j)) wF' qF bY gF2 nm xm fR oF hF dF) := rr_D hD rfl
                          have hP : va_P K.1 vwCl (XM K om ad ns wl nf wd mt kF nF yF WD FL FW TD RW pl nw xt (putZ vF3 wF' (nF j)) wF' qF bY gF2 nm xm fR oF hF dF) H := hP
                          refine lv_iinc (v := nI (t + 1)) (lv' := [(7, .int (nI (t + 1))), (0, .ref om), (1, .int (nI j)), (2, .int (nI a)), (3, .int (nI b)), (4, .int (nI mm)), (5, .int (nI (liveS (kF j) (nF j) (Es yF j))))]) hx hb (pc := 115) dX10_layWeights_115 hl (k := 6) rfl (rr_inc _) (by decide) rfl (fun ls hl => ?_)
                          refine lv_goto (tgt := 97) hx hb (pc := 118) dX10_layWeights_118 (by decide) ?_
                          exact ih97 (t + 1) (putZ vF3 wF' (nF j)) wF' _ _ hP hD hS (by omega) (by omega) (fun i hi => by rw [putZ_in hi, hw' i hi]; exact suF_wV hv3) ls (lv_sub hl [1, 2, 3, 4, 5, 6, 0] rfl)
                    exact L97 (11) 0 (putZ vF1 gF2 q2) wF1 _ _ hP hD hS (by omega) (Nat.zero_le _) (fun i hi => by rw [putZ_in (by omega)]; exact hg2 i hi) ls (lv_sub hl [1, 2, 3, 4, 5, 6, 0] rfl)
                  · refine lv_aload_n hx hb (pc := 74) dX10_layWeights_74 rfl (lv_at hl 0 rfl) ?_
                    refine va_get (v := .ref (ad 17)) hx hb hts (inX10_layWeights_10) hown hKK.1 hP 0 rfl rfl 17 (by decide) (hts _ (List.mem_of_getElem? (i := 3) (by decide +kernel))) (fun _ h9 => h9) rfl (pc := 75) dX10_layWeights_75 ?_
                    refine lv_iload hx hb (pc := 78) dX10_layWeights_78 (lv_at hl 6 rfl) ?_
                    refine lv_aload_n hx hb (pc := 80) dX10_layWeights_80 rfl (lv_at hl 0 rfl) ?_
                    refine va_get (v := .ref (ad 26)) hx hb hts (inX10_layWeights_10) hown hKK.1 hP 0 rfl rfl 26 (by decide) (hts _ (List.mem_of_getElem? (i := 2) (by decide +kernel))) (fun _ h9 => h9) rfl (pc := 81) dX10_layWeights_81 ?_
                    refine lv_iload hx hb (pc := 84) dX10_layWeights_84 (lv_at hl 6 rfl) ?_
                    refine nv_lald (v := lN (gF2 q2)) (i := q2) hx hb hKK hP 22 rfl (by omega) (by decide) (rfl) (pc := 86) dX10_layWeights_86 ?_
                    refine nv_lastN (f := (putZ vF1 gF2 q2)) (x := (gF2 q2)) (ws' := XM K om ad ns wl nf wd mt kF nF yF WD FL FW TD RW pl nw xt (va_up (putZ vF1 gF2 q2) q2 (gF2 q2)) wF1 qF bY gF2 nm xm fR oF hF dF) (i := q2) hx hb hKK hP hD hS 14 rfl (by omega) (by decide) (rfl) (pc := 87) dX10_layWeights_87 (fun H locs hP hD hS => ?_)
                    refine lv_iinc (v := nI (q2 + 1)) (lv' := [(7, .int (nI (q2 + 1))), (0, .ref om), (1, .int (nI j)), (2, .int (nI a)), (3, .int (nI b)), (4, .int (nI mm)), (5, .int (nI (liveS (kF j) (nF j) (Es yF j))))]) hx hb (pc := 88) dX10_layWeights_88 hl (k := 6) rfl (rr_inc _) (by decide) rfl (fun ls hl => ?_)
                    refine lv_goto (tgt := 63) hx hb (pc := 91) dX10_layWeights_91 (by decide) ?_
                    rw [putZ_step vF1 gF2 q2] at hP hD
                    exact ih63 (q2 + 1) _ _ hP hD hS (by omega) (by omega) ls (lv_sub hl [1, 2, 3, 4, 5, 6, 0] rfl)
              rw [← putZ_0 vF1 gF2] at hP hD
              exact L63 (17) 0 _ _ hP hD hS (by omega) (Nat.zero_le _) ls (lv_sub hl [1, 2, 3, 4, 5, 6, 0] rfl)
        have hs0 : sN (nF j) (wgI (nF j) a (pwS (nF j) (aMy (liveS (kF j) (nF j) (Es yF j)) (Es yF j) (kF j)) (b - 1)) mm (liveS (kF j) (nF j) (Es yF j)) 0 ) ≤ 16 * mm := Nat.le_trans (sN_le (fun i _ => wgI_le 0 i)) (Nat.mul_le_mul_right mm s4j)
        exact L55 (16 * mm + 2) 0 true vF wF gF1 _ _ hP hD hS (by show sN (nF j) (wgI (nF j) a (pwS (nF j) (aMy (liveS (kF j) (nF j) (Es yF j)) (Es yF j) (kF j)) (b - 1)) mm (liveS (kF j) (nF j) (Es yF j)) 0 ) + 1 < _; omega) (fun i hi => hg1 i (by omega)) (fun h => by cases h) (by rw [Nat.zero_add]; exact hs0) ls (lv_sub hl [1, 2, 3, 4, 5, 6, 0] rfl)
      · refine lv_aload_n hx hb (pc := 21) dX10_layWeights_21 rfl (lv_at hl 0 rfl) ?_
        refine va_get (v := .ref (ad 26)) hx hb hts (inX10_layWeights_10) hown hKK.1 hP 0 rfl rfl 26 (by decide) (hts _ (List.mem_of_getElem? (i := 2) (by decide +kernel))) (fun _ h9 => h9) rfl (pc := 22) dX10_layWeights_22 ?_
        refine lv_iload hx hb (pc := 25) dX10_layWeights_25 (lv_at hl 6 rfl) ?_
        refine lv_iload hx hb (pc := 27) dX10_layWeights_27 (lv_at hl 5 rfl) ?_
        refine lv_iload hx hb (pc := 29) dX10_layWeights_29 (lv_at hl 6 rfl) ?_
        refine nv_ishr (a := (liveS (kF j) (nF j) (Es yF j))) (b := q) hx hb (pc := 31) dX10_layWeights_31 (by omega) (by omega) ?_
        refine lv_iconst (v := nI 1) hx hb (pc := 32) dX10_layWeights_32 (by decide) ?_
        refine nv_bit (a := (liveS (kF j) (nF j) (Es yF j))) (q := q) hx hb (pc := 33) dX10_layWeights_33 ?_
        refine lv_iconst (v := nI 1) hx hb (pc := 34) dX10_layWeights_34 (by decide) ?_
        refine nv_icmp_ne_b1 (tgt := 44) hx hb (pc := 35) dX10_layWeights_35 (by decide) (fun c35 => ?_) (fun c35 => ?_)
        · refine lv_lconst (v := lN 0) hx hb (pc := 44) dX10_layWeights_44 (by decide) ?_
          refine nv_lastN (f := gF1) (x := 0) (ws' := XM K om ad ns wl nf wd mt kF nF yF WD FL FW TD RW pl nw xt vF wF qF bY (va_up gF1 q 0) nm xm fR oF hF dF) (i := q) hx hb hKK hP hD hS 22 rfl (by omega) (by decide) (rfl) (pc := 45) dX10_layWeights_45 (fun H locs hP hD hS => ?_)
          refine lv_iinc (v := nI (q + 1)) (lv' := [(6, .int (nI (q + 1))), (0, .ref om), (1, .int (nI j)), (2, .int (nI a)), (3, .int (nI b)), (4, .int (nI mm)), (5, .int (nI (liveS (kF j) (nF j) (Es yF j))))]) hx hb (pc := 46) dX10_layWeights_46 hl (k := 6) rfl (rr_inc _) (by decide) rfl (fun ls hl => ?_)
          refine lv_goto (tgt := 10) hx hb (pc := 49) dX10_layWeights_49 (by decide) ?_
          have hg3 : ∀ i, i < q + 1 → va_up gF1 q (if (liveS (kF j) (nF j) (Es yF j)).testBit q = true then mm else 0) i = wgI (nF j) a (pwS (nF j) (aMy (liveS (kF j) (nF j) (Es yF j)) (Es yF j) (kF j)) (b - 1)) mm (liveS (kF j) (nF j) (Es yF j)) 0 i := by
            intro i hi
            unfold va_up
            split
            · rename_i e; rw [e]; first | rfl | exact (if_pos c35).symm | exact (if_neg (by rw [c35]; decide)).symm
            · exact hg1 i (by omega)
          first | rw [if_pos c35] at hg3 | rw [if_neg (by rw [c35]; decide)] at hg3
          exact ih10 (q + 1) (va_up gF1 q 0) _ _ hP hD hS (by omega) (by omega) (hg3) ls (lv_sub hl [1, 2, 3, 4, 5, 6, 0] rfl)
        · refine lv_iload hx hb (pc := 38) dX10_layWeights_38 (lv_at hl 4 rfl) ?_
          refine lv_i2l (v := lN mm) hx hb (pc := 40) dX10_layWeights_40 (nI_l (by omega)) ?_
          refine lv_goto (tgt := 45) hx hb (pc := 41) dX10_layWeights_41 (by decide) ?_
          refine nv_lastN (f := gF1) (x := mm) (ws' := XM K om ad ns wl nf wd mt kF nF yF WD FL FW TD RW pl nw xt vF wF qF bY (va_up gF1 q mm) nm xm fR oF hF dF) (i := q) hx hb hKK hP hD hS 22 rfl (by omega) (by decide) (rfl) (pc := 45) dX10_layWeights_45 (fun H locs hP hD hS => ?_)
          refine lv_iinc (v := nI (q + 1)) (lv' := [(6, .int (nI (q + 1))), (0, .ref om), (1, .int (nI j)), (2, .int (nI a)), (3, .int (nI b)), (4, .int (nI mm)), (5, .int (nI (liveS (kF j) (nF j) (Es yF j))))]) hx hb (pc := 46) dX10_layWeights_46 hl (k := 6) rfl (rr_inc _) (by decide) rfl (fun ls hl => ?_)
          refine lv_goto (tgt := 10) hx hb (pc := 49) dX10_layWeights_49 (by decide) ?_
          have hg3 : ∀ i, i < q + 1 → va_up gF1 q (if (liveS (kF j) (nF j) (Es yF j)).testBit q = true then mm else 0) i = wgI (nF j) a (pwS (nF j) (aMy (liveS (kF j) (nF j) (Es yF j)) (Es yF j) (kF j)) (b - 1)) mm (liveS (kF j) (nF j) (Es yF j)) 0 i := by
            intro i hi
            unfold va_up
            split
            · rename_i e; rw [e]; first | rfl | exact (if_pos c35).symm | exact (if_neg (by rw [c35]; decide)).symm
            · exact hg1 i (by omega)
          first | rw [if_pos c35] at hg3 | rw [if_neg (by rw [c35]; decide)] at hg3
          exact ih10 (q + 1) (va_up gF1 q mm) _ _ hP hD hS (by omega) (by omega) (hg3) ls (lv_sub hl [1, 2, 3, 4, 5, 6, 0] rfl)
  exact L10 (17) 0 gF _ _ hP hD hS (by omega) (Nat.zero_le _) (fun i hi => absurd hi (Nat.not_lt_zero _)) ls (lv_sub hl [2, 3, 4, 5, 6, 1, 0] rfl)

abbrev rmX10_weights : Room := { frames := 4, cells := 0, slots := 0, locals := 102 }
theorem inX10_weights_10 : ∀ w ∈ wsX100, w ∈ wsX10_weights := fun _ h => List.mem_cons_of_mem _ (List.mem_append_right _ h)
set_option maxHeartbeats 4000000 in
set_option maxRecDepth 100000 in
theorem c_X10_weights (l : Launch) (K : rr_K) (A : Nat → Prop) (om : Nat) (ad : Nat → Nat) (ns wl nf wd mt : Nat) (kF nF yF WD FL FW TD RW pl nw xt vF wF qF bY gF : Nat → Nat) (nm xm : Nat → Int64) (fR oF hF dF : Nat → Int32) (x p9 q9 m9 : Int32) (hS9 : SOK ns kF nF yF) (hD : va_D A (XM K om ad ns wl nf wd mt kF nF yF WD FL FW TD RW pl nw xt vF wF qF bY gF nm xm fR oF hF dF)) : MetR l K yX10_weights wsX10_weights rmX10_weights [.ref om, .int x, .int p9, .int q9, .int m9] (fun H => va_P K.1 vwCl (XM K om ad ns wl nf wd mt kF nF yF WD FL FW TD RW pl nw xt vF wF qF bY gF nm xm fR oF hF dF) H) A (fun v H => v = .int (wgsA ns kF nF yF x p9 q9 m9) ∧ ∃ vF' wF' gF', va_P K.1 vwCl (XM K om ad ns wl nf wd mt kF nF yF WD FL FW TD RW pl nw xt vF' wF' qF bY gF' nm xm fR oF hF dF) H) 0 0 := by
  refine metR_of (cc := cX10_weights) (maxL := 8) (ret := (some .int)) (rt := .int) (by decide) rfl rfl rfl rfl (Nat.le_of_ble_eq_true rfl) ?_
  intro p e s m args below meth c Q ls hEnt hKK hX hret hl
  obtain ⟨hx, hb, hml, hown, hts⟩ := hEnt
  have hP : va_P K.1 vwCl (XM K om ad ns wl nf wd mt kF nF yF WD FL FW TD RW pl nw xt vF wF qF bY gF nm xm fR oF hF dF) s.heap := hX
  have hl : lv_has ls 8 [(0, .ref om), (1, .int x), (2, .int p9), (3, .int q9), (4, .int m9)] := hl
  have hS : va_S A s.heap s.heap [] := va_S.rf
  refine lv_aload_n hx hb (pc := 0) dX10_weights_0 rfl (lv_at hl 0 rfl) ?_
  refine lv_iload_n hx hb (pc := 1) dX10_weights_1 rfl (lv_at hl 1 rfl) ?_
  refine lv_iload_n hx hb (pc := 2) dX10_weights_2 rfl (lv_at hl 2 rfl) ?_
  refine lv_iload_n hx hb (pc := 3) dX10_weights_3 rfl (lv_at hl 3 rfl) ?_
  refine lv_iload hx hb (pc := 4) dX10_weights_4 (lv_at hl 4 rfl) ?_
  refine rr_callP (rv := .int (bI (cdOK ns x p9 q9 m9))) (pc := 6) (va_runV (As := [.int x, .int p9, .int q9, .int m9]) (rest := []) ⟨hx, hb, hml, hown, hts⟩ (c_X10_isCoder l K om ad ns wl nf wd mt kF nF yF WD FL FW TD RW pl nw xt vF wF qF bY gF nm xm fR oF hF dF x p9 q9 m9 hS9.1) (cwV 4 hts gX10_weights_X10_isCoder rfl rfl rfl (by decide +kernel) ⟨Nat.le_of_ble_eq_true rfl, Nat.le_of_ble_eq_true rfl⟩) (rr_preV hKK (hP) (va_recv hKK.1 hP (ci := 10) (q0 := 0) rfl rfl)) rfl rfl hl.1 rfl (lv_room (Nat.le_of_ble_eq_true rfl)) dX10_weights_6 ⟨Nat.le_refl _, Nat.le_refl _⟩) ?_
  refine nv_if_ne_b (a := (cdOK ns x p9 q9 m9)) (tgt := 15) hx hb (pc := 9) dX10_weights_9 (by decide) (fun c9 => ?_) (fun c9 => ?_)
  · have hcd := c9
    unfold cdOK at hcd
    simp only [Bool.and_eq_true] at hcd
    obtain ⟨hcx, hcp, hcq, hcm⟩ := hcd
    have hns := hS9.1
    obtain ⟨j, hj6, rfl⟩ := isS_of (by omega) hcx
    obtain ⟨s1j, s2j, s3j, s4j, s5j⟩ := hS9.2 j hj6
    have ecj : cN (nI j) = j := cN_nI (by omega)
    obtain ⟨a, ha1, ha2, rfl⟩ := rrin_Nat (by decide) (by decide) hcp
    have eca : cN (nI a) = a := cN_nI (by omega)
    obtain ⟨b, hb1, hb2, rfl⟩ := rrin_Nat (by decide) (by decide) hcq
    have ecb : cN (nI b) = b := cN_nI (by omega)
    obtain ⟨mm, hmm1, hmm2, rfl⟩ := rrin_Nat (by decide) (by decide) hcm
    have ecmm : cN (nI mm) = mm := cN_nI (by omega)
    refine lv_aload_n hx hb (pc := 15) dX10_weights_15 rfl (lv_at hl 0 rfl) ?_
    refine lv_iload_n hx hb (pc := 16) dX10_weights_16 rfl (lv_at hl 1 rfl) ?_
    refine lv_iload_n hx hb (pc := 17) dX10_weights_17 rfl (lv_at hl 2 rfl) ?_
    refine lv_iload_n hx hb (pc := 18) dX10_weights_18 rfl (lv_at hl 3 rfl) ?_
    refine lv_iload hx hb (pc := 19) dX10_weights_19 (lv_at hl 4 rfl) ?_
    refine rr_callV (pc := 21) (va_runV (As := [.int (nI j), .int (nI a), .int (nI b), .int (nI mm)]) (rest := []) ⟨hx, hb, hml, hown, hts⟩ (c_X10_layWeights l K A om ad ns wl nf wd mt kF nF yF WD FL FW TD RW pl nw xt vF wF qF bY gF nm xm fR oF hF dF j a b mm hS9 hj6 ha1 ha2 hb1 hb2 hmm1 hmm2 hD) (cwV 4 hts gX10_weights_X10_layWeights rfl rfl rfl (by decide +kernel) ⟨Nat.le_of_ble_eq_true rfl, Nat.le_of_ble_eq_true rfl⟩) (rr_preV hKK (hP) (va_recv hKK.1 hP (ci := 10) (q0 := 0) rfl rfl)) rfl rfl hl.1 rfl (lv_room (Nat.le_of_ble_eq_true rfl)) dX10_weights_21 ⟨by omega, by omega⟩) hS (fun _ h => h) (fun H locs hY hsz hfr hS => ?_)
    obtain ⟨vF', wF', gF', hg', hP⟩ := hY
    have hD : va_D A (XM K om ad ns wl nf wd mt kF nF yF WD FL FW TD RW pl nw xt vF' wF' qF bY gF' nm xm fR oF hF dF) := rr_D hD rfl
    have hP : va_P K.1 vwCl (XM K om ad ns wl nf wd mt kF nF yF WD FL FW TD RW pl nw xt vF' wF' qF bY gF' nm xm fR oF hF dF) H := hP
    refine lv_lconst (v := lN 0) hx hb (pc := 24) dX10_weights_24 (by decide) ?_
    refine lv_lstore (lv' := [(5, .long (lN (0))), (0, .ref om), (1, .int (nI j)), (2, .int (nI a)), (3, .int (nI b)), (4, .int (nI mm))]) hx hb (pc := 25) dX10_weights_25 hl (by decide) rfl (fun ls hl => ?_)
    refine lv_iconst (v := nI 0) hx hb (pc := 27) dX10_weights_27 (by decide) ?_
    refine lv_istore (lv' := [(7, .int (nI 0)), (5, .long (lN (0))), (0, .ref om), (1, .int (nI j)), (2, .int (nI a)), (3, .int (nI b)), (4, .int (nI mm))]) hx hb (pc := 28) dX10_weights_28 hl (by decide) rfl (fun ls hl => ?_)
    have L30 : ∀ (fz : Nat) (i : Nat) (H : Heap) (locs : List Loc) (hP : va_P K.1 vwCl (XM K om ad ns wl nf wd mt kF nF yF WD FL FW TD RW pl nw xt vF' wF' qF bY gF' nm xm fR oF hF dF) H) (hD : va_D A (XM K om ad ns wl nf wd mt kF nF yF WD FL FW TD RW pl nw xt vF' wF' qF bY gF' nm xm fR oF hF dF)) (hS : va_S A s.heap H locs) (hfz : nF j - i < fz) (hi : i ≤ nF j) (ls : Array Slot) (hl : lv_has ls 8 [(0, .ref om), (1, .int (nI j)), (5, .long (lN (sN i gF'))), (7, .int (nI i))]), W p l e rmX10_weights s m args below meth c H locs 0 0 Q (F0 m 30 ls []) := by
      intro fz; induction fz with
      | zero => intro i H locs hP hD hS hfz hi ls hl; exact absurd hfz (Nat.not_lt_zero _)
      | succ fz ih30 =>
        intro i H locs hP hD hS hfz hi ls hl
        refine lv_iload hx hb (pc := 30) dX10_weights_30 (lv_at hl 3 rfl) ?_
        refine lv_aload_n hx hb (pc := 32) dX10_weights_32 rfl (lv_at hl 0 rfl) ?_
        refine va_get (v := .ref (ad 2)) hx hb hts (inX10_weights_10) hown hKK.1 hP 0 rfl rfl 2 (by decide) (hts _ (List.mem_of_getElem? (i := 1) (by decide +kernel))) (fun _ h9 => h9) rfl (pc := 33) dX10_weights_33 ?_
        refine lv_iload_n hx hb (pc := 36) dX10_weights_36 rfl (lv_at hl 1 rfl) ?_
        refine nv_iald (v := nI (nF j)) (i := j) hx hb hKK hP 2 rfl (by omega) (by decide) (rfl) (pc := 37) dX10_weights_37 ?_
        refine nv_icmp_ge (a := i) (b := (nF j)) (tgt := 59) hx hb (pc := 38) dX10_weights_38 (by decide) (by omega) (by omega) (fun c38 => ?_) (fun c38 => ?_)
        · refine lv_lload hx hb (pc := 59) dX10_weights_59 (lv_at hl 2 rfl) ?_
          refine lv_l2i (v := nI (sN i gF')) hx hb (pc := 61) dX10_weights_61 (lN_i _) ?_
          have e9 : i = nF j := by omega
          exact hret.1 _ _ 0 0 62 _ (nI (sN i gF')) dX10_weights_62 (by omega) (by omega) hS (⟨by unfold wgsA; rw [if_pos c9, ecj, eca, ecb, ecmm, e9, sN_congr (g := (wgT (kF j) (nF j) (Es yF j) a b mm)) hg'], _, _, _, hP⟩) (rfl)
        · refine lv_lload hx hb (pc := 41) dX10_weights_41 (lv_at hl 2 rfl) ?_
          refine lv_aload_n hx hb (pc := 43) dX10_weights_43 rfl (lv_at hl 0 rfl) ?_
          refine va_get (v := .ref (ad 26)) hx hb hts (inX10_weights_10) hown hKK.1 hP 0 rfl rfl 26 (by decide) (hts _ (List.mem_of_getElem? (i := 2) (by decide +kernel))) (fun _ h9 => h9) rfl (pc := 44) dX10_weights_44 ?_
          refine lv_iload hx hb (pc := 47) dX10_weights_47 (lv_at hl 3 rfl) ?_
          refine nv_lald (v := lN (gF' i)) (i := i) hx hb hKK hP 22 rfl (by omega) (by decide) (rfl) (pc := 49) dX10_weights_49 ?_
          refine nv_ladd (a := (sN i gF')) (b := (gF' i)) hx hb (pc := 50) dX10_weights_50 ?_
          refine lv_lstore (lv' := [(5, .long (lN ((sN i gF') + (gF' i)))), (0, .ref om), (1, .int (nI j)), (7, .int (nI i))]) hx hb (pc := 51) dX10_weights_51 hl (by decide) rfl (fun ls hl => ?_)
          refine lv_iinc (v := nI (i + 1)) (lv' := [(7, .int (nI (i + 1))), (5, .long (lN ((sN i gF') + (gF' i)))), (0, .ref om), (1, .int (nI j))]) hx hb (pc := 53) dX10_weights_53 hl (k := 3) rfl (rr_inc _) (by decide) rfl (fun ls hl => ?_)
          refine lv_goto (tgt := 30) hx hb (pc := 56) dX10_weights_56 (by decide) ?_
          have hl : lv_has ls 8 [(7, .int (nI (i + 1))), (5, .long (lN (sN (i + 1) gF'))), (0, .ref om), (1, .int (nI j))] := by rw [show sN (i + 1) gF' = (sN i gF') + (gF' i) from rfl]; exact hl
          exact ih30 (i + 1) _ _ hP hD hS (by omega) (by omega) ls (lv_sub hl [2, 3, 1, 0] rfl)
    have hl : lv_has ls 8 [(7, .int (nI 0)), (5, .long (lN (sN 0 gF'))), (0, .ref om), (1, .int (nI j)), (2, .int (nI a)), (3, .int (nI b)), (4, .int (nI mm))] := by rw [show sN 0 gF' = 0 from rfl]; exact hl
    exact L30 (17) 0 _ _ hP hD hS (by omega) (Nat.zero_le _) ls (lv_sub hl [2, 3, 1, 0] rfl)
  · refine lv_bipush (v := -2) hx hb (pc := 12) dX10_weights_12 (by decide) ?_
    exact hret.1 _ _ 0 0 14 _ (-2) dX10_weights_14 (by omega) (by omega) hS (⟨by unfold wgsA; rw [if_neg (by rw [c9]; decide)], _, _, _, hP⟩) (rfl)

abbrev rmX10_weight : Room := { frames := 4, cells := 0, slots := 0, locals := 102 }
theorem inX10_weight_10 : ∀ w ∈ wsX100, w ∈ wsX10_weight := fun _ h => List.mem_cons_of_mem _ (List.mem_append_right _ h)
set_option maxHeartbeats 4000000 in
set_option maxRecDepth 100000 in
theorem c_X10_weight (l : Launch) (K : rr_K) (A : Nat → Prop) (om : Nat) (ad : Nat → Nat) (ns wl nf wd mt : Nat) (kF nF yF WD FL FW TD RW pl nw xt vF wF qF bY gF : Nat → Nat) (nm xm : Nat → Int64) (fR oF hF dF : Nat → Int32) (x p9 q9 m9 s9 : Int32) (hS9 : SOK ns kF nF yF) (hD : va_D A (XM K om ad ns wl nf wd mt kF nF yF WD FL FW TD RW pl nw xt vF wF qF bY gF nm xm fR oF hF dF)) : MetR l K yX10_weight wsX10_weight rmX10_weight [.ref om, .int x, .int p9, .int q9, .int m9, .int s9] (fun H => va_P K.1 vwCl (XM K om ad ns wl nf wd mt kF nF yF WD FL FW TD RW pl nw xt vF wF qF bY gF nm xm fR oF hF dF) H) A (fun v H => v = .int (wgtA ns kF nF yF x p9 q9 m9 s9) ∧ ∃ vF' wF' gF', va_P K.1 vwCl (XM K om ad ns wl nf wd mt kF nF yF WD FL FW TD RW pl nw xt vF' wF' qF bY gF' nm xm fR oF hF dF) H) 0 0 := by
  refine metR_of (cc := cX10_weight) (maxL := 6) (ret := (some .int)) (rt := .int) (by decide) rfl rfl rfl rfl (Nat.le_of_ble_eq_true rfl) ?_
  intro p e s m args below meth c Q ls hEnt hKK hX hret hl
  obtain ⟨hx, hb, hml, hown, hts⟩ := hEnt
  have hP : va_P K.1 vwCl (XM K om ad ns wl nf wd mt kF nF yF WD FL FW TD RW pl nw xt vF wF qF bY gF nm xm fR oF hF dF) s.heap := hX
  have hl : lv_has ls 6 [(0, .ref om), (1, .int x), (2, .int p9), (3, .int q9), (4, .int m9), (5, .int s9)] := hl
  have hS : va_S A s.heap s.heap [] := va_S.rf
  refine lv_aload_n hx hb (pc := 0) dX10_weight_0 rfl (lv_at hl 0 rfl) ?_
  refine lv_iload_n hx hb (pc := 1) dX10_weight_1 rfl (lv_at hl 1 rfl) ?_
  refine lv_iload_n hx hb (pc := 2) dX10_weight_2 rfl (lv_at hl 2 rfl) ?_
  refine lv_iload_n hx hb (pc := 3) dX10_weight_3 rfl (lv_at hl 3 rfl) ?_
  refine lv_iload hx hb (pc := 4) dX10_weight_4 (lv_at hl 4 rfl) ?_
  refine rr_callP (rv := .int (bI (cdOK ns x p9 q9 m9))) (pc := 6) (va_runV (As := [.int x, .int p9, .int q9, .int m9]) (rest := []) ⟨hx, hb, hml, hown, hts⟩ (c_X10_isCoder l K om ad ns wl nf wd mt kF nF yF WD FL FW TD RW pl nw xt vF wF qF bY gF nm xm fR oF hF dF x p9 q9 m9 hS9.1) (cwV 4 hts gX10_weight_X10_isCoder rfl rfl rfl (by decide +kernel) ⟨Nat.le_of_ble_eq_true rfl, Nat.le_of_ble_eq_true rfl⟩) (rr_preV hKK (hP) (va_recv hKK.1 hP (ci := 10) (q0 := 0) rfl rfl)) rfl rfl hl.1 rfl (lv_room (Nat.le_of_ble_eq_true rfl)) dX10_weight_6 ⟨Nat.le_refl _, Nat.le_refl _⟩) ?_
  refine nv_if_eq_b (a := (cdOK ns x p9 q9 m9)) (tgt := 22) hx hb (pc := 9) dX10_weight_9 (by decide) (fun c9 => ?_) (fun c9 => ?_)
  · refine lv_bipush (v := -2) hx hb (pc := 22) dX10_weight_22 (by decide) ?_
    have hc : (cdOK ns x p9 q9 m9 && okQ ns nF x s9) = false := by first | (rw [c9, c19]; rfl) | (rw [c9]; rfl)
    exact hret.1 _ _ 0 0 24 _ (-2) dX10_weight_24 (by omega) (by omega) hS (⟨by unfold wgtA; rw [if_neg (by rw [hc]; decide)], _, _, _, hP⟩) (rfl)
  · refine lv_aload_n hx hb (pc := 12) dX10_weight_12 rfl (lv_at hl 0 rfl) ?_
    refine lv_iload_n hx hb (pc := 13) dX10_weight_13 rfl (lv_at hl 1 rfl) ?_
    refine lv_iload hx hb (pc := 14) dX10_weight_14 (lv_at hl 5 rfl) ?_
    refine rr_callP (rv := .int (bI (okQ ns nF x s9))) (pc := 16) (va_runV (As := [.int x, .int s9]) (rest := []) ⟨hx, hb, hml, hown, hts⟩ (c_X10_isState l K om ad ns wl nf wd mt kF nF yF WD FL FW TD RW pl nw xt vF wF qF bY gF nm xm fR oF hF dF x s9 hS9.1) (cwV 2 hts gX10_weight_X10_isState rfl rfl rfl (by decide +kernel) ⟨Nat.le_of_ble_eq_true rfl, Nat.le_of_ble_eq_true rfl⟩) (rr_preV hKK (hP) (va_recv hKK.1 hP (ci := 10) (q0 := 0) rfl rfl)) rfl rfl hl.1 rfl (lv_room (Nat.le_of_ble_eq_true rfl)) dX10_weight_16 ⟨Nat.le_refl _, Nat.le_refl _⟩) ?_
    refine nv_if_ne_b (a := (okQ ns nF x s9)) (tgt := 25) hx hb (pc := 19) dX10_weight_19 (by decide) (fun c19 => ?_) (fun c19 => ?_)
    · have hc : (cdOK ns x p9 q9 m9 && okQ ns nF x s9) = true := by rw [c9, c19]; rfl
      have hq9 := c19
      have hcd := c9
      unfold cdOK at hcd
      simp only [Bool.and_eq_true] at hcd
      obtain ⟨hcx, hcp, hcq, hcm⟩ := hcd
      have hns := hS9.1
      obtain ⟨j, hj6, rfl⟩ := isS_of (by omega) hcx
      obtain ⟨s1j, s2j, s3j, s4j, s5j⟩ := hS9.2 j hj6
      have ecj : cN (nI j) = j := cN_nI (by omega)
      obtain ⟨a, ha1, ha2, rfl⟩ := rrin_Nat (by decide) (by decide) hcp
      have eca : cN (nI a) = a := cN_nI (by omega)
      obtain ⟨b, hb1, hb2, rfl⟩ := rrin_Nat (by decide) (by decide) hcq
      have ecb : cN (nI b) = b := cN_nI (by omega)
      obtain ⟨mm, hmm1, hmm2, rfl⟩ := rrin_Nat (by decide) (by decide) hcm
      have ecmm : cN (nI mm) = mm := cN_nI (by omega)
      obtain ⟨j2, u, hj2, rfl, hj3, hu9⟩ := okQ_of hS9 hq9
      obtain rfl : j = j2 := nI_inj (by omega) (by omega) hj2
      have ecu : cN (nI u) = u := cN_nI (by omega)
      refine lv_aload_n hx hb (pc := 25) dX10_weight_25 rfl (lv_at hl 0 rfl) ?_
      refine lv_iload_n hx hb (pc := 26) dX10_weight_26 rfl (lv_at hl 1 rfl) ?_
      refine lv_iload_n hx hb (pc := 27) dX10_weight_27 rfl (lv_at hl 2 rfl) ?_
      refine lv_iload_n hx hb (pc := 28) dX10_weight_28 rfl (lv_at hl 3 rfl) ?_
      refine lv_iload hx hb (pc := 29) dX10_weight_29 (lv_at hl 4 rfl) ?_
      refine rr_callV (pc := 31) (va_runV (As := [.int (nI j), .int (nI a), .int (nI b), .int (nI mm)]) (rest := []) ⟨hx, hb, hml, hown, hts⟩ (c_X10_layWeights l K A om ad ns wl nf wd mt kF nF yF WD FL FW TD RW pl nw xt vF wF qF bY gF nm xm fR oF hF dF j a b mm hS9 hj6 ha1 ha2 hb1 hb2 hmm1 hmm2 hD) (cwV 4 hts gX10_weight_X10_layWeights rfl rfl rfl (by decide +kernel) ⟨Nat.le_of_ble_eq_true rfl, Nat.le_of_ble_eq_true rfl⟩) (rr_preV hKK (hP) (va_recv hKK.1 hP (ci := 10) (q0 := 0) rfl rfl)) rfl rfl hl.1 rfl (lv_room (Nat.le_of_ble_eq_true rfl)) dX10_weight_31 ⟨by omega, by omega⟩) hS (fun _ h => h) (fun H locs hY hsz hfr hS => ?_)
      obtain ⟨vF', wF', gF', hg', hP⟩ := hY
      have hD : va_D A (XM K om ad ns wl nf wd mt kF nF yF WD FL FW TD RW pl nw xt vF' wF' qF bY gF' nm xm fR oF hF dF) := rr_D hD rfl
      have hP : va_P K.1 vwCl (XM K om ad ns wl nf wd mt kF nF yF WD FL FW TD RW pl nw xt vF' wF' qF bY gF' nm xm fR oF hF dF) H := hP
      refine lv_aload_n hx hb (pc := 34) dX10_weight_34 rfl (lv_at hl 0 rfl) ?_
      refine va_get (v := .ref (ad 26)) hx hb hts (inX10_weight_10) hown hKK.1 hP 0 rfl rfl 26 (by decide) (hts _ (List.mem_of_getElem? (i := 1) (by decide +kernel))) (fun _ h9 => h9) rfl (pc := 35) dX10_weight_35 ?_
      refine lv_iload hx hb (pc := 38) dX10_weight_38 (lv_at hl 5 rfl) ?_
      refine nv_lald (v := lN ((wgT (kF j) (nF j) (Es yF j) a b mm) u)) (i := u) hx hb hKK hP 22 rfl (by omega) (by decide) (congrArg lN (hg' u hu9)) (pc := 40) dX10_weight_40 ?_
      refine lv_l2i (v := nI ((wgT (kF j) (nF j) (Es yF j) a b mm) u)) hx hb (pc := 41) dX10_weight_41 (lN_i _) ?_
      exact hret.1 _ _ 0 0 42 _ (nI ((wgT (kF j) (nF j) (Es yF j) a b mm) u)) dX10_weight_42 (by omega) (by omega) hS (⟨by unfold wgtA; rw [if_pos hc, ecj, eca, ecb, ecmm, ecu], _, _, _, hP⟩) (rfl)
    · refine lv_bipush (v := -2) hx hb (pc := 22) dX10_weight_22 (by decide) ?_
      have hc : (cdOK ns x p9 q9 m9 && okQ ns nF x s9) = false := by first | (rw [c9, c19]; rfl) | (rw [c9]; rfl)
      exact hret.1 _ _ 0 0 24 _ (-2) dX10_weight_24 (by omega) (by omega) hS (⟨by unfold wgtA; rw [if_neg (by rw [hc]; decide)], _, _, _, hP⟩) (rfl)

