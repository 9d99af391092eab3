abbrev rmX10_isBarred : Room := { frames := 0, cells := 0, slots := 0, locals := 0 }
theorem inX10_isBarred_10 : ∀ w ∈ wsX100, w ∈ wsX10_isBarred := fun _ h => List.mem_cons_of_mem _ (List.mem_append_right _ h)
set_option maxHeartbeats 4000000 in
set_option maxRecDepth 100000 in
theorem c_X10_isBarred (l : Launch) (K : rr_K) (om : Nat) (ad : Nat → Nat) (ns wl nf wd mt : Nat) (kF nF yF WD FL FW TD RW pl nw xt vF wF qF bY gF : Nat → Nat) (nm xm : Nat → Int64) (fR oF hF dF : Nat → Int32) (mm : Nat) (hF9 : FOK nf FL FW) (hm5 : mm ≤ 5) (hRW : ∀ j, j < mm → RW j < 4) : MetP l K yX10_isBarred wsX10_isBarred rmX10_isBarred [.ref om, .int (nI mm)] (fun H => va_P K.1 vwCl (XM K om ad ns wl nf wd mt kF nF yF WD FL FW TD RW pl nw xt vF wF qF bY gF nm xm fR oF hF dF) H) (.int (bI (stR nf FL FW RW mm))) := by
  refine metP_of (cc := cX10_isBarred) (maxL := 7) (ret := (some .boolean)) (rt := .boolean) (by decide) rfl rfl (Nat.le_of_ble_eq_true rfl) ?_
  intro p e s m args below meth c Q ls hEnt hKK hX hret hl
  obtain ⟨hx, hb, hml, hown, hts⟩ := hEnt
  have hP : va_P K.1 vwCl (XM K om ad ns wl nf wd mt kF nF yF WD FL FW TD RW pl nw xt vF wF qF bY gF nm xm fR oF hF dF) s.heap := hX
  have hl : lv_has ls 7 [(0, .ref om), (1, .int (nI mm))] := hl
  have hnf := hF9.1
  refine lv_iconst (v := nI 0) hx hb (pc := 0) dX10_isBarred_0 (by decide) ?_
  refine lv_istore_n (lv' := [(2, .int (nI 0)), (0, .ref om), (1, .int (nI mm))]) hx hb (pc := 1) dX10_isBarred_1 rfl hl (by decide) rfl (fun ls hl => ?_)
  refine lv_iconst (v := nI 0) hx hb (pc := 2) dX10_isBarred_2 (by decide) ?_
  refine lv_istore_n (lv' := [(3, .int (nI 0)), (2, .int (nI 0)), (0, .ref om), (1, .int (nI mm))]) hx hb (pc := 3) dX10_isBarred_3 rfl hl (by decide) rfl (fun ls hl => ?_)
  have L4 : ∀ (fz : Nat) (f : Nat) (hfz : nf - f < fz) (hf : f ≤ nf) (ls : Array Slot) (hl : lv_has ls 7 [(0, .ref om), (1, .int (nI mm)), (2, .int (bI (anyB f (fun i => anyB (mm + 1 - FL i) (fun fr => stA FL FW RW i fr))))), (3, .int (nI f))]), W p l e rmX10_isBarred s m args below meth c s.heap [] 0 0 Q (F0 m 4 ls []) := by
    intro fz; induction fz with
    | zero => intro f hfz hf ls hl; exact absurd hfz (Nat.not_lt_zero _)
    | succ fz ih4 =>
      intro f hfz hf ls hl
      refine lv_iload_n hx hb (pc := 4) dX10_isBarred_4 rfl (lv_at hl 3 rfl) ?_
      refine lv_aload_n hx hb (pc := 5) dX10_isBarred_5 rfl (lv_at hl 0 rfl) ?_
      refine va_get (v := .int (nI nf)) hx hb hts (inX10_isBarred_10) hown hKK.1 hP 0 rfl rfl 6 (by decide) (hts _ (List.mem_of_getElem? (i := 1) (by decide +kernel))) (fun _ h9 => h9) rfl (pc := 6) dX10_isBarred_6 ?_
      refine nv_icmp_ge (a := f) (b := nf) (tgt := 114) hx hb (pc := 9) dX10_isBarred_9 (by decide) (by omega) (by omega) (fun c9 => ?_) (fun c9 => ?_)
      · refine lv_iload_n hx hb (pc := 114) dX10_isBarred_114 rfl (lv_at hl 2 rfl) ?_
        have e9 : f = nf := by omega
        exact hret.1 115 _ (bI (anyB f (fun i => anyB (mm + 1 - FL i) (fun fr => stA FL FW RW i fr)))) dX10_isBarred_115 (by rw [e9]; rfl) (rr_narB _)
      · obtain ⟨f1, f5, f4⟩ := hF9.2 f (by omega)
        refine lv_iconst (v := nI 0) hx hb (pc := 12) dX10_isBarred_12 (by decide) ?_
        refine lv_istore (lv' := [(4, .int (nI 0)), (0, .ref om), (1, .int (nI mm)), (2, .int (bI (anyB f (fun i => anyB (mm + 1 - FL i) (fun fr => stA FL FW RW i fr))))), (3, .int (nI f))]) hx hb (pc := 13) dX10_isBarred_13 hl (by decide) rfl (fun ls hl => ?_)
        have L15 : ∀ (fz : Nat) (fr : Nat) (hfz : mm + 1 - FL f - fr < fz) (hfr : fr ≤ mm + 1 - FL f) (ls : Array Slot) (hl : lv_has ls 7 [(0, .ref om), (1, .int (nI mm)), (2, .int (bI (anyB f (fun i => anyB (mm + 1 - FL i) (fun fr => stA FL FW RW i fr)) || anyB fr (fun r => stA FL FW RW f r)))), (3, .int (nI f)), (4, .int (nI fr))]), W p l e rmX10_isBarred s m args below meth c s.heap [] 0 0 Q (F0 m 15 ls []) := by
          intro fz; induction fz with
          | zero => intro fr hfz hfr ls hl; exact absurd hfz (Nat.not_lt_zero _)
          | succ fz ih15 =>
            intro fr hfz hfr ls hl
            refine lv_iload hx hb (pc := 15) dX10_isBarred_15 (lv_at hl 4 rfl) ?_
            refine lv_aload_n hx hb (pc := 17) dX10_isBarred_17 rfl (lv_at hl 0 rfl) ?_
            refine va_get (v := .ref (ad 7)) hx hb hts (inX10_isBarred_10) hown hKK.1 hP 0 rfl rfl 7 (by decide) (hts _ (List.mem_of_getElem? (i := 2) (by decide +kernel))) (fun _ h9 => h9) rfl (pc := 18) dX10_isBarred_18 ?_
            refine lv_iload_n hx hb (pc := 21) dX10_isBarred_21 rfl (lv_at hl 3 rfl) ?_
            refine nv_iald (v := nI (FL f)) (i := f) hx hb hKK hP 5 rfl (by omega) (by decide) (rfl) (pc := 22) dX10_isBarred_22 ?_
            refine nv_iadd (a := fr) (b := (FL f)) hx hb (pc := 23) dX10_isBarred_23 ?_
            refine lv_iload_n hx hb (pc := 24) dX10_isBarred_24 rfl (lv_at hl 1 rfl) ?_
            refine nv_icmp_gt (a := (fr + (FL f))) (b := mm) (tgt := 108) hx hb (pc := 25) dX10_isBarred_25 (by decide) (by omega) (by omega) (fun c25 => ?_) (fun c25 => ?_)
            · refine lv_iinc (v := nI (f + 1)) (lv' := [(3, .int (nI (f + 1))), (0, .ref om), (1, .int (nI mm)), (2, .int (bI (anyB f (fun i => anyB (mm + 1 - FL i) (fun fr => stA FL FW RW i fr)) || anyB fr (fun r => stA FL FW RW f r)))), (4, .int (nI fr))]) hx hb (pc := 108) dX10_isBarred_108 hl (k := 3) rfl (rr_inc _) (by decide) rfl (fun ls hl => ?_)
              refine lv_goto (tgt := 4) hx hb (pc := 111) dX10_isBarred_111 (by decide) ?_
              have hl : lv_has ls 7 [(3, .int (nI (f + 1))), (0, .ref om), (1, .int (nI mm)), (2, .int (bI (anyB (f + 1) (fun i => anyB (mm + 1 - FL i) (fun fr => stA FL FW RW i fr))))), (4, .int (nI fr))] := by rw [show (anyB (f + 1) (fun i => anyB (mm + 1 - FL i) (fun fr => stA FL FW RW i fr))) = (anyB f (fun i => anyB (mm + 1 - FL i) (fun fr => stA FL FW RW i fr)) || anyB fr (fun r => stA FL FW RW f r)) from by rw [show fr = mm + 1 - FL f by omega]; rfl]; exact hl
              exact ih4 (f + 1) (by omega) (by omega) ls (lv_sub hl [1, 2, 3, 0] rfl)
            · refine lv_iconst (v := nI 1) hx hb (pc := 28) dX10_isBarred_28 (by decide) ?_
              refine lv_istore (lv' := [(5, .int (nI 1)), (0, .ref om), (1, .int (nI mm)), (2, .int (bI (anyB f (fun i => anyB (mm + 1 - FL i) (fun fr => stA FL FW RW i fr)) || anyB fr (fun r => stA FL FW RW f r)))), (3, .int (nI f)), (4, .int (nI fr))]) hx hb (pc := 29) dX10_isBarred_29 hl (by decide) rfl (fun ls hl => ?_)
              refine lv_iconst (v := nI 0) hx hb (pc := 31) dX10_isBarred_31 (by decide) ?_
              refine lv_istore (lv' := [(6, .int (nI 0)), (5, .int (nI 1)), (0, .ref om), (1, .int (nI mm)), (2, .int (bI (anyB f (fun i => anyB (mm + 1 - FL i) (fun fr => stA FL FW RW i fr)) || anyB fr (fun r => stA FL FW RW f r)))), (3, .int (nI f)), (4, .int (nI fr))]) hx hb (pc := 32) dX10_isBarred_32 hl (by decide) rfl (fun ls hl => ?_)
              have L34 : ∀ (fz : Nat) (kk : Nat) (hfz : FL f - kk < fz) (hkk : kk ≤ FL f) (ls : Array Slot) (hl : lv_has ls 7 [(0, .ref om), (1, .int (nI mm)), (2, .int (bI (anyB f (fun i => anyB (mm + 1 - FL i) (fun fr => stA FL FW RW i fr)) || anyB fr (fun r => stA FL FW RW f r)))), (3, .int (nI f)), (4, .int (nI fr)), (5, .int (bI (allB kk (fun i => RW (fr + i) == FW (f * 5 + i))))), (6, .int (nI kk))]), W p l e rmX10_isBarred s m args below meth c s.heap [] 0 0 Q (F0 m 34 ls []) := by
                intro fz; induction fz with
                | zero => intro kk hfz hkk ls hl; exact absurd hfz (Nat.not_lt_zero _)
                | succ fz ih34 =>
                  intro kk hfz hkk ls hl
                  refine lv_iload hx hb (pc := 34) dX10_isBarred_34 (lv_at hl 6 rfl) ?_
                  refine lv_aload_n hx hb (pc := 36) dX10_isBarred_36 rfl (lv_at hl 0 rfl) ?_
                  refine va_get (v := .ref (ad 7)) hx hb hts (inX10_isBarred_10) hown hKK.1 hP 0 rfl rfl 7 (by decide) (hts _ (List.mem_of_getElem? (i := 2) (by decide +kernel))) (fun _ h9 => h9) rfl (pc := 37) dX10_isBarred_37 ?_
                  refine lv_iload_n hx hb (pc := 40) dX10_isBarred_40 rfl (lv_at hl 3 rfl) ?_
                  refine nv_iald (v := nI (FL f)) (i := f) hx hb hKK hP 5 rfl (by omega) (by decide) (rfl) (pc := 41) dX10_isBarred_41 ?_
                  refine nv_icmp_ge (a := kk) (b := (FL f)) (tgt := 87) hx hb (pc := 42) dX10_isBarred_42 (by decide) (by omega) (by omega) (fun c42 => ?_) (fun c42 => ?_)
                  · have e9 : kk = FL f := by omega
                    have hst : stA FL FW RW f fr = allB kk (fun i => RW (fr + i) == FW (f * 5 + i)) := by rw [e9]; rfl
                    refine lv_iload_n hx hb (pc := 87) dX10_isBarred_87 rfl (lv_at hl 2 rfl) ?_
                    refine nv_if_ne_b (a := (anyB f (fun i => anyB (mm + 1 - FL i) (fun fr => stA FL FW RW i fr)) || anyB fr (fun r => stA FL FW RW f r))) (tgt := 96) hx hb (pc := 88) dX10_isBarred_88 (by decide) (fun c88 => ?_) (fun c88 => ?_)
                    · refine lv_iconst (v := nI 1) hx hb (pc := 96) dX10_isBarred_96 (by decide) ?_
                      refine lv_goto (tgt := 101) hx hb (pc := 97) dX10_isBarred_97 (by decide) ?_
                      refine lv_istore_n (lv' := [(2, .int (nI 1)), (0, .ref om), (1, .int (nI mm)), (3, .int (nI f)), (4, .int (nI fr)), (5, .int (bI (allB kk (fun i => RW (fr + i) == FW (f * 5 + i))))), (6, .int (nI kk))]) hx hb (pc := 101) dX10_isBarred_101 rfl hl (by decide) rfl (fun ls hl => ?_)
                      refine lv_iinc (v := nI (fr + 1)) (lv' := [(4, .int (nI (fr + 1))), (2, .int (nI 1)), (0, .ref om), (1, .int (nI mm)), (3, .int (nI f)), (5, .int (bI (allB kk (fun i => RW (fr + i) == FW (f * 5 + i))))), (6, .int (nI kk))]) hx hb (pc := 102) dX10_isBarred_102 hl (k := 4) rfl (rr_inc _) (by decide) rfl (fun ls hl => ?_)
                      refine lv_goto (tgt := 15) hx hb (pc := 105) dX10_isBarred_105 (by decide) ?_
                      have hl : lv_has ls 7 [(4, .int (nI (fr + 1))), (2, .int (bI (anyB f (fun i => anyB (mm + 1 - FL i) (fun fr => stA FL FW RW i fr)) || anyB (fr + 1) (fun r => stA FL FW RW f r)))), (0, .ref om), (1, .int (nI mm)), (3, .int (nI f)), (5, .int (bI (allB kk (fun i => RW (fr + i) == FW (f * 5 + i))))), (6, .int (nI kk))] := by rw [show (anyB f (fun i => anyB (mm + 1 - FL i) (fun fr => stA FL FW RW i fr)) || anyB (fr + 1) (fun r => stA FL FW RW f r)) = true from by first | exact anyB_s1 c88 | exact anyB_s2 (hst.trans c93) | exact anyB_s3 c88 (hst.trans c93)]; exact hl
                      exact ih15 (fr + 1) (by omega) (by omega) ls (lv_sub hl [2, 3, 1, 4, 0] rfl)
                    · refine lv_iload hx hb (pc := 91) dX10_isBarred_91 (lv_at hl 5 rfl) ?_
                      refine nv_if_eq_b (a := (allB kk (fun i => RW (fr + i) == FW (f * 5 + i)))) (tgt := 100) hx hb (pc := 93) dX10_isBarred_93 (by decide) (fun c93 => ?_) (fun c93 => ?_)
                      · refine lv_iconst (v := nI 0) hx hb (pc := 100) dX10_isBarred_100 (by decide) ?_
                        refine lv_istore_n (lv' := [(2, .int (nI 0)), (0, .ref om), (1, .int (nI mm)), (3, .int (nI f)), (4, .int (nI fr)), (5, .int (bI (allB kk (fun i => RW (fr + i) == FW (f * 5 + i))))), (6, .int (nI kk))]) hx hb (pc := 101) dX10_isBarred_101 rfl hl (by decide) rfl (fun ls hl => ?_)
                        refine lv_iinc (v := nI (fr + 1)) (lv' := [(4, .int (nI (fr + 1))), (2, .int (nI 0)), (0, .ref om), (1, .int (nI mm)), (3, .int (nI f)), (5, .int (bI (allB kk (fun i => RW (fr + i) == FW (f * 5 + i))))), (6, .int (nI kk))]) hx hb (pc := 102) dX10_isBarred_102 hl (k := 4) rfl (rr_inc _) (by decide) rfl (fun ls hl => ?_)
                        refine lv_goto (tgt := 15) hx hb (pc := 105) dX10_isBarred_105 (by decide) ?_
                        have hl : lv_has ls 7 [(4, .int (nI (fr + 1))), (2, .int (bI (anyB f (fun i => anyB (mm + 1 - FL i) (fun fr => stA FL FW RW i fr)) || anyB (fr + 1) (fun r => stA FL FW RW f r)))), (0, .ref om), (1, .int (nI mm)), (3, .int (nI f)), (5, .int (bI (allB kk (fun i => RW (fr + i) == FW (f * 5 + i))))), (6, .int (nI kk))] := by rw [show (anyB f (fun i => anyB (mm + 1 - FL i) (fun fr => stA FL FW RW i fr)) || anyB (fr + 1) (fun r => stA FL FW RW f r)) = false from by first | exact anyB_s1 c88 | exact anyB_s2 (hst.trans c93) | exact anyB_s3 c88 (hst.trans c93)]; exact hl
                        exact ih15 (fr + 1) (by omega) (by omega) ls (lv_sub hl [2, 3, 1, 4, 0] rfl)
                      · refine lv_iconst (v := nI 1) hx hb (pc := 96) dX10_isBarred_96 (by decide) ?_
                        refine lv_goto (tgt := 101) hx hb (pc := 97) dX10_isBarred_97 (by decide) ?_
                        refine lv_istore_n (lv' := [(2, .int (nI 1)), (0, .ref om), (1, .int (nI mm)), (3, .int (nI f)), (4, .int (nI fr)), (5, .int (bI (allB kk (fun i => RW (fr + i) == FW (f * 5 + i))))), (6, .int (nI kk))]) hx hb (pc := 101) dX10_isBarred_101 rfl hl (by decide) rfl (fun ls hl => ?_)
                        refine lv_iinc (v := nI (fr + 1)) (lv' := [(4, .int (nI (fr + 1))), (2, .int (nI 1)), (0, .ref om), (1, .int (nI mm)), (3, .int (nI f)), (5, .int (bI (allB kk (fun i => RW (fr + i) == FW (f * 5 + i))))), (6, .int (nI kk))]) hx hb (pc := 102) dX10_isBarred_102 hl (k := 4) rfl (rr_inc _) (by decide) rfl (fun ls hl => ?_)
                        refine lv_goto (tgt := 15) hx hb (pc := 105) dX10_isBarred_105 (by decide) ?_
                        have hl : lv_has ls 7 [(4, .int (nI (fr + 1))), (2, .int (bI (anyB f (fun i => anyB (mm + 1 - FL i) (fun fr => stA FL FW RW i fr)) || anyB (fr + 1) (fun r => stA FL FW RW f r)))), (0, .ref om), (1, .int (nI mm)), (3, .int (nI f)), (5, .int (bI (allB kk (fun i => RW (fr + i) == FW (f * 5 + i))))), (6, .int (nI kk))] := by rw [show (anyB f (fun i => anyB (mm + 1 - FL i) (fun fr => stA FL FW RW i fr)) || anyB (fr + 1) (fun r => stA FL FW RW f r)) = true from by first | exact anyB_s1 c88 | exact anyB_s2 (hst.trans c93) | exact anyB_s3 c88 (hst.trans c93)]; exact hl
                        exact ih15 (fr + 1) (by omega) (by omega) ls (lv_sub hl [2, 3, 1, 4, 0] rfl)
                  · refine lv_iload hx hb (pc := 45) dX10_isBarred_45 (lv_at hl 5 rfl) ?_
                    refine nv_if_eq_b (a := (allB kk (fun i => RW (fr + i) == FW (f * 5 + i)))) (tgt := 78) hx hb (pc := 47) dX10_isBarred_47 (by decide) (fun c47 => ?_) (fun c47 => ?_)
                    · refine lv_iconst (v := nI 0) hx hb (pc := 78) dX10_isBarred_78 (by decide) ?_
                      refine lv_istore (lv' := [(5, .int (nI 0)), (0, .ref om), (1, .int (nI mm)), (2, .int (bI (anyB f (fun i => anyB (mm + 1 - FL i) (fun fr => stA FL FW RW i fr)) || anyB fr (fun r => stA FL FW RW f r)))), (3, .int (nI f)), (4, .int (nI fr)), (6, .int (nI kk))]) hx hb (pc := 79) dX10_isBarred_79 hl (by decide) rfl (fun ls hl => ?_)
                      refine lv_iinc (v := nI (kk + 1)) (lv' := [(6, .int (nI (kk + 1))), (5, .int (nI 0)), (0, .ref om), (1, .int (nI mm)), (2, .int (bI (anyB f (fun i => anyB (mm + 1 - FL i) (fun fr => stA FL FW RW i fr)) || anyB fr (fun r => stA FL FW RW f r)))), (3, .int (nI f)), (4, .int (nI fr))]) hx hb (pc := 81) dX10_isBarred_81 hl (k := 6) rfl (rr_inc _) (by decide) rfl (fun ls hl => ?_)
                      refine lv_goto (tgt := 34) hx hb (pc := 84) dX10_isBarred_84 (by decide) ?_
                      have hl : lv_has ls 7 [(6, .int (nI (kk + 1))), (5, .int (bI (allB (kk + 1) (fun i => RW (fr + i) == FW (f * 5 + i))))), (0, .ref om), (1, .int (nI mm)), (2, .int (bI (anyB f (fun i => anyB (mm + 1 - FL i) (fun fr => stA FL FW RW i fr)) || anyB fr (fun r => stA FL FW RW f r)))), (3, .int (nI f)), (4, .int (nI fr))] := by rw [show (allB (kk + 1) (fun i => RW (fr + i) == FW (f * 5 + i))) = false from by first | exact allB_s1 c47 | exact allB_s2 (beq_eq_false_iff_ne.mpr c71) | exact allB_s3 c47 (beq_iff_eq.mpr c71)]; exact hl
                      exact ih34 (kk + 1) (by omega) (by omega) ls (lv_sub hl [2, 3, 4, 5, 6, 1, 0] rfl)
                    · refine lv_aload_n hx hb (pc := 50) dX10_isBarred_50 rfl (lv_at hl 0 rfl) ?_
                      refine va_get (v := .ref (ad 11)) hx hb hts (inX10_isBarred_10) hown hKK.1 hP 0 rfl rfl 11 (by decide) (hts _ (List.mem_of_getElem? (i := 3) (by decide +kernel))) (fun _ h9 => h9) rfl (pc := 51) dX10_isBarred_51 ?_
                      refine lv_iload hx hb (pc := 54) dX10_isBarred_54 (lv_at hl 4 rfl) ?_
                      refine lv_iload hx hb (pc := 56) dX10_isBarred_56 (lv_at hl 6 rfl) ?_
                      refine nv_iadd (a := fr) (b := kk) hx hb (pc := 58) dX10_isBarred_58 ?_
                      refine nv_iald (v := nI (RW (fr + kk))) (i := (fr + kk)) hx hb hKK hP 8 rfl (by omega) (by decide) (rfl) (pc := 59) dX10_isBarred_59 ?_
                      refine lv_aload_n hx hb (pc := 60) dX10_isBarred_60 rfl (lv_at hl 0 rfl) ?_
                      refine va_get (v := .ref (ad 8)) hx hb hts (inX10_isBarred_10) hown hKK.1 hP 0 rfl rfl 8 (by decide) (hts _ (List.mem_of_getElem? (i := 4) (by decide +kernel))) (fun _ h9 => h9) rfl (pc := 61) dX10_isBarred_61 ?_
                      refine lv_iconst (v := nI 5) hx hb (pc := 64) dX10_isBarred_64 (by decide) ?_
                      refine lv_iload_n hx hb (pc := 65) dX10_isBarred_65 rfl (lv_at hl 3 rfl) ?_
                      refine nv_imul (a := 5) (b := f) hx hb (pc := 66) dX10_isBarred_66 ?_
                      refine lv_iload hx hb (pc := 67) dX10_isBarred_67 (lv_at hl 6 rfl) ?_
                      refine nv_iadd (a := (5 * f)) (b := kk) hx hb (pc := 69) dX10_isBarred_69 ?_
                      refine nv_iald (v := nI (FW (f * 5 + kk))) (i := ((5 * f) + kk)) hx hb hKK hP 6 rfl (by omega) (by decide) (congrArg (fun z => nI (FW (z + kk))) (Nat.mul_comm 5 f)) (pc := 70) dX10_isBarred_70 ?_
                      refine nv_icmp_ne (a := (RW (fr + kk))) (b := (FW (f * 5 + kk))) (tgt := 78) hx hb (pc := 71) dX10_isBarred_71 (by decide) (by have := hRW (fr + kk) (by omega); omega) (by have := f4 kk (by omega); omega) (fun c71 => ?_) (fun c71 => ?_)
                      · refine lv_iconst (v := nI 0) hx hb (pc := 78) dX10_isBarred_78 (by decide) ?_
                        refine lv_istore (lv' := [(5, .int (nI 0)), (0, .ref om), (1, .int (nI mm)), (2, .int (bI (anyB f (fun i => anyB (mm + 1 - FL i) (fun fr => stA FL FW RW i fr)) || anyB fr (fun r => stA FL FW RW f r)))), (3, .int (nI f)), (4, .int (nI fr)), (6, .int (nI kk))]) hx hb (pc := 79) dX10_isBarred_79 hl (by decide) rfl (fun ls hl => ?_)
                        refine lv_iinc (v := nI (kk + 1)) (lv' := [(6, .int (nI (kk + 1))), (5, .int (nI 0)), (0, .ref om), (1, .int (nI mm)), (2, .int (bI (anyB f (fun i => anyB (mm + 1 - FL i) (fun fr => stA FL FW RW i fr)) || anyB fr (fun r => stA FL FW RW f r)))), (3, .int (nI f)), (4, .int (nI fr))]) hx hb (pc := 81) dX10_isBarred_81 hl (k := 6) rfl (rr_inc _) (by decide) rfl (fun ls hl => ?_)
                        refine lv_goto (tgt := 34) hx hb (pc := 84) dX10_isBarred_84 (by decide) ?_
                        have hl : lv_has ls 7 [(6, .int (nI (kk + 1))), (5, .int (bI (allB (kk + 1) (fun i => RW (fr + i) == FW (f * 5 + i))))), (0, .ref om), (1, .int (nI mm)), (2, .int (bI (anyB f (fun i => anyB (mm + 1 - FL i) (fun fr => stA FL FW RW i fr)) || anyB fr (fun r => stA FL FW RW f r)))), (3, .int (nI f)), (4, .int (nI fr))] := by rw [show (allB (kk + 1) (fun i => RW (fr + i) == FW (f * 5 + i))) = false from by first | exact allB_s1 c47 | exact allB_s2 (beq_eq_false_iff_ne.mpr c71) | exact allB_s3 c47 (beq_iff_eq.mpr c71)]; exact hl
                        exact ih34 (kk + 1) (by omega) (by omega) ls (lv_sub hl [2, 3, 4, 5, 6, 1, 0] rfl)
                      · refine lv_iconst (v := nI 1) hx hb (pc := 74) dX10_isBarred_74 (by decide) ?_
                        refine lv_goto (tgt := 79) hx hb (pc := 75) dX10_isBarred_75 (by decide) ?_
                        refine lv_istore (lv' := [(5, .int (nI 1)), (0, .ref om), (1, .int (nI mm)), (2, .int (bI (anyB f (fun i => anyB (mm + 1 - FL i) (fun fr => stA FL FW RW i fr)) || anyB fr (fun r => stA FL FW RW f r)))), (3, .int (nI f)), (4, .int (nI fr)), (6, .int (nI kk))]) hx hb (pc := 79) dX10_isBarred_79 hl (by decide) rfl (fun ls hl => ?_)
                        refine lv_iinc (v := nI (kk + 1)) (lv' := [(6, .int (nI (kk + 1))), (5, .int (nI 1)), (0, .ref om), (1, .int (nI mm)), (2, .int (bI (anyB f (fun i => anyB (mm + 1 - FL i) (fun fr => stA FL FW RW i fr)) || anyB fr (fun r => stA FL FW RW f r)))), (3, .int (nI f)), (4, .int (nI fr))]) hx hb (pc := 81) dX10_isBarred_81 hl (k := 6) rfl (rr_inc _) (by decide) rfl (fun ls hl => ?_)
                        refine lv_goto (tgt := 34) hx hb (pc := 84) dX10_isBarred_84 (by decide) ?_
                        have hl : lv_has ls 7 [(6, .int (nI (kk + 1))), (5, .int (bI (allB (kk + 1) (fun i => RW (fr + i) == FW (f * 5 + i))))), (0, .ref om), (1, .int (nI mm)), (2, .int (bI (anyB f (fun i => anyB (mm + 1 - FL i) (fun fr => stA FL FW RW i fr)) || anyB fr (fun r => stA FL FW RW f r)))), (3, .int (nI f)), (4, .int (nI fr))] := by rw [show (allB (kk + 1) (fun i => RW (fr + i) == FW (f * 5 + i))) = true from by first | exact allB_s1 c47 | exact allB_s2 (beq_eq_false_iff_ne.mpr c71) | exact allB_s3 c47 (beq_iff_eq.mpr c71)]; exact hl
                        exact ih34 (kk + 1) (by omega) (by omega) ls (lv_sub hl [2, 3, 4, 5, 6, 1, 0] rfl)
              have hl : lv_has ls 7 [(6, .int (nI 0)), (5, .int (bI (allB 0 (fun i => RW (fr + i) == FW (f * 5 + i))))), (0, .ref om), (1, .int (nI mm)), (2, .int (bI (anyB f (fun i => anyB (mm + 1 - FL i) (fun fr => stA FL FW RW i fr)) || anyB fr (fun r => stA FL FW RW f r)))), (3, .int (nI f)), (4, .int (nI fr))] := by rw [show (allB 0 (fun i => RW (fr + i) == FW (f * 5 + i))) = true from rfl]; exact hl
              exact L34 (6) 0 (by omega) (Nat.zero_le _) ls (lv_sub hl [2, 3, 4, 5, 6, 1, 0] rfl)
        have hl : lv_has ls 7 [(4, .int (nI 0)), (0, .ref om), (1, .int (nI mm)), (2, .int (bI (anyB f (fun i => anyB (mm + 1 - FL i) (fun fr => stA FL FW RW i fr)) || anyB 0 (fun r => stA FL FW RW f r)))), (3, .int (nI f))] := by rw [show (anyB f (fun i => anyB (mm + 1 - FL i) (fun fr => stA FL FW RW i fr)) || anyB 0 (fun r => stA FL FW RW f r)) = (anyB f (fun i => anyB (mm + 1 - FL i) (fun fr => stA FL FW RW i fr))) from Bool.or_false _]; exact hl
        exact L15 (7) 0 (by omega) (Nat.zero_le _) ls (lv_sub hl [1, 2, 3, 4, 0] rfl)
  have hl : lv_has ls 7 [(3, .int (nI 0)), (2, .int (bI (anyB 0 (fun i => anyB (mm + 1 - FL i) (fun fr => stA FL FW RW i fr))))), (0, .ref om), (1, .int (nI mm))] := by rw [show (anyB 0 (fun i => anyB (mm + 1 - FL i) (fun fr => stA FL FW RW i fr))) = false from rfl]; exact hl
  exact L4 (9) 0 (by omega) (Nat.zero_le _) ls (lv_sub hl [2, 3, 1, 0] rfl)

abbrev rmX10_byWords : Room := { frames := 1, cells := 0, slots := 0, locals := 26 }
theorem inX10_byWords_10 : ∀ w ∈ wsX100, w ∈ wsX10_byWords := fun _ h => List.mem_cons_of_mem _ (List.mem_append_right _ h)
set_option maxHeartbeats 4000000 in
set_option maxRecDepth 100000 in
theorem c_X10_byWords (l : Launch) (K : rr_K) (A : Nat → Prop) (om : Nat) (ad : Nat → Nat) (ns wl nf wd mt : Nat) (kF nF yF WD FL FW TD RW pl nw xt vF wF qF bY gF : Nat → Nat) (nm xm : Nat → Int64) (fR oF hF dF : Nat → Int32) (x : Int32) (hns : ns ≤ 6) (hF9 : FOK nf FL FW) (hD : va_D A (XM K om ad ns wl nf wd mt kF nF yF WD FL FW TD RW pl nw xt vF wF qF bY gF nm xm fR oF hF dF)) : MetR l K yX10_byWords wsX10_byWords rmX10_byWords [.ref om, .int x] (fun H => va_P K.1 vwCl (XM K om ad ns wl nf wd mt kF nF yF WD FL FW TD RW pl nw xt vF wF qF bY gF nm xm fR oF hF dF) H) A (fun v H => v = .int (bywA ns nf FL FW x) ∧ ∃ RW', va_P K.1 vwCl (XM K om ad (cond (bywOK ns nf FL FW x) (ns + 1) ns) wl nf wd mt (cond (bywOK ns nf FL FW x) (va_up kF ns (cN x)) kF) (cond (bywOK ns nf FL FW x) (va_up nF ns (bywN nf FL x)) nF) (cond (bywOK ns nf FL FW x) (stE yF (64 * ns) (bywE nf FL FW x)) yF) WD FL FW TD RW' pl nw xt vF wF qF bY gF nm xm fR oF hF dF) H) 0 0 := by
  refine metR_of (cc := cX10_byWords) (maxL := 9) (ret := (some .int)) (rt := .int) (by decide) rfl rfl rfl rfl (Nat.le_of_ble_eq_true rfl) ?_
  intro p e s m args below meth c Q ls hEnt hKK hX hret hl
  obtain ⟨hx, hb, hml, hown, hts⟩ := hEnt
  have hP : va_P K.1 vwCl (XM K om ad ns wl nf wd mt kF nF yF WD FL FW TD RW pl nw xt vF wF qF bY gF nm xm fR oF hF dF) s.heap := hX
  have hl : lv_has ls 9 [(0, .ref om), (1, .int x)] := hl
  have hS : va_S A s.heap s.heap [] := va_S.rf
  have hnf := hF9.1
  refine lv_iload_n hx hb (pc := 0) dX10_byWords_0 rfl (lv_at hl 1 rfl) ?_
  refine lv_iconst (v := nI 2) hx hb (pc := 1) dX10_byWords_1 (by decide) ?_
  refine lv_iconst (v := nI 4) hx hb (pc := 2) dX10_byWords_2 (by decide) ?_
  refine rr_callP (rv := .int (bI (rrin x (nI 2) (nI 4)))) (pc := 3) (va_runS (As := [.int x, .int (nI 2), .int (nI 4)]) (rest := []) ⟨hx, hb, hml, hown, hts⟩ (c_X10_in l K x (nI 2) (nI 4)) (cwS 3 hts gX10_byWords_X10_in rfl rfl rfl (by decide +kernel) ⟨Nat.le_of_ble_eq_true rfl, Nat.le_of_ble_eq_true rfl⟩) (rr_preS hKK (trivial)) rfl rfl hl.1 rfl (lv_room (Nat.le_of_ble_eq_true rfl)) dX10_byWords_3 ⟨Nat.le_refl _, Nat.le_refl _⟩) ?_
  refine nv_if_ne_b (a := (rrin x (nI 2) (nI 4))) (tgt := 12) hx hb (pc := 6) dX10_byWords_6 (by decide) (fun c6 => ?_) (fun c6 => ?_)
  · obtain ⟨k, hk1, hk2, rfl⟩ := rrin_Nat (by decide) (by decide) c6
    have eck : cN (nI k) = k := cN_nI (by omega)
    have hlM := lM_in hF9
    refine lv_iconst (v := nI 2) hx hb (pc := 12) dX10_byWords_12 (by decide) ?_
    refine lv_istore_n (lv' := [(2, .int (nI 2)), (0, .ref om), (1, .int (nI k))]) hx hb (pc := 13) dX10_byWords_13 rfl hl (by decide) rfl (fun ls hl => ?_)
    refine lv_iconst (v := nI 0) hx hb (pc := 14) dX10_byWords_14 (by decide) ?_
    refine lv_istore_n (lv' := [(3, .int (nI 0)), (2, .int (nI 2)), (0, .ref om), (1, .int (nI k))]) hx hb (pc := 15) dX10_byWords_15 rfl hl (by decide) rfl (fun ls hl => ?_)
    have L16 : ∀ (fz : Nat) (f : Nat) (H : Heap) (locs : List Loc) (hP : va_P K.1 vwCl (XM K om ad ns wl nf wd mt kF nF yF WD FL FW TD RW pl nw xt vF wF qF bY gF nm xm fR oF hF dF) H) (hD : va_D A (XM K om ad ns wl nf wd mt kF nF yF WD FL FW TD RW pl nw xt vF wF qF bY gF nm xm fR oF hF dF)) (hS : va_S A s.heap H locs) (hfz : nf - f < fz) (hf : f ≤ nf) (hlt : ∀ i, i < f → ∀ j, j < FL i → FW (i * 5 + j) < k) (ls : Array Slot) (hl : lv_has ls 9 [(0, .ref om), (1, .int (nI k)), (2, .int (nI (lM f FL))), (3, .int (nI f))]), W p l e rmX10_byWords s m args below meth c H locs 0 0 Q (F0 m 16 ls []) := by
      intro fz; induction fz with
      | zero => intro f H locs hP hD hS hfz hf hlt ls hl; exact absurd hfz (Nat.not_lt_zero _)
      | succ fz ih16 =>
        intro f H locs hP hD hS hfz hf hlt ls hl
        obtain ⟨hl1, hl2⟩ : 2 ≤ lM f FL ∧ lM f FL ≤ 5 := hlM f hf
        refine lv_iload_n hx hb (pc := 16) dX10_byWords_16 rfl (lv_at hl 3 rfl) ?_
        refine lv_aload_n hx hb (pc := 17) dX10_byWords_17 rfl (lv_at hl 0 rfl) ?_
        refine va_get (v := .int (nI nf)) hx hb hts (inX10_byWords_10) hown hKK.1 hP 0 rfl rfl 6 (by decide) (hts _ (List.mem_of_getElem? (i := 1) (by decide +kernel))) (fun _ h9 => h9) rfl (pc := 18) dX10_byWords_18 ?_
        refine nv_icmp_ge (a := f) (b := nf) (tgt := 89) hx hb (pc := 21) dX10_byWords_21 (by decide) (by omega) (by omega) (fun c21 => ?_) (fun c21 => ?_)
        · have e9 : f = nf := by omega
          rw [e9] at hlt
          obtain ⟨mm, hmm⟩ : ∃ mm, mm = lM nf FL := ⟨_, rfl⟩
          obtain ⟨hl3, hl4⟩ : 2 ≤ lM nf FL ∧ lM nf FL ≤ 5 := hlM nf (Nat.le_refl _)
          rw [← hmm] at hl3 hl4
          have hcb : bywC nf FL FW (nI k) = true := by unfold bywC; rw [c6, eck, decide_eq_true (gL_all (by omega) hlt)]; rfl
          have hbn : bywN nf FL (nI k) = (k ^ (mm - 1)) := by unfold bywN; rw [eck, hmm]
          have hpw : ∀ i, i ≤ 5 → k ^ (i - 1) ≤ 256 := fun i hi => Nat.le_trans (Nat.pow_le_pow_left hk2 _) (Nat.le_trans (Nat.pow_le_pow_right (by decide) (show i - 1 ≤ 4 by omega)) (by decide))
          refine lv_iconst (v := nI 1) hx hb (pc := 89) dX10_byWords_89 (by decide) ?_
          refine lv_istore_n (lv' := [(3, .int (nI 1)), (0, .ref om), (1, .int (nI k)), (2, .int (nI (lM f FL)))]) hx hb (pc := 90) dX10_byWords_90 rfl hl (by decide) rfl (fun ls hl => ?_)
          refine lv_iconst (v := nI 1) hx hb (pc := 91) dX10_byWords_91 (by decide) ?_
          refine lv_istore (lv' := [(4, .int (nI 1)), (3, .int (nI 1)), (0, .ref om), (1, .int (nI k)), (2, .int (nI (lM f FL)))]) hx hb (pc := 92) dX10_byWords_92 hl (by decide) rfl (fun ls hl => ?_)
          have L94 : ∀ (fz : Nat) (i : Nat) (H : Heap) (locs : List Loc) (hP : va_P K.1 vwCl (XM K om ad ns wl nf wd mt kF nF yF WD FL FW TD RW pl nw xt vF wF qF bY gF nm xm fR oF hF dF) H) (hD : va_D A (XM K om ad ns wl nf wd mt kF nF yF WD FL FW TD RW pl nw xt vF wF qF bY gF nm xm fR oF hF dF)) (hS : va_S A s.heap H locs) (hfz : mm - i < fz) (hi1 : 1 ≤ i) (hi : i ≤ mm) (ls : Array Slot) (hl : lv_has ls 9 [(0, .ref om), (1, .int (nI k)), (2, .int (nI mm)), (3, .int (nI (k ^ (i - 1)))), (4, .int (nI i))]), W p l e rmX10_byWords s m args below meth c H locs 0 0 Q (F0 m 94 ls []) := by
            intro fz; induction fz with
            | zero => intro i H locs hP hD hS hfz hi1 hi ls hl; exact absurd hfz (Nat.not_lt_zero _)
            | succ fz ih94 =>
              intro i H locs hP hD hS hfz hi1 hi ls hl
              refine lv_iload hx hb (pc := 94) dX10_byWords_94 (lv_at hl 4 rfl) ?_
              refine lv_iload_n hx hb (pc := 96) dX10_byWords_96 rfl (lv_at hl 2 rfl) ?_
              refine nv_icmp_ge (a := i) (b := mm) (tgt := 110) hx hb (pc := 97) dX10_byWords_97 (by decide) (by omega) (by omega) (fun c97 => ?_) (fun c97 => ?_)
              · obtain rfl : mm = i := by omega
                have hp7 := hpw mm hl4
                refine lv_iload_n hx hb (pc := 110) dX10_byWords_110 rfl (lv_at hl 3 rfl) ?_
                refine lv_bipush (v := nI 16) hx hb (pc := 111) dX10_byWords_111 (by decide) ?_
                refine nv_icmp_le (a := (k ^ (mm - 1))) (b := 16) (tgt := 119) hx hb (pc := 113) dX10_byWords_113 (by decide) (by omega) (by omega) (fun c113 => ?_) (fun c113 => ?_)
                · refine lv_aload_n hx hb (pc := 119) dX10_byWords_119 rfl (lv_at hl 0 rfl) ?_
                  refine va_get (v := .int (nI ns)) hx hb hts (inX10_byWords_10) hown hKK.1 hP 0 rfl rfl 0 (by decide) (hts _ (List.mem_of_getElem? (i := 4) (by decide +kernel))) (fun _ h9 => h9) rfl (pc := 120) dX10_byWords_120 ?_
                  refine lv_bipush (v := nI 6) hx hb (pc := 123) dX10_byWords_123 (by decide) ?_
                  refine nv_icmp_ne (a := ns) (b := 6) (tgt := 131) hx hb (pc := 125) dX10_byWords_125 (by decide) (by omega) (by omega) (fun c125 => ?_) (fun c125 => ?_)
                  · refine lv_aload_n hx hb (pc := 131) dX10_byWords_131 rfl (lv_at hl 0 rfl) ?_
                    refine lv_iload_n hx hb (pc := 132) dX10_byWords_132 rfl (lv_at hl 1 rfl) ?_
                    refine lv_iload_n hx hb (pc := 133) dX10_byWords_133 rfl (lv_at hl 3 rfl) ?_
                    refine rr_callR (pc := 134) (va_runV (As := [.int (nI k), .int (nI (k ^ (mm - 1)))]) (rest := []) ⟨hx, hb, hml, hown, hts⟩ (c_X10_newSet l K A om ad ns wl nf wd mt kF nF yF WD FL FW TD RW pl nw xt vF wF qF bY gF nm xm fR oF hF dF k (k ^ (mm - 1)) (by omega) hD) (cwV 2 hts gX10_byWords_X10_newSet rfl rfl rfl (by decide +kernel) ⟨Nat.le_of_ble_eq_true rfl, Nat.le_of_ble_eq_true rfl⟩) (rr_preV hKK (hP) (va_recv hKK.1 hP (ci := 10) (q0 := 0) rfl rfl)) rfl rfl hl.1 rfl (lv_room (Nat.le_of_ble_eq_true rfl)) dX10_byWords_134 ⟨by omega, by omega⟩) hS (fun _ h => h) (fun v H locs hY hsz hfr hS => ?_)
                    obtain ⟨rfl, hP⟩ := hY
                    have hD : va_D A (XM K om ad (ns + 1) wl nf wd mt (va_up kF ns k) (va_up nF ns (k ^ (mm - 1))) (zrF yF (64 * ns) 64) WD FL FW TD RW pl nw xt vF wF qF bY gF nm xm fR oF hF dF) := rr_D hD rfl
                    have hP : va_P K.1 vwCl (XM K om ad (ns + 1) wl nf wd mt (va_up kF ns k) (va_up nF ns (k ^ (mm - 1))) (zrF yF (64 * ns) 64) WD FL FW TD RW pl nw xt vF wF qF bY gF nm xm fR oF hF dF) H := hP
                    have hn16 : (k ^ (mm - 1)) ≤ 16 := by omega
                    have hn1 : 0 < (k ^ (mm - 1)) := Nat.pow_pos (by omega)
                    have hok : bywOK ns nf FL FW (nI k) = true := by unfold bywOK; rw [hcb, hbn, decide_eq_true hn16, decide_eq_false (by omega)]; rfl
                    refine lv_istore (lv' := [(4, .int (nI ns)), (0, .ref om), (1, .int (nI k)), (2, .int (nI mm)), (3, .int (nI (k ^ (mm - 1))))]) hx hb (pc := 137) dX10_byWords_137 hl (by decide) rfl (fun ls hl => ?_)
                    refine lv_iconst (v := nI 0) hx hb (pc := 139) dX10_byWords_139 (by decide) ?_
                    refine lv_istore (lv' := [(5, .int (nI 0)), (4, .int (nI ns)), (0, .ref om), (1, .int (nI k)), (2, .int (nI mm)), (3, .int (nI (k ^ (mm - 1))))]) hx hb (pc := 140) dX10_byWords_140 hl (by decide) rfl (fun ls hl => ?_)
                    have L142 : ∀ (fz : Nat) (q : Nat) (RW1 : Nat → Nat) (H : Heap) (locs : List Loc) (hP : va_P K.1 vwCl (XM K om ad (ns + 1) wl nf wd mt (va_up kF ns k) (va_up nF ns (k ^ (mm - 1))) (stE yF (64 * ns) (lyE k (k ^ (mm - 1)) (lyB nf FL FW k mm) (q * k))) WD FL FW TD RW1 pl nw xt vF wF qF bY gF nm xm fR oF hF dF) H) (hD : va_D A (XM K om ad (ns + 1) wl nf wd mt (va_up kF ns k) (va_up nF ns (k ^ (mm - 1))) (stE yF (64 * ns) (lyE k (k ^ (mm - 1)) (lyB nf FL FW k mm) (q * k))) WD FL FW TD RW1 pl nw xt vF wF qF bY gF nm xm fR oF hF dF)) (hS : va_S A s.heap H locs) (hfz : (k ^ (mm - 1)) - q < fz) (hq : q ≤ (k ^ (mm - 1))) (ls : Array Slot) (hl : lv_has ls 9 [(0, .ref om), (1, .int (nI k)), (2, .int (nI mm)), (3, .int (nI (k ^ (mm - 1)))), (4, .int (nI ns)), (5, .int (nI q))]), W p l e rmX10_byWords s m args below meth c H locs 0 0 Q (F0 m 142 ls []) := by
                      intro fz; induction fz with
                      | zero => intro q RW1 H locs hP hD hS hfz hq ls hl; exact absurd hfz (Nat.not_lt_zero _)
                      | succ fz ih142 =>
                        intro q RW1 H locs hP hD hS hfz hq ls hl
                        refine lv_iload hx hb (pc := 142) dX10_byWords_142 (lv_at hl 5 rfl) ?_
                        refine lv_iload_n hx hb (pc := 144) dX10_byWords_144 rfl (lv_at hl 3 rfl) ?_
                        refine nv_icmp_ge (a := q) (b := (k ^ (mm - 1))) (tgt := 254) hx hb (pc := 145) dX10_byWords_145 (by decide) (by omega) (by omega) (fun c145 => ?_) (fun c145 => ?_)
                        · refine lv_iload hx hb (pc := 254) dX10_byWords_254 (lv_at hl 4 rfl) ?_
                          have e6 : q = (k ^ (mm - 1)) := by omega
                          exact hret.1 _ _ 0 0 256 _ (nI ns) dX10_byWords_256 (by omega) (by omega) hS (⟨by unfold bywA; rw [if_pos hcb, hbn, if_pos hn16, if_neg (by omega)], _, by rw [hok]; unfold bywE; rw [hbn, eck, ← hmm]; rw [e6] at hP; exact hP⟩) (rfl)
                        · refine lv_iconst (v := nI 0) hx hb (pc := 148) dX10_byWords_148 (by decide) ?_
                          refine lv_istore (lv' := [(6, .int (nI 0)), (0, .ref om), (1, .int (nI k)), (2, .int (nI mm)), (3, .int (nI (k ^ (mm - 1)))), (4, .int (nI ns)), (5, .int (nI q))]) hx hb (pc := 149) dX10_byWords_149 hl (by decide) rfl (fun ls hl => ?_)
                          have L151 : ∀ (fz : Nat) (y : Nat) (RW2 : Nat → Nat) (H : Heap) (locs : List Loc) (hP : va_P K.1 vwCl (XM K om ad (ns + 1) wl nf wd mt (va_up kF ns k) (va_up nF ns (k ^ (mm - 1))) (stE yF (64 * ns) (lyE k (k ^ (mm - 1)) (lyB nf FL FW k mm) (q * k + y))) WD FL FW TD RW2 pl nw xt vF wF qF bY gF nm xm fR oF hF dF) H) (hD : va_D A (XM K om ad (ns + 1) wl nf wd mt (va_up kF ns k) (va_up nF ns (k ^ (mm - 1))) (stE yF (64 * ns) (lyE k (k ^ (mm - 1)) (lyB nf FL FW k mm) (q * k + y))) WD FL FW TD RW2 pl nw xt vF wF qF bY gF nm xm fR oF hF dF)) (hS : va_S A s.heap H locs) (hfz : k - y < fz) (hy : y ≤ k) (ls : Array Slot) (hl : lv_has ls 9 [(0, .ref om), (1, .int (nI k)), (2, .int (nI mm)), (3, .int (nI (k ^ (mm - 1)))), (4, .int (nI ns)), (5, .int (nI q)), (6, .int (nI y))]), W p l e rmX10_byWords s m args below meth c H locs 0 0 Q (F0 m 151 ls []) := by
                            intro fz; induction fz with
                            | zero => intro y RW2 H locs hP hD hS hfz hy ls hl; exact absurd hfz (Nat.not_lt_zero _)
                            | succ fz ih151 =>
                              intro y RW2 H locs hP hD hS hfz hy ls hl
                              refine lv_iload hx hb (pc := 151) dX10_byWords_151 (lv_at hl 6 rfl) ?_
                              refine lv_iload_n hx hb (pc := 153) dX10_byWords_153 rfl (lv_at hl 1 rfl) ?_
                              refine nv_icmp_ge (a := y) (b := k) (tgt := 248) hx hb (pc := 154) dX10_byWords_154 (by decide) (by omega) (by omega) (fun c154 => ?_) (fun c154 => ?_)
                              · refine lv_iinc (v := nI (q + 1)) (lv' := [(5, .int (nI (q + 1))), (0, .ref om), (1, .int (nI k)), (2, .int (nI mm)), (3, .int (nI (k ^ (mm - 1)))), (4, .int (nI ns)), (6, .int (nI y))]) hx hb (pc := 248) dX10_byWords_248 hl (k := 5) rfl (rr_inc _) (by decide) rfl (fun ls hl => ?_)
                                refine lv_goto (tgt := 142) hx hb (pc := 251) dX10_byWords_251 (by decide) ?_
                                have e7 : y = k := by omega
                                rw [show q * k + y = (q + 1) * k by rw [e7, Nat.add_mul, Nat.one_mul]] at hP hD
                                exact ih142 (q + 1) RW2 _ _ hP hD hS (by omega) (by omega) ls (lv_sub hl [1, 2, 3, 4, 5, 0] rfl)
                              · refine lv_iload hx hb (pc := 157) dX10_byWords_157 (lv_at hl 5 rfl) ?_
                                refine lv_istore (lv' := [(7, .int (nI q)), (0, .ref om), (1, .int (nI k)), (2, .int (nI mm)), (3, .int (nI (k ^ (mm - 1)))), (4, .int (nI ns)), (5, .int (nI q)), (6, .int (nI y))]) hx hb (pc := 159) dX10_byWords_159 hl (by decide) rfl (fun ls hl => ?_)
                                refine lv_iload_n hx hb (pc := 161) dX10_byWords_161 rfl (lv_at hl 3 rfl) ?_
                                refine lv_iconst (v := nI 2) hx hb (pc := 162) dX10_byWords_162 (by decide) ?_
                                refine nv_isub (a := mm) (b := 2) hx hb (pc := 163) dX10_byWords_163 (by omega) ?_
                                refine rr_top (v := .int (dI (mm - 1))) (by rw [show mm - 1 = (mm - 2) + 1 by omega, dI_succ]) ?_
                                refine lv_istore (lv' := [(8, .int (dI (mm - 1))), (7, .int (nI q)), (0, .ref om), (1, .int (nI k)), (2, .int (nI mm)), (3, .int (nI (k ^ (mm - 1)))), (4, .int (nI ns)), (5, .int (nI q)), (6, .int (nI y))]) hx hb (pc := 164) dX10_byWords_164 hl (by decide) rfl (fun ls hl => ?_)
                                have L166 : ∀ (fz : Nat) (t : Nat) (RW3 : Nat → Nat) (H : Heap) (locs : List Loc) (hP : va_P K.1 vwCl (XM K om ad (ns + 1) wl nf wd mt (va_up kF ns k) (va_up nF ns (k ^ (mm - 1))) (stE yF (64 * ns) (lyE k (k ^ (mm - 1)) (lyB nf FL FW k mm) (q * k + y))) WD FL FW TD RW3 pl nw xt vF wF qF bY gF nm xm fR oF hF dF) H) (hD : va_D A (XM K om ad (ns + 1) wl nf wd mt (va_up kF ns k) (va_up nF ns (k ^ (mm - 1))) (stE yF (64 * ns) (lyE k (k ^ (mm - 1)) (lyB nf FL FW k mm) (q * k + y))) WD FL FW TD RW3 pl nw xt vF wF qF bY gF nm xm fR oF hF dF)) (hS : va_S A s.heap H locs) (hfz : t < fz) (ht : t ≤ mm - 1) (hr3 : ∀ z, t ≤ z → z < mm - 1 → RW3 z = q / k ^ (mm - 2 - z) % k) (ls : Array Slot) (hl : lv_has ls 9 [(0, .ref om), (1, .int (nI k)), (2, .int (nI mm)), (3, .int (nI (k ^ (mm - 1)))), (4, .int (nI ns)), (5, .int (nI q)), (6, .int (nI y)), (7, .int (nI (q / k ^ (mm - 1 - t)))), (8, .int (dI t))]), W p l e rmX10_byWords s m args below meth c H locs 0 0 Q (F0 m 166 ls []) := by
                                  intro fz; induction fz with
                                  | zero => intro t RW3 H locs hP hD hS hfz ht hr3 ls hl; exact absurd hfz (Nat.not_lt_zero _)
                                  | succ fz ih166 =>
                                    intro t RW3 H locs hP hD hS hfz ht hr3 ls hl
                                    refine lv_iload hx hb (pc := 166) dX10_byWords_166 (lv_at hl 8 rfl) ?_
                                    refine lv_if_lt (tgt := 194) hx hb (pc := 168) dX10_byWords_168 (by decide) (fun c168 => ?_) (fun c168 => ?_)
                                    · obtain rfl := dI_lt c168 (by omega)
                                      refine lv_aload_n hx hb (pc := 194) dX10_byWords_194 rfl (lv_at hl 0 rfl) ?_
                                      refine va_get (v := .ref (ad 11)) hx hb hts (inX10_byWords_10) hown hKK.1 hP 0 rfl rfl 11 (by decide) (hts _ (List.mem_of_getElem? (i := 5) (by decide +kernel))) (fun _ h9 => h9) rfl (pc := 195) dX10_byWords_195 ?_
                                      refine lv_iload_n hx hb (pc := 198) dX10_byWords_198 rfl (lv_at hl 2 rfl) ?_
                                      refine lv_iconst (v := nI 1) hx hb (pc := 199) dX10_byWords_199 (by decide) ?_
                                      refine nv_isub (a := mm) (b := 1) hx hb (pc := 200) dX10_byWords_200 (by omega) ?_
                                      refine lv_iload hx hb (pc := 201) dX10_byWords_201 (lv_at hl 6 rfl) ?_
                                      refine nv_iast (f := RW3) (x := y) (ws' := XM K om ad (ns + 1) wl nf wd mt (va_up kF ns k) (va_up nF ns (k ^ (mm - 1))) (stE yF (64 * ns) (lyE k (k ^ (mm - 1)) (lyB nf FL FW k mm) (q * k + y))) WD FL FW TD (va_up RW3 (mm - 1) y) pl nw xt vF wF qF bY gF nm xm fR oF hF dF) (i := (mm - 1)) hx hb hKK hP hD hS 8 rfl (by omega) (by decide) (rfl) (pc := 203) dX10_byWords_203 (fun H locs hP hD hS => ?_)
                                      have hr5 : ∀ z, z < mm - 1 → va_up RW3 (mm - 1) y z = q / k ^ (mm - 2 - z) % k := fun z hz => (va_up_ne _ _ (by omega)).trans (hr3 z (Nat.zero_le _) hz)
                                      have hst := stR_row (nf := nf) (FL := FL) (FW := FW) (show y < k by omega) hl3 hr5 (va_up_self _ _ _)
                                      have hr6 : ∀ z, z < mm → va_up RW3 (mm - 1) y z < 4 := by
                                        intro z hz
                                        rcases Nat.lt_or_ge z (mm - 1) with w | w
                                        · rw [hr5 z w]; exact Nat.lt_of_lt_of_le (Nat.mod_lt _ (by omega)) hk2
                                        · rw [show z = mm - 1 by omega, va_up_self]; omega
                                      refine lv_aload_n hx hb (pc := 204) dX10_byWords_204 rfl (lv_at hl 0 rfl) ?_
                                      refine lv_iload_n hx hb (pc := 205) dX10_byWords_205 rfl (lv_at hl 2 rfl) ?_
                                      refine rr_callP (rv := .int (bI (stR nf FL FW (va_up RW3 (mm - 1) y) mm))) (pc := 206) (va_runV (As := [.int (nI mm)]) (rest := []) ⟨hx, hb, hml, hown, hts⟩ (c_X10_isBarred l K om ad (ns + 1) wl nf wd mt (va_up kF ns k) (va_up nF ns (k ^ (mm - 1))) (stE yF (64 * ns) (lyE k (k ^ (mm - 1)) (lyB nf FL FW k mm) (q * k + y))) WD FL FW TD (va_up RW3 (mm - 1) y) pl nw xt vF wF qF bY gF nm xm fR oF hF dF mm hF9 hl4 hr6) (cwV 1 hts gX10_byWords_X10_isBarred rfl rfl rfl (by decide +kernel) ⟨Nat.le_of_ble_eq_true rfl, Nat.le_of_ble_eq_true rfl⟩) (rr_preV hKK (hP) (va_recv hKK.1 hP (ci := 10) (q0 := 0) rfl rfl)) rfl rfl hl.1 rfl (lv_room (Nat.le_of_ble_eq_true rfl)) dX10_byWords_206 ⟨Nat.le_refl _, Nat.le_refl _⟩) ?_
                                      refine nv_if_ne_b (a := (stR nf FL FW (va_up RW3 (mm - 1) y) mm)) (tgt := 242) hx hb (pc := 209) dX10_byWords_209 (by decide) (fun c209 => ?_) (fun c209 => ?_)
                                      · have hb9 := hst.symm.trans c209
                                        refine lv_iinc (v := nI (y + 1)) (lv' := [(6, .int (nI (y + 1))), (0, .ref om), (1, .int (nI k)), (2, .int (nI mm)), (3, .int (nI (k ^ (mm - 1)))), (4, .int (nI ns)), (5, .int (nI q)), (7, .int (nI (q / k ^ (mm - 1 - 0)))), (8, .int (dI 0))]) hx hb (pc := 242) dX10_byWords_242 hl (k := 6) rfl (rr_inc _) (by decide) rfl (fun ls hl => ?_)
                                        refine lv_goto (tgt := 151) hx hb (pc := 245) dX10_byWords_245 (by decide) ?_
                                        first
                                        | rw [← lyE_no hb9] at hP hD
                                        | skip
                                        exact ih151 (y + 1) (va_up RW3 (mm - 1) y) _ _ hP hD hS (by omega) (by omega) ls (lv_sub hl [1, 2, 3, 4, 5, 6, 0] rfl)
                                      · have hb9 := hst.symm.trans c209
                                        refine lv_aload_n hx hb (pc := 212) dX10_byWords_212 rfl (lv_at hl 0 rfl) ?_
                                        refine va_get (v := .ref (ad 3)) hx hb hts (inX10_byWords_10) hown hKK.1 hP 0 rfl rfl 3 (by decide) (hts _ (List.mem_of_getElem? (i := 6) (by decide +kernel))) (fun _ h9 => h9) rfl (pc := 213) dX10_byWords_213 ?_
                                        refine lv_iload hx hb (pc := 216) dX10_byWords_216 (lv_at hl 4 rfl) ?_
                                        refine lv_iload hx hb (pc := 218) dX10_byWords_218 (lv_at hl 5 rfl) ?_
                                        refine lv_iload hx hb (pc := 220) dX10_byWords_220 (lv_at hl 6 rfl) ?_
                                        refine rr_callP (rv := .int (nI (64 * ns + (q * 4 + y)))) (pc := 222) (va_runS (As := [.int (nI ns), .int (nI q), .int (nI y)]) (rest := [.ref (ad 3)]) ⟨hx, hb, hml, hown, hts⟩ (c_X10_at l K ns q y) (cwS 3 hts gX10_byWords_X10_at rfl rfl rfl (by decide +kernel) ⟨Nat.le_of_ble_eq_true rfl, Nat.le_of_ble_eq_true rfl⟩) (rr_preS hKK (trivial)) rfl rfl hl.1 rfl (lv_room (Nat.le_of_ble_eq_true rfl)) dX10_byWords_222 ⟨Nat.le_refl _, Nat.le_refl _⟩) ?_
                                        refine lv_dup2_11 hx hb (pc := 225) dX10_byWords_225 rfl rfl ?_
                                        refine nv_iald (v := nI (lyE k (k ^ (mm - 1)) (lyB nf FL FW k mm) (q * k + y) (q * 4 + y))) (i := (64 * ns + (q * 4 + y))) hx hb hKK hP 3 rfl (by omega) (by decide) (congrArg nI (stE_in (by omega))) (pc := 226) dX10_byWords_226 ?_
                                        refine lv_iconst (v := nI 1) hx hb (pc := 227) dX10_byWords_227 (by decide) ?_
                                        refine lv_iload hx hb (pc := 228) dX10_byWords_228 (lv_at hl 5 rfl) ?_
                                        refine lv_iload_n hx hb (pc := 230) dX10_byWords_230 rfl (lv_at hl 3 rfl) ?_
                                        refine lv_iload_n hx hb (pc := 231) dX10_byWords_231 rfl (lv_at hl 1 rfl) ?_
                                        refine nv_idiv (a := (k ^ (mm - 1))) (b := k) hx hb (pc := 232) dX10_byWords_232 (by omega) (by omega) (by omega) ?_
                                        have hdv9 : k ≤ (k ^ (mm - 1)) := by
                                          have h9 := Nat.pow_le_pow_right (n := k) (show 0 < k by omega) (show 1 ≤ mm - 1 by omega)
                                          rwa [Nat.pow_one] at h9
                                        have hdv8 : 0 < (k ^ (mm - 1)) / k := Nat.div_pos hdv9 (by omega)
                                        have hdv7 : (k ^ (mm - 1)) / k ≤ (k ^ (mm - 1)) := Nat.div_le_self _ _
                                        refine nv_irem (a := q) (b := ((k ^ (mm - 1)) / k)) hx hb (pc := 233) dX10_byWords_233 (by omega) (by omega) (by omega) ?_
                                        refine lv_iload_n hx hb (pc := 234) dX10_byWords_234 rfl (lv_at hl 1 rfl) ?_
                                        refine nv_imul (a := (q % ((k ^ (mm - 1)) / k))) (b := k) hx hb (pc := 235) dX10_byWords_235 ?_
                                        refine lv_iload hx hb (pc := 236) dX10_byWords_236 (lv_at hl 6 rfl) ?_
                                        refine nv_iadd (a := ((q % ((k ^ (mm - 1)) / k)) * k)) (b := y) hx hb (pc := 238) dX10_byWords_238 ?_
                                        have hto := row_to (k := k) (mm := mm) (q := q) (y := y) (by omega) hl3
                                        have htl := Nat.mod_lt (q * k + y) hn1
                                        refine nv_ishl (a := 1) (b := (((q % ((k ^ (mm - 1)) / k)) * k) + y)) hx hb (pc := 239) dX10_byWords_239 (by omega) ?_
                                        refine nv_ior (a := (lyE k (k ^ (mm - 1)) (lyB nf FL FW k mm) (q * k + y) (q * 4 + y))) (b := (1 <<< (((q % ((k ^ (mm - 1)) / k)) * k) + y))) hx hb (pc := 240) dX10_byWords_240 ?_
                                        refine nv_iast (f := (stE yF (64 * ns) (lyE k (k ^ (mm - 1)) (lyB nf FL FW k mm) (q * k + y)))) (x := ((lyE k (k ^ (mm - 1)) (lyB nf FL FW k mm) (q * k + y) (q * 4 + y)) ||| (1 <<< (((q % ((k ^ (mm - 1)) / k)) * k) + y)))) (ws' := XM K om ad (ns + 1) wl nf wd mt (va_up kF ns k) (va_up nF ns (k ^ (mm - 1))) (va_up (stE yF (64 * ns) (lyE k (k ^ (mm - 1)) (lyB nf FL FW k mm) (q * k + y))) (64 * ns + (q * 4 + y)) ((lyE k (k ^ (mm - 1)) (lyB nf FL FW k mm) (q * k + y) (q * 4 + y)) ||| (1 <<< (((q % ((k ^ (mm - 1)) / k)) * k) + y)))) WD FL FW TD (va_up RW3 (mm - 1) y) pl nw xt vF wF qF bY gF nm xm fR oF hF dF) (i := (64 * ns + (q * 4 + y))) hx hb hKK hP hD hS 3 rfl (by omega) (by decide) (rfl) (pc := 241) dX10_byWords_241 (fun H locs hP hD hS => ?_)
                                        rw [hto, show 64 * ns + (q * 4 + y) = 64 * ns + (q * 4 + y) from rfl, stE_up (by omega), ly_or (by omega) hk2 hb9] at hP hD
                                        refine lv_iinc (v := nI (y + 1)) (lv' := [(6, .int (nI (y + 1))), (0, .ref om), (1, .int (nI k)), (2, .int (nI mm)), (3, .int (nI (k ^ (mm - 1)))), (4, .int (nI ns)), (5, .int (nI q)), (7, .int (nI (q / k ^ (mm - 1 - 0)))), (8, .int (dI 0))]) hx hb (pc := 242) dX10_byWords_242 hl (k := 6) rfl (rr_inc _) (by decide) rfl (fun ls hl => ?_)
                                        refine lv_goto (tgt := 151) hx hb (pc := 245) dX10_byWords_245 (by decide) ?_
                                        first
                                        | rw [← lyE_no hb9] at hP hD
                                        | skip
                                        exact ih151 (y + 1) (va_up RW3 (mm - 1) y) _ _ hP hD hS (by omega) (by omega) ls (lv_sub hl [1, 2, 3, 4, 5, 6, 0] rfl)
                                    · obtain ⟨i, rfl⟩ := dI_ge c168
                                      have hl : lv_has ls 9 [(0, .ref om), (1, .int (nI k)), (2, .int (nI mm)), (3, .int (nI (k ^ (mm - 1)))), (4, .int (nI ns)), (5, .int (nI q)), (6, .int (nI y)), (7, .int (nI (q / k ^ (mm - 1 - (i + 1))))), (8, .int (nI i))] := by rw [← dI_succ i]; exact hl
                                      have hdv : q / k ^ (mm - 1 - (i + 1)) ≤ q := Nat.div_le_self _ _
                                      refine lv_aload_n hx hb (pc := 171) dX10_byWords_171 rfl (lv_at hl 0 rfl) ?_
                                      refine va_get (v := .ref (ad 11)) hx hb hts (inX10_byWords_10) hown hKK.1 hP 0 rfl rfl 11 (by decide) (hts _ (List.mem_of_getElem? (i := 5) (by decide +kernel))) (fun _ h9 => h9) rfl (pc := 172) dX10_byWords_172 ?_
                                      refine lv_iload hx hb (pc := 175) dX10_byWords_175 (lv_at hl 8 rfl) ?_
                                      refine lv_iload hx hb (pc := 177) dX10_byWords_177 (lv_at hl 7 rfl) ?_
                                      refine lv_iload_n hx hb (pc := 179) dX10_byWords_179 rfl (lv_at hl 1 rfl) ?_
                                      refine nv_irem (a := (q / k ^ (mm - 1 - (i + 1)))) (b := k) hx hb (pc := 180) dX10_byWords_180 (by omega) (by omega) (by omega) ?_
                                      refine nv_iast (f := RW3) (x := ((q / k ^ (mm - 1 - (i + 1))) % k)) (ws' := XM K om ad (ns + 1) wl nf wd mt (va_up kF ns k) (va_up nF ns (k ^ (mm - 1))) (stE yF (64 * ns) (lyE k (k ^ (mm - 1)) (lyB nf FL FW k mm) (q * k + y))) WD FL FW TD (va_up RW3 i ((q / k ^ (mm - 1 - (i + 1))) % k)) pl nw xt vF wF qF bY gF nm xm fR oF hF dF) (i := i) hx hb hKK hP hD hS 8 rfl (by omega) (by decide) (rfl) (pc := 181) dX10_byWords_181 (fun H locs hP hD hS => ?_)
                                      refine lv_iload hx hb (pc := 182) dX10_byWords_182 (lv_at hl 7 rfl) ?_
                                      refine lv_iload_n hx hb (pc := 184) dX10_byWords_184 rfl (lv_at hl 1 rfl) ?_
                                      refine nv_idiv (a := (q / k ^ (mm - 1 - (i + 1)))) (b := k) hx hb (pc := 185) dX10_byWords_185 (by omega) (by omega) (by omega) ?_
                                      refine lv_istore (lv' := [(7, .int (nI ((q / k ^ (mm - 1 - (i + 1))) / k))), (0, .ref om), (1, .int (nI k)), (2, .int (nI mm)), (3, .int (nI (k ^ (mm - 1)))), (4, .int (nI ns)), (5, .int (nI q)), (6, .int (nI y)), (8, .int (nI i))]) hx hb (pc := 186) dX10_byWords_186 hl (by decide) rfl (fun ls hl => ?_)
                                      refine lv_iinc (v := dI i) (lv' := [(8, .int (dI i)), (7, .int (nI ((q / k ^ (mm - 1 - (i + 1))) / k))), (0, .ref om), (1, .int (nI k)), (2, .int (nI mm)), (3, .int (nI (k ^ (mm - 1)))), (4, .int (nI ns)), (5, .int (nI q)), (6, .int (nI y))]) hx hb (pc := 188) dX10_byWords_188 hl (k := 8) rfl (rr_decr i) (by decide) rfl (fun ls hl => ?_)
                                      refine lv_goto (tgt := 166) hx hb (pc := 191) dX10_byWords_191 (by decide) ?_
                                      have hr4 : ∀ z, i ≤ z → z < mm - 1 → va_up RW3 i (q / k ^ (mm - 1 - (i + 1)) % k) z = q / k ^ (mm - 2 - z) % k := by
                                        intro z h1 h2
                                        unfold va_up
                                        split
                                        · rename_i e; rw [e, show mm - 1 - (i + 1) = mm - 2 - i by omega]
                                        · exact hr3 z (by omega) h2
                                      have hl : lv_has ls 9 [(8, .int (dI i)), (7, .int (nI (q / k ^ (mm - 1 - i)))), (0, .ref om), (1, .int (nI k)), (2, .int (nI mm)), (3, .int (nI (k ^ (mm - 1)))), (4, .int (nI ns)), (5, .int (nI q)), (6, .int (nI y))] := by rw [show q / k ^ (mm - 1 - i) = (q / k ^ (mm - 1 - (i + 1))) / k from by rw [Nat.div_div_eq_div_mul, ← Nat.pow_succ]; congr 2; omega]; exact hl
                                      exact ih166 i (va_up RW3 i ((q / k ^ (mm - 1 - (i + 1))) % k)) _ _ hP hD hS (by omega) (by omega) (hr4) ls (lv_sub hl [2, 3, 4, 5, 6, 7, 8, 1, 0] rfl)
                                have hl : lv_has ls 9 [(8, .int (dI (mm - 1))), (7, .int (nI (q / k ^ (mm - 1 - (mm - 1))))), (0, .ref om), (1, .int (nI k)), (2, .int (nI mm)), (3, .int (nI (k ^ (mm - 1)))), (4, .int (nI ns)), (5, .int (nI q)), (6, .int (nI y))] := by rw [show q / k ^ (mm - 1 - (mm - 1)) = q from by rw [Nat.sub_self, Nat.pow_zero, Nat.div_one]]; exact hl
                                exact L166 (6) (mm - 1) RW2 _ _ hP hD hS (by omega) (by omega) (fun z h1 h2 => absurd h2 (by omega)) ls (lv_sub hl [2, 3, 4, 5, 6, 7, 8, 1, 0] rfl)
                          rw [← Nat.add_zero (q * k)] at hP hD
                          exact L151 (5) 0 RW1 _ _ hP hD hS (by omega) (Nat.zero_le _) ls (lv_sub hl [1, 2, 3, 4, 5, 6, 0] rfl)
                    rw [zrF_stE, ← lyE_0 k (k ^ (mm - 1)) (lyB nf FL FW k mm), ← Nat.zero_mul k] at hP hD
                    exact L142 (17) 0 RW _ _ hP hD hS (by omega) (Nat.zero_le _) ls (lv_sub hl [2, 3, 4, 5, 1, 0] rfl)
                  · refine lv_bipush (v := -4) hx hb (pc := 128) dX10_byWords_128 (by decide) ?_
                    have hno : bywOK ns nf FL FW (nI k) = false := by unfold bywOK; rw [hcb, hbn, decide_eq_true (show k ^ (mm - 1) ≤ 16 by omega), decide_eq_true c125]; rfl
                    exact hret.1 _ _ 0 0 130 _ (-4) dX10_byWords_130 (by omega) (by omega) hS (⟨by unfold bywA; rw [if_pos hcb, hbn, if_pos (by omega), if_pos c125], _, by rw [hno]; exact hP⟩) (rfl)
                · refine lv_bipush (v := -3) hx hb (pc := 116) dX10_byWords_116 (by decide) ?_
                  have hno : bywOK ns nf FL FW (nI k) = false := by unfold bywOK; rw [hcb, hbn, decide_eq_false (by omega)]; rfl
                  exact hret.1 _ _ 0 0 118 _ (-3) dX10_byWords_118 (by omega) (by omega) hS (⟨by unfold bywA; rw [if_pos hcb, hbn, if_neg (by omega)], _, by rw [hno]; exact hP⟩) (rfl)
              · refine lv_iload_n hx hb (pc := 100) dX10_byWords_100 rfl (lv_at hl 3 rfl) ?_
                refine lv_iload_n hx hb (pc := 101) dX10_byWords_101 rfl (lv_at hl 1 rfl) ?_
                refine nv_imul (a := (k ^ (i - 1))) (b := k) hx hb (pc := 102) dX10_byWords_102 ?_
                refine lv_istore_n (lv' := [(3, .int (nI ((k ^ (i - 1)) * k))), (0, .ref om), (1, .int (nI k)), (2, .int (nI mm)), (4, .int (nI i))]) hx hb (pc := 103) dX10_byWords_103 rfl hl (by decide) rfl (fun ls hl => ?_)
                refine lv_iinc (v := nI (i + 1)) (lv' := [(4, .int (nI (i + 1))), (3, .int (nI ((k ^ (i - 1)) * k))), (0, .ref om), (1, .int (nI k)), (2, .int (nI mm))]) hx hb (pc := 104) dX10_byWords_104 hl (k := 4) rfl (rr_inc _) (by decide) rfl (fun ls hl => ?_)
                refine lv_goto (tgt := 94) hx hb (pc := 107) dX10_byWords_107 (by decide) ?_
                have hl : lv_has ls 9 [(4, .int (nI (i + 1))), (3, .int (nI (k ^ (i + 1 - 1)))), (0, .ref om), (1, .int (nI k)), (2, .int (nI mm))] := by rw [show k ^ (i + 1 - 1) = (k ^ (i - 1)) * k from by rw [show i + 1 - 1 = i - 1 + 1 by omega, Nat.pow_succ]]; exact hl
                exact ih94 (i + 1) _ _ hP hD hS (by omega) (by omega) (by omega) ls (lv_sub hl [2, 3, 4, 1, 0] rfl)
          have hl : lv_has ls 9 [(4, .int (nI 1)), (3, .int (nI 1)), (0, .ref om), (1, .int (nI k)), (2, .int (nI mm))] := by rw [show mm = lM f FL from by rw [hmm, e9]]; exact hl
          have hl : lv_has ls 9 [(4, .int (nI 1)), (3, .int (nI (k ^ (1 - 1)))), (0, .ref om), (1, .int (nI k)), (2, .int (nI mm))] := by rw [show k ^ (1 - 1) = 1 from by rw [Nat.sub_self, Nat.pow_zero]]; exact hl
          exact L94 (6) 1 _ _ hP hD hS (by omega) (by omega) (by omega) ls (lv_sub hl [2, 3, 4, 1, 0] rfl)
        · obtain ⟨f1, f5, f4⟩ := hF9.2 f (by omega)
          refine lv_aload_n hx hb (pc := 24) dX10_byWords_24 rfl (lv_at hl 0 rfl) ?_
          refine va_get (v := .ref (ad 7)) hx hb hts (inX10_byWords_10) hown hKK.1 hP 0 rfl rfl 7 (by decide) (hts _ (List.mem_of_getElem? (i := 2) (by decide +kernel))) (fun _ h9 => h9) rfl (pc := 25) dX10_byWords_25 ?_
          refine lv_iload_n hx hb (pc := 28) dX10_byWords_28 rfl (lv_at hl 3 rfl) ?_
          refine nv_iald (v := nI (FL f)) (i := f) hx hb hKK hP 5 rfl (by omega) (by decide) (rfl) (pc := 29) dX10_byWords_29 ?_
          refine lv_iload_n hx hb (pc := 30) dX10_byWords_30 rfl (lv_at hl 2 rfl) ?_
          refine nv_icmp_le (a := (FL f)) (b := (lM f FL)) (tgt := 43) hx hb (pc := 31) dX10_byWords_31 (by decide) (by omega) (by omega) (fun c31 => ?_) (fun c31 => ?_)
          · refine lv_iload_n hx hb (pc := 43) dX10_byWords_43 rfl (lv_at hl 2 rfl) ?_
            refine lv_istore_n (lv' := [(2, .int (nI (lM f FL))), (0, .ref om), (1, .int (nI k)), (3, .int (nI f))]) hx hb (pc := 44) dX10_byWords_44 rfl hl (by decide) rfl (fun ls hl => ?_)
            refine lv_iconst (v := nI 0) hx hb (pc := 45) dX10_byWords_45 (by decide) ?_
            refine lv_istore (lv' := [(4, .int (nI 0)), (2, .int (nI (lM f FL))), (0, .ref om), (1, .int (nI k)), (3, .int (nI f))]) hx hb (pc := 46) dX10_byWords_46 hl (by decide) rfl (fun ls hl => ?_)
            have L48 : ∀ (fz : Nat) (i : Nat) (H : Heap) (locs : List Loc) (hP : va_P K.1 vwCl (XM K om ad ns wl nf wd mt kF nF yF WD FL FW TD RW pl nw xt vF wF qF bY gF nm xm fR oF hF dF) H) (hD : va_D A (XM K om ad ns wl nf wd mt kF nF yF WD FL FW TD RW pl nw xt vF wF qF bY gF nm xm fR oF hF dF)) (hS : va_S A s.heap H locs) (hfz : FL f - i < fz) (hi : i ≤ FL f) (hlt2 : ∀ j, j < i → FW (f * 5 + j) < k) (ls : Array Slot) (hl : lv_has ls 9 [(0, .ref om), (1, .int (nI k)), (2, .int (nI (lM (f + 1) FL))), (3, .int (nI f)), (4, .int (nI i))]), W p l e rmX10_byWords s m args below meth c H locs 0 0 Q (F0 m 48 ls []) := by
              intro fz; induction fz with
              | zero => intro i H locs hP hD hS hfz hi hlt2 ls hl; exact absurd hfz (Nat.not_lt_zero _)
              | succ fz ih48 =>
                intro i H locs hP hD hS hfz hi hlt2 ls hl
                refine lv_iload hx hb (pc := 48) dX10_byWords_48 (lv_at hl 4 rfl) ?_
                refine lv_aload_n hx hb (pc := 50) dX10_byWords_50 rfl (lv_at hl 0 rfl) ?_
                refine va_get (v := .ref (ad 7)) hx hb hts (inX10_byWords_10) hown hKK.1 hP 0 rfl rfl 7 (by decide) (hts _ (List.mem_of_getElem? (i := 2) (by decide +kernel))) (fun _ h9 => h9) rfl (pc := 51) dX10_byWords_51 ?_
                refine lv_iload_n hx hb (pc := 54) dX10_byWords_54 rfl (lv_at hl 3 rfl) ?_
                refine nv_iald (v := nI (FL f)) (i := f) hx hb hKK hP 5 rfl (by omega) (by decide) (rfl) (pc := 55) dX10_byWords_55 ?_
                refine nv_icmp_ge (a := i) (b := (FL f)) (tgt := 83) hx hb (pc := 56) dX10_byWords_56 (by decide) (by omega) (by omega) (fun c56 => ?_) (fun c56 => ?_)
                · refine lv_iinc (v := nI (f + 1)) (lv' := [(3, .int (nI (f + 1))), (0, .ref om), (1, .int (nI k)), (2, .int (nI (lM (f + 1) FL))), (4, .int (nI i))]) hx hb (pc := 83) dX10_byWords_83 hl (k := 3) rfl (rr_inc _) (by decide) rfl (fun ls hl => ?_)
                  refine lv_goto (tgt := 16) hx hb (pc := 86) dX10_byWords_86 (by decide) ?_
                  have hlt3 : ∀ i, i < f + 1 → ∀ j, j < FL i → FW (i * 5 + j) < k := by
                    intro i hi j hj
                    rcases Nat.lt_or_ge i f with z | z
                    · exact hlt i z j hj
                    · obtain rfl : i = f := by omega
                      exact hlt2 j (by omega)
                  exact ih16 (f + 1) _ _ hP hD hS (by omega) (by omega) (hlt3) ls (lv_sub hl [1, 2, 3, 0] rfl)
                · refine lv_aload_n hx hb (pc := 59) dX10_byWords_59 rfl (lv_at hl 0 rfl) ?_
                  refine va_get (v := .ref (ad 8)) hx hb hts (inX10_byWords_10) hown hKK.1 hP 0 rfl rfl 8 (by decide) (hts _ (List.mem_of_getElem? (i := 3) (by decide +kernel))) (fun _ h9 => h9) rfl (pc := 60) dX10_byWords_60 ?_
                  refine lv_iconst (v := nI 5) hx hb (pc := 63) dX10_byWords_63 (by decide) ?_
                  refine lv_iload_n hx hb (pc := 64) dX10_byWords_64 rfl (lv_at hl 3 rfl) ?_
                  refine nv_imul (a := 5) (b := f) hx hb (pc := 65) dX10_byWords_65 ?_
                  refine lv_iload hx hb (pc := 66) dX10_byWords_66 (lv_at hl 4 rfl) ?_
                  refine nv_iadd (a := (5 * f)) (b := i) hx hb (pc := 68) dX10_byWords_68 ?_
                  refine nv_iald (v := nI (FW (f * 5 + i))) (i := ((5 * f) + i)) hx hb hKK hP 6 rfl (by omega) (by decide) (congrArg (fun z => nI (FW (z + i))) (Nat.mul_comm 5 f)) (pc := 69) dX10_byWords_69 ?_
                  refine lv_iload_n hx hb (pc := 70) dX10_byWords_70 rfl (lv_at hl 1 rfl) ?_
                  refine nv_icmp_lt (a := (FW (f * 5 + i))) (b := k) (tgt := 77) hx hb (pc := 71) dX10_byWords_71 (by decide) (by have := f4 i (by omega); omega) (by omega) (fun c71 => ?_) (fun c71 => ?_)
                  · refine lv_iinc (v := nI (i + 1)) (lv' := [(4, .int (nI (i + 1))), (0, .ref om), (1, .int (nI k)), (2, .int (nI (lM (f + 1) FL))), (3, .int (nI f))]) hx hb (pc := 77) dX10_byWords_77 hl (k := 4) rfl (rr_inc _) (by decide) rfl (fun ls hl => ?_)
                    refine lv_goto (tgt := 48) hx hb (pc := 80) dX10_byWords_80 (by decide) ?_
                    have hlt3 : ∀ j, j < i + 1 → FW (f * 5 + j) < k := by
                      intro j hj
                      rcases Nat.lt_or_ge j i with z | z
                      · exact hlt2 j z
                      · obtain rfl : j = i := by omega
                        exact c71
                    exact ih48 (i + 1) _ _ hP hD hS (by omega) (by omega) (hlt3) ls (lv_sub hl [1, 2, 3, 4, 0] rfl)
                  · refine lv_bipush (v := -2) hx hb (pc := 74) dX10_byWords_74 (by decide) ?_
                    have hcb : bywC nf FL FW (nI k) = false := by
                      have h9 := gL_ge (nf := nf) (FW := FW) (show f < nf by omega) (show i < FL f by omega)
                      unfold bywC; rw [eck, decide_eq_false (by omega), Bool.and_false]
                    have hno : bywOK ns nf FL FW (nI k) = false := by unfold bywOK; rw [hcb]; rfl
                    exact hret.1 _ _ 0 0 76 _ (-2) dX10_byWords_76 (by omega) (by omega) hS (⟨by unfold bywA; rw [if_neg (by rw [hcb]; decide)], _, by rw [hno]; exact hP⟩) (rfl)
            have hl : lv_has ls 9 [(4, .int (nI 0)), (2, .int (nI (lM (f + 1) FL))), (0, .ref om), (1, .int (nI k)), (3, .int (nI f))] := by rw [show lM (f + 1) FL = lM f FL from by show max (lM f FL) (FL f) = _; first | (rw [Nat.max_eq_right (by omega)]; done) | (rw [Nat.max_eq_left (by omega)]; done)]; exact hl
            exact L48 (6) 0 _ _ hP hD hS (by omega) (Nat.zero_le _) (fun i hi => absurd hi (Nat.not_lt_zero _)) ls (lv_sub hl [2, 3, 1, 4, 0] rfl)
          · refine lv_aload_n hx hb (pc := 34) dX10_byWords_34 rfl (lv_at hl 0 rfl) ?_
            refine va_get (v := .ref (ad 7)) hx hb hts (inX10_byWords_10) hown hKK.1 hP 0 rfl rfl 7 (by decide) (hts _ (List.mem_of_getElem? (i := 2) (by decide +kernel))) (fun _ h9 => h9) rfl (pc := 35) dX10_byWords_35 ?_
            refine lv_iload_n hx hb (pc := 38) dX10_byWords_38 rfl (lv_at hl 3 rfl) ?_
            refine nv_iald (v := nI (FL f)) (i := f) hx hb hKK hP 5 rfl (by omega) (by decide) (rfl) (pc := 39) dX10_byWords_39 ?_
            refine lv_goto (tgt := 44) hx hb (pc := 40) dX10_byWords_40 (by decide) ?_
            refine lv_istore_n (lv' := [(2, .int (nI (FL f))), (0, .ref om), (1, .int (nI k)), (3, .int (nI f))]) hx hb (pc := 44) dX10_byWords_44 rfl hl (by decide) rfl (fun ls hl => ?_)
            refine lv_iconst (v := nI 0) hx hb (pc := 45) dX10_byWords_45 (by decide) ?_
            refine lv_istore (lv' := [(4, .int (nI 0)), (2, .int (nI (FL f))), (0, .ref om), (1, .int (nI k)), (3, .int (nI f))]) hx hb (pc := 46) dX10_byWords_46 hl (by decide) rfl (fun ls hl => ?_)
            have L48 : ∀ (fz : Nat) (i : Nat) (H : Heap) (locs : List Loc) (hP : va_P K.1 vwCl (XM K om ad ns wl nf wd mt kF nF yF WD FL FW TD RW pl nw xt vF wF qF bY gF nm xm fR oF hF dF) H) (hD : va_D A (XM K om ad ns wl nf wd mt kF nF yF WD FL FW TD RW pl nw xt vF wF qF bY gF nm xm fR oF hF dF)) (hS : va_S A s.heap H locs) (hfz : FL f - i < fz) (hi : i ≤ FL f) (hlt2 : ∀ j, j < i → FW (f * 5 + j) < k) (ls : Array Slot) (hl : lv_has ls 9 [(0, .ref om), (1, .int (nI k)), (2, .int (nI (lM (f + 1) FL))), (3, .int (nI f)), (4, .int (nI i))]), W p l e rmX10_byWords s m args below meth c H locs 0 0 Q (F0 m 48 ls []) := by
              intro fz; induction fz with
              | zero => intro i H locs hP hD hS hfz hi hlt2 ls hl; exact absurd hfz (Nat.not_lt_zero _)
              | succ fz ih48 =>
                intro i H locs hP hD hS hfz hi hlt2 ls hl
                refine lv_iload hx hb (pc := 48) dX10_byWords_48 (lv_at hl 4 rfl) ?_
                refine lv_aload_n hx hb (pc := 50) dX10_byWords_50 rfl (lv_at hl 0 rfl) ?_
                refine va_get (v := .ref (ad 7)) hx hb hts (inX10_byWords_10) hown hKK.1 hP 0 rfl rfl 7 (by decide) (hts _ (List.mem_of_getElem? (i := 2) (by decide +kernel))) (fun _ h9 => h9) rfl (pc := 51) dX10_byWords_51 ?_
                refine lv_iload_n hx hb (pc := 54) dX10_byWords_54 rfl (lv_at hl 3 rfl) ?_
                refine nv_iald (v := nI (FL f)) (i := f) hx hb hKK hP 5 rfl (by omega) (by decide) (rfl) (pc := 55) dX10_byWords_55 ?_
                refine nv_icmp_ge (a := i) (b := (FL f)) (tgt := 83) hx hb (pc := 56) dX10_byWords_56 (by decide) (by omega) (by omega) (fun c56 => ?_) (fun c56 => ?_)
                · refine lv_iinc (v := nI (f + 1)) (lv' := [(3, .int (nI (f + 1))), (0, .ref om), (1, .int (nI k)), (2, .int (nI (lM (f + 1) FL))), (4, .int (nI i))]) hx hb (pc := 83) dX10_byWords_83 hl (k := 3) rfl (rr_inc _) (by decide) rfl (fun ls hl => ?_)
                  refine lv_goto (tgt := 16) hx hb (pc := 86) dX10_byWords_86 (by decide) ?_
                  have hlt3 : ∀ i, i < f + 1 → ∀ j, j < FL i → FW (i * 5 + j) < k := by
                    intro i hi j hj
                    rcases Nat.lt_or_ge i f with z | z
                    · exact hlt i z j hj
                    · obtain rfl : i = f := by omega
                      exact hlt2 j (by omega)
                  exact ih16 (f + 1) _ _ hP hD hS (by omega) (by omega) (hlt3) ls (lv_sub hl [1, 2, 3, 0] rfl)
                · refine lv_aload_n hx hb (pc := 59) dX10_byWords_59 rfl (lv_at hl 0 rfl) ?_
                  refine va_get (v := .ref (ad 8)) hx hb hts (inX10_byWords_10) hown hKK.1 hP 0 rfl rfl 8 (by decide) (hts _ (List.mem_of_getElem? (i := 3) (by decide +kernel))) (fun _ h9 => h9) rfl (pc := 60) dX10_byWords_60 ?_
                  refine lv_iconst (v := nI 5) hx hb (pc := 63) dX10_byWords_63 (by decide) ?_
                  refine lv_iload_n hx hb (pc := 64) dX10_byWords_64 rfl (lv_at hl 3 rfl) ?_
                  refine nv_imul (a := 5) (b := f) hx hb (pc := 65) dX10_byWords_65 ?_
                  refine lv_iload hx hb (pc := 66) dX10_byWords_66 (lv_at hl 4 rfl) ?_
                  refine nv_iadd (a := (5 * f)) (b := i) hx hb (pc := 68) dX10_byWords_68 ?_
                  refine nv_iald (v := nI (FW (f * 5 + i))) (i := ((5 * f) + i)) hx hb hKK hP 6 rfl (by omega) (by decide) (congrArg (fun z => nI (FW (z + i))) (Nat.mul_comm 5 f)) (pc := 69) dX10_byWords_69 ?_
                  refine lv_iload_n hx hb (pc := 70) dX10_byWords_70 rfl (lv_at hl 1 rfl) ?_
                  refine nv_icmp_lt (a := (FW (f * 5 + i))) (b := k) (tgt := 77) hx hb (pc := 71) dX10_byWords_71 (by decide) (by have := f4 i (by omega); omega) (by omega) (fun c71 => ?_) (fun c71 => ?_)
                  · refine lv_iinc (v := nI (i + 1)) (lv' := [(4, .int (nI (i + 1))), (0, .ref om), (1, .int (nI k)), (2, .int (nI (lM (f + 1) FL))), (3, .int (nI f))]) hx hb (pc := 77) dX10_byWords_77 hl (k := 4) rfl (rr_inc _) (by decide) rfl (fun ls hl => ?_)
                    refine lv_goto (tgt := 48) hx hb (pc := 80) dX10_byWords_80 (by decide) ?_
                    have hlt3 : ∀ j, j < i + 1 → FW (f * 5 + j) < k := by
                      intro j hj
                      rcases Nat.lt_or_ge j i with z | z
                      · exact hlt2 j z
                      · obtain rfl : j = i := by omega
                        exact c71
                    exact ih48 (i + 1) _ _ hP hD hS (by omega) (by omega) (hlt3) ls (lv_sub hl [1, 2, 3, 4, 0] rfl)
                  · refine lv_bipush (v := -2) hx hb (pc := 74) dX10_byWords_74 (by decide) ?_
                    have hcb : bywC nf FL FW (nI k) = false := by
                      have h9 := gL_ge (nf := nf) (FW := FW) (show f < nf by omega) (show i < FL f by omega)
                      unfold bywC; rw [eck, decide_eq_false (by omega), Bool.and_false]
                    have hno : bywOK ns nf FL FW (nI k) = false := by unfold bywOK; rw [hcb]; rfl
                    exact hret.1 _ _ 0 0 76 _ (-2) dX10_byWords_76 (by omega) (by omega) hS (⟨by unfold bywA; rw [if_neg (by rw [hcb]; decide)], _, by rw [hno]; exact hP⟩) (rfl)
            have hl : lv_has ls 9 [(4, .int (nI 0)), (2, .int (nI (lM (f + 1) FL))), (0, .ref om), (1, .int (nI k)), (3, .int (nI f))] := by rw [show lM (f + 1) FL = FL f from by show max (lM f FL) (FL f) = _; first | (rw [Nat.max_eq_right (by omega)]; done) | (rw [Nat.max_eq_left (by omega)]; done)]; exact hl
            exact L48 (6) 0 _ _ hP hD hS (by omega) (Nat.zero_le _) (fun i hi => absurd hi (Nat.not_lt_zero _)) ls (lv_sub hl [2, 3, 1, 4, 0] rfl)
    have hl : lv_has ls 9 [(3, .int (nI 0)), (2, .int (nI (lM 0 FL))), (0, .ref om), (1, .int (nI k))] := by rw [show lM 0 FL = 2 from rfl]; exact hl
    exact L16 (9) 0 _ _ hP hD hS (by omega) (Nat.zero_le _) (fun i hi => absurd hi (Nat.not_lt_zero _)) ls (lv_sub hl [2, 3, 1, 0] rfl)
  · refine lv_bipush (v := -2) hx hb (pc := 9) dX10_byWords_9 (by decide) ?_
    have hcb : bywC nf FL FW x = false := by unfold bywC; rw [c6]; rfl
    have hno : bywOK ns nf FL FW x = false := by unfold bywOK; rw [hcb]; rfl
    exact hret.1 _ _ 0 0 11 _ (-2) dX10_byWords_11 (by omega) (by omega) hS (⟨by unfold bywA; rw [if_neg (by rw [hcb]; decide)], _, by rw [hno]; exact hP⟩) (rfl)

