abbrev rmX10_isBarred : Room := { frames := 0, cells := 0, slots := 0, locals := 0 }
theorem inX10_isBarred_10 : ∀ w ∈ wsX100, w ∈ wsX10_isBarred := fun _ h => List.mem_cons_of_mem _ (List.mem_append_right _ h)
set_option maxHeartbeats 4000000 in
set_option maxRecDepth 100000 in
theorem c_X10_isBarred (l : Launch) (K : rr_K) (om : Nat) (ad : Nat → Nat) (ns wl nf wd mt : Nat) (kF nF yF WD FL FW TD RW pl nw xt vF wF qF bY gF : Nat → Nat) (nm xm : Nat → Int64) (fR oF hF dF : Nat → Int32) (mm : Nat) (hF9 : FOK nf FL FW) (hm5 : mm ≤ 5) (hRW : ∀ j, j < mm → RW j < 4) : MetP l K yX10_isBarred wsX10_isBarred rmX10_isBarred [.ref om, .int (nI mm)] (fun H => va_P K.1 vwCl (XM K om ad ns wl nf wd mt kF nF yF WD FL FW TD RW pl nw xt vF wF qF bY gF nm xm fR oF hF dF) H) (.int (bI (stR nf FL FW RW mm))) := by
  refine metP_of (cc := cX10_isBarred) (maxL := 7) (ret := (some .boolean)) (rt := .boolean) (by decide) rfl rfl (Nat.le_of_ble_eq_true rfl) ?_
  intro p e s m args below meth c Q ls hEnt hKK hX hret hl
  obtain ⟨hx, hb, hml, hown, hts⟩ := hEnt
  have hP : va_P K.1 vwCl (XM K om ad ns wl nf wd mt kF nF yF WD FL FW TD RW pl nw xt vF wF qF bY gF nm xm fR oF hF dF) s.heap := hX
  have hl : lv_has ls 7 [(0, .ref om), (1, .int (nI mm))] := hl
  have hnf := hF9.1
  refine lv_iconst (v := nI 0) hx hb (pc := 0) dX10_isBarred_0 (by decide) ?_
  refine lv_istore_n (lv' := [(2, .int (nI 0)), (0, .ref om), (1, .int (nI mm))]) hx hb (pc := 1) dX10_isBarred_1 rfl hl (by decide) rfl (fun ls hl => ?_)
  refine lv_iconst (v := nI 0) hx hb (pc := 2) dX10_isBarred_2 (by decide) ?_
  refine lv_istore_n (lv' := [(3, .int (nI 0)), (2, .int (nI 0)), (0, .ref om), (1, .int (nI mm))]) hx hb (pc := 3) dX10_isBarred_3 rfl hl (by decide) rfl (fun ls hl => ?_)
  have L4 : ∀ (fz : Nat) (f : Nat) (hfz : nf - f < fz) (hf : f ≤ nf) (ls : Array Slot) (hl : lv_has ls 7 [(0, .ref om), (1, .int (nI mm)), (2, .int (bI (anyB f (fun i => anyB (mm + 1 - FL i) (fun fr => stA FL FW RW i fr))))), (3, .int (nI f))]), W p l e rmX10_isBarred s m args below meth c s.heap [] 0 0 Q (F0 m 4 ls []) := by
    intro fz; induction fz with
    | zero => intro f hfz hf ls hl; exact absurd hfz (Nat.not_lt_zero _)
    | succ fz ih4 =>
      intro f hfz hf ls hl
      refine lv_iload_n hx hb (pc := 4) dX10_isBarred_4 rfl (lv_at hl 3 rfl) ?_
      refine lv_aload_n hx hb (pc := 5) dX10_isBarred_5 rfl (lv_at hl 0 rfl) ?_
      refine va_get (v := .int (nI nf)) hx hb hts (inX10_isBarred_10) hown hKK.1 hP 0 rfl rfl 6 (by decide) (hts _ (List.mem_of_getElem? (i := 1) (by decide +kernel))) (fun _ h9 => h9) rfl (pc := 6) dX10_isBarred_6 ?_
      refine nv_icmp_ge (a := f) (b := nf) (tgt := 114) hx hb (pc := 9) dX10_isBarred_9 (by decide) (by omega) (by omega) (fun c9 => ?_) (fun c9 => ?_)
      · refine lv_iload_n hx hb (pc := 114) dX10_isBarred_114 rfl (lv_at hl 2 rfl) ?_
        have e9 : f = nf := by omega
        exact hret.1 115 _ (bI (anyB f (fun i => anyB (mm + 1 - FL i) (fun fr => stA FL FW RW i fr)))) dX10_isBarred_115 (by rw [e9]; rfl) (rr_narB _)
      · obtain ⟨f1, f5, f4⟩ := hF9.2 f (by omega)
        refine lv_iconst (v := nI 0) hx hb (pc := 12) dX10_isBarred_12 (by decide) ?_
        refine lv_istore (lv' := [(4, .int (nI 0)), (0, .ref om), (1, .int (nI mm)), (2, .int (bI (anyB f (fun i => anyB (mm + 1 - FL i) (fun fr => stA FL FW RW i fr))))), (3, .int (nI f))]) hx hb (pc := 13) dX10_isBarred_13 hl (by decide) rfl (fun ls hl => ?_)
        have L15 : ∀ (fz : Nat) (fr : Nat) (hfz : mm + 1 - FL f - fr < fz) (hfr : fr ≤ mm + 1 - FL f) (ls : Array Slot) (hl : lv_has ls 7 [(0, .ref om), (1, .int (nI mm)), (2, .int (bI (anyB f (fun i => anyB (mm + 1 - FL i) (fun fr => stA FL FW RW i fr)) || anyB fr (fun r => stA FL FW RW f r)))), (3, .int (nI f)), (4, .int (nI fr))]), W p l e rmX10_isBarred s m args below meth c s.heap [] 0 0 Q (F0 m 15 ls []) := by
          intro fz; induction fz with
          | zero => intro fr hfz hfr ls hl; exact absurd hfz (Nat.not_lt_zero _)
          | succ fz ih15 =>
            intro fr hfz hfr ls hl
            refine lv_iload hx hb (pc := 15) dX10_isBarred_15 (lv_at hl 4 rfl) ?_
            refine lv_aload_n hx hb (pc := 17) dX10_isBarred_17 rfl (lv_at hl 0 rfl) ?_
            refine va_get (v := .ref (ad 7)) hx hb hts (inX10_isBarred_10) hown hKK.1 hP 0 rfl rfl 7 (by decide) (hts _ (List.mem_of_getElem? (i := 2) (by decide +kernel))) (fun _ h9 => h9) rfl (pc := 18) dX10_isBarred_18 ?_
            refine lv_iload_n hx hb (pc := 21) dX10_isBarred_21 rfl (lv_at hl 3 rfl) ?_
            refine nv_iald (v := nI (FL f)) (i := f) hx hb hKK hP 5 rfl (by omega) (by decide) (rfl) (pc := 22) dX10_isBarred_22 ?_
            refine nv_iadd (a := fr) (b := (FL f)) hx hb (pc := 23) dX10_isBarred_23 ?_
            refine lv_iload_n hx hb (pc := 24) dX10_isBarred_24 rfl (lv_at hl 1 rfl) ?_
            refine nv_icmp_gt (a := (fr + (FL f))) (b := mm) (tgt := 108) hx hb (pc := 25) dX10_isBarred_25 (by decide) (by omega) (by omega) (fun c25 => ?_) (fun c25 => ?_)
            · refine lv_iinc (v := nI (f + 1)) (lv' := [(3, .int (nI (f + 1))), (0, .ref om), (1, .int (nI mm)), (2, .int (bI (anyB f (fun i => anyB (mm + 1 - FL i) (fun fr => stA FL FW RW i fr)) || anyB fr (fun r => stA FL FW RW f r)))), (4, .int (nI fr))]) hx hb (pc := 108) dX10_isBarred_108 hl (k := 3) rfl (rr_inc _) (by decide) rfl (fun ls hl => ?_)
              refine lv_goto (tgt := 4) hx hb (pc := 111) dX10_isBarred_111 (by decide) ?_
              have hl : lv_has ls 7 [(3, .int (nI (f + 1))), (0, .ref om), (1, .int (nI mm)), (2, .int (bI (anyB (f + 1) (fun i => anyB (mm + 1 - FL i) (fun fr => stA FL FW RW i fr))))), (4, .int (nI fr))] := by rw [show (anyB (f + 1) (fun i => anyB (mm + 1 - FL i) (fun fr => stA FL FW RW i fr))) = (anyB f (fun i => anyB (mm + 1 - FL i) (fun fr => stA FL FW RW i fr)) || anyB fr (fun r => stA FL FW RW f r)) from by rw [show fr = mm + 1 - FL f by omega]; rfl]; exact hl
              exact ih4 (f + 1) (by omega) (by omega) ls (lv_sub hl [1, 2, 3, 0] rfl)
            · refine lv_iconst (v := nI 1) hx hb (pc := 28) dX10_isBarred_28 (by decide) ?_
              refine lv_istore (lv' := [(5, .int (nI 1)), (0, .ref om), (1, .int (nI mm)), (2, .int (bI (anyB f (fun i => anyB (mm + 1 - FL i) (fun fr => stA FL FW RW i fr)) || anyB fr (fun r => stA FL FW RW f r)))), (3, .int (nI f)), (4, .int (nI fr))]) hx hb (pc := 29) dX10_isBarred_29 hl (by decide) rfl (fun ls hl => ?_)
              refine lv_iconst (v := nI 0) hx hb (pc := 31) dX10_isBarred_31 (by decide) ?_
              refine lv_istore (lv' := [(6, .int (nI 0)), (5, .int (nI 1)), (0, .ref om), (1, .int (nI mm)), (2, .int (bI (anyB f (fun i => anyB (mm + 1 - FL i) (fun fr => stA FL FW RW i fr)) || anyB fr (fun r => stA FL FW RW f r)))), (3, .int (nI f)), (4, .int (nI fr))]) hx hb (pc := 32) dX10_isBarred_32 hl (by decide) rfl (fun ls hl => ?_)
              have L34 : ∀ (fz : Nat) (kk : Nat) (hfz : FL f - kk < fz) (hkk : kk ≤ FL f) (ls : Array Slot) (hl : lv_has ls 7 [(0, .ref om), (1, .int (nI mm)), (2, .int (bI (anyB f (fun i => anyB (mm + 1 - FL i) (fun fr => stA FL FW RW i fr)) || anyB fr (fun r => stA FL FW RW f r)))), (3, .int (nI f)), (4, .int (nI fr)), (5, .int (bI (allB kk (fun i => RW (fr + i) == FW (f * 5 + i))))), (6, .int (nI kk))]), W p l e rmX10_isBarred s m args below meth c s.heap [] 0 0 Q (F0 m 34 ls []) := by
                intro fz; induction fz with
                | zero => intro kk hfz hkk ls hl; exact absurd hfz (Nat.not_lt_zero _)
                | succ fz ih34 =>
                  intro kk hfz hkk ls hl
                  refine lv_iload hx hb (pc := 34) dX10_isBarred_34 (lv_at hl 6 rfl) ?_
                  refine lv_aload_n hx hb (pc := 36) dX10_isBarred_36 rfl (lv_at hl 0 rfl) ?_
                  refine va_get (v := .ref (ad 7)) hx hb hts (inX10_isBarred_10) hown hKK.1 hP 0 rfl rfl 7 (by decide) (hts _ (List.mem_of_getElem? (i := 2) (by decide +kernel))) (fun _ h9 => h9) rfl (pc := 37) dX10_isBarred_37 ?_
                  refine lv_iload_n hx hb (pc := 40) dX10_isBarred_40 rfl (lv_at hl 3 rfl) ?_
                  refine nv_iald (v := nI (FL f)) (i := f) hx hb hKK hP 5 rfl (by omega) (by decide) (rfl) (pc := 41) dX10_isBarred_41 ?_
                  refine nv_icmp_ge (a := kk) (b := (FL f)) (tgt := 87) hx hb (pc := 42) dX10_isBarred_42 (by decide) (by omega) (by omega) (fun c42 => ?_) (fun c42 => ?_)
                  · have e9 : kk = FL f := by omega
                    have hst : stA FL FW RW f fr = allB kk (fun i => RW (fr + i) == FW (f * 5 + i)) := by rw [e9]; rfl
                    refine lv_iload_n hx hb (pc := 87) dX10_isBarred_87 rfl (lv_at hl 2 rfl) ?_
                    refine nv_if_ne_b (a := (anyB f (fun i => anyB (mm + 1 - FL i) (fun fr => stA FL FW RW i fr)) || anyB fr (fun r => stA FL FW RW f r))) (tgt := 96) hx hb (pc := 88) dX10_isBarred_88 (by decide) (fun c88 => ?_) (fun c88 => ?_)
                    · refine lv_iconst (v := nI 1) hx hb (pc := 96) dX10_isBarred_96 (by decide) ?_
                      refine lv_goto (tgt := 101) hx hb (pc := 97) dX10_isBarred_97 (by decide) ?_
                      refine lv_istore_n (lv' := [(2, .int (nI 1)), (0, .ref om), (1, .int (nI mm)), (3, .int (nI f)), (4, .int (nI fr)), (5, .int (bI (allB kk (fun i => RW (fr + i) == FW (f * 5 + i))))), (6, .int (nI kk))]) hx hb (pc := 101) dX10_isBarred_101 rfl hl (by decide) rfl (fun ls hl => ?_)
                      refine lv_iinc (v := nI (fr + 1)) (lv' := [(4, .int (nI (fr + 1))), (2, .int (nI 1)), (0, .ref om), (1, .int (nI mm)), (3, .int (nI f)), (5, .int (bI (allB kk (fun i => RW (fr + i) == FW (f * 5 + i))))), (6, .int (nI kk))]) hx hb (pc := 102) dX10_isBarred_102 hl (k := 4) rfl (rr_inc _) (by decide) rfl (fun ls hl => ?_)
                      refine lv_goto (tgt := 15) hx hb (pc := 105) dX10_isBarred_105 (by decide) ?_
                      have hl : lv_has ls 7 [(4, .int (nI (fr + 1))), (2, .int (bI (anyB f (fun i => anyB (mm + 1 - FL i) (fun fr => stA FL FW RW i fr)) || anyB (fr + 1) (fun r => stA FL FW RW f r)))), (0, .ref om), (1, .int (nI mm)), (3, .int (nI f)), (5, .int (bI (allB kk (fun i => RW (fr + i) == FW (f * 5 + i))))), (6, .int (nI kk))] := by rw [show (anyB f (fun i => anyB (mm + 1 - FL i) (fun fr => stA FL FW RW i fr)) || anyB (fr + 1) (fun r => stA FL FW RW f r)) = true from by first | exact anyB_s1 c88 | exact anyB_s2 (hst.trans c93) | exact anyB_s3 c88 (hst.trans c93)]; exact hl
                      exact ih15 (fr + 1) (by omega) (by omega) ls (lv_sub hl [2, 3, 1, 4, 0] rfl)
                    · refine lv_iload hx hb (pc := 91) dX10_isBarred_91 (lv_at hl 5 rfl) ?_
                      refine nv_if_eq_b (a := (allB kk (fun i => RW (fr + i) == FW (f * 5 + i)))) (tgt := 100) hx hb (pc := 93) dX10_isBarred_93 (by decide) (fun c93 => ?_) (fun c93 => ?_)
                      · refine lv_iconst (v := nI 0) hx hb (pc := 100) dX10_isBarred_100 (by decide) ?_
                        refine lv_istore_n (lv' := [(2, .int (nI 0)), (0, .ref om), (1, .int (nI mm)), (3, .int (nI f)), (4, .int (nI fr)), (5, .int (bI (allB kk (fun i => RW (fr + i) == FW (f * 5 + i))))), (6, .int (nI kk))]) hx hb (pc := 101) dX10_isBarred_101 rfl hl (by decide) rfl (fun ls hl => ?_)
                        refine lv_iinc (v := nI (fr + 1)) (lv' := [(4, .int (nI (fr + 1))), (2, .int (nI 0)), (0, .ref om), (1, .int (nI mm)), (3, .int (nI f)), (5, .int (bI (allB kk (fun i => RW (fr + i) == FW (f * 5 + i))))), (6, .int (nI kk))]) hx hb (pc := 102) dX10_isBarred_102 hl (k := 4) rfl (rr_inc _) (by decide) rfl (fun ls hl => ?_)
                        refine lv_goto (tgt := 15) hx hb (pc := 105) dX10_isBarred_105 (by decide) ?_
                        have hl : lv_has ls 7 [(4, .int (nI (fr + 1))), (2, .int (bI (anyB f (fun i => anyB (mm + 1 - FL i) (fun fr => stA FL FW RW i fr)) || anyB (fr + 1) (fun r => stA FL FW RW f r)))), (0, .ref om), (1, .int (nI mm)), (3, .int (nI f)), (5, .int (bI (allB kk (fun i => RW (fr + i) == FW (f * 5 + i))))), (6, .int (nI kk))] := by rw [show (anyB f (fun i => anyB (mm + 1 - FL i) (fun fr => stA FL FW RW i fr)) || anyB (fr + 1) (fun r => stA FL FW RW f r)) = false from by first | exact anyB_s1 c88 | exact anyB_s2 (hst.trans c93) | exact anyB_s3 c88 (hst.trans c93)]; exact hl
                        exact ih15 (fr + 1) (by omega) (by omega) ls (lv_sub hl [2, 3, 1, 4, 0] rfl)
                      · refine lv_iconst (v := nI 1) hx hb (pc := 96) dX10_isBarred_96 (by decide) ?_
                        refine lv_goto (tgt := 101) hx hb (pc := 97) dX10_isBarred_97 (by decide) ?_
                        refine lv_istore_n (lv' := [(2, .int (nI 1)), (0, .ref om), (1, .int (nI mm)), (3, .int (nI f)), (4, .int (nI fr)), (5, .int (bI (allB kk (fun i => RW (fr + i) == FW (f * 5 + i))))), (6, .int (nI kk))]) hx hb (pc := 101) dX10_isBarred_101 rfl hl (by decide) rfl (fun ls hl => ?_)
                        refine lv_iinc (v := nI (fr + 1)) (lv' := [(4, .int (nI (fr + 1))), (2, .int (nI 1)), (0, .ref om), (1, .int (nI mm)), (3, .int (nI f)), (5, .int (bI (allB kk (fun i => RW (fr + i) == FW (f * 5 + i))))), (6, .int (nI kk))]) hx hb (pc := 102) dX10_isBarred_102 hl (k := 4) rfl (rr_inc _) (by decide) rfl (fun ls hl => ?_)
                        refine lv_goto (tgt := 15) hx hb (pc := 105) dX10_isBarred_105 (by decide) ?_
                        have hl : lv_has ls 7 [(4, .int (nI (fr + 1))), (2, .int (bI (anyB f (fun i => anyB (mm + 1 - FL i) (fun fr => stA FL FW RW i fr)) || anyB (fr + 1) (fun r => stA FL FW RW f r)))), (0, .ref om), (1, .int (nI mm)), (3, .int (nI f)), (5, .int (bI (allB kk (fun i => RW (fr + i) == FW (f * 5 + i))))), (6, .int (nI kk))] := by rw [show (anyB f (fun i => anyB (mm + 1 - FL i) (fun fr => stA FL FW RW i fr)) || anyB (fr + 1) (fun r => stA FL FW RW f r)) = true from by first | exact anyB_s1 c88 | exact anyB_s2 (hst.trans c93) | exact anyB_s3 c88 (hst.trans c93)]; exact hl
                        exact ih15 (fr + 1) (by omega) (by omega) ls (lv_sub hl [2, 3, 1, 4, 0] rfl)
                  · refine lv_iload hx hb (pc := 45) dX10_isBarred_45 (lv_at hl 5 rfl) ?_
                    refine nv_if_eq_b (a := (allB kk (fun i => RW (fr + i) == FW (f * 5 + i)))) (tgt := 78) hx hb (pc := 47) dX10_isBarred_47 (by decide) (fun c47 => ?_) (fun c47 => ?_)
                    · refine lv_iconst (v := nI 0) hx hb (pc := 78) dX10_isBarred_78 (by decide) ?_
                      refine lv_istore (lv' := [(5, .int (nI 0)), (0, .ref om), (1, .int (nI mm)), (2, .int (bI (anyB f (fun i => anyB (mm + 1 - FL i) (fun fr => stA FL FW RW i fr)) || anyB fr (fun r => stA FL FW RW f r)))), (3, .int (nI f)), (4, .int (nI fr)), (6, .int (nI kk))]) hx hb (pc := 79) dX10_isBarred_79 hl (by decide) rfl (fun ls hl => ?_)
                      refine lv_iinc (v := nI (kk + 1)) (lv' := [(6, .int (nI (kk + 1))), (5, .int (nI 0)), (0, .ref om), (1, .int (nI mm)), (2, .int (bI (anyB f (fun i => anyB (mm + 1 - FL i) (fun fr => stA FL FW RW i fr)) || anyB fr (fun r => stA FL FW RW f r)))), (3, .int (nI f)), (4, .int (nI fr))]) hx hb (pc := 81) dX10_isBarred_81 hl (k := 6) rfl (rr_inc _) (by decide) rfl (fun ls hl => ?_)
                      refine lv_goto (tgt := 34) hx hb (pc := 84) dX10_isBarred_84 (by decide) ?_
                      have hl : lv_has ls 7 [(6, .int (nI (kk + 1))), (5, .int (bI (allB (kk + 1) (fun i => RW (fr + i) == FW (f * 5 + i))))), (0, .ref om), (1, .int (nI mm)), (2, .int (bI (anyB f (fun i => anyB (mm + 1 - FL i) (fun fr => stA FL FW RW i fr)) || anyB fr (fun r => stA FL FW RW f r)))), (3, .int (nI f)), (4, .int (nI fr))] := by rw [show (allB (kk + 1) (fun i => RW (fr + i) == FW (f * 5 + i))) = false from by first | exact allB_s1 c47 | exact allB_s2 (beq_eq_false_iff_ne.mpr c71) | exact allB_s3 c47 (beq_iff_eq.mpr c71)]; exact hl
                      exact ih34 (kk + 1) (by omega) (by omega) ls (lv_sub hl [2, 3, 4, 5, 6, 1, 0] rfl)
                    · refine lv_aload_n hx hb (pc := 50) dX10_isBarred_50 rfl (lv_at hl 0 rfl) ?_
                      refine va_get (v := .ref (ad 11)) hx hb hts (inX10_isBarred_10) hown hKK.1 hP 0 rfl rfl 11 (by decide) (hts _ (List.mem_of_getElem? (i := 3) (by decide +kernel))) (fun _ h9 => h9) rfl (pc := 51) dX10_isBarred_51 ?_
                      refine lv_iload hx hb (pc := 54) dX10_isBarred_54 (lv_at hl 4 rfl) ?_
                      refine lv_iload hx hb (pc := 56) dX10_isBarred_56 (lv_at hl 6 rfl) ?_
                      refine nv_iadd (a := fr) (b := kk) hx hb (pc := 58) dX10_isBarred_58 ?_
                      refine nv_iald (v := nI (RW (fr + kk))) (i := (fr + kk)) hx hb hKK hP 8 rfl (by omega) (by decide) (rfl) (pc := 59) dX10_isBarred_59 ?_
                      refine lv_aload_n hx hb (pc := 60) dX10_isBarred_60 rfl (lv_at hl 0 rfl) ?_
                      refine va_get (v := .ref (ad 8)) hx hb hts (inX10_isBarred_10) hown hKK.1 hP 0 rfl rfl 8 (by decide) (hts _ (List.mem_of_getElem? (i := 4) (by decide +kernel))) (fun _ h9 => h9) rfl (pc := 61) dX10_isBarred_61 ?_
                      refine lv_iconst (v := nI 5) hx hb (pc := 64) dX10_isBarred_64 (by decide) ?_
                      refine lv_iload_n hx hb (pc := 65) dX10_isBarred_65 rfl (lv_at hl 3 rfl) ?_
                      refine nv_imul (a := 5) (b := f) hx hb (pc := 66) dX10_isBarred_66 ?_
                      refine lv_iload hx hb (pc := 67) dX10_isBarred_67 (lv_at hl 6 rfl) ?_
                      refine nv_iadd (a := (5 * f)) (b := kk) hx hb (pc := 69) dX10_isBarred_69 ?_
                      refine nv_iald (v := nI (FW (f * 5 + kk))) (i := ((5 * f) + kk)) hx hb hKK hP 6 rfl (by omega) (by decide) (congrArg (fun z => nI (FW (z + kk))) (Nat.mul_comm 5 f)) (pc := 70) dX10_isBarred_70 ?_
                      refine nv_icmp_ne (a := (RW (fr + kk))) (b := (FW (f * 5 + kk))) (tgt := 78) hx hb (pc := 71) dX10_isBarred_71 (by decide) (by have := hRW (fr + kk) (by omega); omega) (by have := f4 kk (by omega); omega) (fun c71 => ?_) (fun c71 => ?_)
                      · refine lv_iconst (v := nI 0) hx hb (pc := 78) dX10_isBarred_78 (by decide) ?_
                        refine lv_istore (lv' := [(5, .int (nI 0)), (0, .ref om), (1, .int (nI mm)), (2, .int (bI (anyB f (fun i => anyB (mm + 1 - FL i) (fun fr => stA FL FW RW i fr)) || anyB fr (fun r => stA FL FW RW f r)))), (3, .int (nI f)), (4, .int (nI fr)), (6, .int (nI kk))]) hx hb (pc := 79) dX10_isBarred_79 hl (by decide) rfl (fun ls hl => ?_)
                        refine lv_iinc (v := nI (kk + 1)) (lv' := [(6, .int (nI (kk + 1))), (5, .int (nI 0)), (0, .ref om), (1, .int (nI mm)), (2, .int (bI (anyB f (fun i => anyB (mm + 1 - FL i) (fun fr => stA FL FW RW i fr)) || anyB fr (fun r => stA FL FW RW f r)))), (3, .int (nI f)), (4, .int (nI fr))]) hx hb (pc := 81) dX10_isBarred_81 hl (k := 6) rfl (rr_inc _) (by decide) rfl (fun ls hl => ?_)
                        refine lv_goto (tgt := 34) hx hb (pc := 84) dX10_isBarred_84 (by decide) ?_
                        have hl : lv_has ls 7 [(6, .int (nI (kk + 1))), (5, .int (bI (allB (kk + 1) (fun i => RW (fr + i) == FW (f * 5 + i))))), (0, .ref om), (1, .int (nI mm)), (2, .int (bI (anyB f (fun i => anyB (mm + 1 - FL i) (fun fr => stA FL FW RW i fr)) || anyB fr (fun r => stA FL FW RW f r)))), (3, .int (nI f)), (4, .int (nI fr))] := by rw [show (allB (kk + 1) (fun i => RW (fr + i) == FW (f * 5 + i))) = false from by first | exact allB_s1 c47 | exact allB_s2 (beq_eq_false_iff_ne.mpr c71) | exact allB_s3 c47 (beq_iff_eq.mpr c71)]; exact hl
                        exact ih34 (kk + 1) (by omega) (by omega) ls (lv_sub hl [2, 3, 4, 5, 6, 1, 0] rfl)
                      · refine lv_iconst (v := nI 1) hx hb (pc := 74) dX10_isBarred_74 (by decide) ?_
                        refine lv_goto (tgt := 79) hx hb (pc := 75) dX10_isBarred_75 (by decide) ?_
                        refine lv_istore (lv' := [(5, .int (nI 1)), (0, .ref om), (1, .int (nI mm)), (2, .int (bI (anyB f (fun i => anyB (mm + 1 - FL i) (fun fr => stA FL FW RW i fr)) || anyB fr (fun r => stA FL FW RW f r)))), (3, .int (nI f)), (4, .int (nI fr)), (6, .int (nI kk))]) hx hb (pc := 79) dX10_isBarred_79 hl (by decide) rfl (fun ls hl => ?_)
                        refine lv_iinc (v := nI (kk + 1)) (lv' := [(6, .int (nI (kk + 1))), (5, .int (nI 1)), (0, .ref om), (1, .int (nI mm)), (2, .int (bI (anyB f (fun i => anyB (mm + 1 - FL i) (fun fr => stA FL FW RW i fr)) || anyB fr (fun r => stA FL FW RW f r)))), (3, .int (nI f)), (4, .int (nI fr))]) hx hb (pc := 81) dX10_isBarred_81 hl (k := 6) rfl (rr_inc _) (by decide) rfl (fun ls hl => ?_)
                        refine lv_goto (tgt := 34) hx hb (pc := 84) dX10_isBarred_84 (by decide) ?_
                        have hl : lv_has ls 7 [(6, .int (nI (kk + 1))), (5, .int (bI (allB (kk + 1) (fun i => RW (fr + i) == FW (f * 5 + i))))), (0, .ref om), (1, .int (nI mm)), (2, .int (bI (anyB f (fun i => anyB (mm + 1 - FL i) (fun fr => stA FL FW RW i fr)) || anyB fr (fun r => stA FL FW RW f r)))), (3, .int (nI f)), (4, .int (nI fr))] := by rw [show (allB (kk + 1) (fun i => RW (fr + i) == FW (f * 5 + i))) = true from by first | exact allB_s1 c47 | exact allB_s2 (beq_eq_false_iff_ne.mpr c71) | exact allB_s3 c47 (beq_iff_eq.mpr c71)]; exact hl
                        exact ih34 (kk + 1) (by omega) (by omega) ls (lv_sub hl [2, 3, 4, 5, 6, 1, 0] rfl)
              have hl : lv_has ls 7 [(6, .int (nI 0)), (5, .int (bI (allB 0 (fun i => RW (fr + i) == FW (f * 5 + i))))), (0, .ref om), (1, .int (nI mm)), (2, .int (bI (anyB f (fun i => anyB (mm + 1 - FL i) (fun fr => stA FL FW RW i fr)) || anyB fr (fun r => stA FL FW RW f r)))), (3, .int (nI f)), (4, .int (nI fr))] := by rw [show (allB 0 (fun i => RW (fr + i) == FW (f * 5 + i))) = true from rfl]; exact hl
              exact L34 (6) 0 (by omega) (Nat.zero_le _) ls (lv_sub hl [2, 3, 4, 5, 6, 1, 0] rfl)
        have hl : lv_has ls 7 [(4, .int (nI 0)), (0, .ref om), (1, .int (nI mm)), (2, .int (bI (anyB f (fun i => anyB (mm + 1 - FL i) (fun fr => stA FL FW RW i fr)) || anyB 0 (fun r => stA FL FW RW f r)))), (3, .int (nI f))] := by rw [show (anyB f (fun i => anyB (mm + 1 - FL i) (fun fr => stA FL FW RW i fr)) || anyB 0 (fun r => stA FL FW RW f r)) = (anyB f (fun i => anyB (mm + 1 - FL i) (fun fr => stA FL FW RW i fr))) from Bool.or_false _]; exact hl
        exact L15 (7) 0 (by omega) (Nat.zero_le _) ls (lv_sub hl [1, 2, 3, 4, 0] rfl)
  have hl : lv_has ls 7 [(3, .int (nI 0)), (2, .int (bI (anyB 0 (fun i => anyB (mm + 1 - FL i) (fun fr => stA FL FW RW i fr))))), (0, .ref om), (1, .int (nI mm))] := by rw [show (anyB 0 (fun i => anyB (mm + 1 - FL i) (fun fr => stA FL FW RW i fr))) = false from rfl]; exact hl
  exact L4 (9) 0 (by omega) (Nat.zero_le _) ls (lv_sub hl [2, 3, 1, 0] rfl)

