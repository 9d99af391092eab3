abbrev rmX10_digest : Room := { frames := 5, cells := 0, slots := 0, locals := 124 }
theorem inX10_digest_10 : ∀ w ∈ wsX100, w ∈ wsX10_digest := fun _ h => List.mem_cons_of_mem _ (List.mem_append_right _ h)
set_option maxHeartbeats 4000000 in
set_option maxRecDepth 100000 in
theorem c_X10_digest (l : Launch) (K : rr_K) (om : Nat) (ad : Nat → Nat) (ns wl nf wd mt : Nat) (kF nF yF WD FL FW TD RW pl nw xt vF wF qF bY gF : Nat → Nat) (nm xm : Nat → Int64) (fR oF hF dF : Nat → Int32) (hS9 : SOK ns kF nF yF) (hw : wd ≤ 3) (hwl : wl ≤ 30) (hF9 : FOK nf FL FW) : MetP l K yX10_digest wsX10_digest rmX10_digest [.ref om] (fun H => va_P K.1 vwCl (XM K om ad ns wl nf wd mt kF nF yF WD FL FW TD RW pl nw xt vF wF qF bY gF nm xm fR oF hF dF) H) (.long (dgT ns wl nf wd kF nF yF WD FL FW TD)) := by
  refine metP_of (cc := cX10_digest) (maxL := 6) (ret := (some .long)) (rt := .long) (by decide) rfl rfl (Nat.le_of_ble_eq_true rfl) ?_
  intro p e s m args below meth c Q ls hEnt hKK hX hret hl
  obtain ⟨hx, hb, hml, hown, hts⟩ := hEnt
  have hP : va_P K.1 vwCl (XM K om ad ns wl nf wd mt kF nF yF WD FL FW TD RW pl nw xt vF wF qF bY gF nm xm fR oF hF dF) s.heap := hX
  have hl : lv_has ls 6 [(0, .ref om)] := hl
  have hns := hS9.1
  have hnf := hF9.1
  have h64 := p2w hw
  refine lv_ldc2 (v := lN 193) hx hb (pc := 0) hown (hts _ (List.mem_of_getElem? (i := 1) (by decide +kernel))) dX10_digest_0 ?_
  refine lv_lstore_n (lv' := [(1, .long (lN (193))), (0, .ref om)]) hx hb (pc := 3) dX10_digest_3 rfl hl (by decide) rfl (fun ls hl => ?_)
  refine lv_iconst (v := nI 0) hx hb (pc := 4) dX10_digest_4 (by decide) ?_
  refine lv_istore_n (lv' := [(3, .int (nI 0)), (1, .long (lN (193))), (0, .ref om)]) hx hb (pc := 5) dX10_digest_5 rfl hl (by decide) rfl (fun ls hl => ?_)
  have L6 : ∀ (fz : Nat) (i : Nat) (hfz : 4 - i < fz) (hi : i ≤ 4) (ls : Array Slot) (hl : lv_has ls 6 [(0, .ref om), (1, .long (rr_fold (fun i h => dg h (cntA ns wl nf wd (nI i))) i (lN 193))), (3, .int (nI i))]), W p l e rmX10_digest s m args below meth c s.heap [] 0 0 Q (F0 m 6 ls []) := by
    intro fz; induction fz with
    | zero => intro i hfz hi ls hl; exact absurd hfz (Nat.not_lt_zero _)
    | succ fz ih6 =>
      intro i hfz hi ls hl
      refine lv_iload_n hx hb (pc := 6) dX10_digest_6 rfl (lv_at hl 2 rfl) ?_
      refine lv_iconst (v := nI 4) hx hb (pc := 7) dX10_digest_7 (by decide) ?_
      refine nv_icmp_ge (a := i) (b := 4) (tgt := 30) hx hb (pc := 8) dX10_digest_8 (by decide) (by omega) (by omega) (fun c8 => ?_) (fun c8 => ?_)
      · obtain ⟨h4, hh4⟩ : ∃ z, z = dg4 ns wl nf wd := ⟨_, rfl⟩
        have e9 : i = 4 := by omega
        refine lv_iconst (v := nI 0) hx hb (pc := 30) dX10_digest_30 (by decide) ?_
        refine lv_istore_n (lv' := [(3, .int (nI 0)), (0, .ref om), (1, .long (rr_fold (fun i h => dg h (cntA ns wl nf wd (nI i))) i (lN 193)))]) hx hb (pc := 31) dX10_digest_31 rfl hl (by decide) rfl (fun ls hl => ?_)
        have L32 : ∀ (fz : Nat) (x : Nat) (hfz : ns - x < fz) (hxn : x ≤ ns) (ls : Array Slot) (hl : lv_has ls 6 [(0, .ref om), (1, .long (dgS kF nF yF x h4)), (3, .int (nI x))]), W p l e rmX10_digest s m args below meth c s.heap [] 0 0 Q (F0 m 32 ls []) := by
          intro fz; induction fz with
          | zero => intro x hfz hxn ls hl; exact absurd hfz (Nat.not_lt_zero _)
          | succ fz ih32 =>
            intro x hfz hxn ls hl
            refine lv_iload_n hx hb (pc := 32) dX10_digest_32 rfl (lv_at hl 2 rfl) ?_
            refine lv_aload_n hx hb (pc := 33) dX10_digest_33 rfl (lv_at hl 0 rfl) ?_
            refine va_get (v := .int (nI ns)) hx hb hts (inX10_digest_10) hown hKK.1 hP 0 rfl rfl 0 (by decide) (hts _ (List.mem_of_getElem? (i := 3) (by decide +kernel))) (fun _ h9 => h9) rfl (pc := 34) dX10_digest_34 ?_
            refine nv_icmp_ge (a := x) (b := ns) (tgt := 137) hx hb (pc := 37) dX10_digest_37 (by decide) (by omega) (by omega) (fun c37 => ?_) (fun c37 => ?_)
            · obtain ⟨h7, hh7⟩ : ∃ z, z = dgS kF nF yF ns h4 := ⟨_, rfl⟩
              refine lv_iconst (v := nI 0) hx hb (pc := 137) dX10_digest_137 (by decide) ?_
              refine lv_istore_n (lv' := [(3, .int (nI 0)), (0, .ref om), (1, .long (dgS kF nF yF x h4))]) hx hb (pc := 138) dX10_digest_138 rfl hl (by decide) rfl (fun ls hl => ?_)
              have L139 : ∀ (fz : Nat) (i : Nat) (hfz : wl - i < fz) (hi : i ≤ wl) (ls : Array Slot) (hl : lv_has ls 6 [(0, .ref om), (1, .long (dgW WD i h7)), (3, .int (nI i))]), W p l e rmX10_digest s m args below meth c s.heap [] 0 0 Q (F0 m 139 ls []) := by
                intro fz; induction fz with
                | zero => intro i hfz hi ls hl; exact absurd hfz (Nat.not_lt_zero _)
                | succ fz ih139 =>
                  intro i hfz hi ls hl
                  refine lv_iload_n hx hb (pc := 139) dX10_digest_139 rfl (lv_at hl 2 rfl) ?_
                  refine lv_aload_n hx hb (pc := 140) dX10_digest_140 rfl (lv_at hl 0 rfl) ?_
                  refine va_get (v := .int (nI wl)) hx hb hts (inX10_digest_10) hown hKK.1 hP 0 rfl rfl 4 (by decide) (hts _ (List.mem_of_getElem? (i := 7) (by decide +kernel))) (fun _ h9 => h9) rfl (pc := 141) dX10_digest_141 ?_
                  refine nv_icmp_ge (a := i) (b := wl) (tgt := 167) hx hb (pc := 144) dX10_digest_144 (by decide) (by omega) (by omega) (fun c144 => ?_) (fun c144 => ?_)
                  · obtain ⟨h8, hh8⟩ : ∃ z, z = dgW WD wl h7 := ⟨_, rfl⟩
                    have e7 : i = wl := by omega
                    refine lv_iconst (v := nI 0) hx hb (pc := 167) dX10_digest_167 (by decide) ?_
                    refine lv_istore_n (lv' := [(3, .int (nI 0)), (0, .ref om), (1, .long (dgW WD i h7))]) hx hb (pc := 168) dX10_digest_168 rfl hl (by decide) rfl (fun ls hl => ?_)
                    have L169 : ∀ (fz : Nat) (f : Nat) (hfz : nf - f < fz) (hf : f ≤ nf) (ls : Array Slot) (hl : lv_has ls 6 [(0, .ref om), (1, .long (dgB f FL FW h8)), (3, .int (nI f))]), W p l e rmX10_digest s m args below meth c s.heap [] 0 0 Q (F0 m 169 ls []) := by
                      intro fz; induction fz with
                      | zero => intro f hfz hf ls hl; exact absurd hfz (Nat.not_lt_zero _)
                      | succ fz ih169 =>
                        intro f hfz hf ls hl
                        refine lv_iload_n hx hb (pc := 169) dX10_digest_169 rfl (lv_at hl 2 rfl) ?_
                        refine lv_aload_n hx hb (pc := 170) dX10_digest_170 rfl (lv_at hl 0 rfl) ?_
                        refine va_get (v := .int (nI nf)) hx hb hts (inX10_digest_10) hown hKK.1 hP 0 rfl rfl 6 (by decide) (hts _ (List.mem_of_getElem? (i := 9) (by decide +kernel))) (fun _ h9 => h9) rfl (pc := 171) dX10_digest_171 ?_
                        refine nv_icmp_ge (a := f) (b := nf) (tgt := 236) hx hb (pc := 174) dX10_digest_174 (by decide) (by omega) (by omega) (fun c174 => ?_) (fun c174 => ?_)
                        · obtain ⟨h9, hh9⟩ : ∃ z, z = dgB nf FL FW h8 := ⟨_, rfl⟩
                          have e6 : f = nf := by omega
                          refine lv_iconst (v := nI 0) hx hb (pc := 236) dX10_digest_236 (by decide) ?_
                          refine lv_istore_n (lv' := [(3, .int (nI 0)), (0, .ref om), (1, .long (dgB f FL FW h8))]) hx hb (pc := 237) dX10_digest_237 rfl hl (by decide) rfl (fun ls hl => ?_)
                          have L238 : ∀ (fz : Nat) (r : Nat) (hfz : 2 ^ (2 * wd) - r < fz) (hr : r ≤ 2 ^ (2 * wd)) (ls : Array Slot) (hl : lv_has ls 6 [(0, .ref om), (1, .long (rr_fold (fun r h => dg h (nI (TD r))) r h9)), (3, .int (nI r))]), W p l e rmX10_digest s m args below meth c s.heap [] 0 0 Q (F0 m 238 ls []) := by
                            intro fz; induction fz with
                            | zero => intro r hfz hr ls hl; exact absurd hfz (Nat.not_lt_zero _)
                            | succ fz ih238 =>
                              intro r hfz hr ls hl
                              refine lv_iload_n hx hb (pc := 238) dX10_digest_238 rfl (lv_at hl 2 rfl) ?_
                              refine lv_aload_n hx hb (pc := 239) dX10_digest_239 rfl (lv_at hl 0 rfl) ?_
                              refine rr_callP (rv := .int (nI (2 ^ (2 * wd)))) (pc := 240) (va_runV (As := []) (rest := [.int (nI r)]) ⟨hx, hb, hml, hown, hts⟩ (c_X10_windowRows l K om ad ns wl nf wd mt kF nF yF WD FL FW TD RW pl nw xt vF wF qF bY gF nm xm fR oF hF dF hw) (cwV 0 hts gX10_digest_X10_windowRows rfl rfl rfl (by decide +kernel) ⟨Nat.le_of_ble_eq_true rfl, Nat.le_of_ble_eq_true rfl⟩) (rr_preV hKK (hP) (va_recv hKK.1 hP (ci := 10) (q0 := 0) rfl rfl)) rfl rfl hl.1 rfl (lv_room (Nat.le_of_ble_eq_true rfl)) dX10_digest_240 ⟨Nat.le_refl _, Nat.le_refl _⟩) ?_
                              refine nv_icmp_ge (a := r) (b := (2 ^ (2 * wd))) (tgt := 266) hx hb (pc := 243) dX10_digest_243 (by decide) (by omega) (by omega) (fun c243 => ?_) (fun c243 => ?_)
                              · refine lv_lload_n hx hb (pc := 266) dX10_digest_266 rfl (lv_at hl 1 rfl) ?_
                                have e5 : r = 2 ^ (2 * wd) := by omega
                                exact hret.2.1 267 _ (rr_fold (fun r h => dg h (nI (TD r))) r h9) dX10_digest_267 (by rw [e5]; unfold dgT; rw [← hh4, ← hh7, ← hh8, ← hh9]; rfl) rfl
                              · refine lv_ldc2 (v := lN 31) hx hb (pc := 246) hown (hts _ (List.mem_of_getElem? (i := 2) (by decide +kernel))) dX10_digest_246 ?_
                                refine lv_lload_n hx hb (pc := 249) dX10_digest_249 rfl (lv_at hl 1 rfl) ?_
                                refine lv_lmul hx hb (pc := 250) dX10_digest_250 ?_
                                refine lv_aload_n hx hb (pc := 251) dX10_digest_251 rfl (lv_at hl 0 rfl) ?_
                                refine va_get (v := .ref (ad 10)) hx hb hts (inX10_digest_10) hown hKK.1 hP 0 rfl rfl 10 (by decide) (hts _ (List.mem_of_getElem? (i := 12) (by decide +kernel))) (fun _ h9 => h9) rfl (pc := 252) dX10_digest_252 ?_
                                refine lv_iload_n hx hb (pc := 255) dX10_digest_255 rfl (lv_at hl 2 rfl) ?_
                                refine nv_iald (v := nI (TD r)) (i := r) hx hb hKK hP 7 rfl (by omega) (by decide) (rfl) (pc := 256) dX10_digest_256 ?_
                                refine lv_i2l (v := (nI (TD r)).toInt64) hx hb (pc := 257) dX10_digest_257 (rfl) ?_
                                refine lv_ladd hx hb (pc := 258) dX10_digest_258 ?_
                                refine lv_lstore_n (lv' := [(1, .long (((lN 31) * (rr_fold (fun r h => dg h (nI (TD r))) r h9)) + ((nI (TD r)).toInt64))), (0, .ref om), (3, .int (nI r))]) hx hb (pc := 259) dX10_digest_259 rfl hl (by decide) rfl (fun ls hl => ?_)
                                refine lv_iinc (v := nI (r + 1)) (lv' := [(3, .int (nI (r + 1))), (1, .long (((lN 31) * (rr_fold (fun r h => dg h (nI (TD r))) r h9)) + ((nI (TD r)).toInt64))), (0, .ref om)]) hx hb (pc := 260) dX10_digest_260 hl (k := 2) rfl (rr_inc _) (by decide) rfl (fun ls hl => ?_)
                                refine lv_goto (tgt := 238) hx hb (pc := 263) dX10_digest_263 (by decide) ?_
                                have hl : lv_has ls 6 [(3, .int (nI (r + 1))), (1, .long (rr_fold (fun r h => dg h (nI (TD r))) (r + 1) h9)), (0, .ref om)] := by rw [show rr_fold (fun r h => dg h (nI (TD r))) (r + 1) h9 = ((lN 31) * (rr_fold (fun r h => dg h (nI (TD r))) r h9)) + ((nI (TD r)).toInt64) from (dg_fold (fun r => nI (TD r)) r h9).symm]; exact hl
                                exact ih238 (r + 1) (by omega) (by omega) ls (lv_sub hl [2, 1, 0] rfl)
                          have hl : lv_has ls 6 [(3, .int (nI 0)), (0, .ref om), (1, .long (rr_fold (fun r h => dg h (nI (TD r))) 0 h9))] := by rw [show rr_fold (fun r h => dg h (nI (TD r))) 0 h9 = dgB f FL FW h8 from by rw [rr_fold_0, hh9, e6]]; exact hl
                          exact L238 (65) 0 (by omega) (Nat.zero_le _) ls (lv_sub hl [1, 2, 0] rfl)
                        · obtain ⟨f1, f5, f4⟩ := hF9.2 f (by omega)
                          refine lv_ldc2 (v := lN 31) hx hb (pc := 177) hown (hts _ (List.mem_of_getElem? (i := 2) (by decide +kernel))) dX10_digest_177 ?_
                          refine lv_lload_n hx hb (pc := 180) dX10_digest_180 rfl (lv_at hl 1 rfl) ?_
                          refine lv_lmul hx hb (pc := 181) dX10_digest_181 ?_
                          refine lv_aload_n hx hb (pc := 182) dX10_digest_182 rfl (lv_at hl 0 rfl) ?_
                          refine va_get (v := .ref (ad 7)) hx hb hts (inX10_digest_10) hown hKK.1 hP 0 rfl rfl 7 (by decide) (hts _ (List.mem_of_getElem? (i := 10) (by decide +kernel))) (fun _ h9 => h9) rfl (pc := 183) dX10_digest_183 ?_
                          refine lv_iload_n hx hb (pc := 186) dX10_digest_186 rfl (lv_at hl 2 rfl) ?_
                          refine nv_iald (v := nI (FL f)) (i := f) hx hb hKK hP 5 rfl (by omega) (by decide) (rfl) (pc := 187) dX10_digest_187 ?_
                          refine lv_i2l (v := (nI (FL f)).toInt64) hx hb (pc := 188) dX10_digest_188 (rfl) ?_
                          refine lv_ladd hx hb (pc := 189) dX10_digest_189 ?_
                          refine rr_top (v := .long (dg (dgB f FL FW h8) (nI (FL f)))) (congrArg Value.long (dg_def _ _)) ?_
                          refine lv_lstore_n (lv' := [(1, .long (dg (dgB f FL FW h8) (nI (FL f)))), (0, .ref om), (3, .int (nI f))]) hx hb (pc := 190) dX10_digest_190 rfl hl (by decide) rfl (fun ls hl => ?_)
                          refine lv_iconst (v := nI 0) hx hb (pc := 191) dX10_digest_191 (by decide) ?_
                          refine lv_istore (lv' := [(4, .int (nI 0)), (1, .long (dg (dgB f FL FW h8) (nI (FL f)))), (0, .ref om), (3, .int (nI f))]) hx hb (pc := 192) dX10_digest_192 hl (by decide) rfl (fun ls hl => ?_)
                          have L194 : ∀ (fz : Nat) (j : Nat) (hfz : FL f - j < fz) (hj : j ≤ FL f) (ls : Array Slot) (hl : lv_has ls 6 [(0, .ref om), (1, .long (rr_fold (fun j h => dg h (nI (FW (f * 5 + j)))) j (dg (dgB f FL FW h8) (nI (FL f))))), (3, .int (nI f)), (4, .int (nI j))]), W p l e rmX10_digest s m args below meth c s.heap [] 0 0 Q (F0 m 194 ls []) := by
                            intro fz; induction fz with
                            | zero => intro j hfz hj ls hl; exact absurd hfz (Nat.not_lt_zero _)
                            | succ fz ih194 =>
                              intro j hfz hj ls hl
                              refine lv_iload hx hb (pc := 194) dX10_digest_194 (lv_at hl 3 rfl) ?_
                              refine lv_aload_n hx hb (pc := 196) dX10_digest_196 rfl (lv_at hl 0 rfl) ?_
                              refine va_get (v := .ref (ad 7)) hx hb hts (inX10_digest_10) hown hKK.1 hP 0 rfl rfl 7 (by decide) (hts _ (List.mem_of_getElem? (i := 10) (by decide +kernel))) (fun _ h9 => h9) rfl (pc := 197) dX10_digest_197 ?_
                              refine lv_iload_n hx hb (pc := 200) dX10_digest_200 rfl (lv_at hl 2 rfl) ?_
                              refine nv_iald (v := nI (FL f)) (i := f) hx hb hKK hP 5 rfl (by omega) (by decide) (rfl) (pc := 201) dX10_digest_201 ?_
                              refine nv_icmp_ge (a := j) (b := (FL f)) (tgt := 230) hx hb (pc := 202) dX10_digest_202 (by decide) (by omega) (by omega) (fun c202 => ?_) (fun c202 => ?_)
                              · refine lv_iinc (v := nI (f + 1)) (lv' := [(3, .int (nI (f + 1))), (0, .ref om), (1, .long (rr_fold (fun j h => dg h (nI (FW (f * 5 + j)))) j (dg (dgB f FL FW h8) (nI (FL f))))), (4, .int (nI j))]) hx hb (pc := 230) dX10_digest_230 hl (k := 2) rfl (rr_inc _) (by decide) rfl (fun ls hl => ?_)
                                refine lv_goto (tgt := 169) hx hb (pc := 233) dX10_digest_233 (by decide) ?_
                                have hl : lv_has ls 6 [(3, .int (nI (f + 1))), (0, .ref om), (1, .long (dgB (f + 1) FL FW h8)), (4, .int (nI j))] := by rw [show dgB (f + 1) FL FW h8 = rr_fold (fun j h => dg h (nI (FW (f * 5 + j)))) j (dg (dgB f FL FW h8) (nI (FL f))) from by rw [show j = FL f by omega, dgB_succ]]; exact hl
                                exact ih169 (f + 1) (by omega) (by omega) ls (lv_sub hl [1, 2, 0] rfl)
                              · refine lv_ldc2 (v := lN 31) hx hb (pc := 205) hown (hts _ (List.mem_of_getElem? (i := 2) (by decide +kernel))) dX10_digest_205 ?_
                                refine lv_lload_n hx hb (pc := 208) dX10_digest_208 rfl (lv_at hl 1 rfl) ?_
                                refine lv_lmul hx hb (pc := 209) dX10_digest_209 ?_
                                refine lv_aload_n hx hb (pc := 210) dX10_digest_210 rfl (lv_at hl 0 rfl) ?_
                                refine va_get (v := .ref (ad 8)) hx hb hts (inX10_digest_10) hown hKK.1 hP 0 rfl rfl 8 (by decide) (hts _ (List.mem_of_getElem? (i := 11) (by decide +kernel))) (fun _ h9 => h9) rfl (pc := 211) dX10_digest_211 ?_
                                refine lv_iconst (v := nI 5) hx hb (pc := 214) dX10_digest_214 (by decide) ?_
                                refine lv_iload_n hx hb (pc := 215) dX10_digest_215 rfl (lv_at hl 2 rfl) ?_
                                refine nv_imul (a := 5) (b := f) hx hb (pc := 216) dX10_digest_216 ?_
                                refine lv_iload hx hb (pc := 217) dX10_digest_217 (lv_at hl 3 rfl) ?_
                                refine nv_iadd (a := (5 * f)) (b := j) hx hb (pc := 219) dX10_digest_219 ?_
                                refine nv_iald (v := nI (FW (f * 5 + j))) (i := ((5 * f) + j)) hx hb hKK hP 6 rfl (by omega) (by decide) (congrArg (fun z => nI (FW (z + j))) (Nat.mul_comm 5 f)) (pc := 220) dX10_digest_220 ?_
                                refine lv_i2l (v := (nI (FW (f * 5 + j))).toInt64) hx hb (pc := 221) dX10_digest_221 (rfl) ?_
                                refine lv_ladd hx hb (pc := 222) dX10_digest_222 ?_
                                refine lv_lstore_n (lv' := [(1, .long (((lN 31) * (rr_fold (fun j h => dg h (nI (FW (f * 5 + j)))) j (dg (dgB f FL FW h8) (nI (FL f))))) + ((nI (FW (f * 5 + j))).toInt64))), (0, .ref om), (3, .int (nI f)), (4, .int (nI j))]) hx hb (pc := 223) dX10_digest_223 rfl hl (by decide) rfl (fun ls hl => ?_)
                                refine lv_iinc (v := nI (j + 1)) (lv' := [(4, .int (nI (j + 1))), (1, .long (((lN 31) * (rr_fold (fun j h => dg h (nI (FW (f * 5 + j)))) j (dg (dgB f FL FW h8) (nI (FL f))))) + ((nI (FW (f * 5 + j))).toInt64))), (0, .ref om), (3, .int (nI f))]) hx hb (pc := 224) dX10_digest_224 hl (k := 3) rfl (rr_inc _) (by decide) rfl (fun ls hl => ?_)
                                refine lv_goto (tgt := 194) hx hb (pc := 227) dX10_digest_227 (by decide) ?_
                                have hl : lv_has ls 6 [(4, .int (nI (j + 1))), (1, .long (rr_fold (fun j h => dg h (nI (FW (f * 5 + j)))) (j + 1) (dg (dgB f FL FW h8) (nI (FL f))))), (0, .ref om), (3, .int (nI f))] := by rw [show rr_fold (fun j h => dg h (nI (FW (f * 5 + j)))) (j + 1) (dg (dgB f FL FW h8) (nI (FL f))) = ((lN 31) * (rr_fold (fun j h => dg h (nI (FW (f * 5 + j)))) j (dg (dgB f FL FW h8) (nI (FL f))))) + ((nI (FW (f * 5 + j))).toInt64) from (dg_fold (fun j => nI (FW (f * 5 + j))) j (dg (dgB f FL FW h8) (nI (FL f)))).symm]; exact hl
                                exact ih194 (j + 1) (by omega) (by omega) ls (lv_sub hl [2, 1, 3, 0] rfl)
                          have hl : lv_has ls 6 [(4, .int (nI 0)), (1, .long (rr_fold (fun j h => dg h (nI (FW (f * 5 + j)))) 0 (dg (dgB f FL FW h8) (nI (FL f))))), (0, .ref om), (3, .int (nI f))] := by rw [show rr_fold (fun j h => dg h (nI (FW (f * 5 + j)))) 0 (dg (dgB f FL FW h8) (nI (FL f))) = dg (dgB f FL FW h8) (nI (FL f)) from rr_fold_0 _ _]; exact hl
                          exact L194 (6) 0 (by omega) (Nat.zero_le _) ls (lv_sub hl [2, 1, 3, 0] rfl)
                    have hl : lv_has ls 6 [(3, .int (nI 0)), (0, .ref om), (1, .long (dgB 0 FL FW h8))] := by rw [show dgB 0 FL FW h8 = dgW WD i h7 from by rw [dgB_0, hh8, e7]]; exact hl
                    exact L169 (9) 0 (by omega) (Nat.zero_le _) ls (lv_sub hl [1, 2, 0] rfl)
                  · refine lv_ldc2 (v := lN 31) hx hb (pc := 147) hown (hts _ (List.mem_of_getElem? (i := 2) (by decide +kernel))) dX10_digest_147 ?_
                    refine lv_lload_n hx hb (pc := 150) dX10_digest_150 rfl (lv_at hl 1 rfl) ?_
                    refine lv_lmul hx hb (pc := 151) dX10_digest_151 ?_
                    refine lv_aload_n hx hb (pc := 152) dX10_digest_152 rfl (lv_at hl 0 rfl) ?_
                    refine va_get (v := .ref (ad 5)) hx hb hts (inX10_digest_10) hown hKK.1 hP 0 rfl rfl 5 (by decide) (hts _ (List.mem_of_getElem? (i := 8) (by decide +kernel))) (fun _ h9 => h9) rfl (pc := 153) dX10_digest_153 ?_
                    refine lv_iload_n hx hb (pc := 156) dX10_digest_156 rfl (lv_at hl 2 rfl) ?_
                    refine nv_iald (v := nI (WD i)) (i := i) hx hb hKK hP 4 rfl (by omega) (by decide) (rfl) (pc := 157) dX10_digest_157 ?_
                    refine lv_i2l (v := (nI (WD i)).toInt64) hx hb (pc := 158) dX10_digest_158 (rfl) ?_
                    refine lv_ladd hx hb (pc := 159) dX10_digest_159 ?_
                    refine lv_lstore_n (lv' := [(1, .long (((lN 31) * (dgW WD i h7)) + ((nI (WD i)).toInt64))), (0, .ref om), (3, .int (nI i))]) hx hb (pc := 160) dX10_digest_160 rfl hl (by decide) rfl (fun ls hl => ?_)
                    refine lv_iinc (v := nI (i + 1)) (lv' := [(3, .int (nI (i + 1))), (1, .long (((lN 31) * (dgW WD i h7)) + ((nI (WD i)).toInt64))), (0, .ref om)]) hx hb (pc := 161) dX10_digest_161 hl (k := 2) rfl (rr_inc _) (by decide) rfl (fun ls hl => ?_)
                    refine lv_goto (tgt := 139) hx hb (pc := 164) dX10_digest_164 (by decide) ?_
                    have hl : lv_has ls 6 [(3, .int (nI (i + 1))), (1, .long (dgW WD (i + 1) h7)), (0, .ref om)] := by rw [show dgW WD (i + 1) h7 = ((lN 31) * (dgW WD i h7)) + ((nI (WD i)).toInt64) from (dg_fold (fun i => nI (WD i)) i h7).symm]; exact hl
                    exact ih139 (i + 1) (by omega) (by omega) ls (lv_sub hl [2, 1, 0] rfl)
              have hl : lv_has ls 6 [(3, .int (nI 0)), (0, .ref om), (1, .long (dgW WD 0 h7))] := by rw [show dgW WD 0 h7 = dgS kF nF yF x h4 from by rw [dgW_0, hh7, show x = ns by omega]]; exact hl
              exact L139 (31) 0 (by omega) (Nat.zero_le _) ls (lv_sub hl [1, 2, 0] rfl)
            · obtain ⟨s1x, s2x, s3x, s4x, s5x⟩ := hS9.2 x (by omega)
              obtain ⟨h5, hh5⟩ : ∃ z, z = dgS kF nF yF x h4 := ⟨_, rfl⟩
              refine lv_iconst (v := nI 0) hx hb (pc := 40) dX10_digest_40 (by decide) ?_
              refine lv_istore (lv' := [(4, .int (nI 0)), (0, .ref om), (1, .long (dgS kF nF yF x h4)), (3, .int (nI x))]) hx hb (pc := 41) dX10_digest_41 hl (by decide) rfl (fun ls hl => ?_)
              have L43 : ∀ (fz : Nat) (i : Nat) (hfz : 5 - i < fz) (hi : i ≤ 5) (ls : Array Slot) (hl : lv_has ls 6 [(0, .ref om), (1, .long (rr_fold (fun i h => dg h (abtA ns kF nF yF (nI x) (nI i))) i h5)), (3, .int (nI x)), (4, .int (nI i))]), W p l e rmX10_digest s m args below meth c s.heap [] 0 0 Q (F0 m 43 ls []) := by
                intro fz; induction fz with
                | zero => intro i hfz hi ls hl; exact absurd hfz (Nat.not_lt_zero _)
                | succ fz ih43 =>
                  intro i hfz hi ls hl
                  refine lv_iload hx hb (pc := 43) dX10_digest_43 (lv_at hl 3 rfl) ?_
                  refine lv_iconst (v := nI 5) hx hb (pc := 45) dX10_digest_45 (by decide) ?_
                  refine nv_icmp_ge (a := i) (b := 5) (tgt := 70) hx hb (pc := 46) dX10_digest_46 (by decide) (by omega) (by omega) (fun c46 => ?_) (fun c46 => ?_)
                  · have e8 : i = 5 := by omega
                    obtain ⟨h6, hh6⟩ : ∃ z, z = dgH h5 (kF x) (nF x) (waysS (kF x) (nF x) (Es yF x)) (pc (liveS (kF x) (nF x) (Es yF x))) (lwS (kF x) (nF x) (liveS (kF x) (nF x) (Es yF x)) (Es yF x)) := ⟨_, rfl⟩
                    refine lv_iconst (v := nI 0) hx hb (pc := 70) dX10_digest_70 (by decide) ?_
                    refine lv_istore (lv' := [(4, .int (nI 0)), (0, .ref om), (1, .long (rr_fold (fun i h => dg h (abtA ns kF nF yF (nI x) (nI i))) i h5)), (3, .int (nI x))]) hx hb (pc := 71) dX10_digest_71 hl (by decide) rfl (fun ls hl => ?_)
                    have L73 : ∀ (fz : Nat) (q : Nat) (hfz : nF x - q < fz) (hq : q ≤ nF x) (ls : Array Slot) (hl : lv_has ls 6 [(0, .ref om), (1, .long (dgE (kF x) q (Es yF x) h6)), (3, .int (nI x)), (4, .int (nI q))]), W p l e rmX10_digest s m args below meth c s.heap [] 0 0 Q (F0 m 73 ls []) := by
                      intro fz; induction fz with
                      | zero => intro q hfz hq ls hl; exact absurd hfz (Nat.not_lt_zero _)
                      | succ fz ih73 =>
                        intro q hfz hq ls hl
                        refine lv_iload hx hb (pc := 73) dX10_digest_73 (lv_at hl 3 rfl) ?_
                        refine lv_aload_n hx hb (pc := 75) dX10_digest_75 rfl (lv_at hl 0 rfl) ?_
                        refine va_get (v := .ref (ad 2)) hx hb hts (inX10_digest_10) hown hKK.1 hP 0 rfl rfl 2 (by decide) (hts _ (List.mem_of_getElem? (i := 4) (by decide +kernel))) (fun _ h9 => h9) rfl (pc := 76) dX10_digest_76 ?_
                        refine lv_iload_n hx hb (pc := 79) dX10_digest_79 rfl (lv_at hl 2 rfl) ?_
                        refine nv_iald (v := nI (nF x)) (i := x) hx hb hKK hP 2 rfl (by omega) (by decide) (rfl) (pc := 80) dX10_digest_80 ?_
                        refine nv_icmp_ge (a := q) (b := (nF x)) (tgt := 131) hx hb (pc := 81) dX10_digest_81 (by decide) (by omega) (by omega) (fun c81 => ?_) (fun c81 => ?_)
                        · refine lv_iinc (v := nI (x + 1)) (lv' := [(3, .int (nI (x + 1))), (0, .ref om), (1, .long (dgE (kF x) q (Es yF x) h6)), (4, .int (nI q))]) hx hb (pc := 131) dX10_digest_131 hl (k := 2) rfl (rr_inc _) (by decide) rfl (fun ls hl => ?_)
                          refine lv_goto (tgt := 32) hx hb (pc := 134) dX10_digest_134 (by decide) ?_
                          have hl : lv_has ls 6 [(3, .int (nI (x + 1))), (0, .ref om), (1, .long (dgS kF nF yF (x + 1) h4)), (4, .int (nI q))] := by rw [show dgS kF nF yF (x + 1) h4 = dgE (kF x) q (Es yF x) h6 from by rw [show q = nF x by omega, dgS_succ, hh6, hh5]; rfl]; exact hl
                          exact ih32 (x + 1) (by omega) (by omega) ls (lv_sub hl [1, 2, 0] rfl)
                        · refine lv_iconst (v := nI 0) hx hb (pc := 84) dX10_digest_84 (by decide) ?_
                          refine lv_istore (lv' := [(5, .int (nI 0)), (0, .ref om), (1, .long (dgE (kF x) q (Es yF x) h6)), (3, .int (nI x)), (4, .int (nI q))]) hx hb (pc := 85) dX10_digest_85 hl (by decide) rfl (fun ls hl => ?_)
                          have L87 : ∀ (fz : Nat) (y : Nat) (hfz : kF x - y < fz) (hy : y ≤ kF x) (ls : Array Slot) (hl : lv_has ls 6 [(0, .ref om), (1, .long (rr_fold (fun y h => dg h (nI (Es yF x (q * 4 + y)))) y (dgE (kF x) q (Es yF x) h6))), (3, .int (nI x)), (4, .int (nI q)), (5, .int (nI y))]), W p l e rmX10_digest s m args below meth c s.heap [] 0 0 Q (F0 m 87 ls []) := by
                            intro fz; induction fz with
                            | zero => intro y hfz hy ls hl; exact absurd hfz (Nat.not_lt_zero _)
                            | succ fz ih87 =>
                              intro y hfz hy ls hl
                              refine lv_iload hx hb (pc := 87) dX10_digest_87 (lv_at hl 4 rfl) ?_
                              refine lv_aload_n hx hb (pc := 89) dX10_digest_89 rfl (lv_at hl 0 rfl) ?_
                              refine va_get (v := .ref (ad 1)) hx hb hts (inX10_digest_10) hown hKK.1 hP 0 rfl rfl 1 (by decide) (hts _ (List.mem_of_getElem? (i := 5) (by decide +kernel))) (fun _ h9 => h9) rfl (pc := 90) dX10_digest_90 ?_
                              refine lv_iload_n hx hb (pc := 93) dX10_digest_93 rfl (lv_at hl 2 rfl) ?_
                              refine nv_iald (v := nI (kF x)) (i := x) hx hb hKK hP 1 rfl (by omega) (by decide) (rfl) (pc := 94) dX10_digest_94 ?_
                              refine nv_icmp_ge (a := y) (b := (kF x)) (tgt := 125) hx hb (pc := 95) dX10_digest_95 (by decide) (by omega) (by omega) (fun c95 => ?_) (fun c95 => ?_)
                              · refine lv_iinc (v := nI (q + 1)) (lv' := [(4, .int (nI (q + 1))), (0, .ref om), (1, .long (rr_fold (fun y h => dg h (nI (Es yF x (q * 4 + y)))) y (dgE (kF x) q (Es yF x) h6))), (3, .int (nI x)), (5, .int (nI y))]) hx hb (pc := 125) dX10_digest_125 hl (k := 3) rfl (rr_inc _) (by decide) rfl (fun ls hl => ?_)
                                refine lv_goto (tgt := 73) hx hb (pc := 128) dX10_digest_128 (by decide) ?_
                                have hl : lv_has ls 6 [(4, .int (nI (q + 1))), (0, .ref om), (1, .long (dgE (kF x) (q + 1) (Es yF x) h6)), (3, .int (nI x)), (5, .int (nI y))] := by rw [show dgE (kF x) (q + 1) (Es yF x) h6 = rr_fold (fun y h => dg h (nI (Es yF x (q * 4 + y)))) y (dgE (kF x) q (Es yF x) h6) from by rw [show y = kF x by omega, dgE_succ]]; exact hl
                                exact ih73 (q + 1) (by omega) (by omega) ls (lv_sub hl [1, 2, 3, 0] rfl)
                              · refine lv_ldc2 (v := lN 31) hx hb (pc := 98) hown (hts _ (List.mem_of_getElem? (i := 2) (by decide +kernel))) dX10_digest_98 ?_
                                refine lv_lload_n hx hb (pc := 101) dX10_digest_101 rfl (lv_at hl 1 rfl) ?_
                                refine lv_lmul hx hb (pc := 102) dX10_digest_102 ?_
                                refine lv_aload_n hx hb (pc := 103) dX10_digest_103 rfl (lv_at hl 0 rfl) ?_
                                refine va_get (v := .ref (ad 3)) hx hb hts (inX10_digest_10) hown hKK.1 hP 0 rfl rfl 3 (by decide) (hts _ (List.mem_of_getElem? (i := 6) (by decide +kernel))) (fun _ h9 => h9) rfl (pc := 104) dX10_digest_104 ?_
                                refine lv_iload_n hx hb (pc := 107) dX10_digest_107 rfl (lv_at hl 2 rfl) ?_
                                refine lv_iload hx hb (pc := 108) dX10_digest_108 (lv_at hl 3 rfl) ?_
                                refine lv_iload hx hb (pc := 110) dX10_digest_110 (lv_at hl 4 rfl) ?_
                                refine rr_callP (rv := .int (nI (64 * x + (q * 4 + y)))) (pc := 112) (va_runS (As := [.int (nI x), .int (nI q), .int (nI y)]) (rest := [.ref (ad 3), .long ((lN 31) * (rr_fold (fun y h => dg h (nI (Es yF x (q * 4 + y)))) y (dgE (kF x) q (Es yF x) h6)))]) ⟨hx, hb, hml, hown, hts⟩ (c_X10_at l K x q y) (cwS 3 hts gX10_digest_X10_at rfl rfl rfl (by decide +kernel) ⟨Nat.le_of_ble_eq_true rfl, Nat.le_of_ble_eq_true rfl⟩) (rr_preS hKK (trivial)) rfl rfl hl.1 rfl (lv_room (Nat.le_of_ble_eq_true rfl)) dX10_digest_112 ⟨Nat.le_refl _, Nat.le_refl _⟩) ?_
                                refine nv_iald (v := nI (Es yF x (q * 4 + y))) (i := (64 * x + (q * 4 + y))) hx hb hKK hP 3 rfl (by omega) (by decide) (rfl) (pc := 115) dX10_digest_115 ?_
                                refine lv_i2l (v := (nI (Es yF x (q * 4 + y))).toInt64) hx hb (pc := 116) dX10_digest_116 (rfl) ?_
                                refine lv_ladd hx hb (pc := 117) dX10_digest_117 ?_
                                refine lv_lstore_n (lv' := [(1, .long (((lN 31) * (rr_fold (fun y h => dg h (nI (Es yF x (q * 4 + y)))) y (dgE (kF x) q (Es yF x) h6))) + ((nI (Es yF x (q * 4 + y))).toInt64))), (0, .ref om), (3, .int (nI x)), (4, .int (nI q)), (5, .int (nI y))]) hx hb (pc := 118) dX10_digest_118 rfl hl (by decide) rfl (fun ls hl => ?_)
                                refine lv_iinc (v := nI (y + 1)) (lv' := [(5, .int (nI (y + 1))), (1, .long (((lN 31) * (rr_fold (fun y h => dg h (nI (Es yF x (q * 4 + y)))) y (dgE (kF x) q (Es yF x) h6))) + ((nI (Es yF x (q * 4 + y))).toInt64))), (0, .ref om), (3, .int (nI x)), (4, .int (nI q))]) hx hb (pc := 119) dX10_digest_119 hl (k := 4) rfl (rr_inc _) (by decide) rfl (fun ls hl => ?_)
                                refine lv_goto (tgt := 87) hx hb (pc := 122) dX10_digest_122 (by decide) ?_
                                have hl : lv_has ls 6 [(5, .int (nI (y + 1))), (1, .long (rr_fold (fun y h => dg h (nI (Es yF x (q * 4 + y)))) (y + 1) (dgE (kF x) q (Es yF x) h6))), (0, .ref om), (3, .int (nI x)), (4, .int (nI q))] := by rw [show rr_fold (fun y h => dg h (nI (Es yF x (q * 4 + y)))) (y + 1) (dgE (kF x) q (Es yF x) h6) = ((lN 31) * (rr_fold (fun y h => dg h (nI (Es yF x (q * 4 + y)))) y (dgE (kF x) q (Es yF x) h6))) + ((nI (Es yF x (q * 4 + y))).toInt64) from (dg_fold (fun y => nI (Es yF x (q * 4 + y))) y (dgE (kF x) q (Es yF x) h6)).symm]; exact hl
                                exact ih87 (y + 1) (by omega) (by omega) ls (lv_sub hl [2, 1, 3, 4, 0] rfl)
                          have hl : lv_has ls 6 [(5, .int (nI 0)), (0, .ref om), (1, .long (rr_fold (fun y h => dg h (nI (Es yF x (q * 4 + y)))) 0 (dgE (kF x) q (Es yF x) h6))), (3, .int (nI x)), (4, .int (nI q))] := by rw [show rr_fold (fun y h => dg h (nI (Es yF x (q * 4 + y)))) 0 (dgE (kF x) q (Es yF x) h6) = dgE (kF x) q (Es yF x) h6 from rr_fold_0 _ _]; exact hl
                          exact L87 (5) 0 (by omega) (Nat.zero_le _) ls (lv_sub hl [1, 2, 3, 4, 0] rfl)
                    have hl : lv_has ls 6 [(4, .int (nI 0)), (0, .ref om), (1, .long (dgE (kF x) 0 (Es yF x) h6)), (3, .int (nI x))] := by rw [show dgE (kF x) 0 (Es yF x) h6 = rr_fold (fun i h => dg h (abtA ns kF nF yF (nI x) (nI i))) i h5 from by rw [e8, dgH_fold hns (by omega), dgE_0, hh6]]; exact hl
                    exact L73 (17) 0 (by omega) (Nat.zero_le _) ls (lv_sub hl [1, 2, 3, 0] rfl)
                  · refine lv_ldc2 (v := lN 31) hx hb (pc := 49) hown (hts _ (List.mem_of_getElem? (i := 2) (by decide +kernel))) dX10_digest_49 ?_
                    refine lv_lload_n hx hb (pc := 52) dX10_digest_52 rfl (lv_at hl 1 rfl) ?_
                    refine lv_lmul hx hb (pc := 53) dX10_digest_53 ?_
                    refine lv_aload_n hx hb (pc := 54) dX10_digest_54 rfl (lv_at hl 0 rfl) ?_
                    refine lv_iload_n hx hb (pc := 55) dX10_digest_55 rfl (lv_at hl 2 rfl) ?_
                    refine lv_iload hx hb (pc := 56) dX10_digest_56 (lv_at hl 3 rfl) ?_
                    refine rr_callP (rv := .int (abtA ns kF nF yF (nI x) (nI i))) (pc := 58) (va_runV (As := [.int (nI x), .int (nI i)]) (rest := [.long ((lN 31) * (rr_fold (fun i h => dg h (abtA ns kF nF yF (nI x) (nI i))) i h5))]) ⟨hx, hb, hml, hown, hts⟩ (c_X10_about l K om ad ns wl nf wd mt kF nF yF WD FL FW TD RW pl nw xt vF wF qF bY gF nm xm fR oF hF dF (nI x) (nI i) hS9) (cwV 2 hts gX10_digest_X10_about rfl rfl rfl (by decide +kernel) ⟨Nat.le_of_ble_eq_true rfl, Nat.le_of_ble_eq_true rfl⟩) (rr_preV hKK (hP) (va_recv hKK.1 hP (ci := 10) (q0 := 0) rfl rfl)) rfl rfl hl.1 rfl (lv_room (Nat.le_of_ble_eq_true rfl)) dX10_digest_58 ⟨Nat.le_refl _, Nat.le_refl _⟩) ?_
                    refine lv_i2l (v := (abtA ns kF nF yF (nI x) (nI i)).toInt64) hx hb (pc := 61) dX10_digest_61 (rfl) ?_
                    refine lv_ladd hx hb (pc := 62) dX10_digest_62 ?_
                    refine lv_lstore_n (lv' := [(1, .long (((lN 31) * (rr_fold (fun i h => dg h (abtA ns kF nF yF (nI x) (nI i))) i h5)) + ((abtA ns kF nF yF (nI x) (nI i)).toInt64))), (0, .ref om), (3, .int (nI x)), (4, .int (nI i))]) hx hb (pc := 63) dX10_digest_63 rfl hl (by decide) rfl (fun ls hl => ?_)
                    refine lv_iinc (v := nI (i + 1)) (lv' := [(4, .int (nI (i + 1))), (1, .long (((lN 31) * (rr_fold (fun i h => dg h (abtA ns kF nF yF (nI x) (nI i))) i h5)) + ((abtA ns kF nF yF (nI x) (nI i)).toInt64))), (0, .ref om), (3, .int (nI x))]) hx hb (pc := 64) dX10_digest_64 hl (k := 3) rfl (rr_inc _) (by decide) rfl (fun ls hl => ?_)
                    refine lv_goto (tgt := 43) hx hb (pc := 67) dX10_digest_67 (by decide) ?_
                    have hl : lv_has ls 6 [(4, .int (nI (i + 1))), (1, .long (rr_fold (fun i h => dg h (abtA ns kF nF yF (nI x) (nI i))) (i + 1) h5)), (0, .ref om), (3, .int (nI x))] := by rw [show rr_fold (fun i h => dg h (abtA ns kF nF yF (nI x) (nI i))) (i + 1) h5 = ((lN 31) * (rr_fold (fun i h => dg h (abtA ns kF nF yF (nI x) (nI i))) i h5)) + ((abtA ns kF nF yF (nI x) (nI i)).toInt64) from (dg_fold (fun i => abtA ns kF nF yF (nI x) (nI i)) i h5).symm]; exact hl
                    exact ih43 (i + 1) (by omega) (by omega) ls (lv_sub hl [2, 1, 3, 0] rfl)
              have hl : lv_has ls 6 [(4, .int (nI 0)), (0, .ref om), (1, .long (rr_fold (fun i h => dg h (abtA ns kF nF yF (nI x) (nI i))) 0 h5)), (3, .int (nI x))] := by rw [show rr_fold (fun i h => dg h (abtA ns kF nF yF (nI x) (nI i))) 0 h5 = dgS kF nF yF x h4 from hh5]; exact hl
              exact L43 (6) 0 (by omega) (Nat.zero_le _) ls (lv_sub hl [1, 2, 3, 0] rfl)
        have hl : lv_has ls 6 [(3, .int (nI 0)), (0, .ref om), (1, .long (dgS kF nF yF 0 h4))] := by rw [show dgS kF nF yF 0 h4 = rr_fold (fun i h => dg h (cntA ns wl nf wd (nI i))) i (lN 193) from by rw [e9, dg4_fold, dgS_0, hh4]]; exact hl
        exact L32 (7) 0 (by omega) (Nat.zero_le _) ls (lv_sub hl [1, 2, 0] rfl)
      · refine lv_ldc2 (v := lN 31) hx hb (pc := 11) hown (hts _ (List.mem_of_getElem? (i := 2) (by decide +kernel))) dX10_digest_11 ?_
        refine lv_lload_n hx hb (pc := 14) dX10_digest_14 rfl (lv_at hl 1 rfl) ?_
        refine lv_lmul hx hb (pc := 15) dX10_digest_15 ?_
        refine lv_aload_n hx hb (pc := 16) dX10_digest_16 rfl (lv_at hl 0 rfl) ?_
        refine lv_iload_n hx hb (pc := 17) dX10_digest_17 rfl (lv_at hl 2 rfl) ?_
        refine rr_callP (rv := .int (cntA ns wl nf wd (nI i))) (pc := 18) (va_runV (As := [.int (nI i)]) (rest := [.long ((lN 31) * (rr_fold (fun i h => dg h (cntA ns wl nf wd (nI i))) i (lN 193)))]) ⟨hx, hb, hml, hown, hts⟩ (c_X10_count l K om ad ns wl nf wd mt kF nF yF WD FL FW TD RW pl nw xt vF wF qF bY gF nm xm fR oF hF dF (nI i)) (cwV 1 hts gX10_digest_X10_count rfl rfl rfl (by decide +kernel) ⟨Nat.le_of_ble_eq_true rfl, Nat.le_of_ble_eq_true rfl⟩) (rr_preV hKK (hP) (va_recv hKK.1 hP (ci := 10) (q0 := 0) rfl rfl)) rfl rfl hl.1 rfl (lv_room (Nat.le_of_ble_eq_true rfl)) dX10_digest_18 ⟨Nat.le_refl _, Nat.le_refl _⟩) ?_
        refine lv_i2l (v := (cntA ns wl nf wd (nI i)).toInt64) hx hb (pc := 21) dX10_digest_21 (rfl) ?_
        refine lv_ladd hx hb (pc := 22) dX10_digest_22 ?_
        refine lv_lstore_n (lv' := [(1, .long (((lN 31) * (rr_fold (fun i h => dg h (cntA ns wl nf wd (nI i))) i (lN 193))) + ((cntA ns wl nf wd (nI i)).toInt64))), (0, .ref om), (3, .int (nI i))]) hx hb (pc := 23) dX10_digest_23 rfl hl (by decide) rfl (fun ls hl => ?_)
        refine lv_iinc (v := nI (i + 1)) (lv' := [(3, .int (nI (i + 1))), (1, .long (((lN 31) * (rr_fold (fun i h => dg h (cntA ns wl nf wd (nI i))) i (lN 193))) + ((cntA ns wl nf wd (nI i)).toInt64))), (0, .ref om)]) hx hb (pc := 24) dX10_digest_24 hl (k := 2) rfl (rr_inc _) (by decide) rfl (fun ls hl => ?_)
        refine lv_goto (tgt := 6) hx hb (pc := 27) dX10_digest_27 (by decide) ?_
        have hl : lv_has ls 6 [(3, .int (nI (i + 1))), (1, .long (rr_fold (fun i h => dg h (cntA ns wl nf wd (nI i))) (i + 1) (lN 193))), (0, .ref om)] := by rw [show rr_fold (fun i h => dg h (cntA ns wl nf wd (nI i))) (i + 1) (lN 193) = ((lN 31) * (rr_fold (fun i h => dg h (cntA ns wl nf wd (nI i))) i (lN 193))) + ((cntA ns wl nf wd (nI i)).toInt64) from (dg_fold (fun i => cntA ns wl nf wd (nI i)) i (lN 193)).symm]; exact hl
        exact ih6 (i + 1) (by omega) (by omega) ls (lv_sub hl [2, 1, 0] rfl)
  have hl : lv_has ls 6 [(3, .int (nI 0)), (1, .long (rr_fold (fun i h => dg h (cntA ns wl nf wd (nI i))) 0 (lN 193))), (0, .ref om)] := by rw [show rr_fold (fun i h => dg h (cntA ns wl nf wd (nI i))) 0 (lN 193) = 193 from rfl]; exact hl
  exact L6 (5) 0 (by omega) (Nat.zero_le _) ls (lv_sub hl [2, 1, 0] rfl)

