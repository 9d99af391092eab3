section
theorem lc_set {p : Program} {l : Launch} {e : Env} {s : State} {m : MethodId} {args : Array Value} {below : List Frame} {meth : Method} {c : Code} {Q : State → Prop} {K : rr_K} {b L : Nat} {xs : Nat → Int32} {M : Nat → Prop} {up co om i : Nat} {H : Heap} {locs : List Loc} {nc nsl : Nat} {ls : Array Slot} (hx : p.tables.exec = Jvm.exec) (hb : c.code = cL_law) (hml : c.maxLocals = 4) (hown : s.vm.findClass RL = some m.cls) (hts : ∀ w ∈ wsL_law, w.before args s = true) (hKK : KK K s) (hX : va_X b L xs s s.heap) (hbl : b < s.heap.size) (hL : L ≤ 3072) (h6 : i + 6 ≤ L) (h1 : ∀ q, M q → s.heap.size ≤ q ∧ q < up) (h3 : up ≤ H.size) (hS : va_S (fun q : Nat => s.heap.size ≤ q) s.heap H locs) (hI : LI K s.heap.size M co om H nc nsl) (hl : lv_has ls 4 [(3, .int (nI i)), (2, .ref om), (1, .ref co), (0, .ref b)]) (kk : ∀ (H1 : Heap) (locs1 : List Loc) (nc1 nsl1 : Nat), va_S (fun q : Nat => s.heap.size ≤ q) s.heap H1 locs1 → LI K s.heap.size M co om H1 nc1 nsl1 → up ≤ H1.size → W p l e room_1 s m args below meth c H1 locs1 nc1 nsl1 Q (F0 m 974 ls [])) : W p l e room_1 s m args below meth c H locs nc nsl Q (F0 m 152 ls []) := by
  obtain ⟨cap, room, ns, wl, nf, wd, kF, nF, yF, WD, FL, FW, TD, hN, hC, hM, hcap, hroom, hnc, hnsl⟩ := hI
  have hbA : ¬ (fun q : Nat => s.heap.size ≤ q) b := Nat.not_le.mpr hbl
  have hns := hN.1.1
  have hns' : cond (setOK ns (xs (i + 1)) (xs (i + 2))) (ns + 1) ns ≤ 6 := (N_set (x := (xs (i + 1))) (y := (xs (i + 2))) hN).1.1
  have hge : ns ≤ cond (setOK ns (xs (i + 1)) (xs (i + 2))) (ns + 1) ns := cond_ge _ _
  refine lv_aload_n hx hb (pc := 152) dL_law_152 rfl (lv_at hl 2 rfl) ?_
  refine lv_aload_n hx hb (pc := 153) dL_law_153 rfl (lv_at hl 3 rfl) ?_
  refine lv_iload_n hx hb (pc := 154) dL_law_154 rfl (lv_at hl 0 rfl) ?_
  refine lv_iconst (v := nI 1) hx hb (pc := 155) dL_law_155 (by decide) ?_
  refine nv_iadd (a := i) (b := 1) hx hb (pc := 156) dL_law_156 ?_
  refine sc_ld hx hb hX hbl hbA hS hL (i := i + 1) (by omega) (pc := 157) dL_law_157 ?_
  refine lv_aload_n hx hb (pc := 158) dL_law_158 rfl (lv_at hl 3 rfl) ?_
  refine lv_iload_n hx hb (pc := 159) dL_law_159 rfl (lv_at hl 0 rfl) ?_
  refine lv_iconst (v := nI 2) hx hb (pc := 160) dL_law_160 (by decide) ?_
  refine nv_iadd (a := i) (b := 2) hx hb (pc := 161) dL_law_161 ?_
  refine sc_ld hx hb hX hbl hbA hS hL (i := i + 2) (by omega) (pc := 162) dL_law_162 ?_
  obtain ⟨cap', room', hc1, hr1, hc2, hr2, hMet⟩ := u0_X9_set l K (CA s.heap.size M) (xs (i + 1)) (xs (i + 2)) hN (fun q hq => ⟨Nat.le_trans hS.1 hq, fun h => absurd (h1 q h).2 (by omega)⟩) hC
  have hk1 : nc + (3 * ((cond (setOK ns (xs (i + 1)) (xs (i + 2))) (ns + 1) ns) - ns) + (cap' - cap) + (room' - room)) ≤ 600000 := by omega
  have hk2 : nsl + (327 * ((cond (setOK ns (xs (i + 1)) (xs (i + 2))) (ns + 1) ns) - ns) + 8 * (cap' - cap) + 12 * (room' - room)) ≤ 7302250 := by omega
  refine rr_callR (pc := 163) (va_runV (As := [.int (xs (i + 1)), .int (xs (i + 2))]) (rest := []) ⟨hx, hb, hml, hown, hts⟩ hMet (cwV 2 hts gL_law_X9_set rfl rfl rfl (by decide +kernel) ⟨Nat.le_of_ble_eq_true rfl, Nat.le_of_ble_eq_true rfl⟩) (rr_preV hKK rfl (CI_recv hKK hC)) rfl rfl hl.1 rfl (lv_room (Nat.le_of_ble_eq_true rfl)) dL_law_163 ⟨hk1, hk2⟩) hS (fun q h => h.1) (fun v H1 locs1 hY hsz hfr hS => ?_)
  obtain ⟨rfl, hC⟩ := hY
  have hM := MI_keep hM hfr MA_CA
  refine lv_aload_n hx hb (pc := 166) dL_law_166 rfl (lv_at hl 1 rfl) ?_
  refine lv_aload_n hx hb (pc := 167) dL_law_167 rfl (lv_at hl 3 rfl) ?_
  refine lv_iload_n hx hb (pc := 168) dL_law_168 rfl (lv_at hl 0 rfl) ?_
  refine lv_iconst (v := nI 1) hx hb (pc := 169) dL_law_169 (by decide) ?_
  refine nv_iadd (a := i) (b := 1) hx hb (pc := 170) dL_law_170 ?_
  refine sc_ld hx hb hX hbl hbA hS hL (i := i + 1) (by omega) (pc := 171) dL_law_171 ?_
  refine lv_aload_n hx hb (pc := 172) dL_law_172 rfl (lv_at hl 3 rfl) ?_
  refine lv_iload_n hx hb (pc := 173) dL_law_173 rfl (lv_at hl 0 rfl) ?_
  refine lv_iconst (v := nI 2) hx hb (pc := 174) dL_law_174 (by decide) ?_
  refine nv_iadd (a := i) (b := 2) hx hb (pc := 175) dL_law_175 ?_
  refine sc_ld hx hb hX hbl hbA hS hL (i := i + 2) (by omega) (pc := 176) dL_law_176 ?_
  refine rr_callR (pc := 177) (va_runV (As := [.int (xs (i + 1)), .int (xs (i + 2))]) (rest := [.int (setA ns (xs (i + 1)) (xs (i + 2)))]) ⟨hx, hb, hml, hown, hts⟩ (u_X10_set l K M (xs (i + 1)) (xs (i + 2)) hN hM) (cwV 2 hts gL_law_X10_set rfl rfl rfl (by decide +kernel) ⟨Nat.le_of_ble_eq_true rfl, Nat.le_of_ble_eq_true rfl⟩) (rr_preV hKK rfl (MI_recv hKK hM)) rfl rfl hl.1 rfl (lv_room (Nat.le_of_ble_eq_true rfl)) dL_law_177 ⟨hk1, hk2⟩) hS (fun q h => (h1 q h).1) (fun v H2 locs2 hY hsz2 hfr2 hS => ?_)
  obtain ⟨rfl, hM⟩ := hY
  refine lv_icmp_eq (tgt := 974) hx hb (pc := 180) dL_law_180 (by decide) (fun _ => ?_) (fun h => absurd rfl h)
  exact kk H2 locs2 _ _ hS ⟨cap', room', cond (setOK ns (xs (i + 1)) (xs (i + 2))) (ns + 1) ns, wl, nf, wd, cond (setOK ns (xs (i + 1)) (xs (i + 2))) (va_up kF ns (cN (xs (i + 1)))) kF, cond (setOK ns (xs (i + 1)) (xs (i + 2))) (va_up nF ns (cN (xs (i + 2)))) nF, cond (setOK ns (xs (i + 1)) (xs (i + 2))) (zrF yF (64 * ns) 64) yF, WD, FL, FW, TD, N_set (x := (xs (i + 1))) (y := (xs (i + 2))) hN, CI_keep hC hfr2 CA_MA, hM, hc2, hr2, by omega, by omega⟩ (by omega)
theorem lc_way {p : Program} {l : Launch} {e : Env} {s : State} {m : MethodId} {args : Array Value} {below : List Frame} {meth : Method} {c : Code} {Q : State → Prop} {K : rr_K} {b L : Nat} {xs : Nat → Int32} {M : Nat → Prop} {up co om i : Nat} {H : Heap} {locs : List Loc} {nc nsl : Nat} {ls : Array Slot} (hx : p.tables.exec = Jvm.exec) (hb : c.code = cL_law) (hml : c.maxLocals = 4) (hown : s.vm.findClass RL = some m.cls) (hts : ∀ w ∈ wsL_law, w.before args s = true) (hKK : KK K s) (hX : va_X b L xs s s.heap) (hbl : b < s.heap.size) (hL : L ≤ 3072) (h6 : i + 6 ≤ L) (h1 : ∀ q, M q → s.heap.size ≤ q ∧ q < up) (h3 : up ≤ H.size) (hS : va_S (fun q : Nat => s.heap.size ≤ q) s.heap H locs) (hI : LI K s.heap.size M co om H nc nsl) (hl : lv_has ls 4 [(3, .int (nI i)), (2, .ref om), (1, .ref co), (0, .ref b)]) (kk : ∀ (H1 : Heap) (locs1 : List Loc) (nc1 nsl1 : Nat), va_S (fun q : Nat => s.heap.size ≤ q) s.heap H1 locs1 → LI K s.heap.size M co om H1 nc1 nsl1 → up ≤ H1.size → W p l e room_1 s m args below meth c H1 locs1 nc1 nsl1 Q (F0 m 974 ls [])) : W p l e room_1 s m args below meth c H locs nc nsl Q (F0 m 185 ls []) := by
  obtain ⟨cap, room, ns, wl, nf, wd, kF, nF, yF, WD, FL, FW, TD, hN, hC, hM, hcap, hroom, hnc, hnsl⟩ := hI
  have hbA : ¬ (fun q : Nat => s.heap.size ≤ q) b := Nat.not_le.mpr hbl
  have hns := hN.1.1
  have hns' : ns ≤ 6 := (N_way (x := (xs (i + 1))) (f := (xs (i + 2))) (y := (xs (i + 3))) (t := (xs (i + 4))) hN).1.1
  have hge : ns ≤ ns := Nat.le_refl _
  refine lv_aload_n hx hb (pc := 185) dL_law_185 rfl (lv_at hl 2 rfl) ?_
  refine lv_aload_n hx hb (pc := 186) dL_law_186 rfl (lv_at hl 3 rfl) ?_
  refine lv_iload_n hx hb (pc := 187) dL_law_187 rfl (lv_at hl 0 rfl) ?_
  refine lv_iconst (v := nI 1) hx hb (pc := 188) dL_law_188 (by decide) ?_
  refine nv_iadd (a := i) (b := 1) hx hb (pc := 189) dL_law_189 ?_
  refine sc_ld hx hb hX hbl hbA hS hL (i := i + 1) (by omega) (pc := 190) dL_law_190 ?_
  refine lv_aload_n hx hb (pc := 191) dL_law_191 rfl (lv_at hl 3 rfl) ?_
  refine lv_iload_n hx hb (pc := 192) dL_law_192 rfl (lv_at hl 0 rfl) ?_
  refine lv_iconst (v := nI 2) hx hb (pc := 193) dL_law_193 (by decide) ?_
  refine nv_iadd (a := i) (b := 2) hx hb (pc := 194) dL_law_194 ?_
  refine sc_ld hx hb hX hbl hbA hS hL (i := i + 2) (by omega) (pc := 195) dL_law_195 ?_
  refine lv_aload_n hx hb (pc := 196) dL_law_196 rfl (lv_at hl 3 rfl) ?_
  refine lv_iload_n hx hb (pc := 197) dL_law_197 rfl (lv_at hl 0 rfl) ?_
  refine lv_iconst (v := nI 3) hx hb (pc := 198) dL_law_198 (by decide) ?_
  refine nv_iadd (a := i) (b := 3) hx hb (pc := 199) dL_law_199 ?_
  refine sc_ld hx hb hX hbl hbA hS hL (i := i + 3) (by omega) (pc := 200) dL_law_200 ?_
  refine lv_aload_n hx hb (pc := 201) dL_law_201 rfl (lv_at hl 3 rfl) ?_
  refine lv_iload_n hx hb (pc := 202) dL_law_202 rfl (lv_at hl 0 rfl) ?_
  refine lv_iconst (v := nI 4) hx hb (pc := 203) dL_law_203 (by decide) ?_
  refine nv_iadd (a := i) (b := 4) hx hb (pc := 204) dL_law_204 ?_
  refine sc_ld hx hb hX hbl hbA hS hL (i := i + 4) (by omega) (pc := 205) dL_law_205 ?_
  obtain ⟨cap', room', hc1, hr1, hc2, hr2, hMet⟩ := u_X9_way l K (CA s.heap.size M) (xs (i + 1)) (xs (i + 2)) (xs (i + 3)) (xs (i + 4)) hN (fun q hq => ⟨Nat.le_trans hS.1 hq, fun h => absurd (h1 q h).2 (by omega)⟩) hC
  have hMet := Met_room (rm' := { frames := rmX9_way.frames, cells := 3 * (ns - ns) + (cap' - cap) + (room' - room), slots := 327 * (ns - ns) + 8 * (cap' - cap) + 12 * (room' - room), locals := rmX9_way.locals }) hMet (Nat.le_refl _) (Nat.zero_le _) (Nat.zero_le _) (Nat.le_refl _)
  have hk1 : nc + (3 * (ns - ns) + (cap' - cap) + (room' - room)) ≤ 600000 := by omega
  have hk2 : nsl + (327 * (ns - ns) + 8 * (cap' - cap) + 12 * (room' - room)) ≤ 7302250 := by omega
  refine rr_callR (pc := 206) (va_runV (As := [.int (xs (i + 1)), .int (xs (i + 2)), .int (xs (i + 3)), .int (xs (i + 4))]) (rest := []) ⟨hx, hb, hml, hown, hts⟩ hMet (cwV 4 hts gL_law_X9_way rfl rfl rfl (by decide +kernel) ⟨Nat.le_of_ble_eq_true rfl, Nat.le_of_ble_eq_true rfl⟩) (rr_preV hKK rfl (CI_recv hKK hC)) rfl rfl hl.1 rfl (lv_room (Nat.le_of_ble_eq_true rfl)) dL_law_206 ⟨hk1, hk2⟩) hS (fun q h => h.1) (fun v H1 locs1 hY hsz hfr hS => ?_)
  obtain ⟨rfl, hC⟩ := hY
  have hM := MI_keep hM hfr MA_CA
  refine lv_aload_n hx hb (pc := 209) dL_law_209 rfl (lv_at hl 1 rfl) ?_
  refine lv_aload_n hx hb (pc := 210) dL_law_210 rfl (lv_at hl 3 rfl) ?_
  refine lv_iload_n hx hb (pc := 211) dL_law_211 rfl (lv_at hl 0 rfl) ?_
  refine lv_iconst (v := nI 1) hx hb (pc := 212) dL_law_212 (by decide) ?_
  refine nv_iadd (a := i) (b := 1) hx hb (pc := 213) dL_law_213 ?_
  refine sc_ld hx hb hX hbl hbA hS hL (i := i + 1) (by omega) (pc := 214) dL_law_214 ?_
  refine lv_aload_n hx hb (pc := 215) dL_law_215 rfl (lv_at hl 3 rfl) ?_
  refine lv_iload_n hx hb (pc := 216) dL_law_216 rfl (lv_at hl 0 rfl) ?_
  refine lv_iconst (v := nI 2) hx hb (pc := 217) dL_law_217 (by decide) ?_
  refine nv_iadd (a := i) (b := 2) hx hb (pc := 218) dL_law_218 ?_
  refine sc_ld hx hb hX hbl hbA hS hL (i := i + 2) (by omega) (pc := 219) dL_law_219 ?_
  refine lv_aload_n hx hb (pc := 220) dL_law_220 rfl (lv_at hl 3 rfl) ?_
  refine lv_iload_n hx hb (pc := 221) dL_law_221 rfl (lv_at hl 0 rfl) ?_
  refine lv_iconst (v := nI 3) hx hb (pc := 222) dL_law_222 (by decide) ?_
  refine nv_iadd (a := i) (b := 3) hx hb (pc := 223) dL_law_223 ?_
  refine sc_ld hx hb hX hbl hbA hS hL (i := i + 3) (by omega) (pc := 224) dL_law_224 ?_
  refine lv_aload_n hx hb (pc := 225) dL_law_225 rfl (lv_at hl 3 rfl) ?_
  refine lv_iload_n hx hb (pc := 226) dL_law_226 rfl (lv_at hl 0 rfl) ?_
  refine lv_iconst (v := nI 4) hx hb (pc := 227) dL_law_227 (by decide) ?_
  refine nv_iadd (a := i) (b := 4) hx hb (pc := 228) dL_law_228 ?_
  refine sc_ld hx hb hX hbl hbA hS hL (i := i + 4) (by omega) (pc := 229) dL_law_229 ?_
  refine rr_callR (pc := 230) (va_runV (As := [.int (xs (i + 1)), .int (xs (i + 2)), .int (xs (i + 3)), .int (xs (i + 4))]) (rest := [.int (wayA ns kF nF yF (xs (i + 1)) (xs (i + 2)) (xs (i + 3)) (xs (i + 4)))]) ⟨hx, hb, hml, hown, hts⟩ (u_X10_way l K M (xs (i + 1)) (xs (i + 2)) (xs (i + 3)) (xs (i + 4)) hN hM) (cwV 4 hts gL_law_X10_way rfl rfl rfl (by decide +kernel) ⟨Nat.le_of_ble_eq_true rfl, Nat.le_of_ble_eq_true rfl⟩) (rr_preV hKK rfl (MI_recv hKK hM)) rfl rfl hl.1 rfl (lv_room (Nat.le_of_ble_eq_true rfl)) dL_law_230 ⟨hk1, hk2⟩) hS (fun q h => (h1 q h).1) (fun v H2 locs2 hY hsz2 hfr2 hS => ?_)
  obtain ⟨rfl, hM⟩ := hY
  refine lv_icmp_eq (tgt := 974) hx hb (pc := 233) dL_law_233 (by decide) (fun _ => ?_) (fun h => absurd rfl h)
  exact kk H2 locs2 _ _ hS ⟨cap', room', ns, wl, nf, wd, kF, nF, cond (wayOK ns kF nF yF (xs (i + 1)) (xs (i + 2)) (xs (i + 3)) (xs (i + 4))) (tglW yF (xs (i + 1)) (xs (i + 2)) (xs (i + 3)) (xs (i + 4))) yF, WD, FL, FW, TD, N_way (x := (xs (i + 1))) (f := (xs (i + 2))) (y := (xs (i + 3))) (t := (xs (i + 4))) hN, CI_keep hC hfr2 CA_MA, hM, hc2, hr2, by omega, by omega⟩ (by omega)
theorem lc_unway {p : Program} {l : Launch} {e : Env} {s : State} {m : MethodId} {args : Array Value} {below : List Frame} {meth : Method} {c : Code} {Q : State → Prop} {K : rr_K} {b L : Nat} {xs : Nat → Int32} {M : Nat → Prop} {up co om i : Nat} {H : Heap} {locs : List Loc} {nc nsl : Nat} {ls : Array Slot} (hx : p.tables.exec = Jvm.exec) (hb : c.code = cL_law) (hml : c.maxLocals = 4) (hown : s.vm.findClass RL = some m.cls) (hts : ∀ w ∈ wsL_law, w.before args s = true) (hKK : KK K s) (hX : va_X b L xs s s.heap) (hbl : b < s.heap.size) (hL : L ≤ 3072) (h6 : i + 6 ≤ L) (h1 : ∀ q, M q → s.heap.size ≤ q ∧ q < up) (h3 : up ≤ H.size) (hS : va_S (fun q : Nat => s.heap.size ≤ q) s.heap H locs) (hI : LI K s.heap.size M co om H nc nsl) (hl : lv_has ls 4 [(3, .int (nI i)), (2, .ref om), (1, .ref co), (0, .ref b)]) (kk : ∀ (H1 : Heap) (locs1 : List Loc) (nc1 nsl1 : Nat), va_S (fun q : Nat => s.heap.size ≤ q) s.heap H1 locs1 → LI K s.heap.size M co om H1 nc1 nsl1 → up ≤ H1.size → W p l e room_1 s m args below meth c H1 locs1 nc1 nsl1 Q (F0 m 974 ls [])) : W p l e room_1 s m args below meth c H locs nc nsl Q (F0 m 238 ls []) := by
  obtain ⟨cap, room, ns, wl, nf, wd, kF, nF, yF, WD, FL, FW, TD, hN, hC, hM, hcap, hroom, hnc, hnsl⟩ := hI
  have hbA : ¬ (fun q : Nat => s.heap.size ≤ q) b := Nat.not_le.mpr hbl
  have hns := hN.1.1
  have hns' : ns ≤ 6 := (N_unway (x := (xs (i + 1))) (f := (xs (i + 2))) (y := (xs (i + 3))) (t := (xs (i + 4))) hN).1.1
  have hge : ns ≤ ns := Nat.le_refl _
  refine lv_aload_n hx hb (pc := 238) dL_law_238 rfl (lv_at hl 2 rfl) ?_
  refine lv_aload_n hx hb (pc := 239) dL_law_239 rfl (lv_at hl 3 rfl) ?_
  refine lv_iload_n hx hb (pc := 240) dL_law_240 rfl (lv_at hl 0 rfl) ?_
  refine lv_iconst (v := nI 1) hx hb (pc := 241) dL_law_241 (by decide) ?_
  refine nv_iadd (a := i) (b := 1) hx hb (pc := 242) dL_law_242 ?_
  refine sc_ld hx hb hX hbl hbA hS hL (i := i + 1) (by omega) (pc := 243) dL_law_243 ?_
  refine lv_aload_n hx hb (pc := 244) dL_law_244 rfl (lv_at hl 3 rfl) ?_
  refine lv_iload_n hx hb (pc := 245) dL_law_245 rfl (lv_at hl 0 rfl) ?_
  refine lv_iconst (v := nI 2) hx hb (pc := 246) dL_law_246 (by decide) ?_
  refine nv_iadd (a := i) (b := 2) hx hb (pc := 247) dL_law_247 ?_
  refine sc_ld hx hb hX hbl hbA hS hL (i := i + 2) (by omega) (pc := 248) dL_law_248 ?_
  refine lv_aload_n hx hb (pc := 249) dL_law_249 rfl (lv_at hl 3 rfl) ?_
  refine lv_iload_n hx hb (pc := 250) dL_law_250 rfl (lv_at hl 0 rfl) ?_
  refine lv_iconst (v := nI 3) hx hb (pc := 251) dL_law_251 (by decide) ?_
  refine nv_iadd (a := i) (b := 3) hx hb (pc := 252) dL_law_252 ?_
  refine sc_ld hx hb hX hbl hbA hS hL (i := i + 3) (by omega) (pc := 253) dL_law_253 ?_
  refine lv_aload_n hx hb (pc := 254) dL_law_254 rfl (lv_at hl 3 rfl) ?_
  refine lv_iload_n hx hb (pc := 255) dL_law_255 rfl (lv_at hl 0 rfl) ?_
  refine lv_iconst (v := nI 4) hx hb (pc := 256) dL_law_256 (by decide) ?_
  refine nv_iadd (a := i) (b := 4) hx hb (pc := 257) dL_law_257 ?_
  refine sc_ld hx hb hX hbl hbA hS hL (i := i + 4) (by omega) (pc := 258) dL_law_258 ?_
  obtain ⟨cap', room', hc1, hr1, hc2, hr2, hMet⟩ := u_X9_unway l K (CA s.heap.size M) (xs (i + 1)) (xs (i + 2)) (xs (i + 3)) (xs (i + 4)) hN (fun q hq => ⟨Nat.le_trans hS.1 hq, fun h => absurd (h1 q h).2 (by omega)⟩) hC
  have hMet := Met_room (rm' := { frames := rmX9_unway.frames, cells := 3 * (ns - ns) + (cap' - cap) + (room' - room), slots := 327 * (ns - ns) + 8 * (cap' - cap) + 12 * (room' - room), locals := rmX9_unway.locals }) hMet (Nat.le_refl _) (Nat.zero_le _) (Nat.zero_le _) (Nat.le_refl _)
  have hk1 : nc + (3 * (ns - ns) + (cap' - cap) + (room' - room)) ≤ 600000 := by omega
  have hk2 : nsl + (327 * (ns - ns) + 8 * (cap' - cap) + 12 * (room' - room)) ≤ 7302250 := by omega
  refine rr_callR (pc := 259) (va_runV (As := [.int (xs (i + 1)), .int (xs (i + 2)), .int (xs (i + 3)), .int (xs (i + 4))]) (rest := []) ⟨hx, hb, hml, hown, hts⟩ hMet (cwV 4 hts gL_law_X9_unway rfl rfl rfl (by decide +kernel) ⟨Nat.le_of_ble_eq_true rfl, Nat.le_of_ble_eq_true rfl⟩) (rr_preV hKK rfl (CI_recv hKK hC)) rfl rfl hl.1 rfl (lv_room (Nat.le_of_ble_eq_true rfl)) dL_law_259 ⟨hk1, hk2⟩) hS (fun q h => h.1) (fun v H1 locs1 hY hsz hfr hS => ?_)
  obtain ⟨rfl, hC⟩ := hY
  have hM := MI_keep hM hfr MA_CA
  refine lv_aload_n hx hb (pc := 262) dL_law_262 rfl (lv_at hl 1 rfl) ?_
  refine lv_aload_n hx hb (pc := 263) dL_law_263 rfl (lv_at hl 3 rfl) ?_
  refine lv_iload_n hx hb (pc := 264) dL_law_264 rfl (lv_at hl 0 rfl) ?_
  refine lv_iconst (v := nI 1) hx hb (pc := 265) dL_law_265 (by decide) ?_
  refine nv_iadd (a := i) (b := 1) hx hb (pc := 266) dL_law_266 ?_
  refine sc_ld hx hb hX hbl hbA hS hL (i := i + 1) (by omega) (pc := 267) dL_law_267 ?_
  refine lv_aload_n hx hb (pc := 268) dL_law_268 rfl (lv_at hl 3 rfl) ?_
  refine lv_iload_n hx hb (pc := 269) dL_law_269 rfl (lv_at hl 0 rfl) ?_
  refine lv_iconst (v := nI 2) hx hb (pc := 270) dL_law_270 (by decide) ?_
  refine nv_iadd (a := i) (b := 2) hx hb (pc := 271) dL_law_271 ?_
  refine sc_ld hx hb hX hbl hbA hS hL (i := i + 2) (by omega) (pc := 272) dL_law_272 ?_
  refine lv_aload_n hx hb (pc := 273) dL_law_273 rfl (lv_at hl 3 rfl) ?_
  refine lv_iload_n hx hb (pc := 274) dL_law_274 rfl (lv_at hl 0 rfl) ?_
  refine lv_iconst (v := nI 3) hx hb (pc := 275) dL_law_275 (by decide) ?_
  refine nv_iadd (a := i) (b := 3) hx hb (pc := 276) dL_law_276 ?_
  refine sc_ld hx hb hX hbl hbA hS hL (i := i + 3) (by omega) (pc := 277) dL_law_277 ?_
  refine lv_aload_n hx hb (pc := 278) dL_law_278 rfl (lv_at hl 3 rfl) ?_
  refine lv_iload_n hx hb (pc := 279) dL_law_279 rfl (lv_at hl 0 rfl) ?_
  refine lv_iconst (v := nI 4) hx hb (pc := 280) dL_law_280 (by decide) ?_
  refine nv_iadd (a := i) (b := 4) hx hb (pc := 281) dL_law_281 ?_
  refine sc_ld hx hb hX hbl hbA hS hL (i := i + 4) (by omega) (pc := 282) dL_law_282 ?_
  refine rr_callR (pc := 283) (va_runV (As := [.int (xs (i + 1)), .int (xs (i + 2)), .int (xs (i + 3)), .int (xs (i + 4))]) (rest := [.int (unwA ns kF nF yF (xs (i + 1)) (xs (i + 2)) (xs (i + 3)) (xs (i + 4)))]) ⟨hx, hb, hml, hown, hts⟩ (u_X10_unway l K M (xs (i + 1)) (xs (i + 2)) (xs (i + 3)) (xs (i + 4)) hN hM) (cwV 4 hts gL_law_X10_unway rfl rfl rfl (by decide +kernel) ⟨Nat.le_of_ble_eq_true rfl, Nat.le_of_ble_eq_true rfl⟩) (rr_preV hKK rfl (MI_recv hKK hM)) rfl rfl hl.1 rfl (lv_room (Nat.le_of_ble_eq_true rfl)) dL_law_283 ⟨hk1, hk2⟩) hS (fun q h => (h1 q h).1) (fun v H2 locs2 hY hsz2 hfr2 hS => ?_)
  obtain ⟨rfl, hM⟩ := hY
  refine lv_icmp_eq (tgt := 974) hx hb (pc := 286) dL_law_286 (by decide) (fun _ => ?_) (fun h => absurd rfl h)
  exact kk H2 locs2 _ _ hS ⟨cap', room', ns, wl, nf, wd, kF, nF, cond (unwOK ns kF nF yF (xs (i + 1)) (xs (i + 2)) (xs (i + 3)) (xs (i + 4))) (tglW yF (xs (i + 1)) (xs (i + 2)) (xs (i + 3)) (xs (i + 4))) yF, WD, FL, FW, TD, N_unway (x := (xs (i + 1))) (f := (xs (i + 2))) (y := (xs (i + 3))) (t := (xs (i + 4))) hN, CI_keep hC hfr2 CA_MA, hM, hc2, hr2, by omega, by omega⟩ (by omega)
theorem lc_empty {p : Program} {l : Launch} {e : Env} {s : State} {m : MethodId} {args : Array Value} {below : List Frame} {meth : Method} {c : Code} {Q : State → Prop} {K : rr_K} {b L : Nat} {xs : Nat → Int32} {M : Nat → Prop} {up co om i : Nat} {H : Heap} {locs : List Loc} {nc nsl : Nat} {ls : Array Slot} (hx : p.tables.exec = Jvm.exec) (hb : c.code = cL_law) (hml : c.maxLocals = 4) (hown : s.vm.findClass RL = some m.cls) (hts : ∀ w ∈ wsL_law, w.before args s = true) (hKK : KK K s) (hX : va_X b L xs s s.heap) (hbl : b < s.heap.size) (hL : L ≤ 3072) (h6 : i + 6 ≤ L) (h1 : ∀ q, M q → s.heap.size ≤ q ∧ q < up) (h3 : up ≤ H.size) (hS : va_S (fun q : Nat => s.heap.size ≤ q) s.heap H locs) (hI : LI K s.heap.size M co om H nc nsl) (hl : lv_has ls 4 [(3, .int (nI i)), (2, .ref om), (1, .ref co), (0, .ref b)]) (kk : ∀ (H1 : Heap) (locs1 : List Loc) (nc1 nsl1 : Nat), va_S (fun q : Nat => s.heap.size ≤ q) s.heap H1 locs1 → LI K s.heap.size M co om H1 nc1 nsl1 → up ≤ H1.size → W p l e room_1 s m args below meth c H1 locs1 nc1 nsl1 Q (F0 m 974 ls [])) : W p l e room_1 s m args below meth c H locs nc nsl Q (F0 m 291 ls []) := by
  obtain ⟨cap, room, ns, wl, nf, wd, kF, nF, yF, WD, FL, FW, TD, hN, hC, hM, hcap, hroom, hnc, hnsl⟩ := hI
  have hbA : ¬ (fun q : Nat => s.heap.size ≤ q) b := Nat.not_le.mpr hbl
  have hns := hN.1.1
  have hns' : ns ≤ 6 := (N_empty hN).1.1
  have hge : ns ≤ ns := Nat.le_refl _
  refine lv_aload_n hx hb (pc := 291) dL_law_291 rfl (lv_at hl 2 rfl) ?_
  obtain ⟨cap', room', hc1, hr1, hc2, hr2, hMet⟩ := u_X9_empty l K (CA s.heap.size M)  hN (fun q hq => ⟨Nat.le_trans hS.1 hq, fun h => absurd (h1 q h).2 (by omega)⟩) hC
  have hMet := Met_room (rm' := { frames := rmX9_empty.frames, cells := 3 * (ns - ns) + (cap' - cap) + (room' - room), slots := 327 * (ns - ns) + 8 * (cap' - cap) + 12 * (room' - room), locals := rmX9_empty.locals }) hMet (Nat.le_refl _) (Nat.zero_le _) (Nat.zero_le _) (Nat.le_refl _)
  have hk1 : nc + (3 * (ns - ns) + (cap' - cap) + (room' - room)) ≤ 600000 := by omega
  have hk2 : nsl + (327 * (ns - ns) + 8 * (cap' - cap) + 12 * (room' - room)) ≤ 7302250 := by omega
  refine rr_callR (pc := 292) (va_runV (As := []) (rest := []) ⟨hx, hb, hml, hown, hts⟩ hMet (cwV 0 hts gL_law_X9_empty rfl rfl rfl (by decide +kernel) ⟨Nat.le_of_ble_eq_true rfl, Nat.le_of_ble_eq_true rfl⟩) (rr_preV hKK rfl (CI_recv hKK hC)) rfl rfl hl.1 rfl (lv_room (Nat.le_of_ble_eq_true rfl)) dL_law_292 ⟨hk1, hk2⟩) hS (fun q h => h.1) (fun v H1 locs1 hY hsz hfr hS => ?_)
  obtain ⟨rfl, hC⟩ := hY
  have hM := MI_keep hM hfr MA_CA
  refine lv_aload_n hx hb (pc := 295) dL_law_295 rfl (lv_at hl 1 rfl) ?_
  refine rr_callR (pc := 296) (va_runV (As := []) (rest := [.int (nI wl)]) ⟨hx, hb, hml, hown, hts⟩ (u_X10_empty l K M  hN hM) (cwV 0 hts gL_law_X10_empty rfl rfl rfl (by decide +kernel) ⟨Nat.le_of_ble_eq_true rfl, Nat.le_of_ble_eq_true rfl⟩) (rr_preV hKK rfl (MI_recv hKK hM)) rfl rfl hl.1 rfl (lv_room (Nat.le_of_ble_eq_true rfl)) dL_law_296 ⟨hk1, hk2⟩) hS (fun q h => (h1 q h).1) (fun v H2 locs2 hY hsz2 hfr2 hS => ?_)
  obtain ⟨rfl, hM⟩ := hY
  refine lv_icmp_eq (tgt := 974) hx hb (pc := 299) dL_law_299 (by decide) (fun _ => ?_) (fun h => absurd rfl h)
  exact kk H2 locs2 _ _ hS ⟨cap', room', ns, 0, nf, wd, kF, nF, yF, WD, FL, FW, TD, N_empty hN, CI_keep hC hfr2 CA_MA, hM, hc2, hr2, by omega, by omega⟩ (by omega)
theorem lc_letter {p : Program} {l : Launch} {e : Env} {s : State} {m : MethodId} {args : Array Value} {below : List Frame} {meth : Method} {c : Code} {Q : State → Prop} {K : rr_K} {b L : Nat} {xs : Nat → Int32} {M : Nat → Prop} {up co om i : Nat} {H : Heap} {locs : List Loc} {nc nsl : Nat} {ls : Array Slot} (hx : p.tables.exec = Jvm.exec) (hb : c.code = cL_law) (hml : c.maxLocals = 4) (hown : s.vm.findClass RL = some m.cls) (hts : ∀ w ∈ wsL_law, w.before args s = true) (hKK : KK K s) (hX : va_X b L xs s s.heap) (hbl : b < s.heap.size) (hL : L ≤ 3072) (h6 : i + 6 ≤ L) (h1 : ∀ q, M q → s.heap.size ≤ q ∧ q < up) (h3 : up ≤ H.size) (hS : va_S (fun q : Nat => s.heap.size ≤ q) s.heap H locs) (hI : LI K s.heap.size M co om H nc nsl) (hl : lv_has ls 4 [(3, .int (nI i)), (2, .ref om), (1, .ref co), (0, .ref b)]) (kk : ∀ (H1 : Heap) (locs1 : List Loc) (nc1 nsl1 : Nat), va_S (fun q : Nat => s.heap.size ≤ q) s.heap H1 locs1 → LI K s.heap.size M co om H1 nc1 nsl1 → up ≤ H1.size → W p l e room_1 s m args below meth c H1 locs1 nc1 nsl1 Q (F0 m 974 ls [])) : W p l e room_1 s m args below meth c H locs nc nsl Q (F0 m 304 ls []) := by
  obtain ⟨cap, room, ns, wl, nf, wd, kF, nF, yF, WD, FL, FW, TD, hN, hC, hM, hcap, hroom, hnc, hnsl⟩ := hI
  have hbA : ¬ (fun q : Nat => s.heap.size ≤ q) b := Nat.not_le.mpr hbl
  have hns := hN.1.1
  have hns' : ns ≤ 6 := (N_letter (x := (xs (i + 1))) hN).1.1
  have hge : ns ≤ ns := Nat.le_refl _
  refine lv_aload_n hx hb (pc := 304) dL_law_304 rfl (lv_at hl 2 rfl) ?_
  refine lv_aload_n hx hb (pc := 305) dL_law_305 rfl (lv_at hl 3 rfl) ?_
  refine lv_iload_n hx hb (pc := 306) dL_law_306 rfl (lv_at hl 0 rfl) ?_
  refine lv_iconst (v := nI 1) hx hb (pc := 307) dL_law_307 (by decide) ?_
  refine nv_iadd (a := i) (b := 1) hx hb (pc := 308) dL_law_308 ?_
  refine sc_ld hx hb hX hbl hbA hS hL (i := i + 1) (by omega) (pc := 309) dL_law_309 ?_
  obtain ⟨cap', room', hc1, hr1, hc2, hr2, hMet⟩ := u_X9_letter l K (CA s.heap.size M) (xs (i + 1)) hN (fun q hq => ⟨Nat.le_trans hS.1 hq, fun h => absurd (h1 q h).2 (by omega)⟩) hC
  have hMet := Met_room (rm' := { frames := rmX9_letter.frames, cells := 3 * (ns - ns) + (cap' - cap) + (room' - room), slots := 327 * (ns - ns) + 8 * (cap' - cap) + 12 * (room' - room), locals := rmX9_letter.locals }) hMet (Nat.le_refl _) (Nat.zero_le _) (Nat.zero_le _) (Nat.le_refl _)
  have hk1 : nc + (3 * (ns - ns) + (cap' - cap) + (room' - room)) ≤ 600000 := by omega
  have hk2 : nsl + (327 * (ns - ns) + 8 * (cap' - cap) + 12 * (room' - room)) ≤ 7302250 := by omega
  refine rr_callR (pc := 310) (va_runV (As := [.int (xs (i + 1))]) (rest := []) ⟨hx, hb, hml, hown, hts⟩ hMet (cwV 1 hts gL_law_X9_letter rfl rfl rfl (by decide +kernel) ⟨Nat.le_of_ble_eq_true rfl, Nat.le_of_ble_eq_true rfl⟩) (rr_preV hKK rfl (CI_recv hKK hC)) rfl rfl hl.1 rfl (lv_room (Nat.le_of_ble_eq_true rfl)) dL_law_310 ⟨hk1, hk2⟩) hS (fun q h => h.1) (fun v H1 locs1 hY hsz hfr hS => ?_)
  obtain ⟨rfl, hC⟩ := hY
  have hM := MI_keep hM hfr MA_CA
  refine lv_aload_n hx hb (pc := 313) dL_law_313 rfl (lv_at hl 1 rfl) ?_
  refine lv_aload_n hx hb (pc := 314) dL_law_314 rfl (lv_at hl 3 rfl) ?_
  refine lv_iload_n hx hb (pc := 315) dL_law_315 rfl (lv_at hl 0 rfl) ?_
  refine lv_iconst (v := nI 1) hx hb (pc := 316) dL_law_316 (by decide) ?_
  refine nv_iadd (a := i) (b := 1) hx hb (pc := 317) dL_law_317 ?_
  refine sc_ld hx hb hX hbl hbA hS hL (i := i + 1) (by omega) (pc := 318) dL_law_318 ?_
  refine rr_callR (pc := 319) (va_runV (As := [.int (xs (i + 1))]) (rest := [.int (letA wl (xs (i + 1)))]) ⟨hx, hb, hml, hown, hts⟩ (u_X10_letter l K M (xs (i + 1)) hN hM) (cwV 1 hts gL_law_X10_letter rfl rfl rfl (by decide +kernel) ⟨Nat.le_of_ble_eq_true rfl, Nat.le_of_ble_eq_true rfl⟩) (rr_preV hKK rfl (MI_recv hKK hM)) rfl rfl hl.1 rfl (lv_room (Nat.le_of_ble_eq_true rfl)) dL_law_319 ⟨hk1, hk2⟩) hS (fun q h => (h1 q h).1) (fun v H2 locs2 hY hsz2 hfr2 hS => ?_)
  obtain ⟨rfl, hM⟩ := hY
  refine lv_icmp_eq (tgt := 974) hx hb (pc := 322) dL_law_322 (by decide) (fun _ => ?_) (fun h => absurd rfl h)
  exact kk H2 locs2 _ _ hS ⟨cap', room', ns, cond (letOK wl (xs (i + 1))) (wl + 1) wl, nf, wd, kF, nF, yF, cond (letOK wl (xs (i + 1))) (va_up WD wl (cN (xs (i + 1)))) WD, FL, FW, TD, N_letter (x := (xs (i + 1))) hN, CI_keep hC hfr2 CA_MA, hM, hc2, hr2, by omega, by omega⟩ (by omega)
theorem lc_letterAt {p : Program} {l : Launch} {e : Env} {s : State} {m : MethodId} {args : Array Value} {below : List Frame} {meth : Method} {c : Code} {Q : State → Prop} {K : rr_K} {b L : Nat} {xs : Nat → Int32} {M : Nat → Prop} {up co om i : Nat} {H : Heap} {locs : List Loc} {nc nsl : Nat} {ls : Array Slot} (hx : p.tables.exec = Jvm.exec) (hb : c.code = cL_law) (hml : c.maxLocals = 4) (hown : s.vm.findClass RL = some m.cls) (hts : ∀ w ∈ wsL_law, w.before args s = true) (hKK : KK K s) (hX : va_X b L xs s s.heap) (hbl : b < s.heap.size) (hL : L ≤ 3072) (h6 : i + 6 ≤ L) (h1 : ∀ q, M q → s.heap.size ≤ q ∧ q < up) (h3 : up ≤ H.size) (hS : va_S (fun q : Nat => s.heap.size ≤ q) s.heap H locs) (hI : LI K s.heap.size M co om H nc nsl) (hl : lv_has ls 4 [(3, .int (nI i)), (2, .ref om), (1, .ref co), (0, .ref b)]) (kk : ∀ (H1 : Heap) (locs1 : List Loc) (nc1 nsl1 : Nat), va_S (fun q : Nat => s.heap.size ≤ q) s.heap H1 locs1 → LI K s.heap.size M co om H1 nc1 nsl1 → up ≤ H1.size → W p l e room_1 s m args below meth c H1 locs1 nc1 nsl1 Q (F0 m 974 ls [])) : W p l e room_1 s m args below meth c H locs nc nsl Q (F0 m 327 ls []) := by
  obtain ⟨cap, room, ns, wl, nf, wd, kF, nF, yF, WD, FL, FW, TD, hN, hC, hM, hcap, hroom, hnc, hnsl⟩ := hI
  have hbA : ¬ (fun q : Nat => s.heap.size ≤ q) b := Nat.not_le.mpr hbl
  have hns := hN.1.1
  have hns' : ns ≤ 6 := (hN).1.1
  have hge : ns ≤ ns := Nat.le_refl _
  refine lv_aload_n hx hb (pc := 327) dL_law_327 rfl (lv_at hl 2 rfl) ?_
  refine lv_aload_n hx hb (pc := 328) dL_law_328 rfl (lv_at hl 3 rfl) ?_
  refine lv_iload_n hx hb (pc := 329) dL_law_329 rfl (lv_at hl 0 rfl) ?_
  refine lv_iconst (v := nI 1) hx hb (pc := 330) dL_law_330 (by decide) ?_
  refine nv_iadd (a := i) (b := 1) hx hb (pc := 331) dL_law_331 ?_
  refine sc_ld hx hb hX hbl hbA hS hL (i := i + 1) (by omega) (pc := 332) dL_law_332 ?_
  obtain ⟨cap', room', hc1, hr1, hc2, hr2, hMet⟩ := u_X9_letterAt l K (CA s.heap.size M) (xs (i + 1)) hN (fun q hq => ⟨Nat.le_trans hS.1 hq, fun h => absurd (h1 q h).2 (by omega)⟩) hC
  have hMet := Met_room (rm' := { frames := rmX9_letterAt.frames, cells := 3 * (ns - ns) + (cap' - cap) + (room' - room), slots := 327 * (ns - ns) + 8 * (cap' - cap) + 12 * (room' - room), locals := rmX9_letterAt.locals }) hMet (Nat.le_refl _) (Nat.zero_le _) (Nat.zero_le _) (Nat.le_refl _)
  have hk1 : nc + (3 * (ns - ns) + (cap' - cap) + (room' - room)) ≤ 600000 := by omega
  have hk2 : nsl + (327 * (ns - ns) + 8 * (cap' - cap) + 12 * (room' - room)) ≤ 7302250 := by omega
  refine rr_callR (pc := 333) (va_runV (As := [.int (xs (i + 1))]) (rest := []) ⟨hx, hb, hml, hown, hts⟩ hMet (cwV 1 hts gL_law_X9_letterAt rfl rfl rfl (by decide +kernel) ⟨Nat.le_of_ble_eq_true rfl, Nat.le_of_ble_eq_true rfl⟩) (rr_preV hKK rfl (CI_recv hKK hC)) rfl rfl hl.1 rfl (lv_room (Nat.le_of_ble_eq_true rfl)) dL_law_333 ⟨hk1, hk2⟩) hS (fun q h => h.1) (fun v H1 locs1 hY hsz hfr hS => ?_)
  obtain ⟨rfl, hC⟩ := hY
  have hM := MI_keep hM hfr MA_CA
  refine lv_aload_n hx hb (pc := 336) dL_law_336 rfl (lv_at hl 1 rfl) ?_
  refine lv_aload_n hx hb (pc := 337) dL_law_337 rfl (lv_at hl 3 rfl) ?_
  refine lv_iload_n hx hb (pc := 338) dL_law_338 rfl (lv_at hl 0 rfl) ?_
  refine lv_iconst (v := nI 1) hx hb (pc := 339) dL_law_339 (by decide) ?_
  refine nv_iadd (a := i) (b := 1) hx hb (pc := 340) dL_law_340 ?_
  refine sc_ld hx hb hX hbl hbA hS hL (i := i + 1) (by omega) (pc := 341) dL_law_341 ?_
  refine rr_callR (pc := 342) (va_runV (As := [.int (xs (i + 1))]) (rest := [.int (latA wl WD (xs (i + 1)))]) ⟨hx, hb, hml, hown, hts⟩ (u_X10_letterAt l K M (xs (i + 1)) hN hM) (cwV 1 hts gL_law_X10_letterAt rfl rfl rfl (by decide +kernel) ⟨Nat.le_of_ble_eq_true rfl, Nat.le_of_ble_eq_true rfl⟩) (rr_preV hKK rfl (MI_recv hKK hM)) rfl rfl hl.1 rfl (lv_room (Nat.le_of_ble_eq_true rfl)) dL_law_342 ⟨hk1, hk2⟩) hS (fun q h => (h1 q h).1) (fun v H2 locs2 hY hsz2 hfr2 hS => ?_)
  obtain ⟨rfl, hM⟩ := hY
  refine lv_icmp_eq (tgt := 974) hx hb (pc := 345) dL_law_345 (by decide) (fun _ => ?_) (fun h => absurd rfl h)
  exact kk H2 locs2 _ _ hS ⟨cap', room', ns, wl, nf, wd, kF, nF, yF, WD, FL, FW, TD, hN, CI_keep hC hfr2 CA_MA, hM, hc2, hr2, by omega, by omega⟩ (by omega)
theorem lc_forbid {p : Program} {l : Launch} {e : Env} {s : State} {m : MethodId} {args : Array Value} {below : List Frame} {meth : Method} {c : Code} {Q : State → Prop} {K : rr_K} {b L : Nat} {xs : Nat → Int32} {M : Nat → Prop} {up co om i : Nat} {H : Heap} {locs : List Loc} {nc nsl : Nat} {ls : Array Slot} (hx : p.tables.exec = Jvm.exec) (hb : c.code = cL_law) (hml : c.maxLocals = 4) (hown : s.vm.findClass RL = some m.cls) (hts : ∀ w ∈ wsL_law, w.before args s = true) (hKK : KK K s) (hX : va_X b L xs s s.heap) (hbl : b < s.heap.size) (hL : L ≤ 3072) (h6 : i + 6 ≤ L) (h1 : ∀ q, M q → s.heap.size ≤ q ∧ q < up) (h3 : up ≤ H.size) (hS : va_S (fun q : Nat => s.heap.size ≤ q) s.heap H locs) (hI : LI K s.heap.size M co om H nc nsl) (hl : lv_has ls 4 [(3, .int (nI i)), (2, .ref om), (1, .ref co), (0, .ref b)]) (kk : ∀ (H1 : Heap) (locs1 : List Loc) (nc1 nsl1 : Nat), va_S (fun q : Nat => s.heap.size ≤ q) s.heap H1 locs1 → LI K s.heap.size M co om H1 nc1 nsl1 → up ≤ H1.size → W p l e room_1 s m args below meth c H1 locs1 nc1 nsl1 Q (F0 m 974 ls [])) : W p l e room_1 s m args below meth c H locs nc nsl Q (F0 m 350 ls []) := by
  obtain ⟨cap, room, ns, wl, nf, wd, kF, nF, yF, WD, FL, FW, TD, hN, hC, hM, hcap, hroom, hnc, hnsl⟩ := hI
  have hbA : ¬ (fun q : Nat => s.heap.size ≤ q) b := Nat.not_le.mpr hbl
  have hns := hN.1.1
  have hns' : ns ≤ 6 := (N_forbid hN).1.1
  have hge : ns ≤ ns := Nat.le_refl _
  refine lv_aload_n hx hb (pc := 350) dL_law_350 rfl (lv_at hl 2 rfl) ?_
  obtain ⟨cap', room', hc1, hr1, hc2, hr2, hMet⟩ := u_X9_forbid l K (CA s.heap.size M)  hN (fun q hq => ⟨Nat.le_trans hS.1 hq, fun h => absurd (h1 q h).2 (by omega)⟩) hC
  have hMet := Met_room (rm' := { frames := rmX9_forbid.frames, cells := 3 * (ns - ns) + (cap' - cap) + (room' - room), slots := 327 * (ns - ns) + 8 * (cap' - cap) + 12 * (room' - room), locals := rmX9_forbid.locals }) hMet (Nat.le_refl _) (Nat.zero_le _) (Nat.zero_le _) (Nat.le_refl _)
  have hk1 : nc + (3 * (ns - ns) + (cap' - cap) + (room' - room)) ≤ 600000 := by omega
  have hk2 : nsl + (327 * (ns - ns) + 8 * (cap' - cap) + 12 * (room' - room)) ≤ 7302250 := by omega
  refine rr_callR (pc := 351) (va_runV (As := []) (rest := []) ⟨hx, hb, hml, hown, hts⟩ hMet (cwV 0 hts gL_law_X9_forbid rfl rfl rfl (by decide +kernel) ⟨Nat.le_of_ble_eq_true rfl, Nat.le_of_ble_eq_true rfl⟩) (rr_preV hKK rfl (CI_recv hKK hC)) rfl rfl hl.1 rfl (lv_room (Nat.le_of_ble_eq_true rfl)) dL_law_351 ⟨hk1, hk2⟩) hS (fun q h => h.1) (fun v H1 locs1 hY hsz hfr hS => ?_)
  obtain ⟨rfl, hC⟩ := hY
  have hM := MI_keep hM hfr MA_CA
  refine lv_aload_n hx hb (pc := 354) dL_law_354 rfl (lv_at hl 1 rfl) ?_
  refine rr_callR (pc := 355) (va_runV (As := []) (rest := [.int (forA wl nf)]) ⟨hx, hb, hml, hown, hts⟩ (u_X10_forbid l K M  hN hM) (cwV 0 hts gL_law_X10_forbid rfl rfl rfl (by decide +kernel) ⟨Nat.le_of_ble_eq_true rfl, Nat.le_of_ble_eq_true rfl⟩) (rr_preV hKK rfl (MI_recv hKK hM)) rfl rfl hl.1 rfl (lv_room (Nat.le_of_ble_eq_true rfl)) dL_law_355 ⟨hk1, hk2⟩) hS (fun q h => (h1 q h).1) (fun v H2 locs2 hY hsz2 hfr2 hS => ?_)
  obtain ⟨rfl, hM⟩ := hY
  refine lv_icmp_eq (tgt := 974) hx hb (pc := 358) dL_law_358 (by decide) (fun _ => ?_) (fun h => absurd rfl h)
  exact kk H2 locs2 _ _ hS ⟨cap', room', ns, wl, cond (forOK wl nf) (nf + 1) nf, wd, kF, nF, yF, WD, cond (forOK wl nf) (va_up FL nf wl) FL, cond (forOK wl nf) (putN FW WD (nf * 5) wl) FW, TD, N_forbid hN, CI_keep hC hfr2 CA_MA, hM, hc2, hr2, by omega, by omega⟩ (by omega)
theorem lc_unforbid {p : Program} {l : Launch} {e : Env} {s : State} {m : MethodId} {args : Array Value} {below : List Frame} {meth : Method} {c : Code} {Q : State → Prop} {K : rr_K} {b L : Nat} {xs : Nat → Int32} {M : Nat → Prop} {up co om i : Nat} {H : Heap} {locs : List Loc} {nc nsl : Nat} {ls : Array Slot} (hx : p.tables.exec = Jvm.exec) (hb : c.code = cL_law) (hml : c.maxLocals = 4) (hown : s.vm.findClass RL = some m.cls) (hts : ∀ w ∈ wsL_law, w.before args s = true) (hKK : KK K s) (hX : va_X b L xs s s.heap) (hbl : b < s.heap.size) (hL : L ≤ 3072) (h6 : i + 6 ≤ L) (h1 : ∀ q, M q → s.heap.size ≤ q ∧ q < up) (h3 : up ≤ H.size) (hS : va_S (fun q : Nat => s.heap.size ≤ q) s.heap H locs) (hI : LI K s.heap.size M co om H nc nsl) (hl : lv_has ls 4 [(3, .int (nI i)), (2, .ref om), (1, .ref co), (0, .ref b)]) (kk : ∀ (H1 : Heap) (locs1 : List Loc) (nc1 nsl1 : Nat), va_S (fun q : Nat => s.heap.size ≤ q) s.heap H1 locs1 → LI K s.heap.size M co om H1 nc1 nsl1 → up ≤ H1.size → W p l e room_1 s m args below meth c H1 locs1 nc1 nsl1 Q (F0 m 974 ls [])) : W p l e room_1 s m args below meth c H locs nc nsl Q (F0 m 363 ls []) := by
  obtain ⟨cap, room, ns, wl, nf, wd, kF, nF, yF, WD, FL, FW, TD, hN, hC, hM, hcap, hroom, hnc, hnsl⟩ := hI
  have hbA : ¬ (fun q : Nat => s.heap.size ≤ q) b := Nat.not_le.mpr hbl
  have hns := hN.1.1
  have hns' : ns ≤ 6 := (N_unforbid hN).1.1
  have hge : ns ≤ ns := Nat.le_refl _
  refine lv_aload_n hx hb (pc := 363) dL_law_363 rfl (lv_at hl 2 rfl) ?_
  obtain ⟨cap', room', hc1, hr1, hc2, hr2, hMet⟩ := u_X9_unforbid l K (CA s.heap.size M)  hN (fun q hq => ⟨Nat.le_trans hS.1 hq, fun h => absurd (h1 q h).2 (by omega)⟩) hC
  have hMet := Met_room (rm' := { frames := rmX9_unforbid.frames, cells := 3 * (ns - ns) + (cap' - cap) + (room' - room), slots := 327 * (ns - ns) + 8 * (cap' - cap) + 12 * (room' - room), locals := rmX9_unforbid.locals }) hMet (Nat.le_refl _) (Nat.zero_le _) (Nat.zero_le _) (Nat.le_refl _)
  have hk1 : nc + (3 * (ns - ns) + (cap' - cap) + (room' - room)) ≤ 600000 := by omega
  have hk2 : nsl + (327 * (ns - ns) + 8 * (cap' - cap) + 12 * (room' - room)) ≤ 7302250 := by omega
  refine rr_callR (pc := 364) (va_runV (As := []) (rest := []) ⟨hx, hb, hml, hown, hts⟩ hMet (cwV 0 hts gL_law_X9_unforbid rfl rfl rfl (by decide +kernel) ⟨Nat.le_of_ble_eq_true rfl, Nat.le_of_ble_eq_true rfl⟩) (rr_preV hKK rfl (CI_recv hKK hC)) rfl rfl hl.1 rfl (lv_room (Nat.le_of_ble_eq_true rfl)) dL_law_364 ⟨hk1, hk2⟩) hS (fun q h => h.1) (fun v H1 locs1 hY hsz hfr hS => ?_)
  obtain ⟨rfl, hC⟩ := hY
  have hM := MI_keep hM hfr MA_CA
  refine lv_aload_n hx hb (pc := 367) dL_law_367 rfl (lv_at hl 1 rfl) ?_
  refine rr_callR (pc := 368) (va_runV (As := []) (rest := [.int (nI nf)]) ⟨hx, hb, hml, hown, hts⟩ (u_X10_unforbid l K M  hN hM) (cwV 0 hts gL_law_X10_unforbid rfl rfl rfl (by decide +kernel) ⟨Nat.le_of_ble_eq_true rfl, Nat.le_of_ble_eq_true rfl⟩) (rr_preV hKK rfl (MI_recv hKK hM)) rfl rfl hl.1 rfl (lv_room (Nat.le_of_ble_eq_true rfl)) dL_law_368 ⟨hk1, hk2⟩) hS (fun q h => (h1 q h).1) (fun v H2 locs2 hY hsz2 hfr2 hS => ?_)
  obtain ⟨rfl, hM⟩ := hY
  refine lv_icmp_eq (tgt := 974) hx hb (pc := 371) dL_law_371 (by decide) (fun _ => ?_) (fun h => absurd rfl h)
  exact kk H2 locs2 _ _ hS ⟨cap', room', ns, wl, 0, wd, kF, nF, yF, WD, FL, FW, TD, N_unforbid hN, CI_keep hC hfr2 CA_MA, hM, hc2, hr2, by omega, by omega⟩ (by omega)
theorem lc_byWords {p : Program} {l : Launch} {e : Env} {s : State} {m : MethodId} {args : Array Value} {below : List Frame} {meth : Method} {c : Code} {Q : State → Prop} {K : rr_K} {b L : Nat} {xs : Nat → Int32} {M : Nat → Prop} {up co om i : Nat} {H : Heap} {locs : List Loc} {nc nsl : Nat} {ls : Array Slot} (hx : p.tables.exec = Jvm.exec) (hb : c.code = cL_law) (hml : c.maxLocals = 4) (hown : s.vm.findClass RL = some m.cls) (hts : ∀ w ∈ wsL_law, w.before args s = true) (hKK : KK K s) (hX : va_X b L xs s s.heap) (hbl : b < s.heap.size) (hL : L ≤ 3072) (h6 : i + 6 ≤ L) (h1 : ∀ q, M q → s.heap.size ≤ q ∧ q < up) (h3 : up ≤ H.size) (hS : va_S (fun q : Nat => s.heap.size ≤ q) s.heap H locs) (hI : LI K s.heap.size M co om H nc nsl) (hl : lv_has ls 4 [(3, .int (nI i)), (2, .ref om), (1, .ref co), (0, .ref b)]) (kk : ∀ (H1 : Heap) (locs1 : List Loc) (nc1 nsl1 : Nat), va_S (fun q : Nat => s.heap.size ≤ q) s.heap H1 locs1 → LI K s.heap.size M co om H1 nc1 nsl1 → up ≤ H1.size → W p l e room_1 s m args below meth c H1 locs1 nc1 nsl1 Q (F0 m 974 ls [])) : W p l e room_1 s m args below meth c H locs nc nsl Q (F0 m 376 ls []) := by
  obtain ⟨cap, room, ns, wl, nf, wd, kF, nF, yF, WD, FL, FW, TD, hN, hC, hM, hcap, hroom, hnc, hnsl⟩ := hI
  have hbA : ¬ (fun q : Nat => s.heap.size ≤ q) b := Nat.not_le.mpr hbl
  have hns := hN.1.1
  have hns' : cond (bywOK ns nf FL FW (xs (i + 1))) (ns + 1) ns ≤ 6 := (N_byWords (x := (xs (i + 1))) hN).1.1
  have hge : ns ≤ cond (bywOK ns nf FL FW (xs (i + 1))) (ns + 1) ns := cond_ge _ _
  refine lv_aload_n hx hb (pc := 376) dL_law_376 rfl (lv_at hl 2 rfl) ?_
  refine lv_aload_n hx hb (pc := 377) dL_law_377 rfl (lv_at hl 3 rfl) ?_
  refine lv_iload_n hx hb (pc := 378) dL_law_378 rfl (lv_at hl 0 rfl) ?_
  refine lv_iconst (v := nI 1) hx hb (pc := 379) dL_law_379 (by decide) ?_
  refine nv_iadd (a := i) (b := 1) hx hb (pc := 380) dL_law_380 ?_
  refine sc_ld hx hb hX hbl hbA hS hL (i := i + 1) (by omega) (pc := 381) dL_law_381 ?_
  obtain ⟨cap', room', hc1, hr1, hc2, hr2, hMet⟩ := u0_X9_byWords l K (CA s.heap.size M) (xs (i + 1)) hN (fun q hq => ⟨Nat.le_trans hS.1 hq, fun h => absurd (h1 q h).2 (by omega)⟩) hC
  have hk1 : nc + (3 * ((cond (bywOK ns nf FL FW (xs (i + 1))) (ns + 1) ns) - ns) + (cap' - cap) + (room' - room)) ≤ 600000 := by omega
  have hk2 : nsl + (327 * ((cond (bywOK ns nf FL FW (xs (i + 1))) (ns + 1) ns) - ns) + 8 * (cap' - cap) + 12 * (room' - room)) ≤ 7302250 := by omega
  refine rr_callR (pc := 382) (va_runV (As := [.int (xs (i + 1))]) (rest := []) ⟨hx, hb, hml, hown, hts⟩ hMet (cwV 1 hts gL_law_X9_byWords rfl rfl rfl (by decide +kernel) ⟨Nat.le_of_ble_eq_true rfl, Nat.le_of_ble_eq_true rfl⟩) (rr_preV hKK rfl (CI_recv hKK hC)) rfl rfl hl.1 rfl (lv_room (Nat.le_of_ble_eq_true rfl)) dL_law_382 ⟨hk1, hk2⟩) hS (fun q h => h.1) (fun v H1 locs1 hY hsz hfr hS => ?_)
  obtain ⟨rfl, hC⟩ := hY
  have hM := MI_keep hM hfr MA_CA
  refine lv_aload_n hx hb (pc := 385) dL_law_385 rfl (lv_at hl 1 rfl) ?_
  refine lv_aload_n hx hb (pc := 386) dL_law_386 rfl (lv_at hl 3 rfl) ?_
  refine lv_iload_n hx hb (pc := 387) dL_law_387 rfl (lv_at hl 0 rfl) ?_
  refine lv_iconst (v := nI 1) hx hb (pc := 388) dL_law_388 (by decide) ?_
  refine nv_iadd (a := i) (b := 1) hx hb (pc := 389) dL_law_389 ?_
  refine sc_ld hx hb hX hbl hbA hS hL (i := i + 1) (by omega) (pc := 390) dL_law_390 ?_
  refine rr_callR (pc := 391) (va_runV (As := [.int (xs (i + 1))]) (rest := [.int (bywA ns nf FL FW (xs (i + 1)))]) ⟨hx, hb, hml, hown, hts⟩ (u_X10_byWords l K M (xs (i + 1)) hN hM) (cwV 1 hts gL_law_X10_byWords rfl rfl rfl (by decide +kernel) ⟨Nat.le_of_ble_eq_true rfl, Nat.le_of_ble_eq_true rfl⟩) (rr_preV hKK rfl (MI_recv hKK hM)) rfl rfl hl.1 rfl (lv_room (Nat.le_of_ble_eq_true rfl)) dL_law_391 ⟨hk1, hk2⟩) hS (fun q h => (h1 q h).1) (fun v H2 locs2 hY hsz2 hfr2 hS => ?_)
  obtain ⟨rfl, hM⟩ := hY
  refine lv_icmp_eq (tgt := 974) hx hb (pc := 394) dL_law_394 (by decide) (fun _ => ?_) (fun h => absurd rfl h)
  exact kk H2 locs2 _ _ hS ⟨cap', room', cond (bywOK ns nf FL FW (xs (i + 1))) (ns + 1) ns, wl, nf, wd, cond (bywOK ns nf FL FW (xs (i + 1))) (va_up kF ns (cN (xs (i + 1)))) kF, cond (bywOK ns nf FL FW (xs (i + 1))) (va_up nF ns (bywN nf FL (xs (i + 1)))) nF, cond (bywOK ns nf FL FW (xs (i + 1))) (stE yF (64 * ns) (bywE nf FL FW (xs (i + 1)))) yF, WD, FL, FW, TD, N_byWords (x := (xs (i + 1))) hN, CI_keep hC hfr2 CA_MA, hM, hc2, hr2, by omega, by omega⟩ (by omega)
theorem lc_about {p : Program} {l : Launch} {e : Env} {s : State} {m : MethodId} {args : Array Value} {below : List Frame} {meth : Method} {c : Code} {Q : State → Prop} {K : rr_K} {b L : Nat} {xs : Nat → Int32} {M : Nat → Prop} {up co om i : Nat} {H : Heap} {locs : List Loc} {nc nsl : Nat} {ls : Array Slot} (hx : p.tables.exec = Jvm.exec) (hb : c.code = cL_law) (hml : c.maxLocals = 4) (hown : s.vm.findClass RL = some m.cls) (hts : ∀ w ∈ wsL_law, w.before args s = true) (hKK : KK K s) (hX : va_X b L xs s s.heap) (hbl : b < s.heap.size) (hL : L ≤ 3072) (h6 : i + 6 ≤ L) (h1 : ∀ q, M q → s.heap.size ≤ q ∧ q < up) (h3 : up ≤ H.size) (hS : va_S (fun q : Nat => s.heap.size ≤ q) s.heap H locs) (hI : LI K s.heap.size M co om H nc nsl) (hl : lv_has ls 4 [(3, .int (nI i)), (2, .ref om), (1, .ref co), (0, .ref b)]) (kk : ∀ (H1 : Heap) (locs1 : List Loc) (nc1 nsl1 : Nat), va_S (fun q : Nat => s.heap.size ≤ q) s.heap H1 locs1 → LI K s.heap.size M co om H1 nc1 nsl1 → up ≤ H1.size → W p l e room_1 s m args below meth c H1 locs1 nc1 nsl1 Q (F0 m 974 ls [])) : W p l e room_1 s m args below meth c H locs nc nsl Q (F0 m 399 ls []) := by
  obtain ⟨cap, room, ns, wl, nf, wd, kF, nF, yF, WD, FL, FW, TD, hN, hC, hM, hcap, hroom, hnc, hnsl⟩ := hI
  have hbA : ¬ (fun q : Nat => s.heap.size ≤ q) b := Nat.not_le.mpr hbl
  have hns := hN.1.1
  have hns' : ns ≤ 6 := (hN).1.1
  have hge : ns ≤ ns := Nat.le_refl _
  refine lv_aload_n hx hb (pc := 399) dL_law_399 rfl (lv_at hl 2 rfl) ?_
  refine lv_aload_n hx hb (pc := 400) dL_law_400 rfl (lv_at hl 3 rfl) ?_
  refine lv_iload_n hx hb (pc := 401) dL_law_401 rfl (lv_at hl 0 rfl) ?_
  refine lv_iconst (v := nI 1) hx hb (pc := 402) dL_law_402 (by decide) ?_
  refine nv_iadd (a := i) (b := 1) hx hb (pc := 403) dL_law_403 ?_
  refine sc_ld hx hb hX hbl hbA hS hL (i := i + 1) (by omega) (pc := 404) dL_law_404 ?_
  refine lv_aload_n hx hb (pc := 405) dL_law_405 rfl (lv_at hl 3 rfl) ?_
  refine lv_iload_n hx hb (pc := 406) dL_law_406 rfl (lv_at hl 0 rfl) ?_
  refine lv_iconst (v := nI 2) hx hb (pc := 407) dL_law_407 (by decide) ?_
  refine nv_iadd (a := i) (b := 2) hx hb (pc := 408) dL_law_408 ?_
  refine sc_ld hx hb hX hbl hbA hS hL (i := i + 2) (by omega) (pc := 409) dL_law_409 ?_
  obtain ⟨cap', room', hc1, hr1, hc2, hr2, hMet⟩ := u_X9_about l K (CA s.heap.size M) (xs (i + 1)) (xs (i + 2)) hN (fun q hq => ⟨Nat.le_trans hS.1 hq, fun h => absurd (h1 q h).2 (by omega)⟩) hC
  have hMet := Met_room (rm' := { frames := rmX9_about.frames, cells := 3 * (ns - ns) + (cap' - cap) + (room' - room), slots := 327 * (ns - ns) + 8 * (cap' - cap) + 12 * (room' - room), locals := rmX9_about.locals }) hMet (Nat.le_refl _) (Nat.zero_le _) (Nat.zero_le _) (Nat.le_refl _)
  have hk1 : nc + (3 * (ns - ns) + (cap' - cap) + (room' - room)) ≤ 600000 := by omega
  have hk2 : nsl + (327 * (ns - ns) + 8 * (cap' - cap) + 12 * (room' - room)) ≤ 7302250 := by omega
  refine rr_callR (pc := 410) (va_runV (As := [.int (xs (i + 1)), .int (xs (i + 2))]) (rest := []) ⟨hx, hb, hml, hown, hts⟩ hMet (cwV 2 hts gL_law_X9_about rfl rfl rfl (by decide +kernel) ⟨Nat.le_of_ble_eq_true rfl, Nat.le_of_ble_eq_true rfl⟩) (rr_preV hKK rfl (CI_recv hKK hC)) rfl rfl hl.1 rfl (lv_room (Nat.le_of_ble_eq_true rfl)) dL_law_410 ⟨hk1, hk2⟩) hS (fun q h => h.1) (fun v H1 locs1 hY hsz hfr hS => ?_)
  obtain ⟨rfl, hC⟩ := hY
  have hM := MI_keep hM hfr MA_CA
  refine lv_aload_n hx hb (pc := 413) dL_law_413 rfl (lv_at hl 1 rfl) ?_
  refine lv_aload_n hx hb (pc := 414) dL_law_414 rfl (lv_at hl 3 rfl) ?_
  refine lv_iload_n hx hb (pc := 415) dL_law_415 rfl (lv_at hl 0 rfl) ?_
  refine lv_iconst (v := nI 1) hx hb (pc := 416) dL_law_416 (by decide) ?_
  refine nv_iadd (a := i) (b := 1) hx hb (pc := 417) dL_law_417 ?_
  refine sc_ld hx hb hX hbl hbA hS hL (i := i + 1) (by omega) (pc := 418) dL_law_418 ?_
  refine lv_aload_n hx hb (pc := 419) dL_law_419 rfl (lv_at hl 3 rfl) ?_
  refine lv_iload_n hx hb (pc := 420) dL_law_420 rfl (lv_at hl 0 rfl) ?_
  refine lv_iconst (v := nI 2) hx hb (pc := 421) dL_law_421 (by decide) ?_
  refine nv_iadd (a := i) (b := 2) hx hb (pc := 422) dL_law_422 ?_
  refine sc_ld hx hb hX hbl hbA hS hL (i := i + 2) (by omega) (pc := 423) dL_law_423 ?_
  refine rr_callR (pc := 424) (va_runV (As := [.int (xs (i + 1)), .int (xs (i + 2))]) (rest := [.int (abtA ns kF nF yF (xs (i + 1)) (xs (i + 2)))]) ⟨hx, hb, hml, hown, hts⟩ (u_X10_about l K M (xs (i + 1)) (xs (i + 2)) hN hM) (cwV 2 hts gL_law_X10_about rfl rfl rfl (by decide +kernel) ⟨Nat.le_of_ble_eq_true rfl, Nat.le_of_ble_eq_true rfl⟩) (rr_preV hKK rfl (MI_recv hKK hM)) rfl rfl hl.1 rfl (lv_room (Nat.le_of_ble_eq_true rfl)) dL_law_424 ⟨hk1, hk2⟩) hS (fun q h => (h1 q h).1) (fun v H2 locs2 hY hsz2 hfr2 hS => ?_)
  obtain ⟨rfl, hM⟩ := hY
  refine lv_icmp_eq (tgt := 974) hx hb (pc := 427) dL_law_427 (by decide) (fun _ => ?_) (fun h => absurd rfl h)
  exact kk H2 locs2 _ _ hS ⟨cap', room', ns, wl, nf, wd, kF, nF, yF, WD, FL, FW, TD, hN, CI_keep hC hfr2 CA_MA, hM, hc2, hr2, by omega, by omega⟩ (by omega)
theorem lc_live {p : Program} {l : Launch} {e : Env} {s : State} {m : MethodId} {args : Array Value} {below : List Frame} {meth : Method} {c : Code} {Q : State → Prop} {K : rr_K} {b L : Nat} {xs : Nat → Int32} {M : Nat → Prop} {up co om i : Nat} {H : Heap} {locs : List Loc} {nc nsl : Nat} {ls : Array Slot} (hx : p.tables.exec = Jvm.exec) (hb : c.code = cL_law) (hml : c.maxLocals = 4) (hown : s.vm.findClass RL = some m.cls) (hts : ∀ w ∈ wsL_law, w.before args s = true) (hKK : KK K s) (hX : va_X b L xs s s.heap) (hbl : b < s.heap.size) (hL : L ≤ 3072) (h6 : i + 6 ≤ L) (h1 : ∀ q, M q → s.heap.size ≤ q ∧ q < up) (h3 : up ≤ H.size) (hS : va_S (fun q : Nat => s.heap.size ≤ q) s.heap H locs) (hI : LI K s.heap.size M co om H nc nsl) (hl : lv_has ls 4 [(3, .int (nI i)), (2, .ref om), (1, .ref co), (0, .ref b)]) (kk : ∀ (H1 : Heap) (locs1 : List Loc) (nc1 nsl1 : Nat), va_S (fun q : Nat => s.heap.size ≤ q) s.heap H1 locs1 → LI K s.heap.size M co om H1 nc1 nsl1 → up ≤ H1.size → W p l e room_1 s m args below meth c H1 locs1 nc1 nsl1 Q (F0 m 974 ls [])) : W p l e room_1 s m args below meth c H locs nc nsl Q (F0 m 432 ls []) := by
  obtain ⟨cap, room, ns, wl, nf, wd, kF, nF, yF, WD, FL, FW, TD, hN, hC, hM, hcap, hroom, hnc, hnsl⟩ := hI
  have hbA : ¬ (fun q : Nat => s.heap.size ≤ q) b := Nat.not_le.mpr hbl
  have hns := hN.1.1
  have hns' : ns ≤ 6 := (hN).1.1
  have hge : ns ≤ ns := Nat.le_refl _
  refine lv_aload_n hx hb (pc := 432) dL_law_432 rfl (lv_at hl 2 rfl) ?_
  refine lv_aload_n hx hb (pc := 433) dL_law_433 rfl (lv_at hl 3 rfl) ?_
  refine lv_iload_n hx hb (pc := 434) dL_law_434 rfl (lv_at hl 0 rfl) ?_
  refine lv_iconst (v := nI 1) hx hb (pc := 435) dL_law_435 (by decide) ?_
  refine nv_iadd (a := i) (b := 1) hx hb (pc := 436) dL_law_436 ?_
  refine sc_ld hx hb hX hbl hbA hS hL (i := i + 1) (by omega) (pc := 437) dL_law_437 ?_
  refine lv_aload_n hx hb (pc := 438) dL_law_438 rfl (lv_at hl 3 rfl) ?_
  refine lv_iload_n hx hb (pc := 439) dL_law_439 rfl (lv_at hl 0 rfl) ?_
  refine lv_iconst (v := nI 2) hx hb (pc := 440) dL_law_440 (by decide) ?_
  refine nv_iadd (a := i) (b := 2) hx hb (pc := 441) dL_law_441 ?_
  refine sc_ld hx hb hX hbl hbA hS hL (i := i + 2) (by omega) (pc := 442) dL_law_442 ?_
  obtain ⟨cap', room', hc1, hr1, hc2, hr2, hMet⟩ := u_X9_live l K (CA s.heap.size M) (xs (i + 1)) (xs (i + 2)) hN (fun q hq => ⟨Nat.le_trans hS.1 hq, fun h => absurd (h1 q h).2 (by omega)⟩) hC
  have hMet := Met_room (rm' := { frames := rmX9_live.frames, cells := 3 * (ns - ns) + (cap' - cap) + (room' - room), slots := 327 * (ns - ns) + 8 * (cap' - cap) + 12 * (room' - room), locals := rmX9_live.locals }) hMet (Nat.le_refl _) (Nat.zero_le _) (Nat.zero_le _) (Nat.le_refl _)
  have hk1 : nc + (3 * (ns - ns) + (cap' - cap) + (room' - room)) ≤ 600000 := by omega
  have hk2 : nsl + (327 * (ns - ns) + 8 * (cap' - cap) + 12 * (room' - room)) ≤ 7302250 := by omega
  refine rr_callR (pc := 443) (va_runV (As := [.int (xs (i + 1)), .int (xs (i + 2))]) (rest := []) ⟨hx, hb, hml, hown, hts⟩ hMet (cwV 2 hts gL_law_X9_live rfl rfl rfl (by decide +kernel) ⟨Nat.le_of_ble_eq_true rfl, Nat.le_of_ble_eq_true rfl⟩) (rr_preV hKK rfl (CI_recv hKK hC)) rfl rfl hl.1 rfl (lv_room (Nat.le_of_ble_eq_true rfl)) dL_law_443 ⟨hk1, hk2⟩) hS (fun q h => h.1) (fun v H1 locs1 hY hsz hfr hS => ?_)
  obtain ⟨rfl, hC⟩ := hY
  have hM := MI_keep hM hfr MA_CA
  refine lv_aload_n hx hb (pc := 446) dL_law_446 rfl (lv_at hl 1 rfl) ?_
  refine lv_aload_n hx hb (pc := 447) dL_law_447 rfl (lv_at hl 3 rfl) ?_
  refine lv_iload_n hx hb (pc := 448) dL_law_448 rfl (lv_at hl 0 rfl) ?_
  refine lv_iconst (v := nI 1) hx hb (pc := 449) dL_law_449 (by decide) ?_
  refine nv_iadd (a := i) (b := 1) hx hb (pc := 450) dL_law_450 ?_
  refine sc_ld hx hb hX hbl hbA hS hL (i := i + 1) (by omega) (pc := 451) dL_law_451 ?_
  refine lv_aload_n hx hb (pc := 452) dL_law_452 rfl (lv_at hl 3 rfl) ?_
  refine lv_iload_n hx hb (pc := 453) dL_law_453 rfl (lv_at hl 0 rfl) ?_
  refine lv_iconst (v := nI 2) hx hb (pc := 454) dL_law_454 (by decide) ?_
  refine nv_iadd (a := i) (b := 2) hx hb (pc := 455) dL_law_455 ?_
  refine sc_ld hx hb hX hbl hbA hS hL (i := i + 2) (by omega) (pc := 456) dL_law_456 ?_
  refine rr_callR (pc := 457) (va_runV (As := [.int (xs (i + 1)), .int (xs (i + 2))]) (rest := [.int (livA ns kF nF yF (xs (i + 1)) (xs (i + 2)))]) ⟨hx, hb, hml, hown, hts⟩ (u_X10_live l K M (xs (i + 1)) (xs (i + 2)) hN hM) (cwV 2 hts gL_law_X10_live rfl rfl rfl (by decide +kernel) ⟨Nat.le_of_ble_eq_true rfl, Nat.le_of_ble_eq_true rfl⟩) (rr_preV hKK rfl (MI_recv hKK hM)) rfl rfl hl.1 rfl (lv_room (Nat.le_of_ble_eq_true rfl)) dL_law_457 ⟨hk1, hk2⟩) hS (fun q h => (h1 q h).1) (fun v H2 locs2 hY hsz2 hfr2 hS => ?_)
  obtain ⟨rfl, hM⟩ := hY
  refine lv_icmp_eq (tgt := 974) hx hb (pc := 460) dL_law_460 (by decide) (fun _ => ?_) (fun h => absurd rfl h)
  exact kk H2 locs2 _ _ hS ⟨cap', room', ns, wl, nf, wd, kF, nF, yF, WD, FL, FW, TD, hN, CI_keep hC hfr2 CA_MA, hM, hc2, hr2, by omega, by omega⟩ (by omega)
theorem lc_may {p : Program} {l : Launch} {e : Env} {s : State} {m : MethodId} {args : Array Value} {below : List Frame} {meth : Method} {c : Code} {Q : State → Prop} {K : rr_K} {b L : Nat} {xs : Nat → Int32} {M : Nat → Prop} {up co om i : Nat} {H : Heap} {locs : List Loc} {nc nsl : Nat} {ls : Array Slot} (hx : p.tables.exec = Jvm.exec) (hb : c.code = cL_law) (hml : c.maxLocals = 4) (hown : s.vm.findClass RL = some m.cls) (hts : ∀ w ∈ wsL_law, w.before args s = true) (hKK : KK K s) (hX : va_X b L xs s s.heap) (hbl : b < s.heap.size) (hL : L ≤ 3072) (h6 : i + 6 ≤ L) (h1 : ∀ q, M q → s.heap.size ≤ q ∧ q < up) (h3 : up ≤ H.size) (hS : va_S (fun q : Nat => s.heap.size ≤ q) s.heap H locs) (hI : LI K s.heap.size M co om H nc nsl) (hl : lv_has ls 4 [(3, .int (nI i)), (2, .ref om), (1, .ref co), (0, .ref b)]) (kk : ∀ (H1 : Heap) (locs1 : List Loc) (nc1 nsl1 : Nat), va_S (fun q : Nat => s.heap.size ≤ q) s.heap H1 locs1 → LI K s.heap.size M co om H1 nc1 nsl1 → up ≤ H1.size → W p l e room_1 s m args below meth c H1 locs1 nc1 nsl1 Q (F0 m 974 ls [])) : W p l e room_1 s m args below meth c H locs nc nsl Q (F0 m 465 ls []) := by
  obtain ⟨cap, room, ns, wl, nf, wd, kF, nF, yF, WD, FL, FW, TD, hN, hC, hM, hcap, hroom, hnc, hnsl⟩ := hI
  have hbA : ¬ (fun q : Nat => s.heap.size ≤ q) b := Nat.not_le.mpr hbl
  have hns := hN.1.1
  have hns' : ns ≤ 6 := (hN).1.1
  have hge : ns ≤ ns := Nat.le_refl _
  refine lv_aload_n hx hb (pc := 465) dL_law_465 rfl (lv_at hl 2 rfl) ?_
  refine lv_aload_n hx hb (pc := 466) dL_law_466 rfl (lv_at hl 3 rfl) ?_
  refine lv_iload_n hx hb (pc := 467) dL_law_467 rfl (lv_at hl 0 rfl) ?_
  refine lv_iconst (v := nI 1) hx hb (pc := 468) dL_law_468 (by decide) ?_
  refine nv_iadd (a := i) (b := 1) hx hb (pc := 469) dL_law_469 ?_
  refine sc_ld hx hb hX hbl hbA hS hL (i := i + 1) (by omega) (pc := 470) dL_law_470 ?_
  obtain ⟨cap', room', hc1, hr1, hc2, hr2, hMet⟩ := u_X9_may l K (CA s.heap.size M) (xs (i + 1)) hN (fun q hq => ⟨Nat.le_trans hS.1 hq, fun h => absurd (h1 q h).2 (by omega)⟩) hC
  have hMet := Met_room (rm' := { frames := rmX9_may.frames, cells := 3 * (ns - ns) + (cap' - cap) + (room' - room), slots := 327 * (ns - ns) + 8 * (cap' - cap) + 12 * (room' - room), locals := rmX9_may.locals }) hMet (Nat.le_refl _) (Nat.zero_le _) (Nat.zero_le _) (Nat.le_refl _)
  have hk1 : nc + (3 * (ns - ns) + (cap' - cap) + (room' - room)) ≤ 600000 := by omega
  have hk2 : nsl + (327 * (ns - ns) + 8 * (cap' - cap) + 12 * (room' - room)) ≤ 7302250 := by omega
  refine rr_callR (pc := 471) (va_runV (As := [.int (xs (i + 1))]) (rest := []) ⟨hx, hb, hml, hown, hts⟩ hMet (cwV 1 hts gL_law_X9_may rfl rfl rfl (by decide +kernel) ⟨Nat.le_of_ble_eq_true rfl, Nat.le_of_ble_eq_true rfl⟩) (rr_preV hKK rfl (CI_recv hKK hC)) rfl rfl hl.1 rfl (lv_room (Nat.le_of_ble_eq_true rfl)) dL_law_471 ⟨hk1, hk2⟩) hS (fun q h => h.1) (fun v H1 locs1 hY hsz hfr hS => ?_)
  obtain ⟨rfl, hC⟩ := hY
  have hM := MI_keep hM hfr MA_CA
  refine lv_aload_n hx hb (pc := 474) dL_law_474 rfl (lv_at hl 1 rfl) ?_
  refine lv_aload_n hx hb (pc := 475) dL_law_475 rfl (lv_at hl 3 rfl) ?_
  refine lv_iload_n hx hb (pc := 476) dL_law_476 rfl (lv_at hl 0 rfl) ?_
  refine lv_iconst (v := nI 1) hx hb (pc := 477) dL_law_477 (by decide) ?_
  refine nv_iadd (a := i) (b := 1) hx hb (pc := 478) dL_law_478 ?_
  refine sc_ld hx hb hX hbl hbA hS hL (i := i + 1) (by omega) (pc := 479) dL_law_479 ?_
  refine rr_callR (pc := 480) (va_runV (As := [.int (xs (i + 1))]) (rest := [.int (mayA ns kF nF yF wl WD (xs (i + 1)))]) ⟨hx, hb, hml, hown, hts⟩ (u_X10_may l K M (xs (i + 1)) hN hM) (cwV 1 hts gL_law_X10_may rfl rfl rfl (by decide +kernel) ⟨Nat.le_of_ble_eq_true rfl, Nat.le_of_ble_eq_true rfl⟩) (rr_preV hKK rfl (MI_recv hKK hM)) rfl rfl hl.1 rfl (lv_room (Nat.le_of_ble_eq_true rfl)) dL_law_480 ⟨hk1, hk2⟩) hS (fun q h => (h1 q h).1) (fun v H2 locs2 hY hsz2 hfr2 hS => ?_)
  obtain ⟨rfl, hM⟩ := hY
  refine lv_icmp_eq (tgt := 974) hx hb (pc := 483) dL_law_483 (by decide) (fun _ => ?_) (fun h => absurd rfl h)
  exact kk H2 locs2 _ _ hS ⟨cap', room', ns, wl, nf, wd, kF, nF, yF, WD, FL, FW, TD, hN, CI_keep hC hfr2 CA_MA, hM, hc2, hr2, by omega, by omega⟩ (by omega)
theorem lc_howMany {p : Program} {l : Launch} {e : Env} {s : State} {m : MethodId} {args : Array Value} {below : List Frame} {meth : Method} {c : Code} {Q : State → Prop} {K : rr_K} {b L : Nat} {xs : Nat → Int32} {M : Nat → Prop} {up co om i : Nat} {H : Heap} {locs : List Loc} {nc nsl : Nat} {ls : Array Slot} (hx : p.tables.exec = Jvm.exec) (hb : c.code = cL_law) (hml : c.maxLocals = 4) (hown : s.vm.findClass RL = some m.cls) (hts : ∀ w ∈ wsL_law, w.before args s = true) (hKK : KK K s) (hX : va_X b L xs s s.heap) (hbl : b < s.heap.size) (hL : L ≤ 3072) (h6 : i + 6 ≤ L) (h1 : ∀ q, M q → s.heap.size ≤ q ∧ q < up) (h3 : up ≤ H.size) (hS : va_S (fun q : Nat => s.heap.size ≤ q) s.heap H locs) (hI : LI K s.heap.size M co om H nc nsl) (hl : lv_has ls 4 [(3, .int (nI i)), (2, .ref om), (1, .ref co), (0, .ref b)]) (kk : ∀ (H1 : Heap) (locs1 : List Loc) (nc1 nsl1 : Nat), va_S (fun q : Nat => s.heap.size ≤ q) s.heap H1 locs1 → LI K s.heap.size M co om H1 nc1 nsl1 → up ≤ H1.size → W p l e room_1 s m args below meth c H1 locs1 nc1 nsl1 Q (F0 m 974 ls [])) : W p l e room_1 s m args below meth c H locs nc nsl Q (F0 m 488 ls []) := by
  obtain ⟨cap, room, ns, wl, nf, wd, kF, nF, yF, WD, FL, FW, TD, hN, hC, hM, hcap, hroom, hnc, hnsl⟩ := hI
  have hbA : ¬ (fun q : Nat => s.heap.size ≤ q) b := Nat.not_le.mpr hbl
  have hns := hN.1.1
  have hns' : ns ≤ 6 := (hN).1.1
  have hge : ns ≤ ns := Nat.le_refl _
  refine lv_aload_n hx hb (pc := 488) dL_law_488 rfl (lv_at hl 2 rfl) ?_
  refine lv_aload_n hx hb (pc := 489) dL_law_489 rfl (lv_at hl 3 rfl) ?_
  refine lv_iload_n hx hb (pc := 490) dL_law_490 rfl (lv_at hl 0 rfl) ?_
  refine lv_iconst (v := nI 1) hx hb (pc := 491) dL_law_491 (by decide) ?_
  refine nv_iadd (a := i) (b := 1) hx hb (pc := 492) dL_law_492 ?_
  refine sc_ld hx hb hX hbl hbA hS hL (i := i + 1) (by omega) (pc := 493) dL_law_493 ?_
  refine lv_aload_n hx hb (pc := 494) dL_law_494 rfl (lv_at hl 3 rfl) ?_
  refine lv_iload_n hx hb (pc := 495) dL_law_495 rfl (lv_at hl 0 rfl) ?_
  refine lv_iconst (v := nI 2) hx hb (pc := 496) dL_law_496 (by decide) ?_
  refine nv_iadd (a := i) (b := 2) hx hb (pc := 497) dL_law_497 ?_
  refine sc_ld hx hb hX hbl hbA hS hL (i := i + 2) (by omega) (pc := 498) dL_law_498 ?_
  obtain ⟨cap', room', hc1, hr1, hc2, hr2, hMet⟩ := u_X9_howMany l K (CA s.heap.size M) (xs (i + 1)) (xs (i + 2)) hN (fun q hq => ⟨Nat.le_trans hS.1 hq, fun h => absurd (h1 q h).2 (by omega)⟩) hC
  have hk1 : nc + (3 * (ns - ns) + (cap' - cap) + (room' - room)) ≤ 600000 := by omega
  have hk2 : nsl + (327 * (ns - ns) + 8 * (cap' - cap) + 12 * (room' - room)) ≤ 7302250 := by omega
  refine rr_callR (pc := 499) (va_runV (As := [.int (xs (i + 1)), .int (xs (i + 2))]) (rest := []) ⟨hx, hb, hml, hown, hts⟩ hMet (cwV 2 hts gL_law_X9_howMany rfl rfl rfl (by decide +kernel) ⟨Nat.le_of_ble_eq_true rfl, Nat.le_of_ble_eq_true rfl⟩) (rr_preV hKK rfl (CI_recv hKK hC)) rfl rfl hl.1 rfl (lv_room (Nat.le_of_ble_eq_true rfl)) dL_law_499 ⟨hk1, hk2⟩) hS (fun q h => h.1) (fun v H1 locs1 hY hsz hfr hS => ?_)
  obtain ⟨rfl, hC⟩ := hY
  have hM := MI_keep hM hfr MA_CA
  refine lv_aload_n hx hb (pc := 502) dL_law_502 rfl (lv_at hl 1 rfl) ?_
  refine lv_aload_n hx hb (pc := 503) dL_law_503 rfl (lv_at hl 3 rfl) ?_
  refine lv_iload_n hx hb (pc := 504) dL_law_504 rfl (lv_at hl 0 rfl) ?_
  refine lv_iconst (v := nI 1) hx hb (pc := 505) dL_law_505 (by decide) ?_
  refine nv_iadd (a := i) (b := 1) hx hb (pc := 506) dL_law_506 ?_
  refine sc_ld hx hb hX hbl hbA hS hL (i := i + 1) (by omega) (pc := 507) dL_law_507 ?_
  refine lv_aload_n hx hb (pc := 508) dL_law_508 rfl (lv_at hl 3 rfl) ?_
  refine lv_iload_n hx hb (pc := 509) dL_law_509 rfl (lv_at hl 0 rfl) ?_
  refine lv_iconst (v := nI 2) hx hb (pc := 510) dL_law_510 (by decide) ?_
  refine nv_iadd (a := i) (b := 2) hx hb (pc := 511) dL_law_511 ?_
  refine sc_ld hx hb hX hbl hbA hS hL (i := i + 2) (by omega) (pc := 512) dL_law_512 ?_
  refine rr_callR (pc := 513) (va_runV (As := [.int (xs (i + 1)), .int (xs (i + 2))]) (rest := [.long (hwmA ns kF nF yF (xs (i + 1)) (xs (i + 2)))]) ⟨hx, hb, hml, hown, hts⟩ (u_X10_howMany l K M (xs (i + 1)) (xs (i + 2)) hN hM) (cwV 2 hts gL_law_X10_howMany rfl rfl rfl (by decide +kernel) ⟨Nat.le_of_ble_eq_true rfl, Nat.le_of_ble_eq_true rfl⟩) (rr_preV hKK rfl (MI_recv hKK hM)) rfl rfl hl.1 rfl (lv_room (Nat.le_of_ble_eq_true rfl)) dL_law_513 ⟨hk1, hk2⟩) hS (fun q h => (h1 q h).1) (fun v H2 locs2 hY hsz2 hfr2 hS => ?_)
  obtain ⟨rfl, hM⟩ := hY
  refine rr_lcmp_eq (tgt := 974) hx hb (pc := 516) dL_law_516 dL_law_517 (by decide) (fun _ => ?_) (fun h => absurd rfl h)
  exact kk H2 locs2 _ _ hS ⟨cap', room', ns, wl, nf, wd, kF, nF, yF, WD, FL, FW, TD, hN, CI_keep hC hfr2 CA_MA, hM, hc2, hr2, by omega, by omega⟩ (by omega)
theorem lc_loops {p : Program} {l : Launch} {e : Env} {s : State} {m : MethodId} {args : Array Value} {below : List Frame} {meth : Method} {c : Code} {Q : State → Prop} {K : rr_K} {b L : Nat} {xs : Nat → Int32} {M : Nat → Prop} {up co om i : Nat} {H : Heap} {locs : List Loc} {nc nsl : Nat} {ls : Array Slot} (hx : p.tables.exec = Jvm.exec) (hb : c.code = cL_law) (hml : c.maxLocals = 4) (hown : s.vm.findClass RL = some m.cls) (hts : ∀ w ∈ wsL_law, w.before args s = true) (hKK : KK K s) (hX : va_X b L xs s s.heap) (hbl : b < s.heap.size) (hL : L ≤ 3072) (h6 : i + 6 ≤ L) (h1 : ∀ q, M q → s.heap.size ≤ q ∧ q < up) (h3 : up ≤ H.size) (hS : va_S (fun q : Nat => s.heap.size ≤ q) s.heap H locs) (hI : LI K s.heap.size M co om H nc nsl) (hl : lv_has ls 4 [(3, .int (nI i)), (2, .ref om), (1, .ref co), (0, .ref b)]) (kk : ∀ (H1 : Heap) (locs1 : List Loc) (nc1 nsl1 : Nat), va_S (fun q : Nat => s.heap.size ≤ q) s.heap H1 locs1 → LI K s.heap.size M co om H1 nc1 nsl1 → up ≤ H1.size → W p l e room_1 s m args below meth c H1 locs1 nc1 nsl1 Q (F0 m 974 ls [])) : W p l e room_1 s m args below meth c H locs nc nsl Q (F0 m 522 ls []) := by
  obtain ⟨cap, room, ns, wl, nf, wd, kF, nF, yF, WD, FL, FW, TD, hN, hC, hM, hcap, hroom, hnc, hnsl⟩ := hI
  have hbA : ¬ (fun q : Nat => s.heap.size ≤ q) b := Nat.not_le.mpr hbl
  have hns := hN.1.1
  have hns' : ns ≤ 6 := (hN).1.1
  have hge : ns ≤ ns := Nat.le_refl _
  refine lv_aload_n hx hb (pc := 522) dL_law_522 rfl (lv_at hl 2 rfl) ?_
  refine lv_aload_n hx hb (pc := 523) dL_law_523 rfl (lv_at hl 3 rfl) ?_
  refine lv_iload_n hx hb (pc := 524) dL_law_524 rfl (lv_at hl 0 rfl) ?_
  refine lv_iconst (v := nI 1) hx hb (pc := 525) dL_law_525 (by decide) ?_
  refine nv_iadd (a := i) (b := 1) hx hb (pc := 526) dL_law_526 ?_
  refine sc_ld hx hb hX hbl hbA hS hL (i := i + 1) (by omega) (pc := 527) dL_law_527 ?_
  refine lv_aload_n hx hb (pc := 528) dL_law_528 rfl (lv_at hl 3 rfl) ?_
  refine lv_iload_n hx hb (pc := 529) dL_law_529 rfl (lv_at hl 0 rfl) ?_
  refine lv_iconst (v := nI 2) hx hb (pc := 530) dL_law_530 (by decide) ?_
  refine nv_iadd (a := i) (b := 2) hx hb (pc := 531) dL_law_531 ?_
  refine sc_ld hx hb hX hbl hbA hS hL (i := i + 2) (by omega) (pc := 532) dL_law_532 ?_
  obtain ⟨cap', room', hc1, hr1, hc2, hr2, hMet⟩ := u_X9_loops l K (CA s.heap.size M) (xs (i + 1)) (xs (i + 2)) hN (fun q hq => ⟨Nat.le_trans hS.1 hq, fun h => absurd (h1 q h).2 (by omega)⟩) hC
  have hMet := Met_room (rm' := { frames := rmX9_loops.frames, cells := 3 * (ns - ns) + (cap' - cap) + (room' - room), slots := 327 * (ns - ns) + 8 * (cap' - cap) + 12 * (room' - room), locals := rmX9_loops.locals }) hMet (Nat.le_refl _) (Nat.zero_le _) (Nat.zero_le _) (Nat.le_refl _)
  have hk1 : nc + (3 * (ns - ns) + (cap' - cap) + (room' - room)) ≤ 600000 := by omega
  have hk2 : nsl + (327 * (ns - ns) + 8 * (cap' - cap) + 12 * (room' - room)) ≤ 7302250 := by omega
  refine rr_callR (pc := 533) (va_runV (As := [.int (xs (i + 1)), .int (xs (i + 2))]) (rest := []) ⟨hx, hb, hml, hown, hts⟩ hMet (cwV 2 hts gL_law_X9_loops rfl rfl rfl (by decide +kernel) ⟨Nat.le_of_ble_eq_true rfl, Nat.le_of_ble_eq_true rfl⟩) (rr_preV hKK rfl (CI_recv hKK hC)) rfl rfl hl.1 rfl (lv_room (Nat.le_of_ble_eq_true rfl)) dL_law_533 ⟨hk1, hk2⟩) hS (fun q h => h.1) (fun v H1 locs1 hY hsz hfr hS => ?_)
  obtain ⟨rfl, hC⟩ := hY
  have hM := MI_keep hM hfr MA_CA
  refine lv_aload_n hx hb (pc := 536) dL_law_536 rfl (lv_at hl 1 rfl) ?_
  refine lv_aload_n hx hb (pc := 537) dL_law_537 rfl (lv_at hl 3 rfl) ?_
  refine lv_iload_n hx hb (pc := 538) dL_law_538 rfl (lv_at hl 0 rfl) ?_
  refine lv_iconst (v := nI 1) hx hb (pc := 539) dL_law_539 (by decide) ?_
  refine nv_iadd (a := i) (b := 1) hx hb (pc := 540) dL_law_540 ?_
  refine sc_ld hx hb hX hbl hbA hS hL (i := i + 1) (by omega) (pc := 541) dL_law_541 ?_
  refine lv_aload_n hx hb (pc := 542) dL_law_542 rfl (lv_at hl 3 rfl) ?_
  refine lv_iload_n hx hb (pc := 543) dL_law_543 rfl (lv_at hl 0 rfl) ?_
  refine lv_iconst (v := nI 2) hx hb (pc := 544) dL_law_544 (by decide) ?_
  refine nv_iadd (a := i) (b := 2) hx hb (pc := 545) dL_law_545 ?_
  refine sc_ld hx hb hX hbl hbA hS hL (i := i + 2) (by omega) (pc := 546) dL_law_546 ?_
  refine rr_callR (pc := 547) (va_runV (As := [.int (xs (i + 1)), .int (xs (i + 2))]) (rest := [.long (looA ns kF nF yF (xs (i + 1)) (xs (i + 2)))]) ⟨hx, hb, hml, hown, hts⟩ (u_X10_loops l K M (xs (i + 1)) (xs (i + 2)) hN hM) (cwV 2 hts gL_law_X10_loops rfl rfl rfl (by decide +kernel) ⟨Nat.le_of_ble_eq_true rfl, Nat.le_of_ble_eq_true rfl⟩) (rr_preV hKK rfl (MI_recv hKK hM)) rfl rfl hl.1 rfl (lv_room (Nat.le_of_ble_eq_true rfl)) dL_law_547 ⟨hk1, hk2⟩) hS (fun q h => (h1 q h).1) (fun v H2 locs2 hY hsz2 hfr2 hS => ?_)
  obtain ⟨rfl, hM⟩ := hY
  refine rr_lcmp_eq (tgt := 974) hx hb (pc := 550) dL_law_550 dL_law_551 (by decide) (fun _ => ?_) (fun h => absurd rfl h)
  exact kk H2 locs2 _ _ hS ⟨cap', room', ns, wl, nf, wd, kF, nF, yF, WD, FL, FW, TD, hN, CI_keep hC hfr2 CA_MA, hM, hc2, hr2, by omega, by omega⟩ (by omega)
theorem lc_rounds {p : Program} {l : Launch} {e : Env} {s : State} {m : MethodId} {args : Array Value} {below : List Frame} {meth : Method} {c : Code} {Q : State → Prop} {K : rr_K} {b L : Nat} {xs : Nat → Int32} {M : Nat → Prop} {up co om i : Nat} {H : Heap} {locs : List Loc} {nc nsl : Nat} {ls : Array Slot} (hx : p.tables.exec = Jvm.exec) (hb : c.code = cL_law) (hml : c.maxLocals = 4) (hown : s.vm.findClass RL = some m.cls) (hts : ∀ w ∈ wsL_law, w.before args s = true) (hKK : KK K s) (hX : va_X b L xs s s.heap) (hbl : b < s.heap.size) (hL : L ≤ 3072) (h6 : i + 6 ≤ L) (h1 : ∀ q, M q → s.heap.size ≤ q ∧ q < up) (h3 : up ≤ H.size) (hS : va_S (fun q : Nat => s.heap.size ≤ q) s.heap H locs) (hI : LI K s.heap.size M co om H nc nsl) (hl : lv_has ls 4 [(3, .int (nI i)), (2, .ref om), (1, .ref co), (0, .ref b)]) (kk : ∀ (H1 : Heap) (locs1 : List Loc) (nc1 nsl1 : Nat), va_S (fun q : Nat => s.heap.size ≤ q) s.heap H1 locs1 → LI K s.heap.size M co om H1 nc1 nsl1 → up ≤ H1.size → W p l e room_1 s m args below meth c H1 locs1 nc1 nsl1 Q (F0 m 974 ls [])) : W p l e room_1 s m args below meth c H locs nc nsl Q (F0 m 556 ls []) := by
  obtain ⟨cap, room, ns, wl, nf, wd, kF, nF, yF, WD, FL, FW, TD, hN, hC, hM, hcap, hroom, hnc, hnsl⟩ := hI
  have hbA : ¬ (fun q : Nat => s.heap.size ≤ q) b := Nat.not_le.mpr hbl
  have hns := hN.1.1
  have hns' : ns ≤ 6 := (hN).1.1
  have hge : ns ≤ ns := Nat.le_refl _
  refine lv_aload_n hx hb (pc := 556) dL_law_556 rfl (lv_at hl 2 rfl) ?_
  refine lv_aload_n hx hb (pc := 557) dL_law_557 rfl (lv_at hl 3 rfl) ?_
  refine lv_iload_n hx hb (pc := 558) dL_law_558 rfl (lv_at hl 0 rfl) ?_
  refine lv_iconst (v := nI 1) hx hb (pc := 559) dL_law_559 (by decide) ?_
  refine nv_iadd (a := i) (b := 1) hx hb (pc := 560) dL_law_560 ?_
  refine sc_ld hx hb hX hbl hbA hS hL (i := i + 1) (by omega) (pc := 561) dL_law_561 ?_
  refine lv_aload_n hx hb (pc := 562) dL_law_562 rfl (lv_at hl 3 rfl) ?_
  refine lv_iload_n hx hb (pc := 563) dL_law_563 rfl (lv_at hl 0 rfl) ?_
  refine lv_iconst (v := nI 2) hx hb (pc := 564) dL_law_564 (by decide) ?_
  refine nv_iadd (a := i) (b := 2) hx hb (pc := 565) dL_law_565 ?_
  refine sc_ld hx hb hX hbl hbA hS hL (i := i + 2) (by omega) (pc := 566) dL_law_566 ?_
  obtain ⟨cap', room', hc1, hr1, hc2, hr2, hMet⟩ := u_X9_rounds l K (CA s.heap.size M) (xs (i + 1)) (xs (i + 2)) hN (fun q hq => ⟨Nat.le_trans hS.1 hq, fun h => absurd (h1 q h).2 (by omega)⟩) hC
  have hMet := Met_room (rm' := { frames := rmX9_rounds.frames, cells := 3 * (ns - ns) + (cap' - cap) + (room' - room), slots := 327 * (ns - ns) + 8 * (cap' - cap) + 12 * (room' - room), locals := rmX9_rounds.locals }) hMet (Nat.le_refl _) (Nat.zero_le _) (Nat.zero_le _) (Nat.le_refl _)
  have hk1 : nc + (3 * (ns - ns) + (cap' - cap) + (room' - room)) ≤ 600000 := by omega
  have hk2 : nsl + (327 * (ns - ns) + 8 * (cap' - cap) + 12 * (room' - room)) ≤ 7302250 := by omega
  refine rr_callR (pc := 567) (va_runV (As := [.int (xs (i + 1)), .int (xs (i + 2))]) (rest := []) ⟨hx, hb, hml, hown, hts⟩ hMet (cwV 2 hts gL_law_X9_rounds rfl rfl rfl (by decide +kernel) ⟨Nat.le_of_ble_eq_true rfl, Nat.le_of_ble_eq_true rfl⟩) (rr_preV hKK rfl (CI_recv hKK hC)) rfl rfl hl.1 rfl (lv_room (Nat.le_of_ble_eq_true rfl)) dL_law_567 ⟨hk1, hk2⟩) hS (fun q h => h.1) (fun v H1 locs1 hY hsz hfr hS => ?_)
  obtain ⟨rfl, hC⟩ := hY
  have hM := MI_keep hM hfr MA_CA
  refine lv_aload_n hx hb (pc := 570) dL_law_570 rfl (lv_at hl 1 rfl) ?_
  refine lv_aload_n hx hb (pc := 571) dL_law_571 rfl (lv_at hl 3 rfl) ?_
  refine lv_iload_n hx hb (pc := 572) dL_law_572 rfl (lv_at hl 0 rfl) ?_
  refine lv_iconst (v := nI 1) hx hb (pc := 573) dL_law_573 (by decide) ?_
  refine nv_iadd (a := i) (b := 1) hx hb (pc := 574) dL_law_574 ?_
  refine sc_ld hx hb hX hbl hbA hS hL (i := i + 1) (by omega) (pc := 575) dL_law_575 ?_
  refine lv_aload_n hx hb (pc := 576) dL_law_576 rfl (lv_at hl 3 rfl) ?_
  refine lv_iload_n hx hb (pc := 577) dL_law_577 rfl (lv_at hl 0 rfl) ?_
  refine lv_iconst (v := nI 2) hx hb (pc := 578) dL_law_578 (by decide) ?_
  refine nv_iadd (a := i) (b := 2) hx hb (pc := 579) dL_law_579 ?_
  refine sc_ld hx hb hX hbl hbA hS hL (i := i + 2) (by omega) (pc := 580) dL_law_580 ?_
  refine rr_callR (pc := 581) (va_runV (As := [.int (xs (i + 1)), .int (xs (i + 2))]) (rest := [.int (rndA ns kF nF yF (xs (i + 1)) (xs (i + 2)))]) ⟨hx, hb, hml, hown, hts⟩ (u_X10_rounds l K M (xs (i + 1)) (xs (i + 2)) hN hM) (cwV 2 hts gL_law_X10_rounds rfl rfl rfl (by decide +kernel) ⟨Nat.le_of_ble_eq_true rfl, Nat.le_of_ble_eq_true rfl⟩) (rr_preV hKK rfl (MI_recv hKK hM)) rfl rfl hl.1 rfl (lv_room (Nat.le_of_ble_eq_true rfl)) dL_law_581 ⟨hk1, hk2⟩) hS (fun q h => (h1 q h).1) (fun v H2 locs2 hY hsz2 hfr2 hS => ?_)
  obtain ⟨rfl, hM⟩ := hY
  refine lv_icmp_eq (tgt := 974) hx hb (pc := 584) dL_law_584 (by decide) (fun _ => ?_) (fun h => absurd rfl h)
  exact kk H2 locs2 _ _ hS ⟨cap', room', ns, wl, nf, wd, kF, nF, yF, WD, FL, FW, TD, hN, CI_keep hC hfr2 CA_MA, hM, hc2, hr2, by omega, by omega⟩ (by omega)
theorem lc_growth {p : Program} {l : Launch} {e : Env} {s : State} {m : MethodId} {args : Array Value} {below : List Frame} {meth : Method} {c : Code} {Q : State → Prop} {K : rr_K} {b L : Nat} {xs : Nat → Int32} {M : Nat → Prop} {up co om i : Nat} {H : Heap} {locs : List Loc} {nc nsl : Nat} {ls : Array Slot} (hx : p.tables.exec = Jvm.exec) (hb : c.code = cL_law) (hml : c.maxLocals = 4) (hown : s.vm.findClass RL = some m.cls) (hts : ∀ w ∈ wsL_law, w.before args s = true) (hKK : KK K s) (hX : va_X b L xs s s.heap) (hbl : b < s.heap.size) (hL : L ≤ 3072) (h6 : i + 6 ≤ L) (h1 : ∀ q, M q → s.heap.size ≤ q ∧ q < up) (h3 : up ≤ H.size) (hS : va_S (fun q : Nat => s.heap.size ≤ q) s.heap H locs) (hI : LI K s.heap.size M co om H nc nsl) (hl : lv_has ls 4 [(3, .int (nI i)), (2, .ref om), (1, .ref co), (0, .ref b)]) (kk : ∀ (H1 : Heap) (locs1 : List Loc) (nc1 nsl1 : Nat), va_S (fun q : Nat => s.heap.size ≤ q) s.heap H1 locs1 → LI K s.heap.size M co om H1 nc1 nsl1 → up ≤ H1.size → W p l e room_1 s m args below meth c H1 locs1 nc1 nsl1 Q (F0 m 974 ls [])) : W p l e room_1 s m args below meth c H locs nc nsl Q (F0 m 589 ls []) := by
  obtain ⟨cap, room, ns, wl, nf, wd, kF, nF, yF, WD, FL, FW, TD, hN, hC, hM, hcap, hroom, hnc, hnsl⟩ := hI
  have hbA : ¬ (fun q : Nat => s.heap.size ≤ q) b := Nat.not_le.mpr hbl
  have hns := hN.1.1
  have hns' : ns ≤ 6 := (hN).1.1
  have hge : ns ≤ ns := Nat.le_refl _
  refine lv_aload_n hx hb (pc := 589) dL_law_589 rfl (lv_at hl 2 rfl) ?_
  refine lv_aload_n hx hb (pc := 590) dL_law_590 rfl (lv_at hl 3 rfl) ?_
  refine lv_iload_n hx hb (pc := 591) dL_law_591 rfl (lv_at hl 0 rfl) ?_
  refine lv_iconst (v := nI 1) hx hb (pc := 592) dL_law_592 (by decide) ?_
  refine nv_iadd (a := i) (b := 1) hx hb (pc := 593) dL_law_593 ?_
  refine sc_ld hx hb hX hbl hbA hS hL (i := i + 1) (by omega) (pc := 594) dL_law_594 ?_
  refine lv_aload_n hx hb (pc := 595) dL_law_595 rfl (lv_at hl 3 rfl) ?_
  refine lv_iload_n hx hb (pc := 596) dL_law_596 rfl (lv_at hl 0 rfl) ?_
  refine lv_iconst (v := nI 2) hx hb (pc := 597) dL_law_597 (by decide) ?_
  refine nv_iadd (a := i) (b := 2) hx hb (pc := 598) dL_law_598 ?_
  refine sc_ld hx hb hX hbl hbA hS hL (i := i + 2) (by omega) (pc := 599) dL_law_599 ?_
  refine lv_aload_n hx hb (pc := 600) dL_law_600 rfl (lv_at hl 3 rfl) ?_
  refine lv_iload_n hx hb (pc := 601) dL_law_601 rfl (lv_at hl 0 rfl) ?_
  refine lv_iconst (v := nI 3) hx hb (pc := 602) dL_law_602 (by decide) ?_
  refine nv_iadd (a := i) (b := 3) hx hb (pc := 603) dL_law_603 ?_
  refine sc_ld hx hb hX hbl hbA hS hL (i := i + 3) (by omega) (pc := 604) dL_law_604 ?_
  obtain ⟨cap', room', hc1, hr1, hc2, hr2, hMet⟩ := u_X9_growth l K (CA s.heap.size M) (xs (i + 1)) (xs (i + 2)) (xs (i + 3)) hN (fun q hq => ⟨Nat.le_trans hS.1 hq, fun h => absurd (h1 q h).2 (by omega)⟩) hC
  have hMet := Met_room (rm' := { frames := rmX9_growth.frames, cells := 3 * (ns - ns) + (cap' - cap) + (room' - room), slots := 327 * (ns - ns) + 8 * (cap' - cap) + 12 * (room' - room), locals := rmX9_growth.locals }) hMet (Nat.le_refl _) (Nat.zero_le _) (Nat.zero_le _) (Nat.le_refl _)
  have hk1 : nc + (3 * (ns - ns) + (cap' - cap) + (room' - room)) ≤ 600000 := by omega
  have hk2 : nsl + (327 * (ns - ns) + 8 * (cap' - cap) + 12 * (room' - room)) ≤ 7302250 := by omega
  refine rr_callR (pc := 605) (va_runV (As := [.int (xs (i + 1)), .int (xs (i + 2)), .int (xs (i + 3))]) (rest := []) ⟨hx, hb, hml, hown, hts⟩ hMet (cwV 3 hts gL_law_X9_growth rfl rfl rfl (by decide +kernel) ⟨Nat.le_of_ble_eq_true rfl, Nat.le_of_ble_eq_true rfl⟩) (rr_preV hKK rfl (CI_recv hKK hC)) rfl rfl hl.1 rfl (lv_room (Nat.le_of_ble_eq_true rfl)) dL_law_605 ⟨hk1, hk2⟩) hS (fun q h => h.1) (fun v H1 locs1 hY hsz hfr hS => ?_)
  obtain ⟨rfl, hC⟩ := hY
  have hM := MI_keep hM hfr MA_CA
  refine lv_aload_n hx hb (pc := 608) dL_law_608 rfl (lv_at hl 1 rfl) ?_
  refine lv_aload_n hx hb (pc := 609) dL_law_609 rfl (lv_at hl 3 rfl) ?_
  refine lv_iload_n hx hb (pc := 610) dL_law_610 rfl (lv_at hl 0 rfl) ?_
  refine lv_iconst (v := nI 1) hx hb (pc := 611) dL_law_611 (by decide) ?_
  refine nv_iadd (a := i) (b := 1) hx hb (pc := 612) dL_law_612 ?_
  refine sc_ld hx hb hX hbl hbA hS hL (i := i + 1) (by omega) (pc := 613) dL_law_613 ?_
  refine lv_aload_n hx hb (pc := 614) dL_law_614 rfl (lv_at hl 3 rfl) ?_
  refine lv_iload_n hx hb (pc := 615) dL_law_615 rfl (lv_at hl 0 rfl) ?_
  refine lv_iconst (v := nI 2) hx hb (pc := 616) dL_law_616 (by decide) ?_
  refine nv_iadd (a := i) (b := 2) hx hb (pc := 617) dL_law_617 ?_
  refine sc_ld hx hb hX hbl hbA hS hL (i := i + 2) (by omega) (pc := 618) dL_law_618 ?_
  refine lv_aload_n hx hb (pc := 619) dL_law_619 rfl (lv_at hl 3 rfl) ?_
  refine lv_iload_n hx hb (pc := 620) dL_law_620 rfl (lv_at hl 0 rfl) ?_
  refine lv_iconst (v := nI 3) hx hb (pc := 621) dL_law_621 (by decide) ?_
  refine nv_iadd (a := i) (b := 3) hx hb (pc := 622) dL_law_622 ?_
  refine sc_ld hx hb hX hbl hbA hS hL (i := i + 3) (by omega) (pc := 623) dL_law_623 ?_
  refine rr_callR (pc := 624) (va_runV (As := [.int (xs (i + 1)), .int (xs (i + 2)), .int (xs (i + 3))]) (rest := [.long (groA ns kF nF yF (xs (i + 1)) (xs (i + 2)) (xs (i + 3)))]) ⟨hx, hb, hml, hown, hts⟩ (u_X10_growth l K M (xs (i + 1)) (xs (i + 2)) (xs (i + 3)) hN hM) (cwV 3 hts gL_law_X10_growth rfl rfl rfl (by decide +kernel) ⟨Nat.le_of_ble_eq_true rfl, Nat.le_of_ble_eq_true rfl⟩) (rr_preV hKK rfl (MI_recv hKK hM)) rfl rfl hl.1 rfl (lv_room (Nat.le_of_ble_eq_true rfl)) dL_law_624 ⟨hk1, hk2⟩) hS (fun q h => (h1 q h).1) (fun v H2 locs2 hY hsz2 hfr2 hS => ?_)
  obtain ⟨rfl, hM⟩ := hY
  refine rr_lcmp_eq (tgt := 974) hx hb (pc := 627) dL_law_627 dL_law_628 (by decide) (fun _ => ?_) (fun h => absurd rfl h)
  exact kk H2 locs2 _ _ hS ⟨cap', room', ns, wl, nf, wd, kF, nF, yF, WD, FL, FW, TD, hN, CI_keep hC hfr2 CA_MA, hM, hc2, hr2, by omega, by omega⟩ (by omega)
theorem lc_same {p : Program} {l : Launch} {e : Env} {s : State} {m : MethodId} {args : Array Value} {below : List Frame} {meth : Method} {c : Code} {Q : State → Prop} {K : rr_K} {b L : Nat} {xs : Nat → Int32} {M : Nat → Prop} {up co om i : Nat} {H : Heap} {locs : List Loc} {nc nsl : Nat} {ls : Array Slot} (hx : p.tables.exec = Jvm.exec) (hb : c.code = cL_law) (hml : c.maxLocals = 4) (hown : s.vm.findClass RL = some m.cls) (hts : ∀ w ∈ wsL_law, w.before args s = true) (hKK : KK K s) (hX : va_X b L xs s s.heap) (hbl : b < s.heap.size) (hL : L ≤ 3072) (h6 : i + 6 ≤ L) (h1 : ∀ q, M q → s.heap.size ≤ q ∧ q < up) (h3 : up ≤ H.size) (hS : va_S (fun q : Nat => s.heap.size ≤ q) s.heap H locs) (hI : LI K s.heap.size M co om H nc nsl) (hl : lv_has ls 4 [(3, .int (nI i)), (2, .ref om), (1, .ref co), (0, .ref b)]) (kk : ∀ (H1 : Heap) (locs1 : List Loc) (nc1 nsl1 : Nat), va_S (fun q : Nat => s.heap.size ≤ q) s.heap H1 locs1 → LI K s.heap.size M co om H1 nc1 nsl1 → up ≤ H1.size → W p l e room_1 s m args below meth c H1 locs1 nc1 nsl1 Q (F0 m 974 ls [])) : W p l e room_1 s m args below meth c H locs nc nsl Q (F0 m 633 ls []) := by
  obtain ⟨cap, room, ns, wl, nf, wd, kF, nF, yF, WD, FL, FW, TD, hN, hC, hM, hcap, hroom, hnc, hnsl⟩ := hI
  have hbA : ¬ (fun q : Nat => s.heap.size ≤ q) b := Nat.not_le.mpr hbl
  have hns := hN.1.1
  have hns' : ns ≤ 6 := (N_same (x := (xs (i + 1))) (y := (xs (i + 2))) hN).1.1
  have hge : ns ≤ ns := Nat.le_refl _
  refine lv_aload_n hx hb (pc := 633) dL_law_633 rfl (lv_at hl 2 rfl) ?_
  refine lv_aload_n hx hb (pc := 634) dL_law_634 rfl (lv_at hl 3 rfl) ?_
  refine lv_iload_n hx hb (pc := 635) dL_law_635 rfl (lv_at hl 0 rfl) ?_
  refine lv_iconst (v := nI 1) hx hb (pc := 636) dL_law_636 (by decide) ?_
  refine nv_iadd (a := i) (b := 1) hx hb (pc := 637) dL_law_637 ?_
  refine sc_ld hx hb hX hbl hbA hS hL (i := i + 1) (by omega) (pc := 638) dL_law_638 ?_
  refine lv_aload_n hx hb (pc := 639) dL_law_639 rfl (lv_at hl 3 rfl) ?_
  refine lv_iload_n hx hb (pc := 640) dL_law_640 rfl (lv_at hl 0 rfl) ?_
  refine lv_iconst (v := nI 2) hx hb (pc := 641) dL_law_641 (by decide) ?_
  refine nv_iadd (a := i) (b := 2) hx hb (pc := 642) dL_law_642 ?_
  refine sc_ld hx hb hX hbl hbA hS hL (i := i + 2) (by omega) (pc := 643) dL_law_643 ?_
  obtain ⟨cap', room', hc1, hr1, hc2, hr2, hMet⟩ := u_X9_same l K (CA s.heap.size M) (xs (i + 1)) (xs (i + 2)) hN (fun q hq => ⟨Nat.le_trans hS.1 hq, fun h => absurd (h1 q h).2 (by omega)⟩) hC
  have hk1 : nc + (3 * (ns - ns) + (cap' - cap) + (room' - room)) ≤ 600000 := by omega
  have hk2 : nsl + (327 * (ns - ns) + 8 * (cap' - cap) + 12 * (room' - room)) ≤ 7302250 := by omega
  refine rr_callR (pc := 644) (va_runV (As := [.int (xs (i + 1)), .int (xs (i + 2))]) (rest := []) ⟨hx, hb, hml, hown, hts⟩ hMet (cwV 2 hts gL_law_X9_same rfl rfl rfl (by decide +kernel) ⟨Nat.le_of_ble_eq_true rfl, Nat.le_of_ble_eq_true rfl⟩) (rr_preV hKK rfl (CI_recv hKK hC)) rfl rfl hl.1 rfl (lv_room (Nat.le_of_ble_eq_true rfl)) dL_law_644 ⟨hk1, hk2⟩) hS (fun q h => h.1) (fun v H1 locs1 hY hsz hfr hS => ?_)
  obtain ⟨rfl, hC⟩ := hY
  have hM := MI_keep hM hfr MA_CA
  refine lv_aload_n hx hb (pc := 647) dL_law_647 rfl (lv_at hl 1 rfl) ?_
  refine lv_aload_n hx hb (pc := 648) dL_law_648 rfl (lv_at hl 3 rfl) ?_
  refine lv_iload_n hx hb (pc := 649) dL_law_649 rfl (lv_at hl 0 rfl) ?_
  refine lv_iconst (v := nI 1) hx hb (pc := 650) dL_law_650 (by decide) ?_
  refine nv_iadd (a := i) (b := 1) hx hb (pc := 651) dL_law_651 ?_
  refine sc_ld hx hb hX hbl hbA hS hL (i := i + 1) (by omega) (pc := 652) dL_law_652 ?_
  refine lv_aload_n hx hb (pc := 653) dL_law_653 rfl (lv_at hl 3 rfl) ?_
  refine lv_iload_n hx hb (pc := 654) dL_law_654 rfl (lv_at hl 0 rfl) ?_
  refine lv_iconst (v := nI 2) hx hb (pc := 655) dL_law_655 (by decide) ?_
  refine nv_iadd (a := i) (b := 2) hx hb (pc := 656) dL_law_656 ?_
  refine sc_ld hx hb hX hbl hbA hS hL (i := i + 2) (by omega) (pc := 657) dL_law_657 ?_
  refine rr_callR (pc := 658) (va_runV (As := [.int (xs (i + 1)), .int (xs (i + 2))]) (rest := [.int (samA ns kF nF yF (xs (i + 1)) (xs (i + 2)))]) ⟨hx, hb, hml, hown, hts⟩ (u_X10_same l K M (xs (i + 1)) (xs (i + 2)) hN hM) (cwV 2 hts gL_law_X10_same rfl rfl rfl (by decide +kernel) ⟨Nat.le_of_ble_eq_true rfl, Nat.le_of_ble_eq_true rfl⟩) (rr_preV hKK rfl (MI_recv hKK hM)) rfl rfl hl.1 rfl (lv_room (Nat.le_of_ble_eq_true rfl)) dL_law_658 ⟨hk1, hk2⟩) hS (fun q h => (h1 q h).1) (fun v H2 locs2 hY hsz2 hfr2 hS => ?_)
  obtain ⟨rfl, hM⟩ := hY
  refine lv_icmp_eq (tgt := 974) hx hb (pc := 661) dL_law_661 (by decide) (fun _ => ?_) (fun h => absurd rfl h)
  exact kk H2 locs2 _ _ hS ⟨cap', room', ns, samL ns kF nF yF (xs (i + 1)) (xs (i + 2)) wl, nf, wd, kF, nF, yF, samW ns kF nF yF (xs (i + 1)) (xs (i + 2)) WD, FL, FW, TD, N_same (x := (xs (i + 1))) (y := (xs (i + 2))) hN, CI_keep hC hfr2 CA_MA, hM, hc2, hr2, by omega, by omega⟩ (by omega)
theorem lc_part {p : Program} {l : Launch} {e : Env} {s : State} {m : MethodId} {args : Array Value} {below : List Frame} {meth : Method} {c : Code} {Q : State → Prop} {K : rr_K} {b L : Nat} {xs : Nat → Int32} {M : Nat → Prop} {up co om i : Nat} {H : Heap} {locs : List Loc} {nc nsl : Nat} {ls : Array Slot} (hx : p.tables.exec = Jvm.exec) (hb : c.code = cL_law) (hml : c.maxLocals = 4) (hown : s.vm.findClass RL = some m.cls) (hts : ∀ w ∈ wsL_law, w.before args s = true) (hKK : KK K s) (hX : va_X b L xs s s.heap) (hbl : b < s.heap.size) (hL : L ≤ 3072) (h6 : i + 6 ≤ L) (h1 : ∀ q, M q → s.heap.size ≤ q ∧ q < up) (h3 : up ≤ H.size) (hS : va_S (fun q : Nat => s.heap.size ≤ q) s.heap H locs) (hI : LI K s.heap.size M co om H nc nsl) (hl : lv_has ls 4 [(3, .int (nI i)), (2, .ref om), (1, .ref co), (0, .ref b)]) (kk : ∀ (H1 : Heap) (locs1 : List Loc) (nc1 nsl1 : Nat), va_S (fun q : Nat => s.heap.size ≤ q) s.heap H1 locs1 → LI K s.heap.size M co om H1 nc1 nsl1 → up ≤ H1.size → W p l e room_1 s m args below meth c H1 locs1 nc1 nsl1 Q (F0 m 974 ls [])) : W p l e room_1 s m args below meth c H locs nc nsl Q (F0 m 666 ls []) := by
  obtain ⟨cap, room, ns, wl, nf, wd, kF, nF, yF, WD, FL, FW, TD, hN, hC, hM, hcap, hroom, hnc, hnsl⟩ := hI
  have hbA : ¬ (fun q : Nat => s.heap.size ≤ q) b := Nat.not_le.mpr hbl
  have hns := hN.1.1
  have hns' : ns ≤ 6 := (hN).1.1
  have hge : ns ≤ ns := Nat.le_refl _
  refine lv_aload_n hx hb (pc := 666) dL_law_666 rfl (lv_at hl 2 rfl) ?_
  refine lv_aload_n hx hb (pc := 667) dL_law_667 rfl (lv_at hl 3 rfl) ?_
  refine lv_iload_n hx hb (pc := 668) dL_law_668 rfl (lv_at hl 0 rfl) ?_
  refine lv_iconst (v := nI 1) hx hb (pc := 669) dL_law_669 (by decide) ?_
  refine nv_iadd (a := i) (b := 1) hx hb (pc := 670) dL_law_670 ?_
  refine sc_ld hx hb hX hbl hbA hS hL (i := i + 1) (by omega) (pc := 671) dL_law_671 ?_
  refine lv_aload_n hx hb (pc := 672) dL_law_672 rfl (lv_at hl 3 rfl) ?_
  refine lv_iload_n hx hb (pc := 673) dL_law_673 rfl (lv_at hl 0 rfl) ?_
  refine lv_iconst (v := nI 2) hx hb (pc := 674) dL_law_674 (by decide) ?_
  refine nv_iadd (a := i) (b := 2) hx hb (pc := 675) dL_law_675 ?_
  refine sc_ld hx hb hX hbl hbA hS hL (i := i + 2) (by omega) (pc := 676) dL_law_676 ?_
  obtain ⟨cap', room', hc1, hr1, hc2, hr2, hMet⟩ := u_X9_part l K (CA s.heap.size M) (xs (i + 1)) (xs (i + 2)) hN (fun q hq => ⟨Nat.le_trans hS.1 hq, fun h => absurd (h1 q h).2 (by omega)⟩) hC
  have hMet := Met_room (rm' := { frames := rmX9_part.frames, cells := 3 * (ns - ns) + (cap' - cap) + (room' - room), slots := 327 * (ns - ns) + 8 * (cap' - cap) + 12 * (room' - room), locals := rmX9_part.locals }) hMet (Nat.le_refl _) (Nat.zero_le _) (Nat.zero_le _) (Nat.le_refl _)
  have hk1 : nc + (3 * (ns - ns) + (cap' - cap) + (room' - room)) ≤ 600000 := by omega
  have hk2 : nsl + (327 * (ns - ns) + 8 * (cap' - cap) + 12 * (room' - room)) ≤ 7302250 := by omega
  refine rr_callR (pc := 677) (va_runV (As := [.int (xs (i + 1)), .int (xs (i + 2))]) (rest := []) ⟨hx, hb, hml, hown, hts⟩ hMet (cwV 2 hts gL_law_X9_part rfl rfl rfl (by decide +kernel) ⟨Nat.le_of_ble_eq_true rfl, Nat.le_of_ble_eq_true rfl⟩) (rr_preV hKK rfl (CI_recv hKK hC)) rfl rfl hl.1 rfl (lv_room (Nat.le_of_ble_eq_true rfl)) dL_law_677 ⟨hk1, hk2⟩) hS (fun q h => h.1) (fun v H1 locs1 hY hsz hfr hS => ?_)
  obtain ⟨rfl, hC⟩ := hY
  have hM := MI_keep hM hfr MA_CA
  refine lv_aload_n hx hb (pc := 680) dL_law_680 rfl (lv_at hl 1 rfl) ?_
  refine lv_aload_n hx hb (pc := 681) dL_law_681 rfl (lv_at hl 3 rfl) ?_
  refine lv_iload_n hx hb (pc := 682) dL_law_682 rfl (lv_at hl 0 rfl) ?_
  refine lv_iconst (v := nI 1) hx hb (pc := 683) dL_law_683 (by decide) ?_
  refine nv_iadd (a := i) (b := 1) hx hb (pc := 684) dL_law_684 ?_
  refine sc_ld hx hb hX hbl hbA hS hL (i := i + 1) (by omega) (pc := 685) dL_law_685 ?_
  refine lv_aload_n hx hb (pc := 686) dL_law_686 rfl (lv_at hl 3 rfl) ?_
  refine lv_iload_n hx hb (pc := 687) dL_law_687 rfl (lv_at hl 0 rfl) ?_
  refine lv_iconst (v := nI 2) hx hb (pc := 688) dL_law_688 (by decide) ?_
  refine nv_iadd (a := i) (b := 2) hx hb (pc := 689) dL_law_689 ?_
  refine sc_ld hx hb hX hbl hbA hS hL (i := i + 2) (by omega) (pc := 690) dL_law_690 ?_
  refine rr_callR (pc := 691) (va_runV (As := [.int (xs (i + 1)), .int (xs (i + 2))]) (rest := [.int (parA ns kF nF yF (xs (i + 1)) (xs (i + 2)))]) ⟨hx, hb, hml, hown, hts⟩ (u_X10_part l K M (xs (i + 1)) (xs (i + 2)) hN hM) (cwV 2 hts gL_law_X10_part rfl rfl rfl (by decide +kernel) ⟨Nat.le_of_ble_eq_true rfl, Nat.le_of_ble_eq_true rfl⟩) (rr_preV hKK rfl (MI_recv hKK hM)) rfl rfl hl.1 rfl (lv_room (Nat.le_of_ble_eq_true rfl)) dL_law_691 ⟨hk1, hk2⟩) hS (fun q h => (h1 q h).1) (fun v H2 locs2 hY hsz2 hfr2 hS => ?_)
  obtain ⟨rfl, hM⟩ := hY
  refine lv_icmp_eq (tgt := 974) hx hb (pc := 694) dL_law_694 (by decide) (fun _ => ?_) (fun h => absurd rfl h)
  exact kk H2 locs2 _ _ hS ⟨cap', room', ns, wl, nf, wd, kF, nF, yF, WD, FL, FW, TD, hN, CI_keep hC hfr2 CA_MA, hM, hc2, hr2, by omega, by omega⟩ (by omega)
theorem lc_pace {p : Program} {l : Launch} {e : Env} {s : State} {m : MethodId} {args : Array Value} {below : List Frame} {meth : Method} {c : Code} {Q : State → Prop} {K : rr_K} {b L : Nat} {xs : Nat → Int32} {M : Nat → Prop} {up co om i : Nat} {H : Heap} {locs : List Loc} {nc nsl : Nat} {ls : Array Slot} (hx : p.tables.exec = Jvm.exec) (hb : c.code = cL_law) (hml : c.maxLocals = 4) (hown : s.vm.findClass RL = some m.cls) (hts : ∀ w ∈ wsL_law, w.before args s = true) (hKK : KK K s) (hX : va_X b L xs s s.heap) (hbl : b < s.heap.size) (hL : L ≤ 3072) (h6 : i + 6 ≤ L) (h1 : ∀ q, M q → s.heap.size ≤ q ∧ q < up) (h3 : up ≤ H.size) (hS : va_S (fun q : Nat => s.heap.size ≤ q) s.heap H locs) (hI : LI K s.heap.size M co om H nc nsl) (hl : lv_has ls 4 [(3, .int (nI i)), (2, .ref om), (1, .ref co), (0, .ref b)]) (kk : ∀ (H1 : Heap) (locs1 : List Loc) (nc1 nsl1 : Nat), va_S (fun q : Nat => s.heap.size ≤ q) s.heap H1 locs1 → LI K s.heap.size M co om H1 nc1 nsl1 → up ≤ H1.size → W p l e room_1 s m args below meth c H1 locs1 nc1 nsl1 Q (F0 m 974 ls [])) : W p l e room_1 s m args below meth c H locs nc nsl Q (F0 m 699 ls []) := by
  obtain ⟨cap, room, ns, wl, nf, wd, kF, nF, yF, WD, FL, FW, TD, hN, hC, hM, hcap, hroom, hnc, hnsl⟩ := hI
  have hbA : ¬ (fun q : Nat => s.heap.size ≤ q) b := Nat.not_le.mpr hbl
  have hns := hN.1.1
  have hns' : ns ≤ 6 := (hN).1.1
  have hge : ns ≤ ns := Nat.le_refl _
  refine lv_aload_n hx hb (pc := 699) dL_law_699 rfl (lv_at hl 2 rfl) ?_
  refine lv_aload_n hx hb (pc := 700) dL_law_700 rfl (lv_at hl 3 rfl) ?_
  refine lv_iload_n hx hb (pc := 701) dL_law_701 rfl (lv_at hl 0 rfl) ?_
  refine lv_iconst (v := nI 1) hx hb (pc := 702) dL_law_702 (by decide) ?_
  refine nv_iadd (a := i) (b := 1) hx hb (pc := 703) dL_law_703 ?_
  refine sc_ld hx hb hX hbl hbA hS hL (i := i + 1) (by omega) (pc := 704) dL_law_704 ?_
  refine lv_aload_n hx hb (pc := 705) dL_law_705 rfl (lv_at hl 3 rfl) ?_
  refine lv_iload_n hx hb (pc := 706) dL_law_706 rfl (lv_at hl 0 rfl) ?_
  refine lv_iconst (v := nI 2) hx hb (pc := 707) dL_law_707 (by decide) ?_
  refine nv_iadd (a := i) (b := 2) hx hb (pc := 708) dL_law_708 ?_
  refine sc_ld hx hb hX hbl hbA hS hL (i := i + 2) (by omega) (pc := 709) dL_law_709 ?_
  obtain ⟨cap', room', hc1, hr1, hc2, hr2, hMet⟩ := u_X9_pace l K (CA s.heap.size M) (xs (i + 1)) (xs (i + 2)) hN (fun q hq => ⟨Nat.le_trans hS.1 hq, fun h => absurd (h1 q h).2 (by omega)⟩) hC
  have hMet := Met_room (rm' := { frames := rmX9_pace.frames, cells := 3 * (ns - ns) + (cap' - cap) + (room' - room), slots := 327 * (ns - ns) + 8 * (cap' - cap) + 12 * (room' - room), locals := rmX9_pace.locals }) hMet (Nat.le_refl _) (Nat.zero_le _) (Nat.zero_le _) (Nat.le_refl _)
  have hk1 : nc + (3 * (ns - ns) + (cap' - cap) + (room' - room)) ≤ 600000 := by omega
  have hk2 : nsl + (327 * (ns - ns) + 8 * (cap' - cap) + 12 * (room' - room)) ≤ 7302250 := by omega
  refine rr_callR (pc := 710) (va_runV (As := [.int (xs (i + 1)), .int (xs (i + 2))]) (rest := []) ⟨hx, hb, hml, hown, hts⟩ hMet (cwV 2 hts gL_law_X9_pace rfl rfl rfl (by decide +kernel) ⟨Nat.le_of_ble_eq_true rfl, Nat.le_of_ble_eq_true rfl⟩) (rr_preV hKK rfl (CI_recv hKK hC)) rfl rfl hl.1 rfl (lv_room (Nat.le_of_ble_eq_true rfl)) dL_law_710 ⟨hk1, hk2⟩) hS (fun q h => h.1) (fun v H1 locs1 hY hsz hfr hS => ?_)
  obtain ⟨rfl, hC⟩ := hY
  have hM := MI_keep hM hfr MA_CA
  refine lv_aload_n hx hb (pc := 713) dL_law_713 rfl (lv_at hl 1 rfl) ?_
  refine lv_aload_n hx hb (pc := 714) dL_law_714 rfl (lv_at hl 3 rfl) ?_
  refine lv_iload_n hx hb (pc := 715) dL_law_715 rfl (lv_at hl 0 rfl) ?_
  refine lv_iconst (v := nI 1) hx hb (pc := 716) dL_law_716 (by decide) ?_
  refine nv_iadd (a := i) (b := 1) hx hb (pc := 717) dL_law_717 ?_
  refine sc_ld hx hb hX hbl hbA hS hL (i := i + 1) (by omega) (pc := 718) dL_law_718 ?_
  refine lv_aload_n hx hb (pc := 719) dL_law_719 rfl (lv_at hl 3 rfl) ?_
  refine lv_iload_n hx hb (pc := 720) dL_law_720 rfl (lv_at hl 0 rfl) ?_
  refine lv_iconst (v := nI 2) hx hb (pc := 721) dL_law_721 (by decide) ?_
  refine nv_iadd (a := i) (b := 2) hx hb (pc := 722) dL_law_722 ?_
  refine sc_ld hx hb hX hbl hbA hS hL (i := i + 2) (by omega) (pc := 723) dL_law_723 ?_
  refine rr_callR (pc := 724) (va_runV (As := [.int (xs (i + 1)), .int (xs (i + 2))]) (rest := [.int (pacA ns kF nF yF (xs (i + 1)) (xs (i + 2)))]) ⟨hx, hb, hml, hown, hts⟩ (u_X10_pace l K M (xs (i + 1)) (xs (i + 2)) hN hM) (cwV 2 hts gL_law_X10_pace rfl rfl rfl (by decide +kernel) ⟨Nat.le_of_ble_eq_true rfl, Nat.le_of_ble_eq_true rfl⟩) (rr_preV hKK rfl (MI_recv hKK hM)) rfl rfl hl.1 rfl (lv_room (Nat.le_of_ble_eq_true rfl)) dL_law_724 ⟨hk1, hk2⟩) hS (fun q h => (h1 q h).1) (fun v H2 locs2 hY hsz2 hfr2 hS => ?_)
  obtain ⟨rfl, hM⟩ := hY
  refine lv_icmp_eq (tgt := 974) hx hb (pc := 727) dL_law_727 (by decide) (fun _ => ?_) (fun h => absurd rfl h)
  exact kk H2 locs2 _ _ hS ⟨cap', room', ns, wl, nf, wd, kF, nF, yF, WD, FL, FW, TD, hN, CI_keep hC hfr2 CA_MA, hM, hc2, hr2, by omega, by omega⟩ (by omega)
theorem lc_window {p : Program} {l : Launch} {e : Env} {s : State} {m : MethodId} {args : Array Value} {below : List Frame} {meth : Method} {c : Code} {Q : State → Prop} {K : rr_K} {b L : Nat} {xs : Nat → Int32} {M : Nat → Prop} {up co om i : Nat} {H : Heap} {locs : List Loc} {nc nsl : Nat} {ls : Array Slot} (hx : p.tables.exec = Jvm.exec) (hb : c.code = cL_law) (hml : c.maxLocals = 4) (hown : s.vm.findClass RL = some m.cls) (hts : ∀ w ∈ wsL_law, w.before args s = true) (hKK : KK K s) (hX : va_X b L xs s s.heap) (hbl : b < s.heap.size) (hL : L ≤ 3072) (h6 : i + 6 ≤ L) (h1 : ∀ q, M q → s.heap.size ≤ q ∧ q < up) (h3 : up ≤ H.size) (hS : va_S (fun q : Nat => s.heap.size ≤ q) s.heap H locs) (hI : LI K s.heap.size M co om H nc nsl) (hl : lv_has ls 4 [(3, .int (nI i)), (2, .ref om), (1, .ref co), (0, .ref b)]) (kk : ∀ (H1 : Heap) (locs1 : List Loc) (nc1 nsl1 : Nat), va_S (fun q : Nat => s.heap.size ≤ q) s.heap H1 locs1 → LI K s.heap.size M co om H1 nc1 nsl1 → up ≤ H1.size → W p l e room_1 s m args below meth c H1 locs1 nc1 nsl1 Q (F0 m 974 ls [])) : W p l e room_1 s m args below meth c H locs nc nsl Q (F0 m 732 ls []) := by
  obtain ⟨cap, room, ns, wl, nf, wd, kF, nF, yF, WD, FL, FW, TD, hN, hC, hM, hcap, hroom, hnc, hnsl⟩ := hI
  have hbA : ¬ (fun q : Nat => s.heap.size ≤ q) b := Nat.not_le.mpr hbl
  have hns := hN.1.1
  have hns' : ns ≤ 6 := (N_window (x := (xs (i + 1))) hN).1.1
  have hge : ns ≤ ns := Nat.le_refl _
  refine lv_aload_n hx hb (pc := 732) dL_law_732 rfl (lv_at hl 2 rfl) ?_
  refine lv_aload_n hx hb (pc := 733) dL_law_733 rfl (lv_at hl 3 rfl) ?_
  refine lv_iload_n hx hb (pc := 734) dL_law_734 rfl (lv_at hl 0 rfl) ?_
  refine lv_iconst (v := nI 1) hx hb (pc := 735) dL_law_735 (by decide) ?_
  refine nv_iadd (a := i) (b := 1) hx hb (pc := 736) dL_law_736 ?_
  refine sc_ld hx hb hX hbl hbA hS hL (i := i + 1) (by omega) (pc := 737) dL_law_737 ?_
  obtain ⟨cap', room', hc1, hr1, hc2, hr2, hMet⟩ := u_X9_window l K (CA s.heap.size M) (xs (i + 1)) hN (fun q hq => ⟨Nat.le_trans hS.1 hq, fun h => absurd (h1 q h).2 (by omega)⟩) hC
  have hMet := Met_room (rm' := { frames := rmX9_window.frames, cells := 3 * (ns - ns) + (cap' - cap) + (room' - room), slots := 327 * (ns - ns) + 8 * (cap' - cap) + 12 * (room' - room), locals := rmX9_window.locals }) hMet (Nat.le_refl _) (Nat.zero_le _) (Nat.zero_le _) (Nat.le_refl _)
  have hk1 : nc + (3 * (ns - ns) + (cap' - cap) + (room' - room)) ≤ 600000 := by omega
  have hk2 : nsl + (327 * (ns - ns) + 8 * (cap' - cap) + 12 * (room' - room)) ≤ 7302250 := by omega
  refine rr_callR (pc := 738) (va_runV (As := [.int (xs (i + 1))]) (rest := []) ⟨hx, hb, hml, hown, hts⟩ hMet (cwV 1 hts gL_law_X9_window rfl rfl rfl (by decide +kernel) ⟨Nat.le_of_ble_eq_true rfl, Nat.le_of_ble_eq_true rfl⟩) (rr_preV hKK rfl (CI_recv hKK hC)) rfl rfl hl.1 rfl (lv_room (Nat.le_of_ble_eq_true rfl)) dL_law_738 ⟨hk1, hk2⟩) hS (fun q h => h.1) (fun v H1 locs1 hY hsz hfr hS => ?_)
  obtain ⟨rfl, hC⟩ := hY
  have hM := MI_keep hM hfr MA_CA
  refine lv_aload_n hx hb (pc := 741) dL_law_741 rfl (lv_at hl 1 rfl) ?_
  refine lv_aload_n hx hb (pc := 742) dL_law_742 rfl (lv_at hl 3 rfl) ?_
  refine lv_iload_n hx hb (pc := 743) dL_law_743 rfl (lv_at hl 0 rfl) ?_
  refine lv_iconst (v := nI 1) hx hb (pc := 744) dL_law_744 (by decide) ?_
  refine nv_iadd (a := i) (b := 1) hx hb (pc := 745) dL_law_745 ?_
  refine sc_ld hx hb hX hbl hbA hS hL (i := i + 1) (by omega) (pc := 746) dL_law_746 ?_
  refine rr_callR (pc := 747) (va_runV (As := [.int (xs (i + 1))]) (rest := [.int (winA (xs (i + 1)))]) ⟨hx, hb, hml, hown, hts⟩ (u_X10_window l K M (xs (i + 1)) hN hM) (cwV 1 hts gL_law_X10_window rfl rfl rfl (by decide +kernel) ⟨Nat.le_of_ble_eq_true rfl, Nat.le_of_ble_eq_true rfl⟩) (rr_preV hKK rfl (MI_recv hKK hM)) rfl rfl hl.1 rfl (lv_room (Nat.le_of_ble_eq_true rfl)) dL_law_747 ⟨hk1, hk2⟩) hS (fun q h => (h1 q h).1) (fun v H2 locs2 hY hsz2 hfr2 hS => ?_)
  obtain ⟨rfl, hM⟩ := hY
  refine lv_icmp_eq (tgt := 974) hx hb (pc := 750) dL_law_750 (by decide) (fun _ => ?_) (fun h => absurd rfl h)
  exact kk H2 locs2 _ _ hS ⟨cap', room', ns, wl, nf, cond (rrin (xs (i + 1)) (nI 1) (nI 3)) (cN (xs (i + 1))) wd, kF, nF, yF, WD, FL, FW, cond (rrin (xs (i + 1)) (nI 1) (nI 3)) (putZ TD (fun _ => 0) 64) TD, N_window (x := (xs (i + 1))) hN, CI_keep hC hfr2 CA_MA, hM, hc2, hr2, by omega, by omega⟩ (by omega)
theorem lc_tells {p : Program} {l : Launch} {e : Env} {s : State} {m : MethodId} {args : Array Value} {below : List Frame} {meth : Method} {c : Code} {Q : State → Prop} {K : rr_K} {b L : Nat} {xs : Nat → Int32} {M : Nat → Prop} {up co om i : Nat} {H : Heap} {locs : List Loc} {nc nsl : Nat} {ls : Array Slot} (hx : p.tables.exec = Jvm.exec) (hb : c.code = cL_law) (hml : c.maxLocals = 4) (hown : s.vm.findClass RL = some m.cls) (hts : ∀ w ∈ wsL_law, w.before args s = true) (hKK : KK K s) (hX : va_X b L xs s s.heap) (hbl : b < s.heap.size) (hL : L ≤ 3072) (h6 : i + 6 ≤ L) (h1 : ∀ q, M q → s.heap.size ≤ q ∧ q < up) (h3 : up ≤ H.size) (hS : va_S (fun q : Nat => s.heap.size ≤ q) s.heap H locs) (hI : LI K s.heap.size M co om H nc nsl) (hl : lv_has ls 4 [(3, .int (nI i)), (2, .ref om), (1, .ref co), (0, .ref b)]) (kk : ∀ (H1 : Heap) (locs1 : List Loc) (nc1 nsl1 : Nat), va_S (fun q : Nat => s.heap.size ≤ q) s.heap H1 locs1 → LI K s.heap.size M co om H1 nc1 nsl1 → up ≤ H1.size → W p l e room_1 s m args below meth c H1 locs1 nc1 nsl1 Q (F0 m 974 ls [])) : W p l e room_1 s m args below meth c H locs nc nsl Q (F0 m 755 ls []) := by
  obtain ⟨cap, room, ns, wl, nf, wd, kF, nF, yF, WD, FL, FW, TD, hN, hC, hM, hcap, hroom, hnc, hnsl⟩ := hI
  have hbA : ¬ (fun q : Nat => s.heap.size ≤ q) b := Nat.not_le.mpr hbl
  have hns := hN.1.1
  have hns' : ns ≤ 6 := (N_tells (x := (xs (i + 1))) (y := (xs (i + 2))) hN).1.1
  have hge : ns ≤ ns := Nat.le_refl _
  refine lv_aload_n hx hb (pc := 755) dL_law_755 rfl (lv_at hl 2 rfl) ?_
  refine lv_aload_n hx hb (pc := 756) dL_law_756 rfl (lv_at hl 3 rfl) ?_
  refine lv_iload_n hx hb (pc := 757) dL_law_757 rfl (lv_at hl 0 rfl) ?_
  refine lv_iconst (v := nI 1) hx hb (pc := 758) dL_law_758 (by decide) ?_
  refine nv_iadd (a := i) (b := 1) hx hb (pc := 759) dL_law_759 ?_
  refine sc_ld hx hb hX hbl hbA hS hL (i := i + 1) (by omega) (pc := 760) dL_law_760 ?_
  refine lv_aload_n hx hb (pc := 761) dL_law_761 rfl (lv_at hl 3 rfl) ?_
  refine lv_iload_n hx hb (pc := 762) dL_law_762 rfl (lv_at hl 0 rfl) ?_
  refine lv_iconst (v := nI 2) hx hb (pc := 763) dL_law_763 (by decide) ?_
  refine nv_iadd (a := i) (b := 2) hx hb (pc := 764) dL_law_764 ?_
  refine sc_ld hx hb hX hbl hbA hS hL (i := i + 2) (by omega) (pc := 765) dL_law_765 ?_
  obtain ⟨cap', room', hc1, hr1, hc2, hr2, hMet⟩ := u_X9_tells l K (CA s.heap.size M) (xs (i + 1)) (xs (i + 2)) hN (fun q hq => ⟨Nat.le_trans hS.1 hq, fun h => absurd (h1 q h).2 (by omega)⟩) hC
  have hMet := Met_room (rm' := { frames := rmX9_tells.frames, cells := 3 * (ns - ns) + (cap' - cap) + (room' - room), slots := 327 * (ns - ns) + 8 * (cap' - cap) + 12 * (room' - room), locals := rmX9_tells.locals }) hMet (Nat.le_refl _) (Nat.zero_le _) (Nat.zero_le _) (Nat.le_refl _)
  have hk1 : nc + (3 * (ns - ns) + (cap' - cap) + (room' - room)) ≤ 600000 := by omega
  have hk2 : nsl + (327 * (ns - ns) + 8 * (cap' - cap) + 12 * (room' - room)) ≤ 7302250 := by omega
  refine rr_callR (pc := 766) (va_runV (As := [.int (xs (i + 1)), .int (xs (i + 2))]) (rest := []) ⟨hx, hb, hml, hown, hts⟩ hMet (cwV 2 hts gL_law_X9_tells rfl rfl rfl (by decide +kernel) ⟨Nat.le_of_ble_eq_true rfl, Nat.le_of_ble_eq_true rfl⟩) (rr_preV hKK rfl (CI_recv hKK hC)) rfl rfl hl.1 rfl (lv_room (Nat.le_of_ble_eq_true rfl)) dL_law_766 ⟨hk1, hk2⟩) hS (fun q h => h.1) (fun v H1 locs1 hY hsz hfr hS => ?_)
  obtain ⟨rfl, hC⟩ := hY
  have hM := MI_keep hM hfr MA_CA
  refine lv_aload_n hx hb (pc := 769) dL_law_769 rfl (lv_at hl 1 rfl) ?_
  refine lv_aload_n hx hb (pc := 770) dL_law_770 rfl (lv_at hl 3 rfl) ?_
  refine lv_iload_n hx hb (pc := 771) dL_law_771 rfl (lv_at hl 0 rfl) ?_
  refine lv_iconst (v := nI 1) hx hb (pc := 772) dL_law_772 (by decide) ?_
  refine nv_iadd (a := i) (b := 1) hx hb (pc := 773) dL_law_773 ?_
  refine sc_ld hx hb hX hbl hbA hS hL (i := i + 1) (by omega) (pc := 774) dL_law_774 ?_
  refine lv_aload_n hx hb (pc := 775) dL_law_775 rfl (lv_at hl 3 rfl) ?_
  refine lv_iload_n hx hb (pc := 776) dL_law_776 rfl (lv_at hl 0 rfl) ?_
  refine lv_iconst (v := nI 2) hx hb (pc := 777) dL_law_777 (by decide) ?_
  refine nv_iadd (a := i) (b := 2) hx hb (pc := 778) dL_law_778 ?_
  refine sc_ld hx hb hX hbl hbA hS hL (i := i + 2) (by omega) (pc := 779) dL_law_779 ?_
  refine rr_callR (pc := 780) (va_runV (As := [.int (xs (i + 1)), .int (xs (i + 2))]) (rest := [.int (telA wd TD (xs (i + 1)) (xs (i + 2)))]) ⟨hx, hb, hml, hown, hts⟩ (u_X10_tells l K M (xs (i + 1)) (xs (i + 2)) hN hM) (cwV 2 hts gL_law_X10_tells rfl rfl rfl (by decide +kernel) ⟨Nat.le_of_ble_eq_true rfl, Nat.le_of_ble_eq_true rfl⟩) (rr_preV hKK rfl (MI_recv hKK hM)) rfl rfl hl.1 rfl (lv_room (Nat.le_of_ble_eq_true rfl)) dL_law_780 ⟨hk1, hk2⟩) hS (fun q h => (h1 q h).1) (fun v H2 locs2 hY hsz2 hfr2 hS => ?_)
  obtain ⟨rfl, hM⟩ := hY
  refine lv_icmp_eq (tgt := 974) hx hb (pc := 783) dL_law_783 (by decide) (fun _ => ?_) (fun h => absurd rfl h)
  exact kk H2 locs2 _ _ hS ⟨cap', room', ns, wl, nf, wd, kF, nF, yF, WD, FL, FW, cond (telOK wd (xs (i + 1)) (xs (i + 2))) (va_up TD (cN (xs (i + 1))) (cN (xs (i + 2)))) TD, N_tells (x := (xs (i + 1))) (y := (xs (i + 2))) hN, CI_keep hC hfr2 CA_MA, hM, hc2, hr2, by omega, by omega⟩ (by omega)
theorem lc_maps {p : Program} {l : Launch} {e : Env} {s : State} {m : MethodId} {args : Array Value} {below : List Frame} {meth : Method} {c : Code} {Q : State → Prop} {K : rr_K} {b L : Nat} {xs : Nat → Int32} {M : Nat → Prop} {up co om i : Nat} {H : Heap} {locs : List Loc} {nc nsl : Nat} {ls : Array Slot} (hx : p.tables.exec = Jvm.exec) (hb : c.code = cL_law) (hml : c.maxLocals = 4) (hown : s.vm.findClass RL = some m.cls) (hts : ∀ w ∈ wsL_law, w.before args s = true) (hKK : KK K s) (hX : va_X b L xs s s.heap) (hbl : b < s.heap.size) (hL : L ≤ 3072) (h6 : i + 6 ≤ L) (h1 : ∀ q, M q → s.heap.size ≤ q ∧ q < up) (h3 : up ≤ H.size) (hS : va_S (fun q : Nat => s.heap.size ≤ q) s.heap H locs) (hI : LI K s.heap.size M co om H nc nsl) (hl : lv_has ls 4 [(3, .int (nI i)), (2, .ref om), (1, .ref co), (0, .ref b)]) (kk : ∀ (H1 : Heap) (locs1 : List Loc) (nc1 nsl1 : Nat), va_S (fun q : Nat => s.heap.size ≤ q) s.heap H1 locs1 → LI K s.heap.size M co om H1 nc1 nsl1 → up ≤ H1.size → W p l e room_1 s m args below meth c H1 locs1 nc1 nsl1 Q (F0 m 974 ls [])) : W p l e room_1 s m args below meth c H locs nc nsl Q (F0 m 788 ls []) := by
  obtain ⟨cap, room, ns, wl, nf, wd, kF, nF, yF, WD, FL, FW, TD, hN, hC, hM, hcap, hroom, hnc, hnsl⟩ := hI
  have hbA : ¬ (fun q : Nat => s.heap.size ≤ q) b := Nat.not_le.mpr hbl
  have hns := hN.1.1
  have hns' : ns ≤ 6 := (hN).1.1
  have hge : ns ≤ ns := Nat.le_refl _
  refine lv_aload_n hx hb (pc := 788) dL_law_788 rfl (lv_at hl 2 rfl) ?_
  refine lv_aload_n hx hb (pc := 789) dL_law_789 rfl (lv_at hl 3 rfl) ?_
  refine lv_iload_n hx hb (pc := 790) dL_law_790 rfl (lv_at hl 0 rfl) ?_
  refine lv_iconst (v := nI 1) hx hb (pc := 791) dL_law_791 (by decide) ?_
  refine nv_iadd (a := i) (b := 1) hx hb (pc := 792) dL_law_792 ?_
  refine sc_ld hx hb hX hbl hbA hS hL (i := i + 1) (by omega) (pc := 793) dL_law_793 ?_
  refine lv_aload_n hx hb (pc := 794) dL_law_794 rfl (lv_at hl 3 rfl) ?_
  refine lv_iload_n hx hb (pc := 795) dL_law_795 rfl (lv_at hl 0 rfl) ?_
  refine lv_iconst (v := nI 2) hx hb (pc := 796) dL_law_796 (by decide) ?_
  refine nv_iadd (a := i) (b := 2) hx hb (pc := 797) dL_law_797 ?_
  refine sc_ld hx hb hX hbl hbA hS hL (i := i + 2) (by omega) (pc := 798) dL_law_798 ?_
  obtain ⟨cap', room', hc1, hr1, hc2, hr2, hMet⟩ := u_X9_maps l K (CA s.heap.size M) (xs (i + 1)) (xs (i + 2)) hN (fun q hq => ⟨Nat.le_trans hS.1 hq, fun h => absurd (h1 q h).2 (by omega)⟩) hC
  have hk1 : nc + (3 * (ns - ns) + (cap' - cap) + (room' - room)) ≤ 600000 := by omega
  have hk2 : nsl + (327 * (ns - ns) + 8 * (cap' - cap) + 12 * (room' - room)) ≤ 7302250 := by omega
  refine rr_callR (pc := 799) (va_runV (As := [.int (xs (i + 1)), .int (xs (i + 2))]) (rest := []) ⟨hx, hb, hml, hown, hts⟩ hMet (cwV 2 hts gL_law_X9_maps rfl rfl rfl (by decide +kernel) ⟨Nat.le_of_ble_eq_true rfl, Nat.le_of_ble_eq_true rfl⟩) (rr_preV hKK rfl (CI_recv hKK hC)) rfl rfl hl.1 rfl (lv_room (Nat.le_of_ble_eq_true rfl)) dL_law_799 ⟨hk1, hk2⟩) hS (fun q h => h.1) (fun v H1 locs1 hY hsz hfr hS => ?_)
  obtain ⟨rfl, hC⟩ := hY
  have hM := MI_keep hM hfr MA_CA
  refine lv_aload_n hx hb (pc := 802) dL_law_802 rfl (lv_at hl 1 rfl) ?_
  refine lv_aload_n hx hb (pc := 803) dL_law_803 rfl (lv_at hl 3 rfl) ?_
  refine lv_iload_n hx hb (pc := 804) dL_law_804 rfl (lv_at hl 0 rfl) ?_
  refine lv_iconst (v := nI 1) hx hb (pc := 805) dL_law_805 (by decide) ?_
  refine nv_iadd (a := i) (b := 1) hx hb (pc := 806) dL_law_806 ?_
  refine sc_ld hx hb hX hbl hbA hS hL (i := i + 1) (by omega) (pc := 807) dL_law_807 ?_
  refine lv_aload_n hx hb (pc := 808) dL_law_808 rfl (lv_at hl 3 rfl) ?_
  refine lv_iload_n hx hb (pc := 809) dL_law_809 rfl (lv_at hl 0 rfl) ?_
  refine lv_iconst (v := nI 2) hx hb (pc := 810) dL_law_810 (by decide) ?_
  refine nv_iadd (a := i) (b := 2) hx hb (pc := 811) dL_law_811 ?_
  refine sc_ld hx hb hX hbl hbA hS hL (i := i + 2) (by omega) (pc := 812) dL_law_812 ?_
  refine rr_callR (pc := 813) (va_runV (As := [.int (xs (i + 1)), .int (xs (i + 2))]) (rest := [.int (mapA ns kF nF yF wd TD (xs (i + 1)) (xs (i + 2)))]) ⟨hx, hb, hml, hown, hts⟩ (u_X10_maps l K M (xs (i + 1)) (xs (i + 2)) hN hM) (cwV 2 hts gL_law_X10_maps rfl rfl rfl (by decide +kernel) ⟨Nat.le_of_ble_eq_true rfl, Nat.le_of_ble_eq_true rfl⟩) (rr_preV hKK rfl (MI_recv hKK hM)) rfl rfl hl.1 rfl (lv_room (Nat.le_of_ble_eq_true rfl)) dL_law_813 ⟨hk1, hk2⟩) hS (fun q h => (h1 q h).1) (fun v H2 locs2 hY hsz2 hfr2 hS => ?_)
  obtain ⟨rfl, hM⟩ := hY
  refine lv_icmp_eq (tgt := 974) hx hb (pc := 816) dL_law_816 (by decide) (fun _ => ?_) (fun h => absurd rfl h)
  exact kk H2 locs2 _ _ hS ⟨cap', room', ns, wl, nf, wd, kF, nF, yF, WD, FL, FW, TD, hN, CI_keep hC hfr2 CA_MA, hM, hc2, hr2, by omega, by omega⟩ (by omega)
theorem lc_weights {p : Program} {l : Launch} {e : Env} {s : State} {m : MethodId} {args : Array Value} {below : List Frame} {meth : Method} {c : Code} {Q : State → Prop} {K : rr_K} {b L : Nat} {xs : Nat → Int32} {M : Nat → Prop} {up co om i : Nat} {H : Heap} {locs : List Loc} {nc nsl : Nat} {ls : Array Slot} (hx : p.tables.exec = Jvm.exec) (hb : c.code = cL_law) (hml : c.maxLocals = 4) (hown : s.vm.findClass RL = some m.cls) (hts : ∀ w ∈ wsL_law, w.before args s = true) (hKK : KK K s) (hX : va_X b L xs s s.heap) (hbl : b < s.heap.size) (hL : L ≤ 3072) (h6 : i + 6 ≤ L) (h1 : ∀ q, M q → s.heap.size ≤ q ∧ q < up) (h3 : up ≤ H.size) (hS : va_S (fun q : Nat => s.heap.size ≤ q) s.heap H locs) (hI : LI K s.heap.size M co om H nc nsl) (hl : lv_has ls 4 [(3, .int (nI i)), (2, .ref om), (1, .ref co), (0, .ref b)]) (kk : ∀ (H1 : Heap) (locs1 : List Loc) (nc1 nsl1 : Nat), va_S (fun q : Nat => s.heap.size ≤ q) s.heap H1 locs1 → LI K s.heap.size M co om H1 nc1 nsl1 → up ≤ H1.size → W p l e room_1 s m args below meth c H1 locs1 nc1 nsl1 Q (F0 m 974 ls [])) : W p l e room_1 s m args below meth c H locs nc nsl Q (F0 m 821 ls []) := by
  obtain ⟨cap, room, ns, wl, nf, wd, kF, nF, yF, WD, FL, FW, TD, hN, hC, hM, hcap, hroom, hnc, hnsl⟩ := hI
  have hbA : ¬ (fun q : Nat => s.heap.size ≤ q) b := Nat.not_le.mpr hbl
  have hns := hN.1.1
  have hns' : ns ≤ 6 := (hN).1.1
  have hge : ns ≤ ns := Nat.le_refl _
  refine lv_aload_n hx hb (pc := 821) dL_law_821 rfl (lv_at hl 2 rfl) ?_
  refine lv_aload_n hx hb (pc := 822) dL_law_822 rfl (lv_at hl 3 rfl) ?_
  refine lv_iload_n hx hb (pc := 823) dL_law_823 rfl (lv_at hl 0 rfl) ?_
  refine lv_iconst (v := nI 1) hx hb (pc := 824) dL_law_824 (by decide) ?_
  refine nv_iadd (a := i) (b := 1) hx hb (pc := 825) dL_law_825 ?_
  refine sc_ld hx hb hX hbl hbA hS hL (i := i + 1) (by omega) (pc := 826) dL_law_826 ?_
  refine lv_aload_n hx hb (pc := 827) dL_law_827 rfl (lv_at hl 3 rfl) ?_
  refine lv_iload_n hx hb (pc := 828) dL_law_828 rfl (lv_at hl 0 rfl) ?_
  refine lv_iconst (v := nI 2) hx hb (pc := 829) dL_law_829 (by decide) ?_
  refine nv_iadd (a := i) (b := 2) hx hb (pc := 830) dL_law_830 ?_
  refine sc_ld hx hb hX hbl hbA hS hL (i := i + 2) (by omega) (pc := 831) dL_law_831 ?_
  refine lv_aload_n hx hb (pc := 832) dL_law_832 rfl (lv_at hl 3 rfl) ?_
  refine lv_iload_n hx hb (pc := 833) dL_law_833 rfl (lv_at hl 0 rfl) ?_
  refine lv_iconst (v := nI 3) hx hb (pc := 834) dL_law_834 (by decide) ?_
  refine nv_iadd (a := i) (b := 3) hx hb (pc := 835) dL_law_835 ?_
  refine sc_ld hx hb hX hbl hbA hS hL (i := i + 3) (by omega) (pc := 836) dL_law_836 ?_
  refine lv_aload_n hx hb (pc := 837) dL_law_837 rfl (lv_at hl 3 rfl) ?_
  refine lv_iload_n hx hb (pc := 838) dL_law_838 rfl (lv_at hl 0 rfl) ?_
  refine lv_iconst (v := nI 4) hx hb (pc := 839) dL_law_839 (by decide) ?_
  refine nv_iadd (a := i) (b := 4) hx hb (pc := 840) dL_law_840 ?_
  refine sc_ld hx hb hX hbl hbA hS hL (i := i + 4) (by omega) (pc := 841) dL_law_841 ?_
  obtain ⟨cap', room', hc1, hr1, hc2, hr2, hMet⟩ := u_X9_weights l K (CA s.heap.size M) (xs (i + 1)) (xs (i + 2)) (xs (i + 3)) (xs (i + 4)) hN (fun q hq => ⟨Nat.le_trans hS.1 hq, fun h => absurd (h1 q h).2 (by omega)⟩) hC
  have hMet := Met_room (rm' := { frames := rmX9_weights.frames, cells := 3 * (ns - ns) + (cap' - cap) + (room' - room), slots := 327 * (ns - ns) + 8 * (cap' - cap) + 12 * (room' - room), locals := rmX9_weights.locals }) hMet (Nat.le_refl _) (Nat.zero_le _) (Nat.zero_le _) (Nat.le_refl _)
  have hk1 : nc + (3 * (ns - ns) + (cap' - cap) + (room' - room)) ≤ 600000 := by omega
  have hk2 : nsl + (327 * (ns - ns) + 8 * (cap' - cap) + 12 * (room' - room)) ≤ 7302250 := by omega
  refine rr_callR (pc := 842) (va_runV (As := [.int (xs (i + 1)), .int (xs (i + 2)), .int (xs (i + 3)), .int (xs (i + 4))]) (rest := []) ⟨hx, hb, hml, hown, hts⟩ hMet (cwV 4 hts gL_law_X9_weights rfl rfl rfl (by decide +kernel) ⟨Nat.le_of_ble_eq_true rfl, Nat.le_of_ble_eq_true rfl⟩) (rr_preV hKK rfl (CI_recv hKK hC)) rfl rfl hl.1 rfl (lv_room (Nat.le_of_ble_eq_true rfl)) dL_law_842 ⟨hk1, hk2⟩) hS (fun q h => h.1) (fun v H1 locs1 hY hsz hfr hS => ?_)
  obtain ⟨rfl, hC⟩ := hY
  have hM := MI_keep hM hfr MA_CA
  refine lv_aload_n hx hb (pc := 845) dL_law_845 rfl (lv_at hl 1 rfl) ?_
  refine lv_aload_n hx hb (pc := 846) dL_law_846 rfl (lv_at hl 3 rfl) ?_
  refine lv_iload_n hx hb (pc := 847) dL_law_847 rfl (lv_at hl 0 rfl) ?_
  refine lv_iconst (v := nI 1) hx hb (pc := 848) dL_law_848 (by decide) ?_
  refine nv_iadd (a := i) (b := 1) hx hb (pc := 849) dL_law_849 ?_
  refine sc_ld hx hb hX hbl hbA hS hL (i := i + 1) (by omega) (pc := 850) dL_law_850 ?_
  refine lv_aload_n hx hb (pc := 851) dL_law_851 rfl (lv_at hl 3 rfl) ?_
  refine lv_iload_n hx hb (pc := 852) dL_law_852 rfl (lv_at hl 0 rfl) ?_
  refine lv_iconst (v := nI 2) hx hb (pc := 853) dL_law_853 (by decide) ?_
  refine nv_iadd (a := i) (b := 2) hx hb (pc := 854) dL_law_854 ?_
  refine sc_ld hx hb hX hbl hbA hS hL (i := i + 2) (by omega) (pc := 855) dL_law_855 ?_
  refine lv_aload_n hx hb (pc := 856) dL_law_856 rfl (lv_at hl 3 rfl) ?_
  refine lv_iload_n hx hb (pc := 857) dL_law_857 rfl (lv_at hl 0 rfl) ?_
  refine lv_iconst (v := nI 3) hx hb (pc := 858) dL_law_858 (by decide) ?_
  refine nv_iadd (a := i) (b := 3) hx hb (pc := 859) dL_law_859 ?_
  refine sc_ld hx hb hX hbl hbA hS hL (i := i + 3) (by omega) (pc := 860) dL_law_860 ?_
  refine lv_aload_n hx hb (pc := 861) dL_law_861 rfl (lv_at hl 3 rfl) ?_
  refine lv_iload_n hx hb (pc := 862) dL_law_862 rfl (lv_at hl 0 rfl) ?_
  refine lv_iconst (v := nI 4) hx hb (pc := 863) dL_law_863 (by decide) ?_
  refine nv_iadd (a := i) (b := 4) hx hb (pc := 864) dL_law_864 ?_
  refine sc_ld hx hb hX hbl hbA hS hL (i := i + 4) (by omega) (pc := 865) dL_law_865 ?_
  refine rr_callR (pc := 866) (va_runV (As := [.int (xs (i + 1)), .int (xs (i + 2)), .int (xs (i + 3)), .int (xs (i + 4))]) (rest := [.int (wgsA ns kF nF yF (xs (i + 1)) (xs (i + 2)) (xs (i + 3)) (xs (i + 4)))]) ⟨hx, hb, hml, hown, hts⟩ (u_X10_weights l K M (xs (i + 1)) (xs (i + 2)) (xs (i + 3)) (xs (i + 4)) hN hM) (cwV 4 hts gL_law_X10_weights rfl rfl rfl (by decide +kernel) ⟨Nat.le_of_ble_eq_true rfl, Nat.le_of_ble_eq_true rfl⟩) (rr_preV hKK rfl (MI_recv hKK hM)) rfl rfl hl.1 rfl (lv_room (Nat.le_of_ble_eq_true rfl)) dL_law_866 ⟨hk1, hk2⟩) hS (fun q h => (h1 q h).1) (fun v H2 locs2 hY hsz2 hfr2 hS => ?_)
  obtain ⟨rfl, hM⟩ := hY
  refine lv_icmp_eq (tgt := 974) hx hb (pc := 869) dL_law_869 (by decide) (fun _ => ?_) (fun h => absurd rfl h)
  exact kk H2 locs2 _ _ hS ⟨cap', room', ns, wl, nf, wd, kF, nF, yF, WD, FL, FW, TD, hN, CI_keep hC hfr2 CA_MA, hM, hc2, hr2, by omega, by omega⟩ (by omega)
theorem lc_weight {p : Program} {l : Launch} {e : Env} {s : State} {m : MethodId} {args : Array Value} {below : List Frame} {meth : Method} {c : Code} {Q : State → Prop} {K : rr_K} {b L : Nat} {xs : Nat → Int32} {M : Nat → Prop} {up co om i : Nat} {H : Heap} {locs : List Loc} {nc nsl : Nat} {ls : Array Slot} (hx : p.tables.exec = Jvm.exec) (hb : c.code = cL_law) (hml : c.maxLocals = 4) (hown : s.vm.findClass RL = some m.cls) (hts : ∀ w ∈ wsL_law, w.before args s = true) (hKK : KK K s) (hX : va_X b L xs s s.heap) (hbl : b < s.heap.size) (hL : L ≤ 3072) (h6 : i + 6 ≤ L) (h1 : ∀ q, M q → s.heap.size ≤ q ∧ q < up) (h3 : up ≤ H.size) (hS : va_S (fun q : Nat => s.heap.size ≤ q) s.heap H locs) (hI : LI K s.heap.size M co om H nc nsl) (hl : lv_has ls 4 [(3, .int (nI i)), (2, .ref om), (1, .ref co), (0, .ref b)]) (kk : ∀ (H1 : Heap) (locs1 : List Loc) (nc1 nsl1 : Nat), va_S (fun q : Nat => s.heap.size ≤ q) s.heap H1 locs1 → LI K s.heap.size M co om H1 nc1 nsl1 → up ≤ H1.size → W p l e room_1 s m args below meth c H1 locs1 nc1 nsl1 Q (F0 m 974 ls [])) : W p l e room_1 s m args below meth c H locs nc nsl Q (F0 m 874 ls []) := by
  obtain ⟨cap, room, ns, wl, nf, wd, kF, nF, yF, WD, FL, FW, TD, hN, hC, hM, hcap, hroom, hnc, hnsl⟩ := hI
  have hbA : ¬ (fun q : Nat => s.heap.size ≤ q) b := Nat.not_le.mpr hbl
  have hns := hN.1.1
  have hns' : ns ≤ 6 := (hN).1.1
  have hge : ns ≤ ns := Nat.le_refl _
  refine lv_aload_n hx hb (pc := 874) dL_law_874 rfl (lv_at hl 2 rfl) ?_
  refine lv_aload_n hx hb (pc := 875) dL_law_875 rfl (lv_at hl 3 rfl) ?_
  refine lv_iload_n hx hb (pc := 876) dL_law_876 rfl (lv_at hl 0 rfl) ?_
  refine lv_iconst (v := nI 1) hx hb (pc := 877) dL_law_877 (by decide) ?_
  refine nv_iadd (a := i) (b := 1) hx hb (pc := 878) dL_law_878 ?_
  refine sc_ld hx hb hX hbl hbA hS hL (i := i + 1) (by omega) (pc := 879) dL_law_879 ?_
  refine lv_aload_n hx hb (pc := 880) dL_law_880 rfl (lv_at hl 3 rfl) ?_
  refine lv_iload_n hx hb (pc := 881) dL_law_881 rfl (lv_at hl 0 rfl) ?_
  refine lv_iconst (v := nI 2) hx hb (pc := 882) dL_law_882 (by decide) ?_
  refine nv_iadd (a := i) (b := 2) hx hb (pc := 883) dL_law_883 ?_
  refine sc_ld hx hb hX hbl hbA hS hL (i := i + 2) (by omega) (pc := 884) dL_law_884 ?_
  refine lv_aload_n hx hb (pc := 885) dL_law_885 rfl (lv_at hl 3 rfl) ?_
  refine lv_iload_n hx hb (pc := 886) dL_law_886 rfl (lv_at hl 0 rfl) ?_
  refine lv_iconst (v := nI 3) hx hb (pc := 887) dL_law_887 (by decide) ?_
  refine nv_iadd (a := i) (b := 3) hx hb (pc := 888) dL_law_888 ?_
  refine sc_ld hx hb hX hbl hbA hS hL (i := i + 3) (by omega) (pc := 889) dL_law_889 ?_
  refine lv_aload_n hx hb (pc := 890) dL_law_890 rfl (lv_at hl 3 rfl) ?_
  refine lv_iload_n hx hb (pc := 891) dL_law_891 rfl (lv_at hl 0 rfl) ?_
  refine lv_iconst (v := nI 4) hx hb (pc := 892) dL_law_892 (by decide) ?_
  refine nv_iadd (a := i) (b := 4) hx hb (pc := 893) dL_law_893 ?_
  refine sc_ld hx hb hX hbl hbA hS hL (i := i + 4) (by omega) (pc := 894) dL_law_894 ?_
  refine lv_aload_n hx hb (pc := 895) dL_law_895 rfl (lv_at hl 3 rfl) ?_
  refine lv_iload_n hx hb (pc := 896) dL_law_896 rfl (lv_at hl 0 rfl) ?_
  refine lv_iconst (v := nI 5) hx hb (pc := 897) dL_law_897 (by decide) ?_
  refine nv_iadd (a := i) (b := 5) hx hb (pc := 898) dL_law_898 ?_
  refine sc_ld hx hb hX hbl hbA hS hL (i := i + 5) (by omega) (pc := 899) dL_law_899 ?_
  obtain ⟨cap', room', hc1, hr1, hc2, hr2, hMet⟩ := u_X9_weight l K (CA s.heap.size M) (xs (i + 1)) (xs (i + 2)) (xs (i + 3)) (xs (i + 4)) (xs (i + 5)) hN (fun q hq => ⟨Nat.le_trans hS.1 hq, fun h => absurd (h1 q h).2 (by omega)⟩) hC
  have hMet := Met_room (rm' := { frames := rmX9_weight.frames, cells := 3 * (ns - ns) + (cap' - cap) + (room' - room), slots := 327 * (ns - ns) + 8 * (cap' - cap) + 12 * (room' - room), locals := rmX9_weight.locals }) hMet (Nat.le_refl _) (Nat.zero_le _) (Nat.zero_le _) (Nat.le_refl _)
  have hk1 : nc + (3 * (ns - ns) + (cap' - cap) + (room' - room)) ≤ 600000 := by omega
  have hk2 : nsl + (327 * (ns - ns) + 8 * (cap' - cap) + 12 * (room' - room)) ≤ 7302250 := by omega
  refine rr_callR (pc := 900) (va_runV (As := [.int (xs (i + 1)), .int (xs (i + 2)), .int (xs (i + 3)), .int (xs (i + 4)), .int (xs (i + 5))]) (rest := []) ⟨hx, hb, hml, hown, hts⟩ hMet (cwV 5 hts gL_law_X9_weight rfl rfl rfl (by decide +kernel) ⟨Nat.le_of_ble_eq_true rfl, Nat.le_of_ble_eq_true rfl⟩) (rr_preV hKK rfl (CI_recv hKK hC)) rfl rfl hl.1 rfl (lv_room (Nat.le_of_ble_eq_true rfl)) dL_law_900 ⟨hk1, hk2⟩) hS (fun q h => h.1) (fun v H1 locs1 hY hsz hfr hS => ?_)
  obtain ⟨rfl, hC⟩ := hY
  have hM := MI_keep hM hfr MA_CA
  refine lv_aload_n hx hb (pc := 903) dL_law_903 rfl (lv_at hl 1 rfl) ?_
  refine lv_aload_n hx hb (pc := 904) dL_law_904 rfl (lv_at hl 3 rfl) ?_
  refine lv_iload_n hx hb (pc := 905) dL_law_905 rfl (lv_at hl 0 rfl) ?_
  refine lv_iconst (v := nI 1) hx hb (pc := 906) dL_law_906 (by decide) ?_
  refine nv_iadd (a := i) (b := 1) hx hb (pc := 907) dL_law_907 ?_
  refine sc_ld hx hb hX hbl hbA hS hL (i := i + 1) (by omega) (pc := 908) dL_law_908 ?_
  refine lv_aload_n hx hb (pc := 909) dL_law_909 rfl (lv_at hl 3 rfl) ?_
  refine lv_iload_n hx hb (pc := 910) dL_law_910 rfl (lv_at hl 0 rfl) ?_
  refine lv_iconst (v := nI 2) hx hb (pc := 911) dL_law_911 (by decide) ?_
  refine nv_iadd (a := i) (b := 2) hx hb (pc := 912) dL_law_912 ?_
  refine sc_ld hx hb hX hbl hbA hS hL (i := i + 2) (by omega) (pc := 913) dL_law_913 ?_
  refine lv_aload_n hx hb (pc := 914) dL_law_914 rfl (lv_at hl 3 rfl) ?_
  refine lv_iload_n hx hb (pc := 915) dL_law_915 rfl (lv_at hl 0 rfl) ?_
  refine lv_iconst (v := nI 3) hx hb (pc := 916) dL_law_916 (by decide) ?_
  refine nv_iadd (a := i) (b := 3) hx hb (pc := 917) dL_law_917 ?_
  refine sc_ld hx hb hX hbl hbA hS hL (i := i + 3) (by omega) (pc := 918) dL_law_918 ?_
  refine lv_aload_n hx hb (pc := 919) dL_law_919 rfl (lv_at hl 3 rfl) ?_
  refine lv_iload_n hx hb (pc := 920) dL_law_920 rfl (lv_at hl 0 rfl) ?_
  refine lv_iconst (v := nI 4) hx hb (pc := 921) dL_law_921 (by decide) ?_
  refine nv_iadd (a := i) (b := 4) hx hb (pc := 922) dL_law_922 ?_
  refine sc_ld hx hb hX hbl hbA hS hL (i := i + 4) (by omega) (pc := 923) dL_law_923 ?_
  refine lv_aload_n hx hb (pc := 924) dL_law_924 rfl (lv_at hl 3 rfl) ?_
  refine lv_iload_n hx hb (pc := 925) dL_law_925 rfl (lv_at hl 0 rfl) ?_
  refine lv_iconst (v := nI 5) hx hb (pc := 926) dL_law_926 (by decide) ?_
  refine nv_iadd (a := i) (b := 5) hx hb (pc := 927) dL_law_927 ?_
  refine sc_ld hx hb hX hbl hbA hS hL (i := i + 5) (by omega) (pc := 928) dL_law_928 ?_
  refine rr_callR (pc := 929) (va_runV (As := [.int (xs (i + 1)), .int (xs (i + 2)), .int (xs (i + 3)), .int (xs (i + 4)), .int (xs (i + 5))]) (rest := [.int (wgtA ns kF nF yF (xs (i + 1)) (xs (i + 2)) (xs (i + 3)) (xs (i + 4)) (xs (i + 5)))]) ⟨hx, hb, hml, hown, hts⟩ (u_X10_weight l K M (xs (i + 1)) (xs (i + 2)) (xs (i + 3)) (xs (i + 4)) (xs (i + 5)) hN hM) (cwV 5 hts gL_law_X10_weight rfl rfl rfl (by decide +kernel) ⟨Nat.le_of_ble_eq_true rfl, Nat.le_of_ble_eq_true rfl⟩) (rr_preV hKK rfl (MI_recv hKK hM)) rfl rfl hl.1 rfl (lv_room (Nat.le_of_ble_eq_true rfl)) dL_law_929 ⟨hk1, hk2⟩) hS (fun q h => (h1 q h).1) (fun v H2 locs2 hY hsz2 hfr2 hS => ?_)
  obtain ⟨rfl, hM⟩ := hY
  refine lv_icmp_eq (tgt := 974) hx hb (pc := 932) dL_law_932 (by decide) (fun _ => ?_) (fun h => absurd rfl h)
  exact kk H2 locs2 _ _ hS ⟨cap', room', ns, wl, nf, wd, kF, nF, yF, WD, FL, FW, TD, hN, CI_keep hC hfr2 CA_MA, hM, hc2, hr2, by omega, by omega⟩ (by omega)
theorem lc_count {p : Program} {l : Launch} {e : Env} {s : State} {m : MethodId} {args : Array Value} {below : List Frame} {meth : Method} {c : Code} {Q : State → Prop} {K : rr_K} {b L : Nat} {xs : Nat → Int32} {M : Nat → Prop} {up co om i : Nat} {H : Heap} {locs : List Loc} {nc nsl : Nat} {ls : Array Slot} (hx : p.tables.exec = Jvm.exec) (hb : c.code = cL_law) (hml : c.maxLocals = 4) (hown : s.vm.findClass RL = some m.cls) (hts : ∀ w ∈ wsL_law, w.before args s = true) (hKK : KK K s) (hX : va_X b L xs s s.heap) (hbl : b < s.heap.size) (hL : L ≤ 3072) (h6 : i + 6 ≤ L) (h1 : ∀ q, M q → s.heap.size ≤ q ∧ q < up) (h3 : up ≤ H.size) (hS : va_S (fun q : Nat => s.heap.size ≤ q) s.heap H locs) (hI : LI K s.heap.size M co om H nc nsl) (hl : lv_has ls 4 [(3, .int (nI i)), (2, .ref om), (1, .ref co), (0, .ref b)]) (kk : ∀ (H1 : Heap) (locs1 : List Loc) (nc1 nsl1 : Nat), va_S (fun q : Nat => s.heap.size ≤ q) s.heap H1 locs1 → LI K s.heap.size M co om H1 nc1 nsl1 → up ≤ H1.size → W p l e room_1 s m args below meth c H1 locs1 nc1 nsl1 Q (F0 m 974 ls [])) : W p l e room_1 s m args below meth c H locs nc nsl Q (F0 m 937 ls []) := by
  obtain ⟨cap, room, ns, wl, nf, wd, kF, nF, yF, WD, FL, FW, TD, hN, hC, hM, hcap, hroom, hnc, hnsl⟩ := hI
  have hbA : ¬ (fun q : Nat => s.heap.size ≤ q) b := Nat.not_le.mpr hbl
  have hns := hN.1.1
  have hns' : ns ≤ 6 := (hN).1.1
  have hge : ns ≤ ns := Nat.le_refl _
  refine lv_aload_n hx hb (pc := 937) dL_law_937 rfl (lv_at hl 2 rfl) ?_
  refine lv_aload_n hx hb (pc := 938) dL_law_938 rfl (lv_at hl 3 rfl) ?_
  refine lv_iload_n hx hb (pc := 939) dL_law_939 rfl (lv_at hl 0 rfl) ?_
  refine lv_iconst (v := nI 1) hx hb (pc := 940) dL_law_940 (by decide) ?_
  refine nv_iadd (a := i) (b := 1) hx hb (pc := 941) dL_law_941 ?_
  refine sc_ld hx hb hX hbl hbA hS hL (i := i + 1) (by omega) (pc := 942) dL_law_942 ?_
  obtain ⟨cap', room', hc1, hr1, hc2, hr2, hMet⟩ := u_X9_count l K (CA s.heap.size M) (xs (i + 1)) hN (fun q hq => ⟨Nat.le_trans hS.1 hq, fun h => absurd (h1 q h).2 (by omega)⟩) hC
  have hMet := Met_room (rm' := { frames := rmX9_count.frames, cells := 3 * (ns - ns) + (cap' - cap) + (room' - room), slots := 327 * (ns - ns) + 8 * (cap' - cap) + 12 * (room' - room), locals := rmX9_count.locals }) hMet (Nat.le_refl _) (Nat.zero_le _) (Nat.zero_le _) (Nat.le_refl _)
  have hk1 : nc + (3 * (ns - ns) + (cap' - cap) + (room' - room)) ≤ 600000 := by omega
  have hk2 : nsl + (327 * (ns - ns) + 8 * (cap' - cap) + 12 * (room' - room)) ≤ 7302250 := by omega
  refine rr_callR (pc := 943) (va_runV (As := [.int (xs (i + 1))]) (rest := []) ⟨hx, hb, hml, hown, hts⟩ hMet (cwV 1 hts gL_law_X9_count rfl rfl rfl (by decide +kernel) ⟨Nat.le_of_ble_eq_true rfl, Nat.le_of_ble_eq_true rfl⟩) (rr_preV hKK rfl (CI_recv hKK hC)) rfl rfl hl.1 rfl (lv_room (Nat.le_of_ble_eq_true rfl)) dL_law_943 ⟨hk1, hk2⟩) hS (fun q h => h.1) (fun v H1 locs1 hY hsz hfr hS => ?_)
  obtain ⟨rfl, hC⟩ := hY
  have hM := MI_keep hM hfr MA_CA
  refine lv_aload_n hx hb (pc := 946) dL_law_946 rfl (lv_at hl 1 rfl) ?_
  refine lv_aload_n hx hb (pc := 947) dL_law_947 rfl (lv_at hl 3 rfl) ?_
  refine lv_iload_n hx hb (pc := 948) dL_law_948 rfl (lv_at hl 0 rfl) ?_
  refine lv_iconst (v := nI 1) hx hb (pc := 949) dL_law_949 (by decide) ?_
  refine nv_iadd (a := i) (b := 1) hx hb (pc := 950) dL_law_950 ?_
  refine sc_ld hx hb hX hbl hbA hS hL (i := i + 1) (by omega) (pc := 951) dL_law_951 ?_
  refine rr_callR (pc := 952) (va_runV (As := [.int (xs (i + 1))]) (rest := [.int (cntA ns wl nf wd (xs (i + 1)))]) ⟨hx, hb, hml, hown, hts⟩ (u_X10_count l K M (xs (i + 1)) hN hM) (cwV 1 hts gL_law_X10_count rfl rfl rfl (by decide +kernel) ⟨Nat.le_of_ble_eq_true rfl, Nat.le_of_ble_eq_true rfl⟩) (rr_preV hKK rfl (MI_recv hKK hM)) rfl rfl hl.1 rfl (lv_room (Nat.le_of_ble_eq_true rfl)) dL_law_952 ⟨hk1, hk2⟩) hS (fun q h => (h1 q h).1) (fun v H2 locs2 hY hsz2 hfr2 hS => ?_)
  obtain ⟨rfl, hM⟩ := hY
  refine lv_icmp_eq (tgt := 974) hx hb (pc := 955) dL_law_955 (by decide) (fun _ => ?_) (fun h => absurd rfl h)
  exact kk H2 locs2 _ _ hS ⟨cap', room', ns, wl, nf, wd, kF, nF, yF, WD, FL, FW, TD, hN, CI_keep hC hfr2 CA_MA, hM, hc2, hr2, by omega, by omega⟩ (by omega)
theorem lc_digest {p : Program} {l : Launch} {e : Env} {s : State} {m : MethodId} {args : Array Value} {below : List Frame} {meth : Method} {c : Code} {Q : State → Prop} {K : rr_K} {b L : Nat} {xs : Nat → Int32} {M : Nat → Prop} {up co om i : Nat} {H : Heap} {locs : List Loc} {nc nsl : Nat} {ls : Array Slot} (hx : p.tables.exec = Jvm.exec) (hb : c.code = cL_law) (hml : c.maxLocals = 4) (hown : s.vm.findClass RL = some m.cls) (hts : ∀ w ∈ wsL_law, w.before args s = true) (hKK : KK K s) (hX : va_X b L xs s s.heap) (hbl : b < s.heap.size) (hL : L ≤ 3072) (h6 : i + 6 ≤ L) (h1 : ∀ q, M q → s.heap.size ≤ q ∧ q < up) (h3 : up ≤ H.size) (hS : va_S (fun q : Nat => s.heap.size ≤ q) s.heap H locs) (hI : LI K s.heap.size M co om H nc nsl) (hl : lv_has ls 4 [(3, .int (nI i)), (2, .ref om), (1, .ref co), (0, .ref b)]) (kk : ∀ (H1 : Heap) (locs1 : List Loc) (nc1 nsl1 : Nat), va_S (fun q : Nat => s.heap.size ≤ q) s.heap H1 locs1 → LI K s.heap.size M co om H1 nc1 nsl1 → up ≤ H1.size → W p l e room_1 s m args below meth c H1 locs1 nc1 nsl1 Q (F0 m 974 ls [])) : W p l e room_1 s m args below meth c H locs nc nsl Q (F0 m 960 ls []) := by
  obtain ⟨cap, room, ns, wl, nf, wd, kF, nF, yF, WD, FL, FW, TD, hN, hC, hM, hcap, hroom, hnc, hnsl⟩ := hI
  have hbA : ¬ (fun q : Nat => s.heap.size ≤ q) b := Nat.not_le.mpr hbl
  have hns := hN.1.1
  have hns' : ns ≤ 6 := (hN).1.1
  have hge : ns ≤ ns := Nat.le_refl _
  refine lv_aload_n hx hb (pc := 960) dL_law_960 rfl (lv_at hl 2 rfl) ?_
  obtain ⟨cap', room', hc1, hr1, hc2, hr2, hMet⟩ := u_X9_digest l K (CA s.heap.size M)  hN (fun q hq => ⟨Nat.le_trans hS.1 hq, fun h => absurd (h1 q h).2 (by omega)⟩) hC
  have hMet := Met_room (rm' := { frames := rmX9_digest.frames, cells := 3 * (ns - ns) + (cap' - cap) + (room' - room), slots := 327 * (ns - ns) + 8 * (cap' - cap) + 12 * (room' - room), locals := rmX9_digest.locals }) hMet (Nat.le_refl _) (Nat.zero_le _) (Nat.zero_le _) (Nat.le_refl _)
  have hk1 : nc + (3 * (ns - ns) + (cap' - cap) + (room' - room)) ≤ 600000 := by omega
  have hk2 : nsl + (327 * (ns - ns) + 8 * (cap' - cap) + 12 * (room' - room)) ≤ 7302250 := by omega
  refine rr_callR (pc := 961) (va_runV (As := []) (rest := []) ⟨hx, hb, hml, hown, hts⟩ hMet (cwV 0 hts gL_law_X9_digest rfl rfl rfl (by decide +kernel) ⟨Nat.le_of_ble_eq_true rfl, Nat.le_of_ble_eq_true rfl⟩) (rr_preV hKK rfl (CI_recv hKK hC)) rfl rfl hl.1 rfl (lv_room (Nat.le_of_ble_eq_true rfl)) dL_law_961 ⟨hk1, hk2⟩) hS (fun q h => h.1) (fun v H1 locs1 hY hsz hfr hS => ?_)
  obtain ⟨rfl, hC⟩ := hY
  have hM := MI_keep hM hfr MA_CA
  refine lv_aload_n hx hb (pc := 964) dL_law_964 rfl (lv_at hl 1 rfl) ?_
  refine rr_callR (pc := 965) (va_runV (As := []) (rest := [.long (dgT ns wl nf wd kF nF yF WD FL FW TD)]) ⟨hx, hb, hml, hown, hts⟩ (u_X10_digest l K M  hN hM) (cwV 0 hts gL_law_X10_digest rfl rfl rfl (by decide +kernel) ⟨Nat.le_of_ble_eq_true rfl, Nat.le_of_ble_eq_true rfl⟩) (rr_preV hKK rfl (MI_recv hKK hM)) rfl rfl hl.1 rfl (lv_room (Nat.le_of_ble_eq_true rfl)) dL_law_965 ⟨hk1, hk2⟩) hS (fun q h => (h1 q h).1) (fun v H2 locs2 hY hsz2 hfr2 hS => ?_)
  obtain ⟨rfl, hM⟩ := hY
  refine rr_lcmp_eq (tgt := 974) hx hb (pc := 968) dL_law_968 dL_law_969 (by decide) (fun _ => ?_) (fun h => absurd rfl h)
  exact kk H2 locs2 _ _ hS ⟨cap', room', ns, wl, nf, wd, kF, nF, yF, WD, FL, FW, TD, hN, CI_keep hC hfr2 CA_MA, hM, hc2, hr2, by omega, by omega⟩ (by omega)
end
