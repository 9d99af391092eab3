section
theorem lw_six {L i : Nat} (hL : L ≤ 3072) (hi : i ≤ L) (h : ¬ Int32.ofNat L - nI 6 < nI i) : i + 6 ≤ L := by
  have e : Int32.ofNat L = nI L := rfl
  rw [e] at h
  by_cases c : 6 ≤ L
  · rw [pk_sub c] at h
    have h1 := mt (nI_ltI (a := L - 6) (b := i) (by omega) (by omega)).mpr h
    omega
  · exfalso
    apply h
    have hi5 : i ≤ 5 := by omega
    rcases (show L = 0 ∨ L = 1 ∨ L = 2 ∨ L = 3 ∨ L = 4 ∨ L = 5 by omega) with rfl | rfl | rfl | rfl | rfl | rfl <;> rcases (show i = 0 ∨ i = 1 ∨ i = 2 ∨ i = 3 ∨ i = 4 ∨ i = 5 by omega) with rfl | rfl | rfl | rfl | rfl | rfl <;> decide
theorem K_arr {args : Array Value} {s : State} {ty : FieldType} (h : (Cond.arrayClass ty).before args s = true) : ∃ cA, ArrOfT s cA ty ∧ s.vm.findClass ("[" ++ ty.toString) = some cA := by
  obtain ⟨c, k, comp, h1, h2, h3⟩ := Cond.arrayClass_spec h
  exact ⟨c, fun N z => ⟨fun k h => (by cases h), k, h2, comp, h3⟩, h1⟩
theorem K_ovr {args : Array Value} {s : State} {C : String} (h : (Cond.arrayOver (.object C)).before args s = true) : ∃ cA, ArrOfT s cA (.object C) ∧ va_RA s cA (.object C) := by
  obtain ⟨comp, c, k, h1, h2, h3, h4, h5⟩ := Cond.arrayOver_spec h
  exact ⟨c, fun N z => ⟨fun k h => (by cases h), k, h3, comp, h4⟩, k, comp, h3, h4, h1, h5⟩
/-- what the tables say of the classes -/
theorem lw_K {b : Nat} {s : State} (hts0 : ∀ w ∈ lw_tbl, w.before #[Value.ref b] s = true) : ∃ K : rr_K, KK K s := by
  obtain ⟨c0, i0, k0⟩ := u_known (C := RX0) (T := TX0) (N := 4) (n := 4) hts0 inX0 (hts0 _ (List.mem_append_right _ (List.mem_of_getElem? (i := 27) (by decide +kernel))))
  obtain ⟨c1, i1, k1⟩ := u_known (C := RX1) (T := TX1) (N := 7) (n := 7) hts0 inX1 (hts0 _ (List.mem_append_right _ (List.mem_of_getElem? (i := 217) (by decide +kernel))))
  obtain ⟨c2, i2, k2⟩ := u_known (C := RX2) (T := TX2) (N := 1) (n := 1) hts0 inX2 (hts0 _ (List.mem_append_right _ (List.mem_of_getElem? (i := 167) (by decide +kernel))))
  obtain ⟨c3, i3, k3⟩ := u_known (C := RX3) (T := TX3) (N := 5) (n := 5) hts0 inX3 (hts0 _ (List.mem_append_right _ (List.mem_of_getElem? (i := 101) (by decide +kernel))))
  obtain ⟨c4, i4, k4⟩ := u_known (C := RX4) (T := TX4) (N := 2) (n := 2) hts0 inX4 (hts0 _ (List.mem_append_right _ (List.mem_of_getElem? (i := 48) (by decide +kernel))))
  obtain ⟨c5, i5, k5⟩ := u_known (C := RX5) (T := TX5) (N := 3) (n := 3) hts0 inX5 (hts0 _ (List.mem_append_right _ (List.mem_of_getElem? (i := 151) (by decide +kernel))))
  obtain ⟨c6, i6, k6⟩ := u_known (C := RX6) (T := TX6) (N := 2) (n := 2) hts0 inX6 (hts0 _ (List.mem_append_right _ (List.mem_of_getElem? (i := 88) (by decide +kernel))))
  obtain ⟨c7, i7, k7⟩ := u_known (C := RX7) (T := TX7) (N := 5) (n := 5) hts0 inX7 (hts0 _ (List.mem_append_right _ (List.mem_of_getElem? (i := 65) (by decide +kernel))))
  obtain ⟨c8, i8, k8⟩ := u_known (C := RX8) (T := TX8) (N := 6) (n := 6) hts0 inX8 (hts0 _ (List.mem_append_right _ (List.mem_of_getElem? (i := 126) (by decide +kernel))))
  obtain ⟨c9, i9, k9⟩ := u_known (C := RX9) (T := TX9) (N := 11) (n := 11) hts0 inX9 (hts0 _ (List.mem_append_right _ (List.mem_of_getElem? (i := 17) (by decide +kernel))))
  obtain ⟨c10, i10, k10⟩ := u_known (C := RX10) (T := TX10) (N := 27) (n := 27) hts0 inX10 (hts0 _ (List.mem_append_right _ (List.mem_of_getElem? (i := 731) (by decide +kernel))))
  obtain ⟨dC, dI, hKc⟩ : ∃ (dC : Nat → ClassId) (dI : Nat → Nat → Nat), ∀ (k : Nat) (q : vw_C), vwCl[k]? = some q → u_Kn s q.1 q.2.1 q.2.2 (dC k) (dI k) := by
    refine ⟨fun k => if k = 0 then c0 else if k = 1 then c1 else if k = 2 then c2 else if k = 3 then c3 else if k = 4 then c4 else if k = 5 then c5 else if k = 6 then c6 else if k = 7 then c7 else if k = 8 then c8 else if k = 9 then c9 else c10, fun k => if k = 0 then i0 else if k = 1 then i1 else if k = 2 then i2 else if k = 3 then i3 else if k = 4 then i4 else if k = 5 then i5 else if k = 6 then i6 else if k = 7 then i7 else if k = 8 then i8 else if k = 9 then i9 else i10, ?_⟩
    intro k q hq
    match k, hq with
    | 0, hq => cases hq; exact k0
    | 1, hq => cases hq; exact k1
    | 2, hq => cases hq; exact k2
    | 3, hq => cases hq; exact k3
    | 4, hq => cases hq; exact k4
    | 5, hq => cases hq; exact k5
    | 6, hq => cases hq; exact k6
    | 7, hq => cases hq; exact k7
    | 8, hq => cases hq; exact k8
    | 9, hq => cases hq; exact k9
    | 10, hq => cases hq; exact k10
    | k + 11, hq => cases hq
  obtain ⟨ai, ai1, ai2⟩ := K_arr (ty := .int) (hts0 _ (List.mem_append_right _ (List.mem_of_getElem? (i := 46) (by decide +kernel))))
  obtain ⟨al, al1, al2⟩ := K_arr (ty := .long) (hts0 _ (List.mem_append_right _ (List.mem_of_getElem? (i := 86) (by decide +kernel))))
  obtain ⟨ag, ag1, ag2⟩ := K_ovr (C := "RowRules$Graph") (hts0 _ (List.mem_append_right _ (List.mem_of_getElem? (i := 25) (by decide +kernel))))
  refine ⟨((dC, dI), ai, al, ag), ⟨hKc, fun k q hq => ?_⟩, fun w hw => ?_⟩
  · match k, hq with
    | 0, hq => cases hq; exact ⟨ai1, ai2⟩
    | 1, hq => cases hq; exact ⟨al1, al2⟩
    | 2, hq => cases hq; exact ⟨ag1, ag2⟩
    | k + 3, hq => cases hq
  · simp only [rr_NW, List.mem_cons, List.not_mem_nil, or_false] at hw
    rcases hw with rfl | rfl | rfl | rfl | rfl
    · exact va_Nw.of rfl (hts0 _ (List.mem_append_right _ (List.mem_of_getElem? (i := 280) (by decide +kernel))))
    · exact va_Nw.of rfl (hts0 _ (List.mem_append_right _ (List.mem_of_getElem? (i := 490) (by decide +kernel))))
    · exact va_Nw.of rfl (hts0 _ (List.mem_append_right _ (List.mem_of_getElem? (i := 634) (by decide +kernel))))
    · exact va_Nw.of rfl (hts0 _ (List.mem_append_right _ (List.mem_of_getElem? (i := 569) (by decide +kernel))))
    · exact va_Nw.of rfl (hts0 _ (List.mem_append_right _ (List.mem_of_getElem? (i := 530) (by decide +kernel))))
/-- the loop: until the script is at its end -/
theorem lw_loop {p : Program} {l : Launch} {e : Env} {s : State} {m : MethodId} {args : Array Value} {below : List Frame} {meth : Method} {c : Code} {Q : State → Prop} {K : rr_K} {b L : Nat} {xs : Nat → Int32} {M : Nat → Prop} {up co om : Nat} (hx : p.tables.exec = Jvm.exec) (hb : c.code = cL_law) (hml : c.maxLocals = 4) (hown : s.vm.findClass RL = some m.cls) (hts : ∀ w ∈ wsL_law, w.before args s = true) (hKK : KK K s) (hX : va_X b L xs s s.heap) (hbl : b < s.heap.size) (hL : L ≤ 3072)  (h1 : ∀ q, M q → s.heap.size ≤ q ∧ q < up) (fin : ∀ (H : Heap) (locs : List Loc) (nc nsl : Nat) (ls : Array Slot), va_S (fun q : Nat => s.heap.size ≤ q) s.heap H locs → LI K s.heap.size M co om H nc nsl → W p l e room_1 s m args below meth c H locs nc nsl Q (F0 m 980 ls [])) : ∀ (fz i : Nat) (H : Heap) (locs : List Loc) (nc nsl : Nat) (ls : Array Slot), L + 1 ≤ i + fz → i ≤ L → up ≤ H.size → va_S (fun q : Nat => s.heap.size ≤ q) s.heap H locs → LI K s.heap.size M co om H nc nsl → lv_has ls 4 [(3, .int (nI i)), (2, .ref om), (1, .ref co), (0, .ref b)] → W p l e room_1 s m args below meth c H locs nc nsl Q (F0 m 18 ls []) := by
  have hbA : ¬ (fun q : Nat => s.heap.size ≤ q) b := Nat.not_le.mpr hbl
  intro fz
  induction fz with
  | zero => intro i H locs nc nsl ls hf hi; omega
  | succ fz ih =>
    intro i H locs nc nsl ls hf hi h3 hS hI hl
    refine lv_iload_n hx hb (pc := 18) dL_law_18 rfl (lv_at hl 0 rfl) ?_
    refine lv_aload_n hx hb (pc := 19) dL_law_19 rfl (lv_at hl 3 rfl) ?_
    refine va_slen hx hb hX hbl hbA hS (pc := 20) dL_law_20 ?_
    refine lv_bipush (v := nI 6) hx hb (pc := 21) dL_law_21 (by decide) ?_
    refine lv_isub hx hb (pc := 23) dL_law_23 ?_
    refine lv_icmp_gt (tgt := 980) hx hb (pc := 24) dL_law_24 (by decide) (fun _ => ?_) (fun c24 => ?_)
    · exact fin H locs nc nsl ls hS hI
    · have h6 : i + 6 ≤ L := lw_six hL hi c24
      refine lv_aload_n hx hb (pc := 27) dL_law_27 rfl (lv_at hl 3 rfl) ?_
      refine lv_iload_n hx hb (pc := 28) dL_law_28 rfl (lv_at hl 0 rfl) ?_
      refine sc_ld hx hb hX hbl hbA hS hL (i := i) (by omega) (pc := 29) dL_law_29 ?_
      refine lv_bipush (v := nI 31) hx hb (pc := 30) dL_law_30 (by decide) ?_
      refine lv_iand hx hb (pc := 32) dL_law_32 ?_
      have kk : ∀ (H1 : Heap) (locs1 : List Loc) (nc1 nsl1 : Nat), va_S (fun q : Nat => s.heap.size ≤ q) s.heap H1 locs1 → LI K s.heap.size M co om H1 nc1 nsl1 → up ≤ H1.size → W p l e room_1 s m args below meth c H1 locs1 nc1 nsl1 Q (F0 m 974 ls []) := fun H1 locs1 nc1 nsl1 hS1 hI1 h31 => by
        refine lv_iinc (v := nI (i + 6)) (lv' := [(3, .int (nI (i + 6))), (2, .ref om), (1, .ref co), (0, .ref b)]) hx hb (pc := 974) dL_law_974 hl (k := 0) rfl (rr_inc6 i) (by decide) rfl (fun ls hl => ?_)
        refine lv_goto (tgt := 18) hx hb (pc := 977) dL_law_977 (by decide) ?_
        exact ih (i + 6) H1 locs1 nc1 nsl1 ls (by omega) h6 h31 hS1 hI1 hl
      generalize xs i &&& nI 31 = v9
      rcases Bool.eq_false_or_eq_true (rrin v9 (nI 0) (nI 25)) with cw | cw
      · obtain ⟨w9, _, hw9, rfl⟩ := rrin_Nat (by decide) (by decide) cw
        rcases (show w9 = 0 ∨ w9 = 1 ∨ w9 = 2 ∨ w9 = 3 ∨ w9 = 4 ∨ w9 = 5 ∨ w9 = 6 ∨ w9 = 7 ∨ w9 = 8 ∨ w9 = 9 ∨ w9 = 10 ∨ w9 = 11 ∨ w9 = 12 ∨ w9 = 13 ∨ w9 = 14 ∨ w9 = 15 ∨ w9 = 16 ∨ w9 = 17 ∨ w9 = 18 ∨ w9 = 19 ∨ w9 = 20 ∨ w9 = 21 ∨ w9 = 22 ∨ w9 = 23 ∨ w9 = 24 ∨ w9 = 25 by omega) with rfl | rfl | rfl | rfl | rfl | rfl | rfl | rfl | rfl | rfl | rfl | rfl | rfl | rfl | rfl | rfl | rfl | rfl | rfl | rfl | rfl | rfl | rfl | rfl | rfl | rfl
        · refine lv_tableIn (off := 119) (tgt := 152) hx hb (pc := 33) dL_law_33 (by decide +kernel) (by decide +kernel) (by decide +kernel) (by decide) ?_
          exact lc_set hx hb hml hown hts hKK hX hbl hL h6 h1 h3 hS hI hl kk
        · refine lv_tableIn (off := 152) (tgt := 185) hx hb (pc := 33) dL_law_33 (by decide +kernel) (by decide +kernel) (by decide +kernel) (by decide) ?_
          exact lc_way hx hb hml hown hts hKK hX hbl hL h6 h1 h3 hS hI hl kk
        · refine lv_tableIn (off := 205) (tgt := 238) hx hb (pc := 33) dL_law_33 (by decide +kernel) (by decide +kernel) (by decide +kernel) (by decide) ?_
          exact lc_unway hx hb hml hown hts hKK hX hbl hL h6 h1 h3 hS hI hl kk
        · refine lv_tableIn (off := 258) (tgt := 291) hx hb (pc := 33) dL_law_33 (by decide +kernel) (by decide +kernel) (by decide +kernel) (by decide) ?_
          exact lc_empty hx hb hml hown hts hKK hX hbl hL h6 h1 h3 hS hI hl kk
        · refine lv_tableIn (off := 271) (tgt := 304) hx hb (pc := 33) dL_law_33 (by decide +kernel) (by decide +kernel) (by decide +kernel) (by decide) ?_
          exact lc_letter hx hb hml hown hts hKK hX hbl hL h6 h1 h3 hS hI hl kk
        · refine lv_tableIn (off := 294) (tgt := 327) hx hb (pc := 33) dL_law_33 (by decide +kernel) (by decide +kernel) (by decide +kernel) (by decide) ?_
          exact lc_letterAt hx hb hml hown hts hKK hX hbl hL h6 h1 h3 hS hI hl kk
        · refine lv_tableIn (off := 317) (tgt := 350) hx hb (pc := 33) dL_law_33 (by decide +kernel) (by decide +kernel) (by decide +kernel) (by decide) ?_
          exact lc_forbid hx hb hml hown hts hKK hX hbl hL h6 h1 h3 hS hI hl kk
        · refine lv_tableIn (off := 330) (tgt := 363) hx hb (pc := 33) dL_law_33 (by decide +kernel) (by decide +kernel) (by decide +kernel) (by decide) ?_
          exact lc_unforbid hx hb hml hown hts hKK hX hbl hL h6 h1 h3 hS hI hl kk
        · refine lv_tableIn (off := 343) (tgt := 376) hx hb (pc := 33) dL_law_33 (by decide +kernel) (by decide +kernel) (by decide +kernel) (by decide) ?_
          exact lc_byWords hx hb hml hown hts hKK hX hbl hL h6 h1 h3 hS hI hl kk
        · refine lv_tableIn (off := 366) (tgt := 399) hx hb (pc := 33) dL_law_33 (by decide +kernel) (by decide +kernel) (by decide +kernel) (by decide) ?_
          exact lc_about hx hb hml hown hts hKK hX hbl hL h6 h1 h3 hS hI hl kk
        · refine lv_tableIn (off := 399) (tgt := 432) hx hb (pc := 33) dL_law_33 (by decide +kernel) (by decide +kernel) (by decide +kernel) (by decide) ?_
          exact lc_live hx hb hml hown hts hKK hX hbl hL h6 h1 h3 hS hI hl kk
        · refine lv_tableIn (off := 432) (tgt := 465) hx hb (pc := 33) dL_law_33 (by decide +kernel) (by decide +kernel) (by decide +kernel) (by decide) ?_
          exact lc_may hx hb hml hown hts hKK hX hbl hL h6 h1 h3 hS hI hl kk
        · refine lv_tableIn (off := 455) (tgt := 488) hx hb (pc := 33) dL_law_33 (by decide +kernel) (by decide +kernel) (by decide +kernel) (by decide) ?_
          exact lc_howMany hx hb hml hown hts hKK hX hbl hL h6 h1 h3 hS hI hl kk
        · refine lv_tableIn (off := 489) (tgt := 522) hx hb (pc := 33) dL_law_33 (by decide +kernel) (by decide +kernel) (by decide +kernel) (by decide) ?_
          exact lc_loops hx hb hml hown hts hKK hX hbl hL h6 h1 h3 hS hI hl kk
        · refine lv_tableIn (off := 523) (tgt := 556) hx hb (pc := 33) dL_law_33 (by decide +kernel) (by decide +kernel) (by decide +kernel) (by decide) ?_
          exact lc_rounds hx hb hml hown hts hKK hX hbl hL h6 h1 h3 hS hI hl kk
        · refine lv_tableIn (off := 556) (tgt := 589) hx hb (pc := 33) dL_law_33 (by decide +kernel) (by decide +kernel) (by decide +kernel) (by decide) ?_
          exact lc_growth hx hb hml hown hts hKK hX hbl hL h6 h1 h3 hS hI hl kk
        · refine lv_tableIn (off := 600) (tgt := 633) hx hb (pc := 33) dL_law_33 (by decide +kernel) (by decide +kernel) (by decide +kernel) (by decide) ?_
          exact lc_same hx hb hml hown hts hKK hX hbl hL h6 h1 h3 hS hI hl kk
        · refine lv_tableIn (off := 633) (tgt := 666) hx hb (pc := 33) dL_law_33 (by decide +kernel) (by decide +kernel) (by decide +kernel) (by decide) ?_
          exact lc_part hx hb hml hown hts hKK hX hbl hL h6 h1 h3 hS hI hl kk
        · refine lv_tableIn (off := 666) (tgt := 699) hx hb (pc := 33) dL_law_33 (by decide +kernel) (by decide +kernel) (by decide +kernel) (by decide) ?_
          exact lc_pace hx hb hml hown hts hKK hX hbl hL h6 h1 h3 hS hI hl kk
        · refine lv_tableIn (off := 699) (tgt := 732) hx hb (pc := 33) dL_law_33 (by decide +kernel) (by decide +kernel) (by decide +kernel) (by decide) ?_
          exact lc_window hx hb hml hown hts hKK hX hbl hL h6 h1 h3 hS hI hl kk
        · refine lv_tableIn (off := 722) (tgt := 755) hx hb (pc := 33) dL_law_33 (by decide +kernel) (by decide +kernel) (by decide +kernel) (by decide) ?_
          exact lc_tells hx hb hml hown hts hKK hX hbl hL h6 h1 h3 hS hI hl kk
        · refine lv_tableIn (off := 755) (tgt := 788) hx hb (pc := 33) dL_law_33 (by decide +kernel) (by decide +kernel) (by decide +kernel) (by decide) ?_
          exact lc_maps hx hb hml hown hts hKK hX hbl hL h6 h1 h3 hS hI hl kk
        · refine lv_tableIn (off := 788) (tgt := 821) hx hb (pc := 33) dL_law_33 (by decide +kernel) (by decide +kernel) (by decide +kernel) (by decide) ?_
          exact lc_weights hx hb hml hown hts hKK hX hbl hL h6 h1 h3 hS hI hl kk
        · refine lv_tableIn (off := 841) (tgt := 874) hx hb (pc := 33) dL_law_33 (by decide +kernel) (by decide +kernel) (by decide +kernel) (by decide) ?_
          exact lc_weight hx hb hml hown hts hKK hX hbl hL h6 h1 h3 hS hI hl kk
        · refine lv_tableIn (off := 904) (tgt := 937) hx hb (pc := 33) dL_law_33 (by decide +kernel) (by decide +kernel) (by decide +kernel) (by decide) ?_
          exact lc_count hx hb hml hown hts hKK hX hbl hL h6 h1 h3 hS hI hl kk
        · refine lv_tableIn (off := 927) (tgt := 960) hx hb (pc := 33) dL_law_33 (by decide +kernel) (by decide +kernel) (by decide +kernel) (by decide) ?_
          exact lc_digest hx hb hml hown hts hKK hX hbl hL h6 h1 h3 hS hI hl kk
      · refine lv_tableOut (tgt := 974) hx hb (pc := 33) dL_law_33 (rrin_no (by decide) (by decide) cw) (by decide) ?_
        exact kk H locs nc nsl hS hI h3
/-- from the entry to the loop -/
theorem lw_begin {p : Program} {l : Launch} {e : Env} {s : State} {m : MethodId} {below : List Frame} {meth : Method} {c : Code} {Q : State → Prop} {b L : Nat} {xs : Nat → Int32} {ls : Array Slot} (hx : p.tables.exec = Jvm.exec) (hb : c.code = cL_law) (hml : c.maxLocals = 4) (hown : s.vm.findClass RL = some m.cls) (hts0 : ∀ w ∈ lw_tbl, w.before #[Value.ref b] s = true) (hX : va_X b L xs s s.heap) (hbl : b < s.heap.size) (hL : L ≤ 3072) (fin : ∀ (H : Heap) (locs : List Loc) (nc nsl : Nat) (ls : Array Slot), nc ≤ 600000 → nsl ≤ 7302250 → va_S (fun q : Nat => s.heap.size ≤ q) s.heap H locs → W p l e room_1 s m #[Value.ref b] below meth c H locs nc nsl Q (F0 m 980 ls [])) (hl : lv_has ls 4 [(0, .ref b)]) : W p l e room_1 s m #[Value.ref b] below meth c s.heap [] 0 0 Q (F0 m 0 ls []) := by
  have hts : ∀ w ∈ wsL_law, w.before #[Value.ref b] s = true := fun w h => hts0 w (wsL_law_in w h)
  have hA : ∀ q : Nat, s.heap.size ≤ q → (fun q : Nat => s.heap.size ≤ q) q := fun _ h => h
  obtain ⟨K, hKK⟩ := lw_K hts0
  have hS : va_S (fun q : Nat => s.heap.size ≤ q) s.heap s.heap [] := va_S.rf
  have hP : va_P K.1 vwCl [] s.heap := fun k q h => by simp at h
  have hD : va_D (fun q : Nat => s.heap.size ≤ q) [] := ⟨fun i j p q h => by simp at h, fun k q h => by simp at h⟩
  refine va_new (ci := 9) (fs := [.null, .int (nI 0), .null, .int (nI 0), .null, .null, .null, .null, .null, .null, .null]) (C := RX9) (T := TX9) (N := 11) hx hb hts inlX9 tyX9 tyX9_ok hown (hts _ (List.mem_of_getElem? (i := 0) (by decide +kernel))) (hts _ (List.mem_of_getElem? (i := 1) (by decide +kernel))) (hts _ (List.mem_of_getElem? (i := 2) (by decide +kernel))) hKK.1 hP hD hS hA rfl (fun j hj => by rcases (show j = 0 ∨ j = 1 ∨ j = 2 ∨ j = 3 ∨ j = 4 ∨ j = 5 ∨ j = 6 ∨ j = 7 ∨ j = 8 ∨ j = 9 ∨ j = 10 by omega) with rfl | rfl | rfl | rfl | rfl | rfl | rfl | rfl | rfl | rfl | rfl <;> rfl) (Nat.le_of_ble_eq_true rfl) (Nat.le_of_ble_eq_true rfl) (pc := 0) dL_law_0 (fun co H hP hD hS => ?_)
  have hP : va_P K.1 vwCl [(co, .inr (9, [.null, .int (nI 0), .null, .int (nI 0), .null, .null, .null, .null, .null, .null, .null]))] H := hP
  have hD : va_D (fun q : Nat => s.heap.size ≤ q) [(co, .inr (9, [.null, .int (nI 0), .null, .int (nI 0), .null, .null, .null, .null, .null, .null, .null]))] := hD
  refine lv_dup hx hb (pc := 3) dL_law_3 rfl ?_
  have hAO : va_AO "RowRules$Graph" s := va_AO.of (hts0 _ (List.mem_append_right _ (List.mem_of_getElem? (i := 25) (by decide +kernel))))
  refine rr_callV (pc := 4) (va_runI (As := []) (rest := [.ref co]) ⟨hx, hb, hml, hown, hts⟩ (c_X9_init3 l K (fun q : Nat => s.heap.size ≤ q) H.size co (fun q h => Nat.le_trans hS.1 h) hD) (cwI 0 hts gL_law_X9_init rfl rfl rfl (hts _ (List.mem_of_getElem? (i := 2) (by decide +kernel))) (hts _ (List.mem_of_getElem? (i := 6) (by decide +kernel))) (hts _ (List.mem_of_getElem? (i := 7) (by decide +kernel))) rfl (by decide +kernel) ⟨Nat.le_of_ble_eq_true rfl, Nat.le_of_ble_eq_true rfl⟩) (rr_preSa hKK hAO (⟨rfl, hP⟩)) rfl rfl hl.1 rfl (lv_room (Nat.le_of_ble_eq_true rfl)) dL_law_4 ⟨Nat.le_of_ble_eq_true rfl, Nat.le_of_ble_eq_true rfl⟩) hS (fun _ h => h) (fun H1 locs hY hsz hfr hS => ?_)
  obtain ⟨ca, bh, my, lg, mk, mn, ms, xa, xb, xv, xw, rfl, hPc, hDc⟩ := hY
  refine lv_astore_n (lv' := [(1, .ref (ca 0)), (0, .ref b)]) hx hb (pc := 7) dL_law_7 rfl hl (by decide) rfl (fun ls hl => ?_)
  have hP := hPc
  have hD := hDc
  refine va_new (ci := 10) (fs := [.int (nI 0), .null, .null, .null, .int (nI 0), .null, .int (nI 0), .null, .null, .int (nI 0), .null, .null, .null, .null, .null, .null, .null, .null, .null, .null, .null, .null, .null, .null, .int (nI 0), .null, .null]) (C := RX10) (T := TX10) (N := 27) hx hb hts inlX10 tyX10 tyX10_ok hown (hts _ (List.mem_of_getElem? (i := 3) (by decide +kernel))) (hts _ (List.mem_of_getElem? (i := 4) (by decide +kernel))) (hts _ (List.mem_of_getElem? (i := 5) (by decide +kernel))) hKK.1 hP hD hS hA rfl (fun j hj => by rcases (show j = 0 ∨ j = 1 ∨ j = 2 ∨ j = 3 ∨ j = 4 ∨ j = 5 ∨ j = 6 ∨ j = 7 ∨ j = 8 ∨ j = 9 ∨ j = 10 ∨ j = 11 ∨ j = 12 ∨ j = 13 ∨ j = 14 ∨ j = 15 ∨ j = 16 ∨ j = 17 ∨ j = 18 ∨ j = 19 ∨ j = 20 ∨ j = 21 ∨ j = 22 ∨ j = 23 ∨ j = 24 ∨ j = 25 ∨ j = 26 by omega) with rfl | rfl | rfl | rfl | rfl | rfl | rfl | rfl | rfl | rfl | rfl | rfl | rfl | rfl | rfl | rfl | rfl | rfl | rfl | rfl | rfl | rfl | rfl | rfl | rfl | rfl | rfl <;> rfl) (Nat.le_of_ble_eq_true rfl) (Nat.le_of_ble_eq_true rfl) (pc := 8) dL_law_8 (fun om H hP hD hS => ?_)
  have hP : va_P K.1 vwCl (XC K ca bh my lg mk mn ms xa xb xv xw 0 0 0 1 1 1 64 (fun _ => none) (fun _ => 0) (fun _ => 0) (fun _ => 0) (fun _ => 0) (fun _ => 0) (fun _ => 0) (fun _ => 0) (fun _ => 0) (fun _ => 0) (fun _ => 0) (fun _ => 0) (fun _ => 0) (fun _ => 0) (fun _ => 0) (fun _ => 0) (fun _ => nI 0) (fun _ => 0) (fun _ => 0) (fun _ => nI 0) (fun _ => nI 0) ([] : List Nat) (nI 0) (nI 0) ++ [(om, .inr (10, [.int (nI 0), .null, .null, .null, .int (nI 0), .null, .int (nI 0), .null, .null, .int (nI 0), .null, .null, .null, .null, .null, .null, .null, .null, .null, .null, .null, .null, .null, .null, .int (nI 0), .null, .null]))]) H := hP
  have hD : va_D (fun q : Nat => s.heap.size ≤ q) (XC K ca bh my lg mk mn ms xa xb xv xw 0 0 0 1 1 1 64 (fun _ => none) (fun _ => 0) (fun _ => 0) (fun _ => 0) (fun _ => 0) (fun _ => 0) (fun _ => 0) (fun _ => 0) (fun _ => 0) (fun _ => 0) (fun _ => 0) (fun _ => 0) (fun _ => 0) (fun _ => 0) (fun _ => 0) (fun _ => 0) (fun _ => nI 0) (fun _ => 0) (fun _ => 0) (fun _ => nI 0) (fun _ => nI 0) ([] : List Nat) (nI 0) (nI 0) ++ [(om, .inr (10, [.int (nI 0), .null, .null, .null, .int (nI 0), .null, .int (nI 0), .null, .null, .int (nI 0), .null, .null, .null, .null, .null, .null, .null, .null, .null, .null, .null, .null, .null, .null, .int (nI 0), .null, .null]))]) := hD
  refine lv_dup hx hb (pc := 11) dL_law_11 rfl ?_
  have hA1 := A1_in (n := H.size) (rr_Dright hD) (fun q h => Nat.le_trans hS.1 h)
  refine rr_callV (pc := 12) (va_runI (As := []) (rest := [.ref om]) ⟨hx, hb, hml, hown, hts⟩ (c_X10_init l K (va_A [(om, .inr (10, [.int (nI 0), .null, .null, .null, .int (nI 0), .null, .int (nI 0), .null, .null, .int (nI 0), .null, .null, .null, .null, .null, .null, .null, .null, .null, .null, .null, .null, .null, .null, .int (nI 0), .null, .null]))] H.size) H.size om (fun q h => Or.inr h) (rr_Dright hD).self) (cwI 0 hts gL_law_X10_init rfl rfl rfl (hts _ (List.mem_of_getElem? (i := 5) (by decide +kernel))) (hts _ (List.mem_of_getElem? (i := 104) (by decide +kernel))) (hts _ (List.mem_of_getElem? (i := 105) (by decide +kernel))) rfl (by decide +kernel) ⟨Nat.le_of_ble_eq_true rfl, Nat.le_of_ble_eq_true rfl⟩) (rr_preS hKK (⟨rfl, rr_right hP⟩)) rfl rfl hl.1 rfl (lv_room (Nat.le_of_ble_eq_true rfl)) dL_law_12 ⟨Nat.le_of_ble_eq_true rfl, Nat.le_of_ble_eq_true rfl⟩) hS hA1 (fun H2 locs2 hY hsz2 hfr2 hS => ?_)
  obtain ⟨ad, hPm, hDm⟩ := hY
  have hout := W_out hD (rr_left hP)
  have hPx := P_keep (rr_left hP) hfr2 hout
  have hMi : MI K (AW (XM K om ad 0 0 0 1 0 (fun _ => 0) (fun _ => 0) (fun _ => 0) (fun _ => 0) (fun _ => 0) (fun _ => 0) (fun _ => 0) (fun _ => 0) (fun _ => 0) (fun _ => 0) (fun _ => 0) (fun _ => 0) (fun _ => 0) (fun _ => 0) (fun _ => 0) (fun _ => 0) (fun _ => 0) (fun _ => 0) (fun _ => nI 0) (fun _ => nI 0) (fun _ => nI 0) (fun _ => nI 0))) om 0 0 0 1 (fun _ => 0) (fun _ => 0) (fun _ => 0) (fun _ => 0) (fun _ => 0) (fun _ => 0) (fun _ => 0) H2 := ⟨ad, 0, (fun _ => 0), (fun _ => 0), (fun _ => 0), (fun _ => 0), (fun _ => 0), (fun _ => 0), (fun _ => 0), (fun _ => 0), (fun _ => 0), (fun _ => 0), (fun _ => 0), (fun _ => nI 0), (fun _ => nI 0), (fun _ => nI 0), (fun _ => nI 0), hPm, ⟨hDm.1, fun k q hk => ⟨k, q.2, hk⟩⟩, fun _ _ => rfl⟩
  have hCi : CI K (CA s.heap.size (AW (XM K om ad 0 0 0 1 0 (fun _ => 0) (fun _ => 0) (fun _ => 0) (fun _ => 0) (fun _ => 0) (fun _ => 0) (fun _ => 0) (fun _ => 0) (fun _ => 0) (fun _ => 0) (fun _ => 0) (fun _ => 0) (fun _ => 0) (fun _ => 0) (fun _ => 0) (fun _ => 0) (fun _ => 0) (fun _ => 0) (fun _ => nI 0) (fun _ => nI 0) (fun _ => nI 0) (fun _ => nI 0)))) (ca 0) 64 1 0 0 0 1 (fun _ => 0) (fun _ => 0) (fun _ => 0) (fun _ => 0) (fun _ => 0) (fun _ => 0) (fun _ => 0) H2 := CI_0 hPx ⟨(rr_Dleft hD).1, fun k q hk => ⟨(rr_Dleft hD).2 k q hk, fun hm => hout q.1 ⟨k, q.2, hk⟩ (D_AW hDm hm)⟩⟩
  refine lv_astore_n (lv' := [(2, .ref om), (1, .ref (ca 0)), (0, .ref b)]) hx hb (pc := 15) dL_law_15 rfl hl (by decide) rfl (fun ls hl => ?_)
  refine lv_iconst (v := nI 0) hx hb (pc := 16) dL_law_16 (by decide) ?_
  refine lv_istore_n (lv' := [(3, .int (nI 0)), (2, .ref om), (1, .ref (ca 0)), (0, .ref b)]) hx hb (pc := 17) dL_law_17 rfl hl (by decide) rfl (fun ls hl => ?_)
  refine lw_loop hx hb hml hown hts hKK hX hbl hL (fun q h => ⟨hA1 q (D_AW hDm h), AW_lt hPm h⟩) (fun H9 locs9 nc nsl ls9 hS9 hI9 => ?_) (L + 1) 0 H2 locs2 _ _ ls (by omega) (Nat.zero_le _) (Nat.le_refl _) hS ⟨64, 1, 0, 0, 0, 1, (fun _ => 0), (fun _ => 0), (fun _ => 0), (fun _ => 0), (fun _ => 0), (fun _ => 0), (fun _ => 0), NI_0, hCi, hMi, by decide, by decide, Nat.le_of_ble_eq_true rfl, Nat.le_of_ble_eq_true rfl⟩ hl
  obtain ⟨cap, room, ns, wl, nf, wd, kF, nF, yF, WD, FL, FW, TD, hN, _, _, h4, h5, h6, h7⟩ := hI9
  have h8 := hN.1.1
  exact fin H9 locs9 nc nsl ls9 (by omega) (by omega) hS9
end
