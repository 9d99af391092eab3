abbrev rmJ6_bitCount_0f7a4 : Room := { frames := 0, cells := 0, slots := 0, locals := 0 }
set_option maxHeartbeats 4000000 in
set_option maxRecDepth 100000 in
theorem c_J6_bitCount_0f7a4 (l : Launch) (K : rr_K) (x : Nat) (hv : x < 65536) : MetP l K yJ6_bitCount_0f7a4 wsJ6_bitCount_0f7a4 rmJ6_bitCount_0f7a4 [.int (nI x)] (fun H => True) (.int (nI (pc x))) := by
  refine metP_of (cc := cJ6_bitCount_0f7a4) (maxL := 1) (ret := (some .int)) (rt := .int) (by decide) rfl rfl (Nat.le_of_ble_eq_true rfl) ?_
  intro p e s m args below meth c Q ls hEnt hKK hX hret hl
  obtain ⟨hx, hb, hml, hown, hts⟩ := hEnt
  have hl : lv_has ls 1 [(0, .int (nI x))] := hl
  have b1 := bc1_in x
  have b2 := bc1_le x
  have b3 := bc2_le x
  have b4 := bc3_le x
  have b5 := bc4_le x
  have b6 := bc5_le x
  refine lv_iload_n hx hb (pc := 0) dJ6_bitCount_0f7a4_0 rfl (lv_at hl 0 rfl) ?_
  refine lv_iload_n hx hb (pc := 1) dJ6_bitCount_0f7a4_1 rfl (lv_at hl 0 rfl) ?_
  refine lv_iconst (v := nI 1) hx hb (pc := 2) dJ6_bitCount_0f7a4_2 (by decide) ?_
  refine nv_iushr (a := x) (b := 1) hx hb (pc := 3) dJ6_bitCount_0f7a4_3 (by omega) (by omega) ?_
  refine lv_ldcw (v := nI 1431655765) hx hb (pc := 4) hown (hts _ (List.mem_of_getElem? (i := 1) (by decide +kernel))) dJ6_bitCount_0f7a4_4 ?_
  refine nv_iand (a := (x >>> 1)) (b := 1431655765) hx hb (pc := 7) dJ6_bitCount_0f7a4_7 ?_
  refine nv_isub (a := x) (b := ((x >>> 1) &&& 1431655765)) hx hb (pc := 8) dJ6_bitCount_0f7a4_8 (by omega) ?_
  refine rr_top (v := .int (nI (bc1 x))) (rfl) ?_
  refine lv_istore_n (lv' := [(0, .int (nI (bc1 x)))]) hx hb (pc := 9) dJ6_bitCount_0f7a4_9 rfl hl (by decide) rfl (fun ls hl => ?_)
  refine lv_iload_n hx hb (pc := 10) dJ6_bitCount_0f7a4_10 rfl (lv_at hl 0 rfl) ?_
  refine lv_ldcw (v := nI 858993459) hx hb (pc := 11) hown (hts _ (List.mem_of_getElem? (i := 2) (by decide +kernel))) dJ6_bitCount_0f7a4_11 ?_
  refine nv_iand (a := (bc1 x)) (b := 858993459) hx hb (pc := 14) dJ6_bitCount_0f7a4_14 ?_
  refine lv_iload_n hx hb (pc := 15) dJ6_bitCount_0f7a4_15 rfl (lv_at hl 0 rfl) ?_
  refine lv_iconst (v := nI 2) hx hb (pc := 16) dJ6_bitCount_0f7a4_16 (by decide) ?_
  refine nv_iushr (a := (bc1 x)) (b := 2) hx hb (pc := 17) dJ6_bitCount_0f7a4_17 (by omega) (by omega) ?_
  refine lv_ldcw (v := nI 858993459) hx hb (pc := 18) hown (hts _ (List.mem_of_getElem? (i := 2) (by decide +kernel))) dJ6_bitCount_0f7a4_18 ?_
  refine nv_iand (a := ((bc1 x) >>> 2)) (b := 858993459) hx hb (pc := 21) dJ6_bitCount_0f7a4_21 ?_
  refine nv_iadd (a := ((bc1 x) &&& 858993459)) (b := (((bc1 x) >>> 2) &&& 858993459)) hx hb (pc := 22) dJ6_bitCount_0f7a4_22 ?_
  refine rr_top (v := .int (nI (bc2 x))) (rfl) ?_
  refine lv_istore_n (lv' := [(0, .int (nI (bc2 x)))]) hx hb (pc := 23) dJ6_bitCount_0f7a4_23 rfl hl (by decide) rfl (fun ls hl => ?_)
  refine lv_iload_n hx hb (pc := 24) dJ6_bitCount_0f7a4_24 rfl (lv_at hl 0 rfl) ?_
  refine lv_iload_n hx hb (pc := 25) dJ6_bitCount_0f7a4_25 rfl (lv_at hl 0 rfl) ?_
  refine lv_iconst (v := nI 4) hx hb (pc := 26) dJ6_bitCount_0f7a4_26 (by decide) ?_
  refine nv_iushr (a := (bc2 x)) (b := 4) hx hb (pc := 27) dJ6_bitCount_0f7a4_27 (by omega) (by omega) ?_
  refine nv_iadd (a := (bc2 x)) (b := ((bc2 x) >>> 4)) hx hb (pc := 28) dJ6_bitCount_0f7a4_28 ?_
  refine lv_ldcw (v := nI 252645135) hx hb (pc := 29) hown (hts _ (List.mem_of_getElem? (i := 3) (by decide +kernel))) dJ6_bitCount_0f7a4_29 ?_
  refine nv_iand (a := ((bc2 x) + ((bc2 x) >>> 4))) (b := 252645135) hx hb (pc := 32) dJ6_bitCount_0f7a4_32 ?_
  refine rr_top (v := .int (nI (bc3 x))) (rfl) ?_
  refine lv_istore_n (lv' := [(0, .int (nI (bc3 x)))]) hx hb (pc := 33) dJ6_bitCount_0f7a4_33 rfl hl (by decide) rfl (fun ls hl => ?_)
  refine lv_iload_n hx hb (pc := 34) dJ6_bitCount_0f7a4_34 rfl (lv_at hl 0 rfl) ?_
  refine lv_iload_n hx hb (pc := 35) dJ6_bitCount_0f7a4_35 rfl (lv_at hl 0 rfl) ?_
  refine lv_bipush (v := nI 8) hx hb (pc := 36) dJ6_bitCount_0f7a4_36 (by decide) ?_
  refine nv_iushr (a := (bc3 x)) (b := 8) hx hb (pc := 38) dJ6_bitCount_0f7a4_38 (by omega) (by omega) ?_
  refine nv_iadd (a := (bc3 x)) (b := ((bc3 x) >>> 8)) hx hb (pc := 39) dJ6_bitCount_0f7a4_39 ?_
  refine rr_top (v := .int (nI (bc4 x))) (rfl) ?_
  refine lv_istore_n (lv' := [(0, .int (nI (bc4 x)))]) hx hb (pc := 40) dJ6_bitCount_0f7a4_40 rfl hl (by decide) rfl (fun ls hl => ?_)
  refine lv_iload_n hx hb (pc := 41) dJ6_bitCount_0f7a4_41 rfl (lv_at hl 0 rfl) ?_
  refine lv_iload_n hx hb (pc := 42) dJ6_bitCount_0f7a4_42 rfl (lv_at hl 0 rfl) ?_
  refine lv_bipush (v := nI 16) hx hb (pc := 43) dJ6_bitCount_0f7a4_43 (by decide) ?_
  refine nv_iushr (a := (bc4 x)) (b := 16) hx hb (pc := 45) dJ6_bitCount_0f7a4_45 (by omega) (by omega) ?_
  refine nv_iadd (a := (bc4 x)) (b := ((bc4 x) >>> 16)) hx hb (pc := 46) dJ6_bitCount_0f7a4_46 ?_
  refine rr_top (v := .int (nI (bc5 x))) (rfl) ?_
  refine lv_istore_n (lv' := [(0, .int (nI (bc5 x)))]) hx hb (pc := 47) dJ6_bitCount_0f7a4_47 rfl hl (by decide) rfl (fun ls hl => ?_)
  refine lv_iload_n hx hb (pc := 48) dJ6_bitCount_0f7a4_48 rfl (lv_at hl 0 rfl) ?_
  refine lv_bipush (v := nI 63) hx hb (pc := 49) dJ6_bitCount_0f7a4_49 (by decide) ?_
  refine nv_iand (a := (bc5 x)) (b := 63) hx hb (pc := 51) dJ6_bitCount_0f7a4_51 ?_
  exact hret.1 52 _ (nI ((bc5 x) &&& 63)) dJ6_bitCount_0f7a4_52 (by rw [bc_eq hv]) (rfl)

abbrev rmX1_step : Room := { frames := 0, cells := 0, slots := 0, locals := 0 }
theorem inX1_step_1 : ∀ w ∈ wsX10, w ∈ wsX1_step := fun _ h => List.mem_cons_of_mem _ (List.mem_append_right _ h)
set_option maxHeartbeats 4000000 in
set_option maxRecDepth 100000 in
theorem c_X1_step (l : Launch) (K : rr_K) (go ge gt k n gw al lw : Nat) (E T : Nat → Nat) (f y : Nat) (hf : f < 65536) (hy : y < 4) (hk : k ≤ 4) : MetP l K yX1_step wsX1_step rmX1_step [.ref go, .int (nI f), .int (nI y)] (fun H => va_P K.1 vwCl (GW K go ge gt k n gw al lw E T) H) (.int (nI (stp k T f y))) := by
  refine metP_of (cc := cX1_step) (maxL := 4) (ret := (some .int)) (rt := .int) (by decide) rfl rfl (Nat.le_of_ble_eq_true rfl) ?_
  intro p e s m args below meth c Q ls hEnt hKK hX hret hl
  obtain ⟨hx, hb, hml, hown, hts⟩ := hEnt
  have hP : va_P K.1 vwCl (GW K go ge gt k n gw al lw E T) s.heap := hX
  have hl : lv_has ls 4 [(0, .ref go), (1, .int (nI f)), (2, .int (nI y))] := hl
  have h0 : f &&& 15 ≤ 15 := Nat.and_le_right
  have h1 : f >>> 4 &&& 15 ≤ 15 := Nat.and_le_right
  have h2 : f >>> 8 &&& 15 ≤ 15 := Nat.and_le_right
  have h3 : f >>> 12 &&& 15 ≤ 15 := Nat.and_le_right
  refine lv_iload_n hx hb (pc := 0) dX1_step_0 rfl (lv_at hl 2 rfl) ?_
  refine nv_if_nlt (a := y) hx hb (pc := 1) dX1_step_1 (by omega) ⟨12, by decide⟩ ?_
  refine lv_iload_n hx hb (pc := 4) dX1_step_4 rfl (lv_at hl 2 rfl) ?_
  refine lv_aload_n hx hb (pc := 5) dX1_step_5 rfl (lv_at hl 0 rfl) ?_
  refine va_get (v := .int (nI k)) hx hb hts (inX1_step_1) hown hKK.1 hP 0 rfl rfl 0 (by decide) (hts _ (List.mem_of_getElem? (i := 1) (by decide +kernel))) (fun _ h9 => h9) rfl (pc := 6) dX1_step_6 ?_
  refine nv_icmp_lt (a := y) (b := k) (tgt := 14) hx hb (pc := 9) dX1_step_9 (by decide) (by omega) (by omega) (fun c9 => ?_) (fun c9 => ?_)
  · refine lv_iload_n hx hb (pc := 14) dX1_step_14 rfl (lv_at hl 2 rfl) ?_
    refine lv_bipush (v := nI 64) hx hb (pc := 15) dX1_step_15 (by decide) ?_
    refine nv_imul (a := y) (b := 64) hx hb (pc := 17) dX1_step_17 ?_
    refine lv_istore_n (lv' := [(3, .int (nI (y * 64))), (0, .ref go), (1, .int (nI f)), (2, .int (nI y))]) hx hb (pc := 18) dX1_step_18 rfl hl (by decide) rfl (fun ls hl => ?_)
    refine lv_aload_n hx hb (pc := 19) dX1_step_19 rfl (lv_at hl 1 rfl) ?_
    refine va_get (v := .ref gt) hx hb hts (inX1_step_1) hown hKK.1 hP 0 rfl rfl 6 (by decide) (hts _ (List.mem_of_getElem? (i := 2) (by decide +kernel))) (fun _ h9 => h9) rfl (pc := 20) dX1_step_20 ?_
    refine lv_iload_n hx hb (pc := 23) dX1_step_23 rfl (lv_at hl 0 rfl) ?_
    refine lv_iload_n hx hb (pc := 24) dX1_step_24 rfl (lv_at hl 2 rfl) ?_
    refine lv_bipush (v := nI 15) hx hb (pc := 25) dX1_step_25 (by decide) ?_
    refine nv_iand (a := f) (b := 15) hx hb (pc := 27) dX1_step_27 ?_
    refine nv_iadd (a := (y * 64)) (b := (f &&& 15)) hx hb (pc := 28) dX1_step_28 ?_
    refine nv_iald (v := nI (T ((y * 64) + (f &&& 15)))) (i := ((y * 64) + (f &&& 15))) hx hb hKK hP 2 rfl (by omega) (by decide) (rfl) (pc := 29) dX1_step_29 ?_
    refine lv_aload_n hx hb (pc := 30) dX1_step_30 rfl (lv_at hl 1 rfl) ?_
    refine va_get (v := .ref gt) hx hb hts (inX1_step_1) hown hKK.1 hP 0 rfl rfl 6 (by decide) (hts _ (List.mem_of_getElem? (i := 2) (by decide +kernel))) (fun _ h9 => h9) rfl (pc := 31) dX1_step_31 ?_
    refine lv_iload_n hx hb (pc := 34) dX1_step_34 rfl (lv_at hl 0 rfl) ?_
    refine lv_bipush (v := nI 16) hx hb (pc := 35) dX1_step_35 (by decide) ?_
    refine nv_iadd (a := (y * 64)) (b := 16) hx hb (pc := 37) dX1_step_37 ?_
    refine lv_iload_n hx hb (pc := 38) dX1_step_38 rfl (lv_at hl 2 rfl) ?_
    refine lv_iconst (v := nI 4) hx hb (pc := 39) dX1_step_39 (by decide) ?_
    refine nv_ishr (a := f) (b := 4) hx hb (pc := 40) dX1_step_40 (by omega) (by omega) ?_
    refine lv_bipush (v := nI 15) hx hb (pc := 41) dX1_step_41 (by decide) ?_
    refine nv_iand (a := (f >>> 4)) (b := 15) hx hb (pc := 43) dX1_step_43 ?_
    refine nv_iadd (a := ((y * 64) + 16)) (b := ((f >>> 4) &&& 15)) hx hb (pc := 44) dX1_step_44 ?_
    refine nv_iald (v := nI (T (((y * 64) + 16) + ((f >>> 4) &&& 15)))) (i := (((y * 64) + 16) + ((f >>> 4) &&& 15))) hx hb hKK hP 2 rfl (by omega) (by decide) (rfl) (pc := 45) dX1_step_45 ?_
    refine nv_ior (a := (T ((y * 64) + (f &&& 15)))) (b := (T (((y * 64) + 16) + ((f >>> 4) &&& 15)))) hx hb (pc := 46) dX1_step_46 ?_
    refine lv_aload_n hx hb (pc := 47) dX1_step_47 rfl (lv_at hl 1 rfl) ?_
    refine va_get (v := .ref gt) hx hb hts (inX1_step_1) hown hKK.1 hP 0 rfl rfl 6 (by decide) (hts _ (List.mem_of_getElem? (i := 2) (by decide +kernel))) (fun _ h9 => h9) rfl (pc := 48) dX1_step_48 ?_
    refine lv_iload_n hx hb (pc := 51) dX1_step_51 rfl (lv_at hl 0 rfl) ?_
    refine lv_bipush (v := nI 32) hx hb (pc := 52) dX1_step_52 (by decide) ?_
    refine nv_iadd (a := (y * 64)) (b := 32) hx hb (pc := 54) dX1_step_54 ?_
    refine lv_iload_n hx hb (pc := 55) dX1_step_55 rfl (lv_at hl 2 rfl) ?_
    refine lv_bipush (v := nI 8) hx hb (pc := 56) dX1_step_56 (by decide) ?_
    refine nv_ishr (a := f) (b := 8) hx hb (pc := 58) dX1_step_58 (by omega) (by omega) ?_
    refine lv_bipush (v := nI 15) hx hb (pc := 59) dX1_step_59 (by decide) ?_
    refine nv_iand (a := (f >>> 8)) (b := 15) hx hb (pc := 61) dX1_step_61 ?_
    refine nv_iadd (a := ((y * 64) + 32)) (b := ((f >>> 8) &&& 15)) hx hb (pc := 62) dX1_step_62 ?_
    refine nv_iald (v := nI (T (((y * 64) + 32) + ((f >>> 8) &&& 15)))) (i := (((y * 64) + 32) + ((f >>> 8) &&& 15))) hx hb hKK hP 2 rfl (by omega) (by decide) (rfl) (pc := 63) dX1_step_63 ?_
    refine nv_ior (a := ((T ((y * 64) + (f &&& 15))) ||| (T (((y * 64) + 16) + ((f >>> 4) &&& 15))))) (b := (T (((y * 64) + 32) + ((f >>> 8) &&& 15)))) hx hb (pc := 64) dX1_step_64 ?_
    refine lv_aload_n hx hb (pc := 65) dX1_step_65 rfl (lv_at hl 1 rfl) ?_
    refine va_get (v := .ref gt) hx hb hts (inX1_step_1) hown hKK.1 hP 0 rfl rfl 6 (by decide) (hts _ (List.mem_of_getElem? (i := 2) (by decide +kernel))) (fun _ h9 => h9) rfl (pc := 66) dX1_step_66 ?_
    refine lv_iload_n hx hb (pc := 69) dX1_step_69 rfl (lv_at hl 0 rfl) ?_
    refine lv_bipush (v := nI 48) hx hb (pc := 70) dX1_step_70 (by decide) ?_
    refine nv_iadd (a := (y * 64)) (b := 48) hx hb (pc := 72) dX1_step_72 ?_
    refine lv_iload_n hx hb (pc := 73) dX1_step_73 rfl (lv_at hl 2 rfl) ?_
    refine lv_bipush (v := nI 12) hx hb (pc := 74) dX1_step_74 (by decide) ?_
    refine nv_ishr (a := f) (b := 12) hx hb (pc := 76) dX1_step_76 (by omega) (by omega) ?_
    refine lv_bipush (v := nI 15) hx hb (pc := 77) dX1_step_77 (by decide) ?_
    refine nv_iand (a := (f >>> 12)) (b := 15) hx hb (pc := 79) dX1_step_79 ?_
    refine nv_iadd (a := ((y * 64) + 48)) (b := ((f >>> 12) &&& 15)) hx hb (pc := 80) dX1_step_80 ?_
    refine nv_iald (v := nI (T (((y * 64) + 48) + ((f >>> 12) &&& 15)))) (i := (((y * 64) + 48) + ((f >>> 12) &&& 15))) hx hb hKK hP 2 rfl (by omega) (by decide) (rfl) (pc := 81) dX1_step_81 ?_
    refine nv_ior (a := (((T ((y * 64) + (f &&& 15))) ||| (T (((y * 64) + 16) + ((f >>> 4) &&& 15)))) ||| (T (((y * 64) + 32) + ((f >>> 8) &&& 15))))) (b := (T (((y * 64) + 48) + ((f >>> 12) &&& 15)))) hx hb (pc := 82) dX1_step_82 ?_
    exact hret.1 83 _ (nI ((((T ((y * 64) + (f &&& 15))) ||| (T (((y * 64) + 16) + ((f >>> 4) &&& 15)))) ||| (T (((y * 64) + 32) + ((f >>> 8) &&& 15)))) ||| (T (((y * 64) + 48) + ((f >>> 12) &&& 15))))) dX1_step_83 (by rw [stp, if_pos c9]) (rfl)
  · refine lv_iconst (v := nI 0) hx hb (pc := 12) dX1_step_12 (by decide) ?_
    exact hret.1 13 _ (nI 0) dX1_step_13 (by rw [stp, if_neg (by omega)]) (rfl)

abbrev rmX1_stillLinked : Room := { frames := 3, cells := 0, slots := 0, locals := 66 }
theorem inX1_stillLinked_1 : ∀ w ∈ wsX10, w ∈ wsX1_stillLinked := fun _ h => List.mem_cons_of_mem _ (List.mem_append_right _ h)
set_option maxHeartbeats 4000000 in
set_option maxRecDepth 100000 in
theorem c_X1_stillLinked (l : Launch) (K : rr_K) (go ge gt k n gw al lw : Nat) (E T : Nat → Nat) (hal : al < 65536) (hk : k ≤ 4) (hn : n ≤ 16) : MetP l K yX1_stillLinked wsX1_stillLinked rmX1_stillLinked [.ref go] (fun H => va_P K.1 vwCl (GW K go ge gt k n gw al lw E T) H) (.int (nI (lst k n E al))) := by
  refine metP_of (cc := cX1_stillLinked) (maxL := 5) (ret := (some .int)) (rt := .int) (by decide) rfl rfl (Nat.le_of_ble_eq_true rfl) ?_
  intro p e s m args below meth c Q ls hEnt hKK hX hret hl
  obtain ⟨hx, hb, hml, hown, hts⟩ := hEnt
  have hP : va_P K.1 vwCl (GW K go ge gt k n gw al lw E T) s.heap := hX
  have hl : lv_has ls 5 [(0, .ref go)] := hl
  have hlO : ∀ q, lO k al E q < 65536 := fun q => orN_lt (b := 16) (fun i _ => lvE_lt (b := 16) hal E q i)
  refine lv_iconst (v := nI 0) hx hb (pc := 0) dX1_stillLinked_0 (by decide) ?_
  refine lv_istore_n (lv' := [(1, .int (nI 0)), (0, .ref go)]) hx hb (pc := 1) dX1_stillLinked_1 rfl hl (by decide) rfl (fun ls hl => ?_)
  refine lv_iconst (v := nI 0) hx hb (pc := 2) dX1_stillLinked_2 (by decide) ?_
  refine lv_istore_n (lv' := [(2, .int (nI 0)), (1, .int (nI 0)), (0, .ref go)]) hx hb (pc := 3) dX1_stillLinked_3 rfl hl (by decide) rfl (fun ls hl => ?_)
  refine lv_iconst (v := nI 0) hx hb (pc := 4) dX1_stillLinked_4 (by decide) ?_
  refine lv_istore_n (lv' := [(3, .int (nI 0)), (2, .int (nI 0)), (1, .int (nI 0)), (0, .ref go)]) hx hb (pc := 5) dX1_stillLinked_5 rfl hl (by decide) rfl (fun ls hl => ?_)
  have L6 : ∀ (fz : Nat) (q : Nat) (hfz : n - q < fz) (hq : q ≤ n) (ls : Array Slot) (hl : lv_has ls 5 [(0, .ref go), (1, .int (nI (orN q (ldg (lO k al E))))), (2, .int (nI (orN q (lO k al E)))), (3, .int (nI q))]), W p l e rmX1_stillLinked s m args below meth c s.heap [] 0 0 Q (F0 m 6 ls []) := by
    intro fz; induction fz with
    | zero => intro q hfz hq ls hl; exact absurd hfz (Nat.not_lt_zero _)
    | succ fz ih6 =>
      intro q hfz hq ls hl
      refine lv_iload_n hx hb (pc := 6) dX1_stillLinked_6 rfl (lv_at hl 3 rfl) ?_
      refine lv_aload_n hx hb (pc := 7) dX1_stillLinked_7 rfl (lv_at hl 0 rfl) ?_
      refine va_get (v := .int (nI n)) hx hb hts (inX1_stillLinked_1) hown hKK.1 hP 0 rfl rfl 1 (by decide) (hts _ (List.mem_of_getElem? (i := 1) (by decide +kernel))) (fun _ h9 => h9) rfl (pc := 8) dX1_stillLinked_8 ?_
      refine nv_icmp_ge (a := q) (b := n) (tgt := 43) hx hb (pc := 11) dX1_stillLinked_11 (by decide) (by omega) (by omega) (fun c11 => ?_) (fun c11 => ?_)
      · refine lv_iload_n hx hb (pc := 43) dX1_stillLinked_43 rfl (lv_at hl 1 rfl) ?_
        refine lv_iload_n hx hb (pc := 44) dX1_stillLinked_44 rfl (lv_at hl 2 rfl) ?_
        refine nv_iand (a := (orN q (ldg (lO k al E)))) (b := (orN q (lO k al E))) hx hb (pc := 45) dX1_stillLinked_45 ?_
        obtain rfl : q = n := by omega
        exact hret.1 46 _ (nI ((orN q (ldg (lO k al E))) &&& (orN q (lO k al E)))) dX1_stillLinked_46 (rfl) (rfl)
      · refine lv_aload_n hx hb (pc := 14) dX1_stillLinked_14 rfl (lv_at hl 0 rfl) ?_
        refine lv_iload_n hx hb (pc := 15) dX1_stillLinked_15 rfl (lv_at hl 3 rfl) ?_
        refine rr_callP (rv := .int (nI (lO k al E q))) (pc := 16) (va_runV (As := [.int (nI q)]) (rest := []) ⟨hx, hb, hml, hown, hts⟩ (c_X1_liveOuts l K go ge gt k n gw al lw E T q hal (by omega) hk) (cwV 1 hts gX1_stillLinked_X1_liveOuts rfl rfl rfl (by decide +kernel) ⟨Nat.le_of_ble_eq_true rfl, Nat.le_of_ble_eq_true rfl⟩) (rr_preV hKK (hP) (va_recv hKK.1 hP (ci := 1) (q0 := 0) rfl rfl)) rfl rfl hl.1 rfl (lv_room (Nat.le_of_ble_eq_true rfl)) dX1_stillLinked_16 ⟨Nat.le_refl _, Nat.le_refl _⟩) ?_
        refine lv_istore (lv' := [(4, .int (nI (lO k al E q))), (0, .ref go), (1, .int (nI (orN q (ldg (lO k al E))))), (2, .int (nI (orN q (lO k al E)))), (3, .int (nI q))]) hx hb (pc := 19) dX1_stillLinked_19 hl (by decide) rfl (fun ls hl => ?_)
        refine lv_iload_n hx hb (pc := 21) dX1_stillLinked_21 rfl (lv_at hl 3 rfl) ?_
        refine lv_iload hx hb (pc := 22) dX1_stillLinked_22 (lv_at hl 0 rfl) ?_
        refine nv_ior (a := (orN q (lO k al E))) (b := (lO k al E q)) hx hb (pc := 24) dX1_stillLinked_24 ?_
        refine lv_istore_n (lv' := [(2, .int (nI ((orN q (lO k al E)) ||| (lO k al E q)))), (4, .int (nI (lO k al E q))), (0, .ref go), (1, .int (nI (orN q (ldg (lO k al E))))), (3, .int (nI q))]) hx hb (pc := 25) dX1_stillLinked_25 rfl hl (by decide) rfl (fun ls hl => ?_)
        refine lv_iload hx hb (pc := 26) dX1_stillLinked_26 (lv_at hl 1 rfl) ?_
        refine nv_if_eq (a := (lO k al E q)) (tgt := 37) hx hb (pc := 28) dX1_stillLinked_28 (by decide) (Nat.lt_trans (hlO q) (by decide)) (fun c28 => ?_) (fun c28 => ?_)
        · refine lv_iinc (v := nI (q + 1)) (lv' := [(3, .int (nI (q + 1))), (2, .int (nI ((orN q (lO k al E)) ||| (lO k al E q)))), (4, .int (nI (lO k al E q))), (0, .ref go), (1, .int (nI (orN q (ldg (lO k al E)))))]) hx hb (pc := 37) dX1_stillLinked_37 hl (k := 4) rfl (rr_inc _) (by decide) rfl (fun ls hl => ?_)
          refine lv_goto (tgt := 6) hx hb (pc := 40) dX1_stillLinked_40 (by decide) ?_
          have hl : lv_has ls 5 [(3, .int (nI (q + 1))), (2, .int (nI ((orN q (lO k al E)) ||| (lO k al E q)))), (4, .int (nI (lO k al E q))), (0, .ref go), (1, .int (nI (orN (q + 1) (ldg (lO k al E)))))] := by rw [show orN (q + 1) (ldg (lO k al E)) = orN q (ldg (lO k al E)) from by simp [orN_succ, ldg, c28]]; exact hl
          exact ih6 (q + 1) (by omega) (by omega) ls (lv_sub hl [3, 4, 1, 0] rfl)
        · refine lv_iload_n hx hb (pc := 31) dX1_stillLinked_31 rfl (lv_at hl 3 rfl) ?_
          refine lv_iconst (v := nI 1) hx hb (pc := 32) dX1_stillLinked_32 (by decide) ?_
          refine lv_iload_n hx hb (pc := 33) dX1_stillLinked_33 rfl (lv_at hl 4 rfl) ?_
          refine nv_ishl (a := 1) (b := q) hx hb (pc := 34) dX1_stillLinked_34 (by omega) ?_
          refine nv_ior (a := (orN q (ldg (lO k al E)))) (b := (1 <<< q)) hx hb (pc := 35) dX1_stillLinked_35 ?_
          refine lv_istore_n (lv' := [(1, .int (nI ((orN q (ldg (lO k al E))) ||| (1 <<< q)))), (2, .int (nI ((orN q (lO k al E)) ||| (lO k al E q)))), (4, .int (nI (lO k al E q))), (0, .ref go), (3, .int (nI q))]) hx hb (pc := 36) dX1_stillLinked_36 rfl hl (by decide) rfl (fun ls hl => ?_)
          refine lv_iinc (v := nI (q + 1)) (lv' := [(3, .int (nI (q + 1))), (1, .int (nI ((orN q (ldg (lO k al E))) ||| (1 <<< q)))), (2, .int (nI ((orN q (lO k al E)) ||| (lO k al E q)))), (4, .int (nI (lO k al E q))), (0, .ref go)]) hx hb (pc := 37) dX1_stillLinked_37 hl (k := 4) rfl (rr_inc _) (by decide) rfl (fun ls hl => ?_)
          refine lv_goto (tgt := 6) hx hb (pc := 40) dX1_stillLinked_40 (by decide) ?_
          have hl : lv_has ls 5 [(3, .int (nI (q + 1))), (1, .int (nI (orN (q + 1) (ldg (lO k al E))))), (2, .int (nI ((orN q (lO k al E)) ||| (lO k al E q)))), (4, .int (nI (lO k al E q))), (0, .ref go)] := by rw [show orN (q + 1) (ldg (lO k al E)) = (orN q (ldg (lO k al E))) ||| (1 <<< q) from by simp [orN_succ, ldg, c28]]; exact hl
          exact ih6 (q + 1) (by omega) (by omega) ls (lv_sub hl [4, 1, 2, 0] rfl)
  exact L6 (n + 1) 0 (by omega) (by omega) ls (lv_sub hl [3, 2, 1, 0] rfl)

abbrev rmX1_turnWay : Room := { frames := 1, cells := 0, slots := 0, locals := 23 }
theorem inX1_turnWay_1 : ∀ w ∈ wsX10, w ∈ wsX1_turnWay := fun _ h => List.mem_cons_of_mem _ (List.mem_append_right _ h)
set_option maxHeartbeats 4000000 in
set_option maxRecDepth 100000 in
theorem c_X1_turnWay (l : Launch) (K : rr_K) (A : Nat → Prop) (go ge gt k n gw al lw : Nat) (E T : Nat → Nat) (q y z : Nat) (hE : ∀ j, j < 64 → E j < 65536) (hq : q < 16) (hy : y < 4) (hz : z < 16) (hw : (E (q * 4 + y)).testBit z = true → 0 < gw) (hD : va_D A (GW K go ge gt k n gw al lw E T)) : MetV l K yX1_turnWay wsX1_turnWay rmX1_turnWay [.ref go, .int (nI q), .int (nI y), .int (nI z)] (fun H => va_P K.1 vwCl (GW K go ge gt k n gw al lw E T) H) A (fun H => va_P K.1 vwCl (GW K go ge gt k n (if (E (q * 4 + y)).testBit z then gw - 1 else gw + 1) al lw (va_up E (q * 4 + y) (E (q * 4 + y) ^^^ 1 <<< z)) T) H) 0 0 := by
  refine metV_of (cc := cX1_turnWay) (maxL := 4) (by decide) rfl rfl rfl (Nat.le_of_ble_eq_true rfl) ?_
  intro p e s m args below meth c Q ls hEnt hin hKK hX hret hl
  obtain ⟨hx, hb, hml, hown, hts⟩ := hEnt
  have hP : va_P K.1 vwCl (GW K go ge gt k n gw al lw E T) s.heap := hX
  have hl : lv_has ls 4 [(0, .ref go), (1, .int (nI q)), (2, .int (nI y)), (3, .int (nI z))] := hl
  have hS : va_S A s.heap s.heap [] := va_S.rf
  refine lv_aload_n hx hb (pc := 0) dX1_turnWay_0 rfl (lv_at hl 0 rfl) ?_
  refine lv_dup hx hb (pc := 1) dX1_turnWay_1 rfl ?_
  refine va_get (v := .int (nI gw)) hx hb hts (inX1_turnWay_1) hown hKK.1 hP 0 rfl rfl 2 (by decide) (hts _ (List.mem_of_getElem? (i := 1) (by decide +kernel))) (fun _ h9 => h9) rfl (pc := 2) dX1_turnWay_2 ?_
  refine lv_aload_n hx hb (pc := 5) dX1_turnWay_5 rfl (lv_at hl 0 rfl) ?_
  refine lv_iload_n hx hb (pc := 6) dX1_turnWay_6 rfl (lv_at hl 1 rfl) ?_
  refine lv_iload_n hx hb (pc := 7) dX1_turnWay_7 rfl (lv_at hl 2 rfl) ?_
  refine lv_iload_n hx hb (pc := 8) dX1_turnWay_8 rfl (lv_at hl 3 rfl) ?_
  refine rr_callP (rv := .int (bI ((E (q * 4 + y)).testBit z))) (pc := 9) (va_runV (As := [.int (nI q), .int (nI y), .int (nI z)]) (rest := [.int (nI gw), .ref go]) ⟨hx, hb, hml, hown, hts⟩ (c_X1_leads l K go ge gt k n gw al lw E T q y z hE hq hy hz) (cwV 3 hts gX1_turnWay_X1_leads rfl rfl rfl (by decide +kernel) ⟨Nat.le_of_ble_eq_true rfl, Nat.le_of_ble_eq_true rfl⟩) (rr_preV hKK (hP) (va_recv hKK.1 hP (ci := 1) (q0 := 0) rfl rfl)) rfl rfl hl.1 rfl (lv_room (Nat.le_of_ble_eq_true rfl)) dX1_turnWay_9 ⟨Nat.le_refl _, Nat.le_refl _⟩) ?_
  refine nv_if_eq_b (a := ((E (q * 4 + y)).testBit z)) (tgt := 19) hx hb (pc := 12) dX1_turnWay_12 (by decide) (fun c12 => ?_) (fun c12 => ?_)
  · refine lv_iconst (v := nI 1) hx hb (pc := 19) dX1_turnWay_19 (by decide) ?_
    refine nv_iadd (a := gw) (b := 1) hx hb (pc := 20) dX1_turnWay_20 ?_
    refine rr_put (v := .int (nI (gw + 1))) (ty := tyX1 2) (ws' := GW K go ge gt k n (gw + 1) al lw E T) hx hb hts (inX1_turnWay_1) tyX1 tyX1_ok nmX1 hown hKK.1 hP hD hS 0 rfl rfl 2 (by decide) (hts _ (List.mem_of_getElem? (i := 1) (by decide +kernel))) (fun _ h9 => h9) rfl (tyX1_ok 2 (by decide)) rfl rfl (Nat.le_of_ble_eq_true rfl) rfl (pc := 21) dX1_turnWay_21 (fun H locs hP hD hS => ?_)
    refine lv_aload_n hx hb (pc := 24) dX1_turnWay_24 rfl (lv_at hl 0 rfl) ?_
    refine va_get (v := .ref ge) hx hb hts (inX1_turnWay_1) hown hKK.1 hP 0 rfl rfl 5 (by decide) (hts _ (List.mem_of_getElem? (i := 2) (by decide +kernel))) (fun _ h9 => h9) rfl (pc := 25) dX1_turnWay_25 ?_
    refine lv_iload_n hx hb (pc := 28) dX1_turnWay_28 rfl (lv_at hl 1 rfl) ?_
    refine lv_iconst (v := nI 4) hx hb (pc := 29) dX1_turnWay_29 (by decide) ?_
    refine nv_imul (a := q) (b := 4) hx hb (pc := 30) dX1_turnWay_30 ?_
    refine lv_iload_n hx hb (pc := 31) dX1_turnWay_31 rfl (lv_at hl 2 rfl) ?_
    refine nv_iadd (a := (q * 4)) (b := y) hx hb (pc := 32) dX1_turnWay_32 ?_
    refine lv_dup2_11 hx hb (pc := 33) dX1_turnWay_33 rfl rfl ?_
    refine nv_iald (v := nI (E ((q * 4) + y))) (i := ((q * 4) + y)) hx hb hKK hP 1 rfl (by omega) (by decide) (rfl) (pc := 34) dX1_turnWay_34 ?_
    refine lv_iconst (v := nI 1) hx hb (pc := 35) dX1_turnWay_35 (by decide) ?_
    refine lv_iload_n hx hb (pc := 36) dX1_turnWay_36 rfl (lv_at hl 3 rfl) ?_
    refine nv_ishl (a := 1) (b := z) hx hb (pc := 37) dX1_turnWay_37 (by omega) ?_
    refine nv_ixor (a := (E ((q * 4) + y))) (b := (1 <<< z)) hx hb (pc := 38) dX1_turnWay_38 ?_
    refine nv_iast (f := E) (x := ((E ((q * 4) + y)) ^^^ (1 <<< z))) (ws' := GW K go ge gt k n (gw + 1) al lw (va_up E ((q * 4) + y) ((E ((q * 4) + y)) ^^^ (1 <<< z))) T) (i := ((q * 4) + y)) hx hb hKK hP hD hS 1 rfl (by omega) (by decide) (rfl) (pc := 39) dX1_turnWay_39 (fun H locs hP hD hS => ?_)
    exact hret _ _ _ _ 40 _ dX1_turnWay_40 (by omega) (by omega) hS (by rw [c12]; exact hP)
  · refine lv_iconst (v := -1) hx hb (pc := 15) dX1_turnWay_15 (by decide) ?_
    refine lv_goto (tgt := 20) hx hb (pc := 16) dX1_turnWay_16 (by decide) ?_
    refine lv_iadd hx hb (pc := 20) dX1_turnWay_20 ?_
    refine rr_top (v := .int (nI (gw - 1))) (by rw [rr_m1 (hw c12)]) ?_
    refine rr_put (v := .int (nI (gw - 1))) (ty := tyX1 2) (ws' := GW K go ge gt k n (gw - 1) al lw E T) hx hb hts (inX1_turnWay_1) tyX1 tyX1_ok nmX1 hown hKK.1 hP hD hS 0 rfl rfl 2 (by decide) (hts _ (List.mem_of_getElem? (i := 1) (by decide +kernel))) (fun _ h9 => h9) rfl (tyX1_ok 2 (by decide)) rfl rfl (Nat.le_of_ble_eq_true rfl) rfl (pc := 21) dX1_turnWay_21 (fun H locs hP hD hS => ?_)
    refine lv_aload_n hx hb (pc := 24) dX1_turnWay_24 rfl (lv_at hl 0 rfl) ?_
    refine va_get (v := .ref ge) hx hb hts (inX1_turnWay_1) hown hKK.1 hP 0 rfl rfl 5 (by decide) (hts _ (List.mem_of_getElem? (i := 2) (by decide +kernel))) (fun _ h9 => h9) rfl (pc := 25) dX1_turnWay_25 ?_
    refine lv_iload_n hx hb (pc := 28) dX1_turnWay_28 rfl (lv_at hl 1 rfl) ?_
    refine lv_iconst (v := nI 4) hx hb (pc := 29) dX1_turnWay_29 (by decide) ?_
    refine nv_imul (a := q) (b := 4) hx hb (pc := 30) dX1_turnWay_30 ?_
    refine lv_iload_n hx hb (pc := 31) dX1_turnWay_31 rfl (lv_at hl 2 rfl) ?_
    refine nv_iadd (a := (q * 4)) (b := y) hx hb (pc := 32) dX1_turnWay_32 ?_
    refine lv_dup2_11 hx hb (pc := 33) dX1_turnWay_33 rfl rfl ?_
    refine nv_iald (v := nI (E ((q * 4) + y))) (i := ((q * 4) + y)) hx hb hKK hP 1 rfl (by omega) (by decide) (rfl) (pc := 34) dX1_turnWay_34 ?_
    refine lv_iconst (v := nI 1) hx hb (pc := 35) dX1_turnWay_35 (by decide) ?_
    refine lv_iload_n hx hb (pc := 36) dX1_turnWay_36 rfl (lv_at hl 3 rfl) ?_
    refine nv_ishl (a := 1) (b := z) hx hb (pc := 37) dX1_turnWay_37 (by omega) ?_
    refine nv_ixor (a := (E ((q * 4) + y))) (b := (1 <<< z)) hx hb (pc := 38) dX1_turnWay_38 ?_
    refine nv_iast (f := E) (x := ((E ((q * 4) + y)) ^^^ (1 <<< z))) (ws' := GW K go ge gt k n (gw - 1) al lw (va_up E ((q * 4) + y) ((E ((q * 4) + y)) ^^^ (1 <<< z))) T) (i := ((q * 4) + y)) hx hb hKK hP hD hS 1 rfl (by omega) (by decide) (rfl) (pc := 39) dX1_turnWay_39 (fun H locs hP hD hS => ?_)
    exact hret _ _ _ _ 40 _ dX1_turnWay_40 (by omega) (by omega) hS (by rw [c12]; exact hP)

abbrev rmX1_fillSteps : Room := { frames := 2, cells := 0, slots := 0, locals := 43 }
theorem inX1_fillSteps_1 : ∀ w ∈ wsX10, w ∈ wsX1_fillSteps := fun _ h => List.mem_cons_of_mem _ (List.mem_append_right _ h)
set_option maxHeartbeats 4000000 in
set_option maxRecDepth 100000 in
theorem c_X1_fillSteps (l : Launch) (K : rr_K) (A : Nat → Prop) (go ge gt k n gw al lw : Nat) (E T : Nat → Nat) (hal : al < 65536) (hk : k ≤ 4) (hn : n ≤ 16) (hz : ∀ y g, y < 4 → g < 4 → T (y * 64 + g * 16) = 0) (hD : va_D A (GW K go ge gt k n gw al lw E T)) : MetV l K yX1_fillSteps wsX1_fillSteps rmX1_fillSteps [.ref go] (fun H => va_P K.1 vwCl (GW K go ge gt k n gw al lw E T) H) A (fun H => ∃ T' : Nat → Nat, TInv k n al E T' ∧ va_P K.1 vwCl (GW K go ge gt k n gw al lw E T') H) 0 0 := by
  refine metV_of (cc := cX1_fillSteps) (maxL := 7) (by decide) rfl rfl rfl (Nat.le_of_ble_eq_true rfl) ?_
  intro p e s m args below meth c Q ls hEnt hin hKK hX hret hl
  obtain ⟨hx, hb, hml, hown, hts⟩ := hEnt
  have hP : va_P K.1 vwCl (GW K go ge gt k n gw al lw E T) s.heap := hX
  have hl : lv_has ls 7 [(0, .ref go)] := hl
  have hS : va_S A s.heap s.heap [] := va_S.rf
  refine lv_iconst (v := nI 0) hx hb (pc := 0) dX1_fillSteps_0 (by decide) ?_
  refine lv_istore_n (lv' := [(1, .int (nI 0)), (0, .ref go)]) hx hb (pc := 1) dX1_fillSteps_1 rfl hl (by decide) rfl (fun ls hl => ?_)
  have L2 : ∀ (fz : Nat) (y : Nat) (T1 : Nat → Nat) (H : Heap) (locs : List Loc) (hP : va_P K.1 vwCl (GW K go ge gt k n gw al lw E T1) H) (hD : va_D A (GW K go ge gt k n gw al lw E T1)) (hS : va_S A s.heap H locs) (hfz : k - y < fz) (hy : y ≤ k) (hz1 : ∀ y g, y < 4 → g < 4 → T1 (y * 64 + g * 16) = 0) (hf1 : ∀ y', y' < y → ∀ g x, g < 4 → x < 16 → T1 (y' * 64 + g * 16 + x) = gdT n al E y' g x) (ls : Array Slot) (hl : lv_has ls 7 [(0, .ref go), (1, .int (nI y))]), W p l e rmX1_fillSteps s m args below meth c H locs 0 0 Q (F0 m 2 ls []) := by
    intro fz; induction fz with
    | zero => intro y T1 H locs hP hD hS hfz hy hz1 hf1 ls hl; exact absurd hfz (Nat.not_lt_zero _)
    | succ fz ih2 =>
      intro y T1 H locs hP hD hS hfz hy hz1 hf1 ls hl
      refine lv_iload_n hx hb (pc := 2) dX1_fillSteps_2 rfl (lv_at hl 1 rfl) ?_
      refine lv_aload_n hx hb (pc := 3) dX1_fillSteps_3 rfl (lv_at hl 0 rfl) ?_
      refine va_get (v := .int (nI k)) hx hb hts (inX1_fillSteps_1) hown hKK.1 hP 0 rfl rfl 0 (by decide) (hts _ (List.mem_of_getElem? (i := 1) (by decide +kernel))) (fun _ h9 => h9) rfl (pc := 4) dX1_fillSteps_4 ?_
      refine nv_icmp_ge (a := y) (b := k) (tgt := 110) hx hb (pc := 7) dX1_fillSteps_7 (by decide) (by omega) (by omega) (fun c7 => ?_) (fun c7 => ?_)
      · exact hret _ _ _ _ 110 _ dX1_fillSteps_110 (by omega) (by omega) hS (⟨_, ⟨hz1, fun y' g x h1 h2 h3 => hf1 y' (by omega) g x h2 h3⟩, hP⟩)
      · refine lv_iconst (v := nI 0) hx hb (pc := 10) dX1_fillSteps_10 (by decide) ?_
        refine lv_istore_n (lv' := [(2, .int (nI 0)), (0, .ref go), (1, .int (nI y))]) hx hb (pc := 11) dX1_fillSteps_11 rfl hl (by decide) rfl (fun ls hl => ?_)
        have L12 : ∀ (fz : Nat) (q : Nat) (T2 : Nat → Nat) (H : Heap) (locs : List Loc) (hP : va_P K.1 vwCl (GW K go ge gt k n gw al lw E T2) H) (hD : va_D A (GW K go ge gt k n gw al lw E T2)) (hS : va_S A s.heap H locs) (hfz : 16 - q < fz) (hq : q ≤ 16) (hz2 : ∀ y g, y < 4 → g < 4 → T2 (y * 64 + g * 16) = 0) (hf2 : ∀ y', y' < y → ∀ g x, g < 4 → x < 16 → T2 (y' * 64 + g * 16 + x) = gdT n al E y' g x) (hF2 : TFil n al E T2 y q) (ls : Array Slot) (hl : lv_has ls 7 [(0, .ref go), (1, .int (nI y)), (2, .int (nI q))]), W p l e rmX1_fillSteps s m args below meth c H locs 0 0 Q (F0 m 12 ls []) := by
          intro fz; induction fz with
          | zero => intro q T2 H locs hP hD hS hfz hq hz2 hf2 hF2 ls hl; exact absurd hfz (Nat.not_lt_zero _)
          | succ fz ih12 =>
            intro q T2 H locs hP hD hS hfz hq hz2 hf2 hF2 ls hl
            refine lv_iload_n hx hb (pc := 12) dX1_fillSteps_12 rfl (lv_at hl 2 rfl) ?_
            refine lv_bipush (v := nI 16) hx hb (pc := 13) dX1_fillSteps_13 (by decide) ?_
            refine nv_icmp_ge (a := q) (b := 16) (tgt := 104) hx hb (pc := 15) dX1_fillSteps_15 (by decide) (by omega) (by omega) (fun c15 => ?_) (fun c15 => ?_)
            · refine lv_iinc (v := nI (y + 1)) (lv' := [(1, .int (nI (y + 1))), (0, .ref go), (2, .int (nI q))]) hx hb (pc := 104) dX1_fillSteps_104 hl (k := 1) rfl (rr_inc _) (by decide) rfl (fun ls hl => ?_)
              refine lv_goto (tgt := 2) hx hb (pc := 107) dX1_fillSteps_107 (by decide) ?_
              exact ih2 (y + 1) T2 _ _ hP hD hS (by omega) (by omega) (hz2) (TF_next hf2 ((show q = 16 by omega) ▸ hF2)) ls (lv_sub hl [1, 0] rfl)
            · have L36 : ∀ (to : Nat) (hto : to = if q < n then lvE al E q y else 0) (ls : Array Slot) (hl : lv_has ls 7 [(0, .ref go), (1, .int (nI y)), (2, .int (nI q))]), W p l e rmX1_fillSteps s m args below meth c H locs 0 0 Q (F0 m 36 ls [.int (nI to)]) := by
                intro to hto ls hl
                refine lv_istore_n (lv' := [(3, .int (nI to)), (0, .ref go), (1, .int (nI y)), (2, .int (nI q))]) hx hb (pc := 36) dX1_fillSteps_36 rfl hl (by decide) rfl (fun ls hl => ?_)
                refine lv_iload_n hx hb (pc := 37) dX1_fillSteps_37 rfl (lv_at hl 2 rfl) ?_
                refine lv_bipush (v := nI 64) hx hb (pc := 38) dX1_fillSteps_38 (by decide) ?_
                refine nv_imul (a := y) (b := 64) hx hb (pc := 40) dX1_fillSteps_40 ?_
                refine lv_iload_n hx hb (pc := 41) dX1_fillSteps_41 rfl (lv_at hl 3 rfl) ?_
                refine lv_iconst (v := nI 2) hx hb (pc := 42) dX1_fillSteps_42 (by decide) ?_
                refine nv_ishr (a := q) (b := 2) hx hb (pc := 43) dX1_fillSteps_43 (by omega) (by omega) ?_
                refine lv_bipush (v := nI 16) hx hb (pc := 44) dX1_fillSteps_44 (by decide) ?_
                refine nv_imul (a := (q >>> 2)) (b := 16) hx hb (pc := 46) dX1_fillSteps_46 ?_
                refine nv_iadd (a := (y * 64)) (b := ((q >>> 2) * 16)) hx hb (pc := 47) dX1_fillSteps_47 ?_
                refine rr_top (v := .int (nI (y * 64 + q / 4 * 16))) (by rw [Nat.shiftRight_eq_div_pow]) ?_
                refine lv_istore (lv' := [(4, .int (nI (y * 64 + q / 4 * 16))), (3, .int (nI to)), (0, .ref go), (1, .int (nI y)), (2, .int (nI q))]) hx hb (pc := 48) dX1_fillSteps_48 hl (by decide) rfl (fun ls hl => ?_)
                refine lv_iconst (v := nI 1) hx hb (pc := 50) dX1_fillSteps_50 (by decide) ?_
                refine lv_iload_n hx hb (pc := 51) dX1_fillSteps_51 rfl (lv_at hl 4 rfl) ?_
                refine lv_iconst (v := nI 3) hx hb (pc := 52) dX1_fillSteps_52 (by decide) ?_
                refine nv_iand (a := q) (b := 3) hx hb (pc := 53) dX1_fillSteps_53 ?_
                refine nv_ishl (a := 1) (b := (q &&& 3)) hx hb (pc := 54) dX1_fillSteps_54 (Nat.lt_of_le_of_lt Nat.and_le_right (by decide)) ?_
                have p8 := pow4_le q
                refine rr_top (v := .int (nI (2 ^ (q % 4)))) (by rw [show q &&& 3 = q % 4 from Nat.and_two_pow_sub_one_eq_mod q 2, Nat.one_shiftLeft]) ?_
                refine lv_istore (lv' := [(5, .int (nI (2 ^ (q % 4)))), (4, .int (nI (y * 64 + q / 4 * 16))), (3, .int (nI to)), (0, .ref go), (1, .int (nI y)), (2, .int (nI q))]) hx hb (pc := 55) dX1_fillSteps_55 hl (by decide) rfl (fun ls hl => ?_)
                refine lv_iconst (v := nI 0) hx hb (pc := 57) dX1_fillSteps_57 (by decide) ?_
                refine lv_istore (lv' := [(6, .int (nI 0)), (5, .int (nI (2 ^ (q % 4)))), (4, .int (nI (y * 64 + q / 4 * 16))), (3, .int (nI to)), (0, .ref go), (1, .int (nI y)), (2, .int (nI q))]) hx hb (pc := 58) dX1_fillSteps_58 hl (by decide) rfl (fun ls hl => ?_)
                have L60 : ∀ (fz : Nat) (lo : Nat) (T3 : Nat → Nat) (H : Heap) (locs : List Loc) (hP : va_P K.1 vwCl (GW K go ge gt k n gw al lw E T3) H) (hD : va_D A (GW K go ge gt k n gw al lw E T3)) (hS : va_S A s.heap H locs) (hfz : 2 ^ (q % 4) - lo < fz) (hlo : lo ≤ 2 ^ (q % 4)) (hz3 : ∀ y g, y < 4 → g < 4 → T3 (y * 64 + g * 16) = 0) (hf3 : ∀ y', y' < y → ∀ g x, g < 4 → x < 16 → T3 (y' * 64 + g * 16 + x) = gdT n al E y' g x) (hL : TLow n al E T3 y q lo) (ls : Array Slot) (hl : lv_has ls 7 [(0, .ref go), (1, .int (nI y)), (2, .int (nI q)), (3, .int (nI to)), (4, .int (nI (y * 64 + q / 4 * 16))), (5, .int (nI (2 ^ (q % 4)))), (6, .int (nI lo))]), W p l e rmX1_fillSteps s m args below meth c H locs 0 0 Q (F0 m 60 ls []) := by
                  intro fz; induction fz with
                  | zero => intro lo T3 H locs hP hD hS hfz hlo hz3 hf3 hL ls hl; exact absurd hfz (Nat.not_lt_zero _)
                  | succ fz ih60 =>
                    intro lo T3 H locs hP hD hS hfz hlo hz3 hf3 hL ls hl
                    refine lv_iload hx hb (pc := 60) dX1_fillSteps_60 (lv_at hl 6 rfl) ?_
                    refine lv_iload hx hb (pc := 62) dX1_fillSteps_62 (lv_at hl 5 rfl) ?_
                    refine nv_icmp_ge (a := lo) (b := (2 ^ (q % 4))) (tgt := 98) hx hb (pc := 64) dX1_fillSteps_64 (by decide) (by omega) (by omega) (fun c64 => ?_) (fun c64 => ?_)
                    · refine lv_iinc (v := nI (q + 1)) (lv' := [(2, .int (nI (q + 1))), (0, .ref go), (1, .int (nI y)), (3, .int (nI to)), (4, .int (nI (y * 64 + q / 4 * 16))), (5, .int (nI (2 ^ (q % 4)))), (6, .int (nI lo))]) hx hb (pc := 98) dX1_fillSteps_98 hl (k := 2) rfl (rr_inc _) (by decide) rfl (fun ls hl => ?_)
                      refine lv_goto (tgt := 12) hx hb (pc := 101) dX1_fillSteps_101 (by decide) ?_
                      exact ih12 (q + 1) T3 _ _ hP hD hS (by omega) (by omega) (hz3) (hf3) (TLow_done (by omega) (by rw [show 2 ^ (q % 4) = lo by omega]; exact hL)) ls (lv_sub hl [1, 2, 0] rfl)
                    · refine lv_aload_n hx hb (pc := 67) dX1_fillSteps_67 rfl (lv_at hl 0 rfl) ?_
                      refine va_get (v := .ref gt) hx hb hts (inX1_fillSteps_1) hown hKK.1 hP 0 rfl rfl 6 (by decide) (hts _ (List.mem_of_getElem? (i := 3) (by decide +kernel))) (fun _ h9 => h9) rfl (pc := 68) dX1_fillSteps_68 ?_
                      refine lv_iload hx hb (pc := 71) dX1_fillSteps_71 (lv_at hl 4 rfl) ?_
                      refine lv_iload hx hb (pc := 73) dX1_fillSteps_73 (lv_at hl 5 rfl) ?_
                      refine nv_iadd (a := (y * 64 + q / 4 * 16)) (b := (2 ^ (q % 4))) hx hb (pc := 75) dX1_fillSteps_75 ?_
                      refine lv_iload hx hb (pc := 76) dX1_fillSteps_76 (lv_at hl 6 rfl) ?_
                      refine nv_iadd (a := ((y * 64 + q / 4 * 16) + (2 ^ (q % 4)))) (b := lo) hx hb (pc := 78) dX1_fillSteps_78 ?_
                      refine lv_aload_n hx hb (pc := 79) dX1_fillSteps_79 rfl (lv_at hl 0 rfl) ?_
                      refine va_get (v := .ref gt) hx hb hts (inX1_fillSteps_1) hown hKK.1 hP 0 rfl rfl 6 (by decide) (hts _ (List.mem_of_getElem? (i := 3) (by decide +kernel))) (fun _ h9 => h9) rfl (pc := 80) dX1_fillSteps_80 ?_
                      refine lv_iload hx hb (pc := 83) dX1_fillSteps_83 (lv_at hl 4 rfl) ?_
                      refine lv_iload hx hb (pc := 85) dX1_fillSteps_85 (lv_at hl 6 rfl) ?_
                      refine nv_iadd (a := (y * 64 + q / 4 * 16)) (b := lo) hx hb (pc := 87) dX1_fillSteps_87 ?_
                      refine nv_iald (v := nI (T3 ((y * 64 + q / 4 * 16) + lo))) (i := ((y * 64 + q / 4 * 16) + lo)) hx hb hKK hP 2 rfl (by omega) (by decide) (rfl) (pc := 88) dX1_fillSteps_88 ?_
                      refine lv_iload_n hx hb (pc := 89) dX1_fillSteps_89 rfl (lv_at hl 3 rfl) ?_
                      refine nv_ior (a := (T3 ((y * 64 + q / 4 * 16) + lo))) (b := to) hx hb (pc := 90) dX1_fillSteps_90 ?_
                      refine nv_iast (f := T3) (x := ((T3 ((y * 64 + q / 4 * 16) + lo)) ||| to)) (ws' := GW K go ge gt k n gw al lw E (va_up T3 (((y * 64 + q / 4 * 16) + (2 ^ (q % 4))) + lo) ((T3 ((y * 64 + q / 4 * 16) + lo)) ||| to))) (i := (((y * 64 + q / 4 * 16) + (2 ^ (q % 4))) + lo)) hx hb hKK hP hD hS 2 rfl (by omega) (by decide) (rfl) (pc := 91) dX1_fillSteps_91 (fun H locs hP hD hS => ?_)
                      refine lv_iinc (v := nI (lo + 1)) (lv' := [(6, .int (nI (lo + 1))), (0, .ref go), (1, .int (nI y)), (2, .int (nI q)), (3, .int (nI to)), (4, .int (nI (y * 64 + q / 4 * 16))), (5, .int (nI (2 ^ (q % 4))))]) hx hb (pc := 92) dX1_fillSteps_92 hl (k := 6) rfl (rr_inc _) (by decide) rfl (fun ls hl => ?_)
                      refine lv_goto (tgt := 60) hx hb (pc := 95) dX1_fillSteps_95 (by decide) ?_
                      exact ih60 (lo + 1) (va_up T3 (((y * 64 + q / 4 * 16) + (2 ^ (q % 4))) + lo) ((T3 ((y * 64 + q / 4 * 16) + lo)) ||| to)) _ _ hP hD hS (by omega) (by omega) (fun y' g h1 h2 => by rw [va_up_ne _ _ (by omega)]; exact hz3 y' g h1 h2) (fun y' h g x hg hx => by rw [va_up_ne _ _ (by omega)]; exact hf3 y' h g x hg hx) (by rw [hto]; exact TLow_step (by omega) hL c64) ls (lv_sub hl [1, 2, 3, 4, 5, 6, 0] rfl)
                exact L60 (9) 0 T2 _ _ hP hD hS (by omega) (Nat.zero_le _) (hz2) (hf2) (⟨hF2, fun x h => absurd h (Nat.not_lt_zero _)⟩) ls (lv_sub hl [4, 5, 6, 3, 2, 1, 0] rfl)
              refine lv_iload_n hx hb (pc := 18) dX1_fillSteps_18 rfl (lv_at hl 2 rfl) ?_
              refine lv_aload_n hx hb (pc := 19) dX1_fillSteps_19 rfl (lv_at hl 0 rfl) ?_
              refine va_get (v := .int (nI n)) hx hb hts (inX1_fillSteps_1) hown hKK.1 hP 0 rfl rfl 1 (by decide) (hts _ (List.mem_of_getElem? (i := 2) (by decide +kernel))) (fun _ h9 => h9) rfl (pc := 20) dX1_fillSteps_20 ?_
              refine nv_icmp_ge (a := q) (b := n) (tgt := 35) hx hb (pc := 23) dX1_fillSteps_23 (by decide) (by omega) (by omega) (fun c23 => ?_) (fun c23 => ?_)
              · refine lv_iconst (v := nI 0) hx hb (pc := 35) dX1_fillSteps_35 (by decide) ?_
                exact L36 0 (by first | rw [if_pos c23] | rw [if_neg (by omega)]) ls (lv_sub hl [0, 1, 2] rfl)
              · refine lv_aload_n hx hb (pc := 26) dX1_fillSteps_26 rfl (lv_at hl 0 rfl) ?_
                refine lv_iload_n hx hb (pc := 27) dX1_fillSteps_27 rfl (lv_at hl 2 rfl) ?_
                refine lv_iload_n hx hb (pc := 28) dX1_fillSteps_28 rfl (lv_at hl 1 rfl) ?_
                refine rr_callP (rv := .int (nI (lvE al E q y))) (pc := 29) (va_runV (As := [.int (nI q), .int (nI y)]) (rest := []) ⟨hx, hb, hml, hown, hts⟩ (c_X1_liveEnds l K go ge gt k n gw al lw E T2 q y hal (by omega) (by omega)) (cwV 2 hts gX1_fillSteps_X1_liveEnds rfl rfl rfl (by decide +kernel) ⟨Nat.le_of_ble_eq_true rfl, Nat.le_of_ble_eq_true rfl⟩) (rr_preV hKK (hP) (va_recv hKK.1 hP (ci := 1) (q0 := 0) rfl rfl)) rfl rfl hl.1 rfl (lv_room (Nat.le_of_ble_eq_true rfl)) dX1_fillSteps_29 ⟨Nat.le_refl _, Nat.le_refl _⟩) ?_
                refine lv_goto (tgt := 36) hx hb (pc := 32) dX1_fillSteps_32 (by decide) ?_
                exact L36 (lvE al E q y) (by first | rw [if_pos c23] | rw [if_neg (by omega)]) ls (lv_sub hl [0, 1, 2] rfl)
        exact L12 (17) 0 T1 _ _ hP hD hS (by omega) (by omega) (hz1) (hf1) (TFil_0 (fun g hg => hz1 y g (by omega) hg)) ls (lv_sub hl [1, 2, 0] rfl)
  exact L2 (k + 1) 0 T _ _ hP hD hS (by omega) (by omega) (hz) (fun y' h => absurd h (Nat.not_lt_zero _)) ls (lv_sub hl [1, 0] rfl)

abbrev rmX1_settle : Room := { frames := 4, cells := 0, slots := 0, locals := 90 }
theorem inX1_settle_1 : ∀ w ∈ wsX10, w ∈ wsX1_settle := fun _ h => List.mem_cons_of_mem _ (List.mem_append_right _ h)
set_option maxHeartbeats 4000000 in
set_option maxRecDepth 100000 in
theorem c_X1_settle (l : Launch) (K : rr_K) (A : Nat → Prop) (go ge gt k n gw al lw : Nat) (E T : Nat → Nat) (hk : k ≤ 4) (hn : n ≤ 16) (hz : ∀ y g, y < 4 → g < 4 → T (y * 64 + g * 16) = 0) (hD : va_D A (GW K go ge gt k n gw al lw E T)) : MetV l K yX1_settle wsX1_settle rmX1_settle [.ref go] (fun H => va_P K.1 vwCl (GW K go ge gt k n gw al lw E T) H) A (fun H => ∃ T' : Nat → Nat, TInv k n (liveS k n E) E T' ∧ va_P K.1 vwCl (GW K go ge gt k n gw (liveS k n E) (lwS k n (liveS k n E) E) E T') H) 0 0 := by
  refine metV_of (cc := cX1_settle) (maxL := 5) (by decide) rfl rfl rfl (Nat.le_of_ble_eq_true rfl) ?_
  intro p e s m args below meth c Q ls hEnt hin hKK hX hret hl
  obtain ⟨hx, hb, hml, hown, hts⟩ := hEnt
  have hP : va_P K.1 vwCl (GW K go ge gt k n gw al lw E T) s.heap := hX
  have hl : lv_has ls 5 [(0, .ref go)] := hl
  have hS : va_S A s.heap s.heap [] := va_S.rf
  have p16 : 2 ^ n ≤ 65536 := Nat.le_trans (Nat.pow_le_pow_right (by decide) hn) (by decide)
  have hlv : liveS k n E < 65536 := Nat.lt_of_lt_of_le (liveS_lt k n E) p16
  refine lv_aload_n hx hb (pc := 0) dX1_settle_0 rfl (lv_at hl 0 rfl) ?_
  refine lv_iconst (v := nI 1) hx hb (pc := 1) dX1_settle_1 (by decide) ?_
  refine lv_aload_n hx hb (pc := 2) dX1_settle_2 rfl (lv_at hl 0 rfl) ?_
  refine va_get (v := .int (nI n)) hx hb hts (inX1_settle_1) hown hKK.1 hP 0 rfl rfl 1 (by decide) (hts _ (List.mem_of_getElem? (i := 1) (by decide +kernel))) (fun _ h9 => h9) rfl (pc := 3) dX1_settle_3 ?_
  refine nv_ishl (a := 1) (b := n) hx hb (pc := 6) dX1_settle_6 (by omega) ?_
  refine lv_iconst (v := nI 1) hx hb (pc := 7) dX1_settle_7 (by decide) ?_
  refine nv_isub (a := (1 <<< n)) (b := 1) hx hb (pc := 8) dX1_settle_8 (by rw [Nat.one_shiftLeft]; exact Nat.two_pow_pos n) ?_
  refine rr_top (v := .int (nI (2 ^ n - 1))) (by rw [Nat.one_shiftLeft]) ?_
  refine rr_put (v := .int (nI (2 ^ n - 1))) (ty := tyX1 3) (ws' := GW K go ge gt k n gw (2 ^ n - 1) lw E T) hx hb hts (inX1_settle_1) tyX1 tyX1_ok nmX1 hown hKK.1 hP hD hS 0 rfl rfl 3 (by decide) (hts _ (List.mem_of_getElem? (i := 2) (by decide +kernel))) (fun _ h9 => h9) rfl (tyX1_ok 3 (by decide)) rfl rfl (Nat.le_of_ble_eq_true rfl) rfl (pc := 9) dX1_settle_9 (fun H locs hP hD hS => ?_)
  refine lv_iconst (v := nI 1) hx hb (pc := 12) dX1_settle_12 (by decide) ?_
  refine lv_istore_n (lv' := [(1, .int (nI 1)), (0, .ref go)]) hx hb (pc := 13) dX1_settle_13 rfl hl (by decide) rfl (fun ls hl => ?_)
  refine lv_iconst (v := nI 0) hx hb (pc := 14) dX1_settle_14 (by decide) ?_
  refine lv_istore_n (lv' := [(2, .int (nI 0)), (1, .int (nI 1)), (0, .ref go)]) hx hb (pc := 15) dX1_settle_15 rfl hl (by decide) rfl (fun ls hl => ?_)
  have L16 : ∀ (fz : Nat) (r : Nat) (ch : Bool) (a1 : Nat) (H : Heap) (locs : List Loc) (hP : va_P K.1 vwCl (GW K go ge gt k n gw a1 lw E T) H) (hD : va_D A (GW K go ge gt k n gw a1 lw E T)) (hS : va_S A s.heap H locs) (hfz : n + 1 - r < fz) (hr : r ≤ n + 1) (ha : a1 = rr_it (lst k n E) r (2 ^ n - 1)) (hch : ch = false → lst k n E a1 = a1) (ls : Array Slot) (hl : lv_has ls 5 [(0, .ref go), (1, .int (bI (ch))), (2, .int (nI r))]), W p l e rmX1_settle s m args below meth c H locs 0 0 Q (F0 m 16 ls []) := by
    intro fz; induction fz with
    | zero => intro r ch a1 H locs hP hD hS hfz hr ha hch ls hl; exact absurd hfz (Nat.not_lt_zero _)
    | succ fz ih16 =>
      intro r ch a1 H locs hP hD hS hfz hr ha hch ls hl
      have ha16 : a1 < 65536 := by rw [ha]; exact Nat.lt_of_lt_of_le (it_lt k n E r) p16
      have L58 : ∀ (H : Heap) (locs : List Loc) (hP : va_P K.1 vwCl (GW K go ge gt k n gw (liveS k n E) lw E T) H) (hD : va_D A (GW K go ge gt k n gw (liveS k n E) lw E T)) (hS : va_S A s.heap H locs) (ls : Array Slot) (hl : lv_has ls 5 [(0, .ref go)]), W p l e rmX1_settle s m args below meth c H locs 0 0 Q (F0 m 58 ls []) := by
        intro H locs hP hD hS ls hl
        refine lv_aload_n hx hb (pc := 58) dX1_settle_58 rfl (lv_at hl 0 rfl) ?_
        refine lv_iconst (v := nI 0) hx hb (pc := 59) dX1_settle_59 (by decide) ?_
        refine rr_put (v := .int (nI 0)) (ty := tyX1 4) (ws' := GW K go ge gt k n gw (liveS k n E) 0 E T) hx hb hts (inX1_settle_1) tyX1 tyX1_ok nmX1 hown hKK.1 hP hD hS 0 rfl rfl 4 (by decide) (hts _ (List.mem_of_getElem? (i := 3) (by decide +kernel))) (fun _ h9 => h9) rfl (tyX1_ok 4 (by decide)) rfl rfl (Nat.le_of_ble_eq_true rfl) rfl (pc := 60) dX1_settle_60 (fun H locs hP hD hS => ?_)
        refine lv_iconst (v := nI 0) hx hb (pc := 63) dX1_settle_63 (by decide) ?_
        refine lv_istore_n (lv' := [(2, .int (nI 0)), (0, .ref go)]) hx hb (pc := 64) dX1_settle_64 rfl hl (by decide) rfl (fun ls hl => ?_)
        have L65 : ∀ (fz : Nat) (q : Nat) (lw1 : Nat) (H : Heap) (locs : List Loc) (hP : va_P K.1 vwCl (GW K go ge gt k n gw (liveS k n E) lw1 E T) H) (hD : va_D A (GW K go ge gt k n gw (liveS k n E) lw1 E T)) (hS : va_S A s.heap H locs) (hfz : n - q < fz) (hq : q ≤ n) (hl1 : lw1 = sN q (fun q => sN k (fun y => pc (lvE (liveS k n E) E q y)))) (ls : Array Slot) (hl : lv_has ls 5 [(0, .ref go), (2, .int (nI q))]), W p l e rmX1_settle s m args below meth c H locs 0 0 Q (F0 m 65 ls []) := by
          intro fz; induction fz with
          | zero => intro q lw1 H locs hP hD hS hfz hq hl1 ls hl; exact absurd hfz (Nat.not_lt_zero _)
          | succ fz ih65 =>
            intro q lw1 H locs hP hD hS hfz hq hl1 ls hl
            refine lv_iload_n hx hb (pc := 65) dX1_settle_65 rfl (lv_at hl 1 rfl) ?_
            refine lv_aload_n hx hb (pc := 66) dX1_settle_66 rfl (lv_at hl 0 rfl) ?_
            refine va_get (v := .int (nI n)) hx hb hts (inX1_settle_1) hown hKK.1 hP 0 rfl rfl 1 (by decide) (hts _ (List.mem_of_getElem? (i := 1) (by decide +kernel))) (fun _ h9 => h9) rfl (pc := 67) dX1_settle_67 ?_
            refine nv_icmp_ge (a := q) (b := n) (tgt := 117) hx hb (pc := 70) dX1_settle_70 (by decide) (by omega) (by omega) (fun c70 => ?_) (fun c70 => ?_)
            · refine lv_aload_n hx hb (pc := 117) dX1_settle_117 rfl (lv_at hl 0 rfl) ?_
              refine rr_callV (pc := 118) (va_runV (As := []) (rest := []) ⟨hx, hb, hml, hown, hts⟩ (c_X1_fillSteps l K A go ge gt k n gw (liveS k n E) lw1 E T hlv hk hn hz hD) (cwV 0 hts gX1_settle_X1_fillSteps rfl rfl rfl (by decide +kernel) ⟨Nat.le_of_ble_eq_true rfl, Nat.le_of_ble_eq_true rfl⟩) (rr_preV hKK (hP) (va_recv hKK.1 hP (ci := 1) (q0 := 0) rfl rfl)) rfl rfl hl.1 rfl (lv_room (Nat.le_of_ble_eq_true rfl)) dX1_settle_118 ⟨by omega, by omega⟩) hS (fun _ h => h) (fun H locs hY hsz hfr hS => ?_)
              obtain ⟨T', hT', hP⟩ := hY
              have hD : va_D A (GW K go ge gt k n gw (liveS k n E) lw1 E T') := rr_D hD rfl
              have hP : va_P K.1 vwCl (GW K go ge gt k n gw (liveS k n E) lw1 E T') H := hP
              obtain rfl : q = n := by omega
              exact hret _ _ _ _ 121 _ dX1_settle_121 (by omega) (by omega) hS (⟨T', hT', by rw [hl1] at hP; exact hP⟩)
            · refine lv_iconst (v := nI 0) hx hb (pc := 73) dX1_settle_73 (by decide) ?_
              refine lv_istore_n (lv' := [(3, .int (nI 0)), (0, .ref go), (2, .int (nI q))]) hx hb (pc := 74) dX1_settle_74 rfl hl (by decide) rfl (fun ls hl => ?_)
              have L75 : ∀ (fz : Nat) (y : Nat) (lw2 : Nat) (H : Heap) (locs : List Loc) (hP : va_P K.1 vwCl (GW K go ge gt k n gw (liveS k n E) lw2 E T) H) (hD : va_D A (GW K go ge gt k n gw (liveS k n E) lw2 E T)) (hS : va_S A s.heap H locs) (hfz : k - y < fz) (hy : y ≤ k) (hl2 : lw2 = sN q (fun q => sN k (fun y => pc (lvE (liveS k n E) E q y))) + sN y (fun y => pc (lvE (liveS k n E) E q y))) (ls : Array Slot) (hl : lv_has ls 5 [(0, .ref go), (2, .int (nI q)), (3, .int (nI y))]), W p l e rmX1_settle s m args below meth c H locs 0 0 Q (F0 m 75 ls []) := by
                intro fz; induction fz with
                | zero => intro y lw2 H locs hP hD hS hfz hy hl2 ls hl; exact absurd hfz (Nat.not_lt_zero _)
                | succ fz ih75 =>
                  intro y lw2 H locs hP hD hS hfz hy hl2 ls hl
                  refine lv_iload_n hx hb (pc := 75) dX1_settle_75 rfl (lv_at hl 2 rfl) ?_
                  refine lv_aload_n hx hb (pc := 76) dX1_settle_76 rfl (lv_at hl 0 rfl) ?_
                  refine va_get (v := .int (nI k)) hx hb hts (inX1_settle_1) hown hKK.1 hP 0 rfl rfl 0 (by decide) (hts _ (List.mem_of_getElem? (i := 4) (by decide +kernel))) (fun _ h9 => h9) rfl (pc := 77) dX1_settle_77 ?_
                  refine nv_icmp_ge (a := y) (b := k) (tgt := 111) hx hb (pc := 80) dX1_settle_80 (by decide) (by omega) (by omega) (fun c80 => ?_) (fun c80 => ?_)
                  · refine lv_iinc (v := nI (q + 1)) (lv' := [(2, .int (nI (q + 1))), (0, .ref go), (3, .int (nI y))]) hx hb (pc := 111) dX1_settle_111 hl (k := 1) rfl (rr_inc _) (by decide) rfl (fun ls hl => ?_)
                    refine lv_goto (tgt := 65) hx hb (pc := 114) dX1_settle_114 (by decide) ?_
                    exact ih65 (q + 1) lw2 _ _ hP hD hS (by omega) (by omega) (by rw [hl2, show y = k by omega]; rfl) ls (lv_sub hl [1, 0] rfl)
                  · refine lv_aload_n hx hb (pc := 83) dX1_settle_83 rfl (lv_at hl 0 rfl) ?_
                    refine lv_iload_n hx hb (pc := 84) dX1_settle_84 rfl (lv_at hl 1 rfl) ?_
                    refine lv_iload_n hx hb (pc := 85) dX1_settle_85 rfl (lv_at hl 2 rfl) ?_
                    refine rr_callP (rv := .int (nI (lvE (liveS k n E) E q y))) (pc := 86) (va_runV (As := [.int (nI q), .int (nI y)]) (rest := []) ⟨hx, hb, hml, hown, hts⟩ (c_X1_liveEnds l K go ge gt k n gw (liveS k n E) lw2 E T q y hlv (by omega) (by omega)) (cwV 2 hts gX1_settle_X1_liveEnds rfl rfl rfl (by decide +kernel) ⟨Nat.le_of_ble_eq_true rfl, Nat.le_of_ble_eq_true rfl⟩) (rr_preV hKK (hP) (va_recv hKK.1 hP (ci := 1) (q0 := 0) rfl rfl)) rfl rfl hl.1 rfl (lv_room (Nat.le_of_ble_eq_true rfl)) dX1_settle_86 ⟨Nat.le_refl _, Nat.le_refl _⟩) ?_
                    refine lv_istore (lv' := [(4, .int (nI (lvE (liveS k n E) E q y))), (0, .ref go), (2, .int (nI q)), (3, .int (nI y))]) hx hb (pc := 89) dX1_settle_89 hl (by decide) rfl (fun ls hl => ?_)
                    refine lv_aload_n hx hb (pc := 91) dX1_settle_91 rfl (lv_at hl 1 rfl) ?_
                    refine lv_dup hx hb (pc := 92) dX1_settle_92 rfl ?_
                    refine va_get (v := .int (nI lw2)) hx hb hts (inX1_settle_1) hown hKK.1 hP 0 rfl rfl 4 (by decide) (hts _ (List.mem_of_getElem? (i := 3) (by decide +kernel))) (fun _ h9 => h9) rfl (pc := 93) dX1_settle_93 ?_
                    refine lv_iload hx hb (pc := 96) dX1_settle_96 (lv_at hl 0 rfl) ?_
                    refine rr_callP (rv := .int (nI (pc (lvE (liveS k n E) E q y)))) (pc := 98) (va_runS (As := [.int (nI (lvE (liveS k n E) E q y))]) (rest := [.int (nI lw2), .ref go]) ⟨hx, hb, hml, hown, hts⟩ (c_J6_bitCount_0f7a4 l K (lvE (liveS k n E) E q y) (lvE_lt (b := 16) hlv E q y)) (va_cwS 1 hts gX1_settle_J6_bitCount_0f7a4 rfl rfl rfl (by decide +kernel) ⟨Nat.le_of_ble_eq_true rfl, Nat.le_of_ble_eq_true rfl⟩) (rr_preS hKK (trivial)) rfl rfl hl.1 rfl (lv_room (Nat.le_of_ble_eq_true rfl)) dX1_settle_98 ⟨Nat.le_refl _, Nat.le_refl _⟩) ?_
                    refine nv_iadd (a := lw2) (b := (pc (lvE (liveS k n E) E q y))) hx hb (pc := 101) dX1_settle_101 ?_
                    refine rr_put (v := .int (nI (lw2 + (pc (lvE (liveS k n E) E q y))))) (ty := tyX1 4) (ws' := GW K go ge gt k n gw (liveS k n E) (lw2 + (pc (lvE (liveS k n E) E q y))) E T) hx hb hts (inX1_settle_1) tyX1 tyX1_ok nmX1 hown hKK.1 hP hD hS 0 rfl rfl 4 (by decide) (hts _ (List.mem_of_getElem? (i := 3) (by decide +kernel))) (fun _ h9 => h9) rfl (tyX1_ok 4 (by decide)) rfl rfl (Nat.le_of_ble_eq_true rfl) rfl (pc := 102) dX1_settle_102 (fun H locs hP hD hS => ?_)
                    refine lv_iinc (v := nI (y + 1)) (lv' := [(3, .int (nI (y + 1))), (4, .int (nI (lvE (liveS k n E) E q y))), (0, .ref go), (2, .int (nI q))]) hx hb (pc := 105) dX1_settle_105 hl (k := 3) rfl (rr_inc _) (by decide) rfl (fun ls hl => ?_)
                    refine lv_goto (tgt := 75) hx hb (pc := 108) dX1_settle_108 (by decide) ?_
                    exact ih75 (y + 1) (lw2 + (pc (lvE (liveS k n E) E q y))) _ _ hP hD hS (by omega) (by omega) (by rw [hl2, sN_succ, Nat.add_assoc]) ls (lv_sub hl [2, 3, 0] rfl)
              exact L75 (k + 1) 0 lw1 _ _ hP hD hS (by omega) (by omega) (hl1) ls (lv_sub hl [1, 2, 0] rfl)
        exact L65 (n + 1) 0 0 _ _ hP hD hS (by omega) (by omega) (rfl) ls (lv_sub hl [1, 0] rfl)
      refine lv_iload_n hx hb (pc := 16) dX1_settle_16 rfl (lv_at hl 2 rfl) ?_
      refine lv_aload_n hx hb (pc := 17) dX1_settle_17 rfl (lv_at hl 0 rfl) ?_
      refine va_get (v := .int (nI n)) hx hb hts (inX1_settle_1) hown hKK.1 hP 0 rfl rfl 1 (by decide) (hts _ (List.mem_of_getElem? (i := 1) (by decide +kernel))) (fun _ h9 => h9) rfl (pc := 18) dX1_settle_18 ?_
      refine nv_icmp_gt (a := r) (b := n) (tgt := 58) hx hb (pc := 21) dX1_settle_21 (by decide) (by omega) (by omega) (fun c21 => ?_) (fun c21 => ?_)
      · have hA : a1 = liveS k n E := by
          first
          | (rw [ha, show r = n + 1 by omega]; exact liveS_rest k n E)
          | (have h9 := hch c25; rw [ha] at h9 ⊢; exact it_live h9)
        rw [hA] at hP hD
        exact L58 _ _ hP hD hS ls (lv_sub hl [0] rfl)
      · refine lv_iload_n hx hb (pc := 24) dX1_settle_24 rfl (lv_at hl 1 rfl) ?_
        refine nv_if_eq_b (a := ch) (tgt := 58) hx hb (pc := 25) dX1_settle_25 (by decide) (fun c25 => ?_) (fun c25 => ?_)
        · have hA : a1 = liveS k n E := by
            first
            | (rw [ha, show r = n + 1 by omega]; exact liveS_rest k n E)
            | (have h9 := hch c25; rw [ha] at h9 ⊢; exact it_live h9)
          rw [hA] at hP hD
          exact L58 _ _ hP hD hS ls (lv_sub hl [0] rfl)
        · refine lv_aload_n hx hb (pc := 28) dX1_settle_28 rfl (lv_at hl 0 rfl) ?_
          refine rr_callP (rv := .int (nI (lst k n E a1))) (pc := 29) (va_runV (As := []) (rest := []) ⟨hx, hb, hml, hown, hts⟩ (c_X1_stillLinked l K go ge gt k n gw a1 lw E T ha16 hk hn) (cwV 0 hts gX1_settle_X1_stillLinked rfl rfl rfl (by decide +kernel) ⟨Nat.le_of_ble_eq_true rfl, Nat.le_of_ble_eq_true rfl⟩) (rr_preV hKK (hP) (va_recv hKK.1 hP (ci := 1) (q0 := 0) rfl rfl)) rfl rfl hl.1 rfl (lv_room (Nat.le_of_ble_eq_true rfl)) dX1_settle_29 ⟨Nat.le_refl _, Nat.le_refl _⟩) ?_
          refine lv_istore_n (lv' := [(3, .int (nI (lst k n E a1))), (0, .ref go), (1, .int (bI (ch))), (2, .int (nI r))]) hx hb (pc := 32) dX1_settle_32 rfl hl (by decide) rfl (fun ls hl => ?_)
          refine lv_iload_n hx hb (pc := 33) dX1_settle_33 rfl (lv_at hl 0 rfl) ?_
          refine lv_aload_n hx hb (pc := 34) dX1_settle_34 rfl (lv_at hl 1 rfl) ?_
          refine va_get (v := .int (nI a1)) hx hb hts (inX1_settle_1) hown hKK.1 hP 0 rfl rfl 3 (by decide) (hts _ (List.mem_of_getElem? (i := 2) (by decide +kernel))) (fun _ h9 => h9) rfl (pc := 35) dX1_settle_35 ?_
          refine nv_icmp_eq (a := (lst k n E a1)) (b := a1) (tgt := 45) hx hb (pc := 38) dX1_settle_38 (by decide) (Nat.lt_of_le_of_lt (sub_le (lst_sub k n E a1)) (Nat.lt_trans ha16 (by decide))) (by omega) (fun c38 => ?_) (fun c38 => ?_)
          · refine lv_iconst (v := nI 0) hx hb (pc := 45) dX1_settle_45 (by decide) ?_
            refine lv_istore_n (lv' := [(1, .int (nI 0)), (3, .int (nI (lst k n E a1))), (0, .ref go), (2, .int (nI r))]) hx hb (pc := 46) dX1_settle_46 rfl hl (by decide) rfl (fun ls hl => ?_)
            refine lv_aload_n hx hb (pc := 47) dX1_settle_47 rfl (lv_at hl 2 rfl) ?_
            refine lv_iload_n hx hb (pc := 48) dX1_settle_48 rfl (lv_at hl 1 rfl) ?_
            refine rr_put (v := .int (nI (lst k n E a1))) (ty := tyX1 3) (ws' := GW K go ge gt k n gw (lst k n E a1) lw E T) hx hb hts (inX1_settle_1) tyX1 tyX1_ok nmX1 hown hKK.1 hP hD hS 0 rfl rfl 3 (by decide) (hts _ (List.mem_of_getElem? (i := 2) (by decide +kernel))) (fun _ h9 => h9) rfl (tyX1_ok 3 (by decide)) rfl rfl (Nat.le_of_ble_eq_true rfl) rfl (pc := 49) dX1_settle_49 (fun H locs hP hD hS => ?_)
            refine lv_iinc (v := nI (r + 1)) (lv' := [(2, .int (nI (r + 1))), (1, .int (nI 0)), (3, .int (nI (lst k n E a1))), (0, .ref go)]) hx hb (pc := 52) dX1_settle_52 hl (k := 3) rfl (rr_inc _) (by decide) rfl (fun ls hl => ?_)
            refine lv_goto (tgt := 16) hx hb (pc := 55) dX1_settle_55 (by decide) ?_
            exact ih16 (r + 1) false (lst k n E a1) _ _ hP hD hS (by omega) (by omega) (by rw [ha]; rfl) (by first | (intro h; cases h; done) | (intro _; rw [c38]; exact c38)) ls (lv_sub hl [3, 1, 0] rfl)
          · refine lv_iconst (v := nI 1) hx hb (pc := 41) dX1_settle_41 (by decide) ?_
            refine lv_goto (tgt := 46) hx hb (pc := 42) dX1_settle_42 (by decide) ?_
            refine lv_istore_n (lv' := [(1, .int (nI 1)), (3, .int (nI (lst k n E a1))), (0, .ref go), (2, .int (nI r))]) hx hb (pc := 46) dX1_settle_46 rfl hl (by decide) rfl (fun ls hl => ?_)
            refine lv_aload_n hx hb (pc := 47) dX1_settle_47 rfl (lv_at hl 2 rfl) ?_
            refine lv_iload_n hx hb (pc := 48) dX1_settle_48 rfl (lv_at hl 1 rfl) ?_
            refine rr_put (v := .int (nI (lst k n E a1))) (ty := tyX1 3) (ws' := GW K go ge gt k n gw (lst k n E a1) lw E T) hx hb hts (inX1_settle_1) tyX1 tyX1_ok nmX1 hown hKK.1 hP hD hS 0 rfl rfl 3 (by decide) (hts _ (List.mem_of_getElem? (i := 2) (by decide +kernel))) (fun _ h9 => h9) rfl (tyX1_ok 3 (by decide)) rfl rfl (Nat.le_of_ble_eq_true rfl) rfl (pc := 49) dX1_settle_49 (fun H locs hP hD hS => ?_)
            refine lv_iinc (v := nI (r + 1)) (lv' := [(2, .int (nI (r + 1))), (1, .int (nI 1)), (3, .int (nI (lst k n E a1))), (0, .ref go)]) hx hb (pc := 52) dX1_settle_52 hl (k := 3) rfl (rr_inc _) (by decide) rfl (fun ls hl => ?_)
            refine lv_goto (tgt := 16) hx hb (pc := 55) dX1_settle_55 (by decide) ?_
            exact ih16 (r + 1) true (lst k n E a1) _ _ hP hD hS (by omega) (by omega) (by rw [ha]; rfl) (by first | (intro h; cases h; done) | (intro _; rw [c38]; exact c38)) ls (lv_sub hl [3, 1, 0] rfl)
  exact L16 (n + 2) 0 true (2 ^ n - 1) _ _ hP hD hS (by omega) (by omega) (rfl) (fun h => by cases h) ls (lv_sub hl [2, 1, 0] rfl)

