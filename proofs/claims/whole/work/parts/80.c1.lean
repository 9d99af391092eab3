abbrev rmX9_areCoderNumbers : Room := { frames := 1, cells := 0, slots := 0, locals := 22 }
set_option maxHeartbeats 4000000 in
set_option maxRecDepth 100000 in
theorem c_X9_areCoderNumbers (l : Launch) (K : rr_K) (p9 q9 m9 : Int32) : MetP l K yX9_areCoderNumbers wsX9_areCoderNumbers rmX9_areCoderNumbers [.int p9, .int q9, .int m9] (fun H => True) (.int (bI (rrin p9 (nI 1) (nI 8) && (rrin q9 (nI 1) (nI 4) && rrin m9 (nI 1) (nI 100))))) := by
  refine metP_of (cc := cX9_areCoderNumbers) (maxL := 3) (ret := (some .boolean)) (rt := .boolean) (by decide) rfl rfl (Nat.le_of_ble_eq_true rfl) ?_
  intro p e s m args below meth c Q ls hEnt hKK hX hret hl
  obtain ⟨hx, hb, hml, hown, hts⟩ := hEnt
  have hl : lv_has ls 3 [(0, .int p9), (1, .int q9), (2, .int m9)] := hl
  refine lv_iload_n hx hb (pc := 0) dX9_areCoderNumbers_0 rfl (lv_at hl 0 rfl) ?_
  refine lv_iconst (v := nI 1) hx hb (pc := 1) dX9_areCoderNumbers_1 (by decide) ?_
  refine lv_bipush (v := nI 8) hx hb (pc := 2) dX9_areCoderNumbers_2 (by decide) ?_
  refine rr_callP (rv := .int (bI (rrin p9 (nI 1) (nI 8)))) (pc := 4) (va_runS (As := [.int p9, .int (nI 1), .int (nI 8)]) (rest := []) ⟨hx, hb, hml, hown, hts⟩ (c_X9_within l K p9 (nI 1) (nI 8)) (cwS 3 hts gX9_areCoderNumbers_X9_within rfl rfl rfl (by decide +kernel) ⟨Nat.le_of_ble_eq_true rfl, Nat.le_of_ble_eq_true rfl⟩) (rr_preS hKK (trivial)) rfl rfl hl.1 rfl (lv_room (Nat.le_of_ble_eq_true rfl)) dX9_areCoderNumbers_4 ⟨Nat.le_refl _, Nat.le_refl _⟩) ?_
  refine nv_if_eq_b (a := (rrin p9 (nI 1) (nI 8))) (tgt := 33) hx hb (pc := 7) dX9_areCoderNumbers_7 (by decide) (fun c7 => ?_) (fun c7 => ?_)
  · refine lv_iconst (v := nI 0) hx hb (pc := 33) dX9_areCoderNumbers_33 (by decide) ?_
    exact hret.1 34 _ (nI 0) dX9_areCoderNumbers_34 (by first | (rw [c7, c16, c26]; rfl) | (rw [c7, c16]; rfl) | (rw [c7]; rfl)) (by decide)
  · refine lv_iload_n hx hb (pc := 10) dX9_areCoderNumbers_10 rfl (lv_at hl 1 rfl) ?_
    refine lv_iconst (v := nI 1) hx hb (pc := 11) dX9_areCoderNumbers_11 (by decide) ?_
    refine lv_iconst (v := nI 4) hx hb (pc := 12) dX9_areCoderNumbers_12 (by decide) ?_
    refine rr_callP (rv := .int (bI (rrin q9 (nI 1) (nI 4)))) (pc := 13) (va_runS (As := [.int q9, .int (nI 1), .int (nI 4)]) (rest := []) ⟨hx, hb, hml, hown, hts⟩ (c_X9_within l K q9 (nI 1) (nI 4)) (cwS 3 hts gX9_areCoderNumbers_X9_within rfl rfl rfl (by decide +kernel) ⟨Nat.le_of_ble_eq_true rfl, Nat.le_of_ble_eq_true rfl⟩) (rr_preS hKK (trivial)) rfl rfl hl.1 rfl (lv_room (Nat.le_of_ble_eq_true rfl)) dX9_areCoderNumbers_13 ⟨Nat.le_refl _, Nat.le_refl _⟩) ?_
    refine nv_if_eq_b (a := (rrin q9 (nI 1) (nI 4))) (tgt := 33) hx hb (pc := 16) dX9_areCoderNumbers_16 (by decide) (fun c16 => ?_) (fun c16 => ?_)
    · refine lv_iconst (v := nI 0) hx hb (pc := 33) dX9_areCoderNumbers_33 (by decide) ?_
      exact hret.1 34 _ (nI 0) dX9_areCoderNumbers_34 (by first | (rw [c7, c16, c26]; rfl) | (rw [c7, c16]; rfl) | (rw [c7]; rfl)) (by decide)
    · refine lv_iload_n hx hb (pc := 19) dX9_areCoderNumbers_19 rfl (lv_at hl 2 rfl) ?_
      refine lv_iconst (v := nI 1) hx hb (pc := 20) dX9_areCoderNumbers_20 (by decide) ?_
      refine lv_bipush (v := nI 100) hx hb (pc := 21) dX9_areCoderNumbers_21 (by decide) ?_
      refine rr_callP (rv := .int (bI (rrin m9 (nI 1) (nI 100)))) (pc := 23) (va_runS (As := [.int m9, .int (nI 1), .int (nI 100)]) (rest := []) ⟨hx, hb, hml, hown, hts⟩ (c_X9_within l K m9 (nI 1) (nI 100)) (cwS 3 hts gX9_areCoderNumbers_X9_within rfl rfl rfl (by decide +kernel) ⟨Nat.le_of_ble_eq_true rfl, Nat.le_of_ble_eq_true rfl⟩) (rr_preS hKK (trivial)) rfl rfl hl.1 rfl (lv_room (Nat.le_of_ble_eq_true rfl)) dX9_areCoderNumbers_23 ⟨Nat.le_refl _, Nat.le_refl _⟩) ?_
      refine nv_if_eq_b (a := (rrin m9 (nI 1) (nI 100))) (tgt := 33) hx hb (pc := 26) dX9_areCoderNumbers_26 (by decide) (fun c26 => ?_) (fun c26 => ?_)
      · refine lv_iconst (v := nI 0) hx hb (pc := 33) dX9_areCoderNumbers_33 (by decide) ?_
        exact hret.1 34 _ (nI 0) dX9_areCoderNumbers_34 (by first | (rw [c7, c16, c26]; rfl) | (rw [c7, c16]; rfl) | (rw [c7]; rfl)) (by decide)
      · refine lv_iconst (v := nI 1) hx hb (pc := 29) dX9_areCoderNumbers_29 (by decide) ?_
        refine lv_goto (tgt := 34) hx hb (pc := 30) dX9_areCoderNumbers_30 (by decide) ?_
        exact hret.1 34 _ (nI 1) dX9_areCoderNumbers_34 (by first | (rw [c7, c16, c26]; rfl) | (rw [c7, c16]; rfl) | (rw [c7]; rfl)) (by decide)

abbrev rmX9_graphAt : Room := { frames := 1, cells := 0, slots := 0, locals := 22 }
theorem inX9_graphAt_9 : ∀ w ∈ wsX90, w ∈ wsX9_graphAt := fun _ h => List.mem_cons_of_mem _ (List.mem_append_right _ h)
set_option maxHeartbeats 4000000 in
set_option maxRecDepth 100000 in
theorem cb_X9_graphAt (l : Launch) (K : rr_K) (ca : Nat → Nat) (bh my lg mk mn ms xa xb xv xw ns wl nf wd room mb cap : Nat) (gF : Nat → Option Nat) (WD FL FW BR TD wB dB no sl wS wR wP wV wW pR : Nat → Nat) (bF : Nat → Int32) (yB gB : Nat → Int64) (ks pF : Nat → Int32) (kn : List Nat) (lp ll : Int32) (x : Int32) (hb9 : isS ns x = false) : MetP l K yX9_graphAt wsX9_graphAt rmX9_graphAt [.ref (ca 0), .int x] (fun H => va_P K.1 vwCl (XC K ca bh my lg mk mn ms xa xb xv xw ns wl nf wd room mb cap gF WD FL FW BR TD wB dB no sl wS wR wP wV wW pR bF yB gB ks pF kn lp ll) H) (.null) := by
  refine metP_of (cc := cX9_graphAt) (maxL := 2) (ret := (some (.object "RowRules$Graph"))) (rt := (.object "RowRules$Graph")) (by decide) rfl rfl (Nat.le_of_ble_eq_true rfl) ?_
  intro p e s m args below meth c Q ls hEnt hKK hX hret hl
  obtain ⟨hx, hb, hml, hown, hts⟩ := hEnt
  have hP : va_P K.1 vwCl (XC K ca bh my lg mk mn ms xa xb xv xw ns wl nf wd room mb cap gF WD FL FW BR TD wB dB no sl wS wR wP wV wW pR bF yB gB ks pF kn lp ll) s.heap := hX
  have hl : lv_has ls 2 [(0, .ref (ca 0)), (1, .int x)] := hl
  refine lv_iload_n hx hb (pc := 0) dX9_graphAt_0 rfl (lv_at hl 1 rfl) ?_
  refine lv_iconst (v := nI 0) hx hb (pc := 1) dX9_graphAt_1 (by decide) ?_
  refine lv_aload_n hx hb (pc := 2) dX9_graphAt_2 rfl (lv_at hl 0 rfl) ?_
  refine va_get (v := .int (nI ns)) hx hb hts (inX9_graphAt_9) hown hKK.1 hP 0 rfl rfl 1 (by decide) (hts _ (List.mem_of_getElem? (i := 1) (by decide +kernel))) (fun _ h9 => h9) rfl (pc := 3) dX9_graphAt_3 ?_
  refine lv_iconst (v := nI 1) hx hb (pc := 6) dX9_graphAt_6 (by decide) ?_
  refine lv_isub hx hb (pc := 7) dX9_graphAt_7 ?_
  refine rr_callP (rv := .int (bI (rrin x (nI 0) ((nI ns) - (nI 1))))) (pc := 8) (va_runS (As := [.int x, .int (nI 0), .int ((nI ns) - (nI 1))]) (rest := []) ⟨hx, hb, hml, hown, hts⟩ (c_X9_within l K x (nI 0) ((nI ns) - (nI 1))) (cwS 3 hts gX9_graphAt_X9_within rfl rfl rfl (by decide +kernel) ⟨Nat.le_of_ble_eq_true rfl, Nat.le_of_ble_eq_true rfl⟩) (rr_preS hKK (trivial)) rfl rfl hl.1 rfl (lv_room (Nat.le_of_ble_eq_true rfl)) dX9_graphAt_8 ⟨Nat.le_refl _, Nat.le_refl _⟩) ?_
  refine nv_if_eq_b (a := (rrin x (nI 0) ((nI ns) - (nI 1)))) (tgt := 23) hx hb (pc := 11) dX9_graphAt_11 (by decide) (fun c11 => ?_) (fun c11 => absurd c11 (by rw [show rrin x (nI 0) (nI ns - nI 1) = false from hb9] at c11; cases c11))
  refine lv_null hx hb (pc := 23) dX9_graphAt_23 ?_
  exact hret.2.2 24 _ dX9_graphAt_24 (Or.inl ⟨_, rfl⟩) (Or.inl rfl)

set_option maxHeartbeats 4000000 in
set_option maxRecDepth 100000 in
theorem cg_X9_graphAt (l : Launch) (K : rr_K) (ca : Nat → Nat) (bh my lg mk mn ms xa xb xv xw ns wl nf wd room mb cap : Nat) (gF : Nat → Option Nat) (WD FL FW BR TD wB dB no sl wS wR wP wV wW pR : Nat → Nat) (bF : Nat → Int32) (yB gB : Nat → Int64) (ks pF : Nat → Int32) (kn : List Nat) (lp ll : Int32) (j go : Nat) (hj : j < ns) (hns : ns ≤ 6) (hgj : gF j = some go) : MetP l K yX9_graphAt wsX9_graphAt rmX9_graphAt [.ref (ca 0), .int (nI j)] (fun H => va_P K.1 vwCl (XC K ca bh my lg mk mn ms xa xb xv xw ns wl nf wd room mb cap gF WD FL FW BR TD wB dB no sl wS wR wP wV wW pR bF yB gB ks pF kn lp ll) H) (.ref go) := by
  refine metP_of (cc := cX9_graphAt) (maxL := 2) (ret := (some (.object "RowRules$Graph"))) (rt := (.object "RowRules$Graph")) (by decide) rfl rfl (Nat.le_of_ble_eq_true rfl) ?_
  intro p e s m args below meth c Q ls hEnt hKK hX hret hl
  obtain ⟨hx, hb, hml, hown, hts⟩ := hEnt
  have hP : va_P K.1 vwCl (XC K ca bh my lg mk mn ms xa xb xv xw ns wl nf wd room mb cap gF WD FL FW BR TD wB dB no sl wS wR wP wV wW pR bF yB gB ks pF kn lp ll) s.heap := hX
  have hl : lv_has ls 2 [(0, .ref (ca 0)), (1, .int (nI j))] := hl
  refine lv_iload_n hx hb (pc := 0) dX9_graphAt_0 rfl (lv_at hl 1 rfl) ?_
  refine lv_iconst (v := nI 0) hx hb (pc := 1) dX9_graphAt_1 (by decide) ?_
  refine lv_aload_n hx hb (pc := 2) dX9_graphAt_2 rfl (lv_at hl 0 rfl) ?_
  refine va_get (v := .int (nI ns)) hx hb hts (inX9_graphAt_9) hown hKK.1 hP 0 rfl rfl 1 (by decide) (hts _ (List.mem_of_getElem? (i := 1) (by decide +kernel))) (fun _ h9 => h9) rfl (pc := 3) dX9_graphAt_3 ?_
  refine lv_iconst (v := nI 1) hx hb (pc := 6) dX9_graphAt_6 (by decide) ?_
  refine lv_isub hx hb (pc := 7) dX9_graphAt_7 ?_
  refine rr_callP (rv := .int (bI (rrin (nI j) (nI 0) ((nI ns) - (nI 1))))) (pc := 8) (va_runS (As := [.int (nI j), .int (nI 0), .int ((nI ns) - (nI 1))]) (rest := []) ⟨hx, hb, hml, hown, hts⟩ (c_X9_within l K (nI j) (nI 0) ((nI ns) - (nI 1))) (cwS 3 hts gX9_graphAt_X9_within rfl rfl rfl (by decide +kernel) ⟨Nat.le_of_ble_eq_true rfl, Nat.le_of_ble_eq_true rfl⟩) (rr_preS hKK (trivial)) rfl rfl hl.1 rfl (lv_room (Nat.le_of_ble_eq_true rfl)) dX9_graphAt_8 ⟨Nat.le_refl _, Nat.le_refl _⟩) ?_
  refine nv_if_eq_b (a := (rrin (nI j) (nI 0) ((nI ns) - (nI 1)))) (tgt := 23) hx hb (pc := 11) dX9_graphAt_11 (by decide) (fun c11 => absurd c11 (by rw [show rrin (nI j) (nI 0) (nI ns - nI 1) = true from isS_j hj (by omega)] at c11; cases c11)) (fun c11 => ?_)
  refine lv_aload_n hx hb (pc := 14) dX9_graphAt_14 rfl (lv_at hl 0 rfl) ?_
  refine va_get (v := .ref (ca 1)) hx hb hts (inX9_graphAt_9) hown hKK.1 hP 0 rfl rfl 0 (by decide) (hts _ (List.mem_of_getElem? (i := 2) (by decide +kernel))) (fun _ h9 => h9) rfl (pc := 15) dX9_graphAt_15 ?_
  refine lv_iload_n hx hb (pc := 18) dX9_graphAt_18 rfl (lv_at hl 1 rfl) ?_
  refine nv_ald (v := .ref go) (i := j) hx hb hKK hP 1 rfl (by omega) (by decide) (by rw [hgj]; rfl) (pc := 19) dX9_graphAt_19 ?_
  refine lv_goto (tgt := 24) hx hb (pc := 20) dX9_graphAt_20 (by decide) ?_
  exact hret.2.2 24 _ dX9_graphAt_24 (Or.inl ⟨_, rfl⟩) (Or.inr ⟨_, rfl⟩)

abbrev rmX9_empty : Room := { frames := 0, cells := 0, slots := 0, locals := 0 }
theorem inX9_empty_9 : ∀ w ∈ wsX90, w ∈ wsX9_empty := fun _ h => List.mem_cons_of_mem _ (List.mem_append_right _ h)
set_option maxHeartbeats 4000000 in
set_option maxRecDepth 100000 in
theorem c_X9_empty (l : Launch) (K : rr_K) (A : Nat → Prop) (sz : Nat) (ca : Nat → Nat) (bh my lg mk mn ms xa xb xv xw ns wl nf wd room mb cap : Nat) (gF : Nat → Option Nat) (WD FL FW BR TD wB dB no sl wS wR wP wV wW pR : Nat → Nat) (bF : Nat → Int32) (yB gB : Nat → Int64) (ks pF : Nat → Int32) (kn : List Nat) (lp ll : Int32) (hA : ∀ q, sz ≤ q → A q) (hD : va_D A (XC K ca bh my lg mk mn ms xa xb xv xw ns wl nf wd room mb cap gF WD FL FW BR TD wB dB no sl wS wR wP wV wW pR bF yB gB ks pF kn lp ll)) : MetR l K yX9_empty wsX9_empty rmX9_empty [.ref (ca 0)] (fun H => H.size = sz ∧ va_P K.1 vwCl (XC K ca bh my lg mk mn ms xa xb xv xw ns wl nf wd room mb cap gF WD FL FW BR TD wB dB no sl wS wR wP wV wW pR bF yB gB ks pF kn lp ll) H) A (fun v H => v = .int (nI wl) ∧ va_P K.1 vwCl (XC K ca bh my lg mk mn ms xa xb xv xw ns 0 nf wd room mb cap gF WD FL FW BR TD wB dB no sl wS wR wP wV wW pR bF yB gB ks pF kn lp ll) H ∧ va_D A (XC K ca bh my lg mk mn ms xa xb xv xw ns 0 nf wd room mb cap gF WD FL FW BR TD wB dB no sl wS wR wP wV wW pR bF yB gB ks pF kn lp ll)) 0 0 := by
  refine metR_of (cc := cX9_empty) (maxL := 2) (ret := (some .int)) (rt := .int) (by decide) rfl rfl rfl rfl (Nat.le_of_ble_eq_true rfl) ?_
  intro p e s m args below meth c Q ls hEnt hKK hX hret hl
  obtain ⟨hx, hb, hml, hown, hts⟩ := hEnt
  obtain ⟨hsz0, hX⟩ := hX
  have hA : ∀ q, s.heap.size ≤ q → A q := fun q h => hA q (hsz0 ▸ h)
  have hP : va_P K.1 vwCl (XC K ca bh my lg mk mn ms xa xb xv xw ns wl nf wd room mb cap gF WD FL FW BR TD wB dB no sl wS wR wP wV wW pR bF yB gB ks pF kn lp ll) s.heap := hX
  have hl : lv_has ls 2 [(0, .ref (ca 0))] := hl
  have hS : va_S A s.heap s.heap [] := va_S.rf
  refine lv_aload_n hx hb (pc := 0) dX9_empty_0 rfl (lv_at hl 0 rfl) ?_
  refine va_get (v := .int (nI wl)) hx hb hts (inX9_empty_9) hown hKK.1 hP 0 rfl rfl 3 (by decide) (hts _ (List.mem_of_getElem? (i := 1) (by decide +kernel))) (fun _ h9 => h9) rfl (pc := 1) dX9_empty_1 ?_
  refine lv_istore_n (lv' := [(1, .int (nI wl)), (0, .ref (ca 0))]) hx hb (pc := 4) dX9_empty_4 rfl hl (by decide) rfl (fun ls hl => ?_)
  refine lv_aload_n hx hb (pc := 5) dX9_empty_5 rfl (lv_at hl 1 rfl) ?_
  refine lv_iconst (v := nI 0) hx hb (pc := 6) dX9_empty_6 (by decide) ?_
  refine rr_put (v := .int (nI 0)) (ty := tyX9 3) (ws' := XC K ca bh my lg mk mn ms xa xb xv xw ns 0 nf wd room mb cap gF WD FL FW BR TD wB dB no sl wS wR wP wV wW pR bF yB gB ks pF kn lp ll) hx hb hts (inX9_empty_9) tyX9 tyX9_ok nmX9 hown hKK.1 hP hD hS 0 rfl rfl 3 (by decide) (hts _ (List.mem_of_getElem? (i := 1) (by decide +kernel))) (fun _ h9 => h9) rfl (tyX9_ok 3 (by decide)) rfl rfl (Nat.le_of_ble_eq_true rfl) rfl (pc := 7) dX9_empty_7 (fun H locs hP hD hS => ?_)
  refine lv_iload_n hx hb (pc := 10) dX9_empty_10 rfl (lv_at hl 0 rfl) ?_
  exact hret.1 _ _ 0 0 11 _ (nI wl) dX9_empty_11 (by omega) (by omega) hS (⟨rfl, hP, hD⟩) (rfl)

abbrev rmX9_unforbid : Room := { frames := 0, cells := 0, slots := 0, locals := 0 }
theorem inX9_unforbid_0 : ∀ w ∈ wsX00, w ∈ wsX9_unforbid := fun _ h => List.mem_cons_of_mem _ (List.mem_append_right _ h)
theorem inX9_unforbid_9 : ∀ w ∈ wsX90, w ∈ wsX9_unforbid := fun _ h => List.mem_cons_of_mem _ (List.mem_append_left _ (List.mem_append_right _ h))
set_option maxHeartbeats 4000000 in
set_option maxRecDepth 100000 in
theorem c_X9_unforbid (l : Launch) (K : rr_K) (A : Nat → Prop) (sz : Nat) (ca : Nat → Nat) (bh my lg mk mn ms xa xb xv xw ns wl nf wd room mb cap : Nat) (gF : Nat → Option Nat) (WD FL FW BR TD wB dB no sl wS wR wP wV wW pR : Nat → Nat) (bF : Nat → Int32) (yB gB : Nat → Int64) (ks pF : Nat → Int32) (kn : List Nat) (lp ll : Int32) (hA : ∀ q, sz ≤ q → A q) (hD : va_D A (XC K ca bh my lg mk mn ms xa xb xv xw ns wl nf wd room mb cap gF WD FL FW BR TD wB dB no sl wS wR wP wV wW pR bF yB gB ks pF kn lp ll)) : MetR l K yX9_unforbid wsX9_unforbid rmX9_unforbid [.ref (ca 0)] (fun H => H.size = sz ∧ va_P K.1 vwCl (XC K ca bh my lg mk mn ms xa xb xv xw ns wl nf wd room mb cap gF WD FL FW BR TD wB dB no sl wS wR wP wV wW pR bF yB gB ks pF kn lp ll) H) A (fun v H => v = .int (nI nf) ∧ va_P K.1 vwCl (XC K ca bh my lg mk mn ms xa xb xv xw ns wl 0 wd room mb cap gF WD FL FW BR TD wB dB no sl wS wR wP wV wW pR bF yB gB ks pF kn lp ll) H ∧ va_D A (XC K ca bh my lg mk mn ms xa xb xv xw ns wl 0 wd room mb cap gF WD FL FW BR TD wB dB no sl wS wR wP wV wW pR bF yB gB ks pF kn lp ll)) 0 0 := by
  refine metR_of (cc := cX9_unforbid) (maxL := 2) (ret := (some .int)) (rt := .int) (by decide) rfl rfl rfl rfl (Nat.le_of_ble_eq_true rfl) ?_
  intro p e s m args below meth c Q ls hEnt hKK hX hret hl
  obtain ⟨hx, hb, hml, hown, hts⟩ := hEnt
  obtain ⟨hsz0, hX⟩ := hX
  have hA : ∀ q, s.heap.size ≤ q → A q := fun q h => hA q (hsz0 ▸ h)
  have hP : va_P K.1 vwCl (XC K ca bh my lg mk mn ms xa xb xv xw ns wl nf wd room mb cap gF WD FL FW BR TD wB dB no sl wS wR wP wV wW pR bF yB gB ks pF kn lp ll) s.heap := hX
  have hl : lv_has ls 2 [(0, .ref (ca 0))] := hl
  have hS : va_S A s.heap s.heap [] := va_S.rf
  refine lv_aload_n hx hb (pc := 0) dX9_unforbid_0 rfl (lv_at hl 0 rfl) ?_
  refine va_get (v := .ref (ca 3)) hx hb hts (inX9_unforbid_9) hown hKK.1 hP 0 rfl rfl 4 (by decide) (hts _ (List.mem_of_getElem? (i := 1) (by decide +kernel))) (fun _ h9 => h9) rfl (pc := 1) dX9_unforbid_1 ?_
  refine va_get (v := .int (nI nf)) hx hb hts (inX9_unforbid_0) hown hKK.1 hP 3 rfl rfl 0 (by decide) (hts _ (List.mem_of_getElem? (i := 2) (by decide +kernel))) (fun _ h9 => h9) rfl (pc := 4) dX9_unforbid_4 ?_
  refine lv_istore_n (lv' := [(1, .int (nI nf)), (0, .ref (ca 0))]) hx hb (pc := 7) dX9_unforbid_7 rfl hl (by decide) rfl (fun ls hl => ?_)
  refine lv_aload_n hx hb (pc := 8) dX9_unforbid_8 rfl (lv_at hl 1 rfl) ?_
  refine va_get (v := .ref (ca 3)) hx hb hts (inX9_unforbid_9) hown hKK.1 hP 0 rfl rfl 4 (by decide) (hts _ (List.mem_of_getElem? (i := 1) (by decide +kernel))) (fun _ h9 => h9) rfl (pc := 9) dX9_unforbid_9 ?_
  refine lv_iconst (v := nI 0) hx hb (pc := 12) dX9_unforbid_12 (by decide) ?_
  refine rr_put (v := .int (nI 0)) (ty := tyX0 0) (ws' := XC K ca bh my lg mk mn ms xa xb xv xw ns wl 0 wd room mb cap gF WD FL FW BR TD wB dB no sl wS wR wP wV wW pR bF yB gB ks pF kn lp ll) hx hb hts (inX9_unforbid_0) tyX0 tyX0_ok nmX0 hown hKK.1 hP hD hS 3 rfl rfl 0 (by decide) (hts _ (List.mem_of_getElem? (i := 2) (by decide +kernel))) (fun _ h9 => h9) rfl (tyX0_ok 0 (by decide)) rfl rfl (Nat.le_of_ble_eq_true rfl) rfl (pc := 13) dX9_unforbid_13 (fun H locs hP hD hS => ?_)
  refine lv_iload_n hx hb (pc := 16) dX9_unforbid_16 rfl (lv_at hl 0 rfl) ?_
  exact hret.1 _ _ 0 0 17 _ (nI nf) dX9_unforbid_17 (by omega) (by omega) hS (⟨rfl, hP, hD⟩) (rfl)

abbrev rmX9_letter : Room := { frames := 1, cells := 0, slots := 0, locals := 22 }
theorem inX9_letter_9 : ∀ w ∈ wsX90, w ∈ wsX9_letter := fun _ h => List.mem_cons_of_mem _ (List.mem_append_right _ h)
set_option maxHeartbeats 4000000 in
set_option maxRecDepth 100000 in
theorem c_X9_letter (l : Launch) (K : rr_K) (A : Nat → Prop) (sz : Nat) (ca : Nat → Nat) (bh my lg mk mn ms xa xb xv xw ns wl nf wd room mb cap : Nat) (gF : Nat → Option Nat) (WD FL FW BR TD wB dB no sl wS wR wP wV wW pR : Nat → Nat) (bF : Nat → Int32) (yB gB : Nat → Int64) (ks pF : Nat → Int32) (kn : List Nat) (lp ll : Int32) (x : Int32) (hwl : wl ≤ 30) (hA : ∀ q, sz ≤ q → A q) (hD : va_D A (XC K ca bh my lg mk mn ms xa xb xv xw ns wl nf wd room mb cap gF WD FL FW BR TD wB dB no sl wS wR wP wV wW pR bF yB gB ks pF kn lp ll)) : MetR l K yX9_letter wsX9_letter rmX9_letter [.ref (ca 0), .int x] (fun H => H.size = sz ∧ va_P K.1 vwCl (XC K ca bh my lg mk mn ms xa xb xv xw ns wl nf wd room mb cap gF WD FL FW BR TD wB dB no sl wS wR wP wV wW pR bF yB gB ks pF kn lp ll) H) A (fun v H => v = .int (letA wl x) ∧ va_P K.1 vwCl (XC K ca bh my lg mk mn ms xa xb xv xw ns (cond (letOK wl x) (wl + 1) wl) nf wd room mb cap gF (cond (letOK wl x) (va_up WD wl (cN x)) WD) FL FW BR TD wB dB no sl wS wR wP wV wW pR bF yB gB ks pF kn lp ll) H ∧ va_D A (XC K ca bh my lg mk mn ms xa xb xv xw ns (cond (letOK wl x) (wl + 1) wl) nf wd room mb cap gF (cond (letOK wl x) (va_up WD wl (cN x)) WD) FL FW BR TD wB dB no sl wS wR wP wV wW pR bF yB gB ks pF kn lp ll)) 0 0 := by
  refine metR_of (cc := cX9_letter) (maxL := 2) (ret := (some .int)) (rt := .int) (by decide) rfl rfl rfl rfl (Nat.le_of_ble_eq_true rfl) ?_
  intro p e s m args below meth c Q ls hEnt hKK hX hret hl
  obtain ⟨hx, hb, hml, hown, hts⟩ := hEnt
  obtain ⟨hsz0, hX⟩ := hX
  have hA : ∀ q, s.heap.size ≤ q → A q := fun q h => hA q (hsz0 ▸ h)
  have hP : va_P K.1 vwCl (XC K ca bh my lg mk mn ms xa xb xv xw ns wl nf wd room mb cap gF WD FL FW BR TD wB dB no sl wS wR wP wV wW pR bF yB gB ks pF kn lp ll) s.heap := hX
  have hl : lv_has ls 2 [(0, .ref (ca 0)), (1, .int x)] := hl
  have hS : va_S A s.heap s.heap [] := va_S.rf
  refine lv_iload_n hx hb (pc := 0) dX9_letter_0 rfl (lv_at hl 1 rfl) ?_
  refine lv_iconst (v := nI 0) hx hb (pc := 1) dX9_letter_1 (by decide) ?_
  refine lv_iconst (v := nI 3) hx hb (pc := 2) dX9_letter_2 (by decide) ?_
  refine rr_callP (rv := .int (bI (rrin x (nI 0) (nI 3)))) (pc := 3) (va_runS (As := [.int x, .int (nI 0), .int (nI 3)]) (rest := []) ⟨hx, hb, hml, hown, hts⟩ (c_X9_within l K x (nI 0) (nI 3)) (cwS 3 hts gX9_letter_X9_within rfl rfl rfl (by decide +kernel) ⟨Nat.le_of_ble_eq_true rfl, Nat.le_of_ble_eq_true rfl⟩) (rr_preS hKK (trivial)) rfl rfl hl.1 rfl (lv_room (Nat.le_of_ble_eq_true rfl)) dX9_letter_3 ⟨Nat.le_refl _, Nat.le_refl _⟩) ?_
  refine nv_if_ne_b (a := (rrin x (nI 0) (nI 3))) (tgt := 12) hx hb (pc := 6) dX9_letter_6 (by decide) (fun c6 => ?_) (fun c6 => ?_)
  · refine lv_aload_n hx hb (pc := 12) dX9_letter_12 rfl (lv_at hl 0 rfl) ?_
    refine va_get (v := .int (nI wl)) hx hb hts (inX9_letter_9) hown hKK.1 hP 0 rfl rfl 3 (by decide) (hts _ (List.mem_of_getElem? (i := 1) (by decide +kernel))) (fun _ h9 => h9) rfl (pc := 13) dX9_letter_13 ?_
    refine lv_bipush (v := nI 30) hx hb (pc := 16) dX9_letter_16 (by decide) ?_
    refine nv_icmp_lt (a := wl) (b := 30) (tgt := 24) hx hb (pc := 18) dX9_letter_18 (by decide) (by omega) (by omega) (fun c18 => ?_) (fun c18 => ?_)
    · obtain ⟨y, hy1, hy2, hxy⟩ := rrin_Nat (by decide) (by decide) c6
      have ecx : cN x = y := by rw [hxy]; exact cN_nI (by omega)
      refine lv_aload_n hx hb (pc := 24) dX9_letter_24 rfl (lv_at hl 0 rfl) ?_
      refine va_get (v := .ref (ca 2)) hx hb hts (inX9_letter_9) hown hKK.1 hP 0 rfl rfl 2 (by decide) (hts _ (List.mem_of_getElem? (i := 2) (by decide +kernel))) (fun _ h9 => h9) rfl (pc := 25) dX9_letter_25 ?_
      refine lv_aload_n hx hb (pc := 28) dX9_letter_28 rfl (lv_at hl 0 rfl) ?_
      refine va_get (v := .int (nI wl)) hx hb hts (inX9_letter_9) hown hKK.1 hP 0 rfl rfl 3 (by decide) (hts _ (List.mem_of_getElem? (i := 1) (by decide +kernel))) (fun _ h9 => h9) rfl (pc := 29) dX9_letter_29 ?_
      refine lv_iload_n hx hb (pc := 32) dX9_letter_32 rfl (lv_at hl 1 rfl) ?_
      refine rr_top (v := .int (nI y)) (by rw [hxy]) ?_
      refine nv_iast (f := WD) (x := y) (ws' := XC K ca bh my lg mk mn ms xa xb xv xw ns wl nf wd room mb cap gF (va_up WD wl y) FL FW BR TD wB dB no sl wS wR wP wV wW pR bF yB gB ks pF kn lp ll) (i := wl) hx hb hKK hP hD hS 2 rfl (by omega) (by decide) (rfl) (pc := 33) dX9_letter_33 (fun H locs hP hD hS => ?_)
      refine lv_aload_n hx hb (pc := 34) dX9_letter_34 rfl (lv_at hl 0 rfl) ?_
      refine lv_dup hx hb (pc := 35) dX9_letter_35 rfl ?_
      refine va_get (v := .int (nI wl)) hx hb hts (inX9_letter_9) hown hKK.1 hP 0 rfl rfl 3 (by decide) (hts _ (List.mem_of_getElem? (i := 1) (by decide +kernel))) (fun _ h9 => h9) rfl (pc := 36) dX9_letter_36 ?_
      refine lv_iconst (v := nI 1) hx hb (pc := 39) dX9_letter_39 (by decide) ?_
      refine nv_iadd (a := wl) (b := 1) hx hb (pc := 40) dX9_letter_40 ?_
      refine rr_put (v := .int (nI (wl + 1))) (ty := tyX9 3) (ws' := XC K ca bh my lg mk mn ms xa xb xv xw ns (wl + 1) nf wd room mb cap gF (va_up WD wl y) FL FW BR TD wB dB no sl wS wR wP wV wW pR bF yB gB ks pF kn lp ll) hx hb hts (inX9_letter_9) tyX9 tyX9_ok nmX9 hown hKK.1 hP hD hS 0 rfl rfl 3 (by decide) (hts _ (List.mem_of_getElem? (i := 1) (by decide +kernel))) (fun _ h9 => h9) rfl (tyX9_ok 3 (by decide)) rfl rfl (Nat.le_of_ble_eq_true rfl) rfl (pc := 41) dX9_letter_41 (fun H locs hP hD hS => ?_)
      refine lv_aload_n hx hb (pc := 44) dX9_letter_44 rfl (lv_at hl 0 rfl) ?_
      refine va_get (v := .int (nI (wl + 1))) hx hb hts (inX9_letter_9) hown hKK.1 hP 0 rfl rfl 3 (by decide) (hts _ (List.mem_of_getElem? (i := 1) (by decide +kernel))) (fun _ h9 => h9) rfl (pc := 45) dX9_letter_45 ?_
      have hok : letOK wl x = true := by unfold letOK; rw [c6, decide_eq_false (by omega)]; rfl
      exact hret.1 _ _ 0 0 48 _ (nI (wl + 1)) dX9_letter_48 (by omega) (by omega) hS (⟨by unfold letA; rw [if_pos c6, if_neg (by omega)], by rw [hok, ecx]; exact hP, by rw [hok, ecx]; exact hD⟩) (rfl)
    · refine lv_bipush (v := -4) hx hb (pc := 21) dX9_letter_21 (by decide) ?_
      have e30 : wl = 30 := by omega
      have hno : letOK wl x = false := by unfold letOK; rw [c6, decide_eq_true e30]; rfl
      exact hret.1 _ _ 0 0 23 _ (-4) dX9_letter_23 (by omega) (by omega) hS (⟨by unfold letA; rw [if_pos c6, if_pos e30], by rw [hno]; exact hP, by rw [hno]; exact hD⟩) (rfl)
  · refine lv_bipush (v := -2) hx hb (pc := 9) dX9_letter_9 (by decide) ?_
    have hno : letOK wl x = false := by unfold letOK; rw [c6]; rfl
    exact hret.1 _ _ 0 0 11 _ (-2) dX9_letter_11 (by omega) (by omega) hS (⟨by unfold letA; rw [if_neg (by rw [c6]; decide)], by rw [hno]; exact hP, by rw [hno]; exact hD⟩) (rfl)

abbrev rmX9_letterAt : Room := { frames := 1, cells := 0, slots := 0, locals := 22 }
theorem inX9_letterAt_9 : ∀ w ∈ wsX90, w ∈ wsX9_letterAt := fun _ h => List.mem_cons_of_mem _ (List.mem_append_right _ h)
set_option maxHeartbeats 4000000 in
set_option maxRecDepth 100000 in
theorem c_X9_letterAt (l : Launch) (K : rr_K) (ca : Nat → Nat) (bh my lg mk mn ms xa xb xv xw ns wl nf wd room mb cap : Nat) (gF : Nat → Option Nat) (WD FL FW BR TD wB dB no sl wS wR wP wV wW pR : Nat → Nat) (bF : Nat → Int32) (yB gB : Nat → Int64) (ks pF : Nat → Int32) (kn : List Nat) (lp ll : Int32) (x : Int32) (hwl : wl ≤ 30) : MetP l K yX9_letterAt wsX9_letterAt rmX9_letterAt [.ref (ca 0), .int x] (fun H => va_P K.1 vwCl (XC K ca bh my lg mk mn ms xa xb xv xw ns wl nf wd room mb cap gF WD FL FW BR TD wB dB no sl wS wR wP wV wW pR bF yB gB ks pF kn lp ll) H) (.int (latA wl WD x)) := by
  refine metP_of (cc := cX9_letterAt) (maxL := 2) (ret := (some .int)) (rt := .int) (by decide) rfl rfl (Nat.le_of_ble_eq_true rfl) ?_
  intro p e s m args below meth c Q ls hEnt hKK hX hret hl
  obtain ⟨hx, hb, hml, hown, hts⟩ := hEnt
  have hP : va_P K.1 vwCl (XC K ca bh my lg mk mn ms xa xb xv xw ns wl nf wd room mb cap gF WD FL FW BR TD wB dB no sl wS wR wP wV wW pR bF yB gB ks pF kn lp ll) s.heap := hX
  have hl : lv_has ls 2 [(0, .ref (ca 0)), (1, .int x)] := hl
  refine lv_iload_n hx hb (pc := 0) dX9_letterAt_0 rfl (lv_at hl 1 rfl) ?_
  refine lv_iconst (v := nI 0) hx hb (pc := 1) dX9_letterAt_1 (by decide) ?_
  refine lv_aload_n hx hb (pc := 2) dX9_letterAt_2 rfl (lv_at hl 0 rfl) ?_
  refine va_get (v := .int (nI wl)) hx hb hts (inX9_letterAt_9) hown hKK.1 hP 0 rfl rfl 3 (by decide) (hts _ (List.mem_of_getElem? (i := 1) (by decide +kernel))) (fun _ h9 => h9) rfl (pc := 3) dX9_letterAt_3 ?_
  refine lv_iconst (v := nI 1) hx hb (pc := 6) dX9_letterAt_6 (by decide) ?_
  refine lv_isub hx hb (pc := 7) dX9_letterAt_7 ?_
  refine rr_callP (rv := .int (bI (rrin x (nI 0) ((nI wl) - (nI 1))))) (pc := 8) (va_runS (As := [.int x, .int (nI 0), .int ((nI wl) - (nI 1))]) (rest := []) ⟨hx, hb, hml, hown, hts⟩ (c_X9_within l K x (nI 0) ((nI wl) - (nI 1))) (cwS 3 hts gX9_letterAt_X9_within rfl rfl rfl (by decide +kernel) ⟨Nat.le_of_ble_eq_true rfl, Nat.le_of_ble_eq_true rfl⟩) (rr_preS hKK (trivial)) rfl rfl hl.1 rfl (lv_room (Nat.le_of_ble_eq_true rfl)) dX9_letterAt_8 ⟨Nat.le_refl _, Nat.le_refl _⟩) ?_
  refine nv_if_eq_b (a := (rrin x (nI 0) ((nI wl) - (nI 1)))) (tgt := 23) hx hb (pc := 11) dX9_letterAt_11 (by decide) (fun c11 => ?_) (fun c11 => ?_)
  · refine lv_iconst (v := -1) hx hb (pc := 23) dX9_letterAt_23 (by decide) ?_
    exact hret.1 24 _ (-1) dX9_letterAt_24 (by unfold latA isS; first | (rw [if_neg (by rw [c11]; decide)]; done) | (rw [if_pos c11, hxj, cN_nI (by omega)]; done)) (rfl)
  · have hs9 : isS wl x = true := c11
    obtain ⟨j, hj, hxj⟩ := isS_of (by omega) hs9
    refine lv_aload_n hx hb (pc := 14) dX9_letterAt_14 rfl (lv_at hl 0 rfl) ?_
    refine va_get (v := .ref (ca 2)) hx hb hts (inX9_letterAt_9) hown hKK.1 hP 0 rfl rfl 2 (by decide) (hts _ (List.mem_of_getElem? (i := 2) (by decide +kernel))) (fun _ h9 => h9) rfl (pc := 15) dX9_letterAt_15 ?_
    refine lv_iload_n hx hb (pc := 18) dX9_letterAt_18 rfl (lv_at hl 1 rfl) ?_
    refine rr_top (v := .int (nI j)) (by rw [hxj]) ?_
    refine nv_iald (v := nI (WD j)) (i := j) hx hb hKK hP 2 rfl (by omega) (by decide) (rfl) (pc := 19) dX9_letterAt_19 ?_
    refine lv_goto (tgt := 24) hx hb (pc := 20) dX9_letterAt_20 (by decide) ?_
    exact hret.1 24 _ (nI (WD j)) dX9_letterAt_24 (by unfold latA isS; first | (rw [if_neg (by rw [c11]; decide)]; done) | (rw [if_pos c11, hxj, cN_nI (by omega)]; done)) (rfl)

abbrev rmX9_window : Room := { frames := 2, cells := 0, slots := 0, locals := 44 }
theorem inX9_window_9 : ∀ w ∈ wsX90, w ∈ wsX9_window := fun _ h => List.mem_cons_of_mem _ (List.mem_append_left _ (List.mem_append_right _ h))
set_option maxHeartbeats 4000000 in
set_option maxRecDepth 100000 in
theorem c_X9_window (l : Launch) (K : rr_K) (A : Nat → Prop) (sz : Nat) (ca : Nat → Nat) (bh my lg mk mn ms xa xb xv xw ns wl nf wd room mb cap : Nat) (gF : Nat → Option Nat) (WD FL FW BR TD wB dB no sl wS wR wP wV wW pR : Nat → Nat) (bF : Nat → Int32) (yB gB : Nat → Int64) (ks pF : Nat → Int32) (kn : List Nat) (lp ll : Int32) (x : Int32) (hA : ∀ q, sz ≤ q → A q) (hD : va_D A (XC K ca bh my lg mk mn ms xa xb xv xw ns wl nf wd room mb cap gF WD FL FW BR TD wB dB no sl wS wR wP wV wW pR bF yB gB ks pF kn lp ll)) : MetR l K yX9_window wsX9_window rmX9_window [.ref (ca 0), .int x] (fun H => H.size = sz ∧ va_P K.1 vwCl (XC K ca bh my lg mk mn ms xa xb xv xw ns wl nf wd room mb cap gF WD FL FW BR TD wB dB no sl wS wR wP wV wW pR bF yB gB ks pF kn lp ll) H) A (fun v H => v = .int (winA x) ∧ va_P K.1 vwCl (XC K ca bh my lg mk mn ms xa xb xv xw ns wl nf (cond (rrin x (nI 1) (nI 3)) (cN x) wd) room mb cap gF WD FL FW BR (cond (rrin x (nI 1) (nI 3)) (putZ TD (fun _ => 0) 64) TD) wB dB no sl wS wR wP wV wW pR bF yB gB ks pF kn lp ll) H ∧ va_D A (XC K ca bh my lg mk mn ms xa xb xv xw ns wl nf (cond (rrin x (nI 1) (nI 3)) (cN x) wd) room mb cap gF WD FL FW BR (cond (rrin x (nI 1) (nI 3)) (putZ TD (fun _ => 0) 64) TD) wB dB no sl wS wR wP wV wW pR bF yB gB ks pF kn lp ll)) 0 0 := by
  refine metR_of (cc := cX9_window) (maxL := 2) (ret := (some .int)) (rt := .int) (by decide) rfl rfl rfl rfl (Nat.le_of_ble_eq_true rfl) ?_
  intro p e s m args below meth c Q ls hEnt hKK hX hret hl
  obtain ⟨hx, hb, hml, hown, hts⟩ := hEnt
  obtain ⟨hsz0, hX⟩ := hX
  have hA : ∀ q, s.heap.size ≤ q → A q := fun q h => hA q (hsz0 ▸ h)
  have hP : va_P K.1 vwCl (XC K ca bh my lg mk mn ms xa xb xv xw ns wl nf wd room mb cap gF WD FL FW BR TD wB dB no sl wS wR wP wV wW pR bF yB gB ks pF kn lp ll) s.heap := hX
  have hl : lv_has ls 2 [(0, .ref (ca 0)), (1, .int x)] := hl
  have hS : va_S A s.heap s.heap [] := va_S.rf
  refine lv_iload_n hx hb (pc := 0) dX9_window_0 rfl (lv_at hl 1 rfl) ?_
  refine lv_iconst (v := nI 1) hx hb (pc := 1) dX9_window_1 (by decide) ?_
  refine lv_iconst (v := nI 3) hx hb (pc := 2) dX9_window_2 (by decide) ?_
  refine rr_callP (rv := .int (bI (rrin x (nI 1) (nI 3)))) (pc := 3) (va_runS (As := [.int x, .int (nI 1), .int (nI 3)]) (rest := []) ⟨hx, hb, hml, hown, hts⟩ (c_X9_within l K x (nI 1) (nI 3)) (cwS 3 hts gX9_window_X9_within rfl rfl rfl (by decide +kernel) ⟨Nat.le_of_ble_eq_true rfl, Nat.le_of_ble_eq_true rfl⟩) (rr_preS hKK (trivial)) rfl rfl hl.1 rfl (lv_room (Nat.le_of_ble_eq_true rfl)) dX9_window_3 ⟨Nat.le_refl _, Nat.le_refl _⟩) ?_
  refine nv_if_ne_b (a := (rrin x (nI 1) (nI 3))) (tgt := 12) hx hb (pc := 6) dX9_window_6 (by decide) (fun c6 => ?_) (fun c6 => ?_)
  · obtain ⟨y, hy1, hy2, hxy⟩ := rrin_Nat (by decide) (by decide) c6
    have ecx : cN x = y := by rw [hxy]; exact cN_nI (by omega)
    refine lv_aload_n hx hb (pc := 12) dX9_window_12 rfl (lv_at hl 0 rfl) ?_
    refine va_get (v := .ref (ca 7)) hx hb hts (inX9_window_9) hown hKK.1 hP 0 rfl rfl 5 (by decide) (hts _ (List.mem_of_getElem? (i := 1) (by decide +kernel))) (fun _ h9 => h9) rfl (pc := 13) dX9_window_13 ?_
    refine lv_iload_n hx hb (pc := 16) dX9_window_16 rfl (lv_at hl 1 rfl) ?_
    refine rr_top (v := .int (nI y)) (by rw [hxy]) ?_
    have hPc := hP.sub (ws' := PW K (ca 7) (ca 8) wd TD) [7, 8] rfl
    have hDc := (hD.sub (ws' := PW K (ca 7) (ca 8) wd TD) [7, 8] (by decide) rfl).self (sz := s.heap.size)
    have hFc := va_free (wc := PW K (ca 7) (ca 8) wd TD) hD hS hA [7, 8] rfl
    refine rr_callV (pc := 17) (va_runV (As := [.int (nI y)]) (rest := []) ⟨hx, hb, hml, hown, hts⟩ (c_X4_open l K (va_A (PW K (ca 7) (ca 8) wd TD) s.heap.size) (ca 7) (ca 8) wd TD y hDc) (cwV 1 hts gX9_window_X4_open rfl rfl rfl (by decide +kernel) ⟨Nat.le_of_ble_eq_true rfl, Nat.le_of_ble_eq_true rfl⟩) (rr_preV hKK (hPc) (va_recv hKK.1 hP (ci := 4) (q0 := 7) rfl rfl)) rfl rfl hl.1 rfl (lv_room (Nat.le_of_ble_eq_true rfl)) dX9_window_17 ⟨by omega, by omega⟩) hS (hFc) (fun H locs hY hsz hfr hS => ?_)
    have hP1 := hY
    have hD1 := rr_D (ws' := PW K (ca 7) (ca 8) y (putZ TD (fun _ => 0) 64)) hDc rfl
    obtain ⟨hP, hD⟩ := va_join (wr := [(ca 0, .inr (9, [.ref (ca 1), .int (nI ns), .ref (ca 2), .int (nI wl), .ref (ca 3), .ref (ca 7), .ref (ca 9), .ref (ca 14), .ref (ca 13), .ref (ca 15), .ref (ca 17)])), (ca 1, .inl (K.2.2.2, 6, .inr (.inr (.inr (.inr (gF)))))), (ca 2, .inl (K.2.1, 30, .inl (fun j => nI (WD j)))), (ca 3, .inr (0, [.int (nI nf), .ref (ca 4), .ref (ca 5), .ref (ca 6)])), (ca 4, .inl (K.2.1, 8, .inl (fun j => nI (FL j)))), (ca 5, .inl (K.2.1, 40, .inl (fun j => nI (FW j)))), (ca 6, .inl (K.2.1, 5, .inl (fun j => nI (BR j)))), (ca 9, .inr (8, [.ref (ca 12), .ref bh, .ref my, .ref lg, .ref (ca 10), .ref (ca 11)])), (bh, .inl (K.2.1, 4 * room, .inl (bF))), (my, .inl (K.2.2.1, room, .inr (.inl (yB)))), (lg, .inl (K.2.2.1, room, .inr (.inl (gB)))), (ca 10, .inl (K.2.1, 7, .inl (fun j => nI (wB j)))), (ca 11, .inl (K.2.1, 8, .inl (fun j => nI (dB j)))), (ca 12, .inr (3, [.int (nI ((kn.map nI).length)), .ref mk, .ref mn, .ref ms, .int (nI mb)])), (mk, .inl (K.2.1, cap, .inl (ks))), (mn, .inl (K.2.1, cap, .inl (fun j => nI (no j)))), (ms, .inl (K.2.1, 2 * cap, .inl (fun j => nI (sl j)))), (ca 13, .inr (2, [.ref (ca 12)])), (ca 14, .inr (5, [.ref (ca 12), .int lp, .int ll])), (ca 15, .inr (7, [.ref (ca 16), .ref xa, .ref xb, .ref xv, .ref xw])), (ca 16, .inl (K.2.2.1, 256, .inr (.inl (fun j => lN (wS j))))), (xa, .inl (K.2.2.1, 256, .inr (.inl (fun j => lN (wR j))))), (xb, .inl (K.2.2.1, 256, .inr (.inl (fun j => lN (wP j))))), (xv, .inl (K.2.2.1, 16, .inr (.inl (fun j => lN (wV j))))), (xw, .inl (K.2.2.1, 16, .inr (.inl (fun j => lN (wW j))))), (ca 17, .inr (6, [.ref (ca 18), .ref (ca 19)])), (ca 18, .inl (K.2.1, 16, .inl (fun j => nI (pR j)))), (ca 19, .inl (K.2.1, 16, .inl (pF)))]) (w1 := [(ca 7, .inr (4, [.int (nI y), .ref (ca 8)])), (ca 8, .inl (K.2.1, 64, .inl (fun j => nI (((putZ TD (fun _ => 0) 64)) j))))]) hP hD [7, 8] [0, 1, 2, 3, 4, 5, 6, 9, 10, 11, 12, 13, 14, 15, 16, 17, 18, 19, 20, 21, 22, 23, 24, 25, 26, 27, 28, 29] rfl rfl (by decide) (by decide) hfr hFc hP1 hD1
    have hP : va_P K.1 vwCl ([(ca 0, .inr (9, [.ref (ca 1), .int (nI ns), .ref (ca 2), .int (nI wl), .ref (ca 3), .ref (ca 7), .ref (ca 9), .ref (ca 14), .ref (ca 13), .ref (ca 15), .ref (ca 17)])), (ca 1, .inl (K.2.2.2, 6, .inr (.inr (.inr (.inr (gF)))))), (ca 2, .inl (K.2.1, 30, .inl (fun j => nI (WD j)))), (ca 3, .inr (0, [.int (nI nf), .ref (ca 4), .ref (ca 5), .ref (ca 6)])), (ca 4, .inl (K.2.1, 8, .inl (fun j => nI (FL j)))), (ca 5, .inl (K.2.1, 40, .inl (fun j => nI (FW j)))), (ca 6, .inl (K.2.1, 5, .inl (fun j => nI (BR j)))), (ca 9, .inr (8, [.ref (ca 12), .ref bh, .ref my, .ref lg, .ref (ca 10), .ref (ca 11)])), (bh, .inl (K.2.1, 4 * room, .inl (bF))), (my, .inl (K.2.2.1, room, .inr (.inl (yB)))), (lg, .inl (K.2.2.1, room, .inr (.inl (gB)))), (ca 10, .inl (K.2.1, 7, .inl (fun j => nI (wB j)))), (ca 11, .inl (K.2.1, 8, .inl (fun j => nI (dB j)))), (ca 12, .inr (3, [.int (nI ((kn.map nI).length)), .ref mk, .ref mn, .ref ms, .int (nI mb)])), (mk, .inl (K.2.1, cap, .inl (ks))), (mn, .inl (K.2.1, cap, .inl (fun j => nI (no j)))), (ms, .inl (K.2.1, 2 * cap, .inl (fun j => nI (sl j)))), (ca 13, .inr (2, [.ref (ca 12)])), (ca 14, .inr (5, [.ref (ca 12), .int lp, .int ll])), (ca 15, .inr (7, [.ref (ca 16), .ref xa, .ref xb, .ref xv, .ref xw])), (ca 16, .inl (K.2.2.1, 256, .inr (.inl (fun j => lN (wS j))))), (xa, .inl (K.2.2.1, 256, .inr (.inl (fun j => lN (wR j))))), (xb, .inl (K.2.2.1, 256, .inr (.inl (fun j => lN (wP j))))), (xv, .inl (K.2.2.1, 16, .inr (.inl (fun j => lN (wV j))))), (xw, .inl (K.2.2.1, 16, .inr (.inl (fun j => lN (wW j))))), (ca 17, .inr (6, [.ref (ca 18), .ref (ca 19)])), (ca 18, .inl (K.2.1, 16, .inl (fun j => nI (pR j)))), (ca 19, .inl (K.2.1, 16, .inl (pF))), (ca 7, .inr (4, [.int (nI y), .ref (ca 8)])), (ca 8, .inl (K.2.1, 64, .inl (fun j => nI (((putZ TD (fun _ => 0) 64)) j))))]) H := hP
    have hD : va_D A ([(ca 0, .inr (9, [.ref (ca 1), .int (nI ns), .ref (ca 2), .int (nI wl), .ref (ca 3), .ref (ca 7), .ref (ca 9), .ref (ca 14), .ref (ca 13), .ref (ca 15), .ref (ca 17)])), (ca 1, .inl (K.2.2.2, 6, .inr (.inr (.inr (.inr (gF)))))), (ca 2, .inl (K.2.1, 30, .inl (fun j => nI (WD j)))), (ca 3, .inr (0, [.int (nI nf), .ref (ca 4), .ref (ca 5), .ref (ca 6)])), (ca 4, .inl (K.2.1, 8, .inl (fun j => nI (FL j)))), (ca 5, .inl (K.2.1, 40, .inl (fun j => nI (FW j)))), (ca 6, .inl (K.2.1, 5, .inl (fun j => nI (BR j)))), (ca 9, .inr (8, [.ref (ca 12), .ref bh, .ref my, .ref lg, .ref (ca 10), .ref (ca 11)])), (bh, .inl (K.2.1, 4 * room, .inl (bF))), (my, .inl (K.2.2.1, room, .inr (.inl (yB)))), (lg, .inl (K.2.2.1, room, .inr (.inl (gB)))), (ca 10, .inl (K.2.1, 7, .inl (fun j => nI (wB j)))), (ca 11, .inl (K.2.1, 8, .inl (fun j => nI (dB j)))), (ca 12, .inr (3, [.int (nI ((kn.map nI).length)), .ref mk, .ref mn, .ref ms, .int (nI mb)])), (mk, .inl (K.2.1, cap, .inl (ks))), (mn, .inl (K.2.1, cap, .inl (fun j => nI (no j)))), (ms, .inl (K.2.1, 2 * cap, .inl (fun j => nI (sl j)))), (ca 13, .inr (2, [.ref (ca 12)])), (ca 14, .inr (5, [.ref (ca 12), .int lp, .int ll])), (ca 15, .inr (7, [.ref (ca 16), .ref xa, .ref xb, .ref xv, .ref xw])), (ca 16, .inl (K.2.2.1, 256, .inr (.inl (fun j => lN (wS j))))), (xa, .inl (K.2.2.1, 256, .inr (.inl (fun j => lN (wR j))))), (xb, .inl (K.2.2.1, 256, .inr (.inl (fun j => lN (wP j))))), (xv, .inl (K.2.2.1, 16, .inr (.inl (fun j => lN (wV j))))), (xw, .inl (K.2.2.1, 16, .inr (.inl (fun j => lN (wW j))))), (ca 17, .inr (6, [.ref (ca 18), .ref (ca 19)])), (ca 18, .inl (K.2.1, 16, .inl (fun j => nI (pR j)))), (ca 19, .inl (K.2.1, 16, .inl (pF))), (ca 7, .inr (4, [.int (nI y), .ref (ca 8)])), (ca 8, .inl (K.2.1, 64, .inl (fun j => nI (((putZ TD (fun _ => 0) 64)) j))))]) := hD
    have hP : va_P K.1 vwCl (XC K ca bh my lg mk mn ms xa xb xv xw ns wl nf y room mb cap gF WD FL FW BR (putZ TD (fun _ => 0) 64) wB dB no sl wS wR wP wV wW pR bF yB gB ks pF kn lp ll) H := hP.sub (ws' := XC K ca bh my lg mk mn ms xa xb xv xw ns wl nf y room mb cap gF WD FL FW BR (putZ TD (fun _ => 0) 64) wB dB no sl wS wR wP wV wW pR bF yB gB ks pF kn lp ll) [0, 1, 2, 3, 4, 5, 6, 28, 29, 7, 8, 9, 10, 11, 12, 13, 14, 15, 16, 17, 18, 19, 20, 21, 22, 23, 24, 25, 26, 27] rfl
    have hD : va_D A (XC K ca bh my lg mk mn ms xa xb xv xw ns wl nf y room mb cap gF WD FL FW BR (putZ TD (fun _ => 0) 64) wB dB no sl wS wR wP wV wW pR bF yB gB ks pF kn lp ll) := hD.sub (ws' := XC K ca bh my lg mk mn ms xa xb xv xw ns wl nf y room mb cap gF WD FL FW BR (putZ TD (fun _ => 0) 64) wB dB no sl wS wR wP wV wW pR bF yB gB ks pF kn lp ll) [0, 1, 2, 3, 4, 5, 6, 28, 29, 7, 8, 9, 10, 11, 12, 13, 14, 15, 16, 17, 18, 19, 20, 21, 22, 23, 24, 25, 26, 27] (by decide) rfl
    have hD : va_D A (XC K ca bh my lg mk mn ms xa xb xv xw ns wl nf y room mb cap gF WD FL FW BR (putZ TD (fun _ => 0) 64) wB dB no sl wS wR wP wV wW pR bF yB gB ks pF kn lp ll) := hD
    have hP : va_P K.1 vwCl (XC K ca bh my lg mk mn ms xa xb xv xw ns wl nf y room mb cap gF WD FL FW BR (putZ TD (fun _ => 0) 64) wB dB no sl wS wR wP wV wW pR bF yB gB ks pF kn lp ll) H := hP
    refine lv_iconst (v := nI 1) hx hb (pc := 20) dX9_window_20 (by decide) ?_
    exact hret.1 _ _ 0 0 21 _ (nI 1) dX9_window_21 (by omega) (by omega) hS (⟨by unfold winA; rw [if_pos c6], by rw [c6, ecx]; exact hP, by rw [c6, ecx]; exact hD⟩) (rfl)
  · refine lv_bipush (v := -2) hx hb (pc := 9) dX9_window_9 (by decide) ?_
    exact hret.1 _ _ 0 0 11 _ (-2) dX9_window_11 (by omega) (by omega) hS (⟨by unfold winA; rw [if_neg (by rw [c6]; decide)], by rw [c6]; exact hP, by rw [c6]; exact hD⟩) (rfl)

