abbrev rmJ7_fill_53178 : Room := { frames := 0, cells := 0, slots := 0, locals := 0 }
set_option maxHeartbeats 4000000 in
set_option maxRecDepth 100000 in
theorem c_J7_fill_53178 (l : Launch) (K : rr_K) (A : Nat → Prop) (a n x : Nat) (f : Nat → Nat) (hn : n < 2 ^ 31) (hD : va_D A (RA K a n f)) : MetV l K yJ7_fill_53178 wsJ7_fill_53178 rmJ7_fill_53178 [.ref a, .int (nI x)] (fun H => va_P K.1 vwCl (RA K a n f) H) A (fun H => va_P K.1 vwCl (RA K a n (putZ f (fun _ => x) n)) H) 0 0 := by
  refine metV_of (cc := cJ7_fill_53178) (maxL := 4) (by decide) rfl rfl rfl (Nat.le_of_ble_eq_true rfl) ?_
  intro p e s m args below meth c Q ls hEnt hin hKK hX hret hl
  obtain ⟨hx, hb, hml, hown, hts⟩ := hEnt
  have hP : va_P K.1 vwCl (RA K a n f) s.heap := hX
  have hl : lv_has ls 4 [(0, .ref a), (1, .int (nI x))] := hl
  have hS : va_S A s.heap s.heap [] := va_S.rf
  refine lv_iconst (v := nI 0) hx hb (pc := 0) dJ7_fill_53178_0 (by decide) ?_
  refine lv_istore_n (lv' := [(2, .int (nI 0)), (0, .ref a), (1, .int (nI x))]) hx hb (pc := 1) dJ7_fill_53178_1 rfl hl (by decide) rfl (fun ls hl => ?_)
  refine lv_aload_n hx hb (pc := 2) dJ7_fill_53178_2 rfl (lv_at hl 1 rfl) ?_
  refine va_alen (v := nI n) hx hb hKK.1 hP 0 0 rfl rfl rfl (pc := 3) dJ7_fill_53178_3 ?_
  refine lv_istore_n (lv' := [(3, .int (nI n)), (2, .int (nI 0)), (0, .ref a), (1, .int (nI x))]) hx hb (pc := 4) dJ7_fill_53178_4 rfl hl (by decide) rfl (fun ls hl => ?_)
  have L5 : ∀ (fz : Nat) (i : Nat) (H : Heap) (locs : List Loc) (hP : va_P K.1 vwCl (RA K a n (putZ f (fun _ => x) i)) H) (hD : va_D A (RA K a n (putZ f (fun _ => x) i))) (hS : va_S A s.heap H locs) (hfz : n - i < fz) (hi : i ≤ n) (ls : Array Slot) (hl : lv_has ls 4 [(0, .ref a), (1, .int (nI x)), (2, .int (nI i)), (3, .int (nI n))]), W p l e rmJ7_fill_53178 s m args below meth c H locs 0 0 Q (F0 m 5 ls []) := by
    intro fz; induction fz with
    | zero => intro i H locs hP hD hS hfz hi ls hl; exact absurd hfz (Nat.not_lt_zero _)
    | succ fz ih5 =>
      intro i H locs hP hD hS hfz hi ls hl
      refine lv_iload_n hx hb (pc := 5) dJ7_fill_53178_5 rfl (lv_at hl 2 rfl) ?_
      refine lv_iload_n hx hb (pc := 6) dJ7_fill_53178_6 rfl (lv_at hl 3 rfl) ?_
      refine nv_icmp_ge (a := i) (b := n) (tgt := 20) hx hb (pc := 7) dJ7_fill_53178_7 (by decide) (by omega) (by omega) (fun c7 => ?_) (fun c7 => ?_)
      · have e9 : i = n := by omega
        exact hret _ _ 0 0 20 _ dJ7_fill_53178_20 (by omega) (by omega) hS (by rw [e9] at hP; exact hP)
      · refine lv_aload_n hx hb (pc := 10) dJ7_fill_53178_10 rfl (lv_at hl 0 rfl) ?_
        refine lv_iload_n hx hb (pc := 11) dJ7_fill_53178_11 rfl (lv_at hl 2 rfl) ?_
        refine lv_iload_n hx hb (pc := 12) dJ7_fill_53178_12 rfl (lv_at hl 1 rfl) ?_
        refine nv_iast (f := (putZ f (fun _ => x) i)) (x := x) (ws' := RA K a n (va_up (putZ f (fun _ => x) i) i x)) (i := i) hx hb hKK hP hD hS 0 rfl (by omega) (by omega) (rfl) (pc := 13) dJ7_fill_53178_13 (fun H locs hP hD hS => ?_)
        refine lv_iinc (v := nI (i + 1)) (lv' := [(2, .int (nI (i + 1))), (0, .ref a), (1, .int (nI x)), (3, .int (nI n))]) hx hb (pc := 14) dJ7_fill_53178_14 hl (k := 2) rfl (rr_inc _) (by decide) rfl (fun ls hl => ?_)
        refine lv_goto (tgt := 5) hx hb (pc := 17) dJ7_fill_53178_17 (by decide) ?_
        rw [show va_up (putZ f (fun _ => x) i) i x = putZ f (fun _ => x) (i + 1) from putZ_step f (fun _ => x) i] at hP hD
        exact ih5 (i + 1) _ _ hP hD hS (by omega) (by omega) ls (lv_sub hl [1, 2, 0, 3] rfl)
  rw [← putZ_0 f (fun _ => x)] at hP hD
  exact L5 (n + 1) 0 _ _ hP hD hS (by omega) (Nat.zero_le _) ls (lv_sub hl [2, 3, 1, 0] rfl)

abbrev rmJ7_copyOf_59c91 (mc ms : Nat) : Room := { frames := 1, cells := mc, slots := ms, locals := 20 }
set_option maxHeartbeats 4000000 in
set_option maxRecDepth 100000 in
theorem c_J7_copyOf_59c91 (l : Launch) (K : rr_K) (A : Nat → Prop) (sz : Nat) (a n mm : Nat) (f : Nat → Int32) (hn : n < mm) (hm : mm ≤ 134217728) (hA : ∀ q, sz ≤ q → A q) (hD : va_D A (RI K a n f)) : MetR l K yJ7_copyOf_59c91 wsJ7_copyOf_59c91 (rmJ7_copyOf_59c91 (1) (mm)) [.ref a, .int (nI mm)] (fun H => H.size = sz ∧ va_P K.1 vwCl (RI K a n f) H) A (fun v H => ∃ q, v = .ref q ∧ va_P K.1 vwCl (RI K a n f ++ RI K q mm (cpF f n)) H ∧ va_D A (RI K a n f ++ RI K q mm (cpF f n))) 1 mm := by
  refine metR_of (cc := cJ7_copyOf_59c91) (maxL := 3) (ret := (some (.array .int))) (rt := (.array .int)) (by decide) rfl rfl rfl rfl (Nat.le_of_ble_eq_true rfl) ?_
  intro p e s m args below meth c Q ls hEnt hKK hX hret hl
  obtain ⟨hx, hb, hml, hown, hts⟩ := hEnt
  obtain ⟨hsz0, hX⟩ := hX
  have hA : ∀ q, s.heap.size ≤ q → A q := fun q h => hA q (hsz0 ▸ h)
  have hP : va_P K.1 vwCl (RI K a n f) s.heap := hX
  have hl : lv_has ls 3 [(0, .ref a), (1, .int (nI mm))] := hl
  have hS : va_S A s.heap s.heap [] := va_S.rf
  refine lv_iload_n hx hb (pc := 0) dJ7_copyOf_59c91_0 rfl (lv_at hl 1 rfl) ?_
  refine lv_aload_n hx hb (pc := 1) dJ7_copyOf_59c91_1 rfl (lv_at hl 0 rfl) ?_
  refine va_alen (v := nI n) hx hb hKK.1 hP 0 0 rfl rfl rfl (pc := 2) dJ7_copyOf_59c91_2 ?_
  refine nv_icmp_ne (a := mm) (b := n) (tgt := 14) hx hb (pc := 3) dJ7_copyOf_59c91_3 (by decide) (by omega) (by omega) (fun c3 => ?_) (fun c3 => absurd c3 (by omega))
  refine lv_iload_n hx hb (pc := 14) dJ7_copyOf_59c91_14 rfl (lv_at hl 1 rfl) ?_
  refine nv_newi (n := mm) hx hb (hts _ (List.mem_of_getElem? (i := 7) (by decide +kernel))) hKK hP hD hS hA (by omega) (Nat.le_refl _) (by show 0 + mm ≤ mm; omega) (pc := 15) dJ7_copyOf_59c91_15 (fun q H hP hD hS => ?_)
  have hP : va_P K.1 vwCl ([(a, .inl (K.2.1, n, .inl (f))), (q, .inl (K.2.1, mm, .inl ((fun _ => nI 0))))]) H := hP
  have hD : va_D A ([(a, .inl (K.2.1, n, .inl (f))), (q, .inl (K.2.1, mm, .inl ((fun _ => nI 0))))]) := hD
  refine lv_astore_n (lv' := [(2, .ref q), (0, .ref a), (1, .int (nI mm))]) hx hb (pc := 17) dJ7_copyOf_59c91_17 rfl hl (by decide) rfl (fun ls hl => ?_)
  refine lv_aload_n hx hb (pc := 18) dJ7_copyOf_59c91_18 rfl (lv_at hl 1 rfl) ?_
  refine lv_iconst (v := nI 0) hx hb (pc := 19) dJ7_copyOf_59c91_19 (by decide) ?_
  refine lv_aload_n hx hb (pc := 20) dJ7_copyOf_59c91_20 rfl (lv_at hl 0 rfl) ?_
  refine lv_iconst (v := nI 0) hx hb (pc := 21) dJ7_copyOf_59c91_21 (by decide) ?_
  refine lv_aload_n hx hb (pc := 22) dJ7_copyOf_59c91_22 rfl (lv_at hl 1 rfl) ?_
  refine va_alen (v := nI n) hx hb hKK.1 hP 0 0 rfl rfl rfl (pc := 23) dJ7_copyOf_59c91_23 ?_
  refine lv_iload_n hx hb (pc := 24) dJ7_copyOf_59c91_24 rfl (lv_at hl 2 rfl) ?_
  refine va_mmin hx hb (hml.trans hl.1.symm) hown (hts _ (List.mem_of_getElem? (i := 8) (by decide +kernel))) (hts _ (List.mem_of_getElem? (i := 9) (by decide +kernel))) (hts _ (List.mem_of_getElem? (i := 10) (by decide +kernel))) (hts _ (List.mem_of_getElem? (i := 11) (by decide +kernel))) (Nat.le_of_ble_eq_true rfl) (Nat.le_of_ble_eq_true rfl) (Nat.le_refl _) (by show 0 + mm ≤ mm; omega) (pc := 25) dJ7_copyOf_59c91_25 ?_
  refine rr_top (v := .int (nI n)) (by rw [rr_min _ _ (by omega) (by omega), Nat.min_eq_left (by omega)]) ?_
  refine nv_copyi (sp := 0) (dp := 0) (n := n) (ws' := [(a, .inl (K.2.1, n, .inl (f))), (q, .inl (K.2.1, mm, .inl (va_cpy f (fun _ => nI 0) 0 0 n)))]) hx hb (hml.trans hl.1.symm) hown (hts _ (List.mem_of_getElem? (i := 12) (by decide +kernel))) (hts _ (List.mem_of_getElem? (i := 13) (by decide +kernel))) (hts _ (List.mem_of_getElem? (i := 14) (by decide +kernel))) (hts _ (List.mem_of_getElem? (i := 15) (by decide +kernel))) hKK hP hD hS 0 1 rfl rfl (by omega) (by omega) (by omega) (by omega) (by omega) (Nat.le_of_ble_eq_true rfl) (Nat.le_of_ble_eq_true rfl) rfl (pc := 28) dJ7_copyOf_59c91_28 (fun H locs hP hD hS => ?_)
  refine lv_aload_n hx hb (pc := 31) dJ7_copyOf_59c91_31 rfl (lv_at hl 0 rfl) ?_
  rw [cpF_eq] at hP hD
  exact hret.2.2 _ _ 1 (0 + mm) 32 _ (.ref q) dJ7_copyOf_59c91_32 (Nat.le_refl _) (by omega) hS (⟨_, rfl, hP, hD⟩) (Or.inr ⟨_, rfl⟩) (Or.inr ⟨_, rfl⟩)

abbrev rmX3_keyAt : Room := { frames := 1, cells := 0, slots := 0, locals := 22 }
theorem inX3_keyAt_3 : ∀ w ∈ wsX30, w ∈ wsX3_keyAt := fun _ h => List.mem_cons_of_mem _ (List.mem_append_right _ h)
set_option maxHeartbeats 4000000 in
set_option maxRecDepth 100000 in
theorem c_X3_keyAt (l : Launch) (K : rr_K) (mo mk mn ms b cap : Nat) (ks : Nat → Int32) (no sl : Nat → Nat) (kl : List Int32) (nl : List Nat) (i : Nat) (hM : MInv kl nl cap b ks no sl) (hi : i < kl.length) : MetP l K yX3_keyAt wsX3_keyAt rmX3_keyAt [.ref mo, .int (nI i)] (fun H => va_P K.1 vwCl (MW3 K mo mk mn ms kl.length b cap ks no sl) H) (.int (ks i)) := by
  refine metP_of (cc := cX3_keyAt) (maxL := 2) (ret := (some .int)) (rt := .int) (by decide) rfl rfl (Nat.le_of_ble_eq_true rfl) ?_
  intro p e s m args below meth c Q ls hEnt hKK hX hret hl
  obtain ⟨hx, hb, hml, hown, hts⟩ := hEnt
  have hP : va_P K.1 vwCl (MW3 K mo mk mn ms kl.length b cap ks no sl) s.heap := hX
  have hl : lv_has ls 2 [(0, .ref mo), (1, .int (nI i))] := hl
  obtain ⟨m1, m2, m3, ⟨ee, m4⟩, m5, m6, m7, m8, m9, m10, m11⟩ := id hM
  refine lv_iload_n hx hb (pc := 0) dX3_keyAt_0 rfl (lv_at hl 1 rfl) ?_
  refine lv_iconst (v := nI 0) hx hb (pc := 1) dX3_keyAt_1 (by decide) ?_
  refine lv_aload_n hx hb (pc := 2) dX3_keyAt_2 rfl (lv_at hl 0 rfl) ?_
  refine va_get (v := .int (nI kl.length)) hx hb hts (inX3_keyAt_3) hown hKK.1 hP 0 rfl rfl 0 (by decide) (hts _ (List.mem_of_getElem? (i := 1) (by decide +kernel))) (fun _ h9 => h9) rfl (pc := 3) dX3_keyAt_3 ?_
  refine lv_iconst (v := nI 1) hx hb (pc := 6) dX3_keyAt_6 (by decide) ?_
  refine nv_isub (a := kl.length) (b := 1) hx hb (pc := 7) dX3_keyAt_7 (by omega) ?_
  refine rr_callP (rv := .int (bI (rrin (nI i) (nI 0) (nI (kl.length - 1))))) (pc := 8) (va_runSN (As := [.int (nI i), .int (nI 0), .int (nI (kl.length - 1))]) (rest := []) ⟨hx, hb, hml, hown, hts⟩ (c_X9_within l K (nI i) (nI 0) (nI (kl.length - 1))) ⟨va_cnB 3 hts gX3_keyAt_X9_within_n33 rfl rfl rfl (hKK.2 _ (List.mem_of_getElem? (i := 1) rfl)) (hts _ (List.mem_of_getElem? (i := 4) (by decide +kernel))) (by decide +kernel) ⟨Nat.le_of_ble_eq_true rfl, Nat.le_of_ble_eq_true rfl⟩, hts _ (List.mem_of_getElem? (i := 3) (by decide +kernel)), trivial⟩ (rr_preS hKK (trivial)) rfl rfl hl.1 rfl (lv_room (Nat.le_of_ble_eq_true rfl)) dX3_keyAt_8 ⟨Nat.le_refl _, Nat.le_refl _⟩) ?_
  refine nv_if_eq_b (a := (rrin (nI i) (nI 0) (nI (kl.length - 1)))) (tgt := 23) hx hb (pc := 11) dX3_keyAt_11 (by decide) (fun c11 => absurd c11 (by rw [rrin_yes hi (by omega)]; decide)) (fun c11 => ?_)
  refine lv_aload_n hx hb (pc := 14) dX3_keyAt_14 rfl (lv_at hl 0 rfl) ?_
  refine va_get (v := .ref mk) hx hb hts (inX3_keyAt_3) hown hKK.1 hP 0 rfl rfl 1 (by decide) (hts _ (List.mem_of_getElem? (i := 2) (by decide +kernel))) (fun _ h9 => h9) rfl (pc := 15) dX3_keyAt_15 ?_
  refine lv_iload_n hx hb (pc := 18) dX3_keyAt_18 rfl (lv_at hl 1 rfl) ?_
  refine nv_iald (v := ks i) (i := i) hx hb hKK hP 1 rfl (by omega) (by omega) (rfl) (pc := 19) dX3_keyAt_19 ?_
  refine lv_goto (tgt := 24) hx hb (pc := 20) dX3_keyAt_20 (by decide) ?_
  exact hret.1 24 _ (ks i) dX3_keyAt_24 (rfl) (rfl)

abbrev rmX3_noteAt : Room := { frames := 1, cells := 0, slots := 0, locals := 22 }
theorem inX3_noteAt_3 : ∀ w ∈ wsX30, w ∈ wsX3_noteAt := fun _ h => List.mem_cons_of_mem _ (List.mem_append_right _ h)
set_option maxHeartbeats 4000000 in
set_option maxRecDepth 100000 in
theorem c_X3_noteAt (l : Launch) (K : rr_K) (mo mk mn ms b cap : Nat) (ks : Nat → Int32) (no sl : Nat → Nat) (kl : List Int32) (nl : List Nat) (i : Nat) (hM : MInv kl nl cap b ks no sl) (hi : i < kl.length) : MetP l K yX3_noteAt wsX3_noteAt rmX3_noteAt [.ref mo, .int (nI i)] (fun H => va_P K.1 vwCl (MW3 K mo mk mn ms kl.length b cap ks no sl) H) (.int (nI (no i))) := by
  refine metP_of (cc := cX3_noteAt) (maxL := 2) (ret := (some .int)) (rt := .int) (by decide) rfl rfl (Nat.le_of_ble_eq_true rfl) ?_
  intro p e s m args below meth c Q ls hEnt hKK hX hret hl
  obtain ⟨hx, hb, hml, hown, hts⟩ := hEnt
  have hP : va_P K.1 vwCl (MW3 K mo mk mn ms kl.length b cap ks no sl) s.heap := hX
  have hl : lv_has ls 2 [(0, .ref mo), (1, .int (nI i))] := hl
  obtain ⟨m1, m2, m3, ⟨ee, m4⟩, m5, m6, m7, m8, m9, m10, m11⟩ := id hM
  refine lv_iload_n hx hb (pc := 0) dX3_noteAt_0 rfl (lv_at hl 1 rfl) ?_
  refine lv_iconst (v := nI 0) hx hb (pc := 1) dX3_noteAt_1 (by decide) ?_
  refine lv_aload_n hx hb (pc := 2) dX3_noteAt_2 rfl (lv_at hl 0 rfl) ?_
  refine va_get (v := .int (nI kl.length)) hx hb hts (inX3_noteAt_3) hown hKK.1 hP 0 rfl rfl 0 (by decide) (hts _ (List.mem_of_getElem? (i := 1) (by decide +kernel))) (fun _ h9 => h9) rfl (pc := 3) dX3_noteAt_3 ?_
  refine lv_iconst (v := nI 1) hx hb (pc := 6) dX3_noteAt_6 (by decide) ?_
  refine nv_isub (a := kl.length) (b := 1) hx hb (pc := 7) dX3_noteAt_7 (by omega) ?_
  refine rr_callP (rv := .int (bI (rrin (nI i) (nI 0) (nI (kl.length - 1))))) (pc := 8) (va_runSN (As := [.int (nI i), .int (nI 0), .int (nI (kl.length - 1))]) (rest := []) ⟨hx, hb, hml, hown, hts⟩ (c_X9_within l K (nI i) (nI 0) (nI (kl.length - 1))) ⟨va_cnB 3 hts gX3_noteAt_X9_within_n33 rfl rfl rfl (hKK.2 _ (List.mem_of_getElem? (i := 1) rfl)) (hts _ (List.mem_of_getElem? (i := 4) (by decide +kernel))) (by decide +kernel) ⟨Nat.le_of_ble_eq_true rfl, Nat.le_of_ble_eq_true rfl⟩, hts _ (List.mem_of_getElem? (i := 3) (by decide +kernel)), trivial⟩ (rr_preS hKK (trivial)) rfl rfl hl.1 rfl (lv_room (Nat.le_of_ble_eq_true rfl)) dX3_noteAt_8 ⟨Nat.le_refl _, Nat.le_refl _⟩) ?_
  refine nv_if_eq_b (a := (rrin (nI i) (nI 0) (nI (kl.length - 1)))) (tgt := 23) hx hb (pc := 11) dX3_noteAt_11 (by decide) (fun c11 => absurd c11 (by rw [rrin_yes hi (by omega)]; decide)) (fun c11 => ?_)
  refine lv_aload_n hx hb (pc := 14) dX3_noteAt_14 rfl (lv_at hl 0 rfl) ?_
  refine va_get (v := .ref mn) hx hb hts (inX3_noteAt_3) hown hKK.1 hP 0 rfl rfl 2 (by decide) (hts _ (List.mem_of_getElem? (i := 2) (by decide +kernel))) (fun _ h9 => h9) rfl (pc := 15) dX3_noteAt_15 ?_
  refine lv_iload_n hx hb (pc := 18) dX3_noteAt_18 rfl (lv_at hl 1 rfl) ?_
  refine nv_iald (v := nI (no i)) (i := i) hx hb hKK hP 2 rfl (by omega) (by omega) (rfl) (pc := 19) dX3_noteAt_19 ?_
  refine lv_goto (tgt := 24) hx hb (pc := 20) dX3_noteAt_20 (by decide) ?_
  exact hret.1 24 _ (nI (no i)) dX3_noteAt_24 (rfl) (rfl)

abbrev rmX3_room : Room := { frames := 0, cells := 0, slots := 0, locals := 0 }
theorem inX3_room_3 : ∀ w ∈ wsX30, w ∈ wsX3_room := fun _ h => List.mem_cons_of_mem _ (List.mem_append_right _ h)
set_option maxHeartbeats 4000000 in
set_option maxRecDepth 100000 in
theorem c_X3_room (l : Launch) (K : rr_K) (mo mk mn ms b cap : Nat) (ks : Nat → Int32) (no sl : Nat → Nat) (kl : List Int32) (nl : List Nat) (hM : MInv kl nl cap b ks no sl) : MetP l K yX3_room wsX3_room rmX3_room [.ref mo] (fun H => va_P K.1 vwCl (MW3 K mo mk mn ms kl.length b cap ks no sl) H) (.int (nI cap)) := by
  refine metP_of (cc := cX3_room) (maxL := 1) (ret := (some .int)) (rt := .int) (by decide) rfl rfl (Nat.le_of_ble_eq_true rfl) ?_
  intro p e s m args below meth c Q ls hEnt hKK hX hret hl
  obtain ⟨hx, hb, hml, hown, hts⟩ := hEnt
  have hP : va_P K.1 vwCl (MW3 K mo mk mn ms kl.length b cap ks no sl) s.heap := hX
  have hl : lv_has ls 1 [(0, .ref mo)] := hl
  obtain ⟨m1, m2, m3, ⟨ee, m4⟩, m5, m6, m7, m8, m9, m10, m11⟩ := id hM
  refine lv_aload_n hx hb (pc := 0) dX3_room_0 rfl (lv_at hl 0 rfl) ?_
  refine va_get (v := .ref mk) hx hb hts (inX3_room_3) hown hKK.1 hP 0 rfl rfl 1 (by decide) (hts _ (List.mem_of_getElem? (i := 1) (by decide +kernel))) (fun _ h9 => h9) rfl (pc := 1) dX3_room_1 ?_
  refine va_alen (v := nI cap) hx hb hKK.1 hP 1 0 rfl rfl rfl (pc := 4) dX3_room_4 ?_
  exact hret.1 5 _ (nI cap) dX3_room_5 (rfl) (rfl)

abbrev rmX3_putNote : Room := { frames := 1, cells := 0, slots := 0, locals := 22 }
theorem inX3_putNote_3 : ∀ w ∈ wsX30, w ∈ wsX3_putNote := fun _ h => List.mem_cons_of_mem _ (List.mem_append_right _ h)
set_option maxHeartbeats 4000000 in
set_option maxRecDepth 100000 in
theorem c_X3_putNote (l : Launch) (K : rr_K) (A : Nat → Prop) (mo mk mn ms b cap : Nat) (ks : Nat → Int32) (no sl : Nat → Nat) (kl : List Int32) (nl : List Nat) (i x : Nat) (hM : MInv kl nl cap b ks no sl) (hi : i < kl.length) (hD : va_D A (MW3 K mo mk mn ms kl.length b cap ks no sl)) : MetV l K yX3_putNote wsX3_putNote rmX3_putNote [.ref mo, .int (nI i), .int (nI x)] (fun H => va_P K.1 vwCl (MW3 K mo mk mn ms kl.length b cap ks no sl) H) A (fun H => va_P K.1 vwCl (MW3 K mo mk mn ms kl.length b cap ks (va_up no i x) sl) H) 0 0 := by
  refine metV_of (cc := cX3_putNote) (maxL := 3) (by decide) rfl rfl rfl (Nat.le_of_ble_eq_true rfl) ?_
  intro p e s m args below meth c Q ls hEnt hin hKK hX hret hl
  obtain ⟨hx, hb, hml, hown, hts⟩ := hEnt
  have hP : va_P K.1 vwCl (MW3 K mo mk mn ms kl.length b cap ks no sl) s.heap := hX
  have hl : lv_has ls 3 [(0, .ref mo), (1, .int (nI i)), (2, .int (nI x))] := hl
  have hS : va_S A s.heap s.heap [] := va_S.rf
  obtain ⟨m1, m2, m3, ⟨ee, m4⟩, m5, m6, m7, m8, m9, m10, m11⟩ := id hM
  refine lv_iload_n hx hb (pc := 0) dX3_putNote_0 rfl (lv_at hl 1 rfl) ?_
  refine lv_iconst (v := nI 0) hx hb (pc := 1) dX3_putNote_1 (by decide) ?_
  refine lv_aload_n hx hb (pc := 2) dX3_putNote_2 rfl (lv_at hl 0 rfl) ?_
  refine va_get (v := .int (nI kl.length)) hx hb hts (inX3_putNote_3) hown hKK.1 hP 0 rfl rfl 0 (by decide) (hts _ (List.mem_of_getElem? (i := 1) (by decide +kernel))) (fun _ h9 => h9) rfl (pc := 3) dX3_putNote_3 ?_
  refine lv_iconst (v := nI 1) hx hb (pc := 6) dX3_putNote_6 (by decide) ?_
  refine nv_isub (a := kl.length) (b := 1) hx hb (pc := 7) dX3_putNote_7 (by omega) ?_
  refine rr_callP (rv := .int (bI (rrin (nI i) (nI 0) (nI (kl.length - 1))))) (pc := 8) (va_runSN (As := [.int (nI i), .int (nI 0), .int (nI (kl.length - 1))]) (rest := []) ⟨hx, hb, hml, hown, hts⟩ (c_X9_within l K (nI i) (nI 0) (nI (kl.length - 1))) ⟨va_cnB 3 hts gX3_putNote_X9_within_n33 rfl rfl rfl (hKK.2 _ (List.mem_of_getElem? (i := 1) rfl)) (hts _ (List.mem_of_getElem? (i := 4) (by decide +kernel))) (by decide +kernel) ⟨Nat.le_of_ble_eq_true rfl, Nat.le_of_ble_eq_true rfl⟩, hts _ (List.mem_of_getElem? (i := 3) (by decide +kernel)), trivial⟩ (rr_preS hKK (trivial)) rfl rfl hl.1 rfl (lv_room (Nat.le_of_ble_eq_true rfl)) dX3_putNote_8 ⟨Nat.le_refl _, Nat.le_refl _⟩) ?_
  refine nv_if_eq_b (a := (rrin (nI i) (nI 0) (nI (kl.length - 1)))) (tgt := 21) hx hb (pc := 11) dX3_putNote_11 (by decide) (fun c11 => absurd c11 (by rw [rrin_yes hi (by omega)]; decide)) (fun c11 => ?_)
  refine lv_aload_n hx hb (pc := 14) dX3_putNote_14 rfl (lv_at hl 0 rfl) ?_
  refine va_get (v := .ref mn) hx hb hts (inX3_putNote_3) hown hKK.1 hP 0 rfl rfl 2 (by decide) (hts _ (List.mem_of_getElem? (i := 2) (by decide +kernel))) (fun _ h9 => h9) rfl (pc := 15) dX3_putNote_15 ?_
  refine lv_iload_n hx hb (pc := 18) dX3_putNote_18 rfl (lv_at hl 1 rfl) ?_
  refine lv_iload_n hx hb (pc := 19) dX3_putNote_19 rfl (lv_at hl 2 rfl) ?_
  refine nv_iast (f := no) (x := x) (ws' := MW3 K mo mk mn ms kl.length b cap ks (va_up no i x) sl) (i := i) hx hb hKK hP hD hS 2 rfl (by omega) (by omega) (rfl) (pc := 20) dX3_putNote_20 (fun H locs hP hD hS => ?_)
  exact hret _ _ 0 0 21 _ dX3_putNote_21 (by omega) (by omega) hS (hP)

abbrev rmX3_slotOf : Room := { frames := 0, cells := 0, slots := 0, locals := 0 }
theorem inX3_slotOf_3 : ∀ w ∈ wsX30, w ∈ wsX3_slotOf := fun _ h => List.mem_cons_of_mem _ (List.mem_append_right _ h)
set_option maxHeartbeats 4000000 in
set_option maxRecDepth 100000 in
theorem c_X3_slotOf (l : Launch) (K : rr_K) (mo mk mn ms b cap N : Nat) (ks : Nat → Int32) (no sl : Nat → Nat) (key : Int32) (hsl : ∀ s, s < 2 * cap → sl s < b + N) (hN : N ≤ cap) (hc : cap ≤ 65536) (h2 : ∃ e, cap = 2 ^ e) (hb1 : b ≤ 1000000000) : MetP l K yX3_slotOf wsX3_slotOf rmX3_slotOf [.ref mo, .int key] (fun H => va_P K.1 vwCl (MW3 K mo mk mn ms N b cap ks no sl) H) (.int (nI (slGo sl b N ks key (2 * cap) (2 * cap) (hsh key (2 * cap))))) := by
  refine metP_of (cc := cX3_slotOf) (maxL := 7) (ret := (some .int)) (rt := .int) (by decide) rfl rfl (Nat.le_of_ble_eq_true rfl) ?_
  intro p e s m args below meth c Q ls hEnt hKK hX hret hl
  obtain ⟨hx, hb, hml, hown, hts⟩ := hEnt
  have hP : va_P K.1 vwCl (MW3 K mo mk mn ms N b cap ks no sl) s.heap := hX
  have hl : lv_has ls 7 [(0, .ref mo), (1, .int key)] := hl
  obtain ⟨ee, hee⟩ := h2
  have he16 : ee < 17 := by
    rcases Nat.lt_or_ge ee 17 with q | q
    · exact q
    · have : 2 ^ 17 ≤ 2 ^ ee := Nat.pow_le_pow_right (by decide) q
      omega
  have hm2 : ∃ e, 2 * cap = 2 ^ e ∧ e < 32 := ⟨ee + 1, by rw [hee, Nat.pow_succ]; omega, by omega⟩
  have hm3 : ∃ e, 2 * cap = 2 ^ e := ⟨ee + 1, by rw [hee, Nat.pow_succ]; omega⟩
  have hc0 : 0 < cap := by rw [hee]; exact Nat.two_pow_pos ee
  have hh := Nat.mod_lt (hshI key).toBitVec.toNat (show 0 < 2 * cap by omega)
  refine lv_aload_n hx hb (pc := 0) dX3_slotOf_0 rfl (lv_at hl 0 rfl) ?_
  refine va_get (v := .ref ms) hx hb hts (inX3_slotOf_3) hown hKK.1 hP 0 rfl rfl 3 (by decide) (hts _ (List.mem_of_getElem? (i := 1) (by decide +kernel))) (fun _ h9 => h9) rfl (pc := 1) dX3_slotOf_1 ?_
  refine va_alen (v := nI (2 * cap)) hx hb hKK.1 hP 3 0 rfl rfl rfl (pc := 4) dX3_slotOf_4 ?_
  refine lv_iconst (v := nI 1) hx hb (pc := 5) dX3_slotOf_5 (by decide) ?_
  refine nv_isub (a := (2 * cap)) (b := 1) hx hb (pc := 6) dX3_slotOf_6 (by omega) ?_
  refine lv_istore_n (lv' := [(2, .int (nI ((2 * cap) - 1))), (0, .ref mo), (1, .int key)]) hx hb (pc := 7) dX3_slotOf_7 rfl hl (by decide) rfl (fun ls hl => ?_)
  refine lv_iload_n hx hb (pc := 8) dX3_slotOf_8 rfl (lv_at hl 2 rfl) ?_
  refine lv_ldc (v := (-1640531535)) hx hb (pc := 9) hown (hts _ (List.mem_of_getElem? (i := 2) (by decide +kernel))) dX3_slotOf_9 ?_
  refine lv_imul hx hb (pc := 11) dX3_slotOf_11 ?_
  refine lv_istore_n (lv' := [(3, .int (key * (-1640531535))), (2, .int (nI ((2 * cap) - 1))), (0, .ref mo), (1, .int key)]) hx hb (pc := 12) dX3_slotOf_12 rfl hl (by decide) rfl (fun ls hl => ?_)
  refine lv_iload_n hx hb (pc := 13) dX3_slotOf_13 rfl (lv_at hl 0 rfl) ?_
  refine lv_iload_n hx hb (pc := 14) dX3_slotOf_14 rfl (lv_at hl 0 rfl) ?_
  refine lv_bipush (v := nI 15) hx hb (pc := 15) dX3_slotOf_15 (by decide) ?_
  refine lv_iushr (v := ((key * (-1640531535)).toUInt32 >>> ((nI 15).toUInt32 &&& Int32.toUInt32 31)).toInt32) hx hb (pc := 17) dX3_slotOf_17 (rfl) ?_
  refine lv_ixor hx hb (pc := 18) dX3_slotOf_18 ?_
  refine lv_iload_n hx hb (pc := 19) dX3_slotOf_19 rfl (lv_at hl 1 rfl) ?_
  refine lv_iand hx hb (pc := 20) dX3_slotOf_20 ?_
  refine rr_top (v := .int (nI (hsh key (2 * cap)))) (congrArg Value.int (hsh_eq key hm2)) ?_
  refine lv_istore (lv' := [(4, .int (nI (hsh key (2 * cap)))), (3, .int (key * (-1640531535))), (2, .int (nI ((2 * cap) - 1))), (0, .ref mo), (1, .int key)]) hx hb (pc := 21) dX3_slotOf_21 hl (by decide) rfl (fun ls hl => ?_)
  refine lv_iconst (v := nI 0) hx hb (pc := 23) dX3_slotOf_23 (by decide) ?_
  refine lv_istore (lv' := [(5, .int (nI 0)), (4, .int (nI (hsh key (2 * cap)))), (3, .int (key * (-1640531535))), (2, .int (nI ((2 * cap) - 1))), (0, .ref mo), (1, .int key)]) hx hb (pc := 24) dX3_slotOf_24 hl (by decide) rfl (fun ls hl => ?_)
  have L26 : ∀ (fz : Nat) (t : Nat) (x : Nat) (hfz : 2 * cap - t < fz) (ht : t ≤ 2 * cap) (hx9 : x < 2 * cap) (hg : slGo sl b N ks key (2 * cap) (2 * cap) (hsh key (2 * cap)) = slGo sl b N ks key (2 * cap) (2 * cap - t) x) (ls : Array Slot) (hl : lv_has ls 7 [(0, .ref mo), (1, .int key), (2, .int (nI (2 * cap - 1))), (4, .int (nI x)), (5, .int (nI t))]), W p l e rmX3_slotOf s m args below meth c s.heap [] 0 0 Q (F0 m 26 ls []) := by
    intro fz; induction fz with
    | zero => intro t x hfz ht hx9 hg ls hl; exact absurd hfz (Nat.not_lt_zero _)
    | succ fz ih26 =>
      intro t x hfz ht hx9 hg ls hl
      refine lv_iload hx hb (pc := 26) dX3_slotOf_26 (lv_at hl 4 rfl) ?_
      refine lv_aload_n hx hb (pc := 28) dX3_slotOf_28 rfl (lv_at hl 0 rfl) ?_
      refine va_get (v := .ref ms) hx hb hts (inX3_slotOf_3) hown hKK.1 hP 0 rfl rfl 3 (by decide) (hts _ (List.mem_of_getElem? (i := 1) (by decide +kernel))) (fun _ h9 => h9) rfl (pc := 29) dX3_slotOf_29 ?_
      refine va_alen (v := nI (2 * cap)) hx hb hKK.1 hP 3 0 rfl rfl rfl (pc := 32) dX3_slotOf_32 ?_
      refine nv_icmp_ge (a := t) (b := (2 * cap)) (tgt := 92) hx hb (pc := 33) dX3_slotOf_33 (by decide) (by omega) (by omega) (fun c33 => ?_) (fun c33 => ?_)
      · refine lv_iload hx hb (pc := 92) dX3_slotOf_92 (lv_at hl 3 rfl) ?_
        exact hret.1 94 _ (nI x) dX3_slotOf_94 (by rw [hg, show 2 * cap - t = 0 by omega]; rfl) (rfl)
      · have hslx := hsl x hx9
        have hg1 : slGo sl b N ks key (2 * cap) (2 * cap) (hsh key (2 * cap)) = if sl x < b ∨ b + N ≤ sl x ∨ ks (sl x - b) = key then x else slGo sl b N ks key (2 * cap) (2 * cap - (t + 1)) ((x + 1) &&& (2 * cap - 1)) := by rw [hg, show 2 * cap - t = (2 * cap - (t + 1)) + 1 by omega]; rfl
        refine lv_aload_n hx hb (pc := 36) dX3_slotOf_36 rfl (lv_at hl 0 rfl) ?_
        refine va_get (v := .ref ms) hx hb hts (inX3_slotOf_3) hown hKK.1 hP 0 rfl rfl 3 (by decide) (hts _ (List.mem_of_getElem? (i := 1) (by decide +kernel))) (fun _ h9 => h9) rfl (pc := 37) dX3_slotOf_37 ?_
        refine lv_iload hx hb (pc := 40) dX3_slotOf_40 (lv_at hl 3 rfl) ?_
        refine nv_iald (v := nI (sl x)) (i := x) hx hb hKK hP 3 rfl (by omega) (by omega) (rfl) (pc := 42) dX3_slotOf_42 ?_
        refine lv_aload_n hx hb (pc := 43) dX3_slotOf_43 rfl (lv_at hl 0 rfl) ?_
        refine va_get (v := .int (nI b)) hx hb hts (inX3_slotOf_3) hown hKK.1 hP 0 rfl rfl 4 (by decide) (hts _ (List.mem_of_getElem? (i := 3) (by decide +kernel))) (fun _ h9 => h9) rfl (pc := 44) dX3_slotOf_44 ?_
        refine lv_isub hx hb (pc := 47) dX3_slotOf_47 ?_
        refine lv_istore (lv' := [(6, .int ((nI (sl x)) - (nI b))), (0, .ref mo), (1, .int key), (2, .int (nI (2 * cap - 1))), (4, .int (nI x)), (5, .int (nI t))]) hx hb (pc := 48) dX3_slotOf_48 hl (by decide) rfl (fun ls hl => ?_)
        refine lv_iload hx hb (pc := 50) dX3_slotOf_50 (lv_at hl 0 rfl) ?_
        refine lv_if_lt (tgt := 75) hx hb (pc := 52) dX3_slotOf_52 (by decide) (fun c52 => ?_) (fun c52 => ?_)
        · refine lv_iload hx hb (pc := 75) dX3_slotOf_75 (lv_at hl 4 rfl) ?_
          exact hret.1 77 _ (nI x) dX3_slotOf_77 (by rw [hg1, if_pos (by first | exact Or.inr (Or.inr c72) | (refine Or.inl (Nat.lt_of_not_le (fun q => ?_)); rw [pk_sub q] at c52; exact nI_pos (by omega) c52))]) (rfl)
        · have hvb : b ≤ sl x := by
            rcases Nat.lt_or_ge (sl x) b with q | q
            · exact absurd (pk_sneg (by omega) q) c52
            · exact q
          have hl : lv_has ls 7 [(6, .int (nI (sl x - b))), (5, .int (nI t)), (4, .int (nI x)), (2, .int (nI (2 * cap - 1))), (0, .ref mo), (1, .int key)] := by rw [← pk_sub hvb]; exact lv_sub hl [0, 5, 4, 3, 1, 2] rfl
          refine lv_iload hx hb (pc := 55) dX3_slotOf_55 (lv_at hl 0 rfl) ?_
          refine lv_aload_n hx hb (pc := 57) dX3_slotOf_57 rfl (lv_at hl 4 rfl) ?_
          refine va_get (v := .int (nI N)) hx hb hts (inX3_slotOf_3) hown hKK.1 hP 0 rfl rfl 0 (by decide) (hts _ (List.mem_of_getElem? (i := 4) (by decide +kernel))) (fun _ h9 => h9) rfl (pc := 58) dX3_slotOf_58 ?_
          refine nv_icmp_ge (a := (sl x - b)) (b := N) (tgt := 75) hx hb (pc := 61) dX3_slotOf_61 (by decide) (by omega) (by omega) (fun c61 => absurd c61 (by omega)) (fun c61 => ?_)
          refine lv_aload_n hx hb (pc := 64) dX3_slotOf_64 rfl (lv_at hl 4 rfl) ?_
          refine va_get (v := .ref mk) hx hb hts (inX3_slotOf_3) hown hKK.1 hP 0 rfl rfl 1 (by decide) (hts _ (List.mem_of_getElem? (i := 5) (by decide +kernel))) (fun _ h9 => h9) rfl (pc := 65) dX3_slotOf_65 ?_
          refine lv_iload hx hb (pc := 68) dX3_slotOf_68 (lv_at hl 0 rfl) ?_
          refine nv_iald (v := ks (sl x - b)) (i := (sl x - b)) hx hb hKK hP 1 rfl (by omega) (by omega) (rfl) (pc := 70) dX3_slotOf_70 ?_
          refine lv_iload_n hx hb (pc := 71) dX3_slotOf_71 rfl (lv_at hl 5 rfl) ?_
          refine lv_icmp_ne (tgt := 78) hx hb (pc := 72) dX3_slotOf_72 (by decide) (fun c72 => ?_) (fun c72 => ?_)
          · have hg2 : slGo sl b N ks key (2 * cap) (2 * cap) (hsh key (2 * cap)) = slGo sl b N ks key (2 * cap) (2 * cap - (t + 1)) ((x + 1) &&& (2 * cap - 1)) := by rw [hg1, if_neg (by rintro (q | q | q); omega; omega; exact c72 q)]
            refine lv_iload hx hb (pc := 78) dX3_slotOf_78 (lv_at hl 2 rfl) ?_
            refine lv_iconst (v := nI 1) hx hb (pc := 80) dX3_slotOf_80 (by decide) ?_
            refine nv_iadd (a := x) (b := 1) hx hb (pc := 81) dX3_slotOf_81 ?_
            refine lv_iload_n hx hb (pc := 82) dX3_slotOf_82 rfl (lv_at hl 3 rfl) ?_
            refine nv_iand (a := (x + 1)) (b := (2 * cap - 1)) hx hb (pc := 83) dX3_slotOf_83 ?_
            refine lv_istore (lv' := [(4, .int (nI ((x + 1) &&& (2 * cap - 1)))), (6, .int (nI (sl x - b))), (5, .int (nI t)), (2, .int (nI (2 * cap - 1))), (0, .ref mo), (1, .int key)]) hx hb (pc := 84) dX3_slotOf_84 hl (by decide) rfl (fun ls hl => ?_)
            refine lv_iinc (v := nI (t + 1)) (lv' := [(5, .int (nI (t + 1))), (4, .int (nI ((x + 1) &&& (2 * cap - 1)))), (6, .int (nI (sl x - b))), (2, .int (nI (2 * cap - 1))), (0, .ref mo), (1, .int key)]) hx hb (pc := 86) dX3_slotOf_86 hl (k := 2) rfl (rr_inc _) (by decide) rfl (fun ls hl => ?_)
            refine lv_goto (tgt := 26) hx hb (pc := 89) dX3_slotOf_89 (by decide) ?_
            exact ih26 (t + 1) ((x + 1) &&& (2 * cap - 1)) (by omega) (by omega) (by rw [and_mask hm3]; exact Nat.mod_lt _ (by omega)) (hg2) ls (lv_sub hl [4, 5, 3, 1, 0] rfl)
          · refine lv_iload hx hb (pc := 75) dX3_slotOf_75 (lv_at hl 2 rfl) ?_
            exact hret.1 77 _ (nI x) dX3_slotOf_77 (by rw [hg1, if_pos (by first | exact Or.inr (Or.inr c72) | (refine Or.inl (Nat.lt_of_not_le (fun q => ?_)); rw [pk_sub q] at c52; exact nI_pos (by omega) c52))]) (rfl)
  exact L26 (2 * cap + 1) 0 (hsh key (2 * cap)) (by omega) (Nat.zero_le _) (hh) (rfl) ls (lv_sub hl [4, 5, 3, 1, 0] rfl)

abbrev rmX3_clear : Room := { frames := 1, cells := 0, slots := 0, locals := 23 }
theorem inX3_clear_3 : ∀ w ∈ wsX30, w ∈ wsX3_clear := fun _ h => List.mem_cons_of_mem _ (List.mem_append_right _ h)
set_option maxHeartbeats 4000000 in
set_option maxRecDepth 100000 in
theorem c_X3_clear (l : Launch) (K : rr_K) (A : Nat → Prop) (mo mk mn ms b cap : Nat) (ks : Nat → Int32) (no sl : Nat → Nat) (kl : List Int32) (nl : List Nat) (hM : MInv kl nl cap b ks no sl) (hD : va_D A (MW3 K mo mk mn ms kl.length b cap ks no sl)) : MetV l K yX3_clear wsX3_clear rmX3_clear [.ref mo] (fun H => va_P K.1 vwCl (MW3 K mo mk mn ms kl.length b cap ks no sl) H) A (fun H => ∃ b' sl', MInv [] [] cap b' ks no sl' ∧ va_P K.1 vwCl (MW3 K mo mk mn ms 0 b' cap ks no sl') H) 0 0 := by
  refine metV_of (cc := cX3_clear) (maxL := 1) (by decide) rfl rfl rfl (Nat.le_of_ble_eq_true rfl) ?_
  intro p e s m args below meth c Q ls hEnt hin hKK hX hret hl
  obtain ⟨hx, hb, hml, hown, hts⟩ := hEnt
  have hP : va_P K.1 vwCl (MW3 K mo mk mn ms kl.length b cap ks no sl) s.heap := hX
  have hl : lv_has ls 1 [(0, .ref mo)] := hl
  have hS : va_S A s.heap s.heap [] := va_S.rf
  obtain ⟨m1, m2, m3, ⟨ee, m4⟩, m5, m6, m7, m8, m9, m10, m11⟩ := id hM
  have hsl0 : ∀ s, s < 2 * cap → sl s < b + kl.length := m11.1
  refine lv_aload_n hx hb (pc := 0) dX3_clear_0 rfl (lv_at hl 0 rfl) ?_
  refine lv_dup hx hb (pc := 1) dX3_clear_1 rfl ?_
  refine va_get (v := .int (nI b)) hx hb hts (inX3_clear_3) hown hKK.1 hP 0 rfl rfl 4 (by decide) (hts _ (List.mem_of_getElem? (i := 1) (by decide +kernel))) (fun _ h9 => h9) rfl (pc := 2) dX3_clear_2 ?_
  refine lv_aload_n hx hb (pc := 5) dX3_clear_5 rfl (lv_at hl 0 rfl) ?_
  refine va_get (v := .int (nI kl.length)) hx hb hts (inX3_clear_3) hown hKK.1 hP 0 rfl rfl 0 (by decide) (hts _ (List.mem_of_getElem? (i := 2) (by decide +kernel))) (fun _ h9 => h9) rfl (pc := 6) dX3_clear_6 ?_
  refine nv_iadd (a := b) (b := kl.length) hx hb (pc := 9) dX3_clear_9 ?_
  refine rr_put (v := .int (nI (b + kl.length))) (ty := tyX3 4) (ws' := MW3 K mo mk mn ms kl.length (b + kl.length) cap ks no sl) hx hb hts (inX3_clear_3) tyX3 tyX3_ok nmX3 hown hKK.1 hP hD hS 0 rfl rfl 4 (by decide) (hts _ (List.mem_of_getElem? (i := 1) (by decide +kernel))) (fun _ h9 => h9) rfl (tyX3_ok 4 (by decide)) rfl rfl (Nat.le_of_ble_eq_true rfl) rfl (pc := 10) dX3_clear_10 (fun H locs hP hD hS => ?_)
  refine lv_aload_n hx hb (pc := 13) dX3_clear_13 rfl (lv_at hl 0 rfl) ?_
  refine lv_iconst (v := nI 0) hx hb (pc := 14) dX3_clear_14 (by decide) ?_
  refine rr_put (v := .int (nI 0)) (ty := tyX3 0) (ws' := MW3 K mo mk mn ms 0 (b + kl.length) cap ks no sl) hx hb hts (inX3_clear_3) tyX3 tyX3_ok nmX3 hown hKK.1 hP hD hS 0 rfl rfl 0 (by decide) (hts _ (List.mem_of_getElem? (i := 2) (by decide +kernel))) (fun _ h9 => h9) rfl (tyX3_ok 0 (by decide)) rfl rfl (Nat.le_of_ble_eq_true rfl) rfl (pc := 15) dX3_clear_15 (fun H locs hP hD hS => ?_)
  refine lv_aload_n hx hb (pc := 18) dX3_clear_18 rfl (lv_at hl 0 rfl) ?_
  refine va_get (v := .int (nI (b + kl.length))) hx hb hts (inX3_clear_3) hown hKK.1 hP 0 rfl rfl 4 (by decide) (hts _ (List.mem_of_getElem? (i := 1) (by decide +kernel))) (fun _ h9 => h9) rfl (pc := 19) dX3_clear_19 ?_
  refine lv_ldc (v := nI 1000000000) hx hb (pc := 22) hown (hts _ (List.mem_of_getElem? (i := 3) (by decide +kernel))) dX3_clear_22 ?_
  refine nv_icmp_le (a := (b + kl.length)) (b := 1000000000) (tgt := 40) hx hb (pc := 24) dX3_clear_24 (by decide) (by omega) (by omega) (fun c24 => ?_) (fun c24 => ?_)
  · exact hret _ _ 0 0 40 _ dX3_clear_40 (by omega) (by omega) hS (by first | exact ⟨b + kl.length, sl, ⟨Nat.zero_le _, m2, m3, ⟨ee, m4⟩, List.nodup_nil, rfl, fun j h => absurd h (Nat.not_lt_zero j), fun j h => absurd h (Nat.not_lt_zero j), by omega, by omega, HT_0 hsl0⟩, hP⟩ | exact ⟨1, _, ⟨Nat.zero_le _, m2, m3, ⟨ee, m4⟩, List.nodup_nil, rfl, fun j h => absurd h (Nat.not_lt_zero j), fun j h => absurd h (Nat.not_lt_zero j), Nat.le_refl 1, by decide, HT_0 (fun s hs => by rw [putZ_in hs]; decide)⟩, hP⟩)
  · refine lv_aload_n hx hb (pc := 27) dX3_clear_27 rfl (lv_at hl 0 rfl) ?_
    refine va_get (v := .ref ms) hx hb hts (inX3_clear_3) hown hKK.1 hP 0 rfl rfl 3 (by decide) (hts _ (List.mem_of_getElem? (i := 4) (by decide +kernel))) (fun _ h9 => h9) rfl (pc := 28) dX3_clear_28 ?_
    refine lv_iconst (v := nI 0) hx hb (pc := 31) dX3_clear_31 (by decide) ?_
    have hP : va_P K.1 vwCl ([(mo, .inr (3, [.int (nI 0), .ref mk, .ref mn, .ref ms, .int (nI (b + kl.length))])), (mk, .inl (K.2.1, cap, .inl ks)), (mn, .inl (K.2.1, cap, .inl (fun j => nI (no j))))] ++ RA K ms (2 * cap) sl) H := hP
    have hD : va_D A ([(mo, .inr (3, [.int (nI 0), .ref mk, .ref mn, .ref ms, .int (nI (b + kl.length))])), (mk, .inl (K.2.1, cap, .inl ks)), (mn, .inl (K.2.1, cap, .inl (fun j => nI (no j))))] ++ RA K ms (2 * cap) sl) := hD
    have hDc := rr_AW (rr_Dright hD)
    refine rr_callV (pc := 32) (va_runS (As := [.ref ms, .int (nI 0)]) (rest := []) ⟨hx, hb, hml, hown, hts⟩ (c_J7_fill_53178 l K (AW (RA K ms (2 * cap) sl)) ms (2 * cap) 0 sl (by omega) hDc) (va_cwS 2 hts gX3_clear_J7_fill_53178 rfl rfl rfl (by decide +kernel) ⟨Nat.le_of_ble_eq_true rfl, Nat.le_of_ble_eq_true rfl⟩) (rr_preS hKK (rr_right hP)) rfl rfl hl.1 rfl (lv_room (Nat.le_of_ble_eq_true rfl)) dX3_clear_32 ⟨by omega, by omega⟩) hS (rr_AW_in (rr_Dright hD)) (fun H locs hY hsz hfr hS => ?_)
    have hP1 := hY
    obtain ⟨hP, hD⟩ := rr_app2 hP hD hfr hP1 rfl
    have hD : va_D A (MW3 K mo mk mn ms 0 (b + kl.length) cap ks no (putZ sl (fun _ => 0) (2 * cap))) := hD
    have hP : va_P K.1 vwCl (MW3 K mo mk mn ms 0 (b + kl.length) cap ks no (putZ sl (fun _ => 0) (2 * cap))) H := hP
    refine lv_aload_n hx hb (pc := 35) dX3_clear_35 rfl (lv_at hl 0 rfl) ?_
    refine lv_iconst (v := nI 1) hx hb (pc := 36) dX3_clear_36 (by decide) ?_
    refine rr_put (v := .int (nI 1)) (ty := tyX3 4) (ws' := MW3 K mo mk mn ms 0 1 cap ks no (putZ sl (fun _ => 0) (2 * cap))) hx hb hts (inX3_clear_3) tyX3 tyX3_ok nmX3 hown hKK.1 hP hD hS 0 rfl rfl 4 (by decide) (hts _ (List.mem_of_getElem? (i := 1) (by decide +kernel))) (fun _ h9 => h9) rfl (tyX3_ok 4 (by decide)) rfl rfl (Nat.le_of_ble_eq_true rfl) rfl (pc := 37) dX3_clear_37 (fun H locs hP hD hS => ?_)
    exact hret _ _ 0 0 40 _ dX3_clear_40 (by omega) (by omega) hS (by first | exact ⟨b + kl.length, sl, ⟨Nat.zero_le _, m2, m3, ⟨ee, m4⟩, List.nodup_nil, rfl, fun j h => absurd h (Nat.not_lt_zero j), fun j h => absurd h (Nat.not_lt_zero j), by omega, by omega, HT_0 hsl0⟩, hP⟩ | exact ⟨1, _, ⟨Nat.zero_le _, m2, m3, ⟨ee, m4⟩, List.nodup_nil, rfl, fun j h => absurd h (Nat.not_lt_zero j), fun j h => absurd h (Nat.not_lt_zero j), Nat.le_refl 1, by decide, HT_0 (fun s hs => by rw [putZ_in hs]; decide)⟩, hP⟩)

