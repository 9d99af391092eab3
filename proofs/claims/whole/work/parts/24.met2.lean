abbrev rmX3_grow (mc ms : Nat) : Room := { frames := 2, cells := mc, slots := ms, locals := 42 }
theorem inX3_grow_3 : ∀ w ∈ wsX30, w ∈ wsX3_grow := fun _ h => List.mem_cons_of_mem _ (List.mem_append_right _ h)
set_option maxHeartbeats 4000000 in
set_option maxRecDepth 100000 in
theorem c_X3_grow (l : Launch) (K : rr_K) (A : Nat → Prop) (sz : Nat) (mo mk mn ms b cap : Nat) (ks : Nat → Int32) (no sl : Nat → Nat) (kl : List Int32) (nl : List Nat) (hM : MInv kl nl cap b ks no sl) (hc : cap ≤ 32768) (hA : ∀ q, sz ≤ q → A q) (hD : va_D A (MW3 K mo mk mn ms kl.length b cap ks no sl)) : MetV l K yX3_grow wsX3_grow (rmX3_grow (3) (8 * cap)) [.ref mo] (fun H => H.size = sz ∧ va_P K.1 vwCl (MW3 K mo mk mn ms kl.length b cap ks no sl) H) A (fun H => ∃ mk' mn' ms' ks' no' sl', MInv kl nl (2 * cap) 1 ks' no' sl' ∧ va_P K.1 vwCl (MW3 K mo mk' mn' ms' kl.length 1 (2 * cap) ks' no' sl') H ∧ va_D A (MW3 K mo mk' mn' ms' kl.length 1 (2 * cap) ks' no' sl')) 3 (8 * cap) := by
  refine metV_of (cc := cX3_grow) (maxL := 3) (by decide) rfl rfl rfl (Nat.le_of_ble_eq_true rfl) ?_
  intro p e s m args below meth c Q ls hEnt hin hKK hX hret hl
  obtain ⟨hx, hb, hml, hown, hts⟩ := hEnt
  obtain ⟨hsz0, hX⟩ := hX
  have hA : ∀ q, s.heap.size ≤ q → A q := fun q h => hA q (hsz0 ▸ h)
  have hP : va_P K.1 vwCl (MW3 K mo mk mn ms kl.length b cap ks no sl) s.heap := hX
  have hl : lv_has ls 3 [(0, .ref mo)] := hl
  have hS : va_S A s.heap s.heap [] := va_S.rf
  obtain ⟨m1, m2, m3, ⟨ee, m4⟩, m5, m6, m7, m8, m9, m10, m11⟩ := id hM
  refine lv_iconst (v := nI 2) hx hb (pc := 0) dX3_grow_0 (by decide) ?_
  refine lv_aload_n hx hb (pc := 1) dX3_grow_1 rfl (lv_at hl 0 rfl) ?_
  refine va_get (v := .ref mk) hx hb hts (inX3_grow_3) hown hKK.1 hP 0 rfl rfl 1 (by decide) (hts _ (List.mem_of_getElem? (i := 1) (by decide +kernel))) (fun _ h9 => h9) rfl (pc := 2) dX3_grow_2 ?_
  refine va_alen (v := nI cap) hx hb hKK.1 hP 1 0 rfl rfl rfl (pc := 5) dX3_grow_5 ?_
  refine nv_imul (a := 2) (b := cap) hx hb (pc := 6) dX3_grow_6 ?_
  refine lv_istore_n (lv' := [(1, .int (nI (2 * cap))), (0, .ref mo)]) hx hb (pc := 7) dX3_grow_7 rfl hl (by decide) rfl (fun ls hl => ?_)
  refine lv_aload_n hx hb (pc := 8) dX3_grow_8 rfl (lv_at hl 1 rfl) ?_
  refine lv_aload_n hx hb (pc := 9) dX3_grow_9 rfl (lv_at hl 1 rfl) ?_
  refine va_get (v := .ref mk) hx hb hts (inX3_grow_3) hown hKK.1 hP 0 rfl rfl 1 (by decide) (hts _ (List.mem_of_getElem? (i := 1) (by decide +kernel))) (fun _ h9 => h9) rfl (pc := 10) dX3_grow_10 ?_
  refine lv_iload_n hx hb (pc := 13) dX3_grow_13 rfl (lv_at hl 0 rfl) ?_
  have hPc := hP.sub (ws' := RI K mk cap ks) [1] rfl
  have hDc := (hD.sub (ws' := RI K mk cap ks) [1] (by decide) rfl).self (sz := s.heap.size)
  have hFc := va_free (wc := RI K mk cap ks) hD hS hA [1] rfl
  refine rr_callR (pc := 14) (va_runS (As := [.ref mk, .int (nI (2 * cap))]) (rest := [.ref mo]) ⟨hx, hb, hml, hown, hts⟩ (c_J7_copyOf_59c91 l K (va_A (RI K mk cap ks) s.heap.size) s.heap.size mk cap (2 * cap) ks (by omega) (by omega) (fun q h => Or.inr h) hDc) (va_cwS 2 hts gX3_grow_J7_copyOf_59c91 rfl rfl rfl (by decide +kernel) ⟨Nat.le_of_ble_eq_true rfl, Nat.le_of_ble_eq_true rfl⟩) (rr_preS hKK (⟨rfl, hPc⟩)) rfl rfl hl.1 rfl (lv_room (Nat.le_of_ble_eq_true rfl)) dX3_grow_14 ⟨by show 0 + 1 ≤ 3; omega, by show 0 + 2 * cap ≤ 8 * cap; omega⟩) hS (hFc) (fun v H locs hY hsz hfr hS => ?_)
  obtain ⟨q1, rfl, hP1, hD1⟩ := hY
  obtain ⟨hP, hD⟩ := va_join (wr := [(mo, .inr (3, [.int (nI kl.length), .ref mk, .ref mn, .ref ms, .int (nI b)])), (mn, .inl (K.2.1, cap, .inl (fun j => nI (no j)))), (ms, .inl (K.2.1, 2 * cap, .inl (fun j => nI (sl j))))]) (w1 := [(mk, .inl (K.2.1, cap, .inl (ks))), (q1, .inl (K.2.1, 2 * cap, .inl (cpF ks cap)))]) hP hD [1] [0, 2, 3] rfl rfl (by decide) (by decide) hfr hFc hP1 hD1
  have hP : va_P K.1 vwCl ([(mo, .inr (3, [.int (nI kl.length), .ref mk, .ref mn, .ref ms, .int (nI b)])), (mn, .inl (K.2.1, cap, .inl (fun j => nI (no j)))), (ms, .inl (K.2.1, 2 * cap, .inl (fun j => nI (sl j)))), (mk, .inl (K.2.1, cap, .inl (ks))), (q1, .inl (K.2.1, 2 * cap, .inl (cpF ks cap)))]) H := hP
  have hD : va_D A ([(mo, .inr (3, [.int (nI kl.length), .ref mk, .ref mn, .ref ms, .int (nI b)])), (mn, .inl (K.2.1, cap, .inl (fun j => nI (no j)))), (ms, .inl (K.2.1, 2 * cap, .inl (fun j => nI (sl j)))), (mk, .inl (K.2.1, cap, .inl (ks))), (q1, .inl (K.2.1, 2 * cap, .inl (cpF ks cap)))]) := hD
  refine rr_put (v := .ref q1) (ty := tyX3 1) (ws' := [(mo, .inr (3, [.int (nI kl.length), .ref q1, .ref mn, .ref ms, .int (nI b)])), (mn, .inl (K.2.1, cap, .inl (fun j => nI (no j)))), (ms, .inl (K.2.1, 2 * cap, .inl (fun j => nI (sl j)))), (mk, .inl (K.2.1, cap, .inl (ks))), (q1, .inl (K.2.1, 2 * cap, .inl (cpF ks cap)))]) hx hb hts (inX3_grow_3) tyX3 tyX3_ok nmX3 hown hKK.1 hP hD hS 0 rfl rfl 1 (by decide) (hts _ (List.mem_of_getElem? (i := 1) (by decide +kernel))) (fun _ h9 => h9) rfl (tyX3_ok 1 (by decide)) rfl rfl (Nat.le_of_ble_eq_true rfl) rfl (pc := 17) dX3_grow_17 (fun H locs hP hD hS => ?_)
  refine lv_aload_n hx hb (pc := 20) dX3_grow_20 rfl (lv_at hl 1 rfl) ?_
  refine lv_aload_n hx hb (pc := 21) dX3_grow_21 rfl (lv_at hl 1 rfl) ?_
  refine va_get (v := .ref mn) hx hb hts (inX3_grow_3) hown hKK.1 hP 0 rfl rfl 2 (by decide) (hts _ (List.mem_of_getElem? (i := 2) (by decide +kernel))) (fun _ h9 => h9) rfl (pc := 22) dX3_grow_22 ?_
  refine lv_iload_n hx hb (pc := 25) dX3_grow_25 rfl (lv_at hl 0 rfl) ?_
  have hPc := hP.sub (ws' := RI K mn cap (fun j => nI (no j))) [1] rfl
  have hDc := (hD.sub (ws' := RI K mn cap (fun j => nI (no j))) [1] (by decide) rfl).self (sz := H.size)
  have hFc := va_free (wc := RI K mn cap (fun j => nI (no j))) hD hS hA [1] rfl
  refine rr_callR (pc := 26) (va_runS (As := [.ref mn, .int (nI (2 * cap))]) (rest := [.ref mo]) ⟨hx, hb, hml, hown, hts⟩ (c_J7_copyOf_59c91 l K (va_A (RI K mn cap (fun j => nI (no j))) H.size) H.size mn cap (2 * cap) (fun j => nI (no j)) (by omega) (by omega) (fun q h => Or.inr h) hDc) (va_cwS 2 hts gX3_grow_J7_copyOf_59c91 rfl rfl rfl (by decide +kernel) ⟨Nat.le_of_ble_eq_true rfl, Nat.le_of_ble_eq_true rfl⟩) (rr_preS hKK (⟨rfl, hPc⟩)) rfl rfl hl.1 rfl (lv_room (Nat.le_of_ble_eq_true rfl)) dX3_grow_26 ⟨by show 0 + 1 + 1 ≤ 3; omega, by show 0 + 2 * cap + 2 * cap ≤ 8 * cap; omega⟩) hS (hFc) (fun v H locs hY hsz hfr hS => ?_)
  obtain ⟨q2, rfl, hP1, hD1⟩ := hY
  obtain ⟨hP, hD⟩ := va_join (wr := [(mo, .inr (3, [.int (nI kl.length), .ref q1, .ref mn, .ref ms, .int (nI b)])), (ms, .inl (K.2.1, 2 * cap, .inl (fun j => nI (sl j)))), (mk, .inl (K.2.1, cap, .inl (ks))), (q1, .inl (K.2.1, 2 * cap, .inl (cpF ks cap)))]) (w1 := [(mn, .inl (K.2.1, cap, .inl (fun j => nI (no j)))), (q2, .inl (K.2.1, 2 * cap, .inl (cpF (fun j => nI (no j)) cap)))]) hP hD [1] [0, 2, 3, 4] rfl rfl (by decide) (by decide) hfr hFc hP1 hD1
  have hP : va_P K.1 vwCl ([(mo, .inr (3, [.int (nI kl.length), .ref q1, .ref mn, .ref ms, .int (nI b)])), (ms, .inl (K.2.1, 2 * cap, .inl (fun j => nI (sl j)))), (mk, .inl (K.2.1, cap, .inl (ks))), (q1, .inl (K.2.1, 2 * cap, .inl (cpF ks cap))), (mn, .inl (K.2.1, cap, .inl (fun j => nI (no j)))), (q2, .inl (K.2.1, 2 * cap, .inl (cpF (fun j => nI (no j)) cap)))]) H := hP
  have hD : va_D A ([(mo, .inr (3, [.int (nI kl.length), .ref q1, .ref mn, .ref ms, .int (nI b)])), (ms, .inl (K.2.1, 2 * cap, .inl (fun j => nI (sl j)))), (mk, .inl (K.2.1, cap, .inl (ks))), (q1, .inl (K.2.1, 2 * cap, .inl (cpF ks cap))), (mn, .inl (K.2.1, cap, .inl (fun j => nI (no j)))), (q2, .inl (K.2.1, 2 * cap, .inl (cpF (fun j => nI (no j)) cap)))]) := hD
  refine rr_put (v := .ref q2) (ty := tyX3 2) (ws' := [(mo, .inr (3, [.int (nI kl.length), .ref q1, .ref q2, .ref ms, .int (nI b)])), (ms, .inl (K.2.1, 2 * cap, .inl (fun j => nI (sl j)))), (mk, .inl (K.2.1, cap, .inl (ks))), (q1, .inl (K.2.1, 2 * cap, .inl (cpF ks cap))), (mn, .inl (K.2.1, cap, .inl (fun j => nI (no j)))), (q2, .inl (K.2.1, 2 * cap, .inl (cpF (fun j => nI (no j)) cap)))]) hx hb hts (inX3_grow_3) tyX3 tyX3_ok nmX3 hown hKK.1 hP hD hS 0 rfl rfl 2 (by decide) (hts _ (List.mem_of_getElem? (i := 2) (by decide +kernel))) (fun _ h9 => h9) rfl (tyX3_ok 2 (by decide)) rfl rfl (Nat.le_of_ble_eq_true rfl) rfl (pc := 29) dX3_grow_29 (fun H locs hP hD hS => ?_)
  refine lv_aload_n hx hb (pc := 32) dX3_grow_32 rfl (lv_at hl 1 rfl) ?_
  refine lv_iconst (v := nI 2) hx hb (pc := 33) dX3_grow_33 (by decide) ?_
  refine lv_iload_n hx hb (pc := 34) dX3_grow_34 rfl (lv_at hl 0 rfl) ?_
  refine nv_imul (a := 2) (b := (2 * cap)) hx hb (pc := 35) dX3_grow_35 ?_
  refine nv_newi (n := (2 * (2 * cap))) hx hb (hts _ (List.mem_of_getElem? (i := 3) (by decide +kernel))) hKK hP hD hS hA (by omega) (by show 0 + 1 + 1 + 1 ≤ 3; omega) (by show 0 + 2 * cap + 2 * cap + 2 * (2 * cap) ≤ 8 * cap; omega) (pc := 36) dX3_grow_36 (fun q3 H hP hD hS => ?_)
  have hP : va_P K.1 vwCl ([(mo, .inr (3, [.int (nI kl.length), .ref q1, .ref q2, .ref ms, .int (nI b)])), (ms, .inl (K.2.1, 2 * cap, .inl (fun j => nI (sl j)))), (mk, .inl (K.2.1, cap, .inl (ks))), (q1, .inl (K.2.1, 2 * cap, .inl (cpF ks cap))), (mn, .inl (K.2.1, cap, .inl (fun j => nI (no j)))), (q2, .inl (K.2.1, 2 * cap, .inl (cpF (fun j => nI (no j)) cap))), (q3, .inl (K.2.1, 2 * (2 * cap), .inl (fun j => nI (((fun _ => 0)) j))))]) H := hP
  have hD : va_D A ([(mo, .inr (3, [.int (nI kl.length), .ref q1, .ref q2, .ref ms, .int (nI b)])), (ms, .inl (K.2.1, 2 * cap, .inl (fun j => nI (sl j)))), (mk, .inl (K.2.1, cap, .inl (ks))), (q1, .inl (K.2.1, 2 * cap, .inl (cpF ks cap))), (mn, .inl (K.2.1, cap, .inl (fun j => nI (no j)))), (q2, .inl (K.2.1, 2 * cap, .inl (cpF (fun j => nI (no j)) cap))), (q3, .inl (K.2.1, 2 * (2 * cap), .inl (fun j => nI (((fun _ => 0)) j))))]) := hD
  refine rr_put (v := .ref q3) (ty := tyX3 3) (ws' := [(mo, .inr (3, [.int (nI kl.length), .ref q1, .ref q2, .ref q3, .int (nI b)])), (ms, .inl (K.2.1, 2 * cap, .inl (fun j => nI (sl j)))), (mk, .inl (K.2.1, cap, .inl (ks))), (q1, .inl (K.2.1, 2 * cap, .inl (cpF ks cap))), (mn, .inl (K.2.1, cap, .inl (fun j => nI (no j)))), (q2, .inl (K.2.1, 2 * cap, .inl (cpF (fun j => nI (no j)) cap))), (q3, .inl (K.2.1, 2 * (2 * cap), .inl (fun j => nI (((fun _ => 0)) j))))]) hx hb hts (inX3_grow_3) tyX3 tyX3_ok nmX3 hown hKK.1 hP hD hS 0 rfl rfl 3 (by decide) (hts _ (List.mem_of_getElem? (i := 4) (by decide +kernel))) (fun _ h9 => h9) rfl (tyX3_ok 3 (by decide)) rfl rfl (Nat.le_of_ble_eq_true rfl) rfl (pc := 38) dX3_grow_38 (fun H locs hP hD hS => ?_)
  refine lv_aload_n hx hb (pc := 41) dX3_grow_41 rfl (lv_at hl 1 rfl) ?_
  refine lv_iconst (v := nI 1) hx hb (pc := 42) dX3_grow_42 (by decide) ?_
  refine rr_put (v := .int (nI 1)) (ty := tyX3 4) (ws' := [(mo, .inr (3, [.int (nI kl.length), .ref q1, .ref q2, .ref q3, .int (nI 1)])), (ms, .inl (K.2.1, 2 * cap, .inl (fun j => nI (sl j)))), (mk, .inl (K.2.1, cap, .inl (ks))), (q1, .inl (K.2.1, 2 * cap, .inl (cpF ks cap))), (mn, .inl (K.2.1, cap, .inl (fun j => nI (no j)))), (q2, .inl (K.2.1, 2 * cap, .inl (cpF (fun j => nI (no j)) cap))), (q3, .inl (K.2.1, 2 * (2 * cap), .inl (fun j => nI (((fun _ => 0)) j))))]) hx hb hts (inX3_grow_3) tyX3 tyX3_ok nmX3 hown hKK.1 hP hD hS 0 rfl rfl 4 (by decide) (hts _ (List.mem_of_getElem? (i := 5) (by decide +kernel))) (fun _ h9 => h9) rfl (tyX3_ok 4 (by decide)) rfl rfl (Nat.le_of_ble_eq_true rfl) rfl (pc := 43) dX3_grow_43 (fun H locs hP hD hS => ?_)
  rw [cpF_nat] at hP hD
  have hP : va_P K.1 vwCl (MW3 K mo q1 q2 q3 kl.length 1 (2 * cap) (cpF ks cap) (fun j => if j < cap then no j else 0) (fun _ => 0)) H := hP.sub [0, 3, 5, 6] rfl
  have hD : va_D A (MW3 K mo q1 q2 q3 kl.length 1 (2 * cap) (cpF ks cap) (fun j => if j < cap then no j else 0) (fun _ => 0)) := hD.sub [0, 3, 5, 6] (by decide) rfl
  refine lv_iconst (v := nI 0) hx hb (pc := 46) dX3_grow_46 (by decide) ?_
  refine lv_istore_n (lv' := [(2, .int (nI 0)), (1, .int (nI (2 * cap))), (0, .ref mo)]) hx hb (pc := 47) dX3_grow_47 rfl hl (by decide) rfl (fun ls hl => ?_)
  have L48 : ∀ (fz : Nat) (i : Nat) (sl1 : Nat → Nat) (H : Heap) (locs : List Loc) (hP : va_P K.1 vwCl (MW3 K mo q1 q2 q3 kl.length 1 (2 * cap) (cpF ks cap) (fun j => if j < cap then no j else 0) sl1) H) (hD : va_D A (MW3 K mo q1 q2 q3 kl.length 1 (2 * cap) (cpF ks cap) (fun j => if j < cap then no j else 0) sl1)) (hS : va_S A s.heap H locs) (hfz : kl.length - i < fz) (hi : i ≤ kl.length) (hT : HT sl1 1 i (cpF ks cap) (2 * (2 * cap))) (ls : Array Slot) (hl : lv_has ls 3 [(0, .ref mo), (1, .int (nI (2 * cap))), (2, .int (nI i))]), W p l e (rmX3_grow (3) (8 * cap)) s m args below meth c H locs 3 (8 * cap) Q (F0 m 48 ls []) := by
    intro fz; induction fz with
    | zero => intro i sl1 H locs hP hD hS hfz hi hT ls hl; exact absurd hfz (Nat.not_lt_zero _)
    | succ fz ih48 =>
      intro i sl1 H locs hP hD hS hfz hi hT ls hl
      have hj2 : ∀ a c, a < kl.length → c < kl.length → (cpF ks cap) a = (cpF ks cap) c → a = c := fun a c ha hc e => by
        unfold cpF at e
        rw [if_pos (by omega), if_pos (by omega)] at e
        exact hM.inj a c ha hc e
      have hsl1 : ∀ s, s < (2 * (2 * cap)) → sl1 s < 1 + kl.length := fun s hs => by have := hT.1 s hs; omega
      refine lv_iload_n hx hb (pc := 48) dX3_grow_48 rfl (lv_at hl 2 rfl) ?_
      refine lv_aload_n hx hb (pc := 49) dX3_grow_49 rfl (lv_at hl 0 rfl) ?_
      refine va_get (v := .int (nI kl.length)) hx hb hts (inX3_grow_3) hown hKK.1 hP 0 rfl rfl 0 (by decide) (hts _ (List.mem_of_getElem? (i := 6) (by decide +kernel))) (fun _ h9 => h9) rfl (pc := 50) dX3_grow_50 ?_
      refine nv_icmp_ge (a := i) (b := kl.length) (tgt := 83) hx hb (pc := 53) dX3_grow_53 (by decide) (by omega) (by omega) (fun c53 => ?_) (fun c53 => ?_)
      · have e9 : i = kl.length := by omega
        rw [e9] at hT
        exact hret _ _ 3 (8 * cap) 83 _ dX3_grow_83 (by omega) (by omega) hS (⟨q1, q2, q3, _, _, sl1, MInv_grown hM hc hT, hP, hD⟩)
      · refine lv_aload_n hx hb (pc := 56) dX3_grow_56 rfl (lv_at hl 0 rfl) ?_
        refine va_get (v := .ref q3) hx hb hts (inX3_grow_3) hown hKK.1 hP 0 rfl rfl 3 (by decide) (hts _ (List.mem_of_getElem? (i := 4) (by decide +kernel))) (fun _ h9 => h9) rfl (pc := 57) dX3_grow_57 ?_
        refine lv_aload_n hx hb (pc := 60) dX3_grow_60 rfl (lv_at hl 0 rfl) ?_
        refine lv_aload_n hx hb (pc := 61) dX3_grow_61 rfl (lv_at hl 0 rfl) ?_
        refine va_get (v := .ref q1) hx hb hts (inX3_grow_3) hown hKK.1 hP 0 rfl rfl 1 (by decide) (hts _ (List.mem_of_getElem? (i := 1) (by decide +kernel))) (fun _ h9 => h9) rfl (pc := 62) dX3_grow_62 ?_
        refine lv_iload_n hx hb (pc := 65) dX3_grow_65 rfl (lv_at hl 2 rfl) ?_
        refine nv_iald (v := ((cpF ks cap)) i) (i := i) hx hb hKK hP 1 rfl (by omega) (by omega) (rfl) (pc := 66) dX3_grow_66 ?_
        refine rr_callP (rv := .int (nI (slGo sl1 1 kl.length (cpF ks cap) ((cpF ks cap) i) (2 * (2 * cap)) (2 * (2 * cap)) (hsh ((cpF ks cap) i) (2 * (2 * cap)))))) (pc := 67) (va_runV (As := [.int (((cpF ks cap)) i)]) (rest := [.ref q3]) ⟨hx, hb, hml, hown, hts⟩ (c_X3_slotOf l K mo q1 q2 q3 1 (2 * cap) kl.length (cpF ks cap) (fun j => if j < cap then no j else 0) sl1 ((cpF ks cap) i) hsl1 (by omega) (by omega) ⟨ee + 1, by rw [m4, Nat.pow_succ]; omega⟩ (by decide)) (cwV 1 hts gX3_grow_X3_slotOf rfl rfl rfl (by decide +kernel) ⟨Nat.le_of_ble_eq_true rfl, Nat.le_of_ble_eq_true rfl⟩) (rr_preV hKK (hP) (va_recv hKK.1 hP (ci := 3) (q0 := 0) rfl rfl)) rfl rfl hl.1 rfl (lv_room (Nat.le_of_ble_eq_true rfl)) dX3_grow_67 ⟨Nat.le_refl _, Nat.le_refl _⟩) ?_
        refine lv_aload_n hx hb (pc := 70) dX3_grow_70 rfl (lv_at hl 0 rfl) ?_
        refine va_get (v := .int (nI 1)) hx hb hts (inX3_grow_3) hown hKK.1 hP 0 rfl rfl 4 (by decide) (hts _ (List.mem_of_getElem? (i := 5) (by decide +kernel))) (fun _ h9 => h9) rfl (pc := 71) dX3_grow_71 ?_
        refine lv_iload_n hx hb (pc := 74) dX3_grow_74 rfl (lv_at hl 2 rfl) ?_
        refine nv_iadd (a := 1) (b := i) hx hb (pc := 75) dX3_grow_75 ?_
        refine nv_iast (f := sl1) (x := (1 + i)) (ws' := MW3 K mo q1 q2 q3 kl.length 1 (2 * cap) (cpF ks cap) (fun j => if j < cap then no j else 0) (va_up sl1 (slGo sl1 1 kl.length (cpF ks cap) ((cpF ks cap) i) (2 * (2 * cap)) (2 * (2 * cap)) (hsh ((cpF ks cap) i) (2 * (2 * cap)))) (1 + i))) (i := (slGo sl1 1 kl.length (cpF ks cap) ((cpF ks cap) i) (2 * (2 * cap)) (2 * (2 * cap)) (hsh ((cpF ks cap) i) (2 * (2 * cap))))) hx hb hKK hP hD hS 3 rfl (slGo_lt ⟨ee + 2, by rw [m4, Nat.pow_succ, Nat.pow_succ]; omega⟩ _ _ (Nat.mod_lt _ (by omega))) (by omega) (rfl) (pc := 76) dX3_grow_76 (fun H locs hP hD hS => ?_)
        refine lv_iinc (v := nI (i + 1)) (lv' := [(2, .int (nI (i + 1))), (0, .ref mo), (1, .int (nI (2 * cap)))]) hx hb (pc := 77) dX3_grow_77 hl (k := 2) rfl (rr_inc _) (by decide) rfl (fun ls hl => ?_)
        refine lv_goto (tgt := 48) hx hb (pc := 80) dX3_grow_80 (by decide) ?_
        exact ih48 (i + 1) (va_up sl1 (slGo sl1 1 kl.length (cpF ks cap) ((cpF ks cap) i) (2 * (2 * cap)) (2 * (2 * cap)) (hsh ((cpF ks cap) i) (2 * (2 * cap)))) (1 + i)) _ _ hP hD hS (by omega) (by omega) (HT_ins ⟨ee + 2, by rw [m4, Nat.pow_succ, Nat.pow_succ]; omega⟩ hT (by omega) (by omega) (fun a c ha hc e => hj2 a c (by omega) (by omega) e)) ls (lv_sub hl [1, 2, 0] rfl)
  refine W.widen (k := 3) (n := 8 * cap) (by omega) (by omega) ?_
  exact L48 (kl.length + 1) 0 (fun _ => 0) _ _ hP hD hS (by omega) (Nat.zero_le _) (HT_0 (fun s hs => Nat.lt_succ_self 0)) ls (lv_sub hl [2, 1, 0] rfl)

abbrev rmX3_placeOf (mc ms : Nat) : Room := { frames := 3, cells := mc, slots := ms, locals := 64 }
theorem inX3_placeOf_3 : ∀ w ∈ wsX30, w ∈ wsX3_placeOf := fun _ h => List.mem_cons_of_mem _ (List.mem_append_right _ h)
set_option maxHeartbeats 4000000 in
set_option maxRecDepth 100000 in
theorem c_X3_placeOf (l : Launch) (K : rr_K) (A : Nat → Prop) (sz : Nat) (mo mk mn ms b cap : Nat) (ks : Nat → Int32) (no sl : Nat → Nat) (kl : List Int32) (nl : List Nat) (key : Int32) (hM : MInv kl nl cap b ks no sl) (hroom : kl.length < 65536) (hA : ∀ q, sz ≤ q → A q) (hD : va_D A (MW3 K mo mk mn ms kl.length b cap ks no sl)) : MetR l K yX3_placeOf wsX3_placeOf (rmX3_placeOf ((capN cap kl.length - cap)) ((8 * (capN cap kl.length - cap)))) [.ref mo, .int key] (fun H => H.size = sz ∧ va_P K.1 vwCl (MW3 K mo mk mn ms kl.length b cap ks no sl) H) A (fun v H => ∃ mk' mn' ms' b' ks' no' sl', MInv (plK kl key) (plN kl nl key) (capN cap kl.length) b' ks' no' sl' ∧ va_P K.1 vwCl (MW3 K mo mk' mn' ms' (plK kl key).length b' (capN cap kl.length) ks' no' sl') H ∧ va_D A (MW3 K mo mk' mn' ms' (plK kl key).length b' (capN cap kl.length) ks' no' sl') ∧ v = .int (nI (kl.idxOf key))) (capN cap kl.length - cap) (8 * (capN cap kl.length - cap)) := by
  refine metR_of (cc := cX3_placeOf) (maxL := 4) (ret := (some .int)) (rt := .int) (by decide) rfl rfl rfl rfl (Nat.le_of_ble_eq_true rfl) ?_
  intro p e s m args below meth c Q ls hEnt hKK hX hret hl
  obtain ⟨hx, hb, hml, hown, hts⟩ := hEnt
  obtain ⟨hsz0, hX⟩ := hX
  have hA : ∀ q, s.heap.size ≤ q → A q := fun q h => hA q (hsz0 ▸ h)
  have hP : va_P K.1 vwCl (MW3 K mo mk mn ms kl.length b cap ks no sl) s.heap := hX
  have hl : lv_has ls 4 [(0, .ref mo), (1, .int key)] := hl
  have hS : va_S A s.heap s.heap [] := va_S.rf
  obtain ⟨m1, m2, m3, ⟨ee, m4⟩, m5, m6, m7, m8, m9, m10, m11⟩ := id hM
  have L16 : ∀ (mk1 : Nat) (mn1 : Nat) (ms1 : Nat) (b1 : Nat) (cap1 : Nat) (ks1 : Nat → Int32) (no1 : Nat → Nat) (sl1 : Nat → Nat) (H : Heap) (locs : List Loc) (hP : va_P K.1 vwCl (MW3 K mo mk1 mn1 ms1 kl.length b1 cap1 ks1 no1 sl1) H) (hD : va_D A (MW3 K mo mk1 mn1 ms1 kl.length b1 cap1 ks1 no1 sl1)) (hS : va_S A s.heap H locs) (hM1 : MInv kl nl cap1 b1 ks1 no1 sl1) (hlt : kl.length < cap1) (hc1 : cap1 = capN cap kl.length) (ls : Array Slot) (hl : lv_has ls 4 [(0, .ref mo), (1, .int key)]), W p l e (rmX3_placeOf ((capN cap kl.length - cap)) ((8 * (capN cap kl.length - cap)))) s m args below meth c H locs (capN cap kl.length - cap) (8 * (capN cap kl.length - cap)) Q (F0 m 16 ls []) := by
    intro mk1 mn1 ms1 b1 cap1 ks1 no1 sl1 H locs hP hD hS hM1 hlt hc1 ls hl
    obtain ⟨n1, n2, n3, ⟨e1, n4⟩, n5, n6, n7, n8, n9, n10, n11⟩ := id hM1
    have hsl1 : ∀ s, s < 2 * cap1 → sl1 s < b1 + kl.length := n11.1
    have hX : slGo sl1 b1 kl.length ks1 key (2 * cap1) (2 * cap1) (hsh key (2 * cap1)) < 2 * cap1 := slGo_lt ⟨e1 + 1, by rw [n4, Nat.pow_succ]; omega⟩ _ _ (Nat.mod_lt _ (by omega))
    have hslX := hsl1 _ hX
    refine lv_aload_n hx hb (pc := 16) dX3_placeOf_16 rfl (lv_at hl 0 rfl) ?_
    refine lv_iload_n hx hb (pc := 17) dX3_placeOf_17 rfl (lv_at hl 1 rfl) ?_
    refine rr_callP (rv := .int (nI (slGo sl1 b1 kl.length ks1 key (2 * cap1) (2 * cap1) (hsh key (2 * cap1))))) (pc := 18) (va_runV (As := [.int key]) (rest := []) ⟨hx, hb, hml, hown, hts⟩ (c_X3_slotOf l K mo mk1 mn1 ms1 b1 cap1 kl.length ks1 no1 sl1 key hsl1 (by omega) (by omega) ⟨e1, n4⟩ (by omega)) (cwV 1 hts gX3_placeOf_X3_slotOf rfl rfl rfl (by decide +kernel) ⟨Nat.le_of_ble_eq_true rfl, Nat.le_of_ble_eq_true rfl⟩) (rr_preV hKK (hP) (va_recv hKK.1 hP (ci := 3) (q0 := 0) rfl rfl)) rfl rfl hl.1 rfl (lv_room (Nat.le_of_ble_eq_true rfl)) dX3_placeOf_18 ⟨Nat.le_refl _, Nat.le_refl _⟩) ?_
    refine lv_istore_n (lv' := [(2, .int (nI (slGo sl1 b1 kl.length ks1 key (2 * cap1) (2 * cap1) (hsh key (2 * cap1))))), (0, .ref mo), (1, .int key)]) hx hb (pc := 21) dX3_placeOf_21 rfl hl (by decide) rfl (fun ls hl => ?_)
    refine lv_aload_n hx hb (pc := 22) dX3_placeOf_22 rfl (lv_at hl 1 rfl) ?_
    refine va_get (v := .ref ms1) hx hb hts (inX3_placeOf_3) hown hKK.1 hP 0 rfl rfl 3 (by decide) (hts _ (List.mem_of_getElem? (i := 3) (by decide +kernel))) (fun _ h9 => h9) rfl (pc := 23) dX3_placeOf_23 ?_
    refine lv_iload_n hx hb (pc := 26) dX3_placeOf_26 rfl (lv_at hl 0 rfl) ?_
    refine nv_iald (v := nI (sl1 (slGo sl1 b1 kl.length ks1 key (2 * cap1) (2 * cap1) (hsh key (2 * cap1))))) (i := (slGo sl1 b1 kl.length ks1 key (2 * cap1) (2 * cap1) (hsh key (2 * cap1)))) hx hb hKK hP 3 rfl (hX) (by omega) (rfl) (pc := 27) dX3_placeOf_27 ?_
    refine lv_aload_n hx hb (pc := 28) dX3_placeOf_28 rfl (lv_at hl 1 rfl) ?_
    refine va_get (v := .int (nI b1)) hx hb hts (inX3_placeOf_3) hown hKK.1 hP 0 rfl rfl 4 (by decide) (hts _ (List.mem_of_getElem? (i := 4) (by decide +kernel))) (fun _ h9 => h9) rfl (pc := 29) dX3_placeOf_29 ?_
    refine lv_isub hx hb (pc := 32) dX3_placeOf_32 ?_
    refine lv_istore_n (lv' := [(3, .int ((nI (sl1 (slGo sl1 b1 kl.length ks1 key (2 * cap1) (2 * cap1) (hsh key (2 * cap1))))) - (nI b1))), (2, .int (nI (slGo sl1 b1 kl.length ks1 key (2 * cap1) (2 * cap1) (hsh key (2 * cap1))))), (0, .ref mo), (1, .int key)]) hx hb (pc := 33) dX3_placeOf_33 rfl hl (by decide) rfl (fun ls hl => ?_)
    refine lv_iload_n hx hb (pc := 34) dX3_placeOf_34 rfl (lv_at hl 0 rfl) ?_
    refine lv_if_lt (tgt := 48) hx hb (pc := 35) dX3_placeOf_35 (by decide) (fun c35 => ?_) (fun c35 => ?_)
    · have hvb : sl1 (slGo sl1 b1 kl.length ks1 key (2 * cap1) (2 * cap1) (hsh key (2 * cap1))) < b1 := by
        refine Nat.lt_of_not_le (fun q => ?_)
        rw [pk_sub q] at c35
        exact nI_pos (by omega) c35
      obtain ⟨f1, f2⟩ := MInv_new hM1 hlt hvb
      refine lv_aload_n hx hb (pc := 48) dX3_placeOf_48 rfl (lv_at hl 2 rfl) ?_
      refine va_get (v := .ref ms1) hx hb hts (inX3_placeOf_3) hown hKK.1 hP 0 rfl rfl 3 (by decide) (hts _ (List.mem_of_getElem? (i := 3) (by decide +kernel))) (fun _ h9 => h9) rfl (pc := 49) dX3_placeOf_49 ?_
      refine lv_iload_n hx hb (pc := 52) dX3_placeOf_52 rfl (lv_at hl 1 rfl) ?_
      refine lv_aload_n hx hb (pc := 53) dX3_placeOf_53 rfl (lv_at hl 2 rfl) ?_
      refine va_get (v := .int (nI b1)) hx hb hts (inX3_placeOf_3) hown hKK.1 hP 0 rfl rfl 4 (by decide) (hts _ (List.mem_of_getElem? (i := 4) (by decide +kernel))) (fun _ h9 => h9) rfl (pc := 54) dX3_placeOf_54 ?_
      refine lv_aload_n hx hb (pc := 57) dX3_placeOf_57 rfl (lv_at hl 2 rfl) ?_
      refine va_get (v := .int (nI kl.length)) hx hb hts (inX3_placeOf_3) hown hKK.1 hP 0 rfl rfl 0 (by decide) (hts _ (List.mem_of_getElem? (i := 1) (by decide +kernel))) (fun _ h9 => h9) rfl (pc := 58) dX3_placeOf_58 ?_
      refine nv_iadd (a := b1) (b := kl.length) hx hb (pc := 61) dX3_placeOf_61 ?_
      refine nv_iast (f := sl1) (x := (b1 + kl.length)) (ws' := MW3 K mo mk1 mn1 ms1 kl.length b1 cap1 ks1 no1 (va_up sl1 (slGo sl1 b1 kl.length ks1 key (2 * cap1) (2 * cap1) (hsh key (2 * cap1))) (b1 + kl.length))) (i := (slGo sl1 b1 kl.length ks1 key (2 * cap1) (2 * cap1) (hsh key (2 * cap1)))) hx hb hKK hP hD hS 3 rfl (hX) (by omega) (rfl) (pc := 62) dX3_placeOf_62 (fun H locs hP hD hS => ?_)
      refine lv_aload_n hx hb (pc := 63) dX3_placeOf_63 rfl (lv_at hl 2 rfl) ?_
      refine va_get (v := .ref mk1) hx hb hts (inX3_placeOf_3) hown hKK.1 hP 0 rfl rfl 1 (by decide) (hts _ (List.mem_of_getElem? (i := 2) (by decide +kernel))) (fun _ h9 => h9) rfl (pc := 64) dX3_placeOf_64 ?_
      refine lv_aload_n hx hb (pc := 67) dX3_placeOf_67 rfl (lv_at hl 2 rfl) ?_
      refine va_get (v := .int (nI kl.length)) hx hb hts (inX3_placeOf_3) hown hKK.1 hP 0 rfl rfl 0 (by decide) (hts _ (List.mem_of_getElem? (i := 1) (by decide +kernel))) (fun _ h9 => h9) rfl (pc := 68) dX3_placeOf_68 ?_
      refine lv_iload_n hx hb (pc := 71) dX3_placeOf_71 rfl (lv_at hl 3 rfl) ?_
      refine nv_iastr (f := ks1) (x := key) (ws' := MW3 K mo mk1 mn1 ms1 kl.length b1 cap1 (va_up ks1 kl.length key) no1 (va_up sl1 (slGo sl1 b1 kl.length ks1 key (2 * cap1) (2 * cap1) (hsh key (2 * cap1))) (b1 + kl.length))) (i := kl.length) hx hb hKK hP hD hS 1 rfl (by omega) (by omega) (rfl) (pc := 72) dX3_placeOf_72 (fun H locs hP hD hS => ?_)
      refine lv_aload_n hx hb (pc := 73) dX3_placeOf_73 rfl (lv_at hl 2 rfl) ?_
      refine va_get (v := .ref mn1) hx hb hts (inX3_placeOf_3) hown hKK.1 hP 0 rfl rfl 2 (by decide) (hts _ (List.mem_of_getElem? (i := 5) (by decide +kernel))) (fun _ h9 => h9) rfl (pc := 74) dX3_placeOf_74 ?_
      refine lv_aload_n hx hb (pc := 77) dX3_placeOf_77 rfl (lv_at hl 2 rfl) ?_
      refine va_get (v := .int (nI kl.length)) hx hb hts (inX3_placeOf_3) hown hKK.1 hP 0 rfl rfl 0 (by decide) (hts _ (List.mem_of_getElem? (i := 1) (by decide +kernel))) (fun _ h9 => h9) rfl (pc := 78) dX3_placeOf_78 ?_
      refine lv_iconst (v := nI 0) hx hb (pc := 81) dX3_placeOf_81 (by decide) ?_
      refine nv_iast (f := no1) (x := 0) (ws' := MW3 K mo mk1 mn1 ms1 kl.length b1 cap1 (va_up ks1 kl.length key) (va_up no1 kl.length 0) (va_up sl1 (slGo sl1 b1 kl.length ks1 key (2 * cap1) (2 * cap1) (hsh key (2 * cap1))) (b1 + kl.length))) (i := kl.length) hx hb hKK hP hD hS 2 rfl (by omega) (by omega) (rfl) (pc := 82) dX3_placeOf_82 (fun H locs hP hD hS => ?_)
      refine lv_aload_n hx hb (pc := 83) dX3_placeOf_83 rfl (lv_at hl 2 rfl) ?_
      refine lv_dup hx hb (pc := 84) dX3_placeOf_84 rfl ?_
      refine va_get (v := .int (nI kl.length)) hx hb hts (inX3_placeOf_3) hown hKK.1 hP 0 rfl rfl 0 (by decide) (hts _ (List.mem_of_getElem? (i := 1) (by decide +kernel))) (fun _ h9 => h9) rfl (pc := 85) dX3_placeOf_85 ?_
      refine lv_iconst (v := nI 1) hx hb (pc := 88) dX3_placeOf_88 (by decide) ?_
      refine nv_iadd (a := kl.length) (b := 1) hx hb (pc := 89) dX3_placeOf_89 ?_
      refine rr_put (v := .int (nI (kl.length + 1))) (ty := tyX3 0) (ws' := MW3 K mo mk1 mn1 ms1 (kl.length + 1) b1 cap1 (va_up ks1 kl.length key) (va_up no1 kl.length 0) (va_up sl1 (slGo sl1 b1 kl.length ks1 key (2 * cap1) (2 * cap1) (hsh key (2 * cap1))) (b1 + kl.length))) hx hb hts (inX3_placeOf_3) tyX3 tyX3_ok nmX3 hown hKK.1 hP hD hS 0 rfl rfl 0 (by decide) (hts _ (List.mem_of_getElem? (i := 1) (by decide +kernel))) (fun _ h9 => h9) rfl (tyX3_ok 0 (by decide)) rfl rfl (Nat.le_of_ble_eq_true rfl) rfl (pc := 90) dX3_placeOf_90 (fun H locs hP hD hS => ?_)
      refine lv_aload_n hx hb (pc := 93) dX3_placeOf_93 rfl (lv_at hl 2 rfl) ?_
      refine va_get (v := .int (nI (kl.length + 1))) hx hb hts (inX3_placeOf_3) hown hKK.1 hP 0 rfl rfl 0 (by decide) (hts _ (List.mem_of_getElem? (i := 1) (by decide +kernel))) (fun _ h9 => h9) rfl (pc := 94) dX3_placeOf_94 ?_
      refine lv_iconst (v := nI 1) hx hb (pc := 97) dX3_placeOf_97 (by decide) ?_
      refine nv_isub (a := (kl.length + 1)) (b := 1) hx hb (pc := 98) dX3_placeOf_98 (by omega) ?_
      have hlen : (plK kl key).length = kl.length + 1 := by rw [plK, if_neg f1, List.length_append]; rfl
      exact hret.1 _ _ (capN cap kl.length - cap) (8 * (capN cap kl.length - cap)) 99 _ (nI ((kl.length + 1) - 1)) dX3_placeOf_99 (Nat.le_refl _) (Nat.le_refl _) hS (⟨mk1, mn1, ms1, b1, _, _, _, by rw [plK, plN, if_neg f1, if_neg f1, ← hc1]; exact f2, by rw [hlen, ← hc1]; exact hP, by rw [hlen, ← hc1]; exact hD, by rw [List.idxOf_eq_length f1]; rfl⟩) (rfl)
    · have hvb : b1 ≤ sl1 (slGo sl1 b1 kl.length ks1 key (2 * cap1) (2 * cap1) (hsh key (2 * cap1))) := by
        rcases Nat.lt_or_ge (sl1 (slGo sl1 b1 kl.length ks1 key (2 * cap1) (2 * cap1) (hsh key (2 * cap1)))) b1 with q | q
        · exact absurd (pk_sneg (by omega) q) c35
        · exact q
      obtain ⟨f1, f2, f3⟩ := MInv_found hM1 hlt hvb
      have hl : lv_has ls 4 [(3, .int (nI (kl.idxOf key))), (0, .ref mo), (1, .int key)] := by rw [show nI (kl.idxOf key) = nI (sl1 (slGo sl1 b1 kl.length ks1 key (2 * cap1) (2 * cap1) (hsh key (2 * cap1)))) - nI b1 from by rw [pk_sub hvb, f3, Nat.add_sub_cancel_left]]; exact lv_sub hl [0, 2, 3] rfl
      refine lv_iload_n hx hb (pc := 38) dX3_placeOf_38 rfl (lv_at hl 0 rfl) ?_
      refine lv_aload_n hx hb (pc := 39) dX3_placeOf_39 rfl (lv_at hl 1 rfl) ?_
      refine va_get (v := .int (nI kl.length)) hx hb hts (inX3_placeOf_3) hown hKK.1 hP 0 rfl rfl 0 (by decide) (hts _ (List.mem_of_getElem? (i := 1) (by decide +kernel))) (fun _ h9 => h9) rfl (pc := 40) dX3_placeOf_40 ?_
      refine nv_icmp_ge (a := (kl.idxOf key)) (b := kl.length) (tgt := 48) hx hb (pc := 43) dX3_placeOf_43 (by decide) (by omega) (by omega) (fun c43 => absurd c43 (by omega)) (fun c43 => ?_)
      refine lv_iload_n hx hb (pc := 46) dX3_placeOf_46 rfl (lv_at hl 0 rfl) ?_
      exact hret.1 _ _ (capN cap kl.length - cap) (8 * (capN cap kl.length - cap)) 47 _ (nI (kl.idxOf key)) dX3_placeOf_47 (Nat.le_refl _) (Nat.le_refl _) hS (⟨mk1, mn1, ms1, b1, ks1, no1, sl1, by rw [plK, plN, if_pos f1, if_pos f1, ← hc1]; exact hM1, by rw [plK, if_pos f1, ← hc1]; exact hP, by rw [plK, if_pos f1, ← hc1]; exact hD, rfl⟩) (rfl)
  refine lv_aload_n hx hb (pc := 0) dX3_placeOf_0 rfl (lv_at hl 0 rfl) ?_
  refine va_get (v := .int (nI kl.length)) hx hb hts (inX3_placeOf_3) hown hKK.1 hP 0 rfl rfl 0 (by decide) (hts _ (List.mem_of_getElem? (i := 1) (by decide +kernel))) (fun _ h9 => h9) rfl (pc := 1) dX3_placeOf_1 ?_
  refine lv_aload_n hx hb (pc := 4) dX3_placeOf_4 rfl (lv_at hl 0 rfl) ?_
  refine va_get (v := .ref mk) hx hb hts (inX3_placeOf_3) hown hKK.1 hP 0 rfl rfl 1 (by decide) (hts _ (List.mem_of_getElem? (i := 2) (by decide +kernel))) (fun _ h9 => h9) rfl (pc := 5) dX3_placeOf_5 ?_
  refine va_alen (v := nI cap) hx hb hKK.1 hP 1 0 rfl rfl rfl (pc := 8) dX3_placeOf_8 ?_
  refine nv_icmp_lt (a := kl.length) (b := cap) (tgt := 16) hx hb (pc := 9) dX3_placeOf_9 (by decide) (by omega) (by omega) (fun c9 => ?_) (fun c9 => ?_)
  · refine W.widen (k := (capN cap kl.length - cap)) (n := (8 * (capN cap kl.length - cap))) (by first | exact Nat.zero_le _ | (unfold capN; rw [if_pos (by omega)]; omega)) (by first | exact Nat.zero_le _ | (unfold capN; rw [if_pos (by omega)]; omega)) ?_
    exact L16 mk mn ms b cap ks no sl _ _ hP hD hS (by first | exact hM | exact hM2) (by omega) (by unfold capN; first | rw [if_pos (by omega)] | rw [if_neg (by omega)]) ls (lv_sub hl [0, 1] rfl)
  · have hc8 : cap ≤ 32768 := by
      rcases Nat.lt_or_ge cap 65536 with q | q
      · rcases Nat.lt_or_ge ee 16 with q2 | q2
        · have : 2 ^ ee ≤ 2 ^ 15 := Nat.pow_le_pow_right (by decide) (by omega)
          omega
        · have : 2 ^ 16 ≤ 2 ^ ee := Nat.pow_le_pow_right (by decide) q2
          omega
      · omega
    have hcN : capN cap kl.length = 2 * cap := by unfold capN; rw [if_pos (by omega)]
    refine lv_aload_n hx hb (pc := 12) dX3_placeOf_12 rfl (lv_at hl 0 rfl) ?_
    refine rr_callV (pc := 13) (va_runV (As := []) (rest := []) ⟨hx, hb, hml, hown, hts⟩ (c_X3_grow l K A s.heap.size mo mk mn ms b cap ks no sl kl nl hM hc8 hA hD) (cwV 0 hts gX3_placeOf_X3_grow rfl rfl rfl (by decide +kernel) ⟨Nat.le_of_ble_eq_true rfl, Nat.le_of_ble_eq_true rfl⟩) (rr_preV hKK (⟨rfl, hP⟩) (va_recv hKK.1 hP (ci := 3) (q0 := 0) rfl rfl)) rfl rfl hl.1 rfl (lv_room (Nat.le_of_ble_eq_true rfl)) dX3_placeOf_13 ⟨by show 0 + 3 ≤ capN cap kl.length - cap; omega, by show 0 + 8 * cap ≤ 8 * (capN cap kl.length - cap); omega⟩) hS (fun _ h => h) (fun H locs hY hsz hfr hS => ?_)
    obtain ⟨mk', mn', ms', ks', no', sl', hM2, hP, hD⟩ := hY
    have hP : va_P K.1 vwCl (MW3 K mo mk' mn' ms' kl.length 1 (2 * cap) ks' no' sl') H := hP
    refine W.widen (k := (capN cap kl.length - cap)) (n := (8 * (capN cap kl.length - cap))) (by first | exact Nat.zero_le _ | (unfold capN; rw [if_pos (by omega)]; omega)) (by first | exact Nat.zero_le _ | (unfold capN; rw [if_pos (by omega)]; omega)) ?_
    exact L16 mk' mn' ms' 1 (2 * cap) ks' no' sl' _ _ hP hD hS (by first | exact hM | exact hM2) (by omega) (by unfold capN; first | rw [if_pos (by omega)] | rw [if_neg (by omega)]) ls (lv_sub hl [0, 1] rfl)

