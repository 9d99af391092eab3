abbrev rmJ7_fill_d0a16 : Room := { frames := 0, cells := 0, slots := 0, locals := 0 }
set_option maxHeartbeats 4000000 in
set_option maxRecDepth 100000 in
theorem c_J7_fill_d0a16 (l : Launch) (K : rr_K) (A : Nat → Prop) (a n x : Nat) (f : Nat → Nat) (hn : n < 2 ^ 31) (hD : va_D A (RLw K a n f)) : MetV l K yJ7_fill_d0a16 wsJ7_fill_d0a16 rmJ7_fill_d0a16 [.ref a, .long (lN (x))] (fun H => va_P K.1 vwCl (RLw K a n f) H) A (fun H => va_P K.1 vwCl (RLw K a n (putZ f (fun _ => x) n)) H) 0 0 := by
  refine metV_of (cc := cJ7_fill_d0a16) (maxL := 5) (by decide) rfl rfl rfl (Nat.le_of_ble_eq_true rfl) ?_
  intro p e s m args below meth c Q ls hEnt hin hKK hX hret hl
  obtain ⟨hx, hb, hml, hown, hts⟩ := hEnt
  have hP : va_P K.1 vwCl (RLw K a n f) s.heap := hX
  have hl : lv_has ls 5 [(0, .ref a), (1, .long (lN (x)))] := hl
  have hS : va_S A s.heap s.heap [] := va_S.rf
  refine lv_iconst (v := nI 0) hx hb (pc := 0) dJ7_fill_d0a16_0 (by decide) ?_
  refine lv_istore_n (lv' := [(3, .int (nI 0)), (0, .ref a), (1, .long (lN (x)))]) hx hb (pc := 1) dJ7_fill_d0a16_1 rfl hl (by decide) rfl (fun ls hl => ?_)
  refine lv_aload_n hx hb (pc := 2) dJ7_fill_d0a16_2 rfl (lv_at hl 1 rfl) ?_
  refine va_alen (v := nI n) hx hb hKK.1 hP 0 1 rfl rfl rfl (pc := 3) dJ7_fill_d0a16_3 ?_
  refine lv_istore (lv' := [(4, .int (nI n)), (3, .int (nI 0)), (0, .ref a), (1, .long (lN (x)))]) hx hb (pc := 4) dJ7_fill_d0a16_4 hl (by decide) rfl (fun ls hl => ?_)
  have L6 : ∀ (fz : Nat) (i : Nat) (H : Heap) (locs : List Loc) (hP : va_P K.1 vwCl (RLw K a n (putZ f (fun _ => x) i)) H) (hD : va_D A (RLw K a n (putZ f (fun _ => x) i))) (hS : va_S A s.heap H locs) (hfz : n - i < fz) (hi : i ≤ n) (ls : Array Slot) (hl : lv_has ls 5 [(0, .ref a), (1, .long (lN (x))), (3, .int (nI i)), (4, .int (nI n))]), W p l e rmJ7_fill_d0a16 s m args below meth c H locs 0 0 Q (F0 m 6 ls []) := by
    intro fz; induction fz with
    | zero => intro i H locs hP hD hS hfz hi ls hl; exact absurd hfz (Nat.not_lt_zero _)
    | succ fz ih6 =>
      intro i H locs hP hD hS hfz hi ls hl
      refine lv_iload_n hx hb (pc := 6) dJ7_fill_d0a16_6 rfl (lv_at hl 2 rfl) ?_
      refine lv_iload hx hb (pc := 7) dJ7_fill_d0a16_7 (lv_at hl 3 rfl) ?_
      refine nv_icmp_ge (a := i) (b := n) (tgt := 22) hx hb (pc := 9) dJ7_fill_d0a16_9 (by decide) (by omega) (by omega) (fun c9 => ?_) (fun c9 => ?_)
      · have e9 : i = n := by omega
        exact hret _ _ 0 0 22 _ dJ7_fill_d0a16_22 (by omega) (by omega) hS (by rw [e9] at hP; exact hP)
      · refine lv_aload_n hx hb (pc := 12) dJ7_fill_d0a16_12 rfl (lv_at hl 0 rfl) ?_
        refine lv_iload_n hx hb (pc := 13) dJ7_fill_d0a16_13 rfl (lv_at hl 2 rfl) ?_
        refine lv_lload_n hx hb (pc := 14) dJ7_fill_d0a16_14 rfl (lv_at hl 1 rfl) ?_
        refine nv_lastN (f := (putZ f (fun _ => x) i)) (x := x) (ws' := RLw K a n (va_up (putZ f (fun _ => x) i) i x)) (i := i) hx hb hKK hP hD hS 0 rfl (by omega) (by omega) (rfl) (pc := 15) dJ7_fill_d0a16_15 (fun H locs hP hD hS => ?_)
        refine lv_iinc (v := nI (i + 1)) (lv' := [(3, .int (nI (i + 1))), (0, .ref a), (1, .long (lN (x))), (4, .int (nI n))]) hx hb (pc := 16) dJ7_fill_d0a16_16 hl (k := 2) rfl (rr_inc _) (by decide) rfl (fun ls hl => ?_)
        refine lv_goto (tgt := 6) hx hb (pc := 19) dJ7_fill_d0a16_19 (by decide) ?_
        rw [show va_up (putZ f (fun _ => x) i) i x = putZ f (fun _ => x) (i + 1) from putZ_step f (fun _ => x) i] at hP hD
        exact ih6 (i + 1) _ _ hP hD hS (by omega) (by omega) ls (lv_sub hl [1, 2, 0, 3] rfl)
  rw [← putZ_0 f (fun _ => x)] at hP hD
  exact L6 (n + 1) 0 _ _ hP hD hS (by omega) (Nat.zero_le _) ls (lv_sub hl [2, 3, 1, 0] rfl)

abbrev rmX7_countSingle : Room := { frames := 2, cells := 0, slots := 0, locals := 43 }
theorem inX7_countSingle_1 : ∀ w ∈ wsX10, w ∈ wsX7_countSingle := fun _ h => List.mem_cons_of_mem _ (List.mem_append_right _ h)
theorem inX7_countSingle_7 : ∀ w ∈ wsX70, w ∈ wsX7_countSingle := fun _ h => List.mem_cons_of_mem _ (List.mem_append_left _ (List.mem_append_right _ h))
set_option maxHeartbeats 4000000 in
set_option maxRecDepth 100000 in
theorem c_X7_countSingle (l : Launch) (K : rr_K) (A : Nat → Prop) (xo xs xa xb xv xw : Nat) (sF rF pF vF bF : Nat → Nat) (go ge gt k n gw al lw : Nat) (E T : Nat → Nat) (hk4 : k ≤ 4) (hn : n ≤ 16) (hal : al < 65536) (hD : va_D A (XW7 K xo xs xa xb xv xw sF rF pF vF bF)) (hGA : ∀ (k_ : Nat) (q_ : Nat × va_E), (GW K go ge gt k n gw al lw E T)[k_]? = some q_ → ¬ A q_.1) : MetV l K yX7_countSingle wsX7_countSingle rmX7_countSingle [.ref xo, .ref go] (fun H => va_P K.1 vwCl (XW7 K xo xs xa xb xv xw sF rF pF vF bF) H ∧ va_P K.1 vwCl (GW K go ge gt k n gw al lw E T) H) A (fun H => ∃ sF', (∀ i j, i < n → j < n → sF' (i * 16 + j) = aMy al E k i j) ∧ va_P K.1 vwCl (XW7 K xo xs xa xb xv xw sF' rF pF vF bF) H) 0 0 := by
  refine metV_of (cc := cX7_countSingle) (maxL := 6) (by decide) rfl rfl rfl (Nat.le_of_ble_eq_true rfl) ?_
  intro p e s m args below meth c Q ls hEnt hin hKK hX hret hl
  obtain ⟨hx, hb, hml, hown, hts⟩ := hEnt
  obtain ⟨hP, hG⟩ := hX
  have hP : va_P K.1 vwCl (XW7 K xo xs xa xb xv xw sF rF pF vF bF) s.heap := hP
  have hG : va_P K.1 vwCl (GW K go ge gt k n gw al lw E T) s.heap := hG
  have hl : lv_has ls 6 [(0, .ref xo), (1, .ref go)] := hl
  have hS : va_S A s.heap s.heap [] := va_S.rf
  have hP : va_P K.1 vwCl (RLw K xs 256 sF ++ [(xo, .inr (7, [.ref xs, .ref xa, .ref xb, .ref xv, .ref xw])), (xa, .inl (K.2.2.1, 256, .inr (.inl (fun j => lN (rF j))))), (xb, .inl (K.2.2.1, 256, .inr (.inl (fun j => lN (pF j))))), (xv, .inl (K.2.2.1, 16, .inr (.inl (fun j => lN (vF j))))), (xw, .inl (K.2.2.1, 16, .inr (.inl (fun j => lN (bF j)))))]) s.heap := hP.sub [1, 0, 2, 3, 4, 5] rfl
  have hD : va_D A (RLw K xs 256 sF ++ [(xo, .inr (7, [.ref xs, .ref xa, .ref xb, .ref xv, .ref xw])), (xa, .inl (K.2.2.1, 256, .inr (.inl (fun j => lN (rF j))))), (xb, .inl (K.2.2.1, 256, .inr (.inl (fun j => lN (pF j))))), (xv, .inl (K.2.2.1, 16, .inr (.inl (fun j => lN (vF j))))), (xw, .inl (K.2.2.1, 16, .inr (.inl (fun j => lN (bF j)))))]) := hD.sub [1, 0, 2, 3, 4, 5] (by decide) rfl
  refine lv_aload_n hx hb (pc := 0) dX7_countSingle_0 rfl (lv_at hl 0 rfl) ?_
  refine va_get (v := .ref xs) hx hb hts (inX7_countSingle_7) hown hKK.1 hP 1 rfl rfl 0 (by decide) (hts _ (List.mem_of_getElem? (i := 1) (by decide +kernel))) (fun _ h9 => h9) rfl (pc := 1) dX7_countSingle_1 ?_
  refine lv_lconst (v := lN 0) hx hb (pc := 4) dX7_countSingle_4 (by decide) ?_
  have hP : va_P K.1 vwCl (RLw K xs 256 sF ++ [(xo, .inr (7, [.ref xs, .ref xa, .ref xb, .ref xv, .ref xw])), (xa, .inl (K.2.2.1, 256, .inr (.inl (fun j => lN (rF j))))), (xb, .inl (K.2.2.1, 256, .inr (.inl (fun j => lN (pF j))))), (xv, .inl (K.2.2.1, 16, .inr (.inl (fun j => lN (vF j))))), (xw, .inl (K.2.2.1, 16, .inr (.inl (fun j => lN (bF j)))))]) s.heap := hP
  have hD : va_D A (RLw K xs 256 sF ++ [(xo, .inr (7, [.ref xs, .ref xa, .ref xb, .ref xv, .ref xw])), (xa, .inl (K.2.2.1, 256, .inr (.inl (fun j => lN (rF j))))), (xb, .inl (K.2.2.1, 256, .inr (.inl (fun j => lN (pF j))))), (xv, .inl (K.2.2.1, 16, .inr (.inl (fun j => lN (vF j))))), (xw, .inl (K.2.2.1, 16, .inr (.inl (fun j => lN (bF j)))))]) := hD
  have hDc := rr_AW (rr_Dleft hD)
  refine rr_callV (pc := 5) (va_runS (As := [.ref xs, .long (lN (0))]) (rest := []) ⟨hx, hb, hml, hown, hts⟩ (c_J7_fill_d0a16 l K (AW (RLw K xs 256 sF)) xs 256 0 sF (by decide) hDc) (va_cwS 2 hts gX7_countSingle_J7_fill_d0a16 rfl rfl rfl (by decide +kernel) ⟨Nat.le_of_ble_eq_true rfl, Nat.le_of_ble_eq_true rfl⟩) (rr_preS hKK (rr_left hP)) rfl rfl hl.1 rfl (lv_room (Nat.le_of_ble_eq_true rfl)) dX7_countSingle_5 ⟨by omega, by omega⟩) hS (rr_AW_in (rr_Dleft hD)) (fun H locs hY hsz hfr hS => ?_)
  have hP1 := hY
  obtain ⟨hP, hD⟩ := rr_app hP hD hfr hP1 rfl
  have hD : va_D A (RLw K xs 256 (putZ sF (fun _ => 0) 256) ++ [(xo, .inr (7, [.ref xs, .ref xa, .ref xb, .ref xv, .ref xw])), (xa, .inl (K.2.2.1, 256, .inr (.inl (fun j => lN (rF j))))), (xb, .inl (K.2.2.1, 256, .inr (.inl (fun j => lN (pF j))))), (xv, .inl (K.2.2.1, 16, .inr (.inl (fun j => lN (vF j))))), (xw, .inl (K.2.2.1, 16, .inr (.inl (fun j => lN (bF j)))))]) := hD
  have hP : va_P K.1 vwCl (RLw K xs 256 (putZ sF (fun _ => 0) 256) ++ [(xo, .inr (7, [.ref xs, .ref xa, .ref xb, .ref xv, .ref xw])), (xa, .inl (K.2.2.1, 256, .inr (.inl (fun j => lN (rF j))))), (xb, .inl (K.2.2.1, 256, .inr (.inl (fun j => lN (pF j))))), (xv, .inl (K.2.2.1, 16, .inr (.inl (fun j => lN (vF j))))), (xw, .inl (K.2.2.1, 16, .inr (.inl (fun j => lN (bF j)))))]) H := hP
  have hP : va_P K.1 vwCl (XW7 K xo xs xa xb xv xw (putZ sF (fun _ => 0) 256) rF pF vF bF) H := hP.sub [1, 0, 2, 3, 4, 5] rfl
  have hD : va_D A (XW7 K xo xs xa xb xv xw (putZ sF (fun _ => 0) 256) rF pF vF bF) := hD.sub [1, 0, 2, 3, 4, 5] (by decide) rfl
  refine lv_iconst (v := nI 0) hx hb (pc := 8) dX7_countSingle_8 (by decide) ?_
  refine lv_istore_n (lv' := [(2, .int (nI 0)), (0, .ref xo), (1, .ref go)]) hx hb (pc := 9) dX7_countSingle_9 rfl hl (by decide) rfl (fun ls hl => ?_)
  have L10 : ∀ (fz : Nat) (f : Nat) (sF1 : Nat → Nat) (H : Heap) (locs : List Loc) (hP : va_P K.1 vwCl (XW7 K xo xs xa xb xv xw sF1 rF pF vF bF) H) (hD : va_D A (XW7 K xo xs xa xb xv xw sF1 rF pF vF bF)) (hS : va_S A s.heap H locs) (hfz : n - f < fz) (hf : f ≤ n) (hs1 : ∀ i j, i < n → j < n → sF1 (i * 16 + j) = csF k al E f 0 0 i j) (ls : Array Slot) (hl : lv_has ls 6 [(0, .ref xo), (1, .ref go), (2, .int (nI f))]), W p l e rmX7_countSingle s m args below meth c H locs 0 0 Q (F0 m 10 ls []) := by
    intro fz; induction fz with
    | zero => intro f sF1 H locs hP hD hS hfz hf hs1 ls hl; exact absurd hfz (Nat.not_lt_zero _)
    | succ fz ih10 =>
      intro f sF1 H locs hP hD hS hfz hf hs1 ls hl
      refine lv_iload_n hx hb (pc := 10) dX7_countSingle_10 rfl (lv_at hl 2 rfl) ?_
      refine lv_aload_n hx hb (pc := 11) dX7_countSingle_11 rfl (lv_at hl 1 rfl) ?_
      refine va_get (v := .int (nI n)) hx hb hts (inX7_countSingle_1) hown hKK.1 (rr_ro (A := A) hG hGA hS) 0 rfl rfl 1 (by decide) (hts _ (List.mem_of_getElem? (i := 2) (by decide +kernel))) (fun _ h9 => h9) rfl (pc := 12) dX7_countSingle_12 ?_
      refine nv_icmp_ge (a := f) (b := n) (tgt := 89) hx hb (pc := 15) dX7_countSingle_15 (by decide) (by omega) (by omega) (fun c15 => ?_) (fun c15 => ?_)
      · have e9 : f = n := by omega
        exact hret _ _ 0 0 89 _ dX7_countSingle_89 (by omega) (by omega) hS (⟨_, fun i j hi hj => by rw [hs1 i j hi hj, e9, csF_n hi], hP⟩)
      · refine lv_iconst (v := nI 0) hx hb (pc := 18) dX7_countSingle_18 (by decide) ?_
        refine lv_istore_n (lv' := [(3, .int (nI 0)), (0, .ref xo), (1, .ref go), (2, .int (nI f))]) hx hb (pc := 19) dX7_countSingle_19 rfl hl (by decide) rfl (fun ls hl => ?_)
        have L20 : ∀ (fz : Nat) (y : Nat) (sF2 : Nat → Nat) (H : Heap) (locs : List Loc) (hP : va_P K.1 vwCl (XW7 K xo xs xa xb xv xw sF2 rF pF vF bF) H) (hD : va_D A (XW7 K xo xs xa xb xv xw sF2 rF pF vF bF)) (hS : va_S A s.heap H locs) (hfz : k - y < fz) (hy : y ≤ k) (hs2 : ∀ i j, i < n → j < n → sF2 (i * 16 + j) = csF k al E f y 0 i j) (ls : Array Slot) (hl : lv_has ls 6 [(0, .ref xo), (1, .ref go), (2, .int (nI f)), (3, .int (nI y))]), W p l e rmX7_countSingle s m args below meth c H locs 0 0 Q (F0 m 20 ls []) := by
          intro fz; induction fz with
          | zero => intro y sF2 H locs hP hD hS hfz hy hs2 ls hl; exact absurd hfz (Nat.not_lt_zero _)
          | succ fz ih20 =>
            intro y sF2 H locs hP hD hS hfz hy hs2 ls hl
            refine lv_iload_n hx hb (pc := 20) dX7_countSingle_20 rfl (lv_at hl 3 rfl) ?_
            refine lv_aload_n hx hb (pc := 21) dX7_countSingle_21 rfl (lv_at hl 1 rfl) ?_
            refine va_get (v := .int (nI k)) hx hb hts (inX7_countSingle_1) hown hKK.1 (rr_ro (A := A) hG hGA hS) 0 rfl rfl 0 (by decide) (hts _ (List.mem_of_getElem? (i := 3) (by decide +kernel))) (fun _ h9 => h9) rfl (pc := 22) dX7_countSingle_22 ?_
            refine nv_icmp_ge (a := y) (b := k) (tgt := 83) hx hb (pc := 25) dX7_countSingle_25 (by decide) (by omega) (by omega) (fun c25 => ?_) (fun c25 => ?_)
            · refine lv_iinc (v := nI (f + 1)) (lv' := [(2, .int (nI (f + 1))), (0, .ref xo), (1, .ref go), (3, .int (nI y))]) hx hb (pc := 83) dX7_countSingle_83 hl (k := 2) rfl (rr_inc _) (by decide) rfl (fun ls hl => ?_)
              refine lv_goto (tgt := 10) hx hb (pc := 86) dX7_countSingle_86 (by decide) ?_
              have e8 : y = k := by omega
              subst e8
              exact ih10 (f + 1) sF2 _ _ hP hD hS (by omega) (by omega) (fun i j hi hj => by rw [hs2 i j hi hj, csF_f]) ls (lv_sub hl [1, 2, 0] rfl)
            · refine lv_aload_n hx hb (pc := 28) dX7_countSingle_28 rfl (lv_at hl 1 rfl) ?_
              refine lv_iload_n hx hb (pc := 29) dX7_countSingle_29 rfl (lv_at hl 2 rfl) ?_
              refine lv_iload_n hx hb (pc := 30) dX7_countSingle_30 rfl (lv_at hl 3 rfl) ?_
              refine rr_callP (rv := .int (nI (lvE al E f y))) (pc := 31) (va_runV (As := [.int (nI f), .int (nI y)]) (rest := []) ⟨hx, hb, hml, hown, hts⟩ (c_X1_liveEnds l K go ge gt k n gw al lw E T f y hal (by omega) (by omega)) (cwV 2 hts gX7_countSingle_X1_liveEnds rfl rfl rfl (by decide +kernel) ⟨Nat.le_of_ble_eq_true rfl, Nat.le_of_ble_eq_true rfl⟩) (rr_preV hKK ((rr_ro (A := A) hG hGA hS)) (va_recv hKK.1 (rr_ro (A := A) hG hGA hS) (ci := 1) (q0 := 0) rfl rfl)) rfl rfl hl.1 rfl (lv_room (Nat.le_of_ble_eq_true rfl)) dX7_countSingle_31 ⟨Nat.le_refl _, Nat.le_refl _⟩) ?_
              have hlv := lvE_lt (b := 16) hal E f y
              refine lv_istore (lv' := [(4, .int (nI (lvE al E f y))), (0, .ref xo), (1, .ref go), (2, .int (nI f)), (3, .int (nI y))]) hx hb (pc := 34) dX7_countSingle_34 hl (by decide) rfl (fun ls hl => ?_)
              refine lv_iconst (v := nI 0) hx hb (pc := 36) dX7_countSingle_36 (by decide) ?_
              refine lv_istore (lv' := [(5, .int (nI 0)), (4, .int (nI (lvE al E f y))), (0, .ref xo), (1, .ref go), (2, .int (nI f)), (3, .int (nI y))]) hx hb (pc := 37) dX7_countSingle_37 hl (by decide) rfl (fun ls hl => ?_)
              have L39 : ∀ (fz : Nat) (t : Nat) (sF3 : Nat → Nat) (H : Heap) (locs : List Loc) (hP : va_P K.1 vwCl (XW7 K xo xs xa xb xv xw sF3 rF pF vF bF) H) (hD : va_D A (XW7 K xo xs xa xb xv xw sF3 rF pF vF bF)) (hS : va_S A s.heap H locs) (hfz : n - t < fz) (ht : t ≤ n) (hs3 : ∀ i j, i < n → j < n → sF3 (i * 16 + j) = csF k al E f y t i j) (ls : Array Slot) (hl : lv_has ls 6 [(0, .ref xo), (1, .ref go), (2, .int (nI f)), (3, .int (nI y)), (4, .int (nI (lvE al E f y))), (5, .int (nI t))]), W p l e rmX7_countSingle s m args below meth c H locs 0 0 Q (F0 m 39 ls []) := by
                intro fz; induction fz with
                | zero => intro t sF3 H locs hP hD hS hfz ht hs3 ls hl; exact absurd hfz (Nat.not_lt_zero _)
                | succ fz ih39 =>
                  intro t sF3 H locs hP hD hS hfz ht hs3 ls hl
                  refine lv_iload hx hb (pc := 39) dX7_countSingle_39 (lv_at hl 5 rfl) ?_
                  refine lv_aload_n hx hb (pc := 41) dX7_countSingle_41 rfl (lv_at hl 1 rfl) ?_
                  refine va_get (v := .int (nI n)) hx hb hts (inX7_countSingle_1) hown hKK.1 (rr_ro (A := A) hG hGA hS) 0 rfl rfl 1 (by decide) (hts _ (List.mem_of_getElem? (i := 2) (by decide +kernel))) (fun _ h9 => h9) rfl (pc := 42) dX7_countSingle_42 ?_
                  refine nv_icmp_ge (a := t) (b := n) (tgt := 77) hx hb (pc := 45) dX7_countSingle_45 (by decide) (by omega) (by omega) (fun c45 => ?_) (fun c45 => ?_)
                  · refine lv_iinc (v := nI (y + 1)) (lv' := [(3, .int (nI (y + 1))), (0, .ref xo), (1, .ref go), (2, .int (nI f)), (4, .int (nI (lvE al E f y))), (5, .int (nI t))]) hx hb (pc := 77) dX7_countSingle_77 hl (k := 3) rfl (rr_inc _) (by decide) rfl (fun ls hl => ?_)
                    refine lv_goto (tgt := 20) hx hb (pc := 80) dX7_countSingle_80 (by decide) ?_
                    have e7 : t = n := by omega
                    exact ih20 (y + 1) sF3 _ _ hP hD hS (by omega) (by omega) (fun i j hi hj => by rw [hs3 i j hi hj, e7, csF_y hj]) ls (lv_sub hl [1, 2, 3, 0] rfl)
                  · refine lv_aload_n hx hb (pc := 48) dX7_countSingle_48 rfl (lv_at hl 0 rfl) ?_
                    refine va_get (v := .ref xs) hx hb hts (inX7_countSingle_7) hown hKK.1 hP 0 rfl rfl 0 (by decide) (hts _ (List.mem_of_getElem? (i := 1) (by decide +kernel))) (fun _ h9 => h9) rfl (pc := 49) dX7_countSingle_49 ?_
                    refine lv_iload_n hx hb (pc := 52) dX7_countSingle_52 rfl (lv_at hl 2 rfl) ?_
                    refine lv_bipush (v := nI 16) hx hb (pc := 53) dX7_countSingle_53 (by decide) ?_
                    refine nv_imul (a := f) (b := 16) hx hb (pc := 55) dX7_countSingle_55 ?_
                    refine lv_iload hx hb (pc := 56) dX7_countSingle_56 (lv_at hl 5 rfl) ?_
                    refine nv_iadd (a := (f * 16)) (b := t) hx hb (pc := 58) dX7_countSingle_58 ?_
                    refine lv_dup2_11 hx hb (pc := 59) dX7_countSingle_59 rfl rfl ?_
                    refine nv_lald (v := lN (sF3 ((f * 16) + t))) (i := ((f * 16) + t)) hx hb hKK hP 1 rfl (by omega) (by decide) (rfl) (pc := 60) dX7_countSingle_60 ?_
                    refine lv_iload hx hb (pc := 61) dX7_countSingle_61 (lv_at hl 4 rfl) ?_
                    refine lv_iload hx hb (pc := 63) dX7_countSingle_63 (lv_at hl 5 rfl) ?_
                    refine nv_ishr (a := (lvE al E f y)) (b := t) hx hb (pc := 65) dX7_countSingle_65 (by omega) (by omega) ?_
                    refine lv_iconst (v := nI 1) hx hb (pc := 66) dX7_countSingle_66 (by decide) ?_
                    refine nv_bit (a := (lvE al E f y)) (q := t) hx hb (pc := 67) dX7_countSingle_67 ?_
                    refine lv_i2l (v := lN (((lvE al E f y).testBit t).toNat)) hx hb (pc := 68) dX7_countSingle_68 (nI_l (Nat.lt_of_le_of_lt (bit_le _) (by decide))) ?_
                    refine nv_ladd (a := (sF3 ((f * 16) + t))) (b := (((lvE al E f y).testBit t).toNat)) hx hb (pc := 69) dX7_countSingle_69 ?_
                    refine nv_lastN (f := sF3) (x := ((sF3 ((f * 16) + t)) + (((lvE al E f y).testBit t).toNat))) (ws' := XW7 K xo xs xa xb xv xw (va_up sF3 ((f * 16) + t) ((sF3 ((f * 16) + t)) + (((lvE al E f y).testBit t).toNat))) rF pF vF bF) (i := ((f * 16) + t)) hx hb hKK hP hD hS 1 rfl (by omega) (by decide) (rfl) (pc := 70) dX7_countSingle_70 (fun H locs hP hD hS => ?_)
                    refine lv_iinc (v := nI (t + 1)) (lv' := [(5, .int (nI (t + 1))), (0, .ref xo), (1, .ref go), (2, .int (nI f)), (3, .int (nI y)), (4, .int (nI (lvE al E f y)))]) hx hb (pc := 71) dX7_countSingle_71 hl (k := 5) rfl (rr_inc _) (by decide) rfl (fun ls hl => ?_)
                    refine lv_goto (tgt := 39) hx hb (pc := 74) dX7_countSingle_74 (by decide) ?_
                    have hs4 := csF_step hn (by omega) (by omega) hs3
                    exact ih39 (t + 1) (va_up sF3 ((f * 16) + t) ((sF3 ((f * 16) + t)) + (((lvE al E f y).testBit t).toNat))) _ _ hP hD hS (by omega) (by omega) (hs4) ls (lv_sub hl [1, 2, 3, 4, 5, 0] rfl)
              exact L39 (17) 0 sF2 _ _ hP hD hS (by omega) (Nat.zero_le _) (hs2) ls (lv_sub hl [2, 3, 4, 5, 1, 0] rfl)
        exact L20 (5) 0 sF1 _ _ hP hD hS (by omega) (Nat.zero_le _) (hs1) ls (lv_sub hl [1, 2, 3, 0] rfl)
  have hs0 : ∀ i j, i < n → j < n → (putZ sF (fun _ => 0) 256) (i * 16 + j) = csF k al E 0 0 0 i j := fun i j hi hj => by rw [csF_0, putZ_in (by omega)]
  exact L10 (17) 0 (putZ sF (fun _ => 0) 256) _ _ hP hD hS (by omega) (Nat.zero_le _) (hs0) ls (lv_sub hl [1, 2, 0] rfl)

abbrev rmX7_lengthen : Room := { frames := 0, cells := 0, slots := 0, locals := 0 }
theorem inX7_lengthen_7 : ∀ w ∈ wsX70, w ∈ wsX7_lengthen := fun _ h => List.mem_cons_of_mem _ (List.mem_append_right _ h)
set_option maxHeartbeats 4000000 in
set_option maxRecDepth 100000 in
theorem c_X7_lengthen (l : Launch) (K : rr_K) (A : Nat → Prop) (xo xs xa xb xv xw : Nat) (sF rF pF vF bF : Nat → Nat) (n : Nat) (hn : n ≤ 16) (hD : va_D A (XW7 K xo xs xa xb xv xw sF rF pF vF bF)) : MetV l K yX7_lengthen wsX7_lengthen rmX7_lengthen [.ref xo, .int (nI n)] (fun H => va_P K.1 vwCl (XW7 K xo xs xa xb xv xw sF rF pF vF bF) H) A (fun H => ∃ pF', (∀ i j, i < n → j < n → pF' (i * 16 + j) = sN n (fun o => rF (i * 16 + o) * sF (o * 16 + j))) ∧ va_P K.1 vwCl (XW7 K xo xs xb xa xv xw sF pF' rF vF bF) H ∧ va_D A (XW7 K xo xs xb xa xv xw sF pF' rF vF bF)) 0 0 := by
  refine metV_of (cc := cX7_lengthen) (maxL := 7) (by decide) rfl rfl rfl (Nat.le_of_ble_eq_true rfl) ?_
  intro p e s m args below meth c Q ls hEnt hin hKK hX hret hl
  obtain ⟨hx, hb, hml, hown, hts⟩ := hEnt
  have hP : va_P K.1 vwCl (XW7 K xo xs xa xb xv xw sF rF pF vF bF) s.heap := hX
  have hl : lv_has ls 7 [(0, .ref xo), (1, .int (nI n))] := hl
  have hS : va_S A s.heap s.heap [] := va_S.rf
  refine lv_iconst (v := nI 0) hx hb (pc := 0) dX7_lengthen_0 (by decide) ?_
  refine lv_istore_n (lv' := [(2, .int (nI 0)), (0, .ref xo), (1, .int (nI n))]) hx hb (pc := 1) dX7_lengthen_1 rfl hl (by decide) rfl (fun ls hl => ?_)
  have L2 : ∀ (fz : Nat) (f : Nat) (pF1 : Nat → Nat) (H : Heap) (locs : List Loc) (hP : va_P K.1 vwCl (XW7 K xo xs xa xb xv xw sF rF pF1 vF bF) H) (hD : va_D A (XW7 K xo xs xa xb xv xw sF rF pF1 vF bF)) (hS : va_S A s.heap H locs) (hfz : n - f < fz) (hf : f ≤ n) (hp1 : ∀ i j, i < n → j < n → (i < f ∨ (i = f ∧ j < 0)) → pF1 (i * 16 + j) = sN n (fun o => rF (i * 16 + o) * sF (o * 16 + j))) (ls : Array Slot) (hl : lv_has ls 7 [(0, .ref xo), (1, .int (nI n)), (2, .int (nI f))]), W p l e rmX7_lengthen s m args below meth c H locs 0 0 Q (F0 m 2 ls []) := by
    intro fz; induction fz with
    | zero => intro f pF1 H locs hP hD hS hfz hf hp1 ls hl; exact absurd hfz (Nat.not_lt_zero _)
    | succ fz ih2 =>
      intro f pF1 H locs hP hD hS hfz hf hp1 ls hl
      refine lv_iload_n hx hb (pc := 2) dX7_lengthen_2 rfl (lv_at hl 2 rfl) ?_
      refine lv_iload_n hx hb (pc := 3) dX7_lengthen_3 rfl (lv_at hl 1 rfl) ?_
      refine nv_icmp_ge (a := f) (b := n) (tgt := 87) hx hb (pc := 4) dX7_lengthen_4 (by decide) (by omega) (by omega) (fun c4 => ?_) (fun c4 => ?_)
      · refine lv_aload_n hx hb (pc := 87) dX7_lengthen_87 rfl (lv_at hl 0 rfl) ?_
        refine va_get (v := .ref xa) hx hb hts (inX7_lengthen_7) hown hKK.1 hP 0 rfl rfl 1 (by decide) (hts _ (List.mem_of_getElem? (i := 1) (by decide +kernel))) (fun _ h9 => h9) rfl (pc := 88) dX7_lengthen_88 ?_
        refine lv_astore_n (lv' := [(2, .ref xa), (0, .ref xo), (1, .int (nI n))]) hx hb (pc := 91) dX7_lengthen_91 rfl hl (by decide) rfl (fun ls hl => ?_)
        refine lv_aload_n hx hb (pc := 92) dX7_lengthen_92 rfl (lv_at hl 1 rfl) ?_
        refine lv_aload_n hx hb (pc := 93) dX7_lengthen_93 rfl (lv_at hl 1 rfl) ?_
        refine va_get (v := .ref xb) hx hb hts (inX7_lengthen_7) hown hKK.1 hP 0 rfl rfl 2 (by decide) (hts _ (List.mem_of_getElem? (i := 3) (by decide +kernel))) (fun _ h9 => h9) rfl (pc := 94) dX7_lengthen_94 ?_
        refine rr_put (v := .ref xb) (ty := tyX7 1) (ws' := [(xo, .inr (7, [.ref xs, .ref xb, .ref xb, .ref xv, .ref xw])), (xs, .inl (K.2.2.1, 256, .inr (.inl (fun j => lN (sF j))))), (xa, .inl (K.2.2.1, 256, .inr (.inl (fun j => lN (rF j))))), (xb, .inl (K.2.2.1, 256, .inr (.inl (fun j => lN (pF1 j))))), (xv, .inl (K.2.2.1, 16, .inr (.inl (fun j => lN (vF j))))), (xw, .inl (K.2.2.1, 16, .inr (.inl (fun j => lN (bF j)))))]) hx hb hts (inX7_lengthen_7) tyX7 tyX7_ok nmX7 hown hKK.1 hP hD hS 0 rfl rfl 1 (by decide) (hts _ (List.mem_of_getElem? (i := 1) (by decide +kernel))) (fun _ h9 => h9) rfl (tyX7_ok 1 (by decide)) rfl rfl (Nat.le_of_ble_eq_true rfl) rfl (pc := 97) dX7_lengthen_97 (fun H locs hP hD hS => ?_)
        refine lv_aload_n hx hb (pc := 100) dX7_lengthen_100 rfl (lv_at hl 1 rfl) ?_
        refine lv_aload_n hx hb (pc := 101) dX7_lengthen_101 rfl (lv_at hl 0 rfl) ?_
        refine rr_put (v := .ref xa) (ty := tyX7 2) (ws' := [(xo, .inr (7, [.ref xs, .ref xb, .ref xa, .ref xv, .ref xw])), (xs, .inl (K.2.2.1, 256, .inr (.inl (fun j => lN (sF j))))), (xa, .inl (K.2.2.1, 256, .inr (.inl (fun j => lN (rF j))))), (xb, .inl (K.2.2.1, 256, .inr (.inl (fun j => lN (pF1 j))))), (xv, .inl (K.2.2.1, 16, .inr (.inl (fun j => lN (vF j))))), (xw, .inl (K.2.2.1, 16, .inr (.inl (fun j => lN (bF j)))))]) hx hb hts (inX7_lengthen_7) tyX7 tyX7_ok nmX7 hown hKK.1 hP hD hS 0 rfl rfl 2 (by decide) (hts _ (List.mem_of_getElem? (i := 3) (by decide +kernel))) (fun _ h9 => h9) rfl (tyX7_ok 2 (by decide)) rfl rfl (Nat.le_of_ble_eq_true rfl) rfl (pc := 102) dX7_lengthen_102 (fun H locs hP hD hS => ?_)
        have hP : va_P K.1 vwCl (XW7 K xo xs xb xa xv xw sF pF1 rF vF bF) H := hP.sub [0, 1, 3, 2, 4, 5] rfl
        have hD : va_D A (XW7 K xo xs xb xa xv xw sF pF1 rF vF bF) := hD.sub [0, 1, 3, 2, 4, 5] (by decide) rfl
        have e9 : f = n := by omega
        exact hret _ _ 0 0 105 _ dX7_lengthen_105 (by omega) (by omega) hS (⟨_, fun i j hi hj => hp1 i j hi hj (Or.inl (by omega)), hP, hD⟩)
      · refine lv_iconst (v := nI 0) hx hb (pc := 7) dX7_lengthen_7 (by decide) ?_
        refine lv_istore_n (lv' := [(3, .int (nI 0)), (0, .ref xo), (1, .int (nI n)), (2, .int (nI f))]) hx hb (pc := 8) dX7_lengthen_8 rfl hl (by decide) rfl (fun ls hl => ?_)
        have L9 : ∀ (fz : Nat) (t : Nat) (pF2 : Nat → Nat) (H : Heap) (locs : List Loc) (hP : va_P K.1 vwCl (XW7 K xo xs xa xb xv xw sF rF pF2 vF bF) H) (hD : va_D A (XW7 K xo xs xa xb xv xw sF rF pF2 vF bF)) (hS : va_S A s.heap H locs) (hfz : n - t < fz) (ht : t ≤ n) (hp2 : ∀ i j, i < n → j < n → (i < f ∨ (i = f ∧ j < t)) → pF2 (i * 16 + j) = sN n (fun o => rF (i * 16 + o) * sF (o * 16 + j))) (ls : Array Slot) (hl : lv_has ls 7 [(0, .ref xo), (1, .int (nI n)), (2, .int (nI f)), (3, .int (nI t))]), W p l e rmX7_lengthen s m args below meth c H locs 0 0 Q (F0 m 9 ls []) := by
          intro fz; induction fz with
          | zero => intro t pF2 H locs hP hD hS hfz ht hp2 ls hl; exact absurd hfz (Nat.not_lt_zero _)
          | succ fz ih9 =>
            intro t pF2 H locs hP hD hS hfz ht hp2 ls hl
            refine lv_iload_n hx hb (pc := 9) dX7_lengthen_9 rfl (lv_at hl 3 rfl) ?_
            refine lv_iload_n hx hb (pc := 10) dX7_lengthen_10 rfl (lv_at hl 1 rfl) ?_
            refine nv_icmp_ge (a := t) (b := n) (tgt := 81) hx hb (pc := 11) dX7_lengthen_11 (by decide) (by omega) (by omega) (fun c11 => ?_) (fun c11 => ?_)
            · refine lv_iinc (v := nI (f + 1)) (lv' := [(2, .int (nI (f + 1))), (0, .ref xo), (1, .int (nI n)), (3, .int (nI t))]) hx hb (pc := 81) dX7_lengthen_81 hl (k := 2) rfl (rr_inc _) (by decide) rfl (fun ls hl => ?_)
              refine lv_goto (tgt := 2) hx hb (pc := 84) dX7_lengthen_84 (by decide) ?_
              exact ih2 (f + 1) pF2 _ _ hP hD hS (by omega) (by omega) (fun i j hi hj h => hp2 i j hi hj (by omega)) ls (lv_sub hl [1, 2, 0] rfl)
            · refine lv_lconst (v := lN 0) hx hb (pc := 14) dX7_lengthen_14 (by decide) ?_
              refine lv_lstore (lv' := [(4, .long (lN (0))), (0, .ref xo), (1, .int (nI n)), (2, .int (nI f)), (3, .int (nI t))]) hx hb (pc := 15) dX7_lengthen_15 hl (by decide) rfl (fun ls hl => ?_)
              refine lv_iconst (v := nI 0) hx hb (pc := 17) dX7_lengthen_17 (by decide) ?_
              refine lv_istore (lv' := [(6, .int (nI 0)), (4, .long (lN (0))), (0, .ref xo), (1, .int (nI n)), (2, .int (nI f)), (3, .int (nI t))]) hx hb (pc := 18) dX7_lengthen_18 hl (by decide) rfl (fun ls hl => ?_)
              have L20 : ∀ (fz : Nat) (o : Nat) (hfz : n - o < fz) (ho : o ≤ n) (ls : Array Slot) (hl : lv_has ls 7 [(0, .ref xo), (1, .int (nI n)), (2, .int (nI f)), (3, .int (nI t)), (4, .long (lN (sN o (fun o => rF (f * 16 + o) * sF (o * 16 + t))))), (6, .int (nI o))]), W p l e rmX7_lengthen s m args below meth c H locs 0 0 Q (F0 m 20 ls []) := by
                intro fz; induction fz with
                | zero => intro o hfz ho ls hl; exact absurd hfz (Nat.not_lt_zero _)
                | succ fz ih20 =>
                  intro o hfz ho ls hl
                  refine lv_iload hx hb (pc := 20) dX7_lengthen_20 (lv_at hl 5 rfl) ?_
                  refine lv_iload_n hx hb (pc := 22) dX7_lengthen_22 rfl (lv_at hl 1 rfl) ?_
                  refine nv_icmp_ge (a := o) (b := n) (tgt := 62) hx hb (pc := 23) dX7_lengthen_23 (by decide) (by omega) (by omega) (fun c23 => ?_) (fun c23 => ?_)
                  · refine lv_aload_n hx hb (pc := 62) dX7_lengthen_62 rfl (lv_at hl 0 rfl) ?_
                    refine va_get (v := .ref xb) hx hb hts (inX7_lengthen_7) hown hKK.1 hP 0 rfl rfl 2 (by decide) (hts _ (List.mem_of_getElem? (i := 3) (by decide +kernel))) (fun _ h9 => h9) rfl (pc := 63) dX7_lengthen_63 ?_
                    refine lv_iload_n hx hb (pc := 66) dX7_lengthen_66 rfl (lv_at hl 2 rfl) ?_
                    refine lv_bipush (v := nI 16) hx hb (pc := 67) dX7_lengthen_67 (by decide) ?_
                    refine nv_imul (a := f) (b := 16) hx hb (pc := 69) dX7_lengthen_69 ?_
                    refine lv_iload_n hx hb (pc := 70) dX7_lengthen_70 rfl (lv_at hl 3 rfl) ?_
                    refine nv_iadd (a := (f * 16)) (b := t) hx hb (pc := 71) dX7_lengthen_71 ?_
                    refine lv_lload hx hb (pc := 72) dX7_lengthen_72 (lv_at hl 4 rfl) ?_
                    refine nv_lastN (f := pF2) (x := (sN o (fun o => rF (f * 16 + o) * sF (o * 16 + t)))) (ws' := XW7 K xo xs xa xb xv xw sF rF (va_up pF2 ((f * 16) + t) (sN o (fun o => rF (f * 16 + o) * sF (o * 16 + t)))) vF bF) (i := ((f * 16) + t)) hx hb hKK hP hD hS 3 rfl (by omega) (by decide) (rfl) (pc := 74) dX7_lengthen_74 (fun H locs hP hD hS => ?_)
                    refine lv_iinc (v := nI (t + 1)) (lv' := [(3, .int (nI (t + 1))), (0, .ref xo), (1, .int (nI n)), (2, .int (nI f)), (4, .long (lN (sN o (fun o => rF (f * 16 + o) * sF (o * 16 + t))))), (6, .int (nI o))]) hx hb (pc := 75) dX7_lengthen_75 hl (k := 3) rfl (rr_inc _) (by decide) rfl (fun ls hl => ?_)
                    refine lv_goto (tgt := 9) hx hb (pc := 78) dX7_lengthen_78 (by decide) ?_
                    have e7 : o = n := by omega
                    have hp3 : ∀ i j, i < n → j < n → (i < f ∨ (i = f ∧ j < (t + 1))) → va_up pF2 (f * 16 + t) (sN o (fun o => rF (f * 16 + o) * sF (o * 16 + t))) (i * 16 + j) = sN n (fun o => rF (i * 16 + o) * sF (o * 16 + j)) := fun i j hi hj h => by
                      unfold va_up
                      split
                      · rename_i q
                        obtain rfl : i = f := by omega
                        obtain rfl : j = t := by omega
                        rw [e7]
                      · rename_i q
                        exact hp2 i j hi hj (by
                          rcases h with h | h
                          · exact Or.inl h
                          · refine Or.inr ⟨h.1, ?_⟩
                            rcases Nat.lt_or_ge j t with w | w
                            · exact w
                            · exact absurd (by rw [h.1, show j = t by omega]) q)
                    exact ih9 (t + 1) (va_up pF2 ((f * 16) + t) (sN o (fun o => rF (f * 16 + o) * sF (o * 16 + t)))) _ _ hP hD hS (by omega) (by omega) (hp3) ls (lv_sub hl [1, 2, 3, 0] rfl)
                  · refine lv_lload hx hb (pc := 26) dX7_lengthen_26 (lv_at hl 4 rfl) ?_
                    refine lv_aload_n hx hb (pc := 28) dX7_lengthen_28 rfl (lv_at hl 0 rfl) ?_
                    refine va_get (v := .ref xa) hx hb hts (inX7_lengthen_7) hown hKK.1 hP 0 rfl rfl 1 (by decide) (hts _ (List.mem_of_getElem? (i := 1) (by decide +kernel))) (fun _ h9 => h9) rfl (pc := 29) dX7_lengthen_29 ?_
                    refine lv_iload_n hx hb (pc := 32) dX7_lengthen_32 rfl (lv_at hl 2 rfl) ?_
                    refine lv_bipush (v := nI 16) hx hb (pc := 33) dX7_lengthen_33 (by decide) ?_
                    refine nv_imul (a := f) (b := 16) hx hb (pc := 35) dX7_lengthen_35 ?_
                    refine lv_iload hx hb (pc := 36) dX7_lengthen_36 (lv_at hl 5 rfl) ?_
                    refine nv_iadd (a := (f * 16)) (b := o) hx hb (pc := 38) dX7_lengthen_38 ?_
                    refine nv_lald (v := lN (rF ((f * 16) + o))) (i := ((f * 16) + o)) hx hb hKK hP 2 rfl (by omega) (by decide) (rfl) (pc := 39) dX7_lengthen_39 ?_
                    refine lv_aload_n hx hb (pc := 40) dX7_lengthen_40 rfl (lv_at hl 0 rfl) ?_
                    refine va_get (v := .ref xs) hx hb hts (inX7_lengthen_7) hown hKK.1 hP 0 rfl rfl 0 (by decide) (hts _ (List.mem_of_getElem? (i := 2) (by decide +kernel))) (fun _ h9 => h9) rfl (pc := 41) dX7_lengthen_41 ?_
                    refine lv_iload hx hb (pc := 44) dX7_lengthen_44 (lv_at hl 5 rfl) ?_
                    refine lv_bipush (v := nI 16) hx hb (pc := 46) dX7_lengthen_46 (by decide) ?_
                    refine nv_imul (a := o) (b := 16) hx hb (pc := 48) dX7_lengthen_48 ?_
                    refine lv_iload_n hx hb (pc := 49) dX7_lengthen_49 rfl (lv_at hl 3 rfl) ?_
                    refine nv_iadd (a := (o * 16)) (b := t) hx hb (pc := 50) dX7_lengthen_50 ?_
                    refine nv_lald (v := lN (sF ((o * 16) + t))) (i := ((o * 16) + t)) hx hb hKK hP 1 rfl (by omega) (by decide) (rfl) (pc := 51) dX7_lengthen_51 ?_
                    refine nv_lmul (a := (rF ((f * 16) + o))) (b := (sF ((o * 16) + t))) hx hb (pc := 52) dX7_lengthen_52 ?_
                    refine nv_ladd (a := (sN o (fun o => rF (f * 16 + o) * sF (o * 16 + t)))) (b := ((rF ((f * 16) + o)) * (sF ((o * 16) + t)))) hx hb (pc := 53) dX7_lengthen_53 ?_
                    refine lv_lstore (lv' := [(4, .long (lN ((sN o (fun o => rF (f * 16 + o) * sF (o * 16 + t))) + ((rF ((f * 16) + o)) * (sF ((o * 16) + t)))))), (0, .ref xo), (1, .int (nI n)), (2, .int (nI f)), (3, .int (nI t)), (6, .int (nI o))]) hx hb (pc := 54) dX7_lengthen_54 hl (by decide) rfl (fun ls hl => ?_)
                    refine lv_iinc (v := nI (o + 1)) (lv' := [(6, .int (nI (o + 1))), (4, .long (lN ((sN o (fun o => rF (f * 16 + o) * sF (o * 16 + t))) + ((rF ((f * 16) + o)) * (sF ((o * 16) + t)))))), (0, .ref xo), (1, .int (nI n)), (2, .int (nI f)), (3, .int (nI t))]) hx hb (pc := 56) dX7_lengthen_56 hl (k := 5) rfl (rr_inc _) (by decide) rfl (fun ls hl => ?_)
                    refine lv_goto (tgt := 20) hx hb (pc := 59) dX7_lengthen_59 (by decide) ?_
                    have hl : lv_has ls 7 [(6, .int (nI (o + 1))), (4, .long (lN (sN (o + 1) (fun o => rF (f * 16 + o) * sF (o * 16 + t))))), (0, .ref xo), (1, .int (nI n)), (2, .int (nI f)), (3, .int (nI t))] := by rw [show sN (o + 1) (fun o => rF (f * 16 + o) * sF (o * 16 + t)) = (sN o (fun o => rF (f * 16 + o) * sF (o * 16 + t))) + ((rF ((f * 16) + o)) * (sF ((o * 16) + t))) from rfl]; exact hl
                    exact ih20 (o + 1) (by omega) (by omega) ls (lv_sub hl [2, 3, 4, 5, 1, 0] rfl)
              have hl : lv_has ls 7 [(6, .int (nI 0)), (4, .long (lN (sN 0 (fun o => rF (f * 16 + o) * sF (o * 16 + t))))), (0, .ref xo), (1, .int (nI n)), (2, .int (nI f)), (3, .int (nI t))] := by rw [show sN 0 (fun o => rF (f * 16 + o) * sF (o * 16 + t)) = 0 from rfl]; exact hl
              exact L20 (17) 0 (by omega) (Nat.zero_le _) ls (lv_sub hl [2, 3, 4, 5, 1, 0] rfl)
        exact L9 (17) 0 pF1 _ _ hP hD hS (by omega) (Nat.zero_le _) (hp1) ls (lv_sub hl [1, 2, 3, 0] rfl)
  exact L2 (17) 0 pF _ _ hP hD hS (by omega) (Nat.zero_le _) (fun i j _ _ h => by omega) ls (lv_sub hl [1, 2, 0] rfl)

abbrev rmX7_turnValues : Room := { frames := 0, cells := 0, slots := 0, locals := 0 }
theorem inX7_turnValues_7 : ∀ w ∈ wsX70, w ∈ wsX7_turnValues := fun _ h => List.mem_cons_of_mem _ (List.mem_append_right _ h)
set_option maxHeartbeats 4000000 in
set_option maxRecDepth 100000 in
theorem c_X7_turnValues (l : Launch) (K : rr_K) (A : Nat → Prop) (xo xs xa xb xv xw : Nat) (sF rF pF vF bF : Nat → Nat) (hD : va_D A (XW7 K xo xs xa xb xv xw sF rF pF vF bF)) : MetV l K yX7_turnValues wsX7_turnValues rmX7_turnValues [.ref xo] (fun H => va_P K.1 vwCl (XW7 K xo xs xa xb xv xw sF rF pF vF bF) H) A (fun H => va_P K.1 vwCl (XW7 K xo xs xa xb xw xv sF rF pF bF vF) H ∧ va_D A (XW7 K xo xs xa xb xw xv sF rF pF bF vF)) 0 0 := by
  refine metV_of (cc := cX7_turnValues) (maxL := 2) (by decide) rfl rfl rfl (Nat.le_of_ble_eq_true rfl) ?_
  intro p e s m args below meth c Q ls hEnt hin hKK hX hret hl
  obtain ⟨hx, hb, hml, hown, hts⟩ := hEnt
  have hP : va_P K.1 vwCl (XW7 K xo xs xa xb xv xw sF rF pF vF bF) s.heap := hX
  have hl : lv_has ls 2 [(0, .ref xo)] := hl
  have hS : va_S A s.heap s.heap [] := va_S.rf
  refine lv_aload_n hx hb (pc := 0) dX7_turnValues_0 rfl (lv_at hl 0 rfl) ?_
  refine va_get (v := .ref xv) hx hb hts (inX7_turnValues_7) hown hKK.1 hP 0 rfl rfl 3 (by decide) (hts _ (List.mem_of_getElem? (i := 1) (by decide +kernel))) (fun _ h9 => h9) rfl (pc := 1) dX7_turnValues_1 ?_
  refine lv_astore_n (lv' := [(1, .ref xv), (0, .ref xo)]) hx hb (pc := 4) dX7_turnValues_4 rfl hl (by decide) rfl (fun ls hl => ?_)
  refine lv_aload_n hx hb (pc := 5) dX7_turnValues_5 rfl (lv_at hl 1 rfl) ?_
  refine lv_aload_n hx hb (pc := 6) dX7_turnValues_6 rfl (lv_at hl 1 rfl) ?_
  refine va_get (v := .ref xw) hx hb hts (inX7_turnValues_7) hown hKK.1 hP 0 rfl rfl 4 (by decide) (hts _ (List.mem_of_getElem? (i := 2) (by decide +kernel))) (fun _ h9 => h9) rfl (pc := 7) dX7_turnValues_7 ?_
  refine rr_put (v := .ref xw) (ty := tyX7 3) (ws' := [(xo, .inr (7, [.ref xs, .ref xa, .ref xb, .ref xw, .ref xw])), (xs, .inl (K.2.2.1, 256, .inr (.inl (fun j => lN (sF j))))), (xa, .inl (K.2.2.1, 256, .inr (.inl (fun j => lN (rF j))))), (xb, .inl (K.2.2.1, 256, .inr (.inl (fun j => lN (pF j))))), (xv, .inl (K.2.2.1, 16, .inr (.inl (fun j => lN (vF j))))), (xw, .inl (K.2.2.1, 16, .inr (.inl (fun j => lN (bF j)))))]) hx hb hts (inX7_turnValues_7) tyX7 tyX7_ok nmX7 hown hKK.1 hP hD hS 0 rfl rfl 3 (by decide) (hts _ (List.mem_of_getElem? (i := 1) (by decide +kernel))) (fun _ h9 => h9) rfl (tyX7_ok 3 (by decide)) rfl rfl (Nat.le_of_ble_eq_true rfl) rfl (pc := 10) dX7_turnValues_10 (fun H locs hP hD hS => ?_)
  refine lv_aload_n hx hb (pc := 13) dX7_turnValues_13 rfl (lv_at hl 1 rfl) ?_
  refine lv_aload_n hx hb (pc := 14) dX7_turnValues_14 rfl (lv_at hl 0 rfl) ?_
  refine rr_put (v := .ref xv) (ty := tyX7 4) (ws' := [(xo, .inr (7, [.ref xs, .ref xa, .ref xb, .ref xw, .ref xv])), (xs, .inl (K.2.2.1, 256, .inr (.inl (fun j => lN (sF j))))), (xa, .inl (K.2.2.1, 256, .inr (.inl (fun j => lN (rF j))))), (xb, .inl (K.2.2.1, 256, .inr (.inl (fun j => lN (pF j))))), (xv, .inl (K.2.2.1, 16, .inr (.inl (fun j => lN (vF j))))), (xw, .inl (K.2.2.1, 16, .inr (.inl (fun j => lN (bF j)))))]) hx hb hts (inX7_turnValues_7) tyX7 tyX7_ok nmX7 hown hKK.1 hP hD hS 0 rfl rfl 4 (by decide) (hts _ (List.mem_of_getElem? (i := 2) (by decide +kernel))) (fun _ h9 => h9) rfl (tyX7_ok 4 (by decide)) rfl rfl (Nat.le_of_ble_eq_true rfl) rfl (pc := 15) dX7_turnValues_15 (fun H locs hP hD hS => ?_)
  have hP : va_P K.1 vwCl (XW7 K xo xs xa xb xw xv sF rF pF bF vF) H := hP.sub [0, 1, 2, 3, 5, 4] rfl
  have hD : va_D A (XW7 K xo xs xa xb xw xv sF rF pF bF vF) := hD.sub [0, 1, 2, 3, 5, 4] (by decide) rfl
  exact hret _ _ 0 0 18 _ dX7_turnValues_18 (by omega) (by omega) hS (⟨hP, hD⟩)

abbrev rmX7_sumAtEnds : Room := { frames := 0, cells := 0, slots := 0, locals := 0 }
theorem inX7_sumAtEnds_7 : ∀ w ∈ wsX70, w ∈ wsX7_sumAtEnds := fun _ h => List.mem_cons_of_mem _ (List.mem_append_right _ h)
set_option maxHeartbeats 4000000 in
set_option maxRecDepth 100000 in
theorem c_X7_sumAtEnds_s (l : Launch) (K : rr_K) (xo xs xa xb xv xw : Nat) (sF rF pF vF bF : Nat → Nat) (fr n : Nat) (hfr : fr < 16) (hn : n ≤ 16) : MetP l K yX7_sumAtEnds wsX7_sumAtEnds rmX7_sumAtEnds [.ref xo, .ref xs, .int (nI fr), .int (nI n)] (fun H => va_P K.1 vwCl (XW7 K xo xs xa xb xv xw sF rF pF vF bF) H) (.long (lN (sN n (fun o => sF (fr * 16 + o) * vF o)))) := by
  refine metP_of (cc := cX7_sumAtEnds) (maxL := 7) (ret := (some .long)) (rt := .long) (by decide) rfl rfl (Nat.le_of_ble_eq_true rfl) ?_
  intro p e s m args below meth c Q ls hEnt hKK hX hret hl
  obtain ⟨hx, hb, hml, hown, hts⟩ := hEnt
  have hP : va_P K.1 vwCl (XW7 K xo xs xa xb xv xw sF rF pF vF bF) s.heap := hX
  have hl : lv_has ls 7 [(0, .ref xo), (1, .ref xs), (2, .int (nI fr)), (3, .int (nI n))] := hl
  refine lv_lconst (v := lN 0) hx hb (pc := 0) dX7_sumAtEnds_0 (by decide) ?_
  refine lv_lstore (lv' := [(4, .long (lN (0))), (0, .ref xo), (1, .ref xs), (2, .int (nI fr)), (3, .int (nI n))]) hx hb (pc := 1) dX7_sumAtEnds_1 hl (by decide) rfl (fun ls hl => ?_)
  refine lv_iconst (v := nI 0) hx hb (pc := 3) dX7_sumAtEnds_3 (by decide) ?_
  refine lv_istore (lv' := [(6, .int (nI 0)), (4, .long (lN (0))), (0, .ref xo), (1, .ref xs), (2, .int (nI fr)), (3, .int (nI n))]) hx hb (pc := 4) dX7_sumAtEnds_4 hl (by decide) rfl (fun ls hl => ?_)
  have L6 : ∀ (fz : Nat) (o : Nat) (hfz : n - o < fz) (ho : o ≤ n) (ls : Array Slot) (hl : lv_has ls 7 [(0, .ref xo), (1, .ref xs), (2, .int (nI fr)), (3, .int (nI n)), (4, .long (lN (sN o (fun o => sF (fr * 16 + o) * vF o)))), (6, .int (nI o))]), W p l e rmX7_sumAtEnds s m args below meth c s.heap [] 0 0 Q (F0 m 6 ls []) := by
    intro fz; induction fz with
    | zero => intro o hfz ho ls hl; exact absurd hfz (Nat.not_lt_zero _)
    | succ fz ih6 =>
      intro o hfz ho ls hl
      refine lv_iload hx hb (pc := 6) dX7_sumAtEnds_6 (lv_at hl 5 rfl) ?_
      refine lv_iload_n hx hb (pc := 8) dX7_sumAtEnds_8 rfl (lv_at hl 3 rfl) ?_
      refine nv_icmp_ge (a := o) (b := n) (tgt := 40) hx hb (pc := 9) dX7_sumAtEnds_9 (by decide) (by omega) (by omega) (fun c9 => ?_) (fun c9 => ?_)
      · refine lv_lload hx hb (pc := 40) dX7_sumAtEnds_40 (lv_at hl 4 rfl) ?_
        have e9 : o = n := by omega
        exact hret.2.1 42 _ (lN (sN o (fun o => sF (fr * 16 + o) * vF o))) dX7_sumAtEnds_42 (by rw [e9]) rfl
      · refine lv_lload hx hb (pc := 12) dX7_sumAtEnds_12 (lv_at hl 4 rfl) ?_
        refine lv_aload_n hx hb (pc := 14) dX7_sumAtEnds_14 rfl (lv_at hl 1 rfl) ?_
        refine lv_iload_n hx hb (pc := 15) dX7_sumAtEnds_15 rfl (lv_at hl 2 rfl) ?_
        refine lv_bipush (v := nI 16) hx hb (pc := 16) dX7_sumAtEnds_16 (by decide) ?_
        refine nv_imul (a := fr) (b := 16) hx hb (pc := 18) dX7_sumAtEnds_18 ?_
        refine lv_iload hx hb (pc := 19) dX7_sumAtEnds_19 (lv_at hl 5 rfl) ?_
        refine nv_iadd (a := (fr * 16)) (b := o) hx hb (pc := 21) dX7_sumAtEnds_21 ?_
        refine nv_lald (v := lN (sF ((fr * 16) + o))) (i := ((fr * 16) + o)) hx hb hKK hP 1 rfl (by omega) (by decide) (rfl) (pc := 22) dX7_sumAtEnds_22 ?_
        refine lv_aload_n hx hb (pc := 23) dX7_sumAtEnds_23 rfl (lv_at hl 0 rfl) ?_
        refine va_get (v := .ref xv) hx hb hts (inX7_sumAtEnds_7) hown hKK.1 hP 0 rfl rfl 3 (by decide) (hts _ (List.mem_of_getElem? (i := 1) (by decide +kernel))) (fun _ h9 => h9) rfl (pc := 24) dX7_sumAtEnds_24 ?_
        refine lv_iload hx hb (pc := 27) dX7_sumAtEnds_27 (lv_at hl 5 rfl) ?_
        refine nv_lald (v := lN (vF o)) (i := o) hx hb hKK hP 4 rfl (by omega) (by decide) (rfl) (pc := 29) dX7_sumAtEnds_29 ?_
        refine nv_lmul (a := (sF ((fr * 16) + o))) (b := (vF o)) hx hb (pc := 30) dX7_sumAtEnds_30 ?_
        refine nv_ladd (a := (sN o (fun o => sF (fr * 16 + o) * vF o))) (b := ((sF ((fr * 16) + o)) * (vF o))) hx hb (pc := 31) dX7_sumAtEnds_31 ?_
        refine lv_lstore (lv' := [(4, .long (lN ((sN o (fun o => sF (fr * 16 + o) * vF o)) + ((sF ((fr * 16) + o)) * (vF o))))), (0, .ref xo), (1, .ref xs), (2, .int (nI fr)), (3, .int (nI n)), (6, .int (nI o))]) hx hb (pc := 32) dX7_sumAtEnds_32 hl (by decide) rfl (fun ls hl => ?_)
        refine lv_iinc (v := nI (o + 1)) (lv' := [(6, .int (nI (o + 1))), (4, .long (lN ((sN o (fun o => sF (fr * 16 + o) * vF o)) + ((sF ((fr * 16) + o)) * (vF o))))), (0, .ref xo), (1, .ref xs), (2, .int (nI fr)), (3, .int (nI n))]) hx hb (pc := 34) dX7_sumAtEnds_34 hl (k := 5) rfl (rr_inc _) (by decide) rfl (fun ls hl => ?_)
        refine lv_goto (tgt := 6) hx hb (pc := 37) dX7_sumAtEnds_37 (by decide) ?_
        have hl : lv_has ls 7 [(6, .int (nI (o + 1))), (4, .long (lN (sN (o + 1) (fun o => sF (fr * 16 + o) * vF o)))), (0, .ref xo), (1, .ref xs), (2, .int (nI fr)), (3, .int (nI n))] := by rw [show sN (o + 1) (fun o => sF (fr * 16 + o) * vF o) = (sN o (fun o => sF (fr * 16 + o) * vF o)) + ((sF ((fr * 16) + o)) * (vF o)) from rfl]; exact hl
        exact ih6 (o + 1) (by omega) (by omega) ls (lv_sub hl [2, 3, 4, 5, 1, 0] rfl)
  have hl : lv_has ls 7 [(6, .int (nI 0)), (4, .long (lN (sN 0 (fun o => sF (fr * 16 + o) * vF o)))), (0, .ref xo), (1, .ref xs), (2, .int (nI fr)), (3, .int (nI n))] := by rw [show sN 0 (fun o => sF (fr * 16 + o) * vF o) = 0 from rfl]; exact hl
  exact L6 (17) 0 (by omega) (Nat.zero_le _) ls (lv_sub hl [2, 3, 4, 5, 1, 0] rfl)

set_option maxHeartbeats 4000000 in
set_option maxRecDepth 100000 in
theorem c_X7_sumAtEnds_r (l : Launch) (K : rr_K) (xo xs xa xb xv xw : Nat) (sF rF pF vF bF : Nat → Nat) (fr n : Nat) (hfr : fr < 16) (hn : n ≤ 16) : MetP l K yX7_sumAtEnds wsX7_sumAtEnds rmX7_sumAtEnds [.ref xo, .ref xa, .int (nI fr), .int (nI n)] (fun H => va_P K.1 vwCl (XW7 K xo xs xa xb xv xw sF rF pF vF bF) H) (.long (lN (sN n (fun o => rF (fr * 16 + o) * vF o)))) := by
  refine metP_of (cc := cX7_sumAtEnds) (maxL := 7) (ret := (some .long)) (rt := .long) (by decide) rfl rfl (Nat.le_of_ble_eq_true rfl) ?_
  intro p e s m args below meth c Q ls hEnt hKK hX hret hl
  obtain ⟨hx, hb, hml, hown, hts⟩ := hEnt
  have hP : va_P K.1 vwCl (XW7 K xo xs xa xb xv xw sF rF pF vF bF) s.heap := hX
  have hl : lv_has ls 7 [(0, .ref xo), (1, .ref xa), (2, .int (nI fr)), (3, .int (nI n))] := hl
  refine lv_lconst (v := lN 0) hx hb (pc := 0) dX7_sumAtEnds_0 (by decide) ?_
  refine lv_lstore (lv' := [(4, .long (lN (0))), (0, .ref xo), (1, .ref xa), (2, .int (nI fr)), (3, .int (nI n))]) hx hb (pc := 1) dX7_sumAtEnds_1 hl (by decide) rfl (fun ls hl => ?_)
  refine lv_iconst (v := nI 0) hx hb (pc := 3) dX7_sumAtEnds_3 (by decide) ?_
  refine lv_istore (lv' := [(6, .int (nI 0)), (4, .long (lN (0))), (0, .ref xo), (1, .ref xa), (2, .int (nI fr)), (3, .int (nI n))]) hx hb (pc := 4) dX7_sumAtEnds_4 hl (by decide) rfl (fun ls hl => ?_)
  have L6 : ∀ (fz : Nat) (o : Nat) (hfz : n - o < fz) (ho : o ≤ n) (ls : Array Slot) (hl : lv_has ls 7 [(0, .ref xo), (1, .ref xa), (2, .int (nI fr)), (3, .int (nI n)), (4, .long (lN (sN o (fun o => rF (fr * 16 + o) * vF o)))), (6, .int (nI o))]), W p l e rmX7_sumAtEnds s m args below meth c s.heap [] 0 0 Q (F0 m 6 ls []) := by
    intro fz; induction fz with
    | zero => intro o hfz ho ls hl; exact absurd hfz (Nat.not_lt_zero _)
    | succ fz ih6 =>
      intro o hfz ho ls hl
      refine lv_iload hx hb (pc := 6) dX7_sumAtEnds_6 (lv_at hl 5 rfl) ?_
      refine lv_iload_n hx hb (pc := 8) dX7_sumAtEnds_8 rfl (lv_at hl 3 rfl) ?_
      refine nv_icmp_ge (a := o) (b := n) (tgt := 40) hx hb (pc := 9) dX7_sumAtEnds_9 (by decide) (by omega) (by omega) (fun c9 => ?_) (fun c9 => ?_)
      · refine lv_lload hx hb (pc := 40) dX7_sumAtEnds_40 (lv_at hl 4 rfl) ?_
        have e9 : o = n := by omega
        exact hret.2.1 42 _ (lN (sN o (fun o => rF (fr * 16 + o) * vF o))) dX7_sumAtEnds_42 (by rw [e9]) rfl
      · refine lv_lload hx hb (pc := 12) dX7_sumAtEnds_12 (lv_at hl 4 rfl) ?_
        refine lv_aload_n hx hb (pc := 14) dX7_sumAtEnds_14 rfl (lv_at hl 1 rfl) ?_
        refine lv_iload_n hx hb (pc := 15) dX7_sumAtEnds_15 rfl (lv_at hl 2 rfl) ?_
        refine lv_bipush (v := nI 16) hx hb (pc := 16) dX7_sumAtEnds_16 (by decide) ?_
        refine nv_imul (a := fr) (b := 16) hx hb (pc := 18) dX7_sumAtEnds_18 ?_
        refine lv_iload hx hb (pc := 19) dX7_sumAtEnds_19 (lv_at hl 5 rfl) ?_
        refine nv_iadd (a := (fr * 16)) (b := o) hx hb (pc := 21) dX7_sumAtEnds_21 ?_
        refine nv_lald (v := lN (rF ((fr * 16) + o))) (i := ((fr * 16) + o)) hx hb hKK hP 2 rfl (by omega) (by decide) (rfl) (pc := 22) dX7_sumAtEnds_22 ?_
        refine lv_aload_n hx hb (pc := 23) dX7_sumAtEnds_23 rfl (lv_at hl 0 rfl) ?_
        refine va_get (v := .ref xv) hx hb hts (inX7_sumAtEnds_7) hown hKK.1 hP 0 rfl rfl 3 (by decide) (hts _ (List.mem_of_getElem? (i := 1) (by decide +kernel))) (fun _ h9 => h9) rfl (pc := 24) dX7_sumAtEnds_24 ?_
        refine lv_iload hx hb (pc := 27) dX7_sumAtEnds_27 (lv_at hl 5 rfl) ?_
        refine nv_lald (v := lN (vF o)) (i := o) hx hb hKK hP 4 rfl (by omega) (by decide) (rfl) (pc := 29) dX7_sumAtEnds_29 ?_
        refine nv_lmul (a := (rF ((fr * 16) + o))) (b := (vF o)) hx hb (pc := 30) dX7_sumAtEnds_30 ?_
        refine nv_ladd (a := (sN o (fun o => rF (fr * 16 + o) * vF o))) (b := ((rF ((fr * 16) + o)) * (vF o))) hx hb (pc := 31) dX7_sumAtEnds_31 ?_
        refine lv_lstore (lv' := [(4, .long (lN ((sN o (fun o => rF (fr * 16 + o) * vF o)) + ((rF ((fr * 16) + o)) * (vF o))))), (0, .ref xo), (1, .ref xa), (2, .int (nI fr)), (3, .int (nI n)), (6, .int (nI o))]) hx hb (pc := 32) dX7_sumAtEnds_32 hl (by decide) rfl (fun ls hl => ?_)
        refine lv_iinc (v := nI (o + 1)) (lv' := [(6, .int (nI (o + 1))), (4, .long (lN ((sN o (fun o => rF (fr * 16 + o) * vF o)) + ((rF ((fr * 16) + o)) * (vF o))))), (0, .ref xo), (1, .ref xa), (2, .int (nI fr)), (3, .int (nI n))]) hx hb (pc := 34) dX7_sumAtEnds_34 hl (k := 5) rfl (rr_inc _) (by decide) rfl (fun ls hl => ?_)
        refine lv_goto (tgt := 6) hx hb (pc := 37) dX7_sumAtEnds_37 (by decide) ?_
        have hl : lv_has ls 7 [(6, .int (nI (o + 1))), (4, .long (lN (sN (o + 1) (fun o => rF (fr * 16 + o) * vF o)))), (0, .ref xo), (1, .ref xa), (2, .int (nI fr)), (3, .int (nI n))] := by rw [show sN (o + 1) (fun o => rF (fr * 16 + o) * vF o) = (sN o (fun o => rF (fr * 16 + o) * vF o)) + ((rF ((fr * 16) + o)) * (vF o)) from rfl]; exact hl
        exact ih6 (o + 1) (by omega) (by omega) ls (lv_sub hl [2, 3, 4, 5, 1, 0] rfl)
  have hl : lv_has ls 7 [(6, .int (nI 0)), (4, .long (lN (sN 0 (fun o => rF (fr * 16 + o) * vF o)))), (0, .ref xo), (1, .ref xa), (2, .int (nI fr)), (3, .int (nI n))] := by rw [show sN 0 (fun o => rF (fr * 16 + o) * vF o) = 0 from rfl]; exact hl
  exact L6 (17) 0 (by omega) (Nat.zero_le _) ls (lv_sub hl [2, 3, 4, 5, 1, 0] rfl)

abbrev rmX7_setLive : Room := { frames := 1, cells := 0, slots := 0, locals := 21 }
theorem inX7_setLive_7 : ∀ w ∈ wsX70, w ∈ wsX7_setLive := fun _ h => List.mem_cons_of_mem _ (List.mem_append_left _ (List.mem_append_right _ h))
set_option maxHeartbeats 4000000 in
set_option maxRecDepth 100000 in
theorem c_X7_setLive (l : Launch) (K : rr_K) (A : Nat → Prop) (xo xs xa xb xv xw : Nat) (sF rF pF vF bF : Nat → Nat) (go ge gt k n gw al lw : Nat) (E T : Nat → Nat) (x : Nat) (hal : al < 65536) (hD : va_D A (XW7 K xo xs xa xb xv xw sF rF pF vF bF)) (hGA : ∀ (k_ : Nat) (q_ : Nat × va_E), (GW K go ge gt k n gw al lw E T)[k_]? = some q_ → ¬ A q_.1) : MetV l K yX7_setLive wsX7_setLive rmX7_setLive [.ref xo, .ref go, .long (lN (x))] (fun H => va_P K.1 vwCl (XW7 K xo xs xa xb xv xw sF rF pF vF bF) H ∧ va_P K.1 vwCl (GW K go ge gt k n gw al lw E T) H) A (fun H => va_P K.1 vwCl (XW7 K xo xs xa xb xv xw sF rF pF (putZ vF (fun q => if al.testBit q then x else 0) 16) bF) H) 0 0 := by
  refine metV_of (cc := cX7_setLive) (maxL := 5) (by decide) rfl rfl rfl (Nat.le_of_ble_eq_true rfl) ?_
  intro p e s m args below meth c Q ls hEnt hin hKK hX hret hl
  obtain ⟨hx, hb, hml, hown, hts⟩ := hEnt
  obtain ⟨hP, hG⟩ := hX
  have hP : va_P K.1 vwCl (XW7 K xo xs xa xb xv xw sF rF pF vF bF) s.heap := hP
  have hG : va_P K.1 vwCl (GW K go ge gt k n gw al lw E T) s.heap := hG
  have hl : lv_has ls 5 [(0, .ref xo), (1, .ref go), (2, .long (lN (x)))] := hl
  have hS : va_S A s.heap s.heap [] := va_S.rf
  refine lv_iconst (v := nI 0) hx hb (pc := 0) dX7_setLive_0 (by decide) ?_
  refine lv_istore (lv' := [(4, .int (nI 0)), (0, .ref xo), (1, .ref go), (2, .long (lN (x)))]) hx hb (pc := 1) dX7_setLive_1 hl (by decide) rfl (fun ls hl => ?_)
  have L3 : ∀ (fz : Nat) (q : Nat) (H : Heap) (locs : List Loc) (hP : va_P K.1 vwCl (XW7 K xo xs xa xb xv xw sF rF pF (putZ vF (fun q => if al.testBit q then x else 0) q) bF) H) (hD : va_D A (XW7 K xo xs xa xb xv xw sF rF pF (putZ vF (fun q => if al.testBit q then x else 0) q) bF)) (hS : va_S A s.heap H locs) (hfz : 16 - q < fz) (hq : q ≤ 16) (ls : Array Slot) (hl : lv_has ls 5 [(0, .ref xo), (1, .ref go), (2, .long (lN (x))), (4, .int (nI q))]), W p l e rmX7_setLive s m args below meth c H locs 0 0 Q (F0 m 3 ls []) := by
    intro fz; induction fz with
    | zero => intro q H locs hP hD hS hfz hq ls hl; exact absurd hfz (Nat.not_lt_zero _)
    | succ fz ih3 =>
      intro q H locs hP hD hS hfz hq ls hl
      refine lv_iload hx hb (pc := 3) dX7_setLive_3 (lv_at hl 3 rfl) ?_
      refine lv_bipush (v := nI 16) hx hb (pc := 5) dX7_setLive_5 (by decide) ?_
      refine nv_icmp_ge (a := q) (b := 16) (tgt := 37) hx hb (pc := 7) dX7_setLive_7 (by decide) (by omega) (by omega) (fun c7 => ?_) (fun c7 => ?_)
      · have e9 : q = 16 := by omega
        exact hret _ _ 0 0 37 _ dX7_setLive_37 (by omega) (by omega) hS (by rw [e9] at hP; exact hP)
      · refine lv_aload_n hx hb (pc := 10) dX7_setLive_10 rfl (lv_at hl 0 rfl) ?_
        refine va_get (v := .ref xv) hx hb hts (inX7_setLive_7) hown hKK.1 hP 0 rfl rfl 3 (by decide) (hts _ (List.mem_of_getElem? (i := 1) (by decide +kernel))) (fun _ h9 => h9) rfl (pc := 11) dX7_setLive_11 ?_
        refine lv_iload hx hb (pc := 14) dX7_setLive_14 (lv_at hl 3 rfl) ?_
        refine lv_aload_n hx hb (pc := 16) dX7_setLive_16 rfl (lv_at hl 1 rfl) ?_
        refine lv_iload hx hb (pc := 17) dX7_setLive_17 (lv_at hl 3 rfl) ?_
        refine rr_callP (rv := .int (bI (al.testBit q))) (pc := 19) (va_runV (As := [.int (nI q)]) (rest := [.int (nI q), .ref xv]) ⟨hx, hb, hml, hown, hts⟩ (c_X1_isLive l K go ge gt k n gw al lw E T q hal (by omega)) (cwV 1 hts gX7_setLive_X1_isLive rfl rfl rfl (by decide +kernel) ⟨Nat.le_of_ble_eq_true rfl, Nat.le_of_ble_eq_true rfl⟩) (rr_preV hKK ((rr_ro (A := A) hG hGA hS)) (va_recv hKK.1 (rr_ro (A := A) hG hGA hS) (ci := 1) (q0 := 0) rfl rfl)) rfl rfl hl.1 rfl (lv_room (Nat.le_of_ble_eq_true rfl)) dX7_setLive_19 ⟨Nat.le_refl _, Nat.le_refl _⟩) ?_
        refine nv_if_eq_b (a := (al.testBit q)) (tgt := 29) hx hb (pc := 22) dX7_setLive_22 (by decide) (fun c22 => ?_) (fun c22 => ?_)
        · refine lv_lconst (v := lN 0) hx hb (pc := 29) dX7_setLive_29 (by decide) ?_
          refine rr_top (v := .long (lN ((fun q => if al.testBit q then x else 0) q))) (by first | (rw [show (fun q => if al.testBit q then x else 0) q = x from by show (if al.testBit q = true then x else 0) = x; rw [if_pos c22]]; done) | (rw [show (fun q => if al.testBit q then x else 0) q = 0 from by show (if al.testBit q = true then x else 0) = 0; rw [if_neg (by rw [c22]; decide)]]; done)) ?_
          refine nv_lastN (f := (putZ vF (fun q => if al.testBit q then x else 0) q)) (x := ((fun q => if al.testBit q then x else 0) q)) (ws' := XW7 K xo xs xa xb xv xw sF rF pF (va_up (putZ vF (fun q => if al.testBit q then x else 0) q) q ((fun q => if al.testBit q then x else 0) q)) bF) (i := q) hx hb hKK hP hD hS 4 rfl (by omega) (by decide) (rfl) (pc := 30) dX7_setLive_30 (fun H locs hP hD hS => ?_)
          rw [putZ_step vF (fun q => if al.testBit q then x else 0) q] at hP hD
          refine lv_iinc (v := nI (q + 1)) (lv' := [(4, .int (nI (q + 1))), (0, .ref xo), (1, .ref go), (2, .long (lN (x)))]) hx hb (pc := 31) dX7_setLive_31 hl (k := 3) rfl (rr_inc _) (by decide) rfl (fun ls hl => ?_)
          refine lv_goto (tgt := 3) hx hb (pc := 34) dX7_setLive_34 (by decide) ?_
          exact ih3 (q + 1) _ _ hP hD hS (by omega) (by omega) ls (lv_sub hl [1, 2, 3, 0] rfl)
        · refine lv_lload_n hx hb (pc := 25) dX7_setLive_25 rfl (lv_at hl 2 rfl) ?_
          refine lv_goto (tgt := 30) hx hb (pc := 26) dX7_setLive_26 (by decide) ?_
          refine rr_top (v := .long (lN ((fun q => if al.testBit q then x else 0) q))) (by first | (rw [show (fun q => if al.testBit q then x else 0) q = x from by show (if al.testBit q = true then x else 0) = x; rw [if_pos c22]]; done) | (rw [show (fun q => if al.testBit q then x else 0) q = 0 from by show (if al.testBit q = true then x else 0) = 0; rw [if_neg (by rw [c22]; decide)]]; done)) ?_
          refine nv_lastN (f := (putZ vF (fun q => if al.testBit q then x else 0) q)) (x := ((fun q => if al.testBit q then x else 0) q)) (ws' := XW7 K xo xs xa xb xv xw sF rF pF (va_up (putZ vF (fun q => if al.testBit q then x else 0) q) q ((fun q => if al.testBit q then x else 0) q)) bF) (i := q) hx hb hKK hP hD hS 4 rfl (by omega) (by decide) (rfl) (pc := 30) dX7_setLive_30 (fun H locs hP hD hS => ?_)
          rw [putZ_step vF (fun q => if al.testBit q then x else 0) q] at hP hD
          refine lv_iinc (v := nI (q + 1)) (lv' := [(4, .int (nI (q + 1))), (0, .ref xo), (1, .ref go), (2, .long (lN (x)))]) hx hb (pc := 31) dX7_setLive_31 hl (k := 3) rfl (rr_inc _) (by decide) rfl (fun ls hl => ?_)
          refine lv_goto (tgt := 3) hx hb (pc := 34) dX7_setLive_34 (by decide) ?_
          exact ih3 (q + 1) _ _ hP hD hS (by omega) (by omega) ls (lv_sub hl [1, 2, 3, 0] rfl)
  rw [← putZ_0 vF (fun q => if al.testBit q then x else 0)] at hP hD
  exact L3 (17) 0 _ _ hP hD hS (by omega) (Nat.zero_le _) ls (lv_sub hl [1, 2, 3, 0] rfl)

