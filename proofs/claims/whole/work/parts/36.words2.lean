abbrev rmX9_power : Room := { frames := 0, cells := 0, slots := 0, locals := 0 }
set_option maxHeartbeats 4000000 in
set_option maxRecDepth 100000 in
theorem c_X9_power (l : Launch) (K : rr_K) (bs ex : Nat) (hbs : bs ≤ 4) (hex : ex ≤ 8) : MetP l K yX9_power wsX9_power rmX9_power [.int (nI bs), .int (nI ex)] (fun H => True) (.int (nI (bs ^ ex))) := by
  refine metP_of (cc := cX9_power) (maxL := 4) (ret := (some .int)) (rt := .int) (by decide) rfl rfl (Nat.le_of_ble_eq_true rfl) ?_
  intro p e s m args below meth c Q ls hEnt hKK hX hret hl
  obtain ⟨hx, hb, hml, hown, hts⟩ := hEnt
  have hl : lv_has ls 4 [(0, .int (nI bs)), (1, .int (nI ex))] := hl
  refine lv_iconst (v := nI 1) hx hb (pc := 0) dX9_power_0 (by decide) ?_
  refine lv_istore_n (lv' := [(2, .int (nI 1)), (0, .int (nI bs)), (1, .int (nI ex))]) hx hb (pc := 1) dX9_power_1 rfl hl (by decide) rfl (fun ls hl => ?_)
  refine lv_iconst (v := nI 0) hx hb (pc := 2) dX9_power_2 (by decide) ?_
  refine lv_istore_n (lv' := [(3, .int (nI 0)), (2, .int (nI 1)), (0, .int (nI bs)), (1, .int (nI ex))]) hx hb (pc := 3) dX9_power_3 rfl hl (by decide) rfl (fun ls hl => ?_)
  have L4 : ∀ (fz : Nat) (i : Nat) (hfz : ex - i < fz) (hi : i ≤ ex) (ls : Array Slot) (hl : lv_has ls 4 [(0, .int (nI bs)), (1, .int (nI ex)), (2, .int (nI (bs ^ i))), (3, .int (nI i))]), W p l e rmX9_power s m args below meth c s.heap [] 0 0 Q (F0 m 4 ls []) := by
    intro fz; induction fz with
    | zero => intro i hfz hi ls hl; exact absurd hfz (Nat.not_lt_zero _)
    | succ fz ih4 =>
      intro i hfz hi ls hl
      refine lv_iload_n hx hb (pc := 4) dX9_power_4 rfl (lv_at hl 3 rfl) ?_
      refine lv_iload_n hx hb (pc := 5) dX9_power_5 rfl (lv_at hl 1 rfl) ?_
      refine nv_icmp_ge (a := i) (b := ex) (tgt := 19) hx hb (pc := 6) dX9_power_6 (by decide) (by omega) (by omega) (fun c6 => ?_) (fun c6 => ?_)
      · refine lv_iload_n hx hb (pc := 19) dX9_power_19 rfl (lv_at hl 2 rfl) ?_
        obtain rfl : i = ex := by omega
        exact hret.1 20 _ (nI (bs ^ i)) dX9_power_20 (rfl) (rfl)
      · refine lv_iload_n hx hb (pc := 9) dX9_power_9 rfl (lv_at hl 2 rfl) ?_
        refine lv_iload_n hx hb (pc := 10) dX9_power_10 rfl (lv_at hl 0 rfl) ?_
        refine nv_imul (a := (bs ^ i)) (b := bs) hx hb (pc := 11) dX9_power_11 ?_
        refine lv_istore_n (lv' := [(2, .int (nI ((bs ^ i) * bs))), (0, .int (nI bs)), (1, .int (nI ex)), (3, .int (nI i))]) hx hb (pc := 12) dX9_power_12 rfl hl (by decide) rfl (fun ls hl => ?_)
        refine lv_iinc (v := nI (i + 1)) (lv' := [(3, .int (nI (i + 1))), (2, .int (nI ((bs ^ i) * bs))), (0, .int (nI bs)), (1, .int (nI ex))]) hx hb (pc := 13) dX9_power_13 hl (k := 3) rfl (rr_inc _) (by decide) rfl (fun ls hl => ?_)
        refine lv_goto (tgt := 4) hx hb (pc := 16) dX9_power_16 (by decide) ?_
        exact ih4 (i + 1) (by omega) (by omega) ls (lv_sub hl [2, 3, 1, 0] rfl)
  exact L4 (ex + 1) 0 (by omega) (Nat.zero_le _) ls (lv_sub hl [2, 3, 1, 0] rfl)

abbrev rmX9_commonDivisor : Room := { frames := 0, cells := 0, slots := 0, locals := 0 }
set_option maxHeartbeats 4000000 in
set_option maxRecDepth 100000 in
theorem c_X9_commonDivisor (l : Launch) (K : rr_K) (aa bb : Nat) (haa : aa < 2 ^ 63) (hbb : bb < 2 ^ 63) : MetP l K yX9_commonDivisor wsX9_commonDivisor rmX9_commonDivisor [.long (lN (aa)), .long (lN (bb))] (fun H => True) (.long (lN (Nat.gcd aa bb))) := by
  refine metP_of (cc := cX9_commonDivisor) (maxL := 11) (ret := (some .long)) (rt := .long) (by decide) rfl rfl (Nat.le_of_ble_eq_true rfl) ?_
  intro p e s m args below meth c Q ls hEnt hKK hX hret hl
  obtain ⟨hx, hb, hml, hown, hts⟩ := hEnt
  have hl : lv_has ls 11 [(0, .long (lN (aa))), (2, .long (lN (bb)))] := hl
  refine lv_lload_n hx hb (pc := 0) dX9_commonDivisor_0 rfl (lv_at hl 0 rfl) ?_
  refine lv_lstore (lv' := [(4, .long (lN (aa))), (0, .long (lN (aa))), (2, .long (lN (bb)))]) hx hb (pc := 1) dX9_commonDivisor_1 hl (by decide) rfl (fun ls hl => ?_)
  refine lv_lload_n hx hb (pc := 3) dX9_commonDivisor_3 rfl (lv_at hl 2 rfl) ?_
  refine lv_lstore (lv' := [(6, .long (lN (bb))), (4, .long (lN (aa))), (0, .long (lN (aa))), (2, .long (lN (bb)))]) hx hb (pc := 4) dX9_commonDivisor_4 hl (by decide) rfl (fun ls hl => ?_)
  refine lv_iconst (v := nI 0) hx hb (pc := 6) dX9_commonDivisor_6 (by decide) ?_
  refine lv_istore (lv' := [(8, .int (nI 0)), (6, .long (lN (bb))), (4, .long (lN (aa))), (0, .long (lN (aa))), (2, .long (lN (bb)))]) hx hb (pc := 7) dX9_commonDivisor_7 hl (by decide) rfl (fun ls hl => ?_)
  have L9 : ∀ (fz : Nat) (x : Nat) (y : Nat) (i : Nat) (hfz : 100 - i < fz) (hi : i ≤ 100) (hx9 : x < 2 ^ 63) (hy9 : y < 2 ^ 63) (hg : Nat.gcd x y = Nat.gcd aa bb) (hr : ∀ m, eRun m x y → eRun (m + i) aa bb) (ls : Array Slot) (hl : lv_has ls 11 [(4, .long (lN (x))), (6, .long (lN (y))), (8, .int (nI i))]), W p l e rmX9_commonDivisor s m args below meth c s.heap [] 0 0 Q (F0 m 9 ls []) := by
    intro fz; induction fz with
    | zero => intro x y i hfz hi hx9 hy9 hg hr ls hl; exact absurd hfz (Nat.not_lt_zero _)
    | succ fz ih9 =>
      intro x y i hfz hi hx9 hy9 hg hr ls hl
      refine lv_iload hx hb (pc := 9) dX9_commonDivisor_9 (lv_at hl 2 rfl) ?_
      refine lv_bipush (v := nI 100) hx hb (pc := 11) dX9_commonDivisor_11 (by decide) ?_
      refine nv_icmp_ge (a := i) (b := 100) (tgt := 44) hx hb (pc := 13) dX9_commonDivisor_13 (by decide) (by omega) (by omega) (fun c13 => ?_) (fun c13 => ?_)
      · refine lv_lload hx hb (pc := 44) dX9_commonDivisor_44 (lv_at hl 0 rfl) ?_
        have hy0 : y = 0 := by
          first
          | omega
          | exact absurd (show eRun 100 aa bb from by have h9 := hr 0 trivial; rwa [show 0 + i = 100 by omega] at h9) (eRun_100 haa hbb)
        exact hret.2.1 46 _ (lN x) dX9_commonDivisor_46 (by rw [← hg, hy0, Nat.gcd_zero_right]) rfl
      · refine lv_lload hx hb (pc := 16) dX9_commonDivisor_16 (lv_at hl 1 rfl) ?_
        refine lv_lconst (v := lN 0) hx hb (pc := 18) dX9_commonDivisor_18 (by decide) ?_
        refine nv_lcmp_eq (a := y) (b := 0) (tgt := 44) hx hb (pc := 19) dX9_commonDivisor_19 dX9_commonDivisor_20 (by decide) (by omega) (by omega) (fun c19 => ?_) (fun c19 => ?_)
        · refine lv_lload hx hb (pc := 44) dX9_commonDivisor_44 (lv_at hl 0 rfl) ?_
          have hy0 : y = 0 := by
            first
            | omega
            | exact absurd (show eRun 100 aa bb from by have h9 := hr 0 trivial; rwa [show 0 + i = 100 by omega] at h9) (eRun_100 haa hbb)
          exact hret.2.1 46 _ (lN x) dX9_commonDivisor_46 (by rw [← hg, hy0, Nat.gcd_zero_right]) rfl
        · refine lv_lload hx hb (pc := 23) dX9_commonDivisor_23 (lv_at hl 0 rfl) ?_
          refine lv_lload hx hb (pc := 25) dX9_commonDivisor_25 (lv_at hl 1 rfl) ?_
          refine nv_lrem (a := x) (b := y) hx hb (pc := 27) dX9_commonDivisor_27 (by omega) (by omega) (by omega) ?_
          refine lv_lstore (lv' := [(9, .long (lN (x % y))), (4, .long (lN (x))), (6, .long (lN (y))), (8, .int (nI i))]) hx hb (pc := 28) dX9_commonDivisor_28 hl (by decide) rfl (fun ls hl => ?_)
          refine lv_lload hx hb (pc := 30) dX9_commonDivisor_30 (lv_at hl 2 rfl) ?_
          refine lv_lstore (lv' := [(4, .long (lN (y))), (9, .long (lN (x % y))), (6, .long (lN (y))), (8, .int (nI i))]) hx hb (pc := 32) dX9_commonDivisor_32 hl (by decide) rfl (fun ls hl => ?_)
          refine lv_lload hx hb (pc := 34) dX9_commonDivisor_34 (lv_at hl 1 rfl) ?_
          refine lv_lstore (lv' := [(6, .long (lN (x % y))), (4, .long (lN (y))), (9, .long (lN (x % y))), (8, .int (nI i))]) hx hb (pc := 36) dX9_commonDivisor_36 hl (by decide) rfl (fun ls hl => ?_)
          refine lv_iinc (v := nI (i + 1)) (lv' := [(8, .int (nI (i + 1))), (6, .long (lN (x % y))), (4, .long (lN (y))), (9, .long (lN (x % y)))]) hx hb (pc := 38) dX9_commonDivisor_38 hl (k := 3) rfl (rr_inc _) (by decide) rfl (fun ls hl => ?_)
          refine lv_goto (tgt := 9) hx hb (pc := 41) dX9_commonDivisor_41 (by decide) ?_
          exact ih9 y (x % y) (i + 1) (by omega) (by omega) (hy9) (by have := Nat.mod_lt x (show 0 < y by omega); omega) (by rw [← hg, Nat.gcd_comm x y, Nat.gcd_rec y x, Nat.gcd_comm]) (fun m h => by have := hr (m + 1) ⟨by omega, h⟩; rwa [show m + (i + 1) = m + 1 + i by omega]) ls (lv_sub hl [2, 1, 0] rfl)
  exact L9 (101) aa bb 0 (by omega) (Nat.zero_le _) (haa) (hbb) (rfl) (fun m h => h) ls (lv_sub hl [2, 1, 0] rfl)

