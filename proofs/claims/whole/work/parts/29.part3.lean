abbrev rmX5_length : Room := { frames := 2, cells := 0, slots := 0, locals := 43 }
theorem inX5_length_5 : ∀ w ∈ wsX50, w ∈ wsX5_length := fun _ h => List.mem_cons_of_mem _ (List.mem_append_left _ (List.mem_append_right _ h))
set_option maxHeartbeats 4000000 in
set_option maxRecDepth 100000 in
theorem c_X5_length (l : Launch) (K : rr_K) (po mo mk mn ms b cap : Nat) (ks : Nat → Int32) (no sl : Nat → Nat) (kn nt : List Nat) (pr l9 : Nat) (hM : MInv (kn.map nI) nt cap b ks no sl) (hnok : NOK nt) (hn31 : ∀ x ∈ nt, x < 2 ^ 31) (h00 : nt.getD 0 0 = 0) (hp20 : pr < 20000) (hpl : pr < nt.length) : MetP l K yX5_length wsX5_length rmX5_length [.ref po] (fun H => va_P K.1 vwCl (PT1 K po mo (nI pr) (nI l9) ++ MW3 K mo mk mn ms ((kn.map nI).length) b cap ks no sl) H) (.int (nI (dpP nt pr pr + 1))) := by
  refine metP_of (cc := cX5_length) (maxL := 4) (ret := (some .int)) (rt := .int) (by decide) rfl rfl (Nat.le_of_ble_eq_true rfl) ?_
  intro p e s m args below meth c Q ls hEnt hKK hX hret hl
  obtain ⟨hx, hb, hml, hown, hts⟩ := hEnt
  have hP : va_P K.1 vwCl (PT1 K po mo (nI pr) (nI l9) ++ MW3 K mo mk mn ms ((kn.map nI).length) b cap ks no sl) s.heap := hX
  have hl : lv_has ls 4 [(0, .ref po)] := hl
  have hlm : (kn.map nI).length = kn.length := List.length_map _
  have hntl : nt.length = (kn.map nI).length := hM.2.2.2.2.2.1
  have hn32 : ∀ i, i < nt.length → nt.getD i 0 < 2 ^ 31 := fun i hi => by rw [getD_lt hi]; exact hn31 _ (List.getElem_mem _)
  refine lv_aload_n hx hb (pc := 0) dX5_length_0 rfl (lv_at hl 0 rfl) ?_
  refine va_get (v := .int (nI pr)) hx hb hts (inX5_length_5) hown hKK.1 hP 0 rfl rfl 1 (by decide) (hts _ (List.mem_of_getElem? (i := 1) (by decide +kernel))) (fun _ h9 => h9) rfl (pc := 1) dX5_length_1 ?_
  refine nv_if_ge0 (a := pr) (tgt := 9) hx hb (pc := 4) dX5_length_4 (by decide) (by omega) ?_
  refine lv_iconst (v := nI 1) hx hb (pc := 9) dX5_length_9 (by decide) ?_
  refine lv_istore_n (lv' := [(1, .int (nI 1)), (0, .ref po)]) hx hb (pc := 10) dX5_length_10 rfl hl (by decide) rfl (fun ls hl => ?_)
  refine lv_aload_n hx hb (pc := 11) dX5_length_11 rfl (lv_at hl 1 rfl) ?_
  refine va_get (v := .int (nI pr)) hx hb hts (inX5_length_5) hown hKK.1 hP 0 rfl rfl 1 (by decide) (hts _ (List.mem_of_getElem? (i := 1) (by decide +kernel))) (fun _ h9 => h9) rfl (pc := 12) dX5_length_12 ?_
  refine lv_istore_n (lv' := [(2, .int (nI pr)), (1, .int (nI 1)), (0, .ref po)]) hx hb (pc := 15) dX5_length_15 rfl hl (by decide) rfl (fun ls hl => ?_)
  refine lv_iconst (v := nI 0) hx hb (pc := 16) dX5_length_16 (by decide) ?_
  refine lv_istore_n (lv' := [(3, .int (nI 0)), (2, .int (nI pr)), (1, .int (nI 1)), (0, .ref po)]) hx hb (pc := 17) dX5_length_17 rfl hl (by decide) rfl (fun ls hl => ?_)
  have L18 : ∀ (fz : Nat) (i : Nat) (q : Nat) (n9 : Nat) (hfz : q < fz) (hiq : i + q ≤ pr) (hq : q < nt.length) (hn9 : n9 + dpP nt q q = dpP nt pr pr + 1) (ls : Array Slot) (hl : lv_has ls 4 [(0, .ref po), (1, .int (nI n9)), (2, .int (nI q)), (3, .int (nI i))]), W p l e rmX5_length s m args below meth c s.heap [] 0 0 Q (F0 m 18 ls []) := by
    intro fz; induction fz with
    | zero => intro i q n9 hfz hiq hq hn9 ls hl; exact absurd hfz (Nat.not_lt_zero _)
    | succ fz ih18 =>
      intro i q n9 hfz hiq hq hn9 ls hl
      have hd9 := dpP_le (nt := nt) pr pr
      refine lv_iload_n hx hb (pc := 18) dX5_length_18 rfl (lv_at hl 3 rfl) ?_
      refine lv_sipush (v := nI 20000) hx hb (pc := 19) dX5_length_19 (by decide) ?_
      refine nv_icmp_ge (a := i) (b := 20000) (tgt := 49) hx hb (pc := 22) dX5_length_22 (by decide) (by omega) (by omega) (fun c22 => absurd c22 (by omega)) (fun c22 => ?_)
      refine lv_iload_n hx hb (pc := 25) dX5_length_25 rfl (lv_at hl 2 rfl) ?_
      refine nv_if_le (a := q) (tgt := 49) hx hb (pc := 26) dX5_length_26 (by decide) (by omega) (fun c26 => ?_) (fun c26 => ?_)
      · refine lv_iload_n hx hb (pc := 49) dX5_length_49 rfl (lv_at hl 1 rfl) ?_
        exact hret.1 50 _ (nI n9) dX5_length_50 (by rw [show n9 = dpP nt pr pr + 1 by rw [← hn9, c26]; rfl]) (rfl)
      · refine lv_aload_n hx hb (pc := 29) dX5_length_29 rfl (lv_at hl 0 rfl) ?_
        refine va_get (v := .ref mo) hx hb hts (inX5_length_5) hown hKK.1 hP 0 rfl rfl 0 (by decide) (hts _ (List.mem_of_getElem? (i := 2) (by decide +kernel))) (fun _ h9 => h9) rfl (pc := 30) dX5_length_30 ?_
        refine lv_iload_n hx hb (pc := 33) dX5_length_33 rfl (lv_at hl 2 rfl) ?_
        refine rr_callP (rv := .int (nI (no q))) (pc := 34) (va_runV (As := [.int (nI q)]) (rest := []) ⟨hx, hb, hml, hown, hts⟩ (c_X3_noteAt l K mo mk mn ms b cap ks no sl (kn.map nI) nt q hM (by omega)) (cwV 1 hts gX5_length_X3_noteAt rfl rfl rfl (by decide +kernel) ⟨Nat.le_of_ble_eq_true rfl, Nat.le_of_ble_eq_true rfl⟩) (rr_preV hKK (rr_right hP) (va_recv hKK.1 hP (ci := 3) (q0 := 1) rfl rfl)) rfl rfl hl.1 rfl (lv_room (Nat.le_of_ble_eq_true rfl)) dX5_length_34 ⟨Nat.le_refl _, Nat.le_refl _⟩) ?_
        refine rr_top (v := .int (nI (nt.getD q 0))) (by rw [no_map hM hq]) ?_
        refine lv_iconst (v := nI 4) hx hb (pc := 37) dX5_length_37 (by decide) ?_
        refine nv_idiv (a := (nt.getD q 0)) (b := 4) hx hb (pc := 38) dX5_length_38 (hn32 q hq) (by omega) (by omega) ?_
        refine lv_istore_n (lv' := [(2, .int (nI ((nt.getD q 0) / 4))), (0, .ref po), (1, .int (nI n9)), (3, .int (nI i))]) hx hb (pc := 39) dX5_length_39 rfl hl (by decide) rfl (fun ls hl => ?_)
        refine lv_iinc (v := nI (n9 + 1)) (lv' := [(1, .int (nI (n9 + 1))), (2, .int (nI ((nt.getD q 0) / 4))), (0, .ref po), (3, .int (nI i))]) hx hb (pc := 40) dX5_length_40 hl (k := 2) rfl (rr_inc _) (by decide) rfl (fun ls hl => ?_)
        refine lv_iinc (v := nI (i + 1)) (lv' := [(3, .int (nI (i + 1))), (1, .int (nI (n9 + 1))), (2, .int (nI ((nt.getD q 0) / 4))), (0, .ref po)]) hx hb (pc := 43) dX5_length_43 hl (k := 3) rfl (rr_inc _) (by decide) rfl (fun ls hl => ?_)
        refine lv_goto (tgt := 18) hx hb (pc := 46) dX5_length_46 (by decide) ?_
        have hpar := hnok q (by omega) hq
        exact ih18 (i + 1) (nt.getD q 0 / 4) (n9 + 1) (by omega) (by omega) (by omega) (by rw [dpP_step hnok hq c26] at hn9; omega) ls (lv_sub hl [3, 1, 2, 0] rfl)
  exact L18 (pr + 1) 0 pr 1 (by omega) (by omega) (by omega) (Nat.add_comm _ _) ls (lv_sub hl [3, 2, 1, 0] rfl)

set_option maxHeartbeats 4000000 in
set_option maxRecDepth 100000 in
theorem c_X5_length0 (l : Launch) (K : rr_K) (po mo mk mn ms b cap : Nat) (ks : Nat → Int32) (no sl : Nat → Nat) (kn nt : List Nat) (ll : Int32) : MetP l K yX5_length wsX5_length rmX5_length [.ref po] (fun H => va_P K.1 vwCl (PT1 K po mo (-1) ll ++ MW3 K mo mk mn ms ((kn.map nI).length) b cap ks no sl) H) (.int (nI 0)) := by
  refine metP_of (cc := cX5_length) (maxL := 4) (ret := (some .int)) (rt := .int) (by decide) rfl rfl (Nat.le_of_ble_eq_true rfl) ?_
  intro p e s m args below meth c Q ls hEnt hKK hX hret hl
  obtain ⟨hx, hb, hml, hown, hts⟩ := hEnt
  have hP : va_P K.1 vwCl (PT1 K po mo (-1) ll ++ MW3 K mo mk mn ms ((kn.map nI).length) b cap ks no sl) s.heap := hX
  have hl : lv_has ls 4 [(0, .ref po)] := hl
  refine lv_aload_n hx hb (pc := 0) dX5_length_0 rfl (lv_at hl 0 rfl) ?_
  refine va_get (v := .int (-1)) hx hb hts (inX5_length_5) hown hKK.1 hP 0 rfl rfl 1 (by decide) (hts _ (List.mem_of_getElem? (i := 1) (by decide +kernel))) (fun _ h9 => h9) rfl (pc := 1) dX5_length_1 ?_
  refine lv_if_ge (tgt := 9) hx hb (pc := 4) dX5_length_4 (by decide) (fun c4 => absurd c4 (by decide)) (fun c4 => ?_)
  refine lv_iconst (v := nI 0) hx hb (pc := 7) dX5_length_7 (by decide) ?_
  exact hret.1 8 _ (nI 0) dX5_length_8 (by simp [bI, *]) (rfl)

abbrev rmX5_tellWord : Room := { frames := 3, cells := 0, slots := 0, locals := 66 }
theorem inX5_tellWord_5 : ∀ w ∈ wsX50, w ∈ wsX5_tellWord := fun _ h => List.mem_cons_of_mem _ (List.mem_append_left _ (List.mem_append_right _ h))
set_option maxHeartbeats 4000000 in
set_option maxRecDepth 100000 in
theorem c_X5_tellWord (l : Launch) (K : rr_K) (A : Nat → Prop) (po mo mk mn ms b cap : Nat) (ks : Nat → Int32) (no sl : Nat → Nat) (kn nt : List Nat) (wo pr l9 : Nat) (WD : Nat → Nat) (hM : MInv (kn.map nI) nt cap b ks no sl) (hl9 : l9 < 4) (hnok : NOK nt) (hn31 : ∀ x ∈ nt, x < 2 ^ 31) (h00 : nt.getD 0 0 = 0) (hp20 : pr < 20000) (hpl : pr < nt.length) (hD : va_D A (RA K wo 30 WD)) (hGA : ∀ (k_ : Nat) (q_ : Nat × va_E), (PT1 K po mo (nI pr) (nI l9) ++ MW3 K mo mk mn ms ((kn.map nI).length) b cap ks no sl)[k_]? = some q_ → ¬ A q_.1) : MetR l K yX5_tellWord wsX5_tellWord rmX5_tellWord [.ref po, .ref wo] (fun H => va_P K.1 vwCl (RA K wo 30 WD) H ∧ va_P K.1 vwCl (PT1 K po mo (nI pr) (nI l9) ++ MW3 K mo mk mn ms ((kn.map nI).length) b cap ks no sl) H) A (fun v H => v = .int (nI (min (dpP nt pr pr + 1) 30)) ∧ va_P K.1 vwCl (RA K wo 30 (wdW nt pr l9 0 WD)) H) 0 0 := by
  refine metR_of (cc := cX5_tellWord) (maxL := 6) (ret := (some .int)) (rt := .int) (by decide) rfl rfl rfl rfl (Nat.le_of_ble_eq_true rfl) ?_
  intro p e s m args below meth c Q ls hEnt hKK hX hret hl
  obtain ⟨hx, hb, hml, hown, hts⟩ := hEnt
  obtain ⟨hP, hG⟩ := hX
  have hP : va_P K.1 vwCl (RA K wo 30 WD) s.heap := hP
  have hG : va_P K.1 vwCl (PT1 K po mo (nI pr) (nI l9) ++ MW3 K mo mk mn ms ((kn.map nI).length) b cap ks no sl) s.heap := hG
  have hl : lv_has ls 6 [(0, .ref po), (1, .ref wo)] := hl
  have hS : va_S A s.heap s.heap [] := va_S.rf
  have hlm : (kn.map nI).length = kn.length := List.length_map _
  have hntl : nt.length = (kn.map nI).length := hM.2.2.2.2.2.1
  have hn32 : ∀ i, i < nt.length → nt.getD i 0 < 2 ^ 31 := fun i hi => by rw [getD_lt hi]; exact hn31 _ (List.getElem_mem _)
  have hd9 := dpP_le (nt := nt) pr pr
  refine lv_aload_n hx hb (pc := 0) dX5_tellWord_0 rfl (lv_at hl 0 rfl) ?_
  refine rr_callP (rv := .int (nI (dpP nt pr pr + 1))) (pc := 1) (va_runV (As := []) (rest := []) ⟨hx, hb, hml, hown, hts⟩ (c_X5_length l K po mo mk mn ms b cap ks no sl kn nt pr l9 hM hnok hn31 h00 hp20 hpl) (cwV 0 hts gX5_tellWord_X5_length rfl rfl rfl (by decide +kernel) ⟨Nat.le_of_ble_eq_true rfl, Nat.le_of_ble_eq_true rfl⟩) (rr_preV hKK (rr_ro (A := A) hG hGA hS) (va_recv hKK.1 (rr_ro (A := A) hG hGA hS) (ci := 5) (q0 := 0) rfl rfl)) rfl rfl hl.1 rfl (lv_room (Nat.le_of_ble_eq_true rfl)) dX5_tellWord_1 ⟨Nat.le_refl _, Nat.le_refl _⟩) ?_
  refine lv_istore_n (lv' := [(2, .int (nI (dpP nt pr pr + 1))), (0, .ref po), (1, .ref wo)]) hx hb (pc := 4) dX5_tellWord_4 rfl hl (by decide) rfl (fun ls hl => ?_)
  refine lv_aload_n hx hb (pc := 5) dX5_tellWord_5 rfl (lv_at hl 1 rfl) ?_
  refine va_get (v := .int (nI pr)) hx hb hts (inX5_tellWord_5) hown hKK.1 (rr_ro (A := A) hG hGA hS) 0 rfl rfl 1 (by decide) (hts _ (List.mem_of_getElem? (i := 1) (by decide +kernel))) (fun _ h9 => h9) rfl (pc := 6) dX5_tellWord_6 ?_
  refine lv_istore_n (lv' := [(3, .int (nI pr)), (2, .int (nI (dpP nt pr pr + 1))), (0, .ref po), (1, .ref wo)]) hx hb (pc := 9) dX5_tellWord_9 rfl hl (by decide) rfl (fun ls hl => ?_)
  refine lv_aload_n hx hb (pc := 10) dX5_tellWord_10 rfl (lv_at hl 2 rfl) ?_
  refine va_get (v := .int (nI l9)) hx hb hts (inX5_tellWord_5) hown hKK.1 (rr_ro (A := A) hG hGA hS) 0 rfl rfl 2 (by decide) (hts _ (List.mem_of_getElem? (i := 2) (by decide +kernel))) (fun _ h9 => h9) rfl (pc := 11) dX5_tellWord_11 ?_
  refine lv_istore (lv' := [(4, .int (nI l9)), (3, .int (nI pr)), (2, .int (nI (dpP nt pr pr + 1))), (0, .ref po), (1, .ref wo)]) hx hb (pc := 14) dX5_tellWord_14 hl (by decide) rfl (fun ls hl => ?_)
  refine lv_iload_n hx hb (pc := 16) dX5_tellWord_16 rfl (lv_at hl 2 rfl) ?_
  refine lv_iconst (v := nI 1) hx hb (pc := 17) dX5_tellWord_17 (by decide) ?_
  refine nv_isub (a := (dpP nt pr pr + 1)) (b := 1) hx hb (pc := 18) dX5_tellWord_18 (by omega) ?_
  refine rr_top (v := .int (dI (dpP nt pr pr + 1))) (by rw [dI_succ]; rfl) ?_
  refine lv_istore (lv' := [(5, .int (dI (dpP nt pr pr + 1))), (4, .int (nI l9)), (3, .int (nI pr)), (2, .int (nI (dpP nt pr pr + 1))), (0, .ref po), (1, .ref wo)]) hx hb (pc := 19) dX5_tellWord_19 hl (by decide) rfl (fun ls hl => ?_)
  have L21 : ∀ (fz : Nat) (t : Nat) (lt : Nat) (H : Heap) (locs : List Loc) (hP : va_P K.1 vwCl (RA K wo 30 (wdW nt pr l9 t WD)) H) (hD : va_D A (RA K wo 30 (wdW nt pr l9 t WD))) (hS : va_S A s.heap H locs) (hfz : t < fz) (ht : t ≤ dpP nt pr pr + 1) (hlt : t ≠ 0 → lt = wdP nt pr l9 (t - 1)) (ls : Array Slot) (hl : lv_has ls 6 [(0, .ref po), (1, .ref wo), (2, .int (nI (dpP nt pr pr + 1))), (3, .int (nI (upP nt (dpP nt pr pr + 1 - t) pr))), (4, .int (nI lt)), (5, .int (dI t))]), W p l e rmX5_tellWord s m args below meth c H locs 0 0 Q (F0 m 21 ls []) := by
    intro fz; induction fz with
    | zero => intro t lt H locs hP hD hS hfz ht hlt ls hl; exact absurd hfz (Nat.not_lt_zero _)
    | succ fz ih21 =>
      intro t lt H locs hP hD hS hfz ht hlt ls hl
      have hup := upP_le hnok h00 hpl (dpP nt pr pr + 1 - t)
      refine lv_iload hx hb (pc := 21) dX5_tellWord_21 (lv_at hl 5 rfl) ?_
      refine lv_if_lt (tgt := 68) hx hb (pc := 23) dX5_tellWord_23 (by decide) (fun c23 => ?_) (fun c23 => ?_)
      · refine lv_iload_n hx hb (pc := 68) dX5_tellWord_68 rfl (lv_at hl 2 rfl) ?_
        refine lv_aload_n hx hb (pc := 69) dX5_tellWord_69 rfl (lv_at hl 1 rfl) ?_
        refine va_alen (v := nI 30) hx hb hKK.1 hP 0 0 rfl rfl rfl (pc := 70) dX5_tellWord_70 ?_
        refine va_mmin hx hb (hml.trans hl.1.symm) hown (hts _ (List.mem_of_getElem? (i := 4) (by decide +kernel))) (hts _ (List.mem_of_getElem? (i := 5) (by decide +kernel))) (hts _ (List.mem_of_getElem? (i := 6) (by decide +kernel))) (hts _ (List.mem_of_getElem? (i := 7) (by decide +kernel))) (Nat.le_of_ble_eq_true rfl) (Nat.le_of_ble_eq_true rfl) (Nat.le_refl _) (Nat.le_refl _) (pc := 71) dX5_tellWord_71 ?_
        refine rr_top (v := .int (nI (min (dpP nt pr pr + 1) 30))) (by rw [rr_min _ _ (by omega) (by omega)]) ?_
        obtain rfl := dI_lt c23 (by omega)
        exact hret.1 _ _ 0 0 74 _ (nI (min (dpP nt pr pr + 1) 30)) dX5_tellWord_74 (by omega) (by omega) hS (⟨rfl, hP⟩) (rfl)
      · obtain ⟨i, rfl⟩ := dI_ge c23
        have hl : lv_has ls 6 [(5, .int (nI i)), (4, .int (nI lt)), (3, .int (nI (upP nt (dpP nt pr pr + 1 - (i + 1)) pr))), (2, .int (nI (dpP nt pr pr + 1))), (1, .ref wo), (0, .ref po)] := by rw [← dI_succ i]; exact lv_sub hl [5, 4, 3, 2, 1, 0] rfl
        have hlt9 := hlt (by omega)
        rw [Nat.add_sub_cancel] at hlt9
        refine lv_iload hx hb (pc := 26) dX5_tellWord_26 (lv_at hl 0 rfl) ?_
        refine lv_aload_n hx hb (pc := 28) dX5_tellWord_28 rfl (lv_at hl 4 rfl) ?_
        refine va_alen (v := nI 30) hx hb hKK.1 hP 0 0 rfl rfl rfl (pc := 29) dX5_tellWord_29 ?_
        refine nv_icmp_ge (a := i) (b := 30) (tgt := 39) hx hb (pc := 30) dX5_tellWord_30 (by decide) (by omega) (by omega) (fun c30 => ?_) (fun c30 => ?_)
        · rw [wdW_skip nt pr l9 WD c30] at hP hD
          refine lv_aload_n hx hb (pc := 39) dX5_tellWord_39 rfl (lv_at hl 5 rfl) ?_
          refine va_get (v := .ref mo) hx hb hts (inX5_tellWord_5) hown hKK.1 (rr_ro (A := A) hG hGA hS) 0 rfl rfl 0 (by decide) (hts _ (List.mem_of_getElem? (i := 3) (by decide +kernel))) (fun _ h9 => h9) rfl (pc := 40) dX5_tellWord_40 ?_
          refine lv_iload_n hx hb (pc := 43) dX5_tellWord_43 rfl (lv_at hl 2 rfl) ?_
          refine rr_callP (rv := .int (nI (no (upP nt (dpP nt pr pr + 1 - (i + 1)) pr)))) (pc := 44) (va_runV (As := [.int (nI (upP nt (dpP nt pr pr + 1 - (i + 1)) pr))]) (rest := []) ⟨hx, hb, hml, hown, hts⟩ (c_X3_noteAt l K mo mk mn ms b cap ks no sl (kn.map nI) nt (upP nt (dpP nt pr pr + 1 - (i + 1)) pr) hM (by omega)) (cwV 1 hts gX5_tellWord_X3_noteAt rfl rfl rfl (by decide +kernel) ⟨Nat.le_of_ble_eq_true rfl, Nat.le_of_ble_eq_true rfl⟩) (rr_preV hKK (rr_right (rr_ro (A := A) hG hGA hS)) (va_recv hKK.1 (rr_ro (A := A) hG hGA hS) (ci := 3) (q0 := 1) rfl rfl)) rfl rfl hl.1 rfl (lv_room (Nat.le_of_ble_eq_true rfl)) dX5_tellWord_44 ⟨Nat.le_refl _, Nat.le_refl _⟩) ?_
          refine rr_top (v := .int (nI (nt.getD (upP nt (dpP nt pr pr + 1 - (i + 1)) pr) 0))) (by rw [no_map hM (by omega)]) ?_
          refine lv_iconst (v := nI 4) hx hb (pc := 47) dX5_tellWord_47 (by decide) ?_
          refine nv_irem (a := (nt.getD (upP nt (dpP nt pr pr + 1 - (i + 1)) pr) 0)) (b := 4) hx hb (pc := 48) dX5_tellWord_48 (hn32 _ (by omega)) (by omega) (by omega) ?_
          refine lv_istore (lv' := [(4, .int (nI ((nt.getD (upP nt (dpP nt pr pr + 1 - (i + 1)) pr) 0) % 4))), (5, .int (nI i)), (3, .int (nI (upP nt (dpP nt pr pr + 1 - (i + 1)) pr))), (2, .int (nI (dpP nt pr pr + 1))), (1, .ref wo), (0, .ref po)]) hx hb (pc := 49) dX5_tellWord_49 hl (by decide) rfl (fun ls hl => ?_)
          refine lv_aload_n hx hb (pc := 51) dX5_tellWord_51 rfl (lv_at hl 5 rfl) ?_
          refine va_get (v := .ref mo) hx hb hts (inX5_tellWord_5) hown hKK.1 (rr_ro (A := A) hG hGA hS) 0 rfl rfl 0 (by decide) (hts _ (List.mem_of_getElem? (i := 3) (by decide +kernel))) (fun _ h9 => h9) rfl (pc := 52) dX5_tellWord_52 ?_
          refine lv_iload_n hx hb (pc := 55) dX5_tellWord_55 rfl (lv_at hl 2 rfl) ?_
          refine rr_callP (rv := .int (nI (no (upP nt (dpP nt pr pr + 1 - (i + 1)) pr)))) (pc := 56) (va_runV (As := [.int (nI (upP nt (dpP nt pr pr + 1 - (i + 1)) pr))]) (rest := []) ⟨hx, hb, hml, hown, hts⟩ (c_X3_noteAt l K mo mk mn ms b cap ks no sl (kn.map nI) nt (upP nt (dpP nt pr pr + 1 - (i + 1)) pr) hM (by omega)) (cwV 1 hts gX5_tellWord_X3_noteAt rfl rfl rfl (by decide +kernel) ⟨Nat.le_of_ble_eq_true rfl, Nat.le_of_ble_eq_true rfl⟩) (rr_preV hKK (rr_right (rr_ro (A := A) hG hGA hS)) (va_recv hKK.1 (rr_ro (A := A) hG hGA hS) (ci := 3) (q0 := 1) rfl rfl)) rfl rfl hl.1 rfl (lv_room (Nat.le_of_ble_eq_true rfl)) dX5_tellWord_56 ⟨Nat.le_refl _, Nat.le_refl _⟩) ?_
          refine rr_top (v := .int (nI (nt.getD (upP nt (dpP nt pr pr + 1 - (i + 1)) pr) 0))) (by rw [no_map hM (by omega)]) ?_
          refine lv_iconst (v := nI 4) hx hb (pc := 59) dX5_tellWord_59 (by decide) ?_
          refine nv_idiv (a := (nt.getD (upP nt (dpP nt pr pr + 1 - (i + 1)) pr) 0)) (b := 4) hx hb (pc := 60) dX5_tellWord_60 (hn32 _ (by omega)) (by omega) (by omega) ?_
          refine lv_istore_n (lv' := [(3, .int (nI ((nt.getD (upP nt (dpP nt pr pr + 1 - (i + 1)) pr) 0) / 4))), (4, .int (nI ((nt.getD (upP nt (dpP nt pr pr + 1 - (i + 1)) pr) 0) % 4))), (5, .int (nI i)), (2, .int (nI (dpP nt pr pr + 1))), (1, .ref wo), (0, .ref po)]) hx hb (pc := 61) dX5_tellWord_61 rfl hl (by decide) rfl (fun ls hl => ?_)
          refine lv_iinc (v := dI i) (lv' := [(5, .int (dI i)), (3, .int (nI ((nt.getD (upP nt (dpP nt pr pr + 1 - (i + 1)) pr) 0) / 4))), (4, .int (nI ((nt.getD (upP nt (dpP nt pr pr + 1 - (i + 1)) pr) 0) % 4))), (2, .int (nI (dpP nt pr pr + 1))), (1, .ref wo), (0, .ref po)]) hx hb (pc := 62) dX5_tellWord_62 hl (k := 2) rfl (rr_decr i) (by decide) rfl (fun ls hl => ?_)
          refine lv_goto (tgt := 21) hx hb (pc := 65) dX5_tellWord_65 (by decide) ?_
          have hl : lv_has ls 6 [(5, .int (dI i)), (3, .int (nI (upP nt (dpP nt pr pr + 1 - i) pr))), (4, .int (nI ((nt.getD (upP nt (dpP nt pr pr + 1 - (i + 1)) pr) 0) % 4))), (2, .int (nI (dpP nt pr pr + 1))), (1, .ref wo), (0, .ref po)] := by rw [show upP nt (dpP nt pr pr + 1 - i) pr = (nt.getD (upP nt (dpP nt pr pr + 1 - (i + 1)) pr) 0) / 4 from by rw [show dpP nt pr pr + 1 - i = dpP nt pr pr + 1 - (i + 1) + 1 by omega, upP_succ]]; exact hl
          exact ih21 i ((nt.getD (upP nt (dpP nt pr pr + 1 - (i + 1)) pr) 0) % 4) _ _ hP hD hS (by omega) (by omega) (fun h9 => by unfold wdP; rw [if_neg (by omega), show dpP nt pr pr - 1 - (i - 1) = dpP nt pr pr + 1 - (i + 1) by omega]) ls (lv_sub hl [5, 4, 3, 1, 2, 0] rfl)
        · refine lv_aload_n hx hb (pc := 33) dX5_tellWord_33 rfl (lv_at hl 4 rfl) ?_
          refine lv_iload hx hb (pc := 34) dX5_tellWord_34 (lv_at hl 0 rfl) ?_
          refine lv_iload hx hb (pc := 36) dX5_tellWord_36 (lv_at hl 1 rfl) ?_
          refine nv_iast (f := (wdW nt pr l9 (i + 1) WD)) (x := lt) (ws' := RA K wo 30 (va_up (wdW nt pr l9 (i + 1) WD) i lt)) (i := i) hx hb hKK hP hD hS 0 rfl (by omega) (by decide) (rfl) (pc := 38) dX5_tellWord_38 (fun H locs hP hD hS => ?_)
          rw [hlt9, wdW_put nt pr l9 WD (by omega) c30] at hP hD
          refine lv_aload_n hx hb (pc := 39) dX5_tellWord_39 rfl (lv_at hl 5 rfl) ?_
          refine va_get (v := .ref mo) hx hb hts (inX5_tellWord_5) hown hKK.1 (rr_ro (A := A) hG hGA hS) 0 rfl rfl 0 (by decide) (hts _ (List.mem_of_getElem? (i := 3) (by decide +kernel))) (fun _ h9 => h9) rfl (pc := 40) dX5_tellWord_40 ?_
          refine lv_iload_n hx hb (pc := 43) dX5_tellWord_43 rfl (lv_at hl 2 rfl) ?_
          refine rr_callP (rv := .int (nI (no (upP nt (dpP nt pr pr + 1 - (i + 1)) pr)))) (pc := 44) (va_runV (As := [.int (nI (upP nt (dpP nt pr pr + 1 - (i + 1)) pr))]) (rest := []) ⟨hx, hb, hml, hown, hts⟩ (c_X3_noteAt l K mo mk mn ms b cap ks no sl (kn.map nI) nt (upP nt (dpP nt pr pr + 1 - (i + 1)) pr) hM (by omega)) (cwV 1 hts gX5_tellWord_X3_noteAt rfl rfl rfl (by decide +kernel) ⟨Nat.le_of_ble_eq_true rfl, Nat.le_of_ble_eq_true rfl⟩) (rr_preV hKK (rr_right (rr_ro (A := A) hG hGA hS)) (va_recv hKK.1 (rr_ro (A := A) hG hGA hS) (ci := 3) (q0 := 1) rfl rfl)) rfl rfl hl.1 rfl (lv_room (Nat.le_of_ble_eq_true rfl)) dX5_tellWord_44 ⟨Nat.le_refl _, Nat.le_refl _⟩) ?_
          refine rr_top (v := .int (nI (nt.getD (upP nt (dpP nt pr pr + 1 - (i + 1)) pr) 0))) (by rw [no_map hM (by omega)]) ?_
          refine lv_iconst (v := nI 4) hx hb (pc := 47) dX5_tellWord_47 (by decide) ?_
          refine nv_irem (a := (nt.getD (upP nt (dpP nt pr pr + 1 - (i + 1)) pr) 0)) (b := 4) hx hb (pc := 48) dX5_tellWord_48 (hn32 _ (by omega)) (by omega) (by omega) ?_
          refine lv_istore (lv' := [(4, .int (nI ((nt.getD (upP nt (dpP nt pr pr + 1 - (i + 1)) pr) 0) % 4))), (5, .int (nI i)), (3, .int (nI (upP nt (dpP nt pr pr + 1 - (i + 1)) pr))), (2, .int (nI (dpP nt pr pr + 1))), (1, .ref wo), (0, .ref po)]) hx hb (pc := 49) dX5_tellWord_49 hl (by decide) rfl (fun ls hl => ?_)
          refine lv_aload_n hx hb (pc := 51) dX5_tellWord_51 rfl (lv_at hl 5 rfl) ?_
          refine va_get (v := .ref mo) hx hb hts (inX5_tellWord_5) hown hKK.1 (rr_ro (A := A) hG hGA hS) 0 rfl rfl 0 (by decide) (hts _ (List.mem_of_getElem? (i := 3) (by decide +kernel))) (fun _ h9 => h9) rfl (pc := 52) dX5_tellWord_52 ?_
          refine lv_iload_n hx hb (pc := 55) dX5_tellWord_55 rfl (lv_at hl 2 rfl) ?_
          refine rr_callP (rv := .int (nI (no (upP nt (dpP nt pr pr + 1 - (i + 1)) pr)))) (pc := 56) (va_runV (As := [.int (nI (upP nt (dpP nt pr pr + 1 - (i + 1)) pr))]) (rest := []) ⟨hx, hb, hml, hown, hts⟩ (c_X3_noteAt l K mo mk mn ms b cap ks no sl (kn.map nI) nt (upP nt (dpP nt pr pr + 1 - (i + 1)) pr) hM (by omega)) (cwV 1 hts gX5_tellWord_X3_noteAt rfl rfl rfl (by decide +kernel) ⟨Nat.le_of_ble_eq_true rfl, Nat.le_of_ble_eq_true rfl⟩) (rr_preV hKK (rr_right (rr_ro (A := A) hG hGA hS)) (va_recv hKK.1 (rr_ro (A := A) hG hGA hS) (ci := 3) (q0 := 1) rfl rfl)) rfl rfl hl.1 rfl (lv_room (Nat.le_of_ble_eq_true rfl)) dX5_tellWord_56 ⟨Nat.le_refl _, Nat.le_refl _⟩) ?_
          refine rr_top (v := .int (nI (nt.getD (upP nt (dpP nt pr pr + 1 - (i + 1)) pr) 0))) (by rw [no_map hM (by omega)]) ?_
          refine lv_iconst (v := nI 4) hx hb (pc := 59) dX5_tellWord_59 (by decide) ?_
          refine nv_idiv (a := (nt.getD (upP nt (dpP nt pr pr + 1 - (i + 1)) pr) 0)) (b := 4) hx hb (pc := 60) dX5_tellWord_60 (hn32 _ (by omega)) (by omega) (by omega) ?_
          refine lv_istore_n (lv' := [(3, .int (nI ((nt.getD (upP nt (dpP nt pr pr + 1 - (i + 1)) pr) 0) / 4))), (4, .int (nI ((nt.getD (upP nt (dpP nt pr pr + 1 - (i + 1)) pr) 0) % 4))), (5, .int (nI i)), (2, .int (nI (dpP nt pr pr + 1))), (1, .ref wo), (0, .ref po)]) hx hb (pc := 61) dX5_tellWord_61 rfl hl (by decide) rfl (fun ls hl => ?_)
          refine lv_iinc (v := dI i) (lv' := [(5, .int (dI i)), (3, .int (nI ((nt.getD (upP nt (dpP nt pr pr + 1 - (i + 1)) pr) 0) / 4))), (4, .int (nI ((nt.getD (upP nt (dpP nt pr pr + 1 - (i + 1)) pr) 0) % 4))), (2, .int (nI (dpP nt pr pr + 1))), (1, .ref wo), (0, .ref po)]) hx hb (pc := 62) dX5_tellWord_62 hl (k := 2) rfl (rr_decr i) (by decide) rfl (fun ls hl => ?_)
          refine lv_goto (tgt := 21) hx hb (pc := 65) dX5_tellWord_65 (by decide) ?_
          have hl : lv_has ls 6 [(5, .int (dI i)), (3, .int (nI (upP nt (dpP nt pr pr + 1 - i) pr))), (4, .int (nI ((nt.getD (upP nt (dpP nt pr pr + 1 - (i + 1)) pr) 0) % 4))), (2, .int (nI (dpP nt pr pr + 1))), (1, .ref wo), (0, .ref po)] := by rw [show upP nt (dpP nt pr pr + 1 - i) pr = (nt.getD (upP nt (dpP nt pr pr + 1 - (i + 1)) pr) 0) / 4 from by rw [show dpP nt pr pr + 1 - i = dpP nt pr pr + 1 - (i + 1) + 1 by omega, upP_succ]]; exact hl
          exact ih21 i ((nt.getD (upP nt (dpP nt pr pr + 1 - (i + 1)) pr) 0) % 4) _ _ hP hD hS (by omega) (by omega) (fun h9 => by unfold wdP; rw [if_neg (by omega), show dpP nt pr pr - 1 - (i - 1) = dpP nt pr pr + 1 - (i + 1) by omega]) ls (lv_sub hl [5, 4, 3, 1, 2, 0] rfl)
  rw [← wdW_top nt pr l9 WD] at hP hD
  have hl : lv_has ls 6 [(5, .int (dI (dpP nt pr pr + 1))), (4, .int (nI l9)), (3, .int (nI (upP nt (dpP nt pr pr + 1 - (dpP nt pr pr + 1)) pr))), (2, .int (nI (dpP nt pr pr + 1))), (0, .ref po), (1, .ref wo)] := by rw [show upP nt (dpP nt pr pr + 1 - (dpP nt pr pr + 1)) pr = pr from by rw [Nat.sub_self]; rfl]; exact hl
  exact L21 (dpP nt pr pr + 2) (dpP nt pr pr + 1) l9 _ _ hP hD hS (by omega) (by omega) (fun _ => by unfold wdP; rw [if_pos (by omega)]) ls (lv_sub hl [4, 5, 3, 2, 1, 0] rfl)

set_option maxHeartbeats 4000000 in
set_option maxRecDepth 100000 in
theorem c_X5_tellWord0 (l : Launch) (K : rr_K) (A : Nat → Prop) (po mo mk mn ms b cap : Nat) (ks : Nat → Int32) (no sl : Nat → Nat) (kn nt : List Nat) (wo : Nat) (ll : Int32) (WD : Nat → Nat) (hD : va_D A (RA K wo 30 WD)) (hGA : ∀ (k_ : Nat) (q_ : Nat × va_E), (PT1 K po mo (-1) ll ++ MW3 K mo mk mn ms ((kn.map nI).length) b cap ks no sl)[k_]? = some q_ → ¬ A q_.1) : MetR l K yX5_tellWord wsX5_tellWord rmX5_tellWord [.ref po, .ref wo] (fun H => va_P K.1 vwCl (RA K wo 30 WD) H ∧ va_P K.1 vwCl (PT1 K po mo (-1) ll ++ MW3 K mo mk mn ms ((kn.map nI).length) b cap ks no sl) H) A (fun v H => v = .int (nI 0) ∧ va_P K.1 vwCl (RA K wo 30 WD) H) 0 0 := by
  refine metR_of (cc := cX5_tellWord) (maxL := 6) (ret := (some .int)) (rt := .int) (by decide) rfl rfl rfl rfl (Nat.le_of_ble_eq_true rfl) ?_
  intro p e s m args below meth c Q ls hEnt hKK hX hret hl
  obtain ⟨hx, hb, hml, hown, hts⟩ := hEnt
  obtain ⟨hP, hG⟩ := hX
  have hP : va_P K.1 vwCl (RA K wo 30 WD) s.heap := hP
  have hG : va_P K.1 vwCl (PT1 K po mo (-1) ll ++ MW3 K mo mk mn ms ((kn.map nI).length) b cap ks no sl) s.heap := hG
  have hl : lv_has ls 6 [(0, .ref po), (1, .ref wo)] := hl
  have hS : va_S A s.heap s.heap [] := va_S.rf
  refine lv_aload_n hx hb (pc := 0) dX5_tellWord_0 rfl (lv_at hl 0 rfl) ?_
  refine rr_callP (rv := .int (nI 0)) (pc := 1) (va_runV (As := []) (rest := []) ⟨hx, hb, hml, hown, hts⟩ (c_X5_length0 l K po mo mk mn ms b cap ks no sl kn nt ll) (cwV 0 hts gX5_tellWord_X5_length rfl rfl rfl (by decide +kernel) ⟨Nat.le_of_ble_eq_true rfl, Nat.le_of_ble_eq_true rfl⟩) (rr_preV hKK (rr_ro (A := A) hG hGA hS) (va_recv hKK.1 (rr_ro (A := A) hG hGA hS) (ci := 5) (q0 := 0) rfl rfl)) rfl rfl hl.1 rfl (lv_room (Nat.le_of_ble_eq_true rfl)) dX5_tellWord_1 ⟨Nat.le_refl _, Nat.le_refl _⟩) ?_
  refine lv_istore_n (lv' := [(2, .int (nI 0)), (0, .ref po), (1, .ref wo)]) hx hb (pc := 4) dX5_tellWord_4 rfl hl (by decide) rfl (fun ls hl => ?_)
  refine lv_aload_n hx hb (pc := 5) dX5_tellWord_5 rfl (lv_at hl 1 rfl) ?_
  refine va_get (v := .int (-1)) hx hb hts (inX5_tellWord_5) hown hKK.1 (rr_ro (A := A) hG hGA hS) 0 rfl rfl 1 (by decide) (hts _ (List.mem_of_getElem? (i := 1) (by decide +kernel))) (fun _ h9 => h9) rfl (pc := 6) dX5_tellWord_6 ?_
  refine lv_istore_n (lv' := [(3, .int (-1)), (2, .int (nI 0)), (0, .ref po), (1, .ref wo)]) hx hb (pc := 9) dX5_tellWord_9 rfl hl (by decide) rfl (fun ls hl => ?_)
  refine lv_aload_n hx hb (pc := 10) dX5_tellWord_10 rfl (lv_at hl 2 rfl) ?_
  refine va_get (v := .int ll) hx hb hts (inX5_tellWord_5) hown hKK.1 (rr_ro (A := A) hG hGA hS) 0 rfl rfl 2 (by decide) (hts _ (List.mem_of_getElem? (i := 2) (by decide +kernel))) (fun _ h9 => h9) rfl (pc := 11) dX5_tellWord_11 ?_
  refine lv_istore (lv' := [(4, .int ll), (3, .int (-1)), (2, .int (nI 0)), (0, .ref po), (1, .ref wo)]) hx hb (pc := 14) dX5_tellWord_14 hl (by decide) rfl (fun ls hl => ?_)
  refine lv_iload_n hx hb (pc := 16) dX5_tellWord_16 rfl (lv_at hl 2 rfl) ?_
  refine lv_iconst (v := nI 1) hx hb (pc := 17) dX5_tellWord_17 (by decide) ?_
  refine lv_isub hx hb (pc := 18) dX5_tellWord_18 ?_
  refine lv_istore (lv' := [(5, .int ((nI 0) - (nI 1))), (4, .int ll), (3, .int (-1)), (2, .int (nI 0)), (0, .ref po), (1, .ref wo)]) hx hb (pc := 19) dX5_tellWord_19 hl (by decide) rfl (fun ls hl => ?_)
  refine lv_iload hx hb (pc := 21) dX5_tellWord_21 (lv_at hl 0 rfl) ?_
  refine lv_if_lt (tgt := 68) hx hb (pc := 23) dX5_tellWord_23 (by decide) (fun c23 => ?_) (fun c23 => absurd c23 (fun q => q (by decide)))
  refine lv_iload_n hx hb (pc := 68) dX5_tellWord_68 rfl (lv_at hl 3 rfl) ?_
  refine lv_aload_n hx hb (pc := 69) dX5_tellWord_69 rfl (lv_at hl 5 rfl) ?_
  refine va_alen (v := nI 30) hx hb hKK.1 hP 0 0 rfl rfl rfl (pc := 70) dX5_tellWord_70 ?_
  refine va_mmin hx hb (hml.trans hl.1.symm) hown (hts _ (List.mem_of_getElem? (i := 4) (by decide +kernel))) (hts _ (List.mem_of_getElem? (i := 5) (by decide +kernel))) (hts _ (List.mem_of_getElem? (i := 6) (by decide +kernel))) (hts _ (List.mem_of_getElem? (i := 7) (by decide +kernel))) (Nat.le_of_ble_eq_true rfl) (Nat.le_of_ble_eq_true rfl) (Nat.le_refl _) (Nat.le_refl _) (pc := 71) dX5_tellWord_71 ?_
  refine rr_top (v := .int (nI 0)) (by rw [rr_min _ _ (by decide) (by decide)]; rfl) ?_
  exact hret.1 _ _ 0 0 74 _ (nI 0) dX5_tellWord_74 (by omega) (by omega) hS (⟨rfl, hP⟩) (rfl)

