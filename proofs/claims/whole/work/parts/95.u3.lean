section
/-! the model between two calls, whatever its boards hold -/
def MI (K : rr_K) (A : Nat → Prop) (om : Nat) (ns wl nf wd : Nat) (kF nF yF WD FL FW TD : Nat → Nat) (H : Heap) : Prop := ∃ (ad : Nat → Nat) (mt : Nat) (RW pl nw xt vF wF qF bY gF : Nat → Nat) (nm xm : Nat → Int64) (fR oF hF dF : Nat → Int32), va_P K.1 vwCl (XM K om ad ns wl nf wd mt kF nF yF WD FL FW TD RW pl nw xt vF wF qF bY gF nm xm fR oF hF dF) H ∧ va_D A (XM K om ad ns wl nf wd mt kF nF yF WD FL FW TD RW pl nw xt vF wF qF bY gF nm xm fR oF hF dF) ∧ ∀ j, j < 65536 → pl j = 0
theorem XM_D {K : rr_K} {A : Nat → Prop} {om : Nat} {ad : Nat → Nat} {ns wl nf wd mt : Nat} {kF nF yF WD FL FW TD RW pl nw xt vF wF qF bY gF : Nat → Nat} {nm xm : Nat → Int64} {fR oF hF dF : Nat → Int32} (h : va_D A (XM K om ad ns wl nf wd mt kF nF yF WD FL FW TD RW pl nw xt vF wF qF bY gF nm xm fR oF hF dF)) (ns' wl' nf' wd' mt' : Nat) (kF' nF' yF' WD' FL' FW' TD' RW' pl' nw' xt' vF' wF' qF' bY' gF' : Nat → Nat) (nm' xm' : Nat → Int64) (fR' oF' hF' dF' : Nat → Int32) : va_D A (XM K om ad ns' wl' nf' wd' mt' kF' nF' yF' WD' FL' FW' TD' RW' pl' nw' xt' vF' wF' qF' bY' gF' nm' xm' fR' oF' hF' dF') := rr_D h rfl
theorem MI_mk {K : rr_K} {A : Nat → Prop} {om : Nat} {ad : Nat → Nat} {ns wl nf wd mt : Nat} {kF nF yF WD FL FW TD RW pl nw xt vF wF qF bY gF : Nat → Nat} {nm xm : Nat → Int64} {fR oF hF dF : Nat → Int32} {ns' wl' nf' wd' mt' : Nat} {kF' nF' yF' WD' FL' FW' TD' RW' pl' nw' xt' vF' wF' qF' bY' gF' : Nat → Nat} {nm' xm' : Nat → Int64} {fR' oF' hF' dF' : Nat → Int32} {H : Heap} (hD : va_D A (XM K om ad ns wl nf wd mt kF nF yF WD FL FW TD RW pl nw xt vF wF qF bY gF nm xm fR oF hF dF)) (hP : va_P K.1 vwCl (XM K om ad ns' wl' nf' wd' mt' kF' nF' yF' WD' FL' FW' TD' RW' pl' nw' xt' vF' wF' qF' bY' gF' nm' xm' fR' oF' hF' dF') H) (hpl : ∀ j, j < 65536 → pl' j = 0) : MI K A om ns' wl' nf' wd' kF' nF' yF' WD' FL' FW' TD' H := ⟨ad, mt', RW', pl', nw', xt', vF', wF', qF', bY', gF', nm', xm', fR', oF', hF', dF', hP, XM_D hD _ _ _ _ _ _ _ _ _ _ _ _ _ _ _ _ _ _ _ _ _ _ _ _ _ _ _, hpl⟩
end
section
theorem u_X10_set (l : Launch) (K : rr_K) (A : Nat → Prop) {om : Nat} {ns wl nf wd : Nat} {kF nF yF WD FL FW TD : Nat → Nat} (x : Int32) (y : Int32) (hN : NI ns wl nf wd kF nF yF WD FL FW TD) {H0 : Heap} (hC : MI K A om ns wl nf wd kF nF yF WD FL FW TD H0) : MetR l K yX10_set wsX10_set rmX10_set [.ref om, .int x, .int y] (fun H => H = H0) A (fun v H => v = .int (setA ns x y) ∧ MI K A om (cond (setOK ns x y) (ns + 1) ns) wl nf wd (cond (setOK ns x y) (va_up kF ns (cN x)) kF) (cond (setOK ns x y) (va_up nF ns (cN y)) nF) (cond (setOK ns x y) (zrF yF (64 * ns) 64) yF) WD FL FW TD H) 0 0 := by
  obtain ⟨ad, mt, RW, pl, nw, xt, vF, wF, qF, bY, gF, nm, xm, fR, oF, hF, dF, hP, hD, hpl⟩ := hC
  have hS9 := hN.1; have hW9 := hN.2.1; have hF9 := hN.2.2.1; have hw1 := hN.2.2.2.1; have hw := hN.2.2.2.2.1; have hTD := hN.2.2.2.2.2
  have hwl := hW9.1; have hnf := hF9.1; have hns := hS9.1
  refine Met_or (fun a s h => ?_)
  obtain ⟨ha, hKK, rfl⟩ := h
  exact ⟨_, _, _, c_X10_set l K A om ad ns wl nf wd mt kF nF yF WD FL FW TD RW pl nw xt vF wF qF bY gF nm xm fR oF hF dF x y hns hD, ⟨ha, hKK, hP⟩, GQ_mono (fun _ h => h) (fun v H1 hY hF => by
    obtain ⟨hv, hP1⟩ := hY
    exact ⟨hv, MI_mk hD hP1 hpl⟩), fun _ h => h⟩
theorem u_X10_way (l : Launch) (K : rr_K) (A : Nat → Prop) {om : Nat} {ns wl nf wd : Nat} {kF nF yF WD FL FW TD : Nat → Nat} (x : Int32) (f : Int32) (y : Int32) (t : Int32) (hN : NI ns wl nf wd kF nF yF WD FL FW TD) {H0 : Heap} (hC : MI K A om ns wl nf wd kF nF yF WD FL FW TD H0) : MetR l K yX10_way wsX10_way rmX10_way [.ref om, .int x, .int f, .int y, .int t] (fun H => H = H0) A (fun v H => v = .int (wayA ns kF nF yF x f y t) ∧ MI K A om ns wl nf wd kF nF (cond (wayOK ns kF nF yF x f y t) (tglW yF x f y t) yF) WD FL FW TD H) 0 0 := by
  obtain ⟨ad, mt, RW, pl, nw, xt, vF, wF, qF, bY, gF, nm, xm, fR, oF, hF, dF, hP, hD, hpl⟩ := hC
  have hS9 := hN.1; have hW9 := hN.2.1; have hF9 := hN.2.2.1; have hw1 := hN.2.2.2.1; have hw := hN.2.2.2.2.1; have hTD := hN.2.2.2.2.2
  have hwl := hW9.1; have hnf := hF9.1; have hns := hS9.1
  refine Met_or (fun a s h => ?_)
  obtain ⟨ha, hKK, rfl⟩ := h
  exact ⟨_, _, _, c_X10_way l K A om ad ns wl nf wd mt kF nF yF WD FL FW TD RW pl nw xt vF wF qF bY gF nm xm fR oF hF dF x f y t hS9 hD, ⟨ha, hKK, hP⟩, GQ_mono (fun _ h => h) (fun v H1 hY hF => by
    obtain ⟨hv, hP1⟩ := hY
    exact ⟨hv, MI_mk hD hP1 hpl⟩), fun _ h => h⟩
theorem u_X10_unway (l : Launch) (K : rr_K) (A : Nat → Prop) {om : Nat} {ns wl nf wd : Nat} {kF nF yF WD FL FW TD : Nat → Nat} (x : Int32) (f : Int32) (y : Int32) (t : Int32) (hN : NI ns wl nf wd kF nF yF WD FL FW TD) {H0 : Heap} (hC : MI K A om ns wl nf wd kF nF yF WD FL FW TD H0) : MetR l K yX10_unway wsX10_unway rmX10_unway [.ref om, .int x, .int f, .int y, .int t] (fun H => H = H0) A (fun v H => v = .int (unwA ns kF nF yF x f y t) ∧ MI K A om ns wl nf wd kF nF (cond (unwOK ns kF nF yF x f y t) (tglW yF x f y t) yF) WD FL FW TD H) 0 0 := by
  obtain ⟨ad, mt, RW, pl, nw, xt, vF, wF, qF, bY, gF, nm, xm, fR, oF, hF, dF, hP, hD, hpl⟩ := hC
  have hS9 := hN.1; have hW9 := hN.2.1; have hF9 := hN.2.2.1; have hw1 := hN.2.2.2.1; have hw := hN.2.2.2.2.1; have hTD := hN.2.2.2.2.2
  have hwl := hW9.1; have hnf := hF9.1; have hns := hS9.1
  refine Met_or (fun a s h => ?_)
  obtain ⟨ha, hKK, rfl⟩ := h
  exact ⟨_, _, _, c_X10_unway l K A om ad ns wl nf wd mt kF nF yF WD FL FW TD RW pl nw xt vF wF qF bY gF nm xm fR oF hF dF x f y t hS9 hD, ⟨ha, hKK, hP⟩, GQ_mono (fun _ h => h) (fun v H1 hY hF => by
    obtain ⟨hv, hP1⟩ := hY
    exact ⟨hv, MI_mk hD hP1 hpl⟩), fun _ h => h⟩
theorem u_X10_empty (l : Launch) (K : rr_K) (A : Nat → Prop) {om : Nat} {ns wl nf wd : Nat} {kF nF yF WD FL FW TD : Nat → Nat} (hN : NI ns wl nf wd kF nF yF WD FL FW TD) {H0 : Heap} (hC : MI K A om ns wl nf wd kF nF yF WD FL FW TD H0) : MetR l K yX10_empty wsX10_empty rmX10_empty [.ref om] (fun H => H = H0) A (fun v H => v = .int (nI wl) ∧ MI K A om ns 0 nf wd kF nF yF WD FL FW TD H) 0 0 := by
  obtain ⟨ad, mt, RW, pl, nw, xt, vF, wF, qF, bY, gF, nm, xm, fR, oF, hF, dF, hP, hD, hpl⟩ := hC
  have hS9 := hN.1; have hW9 := hN.2.1; have hF9 := hN.2.2.1; have hw1 := hN.2.2.2.1; have hw := hN.2.2.2.2.1; have hTD := hN.2.2.2.2.2
  have hwl := hW9.1; have hnf := hF9.1; have hns := hS9.1
  refine Met_or (fun a s h => ?_)
  obtain ⟨ha, hKK, rfl⟩ := h
  exact ⟨_, _, _, c_X10_empty l K A om ad ns wl nf wd mt kF nF yF WD FL FW TD RW pl nw xt vF wF qF bY gF nm xm fR oF hF dF hD, ⟨ha, hKK, hP⟩, GQ_mono (fun _ h => h) (fun v H1 hY hF => by
    obtain ⟨hv, hP1⟩ := hY
    exact ⟨hv, MI_mk hD hP1 hpl⟩), fun _ h => h⟩
theorem u_X10_letter (l : Launch) (K : rr_K) (A : Nat → Prop) {om : Nat} {ns wl nf wd : Nat} {kF nF yF WD FL FW TD : Nat → Nat} (x : Int32) (hN : NI ns wl nf wd kF nF yF WD FL FW TD) {H0 : Heap} (hC : MI K A om ns wl nf wd kF nF yF WD FL FW TD H0) : MetR l K yX10_letter wsX10_letter rmX10_letter [.ref om, .int x] (fun H => H = H0) A (fun v H => v = .int (letA wl x) ∧ MI K A om ns (cond (letOK wl x) (wl + 1) wl) nf wd kF nF yF (cond (letOK wl x) (va_up WD wl (cN x)) WD) FL FW TD H) 0 0 := by
  obtain ⟨ad, mt, RW, pl, nw, xt, vF, wF, qF, bY, gF, nm, xm, fR, oF, hF, dF, hP, hD, hpl⟩ := hC
  have hS9 := hN.1; have hW9 := hN.2.1; have hF9 := hN.2.2.1; have hw1 := hN.2.2.2.1; have hw := hN.2.2.2.2.1; have hTD := hN.2.2.2.2.2
  have hwl := hW9.1; have hnf := hF9.1; have hns := hS9.1
  refine Met_or (fun a s h => ?_)
  obtain ⟨ha, hKK, rfl⟩ := h
  exact ⟨_, _, _, c_X10_letter l K A om ad ns wl nf wd mt kF nF yF WD FL FW TD RW pl nw xt vF wF qF bY gF nm xm fR oF hF dF x hwl hD, ⟨ha, hKK, hP⟩, GQ_mono (fun _ h => h) (fun v H1 hY hF => by
    obtain ⟨hv, hP1⟩ := hY
    exact ⟨hv, MI_mk hD hP1 hpl⟩), fun _ h => h⟩
theorem u_X10_letterAt (l : Launch) (K : rr_K) (A : Nat → Prop) {om : Nat} {ns wl nf wd : Nat} {kF nF yF WD FL FW TD : Nat → Nat} (x : Int32) (hN : NI ns wl nf wd kF nF yF WD FL FW TD) {H0 : Heap} (hC : MI K A om ns wl nf wd kF nF yF WD FL FW TD H0) : MetR l K yX10_letterAt wsX10_letterAt rmX10_letterAt [.ref om, .int x] (fun H => H = H0) A (fun v H => v = .int (latA wl WD x) ∧ MI K A om ns wl nf wd kF nF yF WD FL FW TD H) 0 0 := by
  obtain ⟨ad, mt, RW, pl, nw, xt, vF, wF, qF, bY, gF, nm, xm, fR, oF, hF, dF, hP, hD, hpl⟩ := hC
  have hS9 := hN.1; have hW9 := hN.2.1; have hF9 := hN.2.2.1; have hw1 := hN.2.2.2.1; have hw := hN.2.2.2.2.1; have hTD := hN.2.2.2.2.2
  have hwl := hW9.1; have hnf := hF9.1; have hns := hS9.1
  refine Met_or (fun a s h => ?_)
  obtain ⟨ha, hKK, rfl⟩ := h
  exact ⟨_, _, _, c_X10_letterAt l K om ad ns wl nf wd mt kF nF yF WD FL FW TD RW pl nw xt vF wF qF bY gF nm xm fR oF hF dF x hwl, ⟨ha, hKK, hP⟩, PQ_GQ ⟨rfl, MI_mk hD hP hpl⟩, fun q h => h.elim⟩
theorem u_X10_forbid (l : Launch) (K : rr_K) (A : Nat → Prop) {om : Nat} {ns wl nf wd : Nat} {kF nF yF WD FL FW TD : Nat → Nat} (hN : NI ns wl nf wd kF nF yF WD FL FW TD) {H0 : Heap} (hC : MI K A om ns wl nf wd kF nF yF WD FL FW TD H0) : MetR l K yX10_forbid wsX10_forbid rmX10_forbid [.ref om] (fun H => H = H0) A (fun v H => v = .int (forA wl nf) ∧ MI K A om ns wl (cond (forOK wl nf) (nf + 1) nf) wd kF nF yF WD (cond (forOK wl nf) (va_up FL nf wl) FL) (cond (forOK wl nf) (putN FW WD (nf * 5) wl) FW) TD H) 0 0 := by
  obtain ⟨ad, mt, RW, pl, nw, xt, vF, wF, qF, bY, gF, nm, xm, fR, oF, hF, dF, hP, hD, hpl⟩ := hC
  have hS9 := hN.1; have hW9 := hN.2.1; have hF9 := hN.2.2.1; have hw1 := hN.2.2.2.1; have hw := hN.2.2.2.2.1; have hTD := hN.2.2.2.2.2
  have hwl := hW9.1; have hnf := hF9.1; have hns := hS9.1
  refine Met_or (fun a s h => ?_)
  obtain ⟨ha, hKK, rfl⟩ := h
  exact ⟨_, _, _, c_X10_forbid l K A om ad ns wl nf wd mt kF nF yF WD FL FW TD RW pl nw xt vF wF qF bY gF nm xm fR oF hF dF hnf hwl hD, ⟨ha, hKK, hP⟩, GQ_mono (fun _ h => h) (fun v H1 hY hF => by
    obtain ⟨hv, hP1⟩ := hY
    exact ⟨hv, MI_mk hD hP1 hpl⟩), fun _ h => h⟩
theorem u_X10_unforbid (l : Launch) (K : rr_K) (A : Nat → Prop) {om : Nat} {ns wl nf wd : Nat} {kF nF yF WD FL FW TD : Nat → Nat} (hN : NI ns wl nf wd kF nF yF WD FL FW TD) {H0 : Heap} (hC : MI K A om ns wl nf wd kF nF yF WD FL FW TD H0) : MetR l K yX10_unforbid wsX10_unforbid rmX10_unforbid [.ref om] (fun H => H = H0) A (fun v H => v = .int (nI nf) ∧ MI K A om ns wl 0 wd kF nF yF WD FL FW TD H) 0 0 := by
  obtain ⟨ad, mt, RW, pl, nw, xt, vF, wF, qF, bY, gF, nm, xm, fR, oF, hF, dF, hP, hD, hpl⟩ := hC
  have hS9 := hN.1; have hW9 := hN.2.1; have hF9 := hN.2.2.1; have hw1 := hN.2.2.2.1; have hw := hN.2.2.2.2.1; have hTD := hN.2.2.2.2.2
  have hwl := hW9.1; have hnf := hF9.1; have hns := hS9.1
  refine Met_or (fun a s h => ?_)
  obtain ⟨ha, hKK, rfl⟩ := h
  exact ⟨_, _, _, c_X10_unforbid l K A om ad ns wl nf wd mt kF nF yF WD FL FW TD RW pl nw xt vF wF qF bY gF nm xm fR oF hF dF hD, ⟨ha, hKK, hP⟩, GQ_mono (fun _ h => h) (fun v H1 hY hF => by
    obtain ⟨hv, hP1⟩ := hY
    exact ⟨hv, MI_mk hD hP1 hpl⟩), fun _ h => h⟩
theorem u_X10_byWords (l : Launch) (K : rr_K) (A : Nat → Prop) {om : Nat} {ns wl nf wd : Nat} {kF nF yF WD FL FW TD : Nat → Nat} (x : Int32) (hN : NI ns wl nf wd kF nF yF WD FL FW TD) {H0 : Heap} (hC : MI K A om ns wl nf wd kF nF yF WD FL FW TD H0) : MetR l K yX10_byWords wsX10_byWords rmX10_byWords [.ref om, .int x] (fun H => H = H0) A (fun v H => v = .int (bywA ns nf FL FW x) ∧ MI K A om (cond (bywOK ns nf FL FW x) (ns + 1) ns) wl nf wd (cond (bywOK ns nf FL FW x) (va_up kF ns (cN x)) kF) (cond (bywOK ns nf FL FW x) (va_up nF ns (bywN nf FL x)) nF) (cond (bywOK ns nf FL FW x) (stE yF (64 * ns) (bywE nf FL FW x)) yF) WD FL FW TD H) 0 0 := by
  obtain ⟨ad, mt, RW, pl, nw, xt, vF, wF, qF, bY, gF, nm, xm, fR, oF, hF, dF, hP, hD, hpl⟩ := hC
  have hS9 := hN.1; have hW9 := hN.2.1; have hF9 := hN.2.2.1; have hw1 := hN.2.2.2.1; have hw := hN.2.2.2.2.1; have hTD := hN.2.2.2.2.2
  have hwl := hW9.1; have hnf := hF9.1; have hns := hS9.1
  refine Met_or (fun a s h => ?_)
  obtain ⟨ha, hKK, rfl⟩ := h
  exact ⟨_, _, _, c_X10_byWords l K A om ad ns wl nf wd mt kF nF yF WD FL FW TD RW pl nw xt vF wF qF bY gF nm xm fR oF hF dF x hns hF9 hD, ⟨ha, hKK, hP⟩, GQ_mono (fun _ h => h) (fun v H1 hY hF => by
    obtain ⟨hv, RW', hP1⟩ := hY
    exact ⟨hv, MI_mk hD hP1 hpl⟩), fun _ h => h⟩
theorem u_X10_about (l : Launch) (K : rr_K) (A : Nat → Prop) {om : Nat} {ns wl nf wd : Nat} {kF nF yF WD FL FW TD : Nat → Nat} (x : Int32) (wh : Int32) (hN : NI ns wl nf wd kF nF yF WD FL FW TD) {H0 : Heap} (hC : MI K A om ns wl nf wd kF nF yF WD FL FW TD H0) : MetR l K yX10_about wsX10_about rmX10_about [.ref om, .int x, .int wh] (fun H => H = H0) A (fun v H => v = .int (abtA ns kF nF yF x wh) ∧ MI K A om ns wl nf wd kF nF yF WD FL FW TD H) 0 0 := by
  obtain ⟨ad, mt, RW, pl, nw, xt, vF, wF, qF, bY, gF, nm, xm, fR, oF, hF, dF, hP, hD, hpl⟩ := hC
  have hS9 := hN.1; have hW9 := hN.2.1; have hF9 := hN.2.2.1; have hw1 := hN.2.2.2.1; have hw := hN.2.2.2.2.1; have hTD := hN.2.2.2.2.2
  have hwl := hW9.1; have hnf := hF9.1; have hns := hS9.1
  refine Met_or (fun a s h => ?_)
  obtain ⟨ha, hKK, rfl⟩ := h
  exact ⟨_, _, _, c_X10_about l K om ad ns wl nf wd mt kF nF yF WD FL FW TD RW pl nw xt vF wF qF bY gF nm xm fR oF hF dF x wh hS9, ⟨ha, hKK, hP⟩, PQ_GQ ⟨rfl, MI_mk hD hP hpl⟩, fun q h => h.elim⟩
theorem u_X10_live (l : Launch) (K : rr_K) (A : Nat → Prop) {om : Nat} {ns wl nf wd : Nat} {kF nF yF WD FL FW TD : Nat → Nat} (x : Int32) (q : Int32) (hN : NI ns wl nf wd kF nF yF WD FL FW TD) {H0 : Heap} (hC : MI K A om ns wl nf wd kF nF yF WD FL FW TD H0) : MetR l K yX10_live wsX10_live rmX10_live [.ref om, .int x, .int q] (fun H => H = H0) A (fun v H => v = .int (livA ns kF nF yF x q) ∧ MI K A om ns wl nf wd kF nF yF WD FL FW TD H) 0 0 := by
  obtain ⟨ad, mt, RW, pl, nw, xt, vF, wF, qF, bY, gF, nm, xm, fR, oF, hF, dF, hP, hD, hpl⟩ := hC
  have hS9 := hN.1; have hW9 := hN.2.1; have hF9 := hN.2.2.1; have hw1 := hN.2.2.2.1; have hw := hN.2.2.2.2.1; have hTD := hN.2.2.2.2.2
  have hwl := hW9.1; have hnf := hF9.1; have hns := hS9.1
  refine Met_or (fun a s h => ?_)
  obtain ⟨ha, hKK, rfl⟩ := h
  exact ⟨_, _, _, c_X10_live l K om ad ns wl nf wd mt kF nF yF WD FL FW TD RW pl nw xt vF wF qF bY gF nm xm fR oF hF dF x q hS9, ⟨ha, hKK, hP⟩, PQ_GQ ⟨rfl, MI_mk hD hP hpl⟩, fun q h => h.elim⟩
theorem u_X10_may (l : Launch) (K : rr_K) (A : Nat → Prop) {om : Nat} {ns wl nf wd : Nat} {kF nF yF WD FL FW TD : Nat → Nat} (x : Int32) (hN : NI ns wl nf wd kF nF yF WD FL FW TD) {H0 : Heap} (hC : MI K A om ns wl nf wd kF nF yF WD FL FW TD H0) : MetR l K yX10_may wsX10_may rmX10_may [.ref om, .int x] (fun H => H = H0) A (fun v H => v = .int (mayA ns kF nF yF wl WD x) ∧ MI K A om ns wl nf wd kF nF yF WD FL FW TD H) 0 0 := by
  obtain ⟨ad, mt, RW, pl, nw, xt, vF, wF, qF, bY, gF, nm, xm, fR, oF, hF, dF, hP, hD, hpl⟩ := hC
  have hS9 := hN.1; have hW9 := hN.2.1; have hF9 := hN.2.2.1; have hw1 := hN.2.2.2.1; have hw := hN.2.2.2.2.1; have hTD := hN.2.2.2.2.2
  have hwl := hW9.1; have hnf := hF9.1; have hns := hS9.1
  refine Met_or (fun a s h => ?_)
  obtain ⟨ha, hKK, rfl⟩ := h
  exact ⟨_, _, _, c_X10_may l K om ad ns wl nf wd mt kF nF yF WD FL FW TD RW pl nw xt vF wF qF bY gF nm xm fR oF hF dF x hS9 hW9, ⟨ha, hKK, hP⟩, PQ_GQ ⟨rfl, MI_mk hD hP hpl⟩, fun q h => h.elim⟩
theorem u_X10_howMany (l : Launch) (K : rr_K) (A : Nat → Prop) {om : Nat} {ns wl nf wd : Nat} {kF nF yF WD FL FW TD : Nat → Nat} (x : Int32) (y : Int32) (hN : NI ns wl nf wd kF nF yF WD FL FW TD) {H0 : Heap} (hC : MI K A om ns wl nf wd kF nF yF WD FL FW TD H0) : MetR l K yX10_howMany wsX10_howMany rmX10_howMany [.ref om, .int x, .int y] (fun H => H = H0) A (fun v H => v = .long (hwmA ns kF nF yF x y) ∧ MI K A om ns wl nf wd kF nF yF WD FL FW TD H) 0 0 := by
  obtain ⟨ad, mt, RW, pl, nw, xt, vF, wF, qF, bY, gF, nm, xm, fR, oF, hF, dF, hP, hD, hpl⟩ := hC
  have hS9 := hN.1; have hW9 := hN.2.1; have hF9 := hN.2.2.1; have hw1 := hN.2.2.2.1; have hw := hN.2.2.2.2.1; have hTD := hN.2.2.2.2.2
  have hwl := hW9.1; have hnf := hF9.1; have hns := hS9.1
  refine Met_or (fun a s h => ?_)
  obtain ⟨ha, hKK, rfl⟩ := h
  exact ⟨_, _, _, c_X10_howMany l K A om ad ns wl nf wd mt kF nF yF WD FL FW TD RW pl nw xt vF wF qF bY gF nm xm fR oF hF dF x y hS9 hpl hD, ⟨ha, hKK, hP⟩, GQ_mono (fun _ h => h) (fun v H1 hY hF => by
    obtain ⟨hv, pl', nw', xt', nm', xm', hpl1, hP1⟩ := hY
    exact ⟨hv, MI_mk hD hP1 hpl1⟩), fun _ h => h⟩
theorem u_X10_loops (l : Launch) (K : rr_K) (A : Nat → Prop) {om : Nat} {ns wl nf wd : Nat} {kF nF yF WD FL FW TD : Nat → Nat} (x : Int32) (y : Int32) (hN : NI ns wl nf wd kF nF yF WD FL FW TD) {H0 : Heap} (hC : MI K A om ns wl nf wd kF nF yF WD FL FW TD H0) : MetR l K yX10_loops wsX10_loops rmX10_loops [.ref om, .int x, .int y] (fun H => H = H0) A (fun v H => v = .long (looA ns kF nF yF x y) ∧ MI K A om ns wl nf wd kF nF yF WD FL FW TD H) 0 0 := by
  obtain ⟨ad, mt, RW, pl, nw, xt, vF, wF, qF, bY, gF, nm, xm, fR, oF, hF, dF, hP, hD, hpl⟩ := hC
  have hS9 := hN.1; have hW9 := hN.2.1; have hF9 := hN.2.2.1; have hw1 := hN.2.2.2.1; have hw := hN.2.2.2.2.1; have hTD := hN.2.2.2.2.2
  have hwl := hW9.1; have hnf := hF9.1; have hns := hS9.1
  refine Met_or (fun a s h => ?_)
  obtain ⟨ha, hKK, rfl⟩ := h
  exact ⟨_, _, _, c_X10_loops l K A om ad ns wl nf wd mt kF nF yF WD FL FW TD RW pl nw xt vF wF qF bY gF nm xm fR oF hF dF x y hS9 hD, ⟨ha, hKK, hP⟩, GQ_mono (fun _ h => h) (fun v H1 hY hF => by
    obtain ⟨hv, vF', wF', hP1⟩ := hY
    exact ⟨hv, MI_mk hD hP1 hpl⟩), fun _ h => h⟩
theorem u_X10_rounds (l : Launch) (K : rr_K) (A : Nat → Prop) {om : Nat} {ns wl nf wd : Nat} {kF nF yF WD FL FW TD : Nat → Nat} (x : Int32) (y : Int32) (hN : NI ns wl nf wd kF nF yF WD FL FW TD) {H0 : Heap} (hC : MI K A om ns wl nf wd kF nF yF WD FL FW TD H0) : MetR l K yX10_rounds wsX10_rounds rmX10_rounds [.ref om, .int x, .int y] (fun H => H = H0) A (fun v H => v = .int (rndA ns kF nF yF x y) ∧ MI K A om ns wl nf wd kF nF yF WD FL FW TD H) 0 0 := by
  obtain ⟨ad, mt, RW, pl, nw, xt, vF, wF, qF, bY, gF, nm, xm, fR, oF, hF, dF, hP, hD, hpl⟩ := hC
  have hS9 := hN.1; have hW9 := hN.2.1; have hF9 := hN.2.2.1; have hw1 := hN.2.2.2.1; have hw := hN.2.2.2.2.1; have hTD := hN.2.2.2.2.2
  have hwl := hW9.1; have hnf := hF9.1; have hns := hS9.1
  refine Met_or (fun a s h => ?_)
  obtain ⟨ha, hKK, rfl⟩ := h
  exact ⟨_, _, _, c_X10_rounds l K om ad ns wl nf wd mt kF nF yF WD FL FW TD RW pl nw xt vF wF qF bY gF nm xm fR oF hF dF x y hS9, ⟨ha, hKK, hP⟩, PQ_GQ ⟨rfl, MI_mk hD hP hpl⟩, fun q h => h.elim⟩
theorem u_X10_growth (l : Launch) (K : rr_K) (A : Nat → Prop) {om : Nat} {ns wl nf wd : Nat} {kF nF yF WD FL FW TD : Nat → Nat} (x : Int32) (t : Int32) (wh : Int32) (hN : NI ns wl nf wd kF nF yF WD FL FW TD) {H0 : Heap} (hC : MI K A om ns wl nf wd kF nF yF WD FL FW TD H0) : MetR l K yX10_growth wsX10_growth rmX10_growth [.ref om, .int x, .int t, .int wh] (fun H => H = H0) A (fun v H => v = .long (groA ns kF nF yF x t wh) ∧ MI K A om ns wl nf wd kF nF yF WD FL FW TD H) 0 0 := by
  obtain ⟨ad, mt, RW, pl, nw, xt, vF, wF, qF, bY, gF, nm, xm, fR, oF, hF, dF, hP, hD, hpl⟩ := hC
  have hS9 := hN.1; have hW9 := hN.2.1; have hF9 := hN.2.2.1; have hw1 := hN.2.2.2.1; have hw := hN.2.2.2.2.1; have hTD := hN.2.2.2.2.2
  have hwl := hW9.1; have hnf := hF9.1; have hns := hS9.1
  refine Met_or (fun a s h => ?_)
  obtain ⟨ha, hKK, rfl⟩ := h
  exact ⟨_, _, _, c_X10_growth l K A om ad ns wl nf wd mt kF nF yF WD FL FW TD RW pl nw xt vF wF qF bY gF nm xm fR oF hF dF x t wh hS9 hD, ⟨ha, hKK, hP⟩, GQ_mono (fun _ h => h) (fun v H1 hY hF => by
    obtain ⟨hv, vF', wF', hP1⟩ := hY
    exact ⟨hv, MI_mk hD hP1 hpl⟩), fun _ h => h⟩
theorem u_X10_same (l : Launch) (K : rr_K) (A : Nat → Prop) {om : Nat} {ns wl nf wd : Nat} {kF nF yF WD FL FW TD : Nat → Nat} (x : Int32) (y : Int32) (hN : NI ns wl nf wd kF nF yF WD FL FW TD) {H0 : Heap} (hC : MI K A om ns wl nf wd kF nF yF WD FL FW TD H0) : MetR l K yX10_same wsX10_same rmX10_same [.ref om, .int x, .int y] (fun H => H = H0) A (fun v H => v = .int (samA ns kF nF yF x y) ∧ MI K A om ns (samL ns kF nF yF x y wl) nf wd kF nF yF (samW ns kF nF yF x y WD) FL FW TD H) 0 0 := by
  obtain ⟨ad, mt, RW, pl, nw, xt, vF, wF, qF, bY, gF, nm, xm, fR, oF, hF, dF, hP, hD, hpl⟩ := hC
  have hS9 := hN.1; have hW9 := hN.2.1; have hF9 := hN.2.2.1; have hw1 := hN.2.2.2.1; have hw := hN.2.2.2.2.1; have hTD := hN.2.2.2.2.2
  have hwl := hW9.1; have hnf := hF9.1; have hns := hS9.1
  refine Met_or (fun a s h => ?_)
  obtain ⟨ha, hKK, rfl⟩ := h
  exact ⟨_, _, _, c_X10_same l K A om ad ns wl nf wd mt kF nF yF WD FL FW TD RW pl nw xt vF wF qF bY gF nm xm fR oF hF dF x y hS9 hD, ⟨ha, hKK, hP⟩, GQ_mono (fun _ h => h) (fun v H1 hY hF => by
    obtain ⟨hv, mt', qF', fR', bY', oF', hF', hP1⟩ := hY
    exact ⟨hv, MI_mk hD hP1 hpl⟩), fun _ h => h⟩
theorem u_X10_part (l : Launch) (K : rr_K) (A : Nat → Prop) {om : Nat} {ns wl nf wd : Nat} {kF nF yF WD FL FW TD : Nat → Nat} (x : Int32) (q : Int32) (hN : NI ns wl nf wd kF nF yF WD FL FW TD) {H0 : Heap} (hC : MI K A om ns wl nf wd kF nF yF WD FL FW TD H0) : MetR l K yX10_part wsX10_part rmX10_part [.ref om, .int x, .int q] (fun H => H = H0) A (fun v H => v = .int (parA ns kF nF yF x q) ∧ MI K A om ns wl nf wd kF nF yF WD FL FW TD H) 0 0 := by
  obtain ⟨ad, mt, RW, pl, nw, xt, vF, wF, qF, bY, gF, nm, xm, fR, oF, hF, dF, hP, hD, hpl⟩ := hC
  have hS9 := hN.1; have hW9 := hN.2.1; have hF9 := hN.2.2.1; have hw1 := hN.2.2.2.1; have hw := hN.2.2.2.2.1; have hTD := hN.2.2.2.2.2
  have hwl := hW9.1; have hnf := hF9.1; have hns := hS9.1
  refine Met_or (fun a s h => ?_)
  obtain ⟨ha, hKK, rfl⟩ := h
  exact ⟨_, _, _, c_X10_part l K om ad ns wl nf wd mt kF nF yF WD FL FW TD RW pl nw xt vF wF qF bY gF nm xm fR oF hF dF x q hS9, ⟨ha, hKK, hP⟩, PQ_GQ ⟨rfl, MI_mk hD hP hpl⟩, fun q h => h.elim⟩
theorem u_X10_pace (l : Launch) (K : rr_K) (A : Nat → Prop) {om : Nat} {ns wl nf wd : Nat} {kF nF yF WD FL FW TD : Nat → Nat} (x : Int32) (q : Int32) (hN : NI ns wl nf wd kF nF yF WD FL FW TD) {H0 : Heap} (hC : MI K A om ns wl nf wd kF nF yF WD FL FW TD H0) : MetR l K yX10_pace wsX10_pace rmX10_pace [.ref om, .int x, .int q] (fun H => H = H0) A (fun v H => v = .int (pacA ns kF nF yF x q) ∧ MI K A om ns wl nf wd kF nF yF WD FL FW TD H) 0 0 := by
  obtain ⟨ad, mt, RW, pl, nw, xt, vF, wF, qF, bY, gF, nm, xm, fR, oF, hF, dF, hP, hD, hpl⟩ := hC
  have hS9 := hN.1; have hW9 := hN.2.1; have hF9 := hN.2.2.1; have hw1 := hN.2.2.2.1; have hw := hN.2.2.2.2.1; have hTD := hN.2.2.2.2.2
  have hwl := hW9.1; have hnf := hF9.1; have hns := hS9.1
  refine Met_or (fun a s h => ?_)
  obtain ⟨ha, hKK, rfl⟩ := h
  exact ⟨_, _, _, c_X10_pace l K A om ad ns wl nf wd mt kF nF yF WD FL FW TD RW pl nw xt vF wF qF bY gF nm xm fR oF hF dF x q hS9 hD, ⟨ha, hKK, hP⟩, GQ_mono (fun _ h => h) (fun v H1 hY hF => by
    obtain ⟨hv, dF', hP1⟩ := hY
    exact ⟨hv, MI_mk hD hP1 hpl⟩), fun _ h => h⟩
theorem u_X10_window (l : Launch) (K : rr_K) (A : Nat → Prop) {om : Nat} {ns wl nf wd : Nat} {kF nF yF WD FL FW TD : Nat → Nat} (x : Int32) (hN : NI ns wl nf wd kF nF yF WD FL FW TD) {H0 : Heap} (hC : MI K A om ns wl nf wd kF nF yF WD FL FW TD H0) : MetR l K yX10_window wsX10_window rmX10_window [.ref om, .int x] (fun H => H = H0) A (fun v H => v = .int (winA x) ∧ MI K A om ns wl nf (cond (rrin x (nI 1) (nI 3)) (cN x) wd) kF nF yF WD FL FW (cond (rrin x (nI 1) (nI 3)) (putZ TD (fun _ => 0) 64) TD) H) 0 0 := by
  obtain ⟨ad, mt, RW, pl, nw, xt, vF, wF, qF, bY, gF, nm, xm, fR, oF, hF, dF, hP, hD, hpl⟩ := hC
  have hS9 := hN.1; have hW9 := hN.2.1; have hF9 := hN.2.2.1; have hw1 := hN.2.2.2.1; have hw := hN.2.2.2.2.1; have hTD := hN.2.2.2.2.2
  have hwl := hW9.1; have hnf := hF9.1; have hns := hS9.1
  refine Met_or (fun a s h => ?_)
  obtain ⟨ha, hKK, rfl⟩ := h
  exact ⟨_, _, _, c_X10_window l K A om ad ns wl nf wd mt kF nF yF WD FL FW TD RW pl nw xt vF wF qF bY gF nm xm fR oF hF dF x hD, ⟨ha, hKK, hP⟩, GQ_mono (fun _ h => h) (fun v H1 hY hF => by
    obtain ⟨hv, hP1⟩ := hY
    exact ⟨hv, MI_mk hD hP1 hpl⟩), fun _ h => h⟩
theorem u_X10_tells (l : Launch) (K : rr_K) (A : Nat → Prop) {om : Nat} {ns wl nf wd : Nat} {kF nF yF WD FL FW TD : Nat → Nat} (x : Int32) (y : Int32) (hN : NI ns wl nf wd kF nF yF WD FL FW TD) {H0 : Heap} (hC : MI K A om ns wl nf wd kF nF yF WD FL FW TD H0) : MetR l K yX10_tells wsX10_tells rmX10_tells [.ref om, .int x, .int y] (fun H => H = H0) A (fun v H => v = .int (telA wd TD x y) ∧ MI K A om ns wl nf wd kF nF yF WD FL FW (cond (telOK wd x y) (va_up TD (cN x) (cN y)) TD) H) 0 0 := by
  obtain ⟨ad, mt, RW, pl, nw, xt, vF, wF, qF, bY, gF, nm, xm, fR, oF, hF, dF, hP, hD, hpl⟩ := hC
  have hS9 := hN.1; have hW9 := hN.2.1; have hF9 := hN.2.2.1; have hw1 := hN.2.2.2.1; have hw := hN.2.2.2.2.1; have hTD := hN.2.2.2.2.2
  have hwl := hW9.1; have hnf := hF9.1; have hns := hS9.1
  refine Met_or (fun a s h => ?_)
  obtain ⟨ha, hKK, rfl⟩ := h
  exact ⟨_, _, _, c_X10_tells l K A om ad ns wl nf wd mt kF nF yF WD FL FW TD RW pl nw xt vF wF qF bY gF nm xm fR oF hF dF x y hw hD, ⟨ha, hKK, hP⟩, GQ_mono (fun _ h => h) (fun v H1 hY hF => by
    obtain ⟨hv, hP1⟩ := hY
    exact ⟨hv, MI_mk hD hP1 hpl⟩), fun _ h => h⟩
theorem u_X10_maps (l : Launch) (K : rr_K) (A : Nat → Prop) {om : Nat} {ns wl nf wd : Nat} {kF nF yF WD FL FW TD : Nat → Nat} (x : Int32) (y : Int32) (hN : NI ns wl nf wd kF nF yF WD FL FW TD) {H0 : Heap} (hC : MI K A om ns wl nf wd kF nF yF WD FL FW TD H0) : MetR l K yX10_maps wsX10_maps rmX10_maps [.ref om, .int x, .int y] (fun H => H = H0) A (fun v H => v = .int (mapA ns kF nF yF wd TD x y) ∧ MI K A om ns wl nf wd kF nF yF WD FL FW TD H) 0 0 := by
  obtain ⟨ad, mt, RW, pl, nw, xt, vF, wF, qF, bY, gF, nm, xm, fR, oF, hF, dF, hP, hD, hpl⟩ := hC
  have hS9 := hN.1; have hW9 := hN.2.1; have hF9 := hN.2.2.1; have hw1 := hN.2.2.2.1; have hw := hN.2.2.2.2.1; have hTD := hN.2.2.2.2.2
  have hwl := hW9.1; have hnf := hF9.1; have hns := hS9.1
  refine Met_or (fun a s h => ?_)
  obtain ⟨ha, hKK, rfl⟩ := h
  exact ⟨_, _, _, c_X10_maps l K A om ad ns wl nf wd mt kF nF yF WD FL FW TD RW pl nw xt vF wF qF bY gF nm xm fR oF hF dF x y hS9 hw1 hw hTD hD, ⟨ha, hKK, hP⟩, GQ_mono (fun _ h => h) (fun v H1 hY hF => by
    obtain ⟨hv, mt', qF', fR', bY', oF', hF', hP1⟩ := hY
    exact ⟨hv, MI_mk hD hP1 hpl⟩), fun _ h => h⟩
theorem u_X10_weights (l : Launch) (K : rr_K) (A : Nat → Prop) {om : Nat} {ns wl nf wd : Nat} {kF nF yF WD FL FW TD : Nat → Nat} (x : Int32) (p9 : Int32) (q9 : Int32) (m9 : Int32) (hN : NI ns wl nf wd kF nF yF WD FL FW TD) {H0 : Heap} (hC : MI K A om ns wl nf wd kF nF yF WD FL FW TD H0) : MetR l K yX10_weights wsX10_weights rmX10_weights [.ref om, .int x, .int p9, .int q9, .int m9] (fun H => H = H0) A (fun v H => v = .int (wgsA ns kF nF yF x p9 q9 m9) ∧ MI K A om ns wl nf wd kF nF yF WD FL FW TD H) 0 0 := by
  obtain ⟨ad, mt, RW, pl, nw, xt, vF, wF, qF, bY, gF, nm, xm, fR, oF, hF, dF, hP, hD, hpl⟩ := hC
  have hS9 := hN.1; have hW9 := hN.2.1; have hF9 := hN.2.2.1; have hw1 := hN.2.2.2.1; have hw := hN.2.2.2.2.1; have hTD := hN.2.2.2.2.2
  have hwl := hW9.1; have hnf := hF9.1; have hns := hS9.1
  refine Met_or (fun a s h => ?_)
  obtain ⟨ha, hKK, rfl⟩ := h
  exact ⟨_, _, _, c_X10_weights l K A om ad ns wl nf wd mt kF nF yF WD FL FW TD RW pl nw xt vF wF qF bY gF nm xm fR oF hF dF x p9 q9 m9 hS9 hD, ⟨ha, hKK, hP⟩, GQ_mono (fun _ h => h) (fun v H1 hY hF => by
    obtain ⟨hv, vF', wF', gF', hP1⟩ := hY
    exact ⟨hv, MI_mk hD hP1 hpl⟩), fun _ h => h⟩
theorem u_X10_weight (l : Launch) (K : rr_K) (A : Nat → Prop) {om : Nat} {ns wl nf wd : Nat} {kF nF yF WD FL FW TD : Nat → Nat} (x : Int32) (p9 : Int32) (q9 : Int32) (m9 : Int32) (s9 : Int32) (hN : NI ns wl nf wd kF nF yF WD FL FW TD) {H0 : Heap} (hC : MI K A om ns wl nf wd kF nF yF WD FL FW TD H0) : MetR l K yX10_weight wsX10_weight rmX10_weight [.ref om, .int x, .int p9, .int q9, .int m9, .int s9] (fun H => H = H0) A (fun v H => v = .int (wgtA ns kF nF yF x p9 q9 m9 s9) ∧ MI K A om ns wl nf wd kF nF yF WD FL FW TD H) 0 0 := by
  obtain ⟨ad, mt, RW, pl, nw, xt, vF, wF, qF, bY, gF, nm, xm, fR, oF, hF, dF, hP, hD, hpl⟩ := hC
  have hS9 := hN.1; have hW9 := hN.2.1; have hF9 := hN.2.2.1; have hw1 := hN.2.2.2.1; have hw := hN.2.2.2.2.1; have hTD := hN.2.2.2.2.2
  have hwl := hW9.1; have hnf := hF9.1; have hns := hS9.1
  refine Met_or (fun a s h => ?_)
  obtain ⟨ha, hKK, rfl⟩ := h
  exact ⟨_, _, _, c_X10_weight l K A om ad ns wl nf wd mt kF nF yF WD FL FW TD RW pl nw xt vF wF qF bY gF nm xm fR oF hF dF x p9 q9 m9 s9 hS9 hD, ⟨ha, hKK, hP⟩, GQ_mono (fun _ h => h) (fun v H1 hY hF => by
    obtain ⟨hv, vF', wF', gF', hP1⟩ := hY
    exact ⟨hv, MI_mk hD hP1 hpl⟩), fun _ h => h⟩
theorem u_X10_count (l : Launch) (K : rr_K) (A : Nat → Prop) {om : Nat} {ns wl nf wd : Nat} {kF nF yF WD FL FW TD : Nat → Nat} (x : Int32) (hN : NI ns wl nf wd kF nF yF WD FL FW TD) {H0 : Heap} (hC : MI K A om ns wl nf wd kF nF yF WD FL FW TD H0) : MetR l K yX10_count wsX10_count rmX10_count [.ref om, .int x] (fun H => H = H0) A (fun v H => v = .int (cntA ns wl nf wd x) ∧ MI K A om ns wl nf wd kF nF yF WD FL FW TD H) 0 0 := by
  obtain ⟨ad, mt, RW, pl, nw, xt, vF, wF, qF, bY, gF, nm, xm, fR, oF, hF, dF, hP, hD, hpl⟩ := hC
  have hS9 := hN.1; have hW9 := hN.2.1; have hF9 := hN.2.2.1; have hw1 := hN.2.2.2.1; have hw := hN.2.2.2.2.1; have hTD := hN.2.2.2.2.2
  have hwl := hW9.1; have hnf := hF9.1; have hns := hS9.1
  refine Met_or (fun a s h => ?_)
  obtain ⟨ha, hKK, rfl⟩ := h
  exact ⟨_, _, _, c_X10_count l K om ad ns wl nf wd mt kF nF yF WD FL FW TD RW pl nw xt vF wF qF bY gF nm xm fR oF hF dF x, ⟨ha, hKK, hP⟩, PQ_GQ ⟨rfl, MI_mk hD hP hpl⟩, fun q h => h.elim⟩
theorem u_X10_digest (l : Launch) (K : rr_K) (A : Nat → Prop) {om : Nat} {ns wl nf wd : Nat} {kF nF yF WD FL FW TD : Nat → Nat} (hN : NI ns wl nf wd kF nF yF WD FL FW TD) {H0 : Heap} (hC : MI K A om ns wl nf wd kF nF yF WD FL FW TD H0) : MetR l K yX10_digest wsX10_digest rmX10_digest [.ref om] (fun H => H = H0) A (fun v H => v = .long (dgT ns wl nf wd kF nF yF WD FL FW TD) ∧ MI K A om ns wl nf wd kF nF yF WD FL FW TD H) 0 0 := by
  obtain ⟨ad, mt, RW, pl, nw, xt, vF, wF, qF, bY, gF, nm, xm, fR, oF, hF, dF, hP, hD, hpl⟩ := hC
  have hS9 := hN.1; have hW9 := hN.2.1; have hF9 := hN.2.2.1; have hw1 := hN.2.2.2.1; have hw := hN.2.2.2.2.1; have hTD := hN.2.2.2.2.2
  have hwl := hW9.1; have hnf := hF9.1; have hns := hS9.1
  refine Met_or (fun a s h => ?_)
  obtain ⟨ha, hKK, rfl⟩ := h
  exact ⟨_, _, _, c_X10_digest l K om ad ns wl nf wd mt kF nF yF WD FL FW TD RW pl nw xt vF wF qF bY gF nm xm fR oF hF dF hS9 hw hwl hF9, ⟨ha, hKK, hP⟩, PQ_GQ ⟨rfl, MI_mk hD hP hpl⟩, fun q h => h.elim⟩
end
