section
/-! the class between two calls, whatever its boards hold -/
theorem XC_D {K : rr_K} {A : Nat → Prop} {ca : Nat → Nat} {bh my lg mk mn ms xa xb xv xw ns wl nf wd room mb cap : Nat} {gF : Nat → Option Nat} {WD FL FW BR TD wB dB no sl wS wR wP wV wW pR : Nat → Nat} {bF : Nat → Int32} {yB gB : Nat → Int64} {ks pF : Nat → Int32} {kn : List Nat} {lp ll : Int32} (h : va_D A (XC K ca bh my lg mk mn ms xa xb xv xw ns wl nf wd room mb cap gF WD FL FW BR TD wB dB no sl wS wR wP wV wW pR bF yB gB ks pF kn lp ll)) (ns' wl' nf' wd' room' mb' cap' : Nat) (gF' : Nat → Option Nat) (WD' FL' FW' BR' TD' wB' dB' no' sl' wS' wR' wP' wV' wW' pR' : Nat → Nat) (bF' : Nat → Int32) (yB' gB' : Nat → Int64) (ks' pF' : Nat → Int32) (kn' : List Nat) (lp' ll' : Int32) : va_D A (XC K ca bh my lg mk mn ms xa xb xv xw ns' wl' nf' wd' room' mb' cap' gF' WD' FL' FW' BR' TD' wB' dB' no' sl' wS' wR' wP' wV' wW' pR' bF' yB' gB' ks' pF' kn' lp' ll') := rr_D h rfl
theorem PQ_GQ {A : Nat → Prop} {Y : Value → Heap → Prop} {rv : Value} {a : Array Value} {s : State} (hY : Y rv s.heap) : ∀ o t, PQ rv a s o t → GQr A Y a s o t := fun _ t h => ⟨⟨rv, h.1, by rw [h.2]; exact hY⟩, by rw [h.2]; exact Nat.le_refl _, fun q _ _ => by rw [h.2]⟩
theorem GQ_mono {A A1 : Nat → Prop} {Y Y1 : Value → Heap → Prop} {a : Array Value} {s : State} (hA : ∀ q, A1 q → A q) (h : ∀ v H1, Y1 v H1 → (∀ q : Nat, q < s.heap.size → ¬ A1 q → H1[q]? = s.heap[q]?) → Y v H1) : ∀ o t, GQr A1 Y1 a s o t → GQr A Y a s o t := fun _ t hq => by
  obtain ⟨⟨v, ho, hY⟩, hz, hF⟩ := hq
  exact ⟨⟨v, ho, h v t.heap hY hF⟩, hz, fun q h1 h2 => hF q h1 (fun z => h2 (hA q z))⟩
/-- what the class holds between two calls: its sets, its numbers, its room; its boards are not told -/
def CI (K : rr_K) (A : Nat → Prop) (co cap room : Nat) (ns wl nf wd : Nat) (kF nF yF WD FL FW TD : Nat → Nat) (H : Heap) : Prop := ∃ (ca : Nat → Nat) (bh my lg mk mn ms xa xb xv xw mb : Nat) (gF : Nat → Option Nat) (BR wB dB no sl wS wR wP wV wW pR : Nat → Nat) (bF : Nat → Int32) (yB gB : Nat → Int64) (ks pF : Nat → Int32) (kn nt : List Nat) (lp ll : Int32) (g1 g2 g3 : Nat → Nat) (TT : Nat → Nat → Nat), ca 0 = co ∧ va_P K.1 vwCl (XC K ca bh my lg mk mn ms xa xb xv xw ns wl nf wd room mb cap gF WD FL FW BR TD wB dB no sl wS wR wP wV wW pR bF yB gB ks pF kn lp ll) H ∧ va_D A (XC K ca bh my lg mk mn ms xa xb xv xw ns wl nf wd room mb cap gF WD FL FW BR TD wB dB no sl wS wR wP wV wW pR bF yB gB ks pF kn lp ll) ∧ CG K A (XC K ca bh my lg mk mn ms xa xb xv xw ns wl nf wd room mb cap gF WD FL FW BR TD wB dB no sl wS wR wP wV wW pR bF yB gB ks pF kn lp ll) ns gF kF nF yF H g1 g2 g3 TT ∧ MInv (kn.map nI) nt cap mb ks no sl ∧ kn.length < 65536 ∧ (∃ e, room = 2 ^ e) ∧ room ≤ 65536 ∧ ∀ j, j < 5 → BR j < 65536
theorem CI_mk {K : rr_K} {A : Nat → Prop} {co : Nat} {ca : Nat → Nat} {bh my lg mk mn ms xa xb xv xw ns wl nf wd room mb cap : Nat} {gF : Nat → Option Nat} {WD FL FW BR TD wB dB no sl wS wR wP wV wW pR : Nat → Nat} {bF : Nat → Int32} {yB gB : Nat → Int64} {ks pF : Nat → Int32} {kn : List Nat} {lp ll : Int32} {kF nF yF : Nat → Nat} {nt : List Nat} {g1 g2 g3 : Nat → Nat} {TT : Nat → Nat → Nat} {H : Heap} (h0 : ca 0 = co) (hP : va_P K.1 vwCl (XC K ca bh my lg mk mn ms xa xb xv xw ns wl nf wd room mb cap gF WD FL FW BR TD wB dB no sl wS wR wP wV wW pR bF yB gB ks pF kn lp ll) H) (hD : va_D A (XC K ca bh my lg mk mn ms xa xb xv xw ns wl nf wd room mb cap gF WD FL FW BR TD wB dB no sl wS wR wP wV wW pR bF yB gB ks pF kn lp ll)) (hG : CG K A (XC K ca bh my lg mk mn ms xa xb xv xw ns wl nf wd room mb cap gF WD FL FW BR TD wB dB no sl wS wR wP wV wW pR bF yB gB ks pF kn lp ll) ns gF kF nF yF H g1 g2 g3 TT) (hM : MInv (kn.map nI) nt cap mb ks no sl) (hl : kn.length < 65536) (hr : ∃ e, room = 2 ^ e) (hrb : room ≤ 65536) (hBR : ∀ j, j < 5 → BR j < 65536) : CI K A co cap room ns wl nf wd kF nF yF WD FL FW TD H := ⟨ca, bh, my, lg, mk, mn, ms, xa, xb, xv, xw, mb, gF, BR, wB, dB, no, sl, wS, wR, wP, wV, wW, pR, bF, yB, gB, ks, pF, kn, nt, lp, ll, g1, g2, g3, TT, h0, hP, hD, hG, hM, hl, hr, hrb, hBR⟩
/-- only the class's own cells were written -/
theorem CI_upd {K : rr_K} {A : Nat → Prop} {w : va_W} {co : Nat} {ca : Nat → Nat} {bh my lg mk mn ms xa xb xv xw ns wl nf wd room mb cap : Nat} {gF : Nat → Option Nat} {WD FL FW BR TD wB dB no sl wS wR wP wV wW pR : Nat → Nat} {bF : Nat → Int32} {yB gB : Nat → Int64} {ks pF : Nat → Int32} {kn : List Nat} {lp ll : Int32} {kF nF yF : Nat → Nat} {nt : List Nat} {g1 g2 g3 : Nat → Nat} {TT : Nat → Nat → Nat} {H H1 : Heap} (hA : ∀ q, va_A w H.size q → A q) (hG : CG K A w ns gF kF nF yF H g1 g2 g3 TT) (h0 : ca 0 = co) (hF : ∀ q : Nat, q < H.size → ¬ va_A w H.size q → H1[q]? = H[q]?) (hP : va_P K.1 vwCl (XC K ca bh my lg mk mn ms xa xb xv xw ns wl nf wd room mb cap gF WD FL FW BR TD wB dB no sl wS wR wP wV wW pR bF yB gB ks pF kn lp ll) H1) (hD : va_D (va_A w H.size) (XC K ca bh my lg mk mn ms xa xb xv xw ns wl nf wd room mb cap gF WD FL FW BR TD wB dB no sl wS wR wP wV wW pR bF yB gB ks pF kn lp ll)) (hM : MInv (kn.map nI) nt cap mb ks no sl) (hl : kn.length < 65536) (hr : ∃ e, room = 2 ^ e) (hrb : room ≤ 65536) (hBR : ∀ j, j < 5 → BR j < 65536) : CI K A co cap room ns wl nf wd kF nF yF WD FL FW TD H1 := CI_mk h0 hP (D_in hD hA) (CG_keep hG hF hD) hM hl hr hrb hBR
theorem GJ_out {K : rr_K} {go ge gt j : Nat} {kF nF yF T : Nat → Nat} {w : va_W} {H : Heap} (h2 : va_P K.1 vwCl (GJ K go ge gt kF nF yF j T) H) (h5 : ∀ q, GA go ge gt q → ¬ AW w q) : ∀ (k_ : Nat) (q_ : Nat × va_E), (GJ K go ge gt kF nF yF j T)[k_]? = some q_ → ¬ va_A w H.size q_.1 := fun k q hk hq => hq.elim (fun z => h5 q.1 (AW_GJ.mp ⟨k, q.2, hk⟩) z) (fun z => by
  have := AW_lt h2 ⟨k, q.2, hk⟩
  omega)
theorem XC_out {K : rr_K} {go ge gt j : Nat} {kF nF yF T : Nat → Nat} {w : va_W} {H : Heap} (hP : va_P K.1 vwCl w H) (h5 : ∀ q, GA go ge gt q → ¬ AW w q) : ∀ (k_ : Nat) (q_ : Nat × va_E), w[k_]? = some q_ → ¬ va_A (GJ K go ge gt kF nF yF j T) H.size q_.1 := fun k q hk hq => hq.elim (fun z => h5 q.1 (AW_GJ.mp z) ⟨k, q.2, hk⟩) (fun z => by
  have := AW_lt hP ⟨k, q.2, hk⟩
  omega)
theorem A1_in {A : Nat → Prop} {w : va_W} {n : Nat} (hD : va_D A w) (hA : ∀ q, n ≤ q → A q) : ∀ q, va_A w n q → A q := fun q h => h.elim (fun z => D_AW hD z) (fun z => hA q z)
/-- a call from a heap where all that is known -/
def UX (l : Launch) (K : rr_K) (A : Nat → Prop) (y : MethodName) (ws : List Cond) (rm : Nat → Nat → Room) (av : List Value) (co cap room ns ns' wl' nf' wd' : Nat) (kF' nF' yF' WD' FL' FW' TD' : Nat → Nat) (ans : Value) (H0 : Heap) : Prop := ∃ cap' room', cap ≤ cap' ∧ room ≤ room' ∧ cap' ≤ 65536 ∧ room' ≤ 65536 ∧ MetR l K y ws (rm (3 * (ns' - ns) + (cap' - cap) + (room' - room)) (327 * (ns' - ns) + 8 * (cap' - cap) + 12 * (room' - room))) av (fun H => H = H0) A (fun v H => v = ans ∧ CI K A co cap' room' ns' wl' nf' wd' kF' nF' yF' WD' FL' FW' TD' H) (3 * (ns' - ns) + (cap' - cap) + (room' - room)) (327 * (ns' - ns) + 8 * (cap' - cap) + 12 * (room' - room))
theorem z3 (n a b : Nat) : 3 * (n - n) + (a - a) + (b - b) = 0 := by omega
theorem z327 (n a b : Nat) : 327 * (n - n) + 8 * (a - a) + 12 * (b - b) = 0 := by omega
end
section
/-- the numbers that both sides hold -/
def NI (ns wl nf wd : Nat) (kF nF yF WD FL FW TD : Nat → Nat) : Prop := SOK ns kF nF yF ∧ WOK wl WD ∧ FOK nf FL FW ∧ 1 ≤ wd ∧ wd ≤ 3 ∧ ∀ r, r < 64 → TD r < 4
end
section
theorem u_X9_empty (l : Launch) (K : rr_K) (A : Nat → Prop) {co cap room : Nat} {ns wl nf wd : Nat} {kF nF yF WD FL FW TD : Nat → Nat} (hN : NI ns wl nf wd kF nF yF WD FL FW TD) {H0 : Heap} (hA : ∀ q, H0.size ≤ q → A q) (hC : CI K A co cap room ns wl nf wd kF nF yF WD FL FW TD H0) : UX l K A yX9_empty wsX9_empty (fun _ _ => rmX9_empty) [.ref co] co cap room ns ns 0 nf wd kF nF yF WD FL FW TD (.int (nI wl)) H0 := by
  obtain ⟨ca, bh, my, lg, mk, mn, ms, xa, xb, xv, xw, mb, gF, BR, wB, dB, no, sl, wS, wR, wP, wV, wW, pR, bF, yB, gB, ks, pF, kn, nt, lp, ll, g1, g2, g3, TT, rfl, hP, hD, hG, hM, hl, hr, hrb, hBR⟩ := hC
  obtain ⟨hcap, hroom⟩ : cap ≤ 65536 ∧ room ≤ 65536 := ⟨hM.2.2.1, hrb⟩
  have hS9 := hN.1; have hW9 := hN.2.1; have hF9 := hN.2.2.1; have hw1 := hN.2.2.2.1; have hw := hN.2.2.2.2.1; have hTD := hN.2.2.2.2.2
  have hwl := hW9.1; have hnf := hF9.1; have hns := hS9.1
  have hga : ∀ i, i < ns → gF i = some (g1 i) := fun i hi => (hG i hi).1
  refine ⟨cap, room, Nat.le_refl _, Nat.le_refl _, hcap, hroom, ?_⟩
  rw [z3, z327]
  refine Met_or (fun a s h => ?_)
  obtain ⟨ha, hKK, rfl⟩ := h
  have hA1 := A1_in hD hA
  exact ⟨_, _, _, c_X9_empty l K (va_A (XC K ca bh my lg mk mn ms xa xb xv xw ns wl nf wd room mb cap gF WD FL FW BR TD wB dB no sl wS wR wP wV wW pR bF yB gB ks pF kn lp ll) s.heap.size) s.heap.size ca bh my lg mk mn ms xa xb xv xw ns wl nf wd room mb cap gF WD FL FW BR TD wB dB no sl wS wR wP wV wW pR bF yB gB ks pF kn lp ll (fun q h => Or.inr h) hD.self, ⟨ha, hKK, rfl, hP⟩, GQ_mono hA1 (fun v H1 hY hF => by
    obtain ⟨hv, hP1, hD1⟩ := hY
    exact ⟨hv, CI_upd hA1 hG rfl hF hP1 hD1 hM hl hr hrb hBR⟩), hA1⟩
theorem u_X9_unforbid (l : Launch) (K : rr_K) (A : Nat → Prop) {co cap room : Nat} {ns wl nf wd : Nat} {kF nF yF WD FL FW TD : Nat → Nat} (hN : NI ns wl nf wd kF nF yF WD FL FW TD) {H0 : Heap} (hA : ∀ q, H0.size ≤ q → A q) (hC : CI K A co cap room ns wl nf wd kF nF yF WD FL FW TD H0) : UX l K A yX9_unforbid wsX9_unforbid (fun _ _ => rmX9_unforbid) [.ref co] co cap room ns ns wl 0 wd kF nF yF WD FL FW TD (.int (nI nf)) H0 := by
  obtain ⟨ca, bh, my, lg, mk, mn, ms, xa, xb, xv, xw, mb, gF, BR, wB, dB, no, sl, wS, wR, wP, wV, wW, pR, bF, yB, gB, ks, pF, kn, nt, lp, ll, g1, g2, g3, TT, rfl, hP, hD, hG, hM, hl, hr, hrb, hBR⟩ := hC
  obtain ⟨hcap, hroom⟩ : cap ≤ 65536 ∧ room ≤ 65536 := ⟨hM.2.2.1, hrb⟩
  have hS9 := hN.1; have hW9 := hN.2.1; have hF9 := hN.2.2.1; have hw1 := hN.2.2.2.1; have hw := hN.2.2.2.2.1; have hTD := hN.2.2.2.2.2
  have hwl := hW9.1; have hnf := hF9.1; have hns := hS9.1
  have hga : ∀ i, i < ns → gF i = some (g1 i) := fun i hi => (hG i hi).1
  refine ⟨cap, room, Nat.le_refl _, Nat.le_refl _, hcap, hroom, ?_⟩
  rw [z3, z327]
  refine Met_or (fun a s h => ?_)
  obtain ⟨ha, hKK, rfl⟩ := h
  have hA1 := A1_in hD hA
  exact ⟨_, _, _, c_X9_unforbid l K (va_A (XC K ca bh my lg mk mn ms xa xb xv xw ns wl nf wd room mb cap gF WD FL FW BR TD wB dB no sl wS wR wP wV wW pR bF yB gB ks pF kn lp ll) s.heap.size) s.heap.size ca bh my lg mk mn ms xa xb xv xw ns wl nf wd room mb cap gF WD FL FW BR TD wB dB no sl wS wR wP wV wW pR bF yB gB ks pF kn lp ll (fun q h => Or.inr h) hD.self, ⟨ha, hKK, rfl, hP⟩, GQ_mono hA1 (fun v H1 hY hF => by
    obtain ⟨hv, hP1, hD1⟩ := hY
    exact ⟨hv, CI_upd hA1 hG rfl hF hP1 hD1 hM hl hr hrb hBR⟩), hA1⟩
theorem u_X9_letter (l : Launch) (K : rr_K) (A : Nat → Prop) {co cap room : Nat} {ns wl nf wd : Nat} {kF nF yF WD FL FW TD : Nat → Nat} (x : Int32) (hN : NI ns wl nf wd kF nF yF WD FL FW TD) {H0 : Heap} (hA : ∀ q, H0.size ≤ q → A q) (hC : CI K A co cap room ns wl nf wd kF nF yF WD FL FW TD H0) : UX l K A yX9_letter wsX9_letter (fun _ _ => rmX9_letter) [.ref co, .int x] co cap room ns ns (cond (letOK wl x) (wl + 1) wl) nf wd kF nF yF (cond (letOK wl x) (va_up WD wl (cN x)) WD) FL FW TD (.int (letA wl x)) H0 := by
  obtain ⟨ca, bh, my, lg, mk, mn, ms, xa, xb, xv, xw, mb, gF, BR, wB, dB, no, sl, wS, wR, wP, wV, wW, pR, bF, yB, gB, ks, pF, kn, nt, lp, ll, g1, g2, g3, TT, rfl, hP, hD, hG, hM, hl, hr, hrb, hBR⟩ := hC
  obtain ⟨hcap, hroom⟩ : cap ≤ 65536 ∧ room ≤ 65536 := ⟨hM.2.2.1, hrb⟩
  have hS9 := hN.1; have hW9 := hN.2.1; have hF9 := hN.2.2.1; have hw1 := hN.2.2.2.1; have hw := hN.2.2.2.2.1; have hTD := hN.2.2.2.2.2
  have hwl := hW9.1; have hnf := hF9.1; have hns := hS9.1
  have hga : ∀ i, i < ns → gF i = some (g1 i) := fun i hi => (hG i hi).1
  refine ⟨cap, room, Nat.le_refl _, Nat.le_refl _, hcap, hroom, ?_⟩
  rw [z3, z327]
  refine Met_or (fun a s h => ?_)
  obtain ⟨ha, hKK, rfl⟩ := h
  have hA1 := A1_in hD hA
  exact ⟨_, _, _, c_X9_letter l K (va_A (XC K ca bh my lg mk mn ms xa xb xv xw ns wl nf wd room mb cap gF WD FL FW BR TD wB dB no sl wS wR wP wV wW pR bF yB gB ks pF kn lp ll) s.heap.size) s.heap.size ca bh my lg mk mn ms xa xb xv xw ns wl nf wd room mb cap gF WD FL FW BR TD wB dB no sl wS wR wP wV wW pR bF yB gB ks pF kn lp ll x hwl (fun q h => Or.inr h) hD.self, ⟨ha, hKK, rfl, hP⟩, GQ_mono hA1 (fun v H1 hY hF => by
    obtain ⟨hv, hP1, hD1⟩ := hY
    exact ⟨hv, CI_upd hA1 hG rfl hF hP1 hD1 hM hl hr hrb hBR⟩), hA1⟩
theorem u_X9_letterAt (l : Launch) (K : rr_K) (A : Nat → Prop) {co cap room : Nat} {ns wl nf wd : Nat} {kF nF yF WD FL FW TD : Nat → Nat} (x : Int32) (hN : NI ns wl nf wd kF nF yF WD FL FW TD) {H0 : Heap} (hA : ∀ q, H0.size ≤ q → A q) (hC : CI K A co cap room ns wl nf wd kF nF yF WD FL FW TD H0) : UX l K A yX9_letterAt wsX9_letterAt (fun _ _ => rmX9_letterAt) [.ref co, .int x] co cap room ns ns wl nf wd kF nF yF WD FL FW TD (.int (latA wl WD x)) H0 := by
  obtain ⟨ca, bh, my, lg, mk, mn, ms, xa, xb, xv, xw, mb, gF, BR, wB, dB, no, sl, wS, wR, wP, wV, wW, pR, bF, yB, gB, ks, pF, kn, nt, lp, ll, g1, g2, g3, TT, rfl, hP, hD, hG, hM, hl, hr, hrb, hBR⟩ := hC
  obtain ⟨hcap, hroom⟩ : cap ≤ 65536 ∧ room ≤ 65536 := ⟨hM.2.2.1, hrb⟩
  have hS9 := hN.1; have hW9 := hN.2.1; have hF9 := hN.2.2.1; have hw1 := hN.2.2.2.1; have hw := hN.2.2.2.2.1; have hTD := hN.2.2.2.2.2
  have hwl := hW9.1; have hnf := hF9.1; have hns := hS9.1
  have hga : ∀ i, i < ns → gF i = some (g1 i) := fun i hi => (hG i hi).1
  refine ⟨cap, room, Nat.le_refl _, Nat.le_refl _, hcap, hroom, ?_⟩
  rw [z3, z327]
  refine Met_or (fun a s h => ?_)
  obtain ⟨ha, hKK, rfl⟩ := h
  exact ⟨_, _, _, c_X9_letterAt l K ca bh my lg mk mn ms xa xb xv xw ns wl nf wd room mb cap gF WD FL FW BR TD wB dB no sl wS wR wP wV wW pR bF yB gB ks pF kn lp ll x hwl, ⟨ha, hKK, hP⟩, PQ_GQ ⟨rfl, CI_mk rfl hP hD hG hM hl hr hrb hBR⟩, fun q h => h.elim⟩
theorem u_X9_window (l : Launch) (K : rr_K) (A : Nat → Prop) {co cap room : Nat} {ns wl nf wd : Nat} {kF nF yF WD FL FW TD : Nat → Nat} (x : Int32) (hN : NI ns wl nf wd kF nF yF WD FL FW TD) {H0 : Heap} (hA : ∀ q, H0.size ≤ q → A q) (hC : CI K A co cap room ns wl nf wd kF nF yF WD FL FW TD H0) : UX l K A yX9_window wsX9_window (fun _ _ => rmX9_window) [.ref co, .int x] co cap room ns ns wl nf (cond (rrin x (nI 1) (nI 3)) (cN x) wd) kF nF yF WD FL FW (cond (rrin x (nI 1) (nI 3)) (putZ TD (fun _ => 0) 64) TD) (.int (winA x)) H0 := by
  obtain ⟨ca, bh, my, lg, mk, mn, ms, xa, xb, xv, xw, mb, gF, BR, wB, dB, no, sl, wS, wR, wP, wV, wW, pR, bF, yB, gB, ks, pF, kn, nt, lp, ll, g1, g2, g3, TT, rfl, hP, hD, hG, hM, hl, hr, hrb, hBR⟩ := hC
  obtain ⟨hcap, hroom⟩ : cap ≤ 65536 ∧ room ≤ 65536 := ⟨hM.2.2.1, hrb⟩
  have hS9 := hN.1; have hW9 := hN.2.1; have hF9 := hN.2.2.1; have hw1 := hN.2.2.2.1; have hw := hN.2.2.2.2.1; have hTD := hN.2.2.2.2.2
  have hwl := hW9.1; have hnf := hF9.1; have hns := hS9.1
  have hga : ∀ i, i < ns → gF i = some (g1 i) := fun i hi => (hG i hi).1
  refine ⟨cap, room, Nat.le_refl _, Nat.le_refl _, hcap, hroom, ?_⟩
  rw [z3, z327]
  refine Met_or (fun a s h => ?_)
  obtain ⟨ha, hKK, rfl⟩ := h
  have hA1 := A1_in hD hA
  exact ⟨_, _, _, c_X9_window l K (va_A (XC K ca bh my lg mk mn ms xa xb xv xw ns wl nf wd room mb cap gF WD FL FW BR TD wB dB no sl wS wR wP wV wW pR bF yB gB ks pF kn lp ll) s.heap.size) s.heap.size ca bh my lg mk mn ms xa xb xv xw ns wl nf wd room mb cap gF WD FL FW BR TD wB dB no sl wS wR wP wV wW pR bF yB gB ks pF kn lp ll x (fun q h => Or.inr h) hD.self, ⟨ha, hKK, rfl, hP⟩, GQ_mono hA1 (fun v H1 hY hF => by
    obtain ⟨hv, hP1, hD1⟩ := hY
    exact ⟨hv, CI_upd hA1 hG rfl hF hP1 hD1 hM hl hr hrb hBR⟩), hA1⟩
theorem u_X9_forbid (l : Launch) (K : rr_K) (A : Nat → Prop) {co cap room : Nat} {ns wl nf wd : Nat} {kF nF yF WD FL FW TD : Nat → Nat} (hN : NI ns wl nf wd kF nF yF WD FL FW TD) {H0 : Heap} (hA : ∀ q, H0.size ≤ q → A q) (hC : CI K A co cap room ns wl nf wd kF nF yF WD FL FW TD H0) : UX l K A yX9_forbid wsX9_forbid (fun _ _ => rmX9_forbid) [.ref co] co cap room ns ns wl (cond (forOK wl nf) (nf + 1) nf) wd kF nF yF WD (cond (forOK wl nf) (va_up FL nf wl) FL) (cond (forOK wl nf) (putN FW WD (nf * 5) wl) FW) TD (.int (forA wl nf)) H0 := by
  obtain ⟨ca, bh, my, lg, mk, mn, ms, xa, xb, xv, xw, mb, gF, BR, wB, dB, no, sl, wS, wR, wP, wV, wW, pR, bF, yB, gB, ks, pF, kn, nt, lp, ll, g1, g2, g3, TT, rfl, hP, hD, hG, hM, hl, hr, hrb, hBR⟩ := hC
  obtain ⟨hcap, hroom⟩ : cap ≤ 65536 ∧ room ≤ 65536 := ⟨hM.2.2.1, hrb⟩
  have hS9 := hN.1; have hW9 := hN.2.1; have hF9 := hN.2.2.1; have hw1 := hN.2.2.2.1; have hw := hN.2.2.2.2.1; have hTD := hN.2.2.2.2.2
  have hwl := hW9.1; have hnf := hF9.1; have hns := hS9.1
  have hga : ∀ i, i < ns → gF i = some (g1 i) := fun i hi => (hG i hi).1
  refine ⟨cap, room, Nat.le_refl _, Nat.le_refl _, hcap, hroom, ?_⟩
  rw [z3, z327]
  refine Met_or (fun a s h => ?_)
  obtain ⟨ha, hKK, rfl⟩ := h
  have hA1 := A1_in hD hA
  exact ⟨_, _, _, c_X9_forbid l K (va_A (XC K ca bh my lg mk mn ms xa xb xv xw ns wl nf wd room mb cap gF WD FL FW BR TD wB dB no sl wS wR wP wV wW pR bF yB gB ks pF kn lp ll) s.heap.size) s.heap.size ca bh my lg mk mn ms xa xb xv xw ns wl nf wd room mb cap gF WD FL FW BR TD wB dB no sl wS wR wP wV wW pR bF yB gB ks pF kn lp ll hnf hwl (fun q h => Or.inr h) hD.self, ⟨ha, hKK, rfl, hP⟩, GQ_mono hA1 (fun v H1 hY hF => by
    obtain ⟨hv, hP1, hD1⟩ := hY
    exact ⟨hv, CI_upd hA1 hG rfl hF hP1 hD1 hM hl hr hrb hBR⟩), hA1⟩
theorem u_X9_tells (l : Launch) (K : rr_K) (A : Nat → Prop) {co cap room : Nat} {ns wl nf wd : Nat} {kF nF yF WD FL FW TD : Nat → Nat} (x : Int32) (y : Int32) (hN : NI ns wl nf wd kF nF yF WD FL FW TD) {H0 : Heap} (hA : ∀ q, H0.size ≤ q → A q) (hC : CI K A co cap room ns wl nf wd kF nF yF WD FL FW TD H0) : UX l K A yX9_tells wsX9_tells (fun _ _ => rmX9_tells) [.ref co, .int x, .int y] co cap room ns ns wl nf wd kF nF yF WD FL FW (cond (telOK wd x y) (va_up TD (cN x) (cN y)) TD) (.int (telA wd TD x y)) H0 := by
  obtain ⟨ca, bh, my, lg, mk, mn, ms, xa, xb, xv, xw, mb, gF, BR, wB, dB, no, sl, wS, wR, wP, wV, wW, pR, bF, yB, gB, ks, pF, kn, nt, lp, ll, g1, g2, g3, TT, rfl, hP, hD, hG, hM, hl, hr, hrb, hBR⟩ := hC
  obtain ⟨hcap, hroom⟩ : cap ≤ 65536 ∧ room ≤ 65536 := ⟨hM.2.2.1, hrb⟩
  have hS9 := hN.1; have hW9 := hN.2.1; have hF9 := hN.2.2.1; have hw1 := hN.2.2.2.1; have hw := hN.2.2.2.2.1; have hTD := hN.2.2.2.2.2
  have hwl := hW9.1; have hnf := hF9.1; have hns := hS9.1
  have hga : ∀ i, i < ns → gF i = some (g1 i) := fun i hi => (hG i hi).1
  refine ⟨cap, room, Nat.le_refl _, Nat.le_refl _, hcap, hroom, ?_⟩
  rw [z3, z327]
  refine Met_or (fun a s h => ?_)
  obtain ⟨ha, hKK, rfl⟩ := h
  have hA1 := A1_in hD hA
  exact ⟨_, _, _, c_X9_tells l K (va_A (XC K ca bh my lg mk mn ms xa xb xv xw ns wl nf wd room mb cap gF WD FL FW BR TD wB dB no sl wS wR wP wV wW pR bF yB gB ks pF kn lp ll) s.heap.size) s.heap.size ca bh my lg mk mn ms xa xb xv xw ns wl nf wd room mb cap gF WD FL FW BR TD wB dB no sl wS wR wP wV wW pR bF yB gB ks pF kn lp ll x y hw (fun q h => Or.inr h) hD.self, ⟨ha, hKK, rfl, hP⟩, GQ_mono hA1 (fun v H1 hY hF => by
    obtain ⟨hv, hP1, hD1⟩ := hY
    exact ⟨hv, CI_upd hA1 hG rfl hF hP1 hD1 hM hl hr hrb hBR⟩), hA1⟩
theorem u_X9_count (l : Launch) (K : rr_K) (A : Nat → Prop) {co cap room : Nat} {ns wl nf wd : Nat} {kF nF yF WD FL FW TD : Nat → Nat} (x : Int32) (hN : NI ns wl nf wd kF nF yF WD FL FW TD) {H0 : Heap} (hA : ∀ q, H0.size ≤ q → A q) (hC : CI K A co cap room ns wl nf wd kF nF yF WD FL FW TD H0) : UX l K A yX9_count wsX9_count (fun _ _ => rmX9_count) [.ref co, .int x] co cap room ns ns wl nf wd kF nF yF WD FL FW TD (.int (cntA ns wl nf wd x)) H0 := by
  obtain ⟨ca, bh, my, lg, mk, mn, ms, xa, xb, xv, xw, mb, gF, BR, wB, dB, no, sl, wS, wR, wP, wV, wW, pR, bF, yB, gB, ks, pF, kn, nt, lp, ll, g1, g2, g3, TT, rfl, hP, hD, hG, hM, hl, hr, hrb, hBR⟩ := hC
  obtain ⟨hcap, hroom⟩ : cap ≤ 65536 ∧ room ≤ 65536 := ⟨hM.2.2.1, hrb⟩
  have hS9 := hN.1; have hW9 := hN.2.1; have hF9 := hN.2.2.1; have hw1 := hN.2.2.2.1; have hw := hN.2.2.2.2.1; have hTD := hN.2.2.2.2.2
  have hwl := hW9.1; have hnf := hF9.1; have hns := hS9.1
  have hga : ∀ i, i < ns → gF i = some (g1 i) := fun i hi => (hG i hi).1
  refine ⟨cap, room, Nat.le_refl _, Nat.le_refl _, hcap, hroom, ?_⟩
  rw [z3, z327]
  refine Met_or (fun a s h => ?_)
  obtain ⟨ha, hKK, rfl⟩ := h
  exact ⟨_, _, _, c_X9_count l K ca bh my lg mk mn ms xa xb xv xw ns wl nf wd room mb cap gF WD FL FW BR TD wB dB no sl wS wR wP wV wW pR bF yB gB ks pF kn lp ll x, ⟨ha, hKK, hP⟩, PQ_GQ ⟨rfl, CI_mk rfl hP hD hG hM hl hr hrb hBR⟩, fun q h => h.elim⟩
theorem u_X9_digest (l : Launch) (K : rr_K) (A : Nat → Prop) {co cap room : Nat} {ns wl nf wd : Nat} {kF nF yF WD FL FW TD : Nat → Nat} (hN : NI ns wl nf wd kF nF yF WD FL FW TD) {H0 : Heap} (hA : ∀ q, H0.size ≤ q → A q) (hC : CI K A co cap room ns wl nf wd kF nF yF WD FL FW TD H0) : UX l K A yX9_digest wsX9_digest (fun _ _ => rmX9_digest) [.ref co] co cap room ns ns wl nf wd kF nF yF WD FL FW TD (.long (dgT ns wl nf wd kF nF yF WD FL FW TD)) H0 := by
  obtain ⟨ca, bh, my, lg, mk, mn, ms, xa, xb, xv, xw, mb, gF, BR, wB, dB, no, sl, wS, wR, wP, wV, wW, pR, bF, yB, gB, ks, pF, kn, nt, lp, ll, g1, g2, g3, TT, rfl, hP, hD, hG, hM, hl, hr, hrb, hBR⟩ := hC
  obtain ⟨hcap, hroom⟩ : cap ≤ 65536 ∧ room ≤ 65536 := ⟨hM.2.2.1, hrb⟩
  have hS9 := hN.1; have hW9 := hN.2.1; have hF9 := hN.2.2.1; have hw1 := hN.2.2.2.1; have hw := hN.2.2.2.2.1; have hTD := hN.2.2.2.2.2
  have hwl := hW9.1; have hnf := hF9.1; have hns := hS9.1
  have hga : ∀ i, i < ns → gF i = some (g1 i) := fun i hi => (hG i hi).1
  refine ⟨cap, room, Nat.le_refl _, Nat.le_refl _, hcap, hroom, ?_⟩
  rw [z3, z327]
  refine Met_or (fun a s h => ?_)
  obtain ⟨ha, hKK, rfl⟩ := h
  exact ⟨_, _, _, c_X9_digest l K ca bh my lg mk mn ms xa xb xv xw ns wl nf wd room mb cap gF WD FL FW BR TD wB dB no sl wS wR wP wV wW pR bF yB gB ks pF kn lp ll kF nF yF g1 g2 g3 TT hS9 hga hw hwl hF9, ⟨ha, hKK, ⟨hP, fun i hi => (hG i hi).2.1⟩⟩, PQ_GQ ⟨rfl, CI_mk rfl hP hD hG hM hl hr hrb hBR⟩, fun q h => h.elim⟩
theorem u_X9_about (l : Launch) (K : rr_K) (A : Nat → Prop) {co cap room : Nat} {ns wl nf wd : Nat} {kF nF yF WD FL FW TD : Nat → Nat} (x : Int32) (wh : Int32) (hN : NI ns wl nf wd kF nF yF WD FL FW TD) {H0 : Heap} (hA : ∀ q, H0.size ≤ q → A q) (hC : CI K A co cap room ns wl nf wd kF nF yF WD FL FW TD H0) : UX l K A yX9_about wsX9_about (fun _ _ => rmX9_about) [.ref co, .int x, .int wh] co cap room ns ns wl nf wd kF nF yF WD FL FW TD (.int (abtA ns kF nF yF x wh)) H0 := by
  obtain ⟨ca, bh, my, lg, mk, mn, ms, xa, xb, xv, xw, mb, gF, BR, wB, dB, no, sl, wS, wR, wP, wV, wW, pR, bF, yB, gB, ks, pF, kn, nt, lp, ll, g1, g2, g3, TT, rfl, hP, hD, hG, hM, hl, hr, hrb, hBR⟩ := hC
  obtain ⟨hcap, hroom⟩ : cap ≤ 65536 ∧ room ≤ 65536 := ⟨hM.2.2.1, hrb⟩
  have hS9 := hN.1; have hW9 := hN.2.1; have hF9 := hN.2.2.1; have hw1 := hN.2.2.2.1; have hw := hN.2.2.2.2.1; have hTD := hN.2.2.2.2.2
  have hwl := hW9.1; have hnf := hF9.1; have hns := hS9.1
  have hga : ∀ i, i < ns → gF i = some (g1 i) := fun i hi => (hG i hi).1
  refine ⟨cap, room, Nat.le_refl _, Nat.le_refl _, hcap, hroom, ?_⟩
  rw [z3, z327]
  refine Met_or (fun a s h => ?_)
  obtain ⟨ha, hKK, rfl⟩ := h
  cases hx : isS ns x with
  | false => exact ⟨_, _, _, cb_X9_about l K ca bh my lg mk mn ms xa xb xv xw ns wl nf wd room mb cap gF WD FL FW BR TD wB dB no sl wS wR wP wV wW pR bF yB gB ks pF kn lp ll kF nF yF x wh hx, ⟨ha, hKK, hP⟩, PQ_GQ ⟨rfl, CI_mk rfl hP hD hG hM hl hr hrb hBR⟩, fun q h => h.elim⟩
  | true =>
    obtain ⟨j, hj, rfl⟩ := isS_of (by omega) hx
    obtain ⟨hgj, hGP, hGD, hT, hap, _⟩ := hG j hj
    have hA1 := A1_in hD hA
    exact ⟨_, _, _, cg_X9_about l K (va_A (XC K ca bh my lg mk mn ms xa xb xv xw ns wl nf wd room mb cap gF WD FL FW BR TD wB dB no sl wS wR wP wV wW pR bF yB gB ks pF kn lp ll) s.heap.size) s.heap.size ca bh my lg mk mn ms xa xb xv xw ns wl nf wd room mb cap gF WD FL FW BR TD wB dB no sl wS wR wP wV wW pR bF yB gB ks pF kn lp ll kF nF yF j (g1 j) (g2 j) (g3 j) (TT j) wh hS9 hj hgj hT (fun q h => Or.inr h) hD.self (GJ_out hGP hap), ⟨ha, hKK, rfl, hP, hGP⟩, GQ_mono hA1 (fun v H1 hY hF => by
      obtain ⟨hv, pR', hP1, hD1⟩ := hY
      exact ⟨hv, CI_upd hA1 hG rfl hF hP1 hD1 hM hl hr hrb hBR⟩), hA1⟩
theorem u_X9_live (l : Launch) (K : rr_K) (A : Nat → Prop) {co cap room : Nat} {ns wl nf wd : Nat} {kF nF yF WD FL FW TD : Nat → Nat} (x : Int32) (q : Int32) (hN : NI ns wl nf wd kF nF yF WD FL FW TD) {H0 : Heap} (hA : ∀ q, H0.size ≤ q → A q) (hC : CI K A co cap room ns wl nf wd kF nF yF WD FL FW TD H0) : UX l K A yX9_live wsX9_live (fun _ _ => rmX9_live) [.ref co, .int x, .int q] co cap room ns ns wl nf wd kF nF yF WD FL FW TD (.int (livA ns kF nF yF x q)) H0 := by
  obtain ⟨ca, bh, my, lg, mk, mn, ms, xa, xb, xv, xw, mb, gF, BR, wB, dB, no, sl, wS, wR, wP, wV, wW, pR, bF, yB, gB, ks, pF, kn, nt, lp, ll, g1, g2, g3, TT, rfl, hP, hD, hG, hM, hl, hr, hrb, hBR⟩ := hC
  obtain ⟨hcap, hroom⟩ : cap ≤ 65536 ∧ room ≤ 65536 := ⟨hM.2.2.1, hrb⟩
  have hS9 := hN.1; have hW9 := hN.2.1; have hF9 := hN.2.2.1; have hw1 := hN.2.2.2.1; have hw := hN.2.2.2.2.1; have hTD := hN.2.2.2.2.2
  have hwl := hW9.1; have hnf := hF9.1; have hns := hS9.1
  have hga : ∀ i, i < ns → gF i = some (g1 i) := fun i hi => (hG i hi).1
  refine ⟨cap, room, Nat.le_refl _, Nat.le_refl _, hcap, hroom, ?_⟩
  rw [z3, z327]
  refine Met_or (fun a s h => ?_)
  obtain ⟨ha, hKK, rfl⟩ := h
  cases hx : isS ns x with
  | false => exact ⟨_, _, _, cb_X9_live l K ca bh my lg mk mn ms xa xb xv xw ns wl nf wd room mb cap gF WD FL FW BR TD wB dB no sl wS wR wP wV wW pR bF yB gB ks pF kn lp ll kF nF yF x q hx, ⟨ha, hKK, hP⟩, PQ_GQ ⟨rfl, CI_mk rfl hP hD hG hM hl hr hrb hBR⟩, fun q h => h.elim⟩
  | true =>
    obtain ⟨j, hj, rfl⟩ := isS_of (by omega) hx
    obtain ⟨hgj, hGP, hGD, hT, hap, _⟩ := hG j hj
    exact ⟨_, _, _, cg_X9_live l K ca bh my lg mk mn ms xa xb xv xw ns wl nf wd room mb cap gF WD FL FW BR TD wB dB no sl wS wR wP wV wW pR bF yB gB ks pF kn lp ll kF nF yF j (g1 j) (g2 j) (g3 j) (TT j) q hS9 hj hgj hT, ⟨ha, hKK, hP, hGP⟩, PQ_GQ ⟨rfl, CI_mk rfl hP hD hG hM hl hr hrb hBR⟩, fun q h => h.elim⟩
theorem u_X9_may (l : Launch) (K : rr_K) (A : Nat → Prop) {co cap room : Nat} {ns wl nf wd : Nat} {kF nF yF WD FL FW TD : Nat → Nat} (x : Int32) (hN : NI ns wl nf wd kF nF yF WD FL FW TD) {H0 : Heap} (hA : ∀ q, H0.size ≤ q → A q) (hC : CI K A co cap room ns wl nf wd kF nF yF WD FL FW TD H0) : UX l K A yX9_may wsX9_may (fun _ _ => rmX9_may) [.ref co, .int x] co cap room ns ns wl nf wd kF nF yF WD FL FW TD (.int (mayA ns kF nF yF wl WD x)) H0 := by
  obtain ⟨ca, bh, my, lg, mk, mn, ms, xa, xb, xv, xw, mb, gF, BR, wB, dB, no, sl, wS, wR, wP, wV, wW, pR, bF, yB, gB, ks, pF, kn, nt, lp, ll, g1, g2, g3, TT, rfl, hP, hD, hG, hM, hl, hr, hrb, hBR⟩ := hC
  obtain ⟨hcap, hroom⟩ : cap ≤ 65536 ∧ room ≤ 65536 := ⟨hM.2.2.1, hrb⟩
  have hS9 := hN.1; have hW9 := hN.2.1; have hF9 := hN.2.2.1; have hw1 := hN.2.2.2.1; have hw := hN.2.2.2.2.1; have hTD := hN.2.2.2.2.2
  have hwl := hW9.1; have hnf := hF9.1; have hns := hS9.1
  have hga : ∀ i, i < ns → gF i = some (g1 i) := fun i hi => (hG i hi).1
  refine ⟨cap, room, Nat.le_refl _, Nat.le_refl _, hcap, hroom, ?_⟩
  rw [z3, z327]
  refine Met_or (fun a s h => ?_)
  obtain ⟨ha, hKK, rfl⟩ := h
  cases hx : isS ns x with
  | false => exact ⟨_, _, _, cb_X9_may l K ca bh my lg mk mn ms xa xb xv xw ns wl nf wd room mb cap gF WD FL FW BR TD wB dB no sl wS wR wP wV wW pR bF yB gB ks pF kn lp ll kF nF yF x hx, ⟨ha, hKK, hP⟩, PQ_GQ ⟨rfl, CI_mk rfl hP hD hG hM hl hr hrb hBR⟩, fun q h => h.elim⟩
  | true =>
    obtain ⟨j, hj, rfl⟩ := isS_of (by omega) hx
    obtain ⟨hgj, hGP, hGD, hT, hap, _⟩ := hG j hj
    exact ⟨_, _, _, cg_X9_may l K ca bh my lg mk mn ms xa xb xv xw ns wl nf wd room mb cap gF WD FL FW BR TD wB dB no sl wS wR wP wV wW pR bF yB gB ks pF kn lp ll kF nF yF j (g1 j) (g2 j) (g3 j) (TT j) hS9 hj hgj hT hW9, ⟨ha, hKK, hP, hGP⟩, PQ_GQ ⟨rfl, CI_mk rfl hP hD hG hM hl hr hrb hBR⟩, fun q h => h.elim⟩
theorem u_X9_loops (l : Launch) (K : rr_K) (A : Nat → Prop) {co cap room : Nat} {ns wl nf wd : Nat} {kF nF yF WD FL FW TD : Nat → Nat} (x : Int32) (y : Int32) (hN : NI ns wl nf wd kF nF yF WD FL FW TD) {H0 : Heap} (hA : ∀ q, H0.size ≤ q → A q) (hC : CI K A co cap room ns wl nf wd kF nF yF WD FL FW TD H0) : UX l K A yX9_loops wsX9_loops (fun _ _ => rmX9_loops) [.ref co, .int x, .int y] co cap room ns ns wl nf wd kF nF yF WD FL FW TD (.long (looA ns kF nF yF x y)) H0 := by
  obtain ⟨ca, bh, my, lg, mk, mn, ms, xa, xb, xv, xw, mb, gF, BR, wB, dB, no, sl, wS, wR, wP, wV, wW, pR, bF, yB, gB, ks, pF, kn, nt, lp, ll, g1, g2, g3, TT, rfl, hP, hD, hG, hM, hl, hr, hrb, hBR⟩ := hC
  obtain ⟨hcap, hroom⟩ : cap ≤ 65536 ∧ room ≤ 65536 := ⟨hM.2.2.1, hrb⟩
  have hS9 := hN.1; have hW9 := hN.2.1; have hF9 := hN.2.2.1; have hw1 := hN.2.2.2.1; have hw := hN.2.2.2.2.1; have hTD := hN.2.2.2.2.2
  have hwl := hW9.1; have hnf := hF9.1; have hns := hS9.1
  have hga : ∀ i, i < ns → gF i = some (g1 i) := fun i hi => (hG i hi).1
  refine ⟨cap, room, Nat.le_refl _, Nat.le_refl _, hcap, hroom, ?_⟩
  rw [z3, z327]
  refine Met_or (fun a s h => ?_)
  obtain ⟨ha, hKK, rfl⟩ := h
  cases hx : isS ns x with
  | false => exact ⟨_, _, _, cb_X9_loops l K ca bh my lg mk mn ms xa xb xv xw ns wl nf wd room mb cap gF WD FL FW BR TD wB dB no sl wS wR wP wV wW pR bF yB gB ks pF kn lp ll kF nF yF x y hx, ⟨ha, hKK, hP⟩, PQ_GQ ⟨rfl, CI_mk rfl hP hD hG hM hl hr hrb hBR⟩, fun q h => h.elim⟩
  | true =>
    obtain ⟨j, hj, rfl⟩ := isS_of (by omega) hx
    obtain ⟨hgj, hGP, hGD, hT, hap, _⟩ := hG j hj
    have hA1 := A1_in hD hA
    exact ⟨_, _, _, cg_X9_loops l K (va_A (XC K ca bh my lg mk mn ms xa xb xv xw ns wl nf wd room mb cap gF WD FL FW BR TD wB dB no sl wS wR wP wV wW pR bF yB gB ks pF kn lp ll) s.heap.size) s.heap.size ca bh my lg mk mn ms xa xb xv xw ns wl nf wd room mb cap gF WD FL FW BR TD wB dB no sl wS wR wP wV wW pR bF yB gB ks pF kn lp ll kF nF yF j (g1 j) (g2 j) (g3 j) (TT j) y hS9 hj hgj hT (fun q h => Or.inr h) hD.self (GJ_out hGP hap), ⟨ha, hKK, rfl, hP, hGP⟩, GQ_mono hA1 (fun v H1 hY hF => by
      obtain ⟨hv, xa', xb', sF', rF', pF', hP1, hD1⟩ := hY
      exact ⟨hv, CI_upd hA1 hG rfl hF hP1 hD1 hM hl hr hrb hBR⟩), hA1⟩
theorem u_X9_rounds (l : Launch) (K : rr_K) (A : Nat → Prop) {co cap room : Nat} {ns wl nf wd : Nat} {kF nF yF WD FL FW TD : Nat → Nat} (x : Int32) (y : Int32) (hN : NI ns wl nf wd kF nF yF WD FL FW TD) {H0 : Heap} (hA : ∀ q, H0.size ≤ q → A q) (hC : CI K A co cap room ns wl nf wd kF nF yF WD FL FW TD H0) : UX l K A yX9_rounds wsX9_rounds (fun _ _ => rmX9_rounds) [.ref co, .int x, .int y] co cap room ns ns wl nf wd kF nF yF WD FL FW TD (.int (rndA ns kF nF yF x y)) H0 := by
  obtain ⟨ca, bh, my, lg, mk, mn, ms, xa, xb, xv, xw, mb, gF, BR, wB, dB, no, sl, wS, wR, wP, wV, wW, pR, bF, yB, gB, ks, pF, kn, nt, lp, ll, g1, g2, g3, TT, rfl, hP, hD, hG, hM, hl, hr, hrb, hBR⟩ := hC
  obtain ⟨hcap, hroom⟩ : cap ≤ 65536 ∧ room ≤ 65536 := ⟨hM.2.2.1, hrb⟩
  have hS9 := hN.1; have hW9 := hN.2.1; have hF9 := hN.2.2.1; have hw1 := hN.2.2.2.1; have hw := hN.2.2.2.2.1; have hTD := hN.2.2.2.2.2
  have hwl := hW9.1; have hnf := hF9.1; have hns := hS9.1
  have hga : ∀ i, i < ns → gF i = some (g1 i) := fun i hi => (hG i hi).1
  refine ⟨cap, room, Nat.le_refl _, Nat.le_refl _, hcap, hroom, ?_⟩
  rw [z3, z327]
  refine Met_or (fun a s h => ?_)
  obtain ⟨ha, hKK, rfl⟩ := h
  cases hx : isS ns x with
  | false => exact ⟨_, _, _, cb_X9_rounds l K ca bh my lg mk mn ms xa xb xv xw ns wl nf wd room mb cap gF WD FL FW BR TD wB dB no sl wS wR wP wV wW pR bF yB gB ks pF kn lp ll kF nF yF x y hx, ⟨ha, hKK, hP⟩, PQ_GQ ⟨rfl, CI_mk rfl hP hD hG hM hl hr hrb hBR⟩, fun q h => h.elim⟩
  | true =>
    obtain ⟨j, hj, rfl⟩ := isS_of (by omega) hx
    obtain ⟨hgj, hGP, hGD, hT, hap, _⟩ := hG j hj
    have hA1 := A1_in hD hA
    exact ⟨_, _, _, cg_X9_rounds l K (va_A (XC K ca bh my lg mk mn ms xa xb xv xw ns wl nf wd room mb cap gF WD FL FW BR TD wB dB no sl wS wR wP wV wW pR bF yB gB ks pF kn lp ll) s.heap.size) s.heap.size ca bh my lg mk mn ms xa xb xv xw ns wl nf wd room mb cap gF WD FL FW BR TD wB dB no sl wS wR wP wV wW pR bF yB gB ks pF kn lp ll kF nF yF j (g1 j) (g2 j) (g3 j) (TT j) y hS9 hj hgj hT (fun q h => Or.inr h) hD.self (GJ_out hGP hap), ⟨ha, hKK, rfl, hP, hGP⟩, GQ_mono hA1 (fun v H1 hY hF => by
      obtain ⟨hv, wF', dF', hP1, hD1⟩ := hY
      exact ⟨hv, CI_upd hA1 hG rfl hF hP1 hD1 hM hl hr hrb hBR⟩), hA1⟩
theorem u_X9_growth (l : Launch) (K : rr_K) (A : Nat → Prop) {co cap room : Nat} {ns wl nf wd : Nat} {kF nF yF WD FL FW TD : Nat → Nat} (x : Int32) (t : Int32) (wh : Int32) (hN : NI ns wl nf wd kF nF yF WD FL FW TD) {H0 : Heap} (hA : ∀ q, H0.size ≤ q → A q) (hC : CI K A co cap room ns wl nf wd kF nF yF WD FL FW TD H0) : UX l K A yX9_growth wsX9_growth (fun _ _ => rmX9_growth) [.ref co, .int x, .int t, .int wh] co cap room ns ns wl nf wd kF nF yF WD FL FW TD (.long (groA ns kF nF yF x t wh)) H0 := by
  obtain ⟨ca, bh, my, lg, mk, mn, ms, xa, xb, xv, xw, mb, gF, BR, wB, dB, no, sl, wS, wR, wP, wV, wW, pR, bF, yB, gB, ks, pF, kn, nt, lp, ll, g1, g2, g3, TT, rfl, hP, hD, hG, hM, hl, hr, hrb, hBR⟩ := hC
  obtain ⟨hcap, hroom⟩ : cap ≤ 65536 ∧ room ≤ 65536 := ⟨hM.2.2.1, hrb⟩
  have hS9 := hN.1; have hW9 := hN.2.1; have hF9 := hN.2.2.1; have hw1 := hN.2.2.2.1; have hw := hN.2.2.2.2.1; have hTD := hN.2.2.2.2.2
  have hwl := hW9.1; have hnf := hF9.1; have hns := hS9.1
  have hga : ∀ i, i < ns → gF i = some (g1 i) := fun i hi => (hG i hi).1
  refine ⟨cap, room, Nat.le_refl _, Nat.le_refl _, hcap, hroom, ?_⟩
  rw [z3, z327]
  refine Met_or (fun a s h => ?_)
  obtain ⟨ha, hKK, rfl⟩ := h
  cases hx : isS ns x with
  | false => exact ⟨_, _, _, cb_X9_growth l K ca bh my lg mk mn ms xa xb xv xw ns wl nf wd room mb cap gF WD FL FW BR TD wB dB no sl wS wR wP wV wW pR bF yB gB ks pF kn lp ll kF nF yF x t wh hx, ⟨ha, hKK, hP⟩, PQ_GQ ⟨rfl, CI_mk rfl hP hD hG hM hl hr hrb hBR⟩, fun q h => h.elim⟩
  | true =>
    obtain ⟨j, hj, rfl⟩ := isS_of (by omega) hx
    obtain ⟨hgj, hGP, hGD, hT, hap, _⟩ := hG j hj
    have hA1 := A1_in hD hA
    exact ⟨_, _, _, cg_X9_growth l K (va_A (XC K ca bh my lg mk mn ms xa xb xv xw ns wl nf wd room mb cap gF WD FL FW BR TD wB dB no sl wS wR wP wV wW pR bF yB gB ks pF kn lp ll) s.heap.size) s.heap.size ca bh my lg mk mn ms xa xb xv xw ns wl nf wd room mb cap gF WD FL FW BR TD wB dB no sl wS wR wP wV wW pR bF yB gB ks pF kn lp ll kF nF yF j (g1 j) (g2 j) (g3 j) (TT j) t wh hS9 hj hgj hT (fun q h => Or.inr h) hD.self (GJ_out hGP hap), ⟨ha, hKK, rfl, hP, hGP⟩, GQ_mono hA1 (fun v H1 hY hF => by
      obtain ⟨hv, xv', xw', sF', vF', bF', hP1, hD1⟩ := hY
      exact ⟨hv, CI_upd hA1 hG rfl hF hP1 hD1 hM hl hr hrb hBR⟩), hA1⟩
theorem u_X9_part (l : Launch) (K : rr_K) (A : Nat → Prop) {co cap room : Nat} {ns wl nf wd : Nat} {kF nF yF WD FL FW TD : Nat → Nat} (x : Int32) (q : Int32) (hN : NI ns wl nf wd kF nF yF WD FL FW TD) {H0 : Heap} (hA : ∀ q, H0.size ≤ q → A q) (hC : CI K A co cap room ns wl nf wd kF nF yF WD FL FW TD H0) : UX l K A yX9_part wsX9_part (fun _ _ => rmX9_part) [.ref co, .int x, .int q] co cap room ns ns wl nf wd kF nF yF WD FL FW TD (.int (parA ns kF nF yF x q)) H0 := by
  obtain ⟨ca, bh, my, lg, mk, mn, ms, xa, xb, xv, xw, mb, gF, BR, wB, dB, no, sl, wS, wR, wP, wV, wW, pR, bF, yB, gB, ks, pF, kn, nt, lp, ll, g1, g2, g3, TT, rfl, hP, hD, hG, hM, hl, hr, hrb, hBR⟩ := hC
  obtain ⟨hcap, hroom⟩ : cap ≤ 65536 ∧ room ≤ 65536 := ⟨hM.2.2.1, hrb⟩
  have hS9 := hN.1; have hW9 := hN.2.1; have hF9 := hN.2.2.1; have hw1 := hN.2.2.2.1; have hw := hN.2.2.2.2.1; have hTD := hN.2.2.2.2.2
  have hwl := hW9.1; have hnf := hF9.1; have hns := hS9.1
  have hga : ∀ i, i < ns → gF i = some (g1 i) := fun i hi => (hG i hi).1
  refine ⟨cap, room, Nat.le_refl _, Nat.le_refl _, hcap, hroom, ?_⟩
  rw [z3, z327]
  refine Met_or (fun a s h => ?_)
  obtain ⟨ha, hKK, rfl⟩ := h
  cases hx : isS ns x with
  | false => exact ⟨_, _, _, cb_X9_part l K ca bh my lg mk mn ms xa xb xv xw ns wl nf wd room mb cap gF WD FL FW BR TD wB dB no sl wS wR wP wV wW pR bF yB gB ks pF kn lp ll kF nF yF x q hx, ⟨ha, hKK, hP⟩, PQ_GQ ⟨rfl, CI_mk rfl hP hD hG hM hl hr hrb hBR⟩, fun q h => h.elim⟩
  | true =>
    obtain ⟨j, hj, rfl⟩ := isS_of (by omega) hx
    obtain ⟨hgj, hGP, hGD, hT, hap, _⟩ := hG j hj
    have hA1 := A1_in hD hA
    exact ⟨_, _, _, cg_X9_part l K (va_A (XC K ca bh my lg mk mn ms xa xb xv xw ns wl nf wd room mb cap gF WD FL FW BR TD wB dB no sl wS wR wP wV wW pR bF yB gB ks pF kn lp ll) s.heap.size) s.heap.size ca bh my lg mk mn ms xa xb xv xw ns wl nf wd room mb cap gF WD FL FW BR TD wB dB no sl wS wR wP wV wW pR bF yB gB ks pF kn lp ll kF nF yF j (g1 j) (g2 j) (g3 j) (TT j) q hS9 hj hgj hT (fun q h => Or.inr h) hD.self (GJ_out hGP hap), ⟨ha, hKK, rfl, hP, hGP⟩, GQ_mono hA1 (fun v H1 hY hF => by
      obtain ⟨hv, pR', hP1, hD1⟩ := hY
      exact ⟨hv, CI_upd hA1 hG rfl hF hP1 hD1 hM hl hr hrb hBR⟩), hA1⟩
theorem u_X9_pace (l : Launch) (K : rr_K) (A : Nat → Prop) {co cap room : Nat} {ns wl nf wd : Nat} {kF nF yF WD FL FW TD : Nat → Nat} (x : Int32) (q : Int32) (hN : NI ns wl nf wd kF nF yF WD FL FW TD) {H0 : Heap} (hA : ∀ q, H0.size ≤ q → A q) (hC : CI K A co cap room ns wl nf wd kF nF yF WD FL FW TD H0) : UX l K A yX9_pace wsX9_pace (fun _ _ => rmX9_pace) [.ref co, .int x, .int q] co cap room ns ns wl nf wd kF nF yF WD FL FW TD (.int (pacA ns kF nF yF x q)) H0 := by
  obtain ⟨ca, bh, my, lg, mk, mn, ms, xa, xb, xv, xw, mb, gF, BR, wB, dB, no, sl, wS, wR, wP, wV, wW, pR, bF, yB, gB, ks, pF, kn, nt, lp, ll, g1, g2, g3, TT, rfl, hP, hD, hG, hM, hl, hr, hrb, hBR⟩ := hC
  obtain ⟨hcap, hroom⟩ : cap ≤ 65536 ∧ room ≤ 65536 := ⟨hM.2.2.1, hrb⟩
  have hS9 := hN.1; have hW9 := hN.2.1; have hF9 := hN.2.2.1; have hw1 := hN.2.2.2.1; have hw := hN.2.2.2.2.1; have hTD := hN.2.2.2.2.2
  have hwl := hW9.1; have hnf := hF9.1; have hns := hS9.1
  have hga : ∀ i, i < ns → gF i = some (g1 i) := fun i hi => (hG i hi).1
  refine ⟨cap, room, Nat.le_refl _, Nat.le_refl _, hcap, hroom, ?_⟩
  rw [z3, z327]
  refine Met_or (fun a s h => ?_)
  obtain ⟨ha, hKK, rfl⟩ := h
  cases hx : isS ns x with
  | false => exact ⟨_, _, _, cb_X9_pace l K ca bh my lg mk mn ms xa xb xv xw ns wl nf wd room mb cap gF WD FL FW BR TD wB dB no sl wS wR wP wV wW pR bF yB gB ks pF kn lp ll kF nF yF x q hx, ⟨ha, hKK, hP⟩, PQ_GQ ⟨rfl, CI_mk rfl hP hD hG hM hl hr hrb hBR⟩, fun q h => h.elim⟩
  | true =>
    obtain ⟨j, hj, rfl⟩ := isS_of (by omega) hx
    obtain ⟨hgj, hGP, hGD, hT, hap, _⟩ := hG j hj
    have hA1 := A1_in hD hA
    exact ⟨_, _, _, cg_X9_pace l K (va_A (XC K ca bh my lg mk mn ms xa xb xv xw ns wl nf wd room mb cap gF WD FL FW BR TD wB dB no sl wS wR wP wV wW pR bF yB gB ks pF kn lp ll) s.heap.size) s.heap.size ca bh my lg mk mn ms xa xb xv xw ns wl nf wd room mb cap gF WD FL FW BR TD wB dB no sl wS wR wP wV wW pR bF yB gB ks pF kn lp ll kF nF yF j (g1 j) (g2 j) (g3 j) (TT j) q hS9 hj hgj hT (fun q h => Or.inr h) hD.self (GJ_out hGP hap), ⟨ha, hKK, rfl, hP, hGP⟩, GQ_mono hA1 (fun v H1 hY hF => by
      obtain ⟨hv, pR', pF', hP1, hD1⟩ := hY
      exact ⟨hv, CI_upd hA1 hG rfl hF hP1 hD1 hM hl hr hrb hBR⟩), hA1⟩
theorem u_X9_weights (l : Launch) (K : rr_K) (A : Nat → Prop) {co cap room : Nat} {ns wl nf wd : Nat} {kF nF yF WD FL FW TD : Nat → Nat} (x : Int32) (p9 : Int32) (q9 : Int32) (m9 : Int32) (hN : NI ns wl nf wd kF nF yF WD FL FW TD) {H0 : Heap} (hA : ∀ q, H0.size ≤ q → A q) (hC : CI K A co cap room ns wl nf wd kF nF yF WD FL FW TD H0) : UX l K A yX9_weights wsX9_weights (fun _ _ => rmX9_weights) [.ref co, .int x, .int p9, .int q9, .int m9] co cap room ns ns wl nf wd kF nF yF WD FL FW TD (.int (wgsA ns kF nF yF x p9 q9 m9)) H0 := by
  obtain ⟨ca, bh, my, lg, mk, mn, ms, xa, xb, xv, xw, mb, gF, BR, wB, dB, no, sl, wS, wR, wP, wV, wW, pR, bF, yB, gB, ks, pF, kn, nt, lp, ll, g1, g2, g3, TT, rfl, hP, hD, hG, hM, hl, hr, hrb, hBR⟩ := hC
  obtain ⟨hcap, hroom⟩ : cap ≤ 65536 ∧ room ≤ 65536 := ⟨hM.2.2.1, hrb⟩
  have hS9 := hN.1; have hW9 := hN.2.1; have hF9 := hN.2.2.1; have hw1 := hN.2.2.2.1; have hw := hN.2.2.2.2.1; have hTD := hN.2.2.2.2.2
  have hwl := hW9.1; have hnf := hF9.1; have hns := hS9.1
  have hga : ∀ i, i < ns → gF i = some (g1 i) := fun i hi => (hG i hi).1
  refine ⟨cap, room, Nat.le_refl _, Nat.le_refl _, hcap, hroom, ?_⟩
  rw [z3, z327]
  refine Met_or (fun a s h => ?_)
  obtain ⟨ha, hKK, rfl⟩ := h
  cases hx : isS ns x with
  | false => exact ⟨_, _, _, cb_X9_weights l K ca bh my lg mk mn ms xa xb xv xw ns wl nf wd room mb cap gF WD FL FW BR TD wB dB no sl wS wR wP wV wW pR bF yB gB ks pF kn lp ll kF nF yF x p9 q9 m9 hx, ⟨ha, hKK, hP⟩, PQ_GQ ⟨rfl, CI_mk rfl hP hD hG hM hl hr hrb hBR⟩, fun q h => h.elim⟩
  | true =>
    obtain ⟨j, hj, rfl⟩ := isS_of (by omega) hx
    obtain ⟨hgj, hGP, hGD, hT, hap, _⟩ := hG j hj
    have hA1 := A1_in hD hA
    exact ⟨_, _, _, cg_X9_weights l K (va_A (XC K ca bh my lg mk mn ms xa xb xv xw ns wl nf wd room mb cap gF WD FL FW BR TD wB dB no sl wS wR wP wV wW pR bF yB gB ks pF kn lp ll) s.heap.size) s.heap.size ca bh my lg mk mn ms xa xb xv xw ns wl nf wd room mb cap gF WD FL FW BR TD wB dB no sl wS wR wP wV wW pR bF yB gB ks pF kn lp ll kF nF yF j (g1 j) (g2 j) (g3 j) (TT j) p9 q9 m9 hS9 hj hgj hT (fun q h => Or.inr h) hD.self (GJ_out hGP hap), ⟨ha, hKK, rfl, hP, hGP⟩, GQ_mono hA1 (fun v H1 hY hF => by
      obtain ⟨hv, xa', xb', xv', xw', sF', rF', pF', vF', bF', hP1, hD1⟩ := hY
      exact ⟨hv, CI_upd hA1 hG rfl hF hP1 hD1 hM hl hr hrb hBR⟩), hA1⟩
theorem u_X9_weight (l : Launch) (K : rr_K) (A : Nat → Prop) {co cap room : Nat} {ns wl nf wd : Nat} {kF nF yF WD FL FW TD : Nat → Nat} (x : Int32) (p9 : Int32) (q9 : Int32) (m9 : Int32) (s9 : Int32) (hN : NI ns wl nf wd kF nF yF WD FL FW TD) {H0 : Heap} (hA : ∀ q, H0.size ≤ q → A q) (hC : CI K A co cap room ns wl nf wd kF nF yF WD FL FW TD H0) : UX l K A yX9_weight wsX9_weight (fun _ _ => rmX9_weight) [.ref co, .int x, .int p9, .int q9, .int m9, .int s9] co cap room ns ns wl nf wd kF nF yF WD FL FW TD (.int (wgtA ns kF nF yF x p9 q9 m9 s9)) H0 := by
  obtain ⟨ca, bh, my, lg, mk, mn, ms, xa, xb, xv, xw, mb, gF, BR, wB, dB, no, sl, wS, wR, wP, wV, wW, pR, bF, yB, gB, ks, pF, kn, nt, lp, ll, g1, g2, g3, TT, rfl, hP, hD, hG, hM, hl, hr, hrb, hBR⟩ := hC
  obtain ⟨hcap, hroom⟩ : cap ≤ 65536 ∧ room ≤ 65536 := ⟨hM.2.2.1, hrb⟩
  have hS9 := hN.1; have hW9 := hN.2.1; have hF9 := hN.2.2.1; have hw1 := hN.2.2.2.1; have hw := hN.2.2.2.2.1; have hTD := hN.2.2.2.2.2
  have hwl := hW9.1; have hnf := hF9.1; have hns := hS9.1
  have hga : ∀ i, i < ns → gF i = some (g1 i) := fun i hi => (hG i hi).1
  refine ⟨cap, room, Nat.le_refl _, Nat.le_refl _, hcap, hroom, ?_⟩
  rw [z3, z327]
  refine Met_or (fun a s h => ?_)
  obtain ⟨ha, hKK, rfl⟩ := h
  cases hx : isS ns x with
  | false => exact ⟨_, _, _, cb_X9_weight l K ca bh my lg mk mn ms xa xb xv xw ns wl nf wd room mb cap gF WD FL FW BR TD wB dB no sl wS wR wP wV wW pR bF yB gB ks pF kn lp ll kF nF yF x p9 q9 m9 s9 hx, ⟨ha, hKK, hP⟩, PQ_GQ ⟨rfl, CI_mk rfl hP hD hG hM hl hr hrb hBR⟩, fun q h => h.elim⟩
  | true =>
    obtain ⟨j, hj, rfl⟩ := isS_of (by omega) hx
    obtain ⟨hgj, hGP, hGD, hT, hap, _⟩ := hG j hj
    have hA1 := A1_in hD hA
    exact ⟨_, _, _, cg_X9_weight l K (va_A (XC K ca bh my lg mk mn ms xa xb xv xw ns wl nf wd room mb cap gF WD FL FW BR TD wB dB no sl wS wR wP wV wW pR bF yB gB ks pF kn lp ll) s.heap.size) s.heap.size ca bh my lg mk mn ms xa xb xv xw ns wl nf wd room mb cap gF WD FL FW BR TD wB dB no sl wS wR wP wV wW pR bF yB gB ks pF kn lp ll kF nF yF j (g1 j) (g2 j) (g3 j) (TT j) p9 q9 m9 s9 hS9 hj hgj hT (fun q h => Or.inr h) hD.self (GJ_out hGP hap), ⟨ha, hKK, rfl, hP, hGP⟩, GQ_mono hA1 (fun v H1 hY hF => by
      obtain ⟨hv, xa', xb', xv', xw', sF', rF', pF', vF', bF', hP1, hD1⟩ := hY
      exact ⟨hv, CI_upd hA1 hG rfl hF hP1 hD1 hM hl hr hrb hBR⟩), hA1⟩
end
