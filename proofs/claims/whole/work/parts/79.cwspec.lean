section
variable {p : Program} {l : Launch} {e : Env} {R : Room} {s : State} {m : MethodId} {args : Array Value} {below : List Frame} {meth : Method} {c : Code} {H : Heap} {locs : List Loc} {cells slots : Nat} {Q : State → Prop}
variable {cc : ByteArray} {pc : Nat} {ls : Array Slot} {rest : List Value}
variable {K : rr_K} {ws ws' : va_W} {A : Nat → Prop} {H0 : Heap} {a : Nat}
theorem nv_astq (hx : p.tables.exec = Jvm.exec) (hb : c.code = cc) (hKK : KK K s) (hP : va_P K.1 vwCl ws H) (hD : va_D A ws) (hS : va_S A H0 H locs) (q0 qk : Nat) {n v : Nat} {f : Nat → Option Nat} {vs : List Value} (ha : ws[q0]? = some (a, .inl (K.2.2.2, n, .inr (.inr (.inr (.inr f)))))) (hv : ws[qk]? = some (v, .inr (1, vs))) {i : Nat} (hi : i < n) (hn : n < 2 ^ 31) (hw : ws.set q0 (a, .inl (K.2.2.2, n, .inr (.inr (.inr (.inr (va_up f i (some v))))))) = ws') (hdg : decode cc pc = .ok (.aastore, 1))
    (k : ∀ (H1 : Heap) (locs1 : List Loc), va_P K.1 vwCl ws' H1 → va_D A ws' → va_S A H0 H1 locs1 → W p l e R s m args below meth c H1 locs1 cells slots Q (F0 m (pc + 1) ls rest)) : W p l e R s m args below meth c H locs cells slots Q (F0 m pc ls (.ref v :: .int (nI i) :: .ref a :: rest)) := by
  refine va_astq (r := (RX1, TX1, 7)) hx hb hKK.1 hP hD hS q0 2 qk 1 ha rfl hv rfl (vp_in_nI hi hn) hdg (fun H1 locs1 h1 h2 h3 => ?_)
  rw [nI_clamp (Nat.lt_trans hi hn), hw] at h1 h2
  exact k H1 locs1 h1 h2 h3
theorem nv_newq (hx : p.tables.exec = Jvm.exec) (hb : c.code = cc) {own : String} {index : Nat} (hown : s.vm.findClass own = some m.cls) (hclink : (Cond.classLink own index "RowRules$Graph").before args s = true) (hAO : va_AO "RowRules$Graph" s) (hKK : KK K s) (hP : va_P K.1 vwCl ws H) (hD : va_D A ws) (hS : va_S A H0 H locs) (hA : ∀ q, H0.size ≤ q → A q) {n : Nat} (hn : n ≤ 134217728) (hcells : cells + 1 ≤ R.cells) (hslots : slots + n ≤ R.slots) (hdg : decode cc pc = .ok (.anewarray index, 3))
    (k : ∀ (q : Nat) (H1 : Heap), va_P K.1 vwCl (ws ++ [(q, .inl (K.2.2.2, n, .inr (.inr (.inr (.inr (fun _ => none))))))]) H1 → va_D A (ws ++ [(q, .inl (K.2.2.2, n, .inr (.inr (.inr (.inr (fun _ => none))))))]) → va_S A H0 H1 locs → W p l e R s m args below meth c H1 locs (cells + 1) (slots + n) Q (F0 m (pc + 3) ls (.ref q :: rest))) : W p l e R s m args below meth c H locs cells slots Q (F0 m pc ls (.int (nI n) :: rest)) := by
  have hn31 : n < 2 ^ 31 := by omega
  refine va_newq (C := "RowRules$Graph") (N' := n) hx hb hown hclink hAO hKK.1 hP hD hS hA (nI_pos hn31) (nI_clamp hn31) (by omega) hcells hslots hdg (fun q cA H1 hK1 hP1 hD1 hS1 => ?_)
  obtain ⟨_, _, _, _, _, e1⟩ := (hKK.1.2 2 (K.2.2.2, .object "RowRules$Graph") rfl).2
  obtain ⟨_, _, _, _, _, e2⟩ := (hK1.2 3 (cA, .object "RowRules$Graph") rfl).2
  have e3 : K.2.2.2 = cA := Option.some.inj (e1.symm.trans e2)
  subst e3
  exact k q H1 hP1 hD1 hS1
end
section
/-! the class as a whole: its cells but those of its sets -/
def XC (K : rr_K) (ca : Nat → Nat) (bh my lg mk mn ms xa xb xv xw ns wl nf wd room mb cap : Nat) (gF : Nat → Option Nat) (WD FL FW BR TD wB dB no sl wS wR wP wV wW pR : Nat → Nat) (bF : Nat → Int32) (yB gB : Nat → Int64) (ks pF : Nat → Int32) (kn : List Nat) (lp ll : Int32) : va_W := [(ca 0, .inr (9, [.ref (ca 1), .int (nI ns), .ref (ca 2), .int (nI wl), .ref (ca 3), .ref (ca 7), .ref (ca 9), .ref (ca 14), .ref (ca 13), .ref (ca 15), .ref (ca 17)])), (ca 1, .inl (K.2.2.2, 6, .inr (.inr (.inr (.inr gF))))), (ca 2, .inl (K.2.1, 30, .inl (fun j => nI (WD j)))),
  (ca 3, .inr (0, [.int (nI nf), .ref (ca 4), .ref (ca 5), .ref (ca 6)])), (ca 4, .inl (K.2.1, 8, .inl (fun j => nI (FL j)))), (ca 5, .inl (K.2.1, 40, .inl (fun j => nI (FW j)))), (ca 6, .inl (K.2.1, 5, .inl (fun j => nI (BR j)))),
  (ca 7, .inr (4, [.int (nI wd), .ref (ca 8)])), (ca 8, .inl (K.2.1, 64, .inl (fun j => nI (TD j)))),
  (ca 9, .inr (8, [.ref (ca 12), .ref bh, .ref my, .ref lg, .ref (ca 10), .ref (ca 11)])), (bh, .inl (K.2.1, 4 * room, .inl bF)), (my, .inl (K.2.2.1, room, .inr (.inl yB))), (lg, .inl (K.2.2.1, room, .inr (.inl gB))), (ca 10, .inl (K.2.1, 7, .inl (fun j => nI (wB j)))), (ca 11, .inl (K.2.1, 8, .inl (fun j => nI (dB j)))),
  (ca 12, .inr (3, [.int (nI (kn.map nI).length), .ref mk, .ref mn, .ref ms, .int (nI mb)])), (mk, .inl (K.2.1, cap, .inl ks)), (mn, .inl (K.2.1, cap, .inl (fun j => nI (no j)))), (ms, .inl (K.2.1, 2 * cap, .inl (fun j => nI (sl j)))),
  (ca 13, .inr (2, [.ref (ca 12)])), (ca 14, .inr (5, [.ref (ca 12), .int lp, .int ll])),
  (ca 15, .inr (7, [.ref (ca 16), .ref xa, .ref xb, .ref xv, .ref xw])), (ca 16, .inl (K.2.2.1, 256, .inr (.inl (fun j => lN (wS j))))), (xa, .inl (K.2.2.1, 256, .inr (.inl (fun j => lN (wR j))))), (xb, .inl (K.2.2.1, 256, .inr (.inl (fun j => lN (wP j))))), (xv, .inl (K.2.2.1, 16, .inr (.inl (fun j => lN (wV j))))), (xw, .inl (K.2.2.1, 16, .inr (.inl (fun j => lN (wW j))))),
  (ca 17, .inr (6, [.ref (ca 18), .ref (ca 19)])), (ca 18, .inl (K.2.1, 16, .inl (fun j => nI (pR j)))), (ca 19, .inl (K.2.1, 16, .inl pF))]
/-- a set of the class, as its numbers tell it -/
def GJ (K : rr_K) (go ge gt : Nat) (kF nF yF : Nat → Nat) (j : Nat) (T : Nat → Nat) : va_W := GW K go ge gt (kF j) (nF j) (waysS (kF j) (nF j) (Es yF j)) (liveS (kF j) (nF j) (Es yF j)) (lwS (kF j) (nF j) (liveS (kF j) (nF j) (Es yF j)) (Es yF j)) (Es yF j) T
def TJ (kF nF yF : Nat → Nat) (j : Nat) (T : Nat → Nat) : Prop := TInv (kF j) (nF j) (liveS (kF j) (nF j) (Es yF j)) (Es yF j) T
end
