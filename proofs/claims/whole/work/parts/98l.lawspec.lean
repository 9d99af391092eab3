section
/-! the two sides beside each other -/
/-- the class has all that is new but the model's cells -/
def CA (s0 : Nat) (M : Nat → Prop) : Nat → Prop := fun q => s0 ≤ q ∧ ¬ M q
/-- the law's standing at the head of its loop -/
def LI (K : rr_K) (s0 : Nat) (M : Nat → Prop) (co om : Nat) (H : Heap) (nc nsl : Nat) : Prop := ∃ (cap room : Nat) (ns wl nf wd : Nat) (kF nF yF WD FL FW TD : Nat → Nat), NI ns wl nf wd kF nF yF WD FL FW TD ∧ CI K (CA s0 M) co cap room ns wl nf wd kF nF yF WD FL FW TD H ∧ MI K M om ns wl nf wd kF nF yF WD FL FW TD H ∧ cap ≤ 65536 ∧ room ≤ 65536 ∧ nc ≤ 60 + 3 * ns + cap + room ∧ nsl ≤ 500000 + 327 * ns + 8 * cap + 12 * room
theorem CI_recv {K : rr_K} {A : Nat → Prop} {co cap room : Nat} {ns wl nf wd : Nat} {kF nF yF WD FL FW TD : Nat → Nat} {H : Heap} {s : State} (hKK : KK K s) (hC : CI K A co cap room ns wl nf wd kF nF yF WD FL FW TD H) : ∃ cell : Cell, H[co]? = some cell ∧ cell.vm.isStatics = false ∧ s.vm.findClass RX9 = some cell.cls := by
  obtain ⟨ca, bh, my, lg, mk, mn, ms, xa, xb, xv, xw, mb, gF, BR, wB, dB, no, sl, wS, wR, wP, wV, wW, pR, bF, yB, gB, ks, pF, kn, nt, lp, ll, g1, g2, g3, TT, rfl, hP, _⟩ := hC
  exact va_recv hKK.1 hP (ci := 9) (q0 := 0) rfl rfl
theorem MI_recv {K : rr_K} {A : Nat → Prop} {om : Nat} {ns wl nf wd : Nat} {kF nF yF WD FL FW TD : Nat → Nat} {H : Heap} {s : State} (hKK : KK K s) (hC : MI K A om ns wl nf wd kF nF yF WD FL FW TD H) : ∃ cell : Cell, H[om]? = some cell ∧ cell.vm.isStatics = false ∧ s.vm.findClass RX10 = some cell.cls := by
  obtain ⟨ad, mt, RW, pl, nw, xt, vF, wF, qF, bY, gF, nm, xm, fR, oF, hF, dF, hP, _⟩ := hC
  exact va_recv hKK.1 hP (ci := 10) (q0 := 0) rfl rfl
theorem CI_keep {K : rr_K} {A B : Nat → Prop} {co cap room : Nat} {ns wl nf wd : Nat} {kF nF yF WD FL FW TD : Nat → Nat} {H H1 : Heap} (hC : CI K A co cap room ns wl nf wd kF nF yF WD FL FW TD H) (hF : ∀ q : Nat, q < H.size → ¬ B q → H1[q]? = H[q]?) (hx : ∀ q, A q → ¬ B q) : CI K A co cap room ns wl nf wd kF nF yF WD FL FW TD H1 := by
  obtain ⟨ca, bh, my, lg, mk, mn, ms, xa, xb, xv, xw, mb, gF, BR, wB, dB, no, sl, wS, wR, wP, wV, wW, pR, bF, yB, gB, ks, pF, kn, nt, lp, ll, g1, g2, g3, TT, h0, hP, hD, hG, hM, hl, hr, hrb, hBR⟩ := hC
  exact CI_mk h0 (P_keep hP hF (fun q hq => hx q (D_AW hD hq))) hD (CG_frame hG hF hx) hM hl hr hrb hBR
theorem MI_keep {K : rr_K} {A B : Nat → Prop} {om : Nat} {ns wl nf wd : Nat} {kF nF yF WD FL FW TD : Nat → Nat} {H H1 : Heap} (hC : MI K A om ns wl nf wd kF nF yF WD FL FW TD H) (hFr : ∀ q : Nat, q < H.size → ¬ B q → H1[q]? = H[q]?) (hx : ∀ q, A q → ¬ B q) : MI K A om ns wl nf wd kF nF yF WD FL FW TD H1 := by
  obtain ⟨ad, mt, RW, pl, nw, xt, vF, wF, qF, bY, gF, nm, xm, fR, oF, hF, dF, hP, hD, hpl⟩ := hC
  exact ⟨ad, mt, RW, pl, nw, xt, vF, wF, qF, bY, gF, nm, xm, fR, oF, hF, dF, P_keep hP hFr (fun q hq => hx q (D_AW hD hq)), hD, hpl⟩
theorem MA_CA {s0 : Nat} {M : Nat → Prop} : ∀ q, M q → ¬ CA s0 M q := fun _ h h2 => h2.2 h
theorem CA_MA {s0 : Nat} {M : Nat → Prop} : ∀ q, CA s0 M q → ¬ M q := fun _ h h2 => h.2 h2
theorem MInv_0 : MInv (([] : List Nat).map nI) [] 64 1 (fun _ => nI 0) (fun _ => 0) (fun _ => 0) := by
  refine ⟨by decide, by decide, by decide, ⟨6, rfl⟩, List.nodup_nil, rfl, fun j h => absurd h (Nat.not_lt_zero j), fun j h => absurd h (Nat.not_lt_zero j), Nat.le_refl _, by decide, ?_⟩
  exact ⟨fun _ _ => Nat.lt_add_right _ Nat.zero_lt_one, fun _ _ _ _ h _ => absurd h (Nat.not_succ_le_zero 0), fun i h => absurd h (Nat.not_lt_zero i)⟩
/-- the class as it was made -/
theorem CI_0 {K : rr_K} {A : Nat → Prop} {ca : Nat → Nat} {bh my lg mk mn ms xa xb xv xw : Nat} {H : Heap} (hP : va_P K.1 vwCl (XC K ca bh my lg mk mn ms xa xb xv xw 0 0 0 1 1 1 64 (fun _ => none) (fun _ => 0) (fun _ => 0) (fun _ => 0) (fun _ => 0) (fun _ => 0) (fun _ => 0) (fun _ => 0) (fun _ => 0) (fun _ => 0) (fun _ => 0) (fun _ => 0) (fun _ => 0) (fun _ => 0) (fun _ => 0) (fun _ => 0) (fun _ => nI 0) (fun _ => 0) (fun _ => 0) (fun _ => nI 0) (fun _ => nI 0) ([] : List Nat) (nI 0) (nI 0)) H) (hD : va_D A (XC K ca bh my lg mk mn ms xa xb xv xw 0 0 0 1 1 1 64 (fun _ => none) (fun _ => 0) (fun _ => 0) (fun _ => 0) (fun _ => 0) (fun _ => 0) (fun _ => 0) (fun _ => 0) (fun _ => 0) (fun _ => 0) (fun _ => 0) (fun _ => 0) (fun _ => 0) (fun _ => 0) (fun _ => 0) (fun _ => 0) (fun _ => nI 0) (fun _ => 0) (fun _ => 0) (fun _ => nI 0) (fun _ => nI 0) ([] : List Nat) (nI 0) (nI 0))) : CI K A (ca 0) 64 1 0 0 0 1 (fun _ => 0) (fun _ => 0) (fun _ => 0) (fun _ => 0) (fun _ => 0) (fun _ => 0) (fun _ => 0) H := CI_mk (g1 := fun _ => 0) (g2 := fun _ => 0) (g3 := fun _ => 0) (TT := fun _ _ => 0) rfl hP hD (fun i h => absurd h (Nat.not_lt_zero i)) MInv_0 (by decide) ⟨0, rfl⟩ (by decide) (fun _ _ => Nat.zero_lt_succ _)
theorem NI_0 : NI 0 0 0 1 (fun _ => 0) (fun _ => 0) (fun _ => 0) (fun _ => 0) (fun _ => 0) (fun _ => 0) (fun _ => 0) := ⟨⟨Nat.zero_le _, fun j h => absurd h (Nat.not_lt_zero j)⟩, ⟨Nat.zero_le _, fun j h => absurd h (Nat.not_lt_zero j)⟩, ⟨Nat.zero_le _, fun j h => absurd h (Nat.not_lt_zero j)⟩, Nat.le_refl _, by decide, fun _ _ => Nat.zero_lt_succ _⟩
theorem cond_ge (d : Bool) (n : Nat) : n ≤ cond d (n + 1) n := by cases d <;> simp
theorem W_out {A : Nat → Prop} {D : va_G} {cl : List vw_C} {w w2 : va_W} {H : Heap} (hD : va_D A (w ++ w2)) (hP : va_P D cl w H) : ∀ q, AW w q → ¬ va_A w2 H.size q := fun q hq h => h.elim (fun z => by
  obtain ⟨k, e, hk⟩ := z
  exact rr_apart hD k (q, e) hk hq) (fun z => by
  have := AW_lt hP hq
  omega)
variable {p : Program} {l : Launch} {e : Env} {R : Room} {s : State} {m : MethodId} {args : Array Value} {below : List Frame} {meth : Method} {c : Code} {H : Heap} {locs : List Loc} {cells slots : Nat} {Q : State → Prop} {cc : ByteArray} {pc : Nat} {ls : Array Slot} {rest : List Value} {A : Nat → Prop}
/-- a place of the script -/
theorem sc_ld (hx : p.tables.exec = Jvm.exec) (hb : c.code = cc) {b L : Nat} {xs : Nat → Int32} (hX : va_X b L xs s s.heap) (hbl : b < s.heap.size) (hbA : ¬ A b) (hS : va_S A s.heap H locs) (hL : L ≤ 3072) {i : Nat} (hi : i < L) (hdg : decode cc pc = .ok (.iaload, 1))
    (k : W p l e R s m args below meth c H locs cells slots Q (F0 m (pc + 1) ls (.int (xs i) :: rest))) : W p l e R s m args below meth c H locs cells slots Q (F0 m pc ls (.int (nI i) :: .ref b :: rest)) := by
  refine va_sld hx hb hX hbl hbA hS (vp_in_nI hi (by omega)) hdg ?_
  rw [nI_clamp (show i < 2 ^ 31 by omega)]
  exact k
end
