section
/-! the class and its sets, as they stand between two calls -/
theorem Met_or {l : Launch} {y : MethodName} {ws : List Cond} {rm : Room} {Pc : Array Value → State → Prop} {Qc : Array Value → State → Outcome → State → Prop} {mc ms : Nat} {free : Addr → Prop} (h : ∀ a s, Pc a s → ∃ (Pc1 : Array Value → State → Prop) (Qc1 : Array Value → State → Outcome → State → Prop) (free1 : Addr → Prop), Met l y ws rm Pc1 Qc1 mc ms free1 ∧ Pc1 a s ∧ (∀ o t, Qc1 a s o t → Qc a s o t) ∧ ∀ q, free1 q → free q) : Met l y ws rm Pc Qc mc ms free := by
  intro p e h1 h2 h3 s m args below hf ha hP hK
  obtain ⟨Pc1, Qc1, free1, hM, hP1, hq, hfr⟩ := h args s hP
  obtain ⟨n, o, g1, g2, g3, g4, L, g5, g6⟩ := hM p e h1 h2 h3 s m args below hf ha hP1 hK
  exact ⟨n, o, g1, g2, g3, hq _ _ g4, L, g5, fun q hq => hfr _ (g6 q hq)⟩
theorem lvE_congr {al q y : Nat} {E E' : Nat → Nat} (h : ∀ i, i < 64 → E i = E' i) (hq : q < 16) (hy : y < 4) : lvE al E q y = lvE al E' q y := by
  unfold lvE
  rw [h _ (by omega)]
theorem lO_congr {k al q : Nat} {E E' : Nat → Nat} (h : ∀ i, i < 64 → E i = E' i) (hk : k ≤ 4) (hq : q < 16) : lO k al E q = lO k al E' q := orN_congr (fun y hy => lvE_congr h hq (by omega))
theorem live_congr {k n : Nat} {E E' : Nat → Nat} (h : ∀ i, i < 64 → E i = E' i) (hk : k ≤ 4) (hn : n ≤ 16) : liveS k n E = liveS k n E' := by
  have e : lst k n E = lst k n E' := funext fun al => by
    unfold lst
    rw [orN_congr (f := ldg (lO k al E)) (g := ldg (lO k al E')) (fun q hq => by unfold ldg; rw [lO_congr h hk (by omega)]), orN_congr (f := lO k al E) (g := lO k al E') (fun q hq => lO_congr h hk (by omega))]
  unfold liveS
  rw [e]
theorem ways_congr {k n : Nat} {E E' : Nat → Nat} (h : ∀ i, i < 64 → E i = E' i) (hk : k ≤ 4) (hn : n ≤ 16) : waysS k n E = waysS k n E' := sN_congr (fun q hq => sN_congr (fun y hy => by rw [h _ (by omega)]))
theorem lw_congr {k n al : Nat} {E E' : Nat → Nat} (h : ∀ i, i < 64 → E i = E' i) (hk : k ≤ 4) (hn : n ≤ 16) : lwS k n al E = lwS k n al E' := sN_congr (fun q hq => sN_congr (fun y hy => by rw [lvE_congr h (by omega) (by omega)]))
theorem T_congr {k n al : Nat} {E E' T : Nat → Nat} (h : ∀ i, i < 64 → E i = E' i) (hk : k ≤ 4) (hn : n ≤ 16) (hT : TInv k n al E T) : TInv k n al E' T := by
  refine ⟨hT.1, fun y g x hy hg hx => ?_⟩
  rw [hT.2 y g x hy hg hx]
  unfold gdT
  refine orN_congr (fun j hj => ?_)
  by_cases c : x.testBit j = true
  · rw [if_pos c, if_pos c]
    by_cases d : 4 * g + j < n
    · rw [if_pos d, if_pos d, lvE_congr h (by omega) (by omega)]
    · rw [if_neg d, if_neg d]
  · rw [if_neg c, if_neg c]
theorem GW_E {K : rr_K} {go ge gt k n w al lw : Nat} {E E' T : Nat → Nat} {H : Heap} (h : ∀ i, i < 64 → E i = E' i) (hP : va_P K.1 vwCl (GW K go ge gt k n w al lw E T) H) : va_P K.1 vwCl (GW K go ge gt k n w al lw E' T) H := by
  intro i q hq
  match i, hq with
  | 0, hq => exact hP 0 q hq
  | 1, hq =>
    obtain rfl := Option.some.inj hq
    have h1 := hP 1 _ rfl
    have e : vp_cell K.2.1 (64, .inl (fun j => nI (E' j))) = vp_cell K.2.1 (64, .inl (fun j => nI (E j))) := by
      rw [vp_cell_i, vp_cell_i]
      unfold arrV
      congr 2
      funext j
      exact congrArg (fun z => Value.int (nI z)) (h j.val j.isLt).symm
    show H[ge]? = some (vp_cell K.2.1 (64, .inl (fun j => nI (E' j))))
    rw [e]
    exact h1
  | 2, hq => exact hP 2 q hq
  | i + 3, hq => cases hq
/-- a set's numbers are told anew, with the same values -/
theorem GJ_congr {K : rr_K} {go ge gt i : Nat} {kF nF yF kF' nF' yF' T : Nat → Nat} {H : Heap} (hk : kF' i = kF i) (hn : nF' i = nF i) (hE : ∀ z, z < 64 → Es yF' i z = Es yF i z) (h4 : kF i ≤ 4) (h16 : nF i ≤ 16) (hP : va_P K.1 vwCl (GJ K go ge gt kF nF yF i T) H) : va_P K.1 vwCl (GJ K go ge gt kF' nF' yF' i T) H := by
  unfold GJ at hP ⊢
  rw [hk, hn, ways_congr hE h4 h16, live_congr hE h4 h16, lw_congr hE h4 h16]
  exact GW_E (fun z hz => (hE z hz).symm) hP
theorem TJ_congr {i : Nat} {kF nF yF kF' nF' yF' T : Nat → Nat} (hk : kF' i = kF i) (hn : nF' i = nF i) (hE : ∀ z, z < 64 → Es yF' i z = Es yF i z) (h4 : kF i ≤ 4) (h16 : nF i ≤ 16) (hT : TJ kF nF yF i T) : TJ kF' nF' yF' i T := by
  unfold TJ at hT ⊢
  rw [hk, hn, live_congr hE h4 h16]
  exact T_congr (fun z hz => (hE z hz).symm) h4 h16 hT
/-- a set's cells -/
def GA (go ge gt : Nat) : Nat → Prop := fun q => q = go ∨ q = ge ∨ q = gt
theorem AW_GW {K : rr_K} {go ge gt k n w al lw q : Nat} {E T : Nat → Nat} : AW (GW K go ge gt k n w al lw E T) q ↔ GA go ge gt q := by
  constructor
  · rintro ⟨i, e, h⟩
    match i, h with
    | 0, h => exact Or.inl (congrArg Prod.fst (Option.some.inj h)).symm
    | 1, h => exact Or.inr (Or.inl (congrArg Prod.fst (Option.some.inj h)).symm)
    | 2, h => exact Or.inr (Or.inr (congrArg Prod.fst (Option.some.inj h)).symm)
    | i + 3, h => cases h
  · rintro (rfl | rfl | rfl)
    · exact ⟨0, _, rfl⟩
    · exact ⟨1, _, rfl⟩
    · exact ⟨2, _, rfl⟩
theorem AW_GJ {K : rr_K} {go ge gt j q : Nat} {kF nF yF T : Nat → Nat} : AW (GJ K go ge gt kF nF yF j T) q ↔ GA go ge gt q := AW_GW
theorem AW_lt {D : va_G} {cl : List vw_C} {w : va_W} {H : Heap} {q : Nat} (hP : va_P D cl w H) (h : AW w q) : q < H.size := by
  obtain ⟨k, e, hk⟩ := h
  exact (hP k (q, e) hk).lt
theorem P_keep {D : va_G} {cl : List vw_C} {w : va_W} {H H1 : Heap} {B : Nat → Prop} (hP : va_P D cl w H) (hF : ∀ q : Nat, q < H.size → ¬ B q → H1[q]? = H[q]?) (hx : ∀ q, AW w q → ¬ B q) : va_P D cl w H1 := hP.kept (fun k q hk => hF q.1 (hP k q hk).lt (hx q.1 ⟨k, q.2, hk⟩))
theorem D_in {A B : Nat → Prop} {w : va_W} (h : va_D B w) (hB : ∀ q, B q → A q) : va_D A w := ⟨h.1, fun k q hk => hB q.1 (h.2 k q hk)⟩
theorem D_AW {A : Nat → Prop} {w : va_W} {q : Nat} (h : va_D A w) (hq : AW w q) : A q := by
  obtain ⟨k, e, hk⟩ := hq
  exact h.2 k (q, e) hk
/-- the sets, each apart from the others and from the rest of the class -/
def CG (K : rr_K) (A : Nat → Prop) (w : va_W) (ns : Nat) (gF : Nat → Option Nat) (kF nF yF : Nat → Nat) (H : Heap) (ga ge gt : Nat → Nat) (TT : Nat → Nat → Nat) : Prop := ∀ i, i < ns → gF i = some (ga i) ∧ va_P K.1 vwCl (GJ K (ga i) (ge i) (gt i) kF nF yF i (TT i)) H ∧ va_D A (GJ K (ga i) (ge i) (gt i) kF nF yF i (TT i)) ∧ TJ kF nF yF i (TT i) ∧ (∀ q, GA (ga i) (ge i) (gt i) q → ¬ AW w q) ∧ ∀ j, j < ns → j ≠ i → ∀ q, GA (ga i) (ge i) (gt i) q → ¬ GA (ga j) (ge j) (gt j) q
theorem CG_keep {K : rr_K} {A : Nat → Prop} {w w' : va_W} {ns : Nat} {gF : Nat → Option Nat} {kF nF yF : Nat → Nat} {H H1 : Heap} {ga ge gt : Nat → Nat} {TT : Nat → Nat → Nat} (h : CG K A w ns gF kF nF yF H ga ge gt TT) (hF : ∀ q : Nat, q < H.size → ¬ va_A w H.size q → H1[q]? = H[q]?) (hD : va_D (va_A w H.size) w') : CG K A w' ns gF kF nF yF H1 ga ge gt TT := fun i hi => by
  obtain ⟨h1, h2, h3, h4, h5, h6⟩ := h i hi
  have hx : ∀ q, GA (ga i) (ge i) (gt i) q → ¬ va_A w H.size q := fun q hq hq2 => hq2.elim (fun z => h5 q hq z) (fun z => by
    have := AW_lt h2 (AW_GJ.mpr hq)
    omega)
  exact ⟨h1, P_keep h2 hF (fun q hq => hx q (AW_GJ.mp hq)), h3, h4, fun q hq hq2 => hx q hq (D_AW hD hq2), h6⟩
/-- nothing of the class is written -/
theorem CG_frame {K : rr_K} {A B : Nat → Prop} {w : va_W} {ns : Nat} {gF : Nat → Option Nat} {kF nF yF : Nat → Nat} {H H1 : Heap} {ga ge gt : Nat → Nat} {TT : Nat → Nat → Nat} (h : CG K A w ns gF kF nF yF H ga ge gt TT) (hF : ∀ q : Nat, q < H.size → ¬ B q → H1[q]? = H[q]?) (hx : ∀ q, A q → ¬ B q) : CG K A w ns gF kF nF yF H1 ga ge gt TT := fun i hi => by
  obtain ⟨h1, h2, h3, h4, h5, h6⟩ := h i hi
  exact ⟨h1, P_keep h2 hF (fun q hq => hx q (D_AW h3 hq)), h3, h4, h5, h6⟩
/-- a way is laid or taken -/
theorem CG_way {K : rr_K} {A : Nat → Prop} {w : va_W} {ns j : Nat} {gF : Nat → Option Nat} {kF nF yF yF' T' : Nat → Nat} {H H1 : Heap} {ga ge gt : Nat → Nat} {TT : Nat → Nat → Nat} (hS : SOK ns kF nF yF) (h : CG K A w ns gF kF nF yF H ga ge gt TT) (hj : j < ns) (hF : ∀ q : Nat, q < H.size → ¬ va_A (GJ K (ga j) (ge j) (gt j) kF nF yF j (TT j)) H.size q → H1[q]? = H[q]?) (hE : ∀ i, i ≠ j → ∀ z, z < 64 → Es yF' i z = Es yF i z) (hT : TJ kF nF yF' j T') (hP : va_P K.1 vwCl (GJ K (ga j) (ge j) (gt j) kF nF yF' j T') H1) : CG K A w ns gF kF nF yF' H1 ga ge gt (fun i => if i = j then T' else TT i) := fun i hi => by
  obtain ⟨h1, h2, h3, h4, h5, h6⟩ := h i hi
  obtain ⟨_, _, s3, s4, _⟩ := hS.2 i hi
  by_cases e : i = j
  · subst e
    dsimp only
    rw [if_pos rfl]
    exact ⟨h1, hP, GJ_D h3 _ _ _ _ _ _ _, hT, h5, h6⟩
  · dsimp only
    rw [if_neg e]
    have hx : ∀ q, GA (ga i) (ge i) (gt i) q → ¬ va_A (GJ K (ga j) (ge j) (gt j) kF nF yF j (TT j)) H.size q := fun q hq hq2 => hq2.elim (fun z => h6 j hj (fun z => e z.symm) q hq (AW_GJ.mp z)) (fun z => by
      have := AW_lt h2 (AW_GJ.mpr hq)
      omega)
    exact ⟨h1, GJ_congr rfl rfl (hE i e) (by omega) (by omega) (P_keep h2 hF (fun q hq => hx q (AW_GJ.mp hq))), GJ_D h3 _ _ _ _ _ _ _, TJ_congr rfl rfl (hE i e) (by omega) (by omega) h4, h5, h6⟩
/-- a set is new -/
theorem CG_new {K : rr_K} {A : Nat → Prop} {w w' : va_W} {ns go e0 g0 k n : Nat} {gF : Nat → Option Nat} {kF nF yF yF' T' : Nat → Nat} {H H1 : Heap} {ga ge gt : Nat → Nat} {TT : Nat → Nat → Nat} (hS : SOK ns kF nF yF) (h : CG K A w ns gF kF nF yF H ga ge gt TT) (hA : ∀ q, H.size ≤ q → A q) (hF : ∀ q : Nat, q < H.size → ¬ va_A w H.size q → H1[q]? = H[q]?) (hE : ∀ i, i < ns → ∀ z, z < 64 → Es yF' i z = Es yF i z) (hDw : va_D (va_A w H.size) (w' ++ GJ K go e0 g0 (va_up kF ns k) (va_up nF ns n) yF' ns T')) (hnew : ∀ q, GA go e0 g0 q → H.size ≤ q) (hT : TJ (va_up kF ns k) (va_up nF ns n) yF' ns T') (hP : va_P K.1 vwCl (GJ K go e0 g0 (va_up kF ns k) (va_up nF ns n) yF' ns T') H1) : CG K A w' (ns + 1) (va_up gF ns (some go)) (va_up kF ns k) (va_up nF ns n) yF' H1 (va_up ga ns go) (va_up ge ns e0) (va_up gt ns g0) (fun i => if i = ns then T' else TT i) := fun i hi => by
  have hdw := rr_Dleft hDw
  have hdg := rr_Dright hDw
  by_cases e : i = ns
  · subst e
    dsimp only
    rw [if_pos rfl, va_up_self, va_up_self, va_up_self, va_up_self]
    refine ⟨rfl, hP, ⟨hdg.1, fun k q hq => hA q.1 (hnew q.1 (AW_GJ.mp ⟨k, q.2, hq⟩))⟩, hT, fun q hq hq2 => ?_, fun j hj hne q hq hq2 => ?_⟩
    · obtain ⟨a, ea, ha⟩ := AW_GJ (K := K) (kF := va_up kF i k) (nF := va_up nF i n) (yF := yF') (j := i) (T := T') |>.mpr hq
      exact rr_apart hDw a (q, ea) ha hq2
    · rw [va_up_ne _ _ hne, va_up_ne _ _ hne, va_up_ne _ _ hne] at hq2
      obtain ⟨_, h2, _, _, _, _⟩ := h j (by omega)
      have h7 := AW_lt h2 (AW_GJ.mpr hq2)
      have h8 := hnew q hq
      omega
  · dsimp only
    rw [if_neg e, va_up_ne _ _ e, va_up_ne _ _ e, va_up_ne _ _ e, va_up_ne _ _ e]
    obtain ⟨h1, h2, h3, h4, h5, h6⟩ := h i (by omega)
    obtain ⟨_, s2, s3, s4, _⟩ := hS.2 i (by omega)
    have hx : ∀ q, GA (ga i) (ge i) (gt i) q → ¬ va_A w H.size q := fun q hq hq2 => hq2.elim (fun z => h5 q hq z) (fun z => by
      have := AW_lt h2 (AW_GJ.mpr hq)
      omega)
    refine ⟨h1, GJ_congr (va_up_ne _ _ e) (va_up_ne _ _ e) (hE i (by omega)) s2 s4 (P_keep h2 hF (fun q hq => hx q (AW_GJ.mp hq))), GJ_D h3 _ _ _ _ _ _ _, TJ_congr (va_up_ne _ _ e) (va_up_ne _ _ e) (hE i (by omega)) s2 s4 h4, fun q hq hq2 => hx q hq (D_AW hdw hq2), fun j hj hne q hq hq2 => ?_⟩
    by_cases e2 : j = ns
    · rw [e2, va_up_self, va_up_self, va_up_self] at hq2
      have h7 := AW_lt h2 (AW_GJ.mpr hq)
      have h8 := hnew q hq2
      omega
    · rw [va_up_ne _ _ e2, va_up_ne _ _ e2, va_up_ne _ _ e2] at hq2
      exact h6 j (by omega) hne q hq hq2
/-! lists of what was met: how long -/
theorem stF_all {sb : Nat → Nat → Nat} {k al cap n : Nat} (ha : al < 65536) (hs : ∀ x y, sb x y < 65536) : ∀ x ∈ (stF sb k al cap n).1, x ≠ 0 ∧ x < 65536 := by
  unfold stF
  by_cases c : al = 0
  · rw [if_pos c]; intro x hx; cases hx
  · rw [if_neg c]
    have hk1 : ∀ frm y (z : List Nat × Nat), (∀ x ∈ z.1, x ≠ 0 ∧ x < 65536) → ∀ x ∈ (lk1 sb frm y z).1, x ≠ 0 ∧ x < 65536 := fun frm y z hz => by
      unfold lk1
      split
      · exact hz
      · rename_i h0
        exact adK_all hz ⟨h0, hs _ _⟩
    have hkY : ∀ frm m (z : List Nat × Nat), (∀ x ∈ z.1, x ≠ 0 ∧ x < 65536) → ∀ x ∈ (lkY sb frm m z).1, x ≠ 0 ∧ x < 65536 := fun frm m z hz => by
      induction m with
      | zero => exact hz
      | succ m ih => rw [lkY_succ]; exact hk1 _ _ _ ih
    have hkP : ∀ lo m (z : List Nat × Nat), (∀ x ∈ z.1, x ≠ 0 ∧ x < 65536) → ∀ x ∈ (lkP sb k lo m z).1, x ≠ 0 ∧ x < 65536 := fun lo m z hz => by
      induction m with
      | zero => exact hz
      | succ m ih => rw [lkP_succ]; exact hkY _ _ _ ih
    have key : ∀ n, ∀ x ∈ (stN sb k al cap n).1.1, x ≠ 0 ∧ x < 65536 := by
      intro n
      induction n with
      | zero => intro x hx; rw [List.mem_singleton.mp hx]; exact ⟨c, ha⟩
      | succ n ih => rw [stN_succ]; exact hkP _ _ _ ih
    exact key n
theorem stF_cap (sb : Nat → Nat → Nat) (k al cap n : Nat) : cap ≤ (stF sb k al cap n).2 := by
  unfold stF
  split
  · exact Nat.le_refl _
  · exact Nat.le_trans (capN_le cap 0) (stN_mono sb k al cap (Nat.zero_le n))
theorem pgo_len (sa sb : Nat → Nat → Nat) (k : Nat) : ∀ f p l kn nt cap, kn.length ≤ 20000 → (pgo sa sb k f p l kn nt cap).2.1.length ≤ 20001
  | 0, _, _, kn, _, _, h => by show kn.length ≤ 20001; omega
  | f + 1, p, l, kn, nt, cap, h => by
    rw [pgo_succ]
    split
    · split
      · split
        · show kn.length ≤ 20001; omega
        · split
          · exact pgo_len sa sb k f _ _ _ _ _ h
          · split
            · have := adK_len kn (sa (kn.getD p 0 >>> 16) l <<< 16 ||| sb (kn.getD p 0 &&& 65535) l)
              show (adK kn _).length ≤ 20001
              omega
            · exact pgo_len sa sb k f _ _ _ _ _ (by omega)
      · exact pgo_len sa sb k f _ _ _ _ _ h
    · show kn.length ≤ 20001; omega
theorem skP_len (k na nb : Nat) (Ea Eb : Nat → Nat) (ala alb cap : Nat) : (skP k na nb Ea Eb ala alb cap).2.1.length ≤ 20001 := by
  unfold skP
  split
  · exact Nat.zero_le _
  · exact pgo_len _ _ _ _ _ _ _ _ _ (by show 1 ≤ 20000; decide)
theorem skP_cap (k na nb : Nat) (Ea Eb : Nat → Nat) (ala alb cap : Nat) : cap ≤ (skP k na nb Ea Eb ala alb cap).2.2.2 := by
  unfold skP
  split
  · exact Nat.le_refl _
  · exact Nat.le_trans (capN_le cap 0) (pgo_cap _ _ _ _ _ _ _ _ _)
theorem mgo_len (ea bh : Nat → Nat → Nat) (k : Nat) : ∀ f p l kn cap, kn.length ≤ 20000 → (mgo ea bh k f p l kn cap).2.1.length ≤ 20016
  | 0, _, _, kn, _, h => by show kn.length ≤ 20016; omega
  | f + 1, p, l, kn, cap, h => by
    rw [mgo_succ]
    split
    · split
      · split
        · exact mgo_len ea bh k f _ _ _ _ h
        · split
          · show kn.length ≤ 20016; omega
          · split
            · have := (mF_cap (ea (kn.getD p 0 >>> 22 &&& 15) l) (bh (kn.getD p 0) l) (kn, cap) 16).2.2
              show (rr_fold _ 16 (kn, cap)).1.length ≤ 20016
              exact Nat.le_trans this (by show kn.length + 16 ≤ 20016; omega)
            · exact mgo_len ea bh k f _ _ _ _ (by omega)
      · exact mgo_len ea bh k f _ _ _ _ h
    · show kn.length ≤ 20016; omega
theorem skM_len (k na : Nat) (Ea : Nat → Nat) (ala wd : Nat) (TD : Nat → Nat) (kb nb : Nat) (Eb : Nat → Nat) (alb cap : Nat) : (skM k na Ea ala wd TD kb nb Eb alb cap).2.1.length ≤ 20016 := by
  unfold skM
  split
  · exact Nat.zero_le _
  · split
    · exact Nat.zero_le _
    · refine mgo_len _ _ _ _ _ _ _ _ ?_
      exact Nat.le_trans (mF_cap ala alb ([], cap) 16).2.2 (by show 0 + 16 ≤ 20000; decide)
theorem skM_cap (k na : Nat) (Ea : Nat → Nat) (ala wd : Nat) (TD : Nat → Nat) (kb nb : Nat) (Eb : Nat → Nat) (alb cap : Nat) : cap ≤ (skM k na Ea ala wd TD kb nb Eb alb cap).2.2 := by
  unfold skM
  split
  · exact Nat.le_refl _
  · split
    · exact Nat.le_refl _
    · exact Nat.le_trans (mF_cap ala alb ([], cap) 16).1 (mgo_cap _ _ _ _ _ _ _ _)
end
