section
variable {p : Program} {l : Launch} {e : Env} {R : Room} {s : State} {m : MethodId} {args : Array Value} {below : List Frame} {meth : Method} {c : Code} {H : Heap} {locs : List Loc} {cells slots : Nat} {Q : State → Prop}
variable {cc : ByteArray} {pc : Nat} {ls : Array Slot} {rest : List Value}
variable {K : rr_K} {ws ws' : va_W} {A : Nat → Prop} {H0 : Heap} {a a0 : Nat}
theorem nv_copyi (hx : p.tables.exec = Jvm.exec) (hb : c.code = cc) (hml : c.maxLocals = ls.size) {own : String} {index : Nat} (hown : s.vm.findClass own = some m.cls) (hlink : (Cond.methodLink own index arraycopyName).before args s = true) (hnat : (Cond.native arraycopyName).before args s = true) (hstat : (Cond.static arraycopyName).before args s = true) (hini : (Cond.initialized "java/lang/System").before args s = true)
    (hKK : KK K s) (hP : va_P K.1 vwCl ws H) (hD : va_D A ws) (hS : va_S A H0 H locs) (q0 q1 : Nat) {n0 n1 : Nat} {f g : Nat → Int32} (ha0 : ws[q0]? = some (a0, .inl (K.2.1, n0, .inl f))) (ha1 : ws[q1]? = some (a, .inl (K.2.1, n1, .inl g)))
    {sp dp n : Nat} (h1 : sp < 2 ^ 31) (h2 : dp < 2 ^ 31) (h3 : n < 2 ^ 31) (h4 : sp + n ≤ n0) (h5 : dp + n ≤ n1)
    (hframes : 1 ≤ R.frames) (hlocals : (rest.map fun v => v.category).sum + (nativeFrameWords "java/lang/System" "arraycopy" 5 + 11) ≤ R.locals) (hw : ws.set q1 (a, .inl (K.2.1, n1, .inl (va_cpy f g sp dp n))) = ws') (hdg : decode cc pc = .ok (.invokestatic index, 3))
    (kk : ∀ (H1 : Heap) (locs1 : List Loc), va_P K.1 vwCl ws' H1 → va_D A ws' → va_S A H0 H1 locs1 → W p l e R s m args below meth c H1 locs1 cells slots Q (F0 m (pc + 3) ls rest)) : W p l e R s m args below meth c H locs cells slots Q (F0 m pc ls (.int (nI n) :: .int (nI dp) :: .ref a :: .int (nI sp) :: .ref a0 :: rest)) := by
  refine va_copyi hx hb hml hown hlink hnat hstat hini hKK.1 hP hD hS q0 q1 0 0 ha0 ha1 rfl rfl rfl (nI_pos h1) (nI_pos h2) (nI_pos h3) (by rw [nI_clamp h1, nI_clamp h3]; exact h4) (by rw [nI_clamp h2, nI_clamp h3]; exact h5) (fun i _ => rfl) hframes hlocals hdg (fun H1 locs1 hP1 hD1 hS1 => ?_)
  rw [nI_clamp h1, nI_clamp h2, nI_clamp h3, hw] at hP1 hD1
  exact kk H1 locs1 hP1 hD1 hS1
theorem nv_copyl (hx : p.tables.exec = Jvm.exec) (hb : c.code = cc) (hml : c.maxLocals = ls.size) {own : String} {index : Nat} (hown : s.vm.findClass own = some m.cls) (hlink : (Cond.methodLink own index arraycopyName).before args s = true) (hnat : (Cond.native arraycopyName).before args s = true) (hstat : (Cond.static arraycopyName).before args s = true) (hini : (Cond.initialized "java/lang/System").before args s = true)
    (hKK : KK K s) (hP : va_P K.1 vwCl ws H) (hD : va_D A ws) (hS : va_S A H0 H locs) (q0 q1 : Nat) {n0 n1 : Nat} {f g : Nat → Int64} (ha0 : ws[q0]? = some (a0, .inl (K.2.2.1, n0, .inr (.inl f)))) (ha1 : ws[q1]? = some (a, .inl (K.2.2.1, n1, .inr (.inl g))))
    {sp dp n : Nat} (h1 : sp < 2 ^ 31) (h2 : dp < 2 ^ 31) (h3 : n < 2 ^ 31) (h4 : sp + n ≤ n0) (h5 : dp + n ≤ n1)
    (hframes : 1 ≤ R.frames) (hlocals : (rest.map fun v => v.category).sum + (nativeFrameWords "java/lang/System" "arraycopy" 5 + 11) ≤ R.locals) (hw : ws.set q1 (a, .inl (K.2.2.1, n1, .inr (.inl (va_cpy f g sp dp n)))) = ws') (hdg : decode cc pc = .ok (.invokestatic index, 3))
    (kk : ∀ (H1 : Heap) (locs1 : List Loc), va_P K.1 vwCl ws' H1 → va_D A ws' → va_S A H0 H1 locs1 → W p l e R s m args below meth c H1 locs1 cells slots Q (F0 m (pc + 3) ls rest)) : W p l e R s m args below meth c H locs cells slots Q (F0 m pc ls (.int (nI n) :: .int (nI dp) :: .ref a :: .int (nI sp) :: .ref a0 :: rest)) := by
  refine va_copyl hx hb hml hown hlink hnat hstat hini hKK.1 hP hD hS q0 q1 1 1 ha0 ha1 rfl rfl rfl (nI_pos h1) (nI_pos h2) (nI_pos h3) (by rw [nI_clamp h1, nI_clamp h3]; exact h4) (by rw [nI_clamp h2, nI_clamp h3]; exact h5) (fun i _ => rfl) hframes hlocals hdg (fun H1 locs1 hP1 hD1 hS1 => ?_)
  rw [nI_clamp h1, nI_clamp h2, nI_clamp h3, hw] at hP1 hD1
  exact kk H1 locs1 hP1 hD1 hS1
end
theorem rr_rf (a : Nat) : va_rf (some a) = .ref a := rfl
/-- a row of numbers, as it is -/
def RI (K : rr_K) (wo n : Nat) (f : Nat → Int32) : va_W := [(wo, .inl (K.2.1, n, .inl f))]
def RJ (K : rr_K) (wo n : Nat) (f : Nat → Int64) : va_W := [(wo, .inl (K.2.2.1, n, .inr (.inl f)))]
/-- a row copied into a longer one -/
def cpF (f : Nat → Int32) (n : Nat) : Nat → Int32 := fun j => if j < n then f j else 0
def cpL (f : Nat → Int64) (n : Nat) : Nat → Int64 := fun j => if j < n then f j else 0
theorem cpF_eq (f : Nat → Int32) (n : Nat) : va_cpy f (fun _ => nI 0) 0 0 n = cpF f n := by
  funext j
  unfold va_cpy cpF
  by_cases h : j < n
  · rw [if_pos h, if_pos ⟨Nat.zero_le _, by omega⟩]; simp
  · rw [if_neg h, if_neg (by omega)]; rfl
theorem cpL_eq (f : Nat → Int64) (n : Nat) : va_cpy f (fun _ => 0) 0 0 n = cpL f n := by
  funext j
  unfold va_cpy cpL
  by_cases h : j < n
  · rw [if_pos h, if_pos ⟨Nat.zero_le _, by omega⟩]; simp
  · rw [if_neg h, if_neg (by omega)]
theorem rrin_yes {i N : Nat} (h : i < N) (hN : N < 2 ^ 31) : rrin (nI i) (nI 0) (nI (N - 1)) = true := by
  rcases rrin_of (a := 0) (b := N - 1) (j := i) (by omega) (by omega) with h1 | h1
  · rw [h1]; simp; omega
  · omega
/-! what the table is behind a meeting -/
def capN (cap n : Nat) : Nat := if cap ≤ n then 2 * cap else cap
def plK (kl : List Int32) (key : Int32) : List Int32 := if key ∈ kl then kl else kl ++ [key]
def plN (kl : List Int32) (nl : List Nat) (key : Int32) : List Nat := if key ∈ kl then nl else nl ++ [0]
theorem slGo_lt {sl : Nat → Nat} {b N m : Nat} {ks : Nat → Int32} {key : Int32} (hm : ∃ e, m = 2 ^ e) : ∀ (f s : Nat), s < m → slGo sl b N ks key m f s < m
  | 0, _, h => h
  | f + 1, s, h => by
    show (if _ then s else _) < m
    split
    · exact h
    · exact slGo_lt hm f _ (by rw [and_mask hm]; exact Nat.mod_lt _ (by omega))
theorem HT_ins {sl : Nat → Nat} {b P N m : Nat} {ks : Nat → Int32} (hm : ∃ e, m = 2 ^ e) (h : HT sl b P ks m) (hP : P < m) (hN : P ≤ N) (hinj : ∀ i j, i < P + 1 → j < P + 1 → ks i = ks j → i = j) :
    HT (va_up sl (slGo sl b N ks (ks P) m m (hsh (ks P) m)) (b + P)) b (P + 1) ks m := by
  obtain ⟨d, h1, h2, h3, h4⟩ := slGo_spec (key := ks P) hm h hP hN (fun i j hi hj e => hinj i j (by omega) (by omega) e)
  rcases h4 with ⟨i, hi, e, -⟩ | ⟨-, hfree⟩
  · have := hinj i P (by omega) (by omega) e
    omega
  · rw [h2]
    exact HT_add (by omega) h h1 h3 hfree (fun _ _ => rfl) rfl
theorem MInv_grown {kl : List Int32} {nl : List Nat} {cap b : Nat} {ks : Nat → Int32} {no sl sl' : Nat → Nat} (h : MInv kl nl cap b ks no sl) (hc : cap ≤ 32768) (hT : HT sl' 1 kl.length (cpF ks cap) (2 * (2 * cap))) : MInv kl nl (2 * cap) 1 (cpF ks cap) (fun j => if j < cap then no j else 0) sl' := by
  obtain ⟨h1, h2, h3, ⟨e, h4⟩, h5, h6, h7, h8, h9, h10, -⟩ := h
  refine ⟨by omega, by omega, by omega, ⟨e + 1, by rw [h4, Nat.pow_succ]; omega⟩, h5, h6, fun j hj => ?_, fun j hj => ?_, by omega, by omega, hT⟩
  · unfold cpF; rw [if_pos (by omega)]; exact h7 j hj
  · show (if j < cap then no j else 0) = nl[j]
    rw [if_pos (by omega)]; exact h8 j hj
theorem MInv_found {kl : List Int32} {nl : List Nat} {cap b : Nat} {ks : Nat → Int32} {no sl : Nat → Nat} (h : MInv kl nl cap b ks no sl) (hlt : kl.length < cap) {key : Int32} (hb : b ≤ sl (slGo sl b kl.length ks key (2 * cap) (2 * cap) (hsh key (2 * cap)))) :
    key ∈ kl ∧ kl.idxOf key < kl.length ∧ sl (slGo sl b kl.length ks key (2 * cap) (2 * cap) (hsh key (2 * cap))) = b + kl.idxOf key := by
  have hinj := h.inj
  obtain ⟨h1, h2, h3, ⟨e, h4⟩, h5, h6, h7, h8, h9, h10, h11⟩ := h
  obtain ⟨d, g1, g2, g3, g4⟩ := slGo_spec (key := key) (N := kl.length) ⟨e + 1, by rw [h4, Nat.pow_succ]; omega⟩ h11 (by omega) (Nat.le_refl _) hinj
  rw [g2] at hb ⊢
  rcases g4 with ⟨i, hi, hk, hs⟩ | ⟨-, hfree⟩
  · rw [h7 i hi] at hk
    have e1 : kl.idxOf key = i := by rw [← hk]; exact List.Nodup.idxOf_getElem h5 i hi
    exact ⟨by rw [← hk]; exact List.getElem_mem _, by omega, by rw [e1]; exact hs⟩
  · omega
theorem MInv_new {kl : List Int32} {nl : List Nat} {cap b : Nat} {ks : Nat → Int32} {no sl : Nat → Nat} (h : MInv kl nl cap b ks no sl) (hlt : kl.length < cap) {key : Int32} (hb : sl (slGo sl b kl.length ks key (2 * cap) (2 * cap) (hsh key (2 * cap))) < b) :
    key ∉ kl ∧ MInv (kl ++ [key]) (nl ++ [0]) cap b (va_up ks kl.length key) (va_up no kl.length 0) (va_up sl (slGo sl b kl.length ks key (2 * cap) (2 * cap) (hsh key (2 * cap))) (b + kl.length)) := by
  have hinj := h.inj
  obtain ⟨h1, h2, h3, ⟨e, h4⟩, h5, h6, h7, h8, h9, h10, h11⟩ := h
  obtain ⟨d, g1, g2, g3, g4⟩ := slGo_spec (key := key) (N := kl.length) ⟨e + 1, by rw [h4, Nat.pow_succ]; omega⟩ h11 (by omega) (Nat.le_refl _) hinj
  rw [g2] at hb ⊢
  rcases g4 with ⟨i, hi, hk, hs⟩ | ⟨hno, hfree⟩
  · omega
  · have hnot : key ∉ kl := by
      intro hmem
      obtain ⟨i, hi, e1⟩ := List.getElem_of_mem hmem
      exact hno i hi (by rw [h7 i hi, e1])
    refine ⟨hnot, by rw [List.length_append]; show kl.length + 1 ≤ cap; omega, h2, h3, ⟨e, h4⟩, ?_, by rw [List.length_append, List.length_append, h6]; rfl, fun j hj => ?_, fun j hj => ?_, h9, h10, ?_⟩
    · rw [List.nodup_append]
      refine ⟨h5, by simp, fun a ha b' hb' e2 => ?_⟩
      rw [List.mem_singleton] at hb'
      rw [e2, hb'] at ha
      exact hnot ha
    · rw [List.length_append] at hj
      by_cases e2 : j = kl.length
      · subst e2
        rw [va_up_self, List.getElem_append_right (Nat.le_refl _)]
        simp
      · have hj2 : j < kl.length := by have : j < kl.length + 1 := hj; omega
        rw [va_up_ne _ _ e2, List.getElem_append_left hj2]
        exact h7 j hj2
    · rw [List.length_append] at hj
      by_cases e2 : j = kl.length
      · subst e2
        rw [va_up_self, List.getElem_append_right (by omega)]
        simp
      · have hj2 : j < nl.length := by have : j < nl.length + 1 := hj; omega
        rw [va_up_ne _ _ e2, List.getElem_append_left hj2]
        exact h8 j hj2
    · rw [List.length_append]
      exact HT_add (by omega) h11 g1 g3 hfree (fun i hi => va_up_ne _ _ (by omega)) (va_up_self _ _ _)
theorem cpF_nat (no : Nat → Nat) (cap : Nat) : cpF (fun j => nI (no j)) cap = fun j => nI ((fun j => if j < cap then no j else 0) j) := by
  funext j
  unfold cpF
  by_cases h : j < cap
  · rw [if_pos h]; simp only [h, if_true]
  · rw [if_neg h]; simp only [h, if_false]; rfl
section
variable {p : Program} {l : Launch} {e : Env} {R : Room} {s : State} {m : MethodId} {args : Array Value} {below : List Frame} {meth : Method} {c : Code} {H : Heap} {locs : List Loc} {cells slots : Nat} {Q : State → Prop}
variable {cc : ByteArray} {pc : Nat} {ls : Array Slot} {rest : List Value}
theorem nv_if_le (hx : p.tables.exec = Jvm.exec) (hb : c.code = cc) {a : Nat} {off : Int} {tgt : Nat} (hdg : decode cc pc = .ok (.ifCond .le off, 3)) (ht : (pc : Int) + off = (tgt : Int)) (ha : a < 2 ^ 31)
    (kt : a = 0 → W p l e R s m args below meth c H locs cells slots Q (F0 m tgt ls rest)) (kf : ¬ a = 0 → W p l e R s m args below meth c H locs cells slots Q (F0 m (pc + 3) ls rest)) : W p l e R s m args below meth c H locs cells slots Q (F0 m pc ls (.int (nI a) :: rest)) :=
  lv_if_le hx hb hdg ht (fun h => kt (by have := (nI_leI (b := 0) ha (by decide)).mp h; omega)) (fun h => kf (fun q => h ((nI_leI (b := 0) ha (by decide)).mpr (by omega))))
theorem nv_iushr2 (hx : p.tables.exec = Jvm.exec) (hb : c.code = cc) {a b : Nat} (hdg : decode cc pc = .ok (.iushr, 1)) (ha : a < 2 ^ 32) (hq : b < 32) (k : W p l e R s m args below meth c H locs cells slots Q (F0 m (pc + 1) ls (.int (nI (a >>> b)) :: rest))) : W p l e R s m args below meth c H locs cells slots Q (F0 m pc ls (.int (nI b) :: .int (nI a) :: rest)) := lv_iushr hx hb hdg (by rw [pk_ushrN ha (nI b) b (rr_su b hq), Nat.shiftRight_eq_div_pow]) k
end
