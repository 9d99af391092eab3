section
theorem BG_D {K : rr_K} {A : Nat → Prop} {bo bl bt br nf nf' go ge gt k n w al lw k' n' w' al' lw' : Nat} {FL FW RW FL' FW' RW' E T E' T' : Nat → Nat} (h : va_D A (BW K bo bl bt br nf FL FW RW ++ GW K go ge gt k n w al lw E T)) : va_D A (BW K bo bl bt br nf' FL' FW' RW' ++ GW K go ge gt k' n' w' al' lw' E' T') := rr_D h rfl
theorem RA_D {K : rr_K} {A : Nat → Prop} {wo n : Nat} {f f' : Nat → Nat} (h : va_D A (RA K wo n f)) : va_D A (RA K wo n f') := rr_D h rfl
theorem GJ_k {K : rr_K} {go ge gt g k : Nat} {kF nF yF T : Nat → Nat} {H : Heap} (e : kF g = k) (h : va_P K.1 vwCl (GJ K go ge gt kF nF yF g T) H) : va_P K.1 vwCl (GW K go ge gt k (nF g) (waysS (kF g) (nF g) (Es yF g)) (liveS (kF g) (nF g) (Es yF g)) (lwS (kF g) (nF g) (liveS (kF g) (nF g) (Es yF g)) (Es yF g)) (Es yF g) T) H := by subst e; exact h
theorem GJ_kA {K : rr_K} {A : Nat → Prop} {go ge gt g k : Nat} {kF nF yF T : Nat → Nat} (e : kF g = k) (h : ∀ (k_ : Nat) (q_ : Nat × va_E), (GJ K go ge gt kF nF yF g T)[k_]? = some q_ → ¬ A q_.1) : ∀ (k_ : Nat) (q_ : Nat × va_E), (GW K go ge gt k (nF g) (waysS (kF g) (nF g) (Es yF g)) (liveS (kF g) (nF g) (Es yF g)) (lwS (kF g) (nF g) (liveS (kF g) (nF g) (Es yF g)) (Es yF g)) (Es yF g) T)[k_]? = some q_ → ¬ A q_.1 := by subst e; exact h
theorem TJ_k {g k : Nat} {kF nF yF T : Nat → Nat} (e : kF g = k) (h : TJ kF nF yF g T) : TInv k (nF g) (liveS (kF g) (nF g) (Es yF g)) (Es yF g) T := by subst e; exact h
theorem rsL_ind {r r' : pgR} {wl : Nat} (h1 : r.1 = r'.1) (h2 : r.2.2.1 = r'.2.2.1) : rsL r wl = rsL r' wl := by unfold rsL; rw [h1, h2]
theorem rsW_ind {r r' : pgR} {WD : Nat → Nat} (h1 : r.1 = r'.1) (h2 : r.2.2.1 = r'.2.2.1) : rsW r WD = rsW r' WD := by unfold rsW; rw [h1, h2]
theorem ansP_0 {c : Nat} (hc : c = 0 ∨ c = 1 ∨ c = 2 ∨ c = 4) (h : ansP c = 0) : c = 1 ∨ c = 4 := by
  rcases hc with rfl | rfl | rfl | rfl
  · exact absurd h (by decide)
  · exact Or.inl rfl
  · exact absurd h (by decide)
  · exact Or.inr rfl
theorem ansP_n {c : Nat} (hc : c = 0 ∨ c = 1 ∨ c = 2 ∨ c = 4) (h : ¬ ansP c = 0) : ¬ c = 1 ∧ ¬ c = 4 := by
  rcases hc with rfl | rfl | rfl | rfl
  · decide
  · exact absurd (by decide) h
  · decide
  · exact absurd (by decide) h
end
