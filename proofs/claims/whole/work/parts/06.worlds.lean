/-! worlds: what depends on the addresses alone; a part of a world that a callee changes -/
theorem rr_D {A : Nat → Prop} {ws ws' : va_W} (h : va_D A ws) (e : ws.map Prod.fst = ws'.map Prod.fst) : va_D A ws' := by
  have key : ∀ (k : Nat) (q : Nat × va_E), ws'[k]? = some q → ∃ q0, ws[k]? = some q0 ∧ q0.1 = q.1 := by
    intro k q hq
    have h1 : (ws'.map Prod.fst)[k]? = some q.1 := by rw [List.getElem?_map, hq]; rfl
    rw [← e, List.getElem?_map] at h1
    cases h2 : ws[k]? with
    | none => rw [h2] at h1; cases h1
    | some q0 => rw [h2] at h1; exact ⟨q0, rfl, Option.some.inj h1⟩
  refine ⟨fun i j p q hp hq hpq => ?_, fun k q hk => ?_⟩
  · obtain ⟨p0, h1, h2⟩ := key i p hp
    obtain ⟨q0, h3, h4⟩ := key j q hq
    exact h.1 i j p0 q0 h1 h3 (by rw [h2, h4, hpq])
  · obtain ⟨q0, h1, h2⟩ := key k q hk
    rw [← h2]
    exact h.2 k q0 h1
/-- the cells of a world -/
def AW (ws : va_W) : Nat → Prop := fun q => ∃ (k : Nat) (e : va_E), ws[k]? = some (q, e)
theorem rr_AW {A : Nat → Prop} {ws : va_W} (h : va_D A ws) : va_D (AW ws) ws := ⟨h.1, fun k q hk => ⟨k, q.2, hk⟩⟩
theorem rr_AW_in {A : Nat → Prop} {ws : va_W} (h : va_D A ws) : ∀ q, AW ws q → A q := fun q ⟨k, e, hk⟩ => h.2 k (q, e) hk
theorem AW_map {ws ws' : va_W} (e : ws.map Prod.fst = ws'.map Prod.fst) {q : Nat} (h : AW ws q) : AW ws' q := by
  obtain ⟨k, x, hk⟩ := h
  have h1 : (ws.map Prod.fst)[k]? = some q := by rw [List.getElem?_map, hk]; rfl
  rw [e, List.getElem?_map] at h1
  cases h2 : ws'[k]? with
  | none => rw [h2] at h1; cases h1
  | some q0 =>
    rw [h2] at h1
    have h3 : q0.1 = q := Option.some.inj h1
    exact ⟨k, q0.2, by rw [h2, ← h3]⟩
/-- two worlds side by side: a callee changed the first alone -/
theorem rr_app {D : va_G} {cl : List vw_C} {A : Nat → Prop} {w1 w1' w2 : va_W} {H H1 : Heap} (hP : va_P D cl (w1 ++ w2) H) (hD : va_D A (w1 ++ w2)) (hk : ∀ q : Nat, q < H.size → ¬ AW w1 q → H1[q]? = H[q]?) (hP1 : va_P D cl w1' H1) (e : w1.map Prod.fst = w1'.map Prod.fst) : va_P D cl (w1' ++ w2) H1 ∧ va_D A (w1' ++ w2) := by
  refine ⟨hP1.app (fun k q hq => ?_), rr_D hD (by rw [List.map_append, List.map_append, e])⟩
  have hq2 : (w1 ++ w2)[w1.length + k]? = some q := by
    rw [List.getElem?_append_right (by omega), Nat.add_sub_cancel_left]
    exact hq
  have ha := hP _ q hq2
  refine ha.kept (hk q.1 ha.lt ?_)
  rintro ⟨j, x, hj⟩
  have hjl := (List.getElem?_eq_some_iff.mp hj).1
  have hj2 : (w1 ++ w2)[j]? = some (q.1, x) := by rw [List.getElem?_append_left hjl]; exact hj
  have := hD.1 j (w1.length + k) (q.1, x) q hj2 hq2 rfl
  omega
theorem rr_left {D : va_G} {cl : List vw_C} {w1 w2 : va_W} {H : Heap} (hP : va_P D cl (w1 ++ w2) H) : va_P D cl w1 H := fun k q hk => hP k q (by rw [List.getElem?_append_left (List.getElem?_eq_some_iff.mp hk).1]; exact hk)
theorem rr_right {D : va_G} {cl : List vw_C} {w1 w2 : va_W} {H : Heap} (hP : va_P D cl (w1 ++ w2) H) : va_P D cl w2 H := fun k q hk => hP (w1.length + k) q (by rw [List.getElem?_append_right (by omega), Nat.add_sub_cancel_left]; exact hk)
theorem rr_Dleft {A : Nat → Prop} {w1 w2 : va_W} (h : va_D A (w1 ++ w2)) : va_D A w1 := ⟨fun i j p q hp hq e => h.1 i j p q (by rw [List.getElem?_append_left (List.getElem?_eq_some_iff.mp hp).1]; exact hp) (by rw [List.getElem?_append_left (List.getElem?_eq_some_iff.mp hq).1]; exact hq) e, fun k q hk => h.2 k q (by rw [List.getElem?_append_left (List.getElem?_eq_some_iff.mp hk).1]; exact hk)⟩
theorem rr_Dright {A : Nat → Prop} {w1 w2 : va_W} (h : va_D A (w1 ++ w2)) : va_D A w2 := by
  refine ⟨fun i j p q hp hq e => ?_, fun k q hk => ?_⟩
  · have := h.1 (w1.length + i) (w1.length + j) p q (by rw [List.getElem?_append_right (by omega), Nat.add_sub_cancel_left]; exact hp) (by rw [List.getElem?_append_right (by omega), Nat.add_sub_cancel_left]; exact hq) e
    omega
  · exact h.2 (w1.length + k) q (by rw [List.getElem?_append_right (by omega), Nat.add_sub_cancel_left]; exact hk)
/-- the cells of one part aren't those of the other -/
theorem rr_apart {A : Nat → Prop} {w1 w2 : va_W} (h : va_D A (w1 ++ w2)) : ∀ (k : Nat) (q : Nat × va_E), w2[k]? = some q → ¬ AW w1 q.1 := by
  rintro k q hk ⟨j, x, hj⟩
  have hjl := (List.getElem?_eq_some_iff.mp hj).1
  have := h.1 j (w1.length + k) (q.1, x) q (by rw [List.getElem?_append_left hjl]; exact hj) (by rw [List.getElem?_append_right (by omega), Nat.add_sub_cancel_left]; exact hk) rfl
  omega
theorem rr_swapP {D : va_G} {cl : List vw_C} {w1 w2 : va_W} {H : Heap} (hP : va_P D cl (w1 ++ w2) H) : va_P D cl (w2 ++ w1) H := (rr_right hP).app (rr_left hP)
theorem rr_swapD {A : Nat → Prop} {w1 w2 : va_W} (h : va_D A (w1 ++ w2)) : va_D A (w2 ++ w1) := (rr_Dright h).app (rr_Dleft h) (fun i j p q hp hq e => rr_apart h i p hp ⟨j, q.2, by rw [e]; exact hq⟩)
theorem rr_app2 {D : va_G} {cl : List vw_C} {A : Nat → Prop} {w1 w2 w2' : va_W} {H H1 : Heap} (hP : va_P D cl (w1 ++ w2) H) (hD : va_D A (w1 ++ w2)) (hk : ∀ q : Nat, q < H.size → ¬ AW w2 q → H1[q]? = H[q]?) (hP1 : va_P D cl w2' H1) (e : w2.map Prod.fst = w2'.map Prod.fst) : va_P D cl (w1 ++ w2') H1 ∧ va_D A (w1 ++ w2') := by
  obtain ⟨h1, h2⟩ := rr_app (rr_swapP hP) (rr_swapD hD) hk hP1 e
  exact ⟨rr_swapP h1, rr_swapD h2⟩
