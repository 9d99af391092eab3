/-! counting words by the sets they lead to -/
def WW3 (K : rr_K) (wo mo bh my lg rw ld room : Nat) (bF : Nat → Int32) (yF gF : Nat → Int64) (wF dF : Nat → Nat) : va_W := [(wo, .inr (8, [.ref mo, .ref bh, .ref my, .ref lg, .ref rw, .ref ld])), (bh, .inl (K.2.1, 4 * room, .inl bF)), (my, .inl (K.2.2.1, room, .inr (.inl yF))), (lg, .inl (K.2.2.1, room, .inr (.inl gF))), (rw, .inl (K.2.1, 7, .inl (fun j => nI (wF j)))), (ld, .inl (K.2.1, 8, .inl (fun j => nI (dF j))))]
def rmN (room cap : Nat) : Nat := if room < cap then cap else room
theorem pow_dbl {a b : Nat} (ha : ∃ e, a = 2 ^ e) (hb : ∃ e, b = 2 ^ e) (h : a < b) : 2 * a ≤ b := by
  obtain ⟨e, rfl⟩ := ha
  obtain ⟨f, rfl⟩ := hb
  rcases Nat.lt_or_ge e f with q | q
  · have : 2 ^ (e + 1) ≤ 2 ^ f := Nat.pow_le_pow_right (by decide) q
    rw [Nat.pow_succ] at this
    omega
  · have : 2 ^ f ≤ 2 ^ e := Nat.pow_le_pow_right (by decide) q
    omega
theorem rmN_pow {a b : Nat} (ha : ∃ e, a = 2 ^ e) (hb : ∃ e, b = 2 ^ e) : ∃ e, rmN a b = 2 ^ e := by
  unfold rmN
  split
  · exact hb
  · exact ha
theorem rmN_le (a b : Nat) : a ≤ rmN a b ∧ b ≤ rmN a b := by unfold rmN; split <;> omega
theorem nodup_le : ∀ (n : Nat) (x : List Nat), x.Nodup → (∀ y ∈ x, y < n) → x.length ≤ n
  | 0, [], _, _ => Nat.le_refl _
  | 0, a :: _, _, h => absurd (h a (List.mem_cons_self)) (Nat.not_lt_zero _)
  | n + 1, x, hd, h => by
    by_cases hm : n ∈ x
    · have h1 := nodup_le n (x.erase n) (hd.erase n) (fun y hy => by
        have h2 := (hd.mem_erase_iff).mp hy
        have h3 := h y h2.2
        have := h2.1
        omega)
      rw [List.length_erase_of_mem hm] at h1
      omega
    · have h1 := nodup_le n x hd (fun y hy => by
        have h3 := h y hy
        have : y ≠ n := fun e => hm (e ▸ hy)
        omega)
      omega
/-- the sum of a row of long numbers, as the machine adds them -/
def sL (n : Nat) (f : Nat → Int64) : Int64 := rr_fold (fun i s => s + f i) n 0
theorem sL_succ (n : Nat) (f : Nat → Int64) : sL (n + 1) f = sL n f + f n := rfl
theorem sL_congr {f g : Nat → Int64} : ∀ {n : Nat}, (∀ i, i < n → f i = g i) → sL n f = sL n g
  | 0, _ => rfl
  | n + 1, h => by rw [sL_succ, sL_succ, sL_congr (fun i hi => h i (by omega)), h n (by omega)]
theorem sL_zero : ∀ n : Nat, sL n (fun _ => 0) = 0
  | 0 => rfl
  | n + 1 => by rw [sL_succ, sL_zero n]; rfl
theorem sL_up {g W : Nat → Int64} {t : Nat} {x : Int64} : ∀ {n : Nat}, t < n → sL n (fun i => va_up g t (g t + x) i * W i) = sL n (fun i => g i * W i) + x * W t
  | 0, h => absurd h (Nat.not_lt_zero _)
  | n + 1, h => by
    rw [sL_succ, sL_succ]
    rcases Nat.lt_or_ge t n with q | q
    · rw [sL_up q]
      have e1 : va_up g t (g t + x) n = g n := by unfold va_up; rw [if_neg (by omega)]
      rw [e1, Int64.add_assoc, Int64.add_comm (x * W t), ← Int64.add_assoc]
    · have e0 : t = n := by omega
      have e1 : va_up g t (g t + x) n = g t + x := by unfold va_up; rw [if_pos e0.symm]
      have e2 : sL n (fun i => va_up g t (g t + x) i * W i) = sL n (fun i => g i * W i) := sL_congr (fun i hi => by unfold va_up; rw [if_neg (by omega)])
      rw [e1, e2, e0, Int64.add_mul, Int64.add_assoc]
/-! the links -/
def lk1 (sb : Nat → Nat → Nat) (frm y : Nat) (x : List Nat × Nat) : List Nat × Nat := if sb frm y = 0 then x else (adK x.1 (sb frm y), capN x.2 x.1.length)
def lkY (sb : Nat → Nat → Nat) (frm m : Nat) (x : List Nat × Nat) : List Nat × Nat := rr_fold (lk1 sb frm) m x
def lkJ (sb : Nat → Nat → Nat) (k lo j : Nat) (x : List Nat × Nat) : List Nat × Nat := lkY sb (x.1.getD (lo + j) 0) k x
def lkP (sb : Nat → Nat → Nat) (k lo m : Nat) (x : List Nat × Nat) : List Nat × Nat := rr_fold (lkJ sb k lo) m x
theorem lk1_le (sb : Nat → Nat → Nat) (frm y : Nat) (x : List Nat × Nat) : x.2 ≤ (lk1 sb frm y x).2 ∧ x.1.length ≤ (lk1 sb frm y x).1.length := by
  unfold lk1
  split
  · exact ⟨Nat.le_refl _, Nat.le_refl _⟩
  · exact ⟨capN_le _ _, (adK_len _ _).1⟩
theorem lkY_mono (sb : Nat → Nat → Nat) (frm : Nat) (x : List Nat × Nat) {n m : Nat} (h : n ≤ m) : (lkY sb frm n x).2 ≤ (lkY sb frm m x).2 ∧ (lkY sb frm n x).1.length ≤ (lkY sb frm m x).1.length := by
  induction h with
  | refl => exact ⟨Nat.le_refl _, Nat.le_refl _⟩
  | @step m _ ih =>
    unfold lkY at ih ⊢
    rw [rr_fold_succ]
    have h1 := lk1_le sb frm m (rr_fold (lk1 sb frm) m x)
    exact ⟨Nat.le_trans ih.1 h1.1, Nat.le_trans ih.2 h1.2⟩
theorem lkY_le (sb : Nat → Nat → Nat) (frm m : Nat) (x : List Nat × Nat) : x.2 ≤ (lkY sb frm m x).2 ∧ x.1.length ≤ (lkY sb frm m x).1.length := lkY_mono sb frm x (Nat.zero_le m)
theorem lkP_mono (sb : Nat → Nat → Nat) (k lo : Nat) (x : List Nat × Nat) {n m : Nat} (h : n ≤ m) : (lkP sb k lo n x).2 ≤ (lkP sb k lo m x).2 ∧ (lkP sb k lo n x).1.length ≤ (lkP sb k lo m x).1.length := by
  induction h with
  | refl => exact ⟨Nat.le_refl _, Nat.le_refl _⟩
  | @step m _ ih =>
    unfold lkP at ih ⊢
    rw [rr_fold_succ]
    have h1 := lkY_le sb ((rr_fold (lkJ sb k lo) m x).1.getD (lo + m) 0) k (rr_fold (lkJ sb k lo) m x)
    exact ⟨Nat.le_trans ih.1 h1.1, Nat.le_trans ih.2 h1.2⟩
theorem lkP_le (sb : Nat → Nat → Nat) (k lo m : Nat) (x : List Nat × Nat) : x.2 ≤ (lkP sb k lo m x).2 ∧ x.1.length ≤ (lkP sb k lo m x).1.length := lkP_mono sb k lo x (Nat.zero_le m)
theorem lkP_succ (sb : Nat → Nat → Nat) (k lo m : Nat) (x : List Nat × Nat) : lkP sb k lo (m + 1) x = lkY sb ((lkP sb k lo m x).1.getD (lo + m) 0) k (lkP sb k lo m x) := rfl
theorem lkY_succ (sb : Nat → Nat → Nat) (frm m : Nat) (x : List Nat × Nat) : lkY sb frm (m + 1) x = lk1 sb frm m (lkY sb frm m x) := rfl
/-- the links of a place are known, up to a letter -/
def BK1 (sb : Nat → Nat → Nat) (kn : List Nat) (bF : Nat → Int32) (q y : Nat) : Prop := (sb (kn.getD q 0) y = 0 ∧ bF (q * 4 + y) = -1) ∨ (sb (kn.getD q 0) y ≠ 0 ∧ ∃ t, t < kn.length ∧ kn.getD t 0 = sb (kn.getD q 0) y ∧ bF (q * 4 + y) = nI t)
def BOK (sb : Nat → Nat → Nat) (k : Nat) (kn : List Nat) (bF : Nat → Int32) (m : Nat) : Prop := ∀ q, q < m → ∀ y, y < k → BK1 sb kn bF q y
theorem BK1_grow {sb : Nat → Nat → Nat} {kn : List Nat} {bF : Nat → Int32} {q y key : Nat} (hq : q < kn.length) (h : BK1 sb kn bF q y) : BK1 sb (adK kn key) bF q y := by
  unfold BK1 at h ⊢
  rw [adK_getD hq]
  obtain h | ⟨h0, t, h1, h2, h3⟩ := h
  · exact Or.inl h
  · exact Or.inr ⟨h0, t, Nat.lt_of_lt_of_le h1 (adK_len _ _).1, by rw [adK_getD h1]; exact h2, h3⟩
theorem BK1_put {sb : Nat → Nat → Nat} {kn : List Nat} {bF : Nat → Int32} {q y x : Nat} {v : Int32} (hne : q * 4 + y ≠ x) (h : BK1 sb kn bF q y) : BK1 sb kn (va_up bF x v) q y := by
  unfold BK1 at h ⊢
  have e : va_up bF x v (q * 4 + y) = bF (q * 4 + y) := by unfold va_up; rw [if_neg hne]
  rw [e]
  exact h
theorem BK1_no {sb : Nat → Nat → Nat} {kn : List Nat} {bF : Nat → Int32} {q y : Nat} (h : sb (kn.getD q 0) y = 0) : BK1 sb kn (va_up bF (q * 4 + y) (-1)) q y := Or.inl ⟨h, by unfold va_up; rw [if_pos rfl]⟩
theorem adK_idx (kn : List Nat) (key : Nat) : kn.idxOf key < (adK kn key).length ∧ (adK kn key).getD (kn.idxOf key) 0 = key := by
  unfold adK
  split
  · rename_i h
    have h1 := List.idxOf_lt_length_of_mem h
    exact ⟨h1, by rw [getD_lt h1]; exact List.getElem_idxOf h1⟩
  · rename_i h
    rw [List.idxOf_eq_length h, List.length_append]
    refine ⟨Nat.lt_succ_self _, ?_⟩
    rw [List.getD_eq_getElem?_getD, List.getElem?_append_right (Nat.le_refl _), Nat.sub_self]
    rfl
theorem BK1_yes {sb : Nat → Nat → Nat} {kn : List Nat} {bF : Nat → Int32} {q y : Nat} (hq : q < kn.length) (h : sb (kn.getD q 0) y ≠ 0) : BK1 sb (adK kn (sb (kn.getD q 0) y)) (va_up bF (q * 4 + y) (nI (kn.idxOf (sb (kn.getD q 0) y)))) q y := by
  have h1 := adK_idx kn (sb (kn.getD q 0) y)
  refine Or.inr ⟨by rw [adK_getD hq]; exact h, _, h1.1, by rw [adK_getD hq]; exact h1.2, by unfold va_up; rw [if_pos rfl]⟩
theorem nodup_of_map {x : List Nat} {f : Nat → Int32} (h : (x.map f).Nodup) : x.Nodup := by
  unfold List.Nodup at h ⊢
  rw [List.pairwise_map] at h
  exact h.imp (fun hab e => hab (congrArg f e))
theorem kn_room {kn nt : List Nat} {cap b : Nat} {ks : Nat → Int32} {no sl : Nat → Nat} (h : MInv (kn.map nI) nt cap b ks no sl) (h0 : ∀ x ∈ kn, x ≠ 0 ∧ x < 65536) : kn.length < 65536 := by
  have h1 := nodup_of_map h.2.2.2.2.1
  have h2 := nodup_le 65536 (0 :: kn) (List.nodup_cons.mpr ⟨fun q => (h0 0 q).1 rfl, h1⟩) (fun y hy => by
    rcases List.mem_cons.mp hy with q | q
    · rw [q]; decide
    · exact (h0 y q).2)
  rw [List.length_cons] at h2
  omega
theorem lk_in {sb : Nat → Nat → Nat} {k lo j m le : Nat} {x y z : List Nat × Nat} (h1 : y = lkP sb k lo j x) (h2 : z = lkY sb (y.1.getD (lo + j) 0) le y) (hle : le ≤ k) (hj : j < m) : z.2 ≤ (lkP sb k lo m x).2 := by
  have h3 := lkP_mono sb k lo x (show j + 1 ≤ m by omega)
  rw [lkP_succ, ← h1] at h3
  rw [h2]
  exact Nat.le_trans (lkY_mono sb _ y hle).1 h3.1
/-- the weight of all that a set leads to -/
def nx (sb : Nat → Nat → Nat) (k : Nat) (W : Nat → Int64) (S : Nat) : Int64 := sL k (fun y => if sb S y = 0 then 0 else W (sb S y))
theorem cl_yes {sb : Nat → Nat → Nat} {kn : List Nat} {g W : Nat → Int64} {B x : Int64} {S t y : Nat} (ht : t < kn.length) (hkt : kn.getD t 0 = sb S y) (h0 : sb S y ≠ 0) (h : sL kn.length (fun i => g i * W (kn.getD i 0)) = B + x * sL y (fun z => if sb S z = 0 then 0 else W (sb S z))) : sL kn.length (fun i => va_up g t (g t + x) i * W (kn.getD i 0)) = B + x * sL (y + 1) (fun z => if sb S z = 0 then 0 else W (sb S z)) := by
  have e := sL_up (g := g) (W := fun i => W (kn.getD i 0)) (x := x) ht
  refine e.trans ?_
  show sL kn.length (fun i => g i * W (kn.getD i 0)) + x * W (kn.getD t 0) = _
  rw [h, sL_succ, if_neg h0, Int64.mul_add, ← Int64.add_assoc, hkt]
theorem cl_no {sb : Nat → Nat → Nat} {W : Nat → Int64} {T B x : Int64} {S y : Nat} (h0 : sb S y = 0) (h : T = B + x * sL y (fun z => if sb S z = 0 then 0 else W (sb S z))) : T = B + x * sL (y + 1) (fun z => if sb S z = 0 then 0 else W (sb S z)) := by
  rw [h, sL_succ, if_pos h0, Int64.add_zero]
theorem cl_end {sb : Nat → Nat → Nat} {k : Nat} {kn : List Nat} {W yF : Nat → Int64} {T : Int64} {q y : Nat} (hy : y = k ∨ yF q = 0) (h : T = sL q (fun j => yF j * nx sb k W (kn.getD j 0)) + yF q * sL y (fun z => if sb (kn.getD q 0) z = 0 then 0 else W (sb (kn.getD q 0) z))) : T = sL (q + 1) (fun j => yF j * nx sb k W (kn.getD j 0)) := by
  rw [h, sL_succ]
  obtain rfl | h0 := hy
  · rfl
  · rw [h0, Int64.zero_mul, Int64.zero_mul]
theorem sL_z {n : Nat} {g W : Nat → Int64} (h : ∀ i, i < n → g i = 0) : sL n (fun i => g i * W i) = 0 := by
  rw [sL_congr (g := fun _ => 0) (fun i hi => by rw [h i hi, Int64.zero_mul]), sL_zero]
theorem BK1_lt {sb : Nat → Nat → Nat} {kn : List Nat} {bF : Nat → Int32} {q y : Nat} (hk : kn.length < 2 ^ 31) (h : BK1 sb kn bF q y) (hl : bF (q * 4 + y) < 0) : sb (kn.getD q 0) y = 0 := by
  obtain h | ⟨_, t, h1, _, h3⟩ := h
  · exact h.1
  · rw [h3] at hl
    exact absurd hl (nI_pos (by omega))
theorem BK1_ge {sb : Nat → Nat → Nat} {kn : List Nat} {bF : Nat → Int32} {q y : Nat} (h : BK1 sb kn bF q y) (hl : ¬ bF (q * 4 + y) < 0) : sb (kn.getD q 0) y ≠ 0 ∧ ∃ t, t < kn.length ∧ kn.getD t 0 = sb (kn.getD q 0) y ∧ bF (q * 4 + y) = nI t := by
  obtain h | h := h
  · rw [h.2] at hl
    exact absurd (by decide) hl
  · exact h
/-- how many words of a length are known to be, from a set -/
def cntL (sb : Nat → Nat → Nat) (k : Nat) : Nat → Nat → Int64
  | 0, _ => 1
  | r + 1, S => nx sb k (cntL sb k r) S
def stS (sb : Nat → Nat → Nat) (k : Nat) (_ : Nat) (z : (List Nat × Nat) × Nat) : (List Nat × Nat) × Nat := (lkP sb k z.2 (z.1.1.length - z.2) z.1, z.1.1.length)
def stN (sb : Nat → Nat → Nat) (k al cap n : Nat) : (List Nat × Nat) × Nat := rr_fold (stS sb k) n (([al], capN cap 0), 0)
theorem stN_succ (sb : Nat → Nat → Nat) (k al cap n : Nat) : stN sb k al cap (n + 1) = stS sb k n (stN sb k al cap n) := rfl
theorem stN_mono (sb : Nat → Nat → Nat) (k al cap : Nat) {n m : Nat} (h : n ≤ m) : (stN sb k al cap n).1.2 ≤ (stN sb k al cap m).1.2 := by
  induction h with
  | refl => exact Nat.le_refl _
  | @step m _ ih =>
    rw [stN_succ]
    exact Nat.le_trans ih (lkP_le sb k _ _ _).1
def stF (sb : Nat → Nat → Nat) (k al cap n : Nat) : List Nat × Nat := if al = 0 then ([], cap) else (stN sb k al cap n).1
def stRm (sb : Nat → Nat → Nat) (k al cap n room : Nat) : Nat := if al = 0 then room else rmN room (stF sb k al cap n).2
theorem rmN_max (a b : Nat) : rmN a b = max a b := by unfold rmN; split <;> omega
theorem lk1_getD {sb : Nat → Nat → Nat} {frm y i : Nat} {x : List Nat × Nat} (h : i < x.1.length) : (lk1 sb frm y x).1.getD i 0 = x.1.getD i 0 := by
  unfold lk1
  split
  · rfl
  · exact adK_getD h
theorem lkY_getD {sb : Nat → Nat → Nat} {frm i : Nat} {x : List Nat × Nat} (h : i < x.1.length) : ∀ m, (lkY sb frm m x).1.getD i 0 = x.1.getD i 0
  | 0 => rfl
  | m + 1 => by
    rw [lkY_succ, lk1_getD (Nat.lt_of_lt_of_le h (lkY_le sb frm m x).2)]
    exact lkY_getD h m
theorem lkP_getD {sb : Nat → Nat → Nat} {k lo i : Nat} {x : List Nat × Nat} (h : i < x.1.length) : ∀ m, (lkP sb k lo m x).1.getD i 0 = x.1.getD i 0
  | 0 => rfl
  | m + 1 => by
    rw [lkP_succ, lkY_getD (Nat.lt_of_lt_of_le h (lkP_le sb k lo m x).2)]
    exact lkP_getD h m
theorem BOK_congr {sb : Nat → Nat → Nat} {k m : Nat} {kn : List Nat} {f g : Nat → Int32} (hk : k ≤ 4) (h : BOK sb k kn f m) (e : ∀ j, j < 4 * m → g j = f j) : BOK sb k kn g m := fun q hq y hy => by
  have h1 := h q hq y hy
  unfold BK1 at h1 ⊢
  rw [e _ (by omega)]
  exact h1
theorem st_one {W yF : Nat → Int64} : sL 1 (fun i => va_up yF 0 1 i * W i) = W 0 := by
  show 0 + va_up yF 0 1 0 * W 0 = W 0
  have e : va_up yF 0 1 0 = 1 := by unfold va_up; rw [if_pos rfl]
  rw [e, Int64.zero_add, Int64.one_mul]
theorem st_step {sb : Nat → Nat → Nat} {k m r N : Nat} {kn1 kn2 : List Nat} {y1 y3 g4 : Nat → Int64} (h4 : ∀ W : Nat → Int64, sL N (fun i => g4 i * W (kn2.getD i 0)) = sL m (fun j => y3 j * nx sb k W (kn2.getD j 0))) (hy : ∀ j, j < m → y3 j = y1 j) (hk : ∀ j, j < m → kn2.getD j 0 = kn1.getD j 0) : sL N (fun i => g4 i * cntL sb k r (kn2.getD i 0)) = sL m (fun j => y1 j * cntL sb k (r + 1) (kn1.getD j 0)) := by
  rw [h4 (cntL sb k r)]
  exact sL_congr (fun j hj => by rw [hy j hj, hk j hj]; rfl)
