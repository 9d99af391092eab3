section
/-! the digest of all -/
def dgS1 (kF nF yF : Nat → Nat) (x : Nat) (h : Int64) : Int64 := dgE (kF x) (nF x) (Es yF x) (dgH h (kF x) (nF x) (waysS (kF x) (nF x) (Es yF x)) (pc (liveS (kF x) (nF x) (Es yF x))) (lwS (kF x) (nF x) (liveS (kF x) (nF x) (Es yF x)) (Es yF x)))
def dgS (kF nF yF : Nat → Nat) (m : Nat) (h : Int64) : Int64 := rr_fold (dgS1 kF nF yF) m h
def dg4 (ns wl nf wd : Nat) : Int64 := dg (dg (dg (dg (lN 193) (nI ns)) (nI wl)) (nI nf)) (nI wd)
def dgW (WD : Nat → Nat) (m : Nat) (h : Int64) : Int64 := rr_fold (fun i h => dg h (nI (WD i))) m h
def dgT (ns wl nf wd : Nat) (kF nF yF WD FL FW TD : Nat → Nat) : Int64 := dgP wd TD (dgB nf FL FW (dgW WD wl (dgS kF nF yF ns (dg4 ns wl nf wd))))
theorem dg4_fold (ns wl nf wd : Nat) : rr_fold (fun i h => dg h (cntA ns wl nf wd (nI i))) 4 (lN 193) = dg4 ns wl nf wd := by
  have e0 : cntA ns wl nf wd (nI 0) = nI ns := if_pos rfl
  have e1 : cntA ns wl nf wd (nI 1) = nI wl := by unfold cntA; rw [if_neg (by decide), if_pos rfl]
  have e2 : cntA ns wl nf wd (nI 2) = nI nf := by unfold cntA; rw [if_neg (by decide), if_neg (by decide), if_pos rfl]
  have e3 : cntA ns wl nf wd (nI 3) = nI wd := by unfold cntA; rw [if_neg (by decide), if_neg (by decide), if_neg (by decide), if_pos rfl]
  show dg (dg (dg (dg (lN 193) (cntA ns wl nf wd (nI 0))) (cntA ns wl nf wd (nI 1))) (cntA ns wl nf wd (nI 2))) (cntA ns wl nf wd (nI 3)) = _
  rw [e0, e1, e2, e3]
  rfl
theorem abt_at {ns x w : Nat} {kF nF yF : Nat → Nat} (hn : ns ≤ 6) (hx : x < ns) (hw : w ≤ 5) : abtA ns kF nF yF (nI x) (nI w) = nI (abtN (kF x) (nF x) (Es yF x) w) := by
  unfold abtA
  rw [isS_j hx (by omega), rrin_in (by decide) (Nat.zero_le _) hw, cN_nI (by omega), cN_nI (by omega)]
  rfl
theorem dgH_fold {ns x : Nat} {kF nF yF : Nat → Nat} (hn : ns ≤ 6) (hx : x < ns) (h : Int64) : rr_fold (fun i h => dg h (abtA ns kF nF yF (nI x) (nI i))) 5 h = dgH h (kF x) (nF x) (waysS (kF x) (nF x) (Es yF x)) (pc (liveS (kF x) (nF x) (Es yF x))) (lwS (kF x) (nF x) (liveS (kF x) (nF x) (Es yF x)) (Es yF x)) := by
  show dg (dg (dg (dg (dg h (abtA ns kF nF yF (nI x) (nI 0))) (abtA ns kF nF yF (nI x) (nI 1))) (abtA ns kF nF yF (nI x) (nI 2))) (abtA ns kF nF yF (nI x) (nI 3))) (abtA ns kF nF yF (nI x) (nI 4)) = _
  rw [abt_at hn hx (by decide), abt_at hn hx (by decide), abt_at hn hx (by decide), abt_at hn hx (by decide), abt_at hn hx (by decide)]
  rfl
theorem dgS_succ (kF nF yF : Nat → Nat) (m : Nat) (h : Int64) : dgS kF nF yF (m + 1) h = dgS1 kF nF yF m (dgS kF nF yF m h) := rfl
theorem dgS_0 (kF nF yF : Nat → Nat) (h : Int64) : dgS kF nF yF 0 h = h := rfl
theorem dgW_0 (WD : Nat → Nat) (h : Int64) : dgW WD 0 h = h := rfl
theorem dgB_0 (FL FW : Nat → Nat) (h : Int64) : dgB 0 FL FW h = h := rfl
end
