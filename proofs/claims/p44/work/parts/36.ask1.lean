/-! questions about a night: spoiled, baking, waiting -/
section ASK1
variable {σ : xS} {q b n : Nat} {β : Nat → Int} {e f t : Int} {N : Nat → Nat → Int} {M : NS}
def spF (β : Nat → Int) (N : Nat → Nat → Int) : Int := sumTo (bl β).length (fun b => if N 3 b = -1 then 0 else 1)
def bmF (β : Nat → Int) (N : Nat → Nat → Int) (o : Nat) : Int := sumTo (bl β).length (fun b => if N 4 b = o then pT (prm β) b 5 else 0)
theorem c_spoiledBatches (hR : RN σ q β f N) (hP : PV (prm β)) (hN : NB (prm β) N) (hn : 4000000 ≤ n) (hf : 0 ≤ f ∧ f ≤ 1439) : m_X4_spoiledBatches n q σ = some (spF β N) := by
  have h60 : (bl β).length ≤ 60 := hP.2.2.1
  have r2 := hR.2.1
  unfold m_X4_spoiledBatches
  refine loop_eq (bl β).length (fun i => (sumTo i (fun b => if N 3 b = -1 then (0 : Int) else 1), (i : Int))) rfl ?_ ?_ (by omega)
  · intro i hi rec
    have h12 := (hR.2.2.2.2.1 i hi).2.2.2
    have h3 := hN.1 i hi 3 (by omega)
    dsimp only
    rw [sumTo]
    have e1 : zI (shF f (N 3 i)) = -1 ↔ N 3 i = -1 := by
      unfold shF
      by_cases z : N 3 i = -1
      · rw [if_pos z, zI_of (by omega) (by omega)]; omega
      · rw [if_neg z, zI_of (by omega) (by omega)]; omega
    simp (disch := omega) only [zI_of (n := (i : Int)), zI_of (n := ((bl β).length : Int)), r2, if_neg, xck_of, tn_cast, xlet_eq, h12, e1]
    rfl
  · intro rec
    dsimp only
    simp (disch := omega) only [zI_of, r2, if_pos]
    rfl
theorem c_minutesBakedIn (hR : RN σ q β f N) (hP : PV (prm β)) (hN : NB (prm β) N) (hF : FN (prm β) N) (hn : 4000000 ≤ n) (hf : 0 ≤ f ∧ f ≤ 1439) {o : Nat} (ho : o < 4) : m_X4_minutesBakedIn n q o σ = some (bmF β N o) := by
  have h60 : (bl β).length ≤ 60 := hP.2.2.1
  have hv : pv (prm β) ≤ 4 := hP.2.2.2.1
  have r2 := hR.2.1
  unfold m_X4_minutesBakedIn
  refine loop_eq (bl β).length (fun i => (sumTo i (fun b => if N 4 b = o then pT (prm β) b 5 else 0), (i : Int))) rfl ?_ ?_ (by omega)
  · intro i hi rec
    have h2 := (hR.2.2.2.2.1 i hi).1
    have h4 := hR.2.2.2.1 i hi 4 (by omega)
    have h5 := hR.2.2.2.1 i hi 5 (by omega)
    have hFi := hF i hi
    have hN4 := hN.2.1 i hi
    dsimp only
    rw [sumTo]
    simp (disch := omega) only [zI_of (n := (i : Int)), zI_of (n := ((bl β).length : Int)), zI_of (n := (o : Int)), zI_of (n := N 4 i), r2, if_neg, xck_of, tn_cast, tn_lit, xlet_eq, xj_eq, h2, h4, h5]
    by_cases c : N 4 i = o
    · have e2 : N 2 i ≠ -1 := by
        unfold pE at hFi
        have := hP.1 i hi
        omega
      rw [if_pos c, if_pos c]
      have e45 : bgF (prm β) f N 5 i - bgF (prm β) f N 4 i = pT (prm β) i 5 := by
        show (if N 2 i = -1 then -1 else N 2 i + pT (prm β) i 5 + f) - (if N 2 i = -1 then -1 else N 2 i + f) = _
        rw [if_neg e2, if_neg e2]
        omega
      rw [e45]
      rfl
    · rw [if_neg c, if_neg c, Int.add_zero]
      rfl
  · intro rec
    dsimp only
    simp (disch := omega) only [zI_of, r2, if_pos]
    rfl
theorem c_waited0 (hR : RN σ q β f N) (hP : PV (prm β)) (hF : FN (prm β) N) (hn : 4000000 ≤ n) : m_X4_minutesWaitedFor n q 0 σ = some (wmF (prm β) N) := by
  have h60 : (bl β).length ≤ 60 := hP.2.2.1
  have r2 := hR.2.1
  unfold m_X4_minutesWaitedFor
  refine loop_eq (bl β).length (fun i => (sumTo i (fun b => if N 0 b ≠ -1 then N 0 b else 0), (i : Int))) rfl ?_ ?_ (by omega)
  · intro i hi rec
    have h0 := hR.2.2.2.1 i hi 0 (by omega)
    have hFi := hF i hi
    have e0 : bgF (prm β) f N 0 i = N 0 i + f := by show (if N 0 i = -1 then -1 else N 0 i + f) = _; rw [if_neg (by omega)]
    dsimp only
    rw [sumTo, if_pos (show N 0 i ≠ -1 by omega)]
    simp (disch := omega) only [m_X4_stageAt, zI_of (n := (i : Int)), zI_of (n := ((bl β).length : Int)), zI_of (n := 2 * (0 : Int)), r2, if_neg, if_pos, xck_of, tn_cast, tn_lit, xlet_eq, xj_eq, h0, e0, hR.1]
    rw [show sumTo i (fun b => if N 0 b ≠ -1 then N 0 b else 0) + (N 0 i + f - f) = sumTo i (fun b => if N 0 b ≠ -1 then N 0 b else 0) + N 0 i by omega]
    rfl
  · intro rec
    dsimp only
    simp (disch := omega) only [zI_of, r2, if_pos]
    rfl
end ASK1
