/-! questions of both: who is at work -/
section ASK4
variable {σ : xS} {q b n : Nat} {β : Nat → Int} {e f t : Int} {N : Nat → Nat → Int} {M : NS}
theorem r_stageOf {i r : Nat} (hi : i < 60) (hr : r < 6) : m_X13_stageOf (i : Int) (r : Int) σ = some (σ 195 (6 * i + r)) := by
  unfold m_X13_stageOf
  simp (disch := omega) only [zI_of, xck_of]
  rw [show ((6 * (i : Int) + (r : Int)).toNat) = 6 * i + r by omega]
theorem r_uses (hP : PV (prm β)) (hG : RG σ β) (hF : FN (prm β) (Mf (prm β)).1) {m : Int} (hm : 0 ≤ m ∧ m < 2147483648) {i : Nat} (hi : i < (bl β).length) {s : Nat} (hs : s < 3) : m_X13_uses i s m σ = some (if inB (prm β) (Mf (prm β)).1 s m i = true then 1 else 0) := by
  have h60 : (bl β).length ≤ 60 := hP.2.2.1
  have hg := (hG.2.1 i hi).2.2.1
  have hFi := hF i hi
  have hT := hP.1 i hi
  have ep : pE (prm β) (Mf (prm β)).1 i = (Mf (prm β)).1 1 i + pT (prm β) i 2 + pT (prm β) i 3 := rfl
  have g1 := hg (2 * s) (by omega)
  have g2 := hg (2 * s + 1) (by omega)
  unfold m_X13_uses
  have e1 : (2 * (s : Int)) = ((2 * s : Nat) : Int) := by omega
  have e2 : ((2 * s : Nat) : Int) + 1 = ((2 * s + 1 : Nat) : Int) := by omega
  rw [e1, e2, r_stageOf (by omega) (by omega), r_stageOf (by omega) (by omega), bind_some', g1, g2]
  have core : ∀ x T y : Int, -1 ≤ x → x ≤ 125000 → 1 ≤ T → T ≤ 120 → (x ≠ -1 → y = x + T) → (if zI x = -1 then xbo 0 (some (0 : Int)) else if zI m < zI x then xbo 0 (some 0) else (some y).bind fun v12 => if zI v12 ≤ zI m then xbo 0 (some 0) else xbo 1 (some 1)) = some (if (decide (x ≠ -1) && decide (x ≤ m) && decide (m < x + T)) = true then 1 else 0) := by
    intro x T y a1 a2 a3 a4 a5
    rw [zI_of (n := x) (by omega) (by omega), zI_of (n := m) (by omega) (by omega)]
    by_cases c : x = -1
    · rw [if_pos c]
      simp [c, xbo_0]
    · have ey := a5 c
      rw [if_neg c]
      by_cases c2 : m < x
      · rw [if_pos c2]
        simp [xbo_0, show ¬ x ≤ m by omega]
      · rw [if_neg c2, bind_some', zI_of (n := y) (by omega) (by omega), ey]
        by_cases c3 : x + T ≤ m
        · rw [if_pos c3]
          simp [xbo_0, show ¬ m < x + T by omega]
        · rw [if_neg c3]
          simp [xbo_1, c, show x ≤ m by omega, show m < x + T by omega]
  have s3 : s = 0 ∨ s = 1 ∨ s = 2 := by omega
  rcases s3 with rfl | rfl | rfl
  · exact core ((Mf (prm β)).1 0 i) (pT (prm β) i 0) ((Mf (prm β)).1 0 i + pT (prm β) i 0) (by omega) (by omega) (by omega) (by omega) (fun _ => rfl)
  · exact core ((Mf (prm β)).1 1 i) (pT (prm β) i 2) ((Mf (prm β)).1 1 i + pT (prm β) i 2) (by omega) (by omega) (by omega) (by omega) (fun _ => rfl)
  · exact core ((Mf (prm β)).1 2 i) (pT (prm β) i 5) (if (Mf (prm β)).1 2 i = -1 then -1 else (Mf (prm β)).1 2 i + pT (prm β) i 5) (by omega) (by omega) (by omega) (by omega) (fun h => if_neg h)
theorem r_inUse (hP : PV (prm β)) (hG : RG σ β) (hF : FN (prm β) (Mf (prm β)).1) (hn : 4000000 ≤ n) {m : Int} (hm : 0 ≤ m ∧ m < 2147483648) {s : Nat} (hs : s < 3) : m_X13_inUse n s m σ = some (sumTo (bl β).length (fun i => if inB (prm β) (Mf (prm β)).1 s m i = true then 1 else 0)) := by
  have h60 : (bl β).length ≤ 60 := hP.2.2.1
  have h19 := hG.1
  unfold m_X13_inUse
  refine loop_eq (bl β).length (fun i => (sumTo i (fun i => if inB (prm β) (Mf (prm β)).1 s m i = true then 1 else 0), (i : Int))) rfl ?_ ?_ (by omega)
  · intro i hi rec
    dsimp only
    rw [sumTo]
    simp (disch := omega) only [zI_of (n := (i : Int)), zI_of (n := ((bl β).length : Int)), h19, if_neg, r_uses hP hG hF hm hi hs, bind_some', xlet_eq]
    by_cases c : inB (prm β) (Mf (prm β)).1 s m i = true
    · simp [c, zI_eq]
    · simp [c, zI_eq]
  · intro rec
    dsimp only
    simp (disch := omega) only [zI_of, h19, if_pos]
theorem inB_neg (hP : PV (prm β)) (hF : FN (prm β) N) {m : Int} (hm : m < 0) (s : Nat) (hs : s < 3) {i : Nat} (hi : i < (bl β).length) : inB (prm β) N s m i = false := by
  have hFi := hF i hi
  have hT := hP.1 i hi
  unfold pE at hFi
  have hx : N s i = -1 ∨ m < N s i := by
    have s3 : s = 0 ∨ s = 1 ∨ s = 2 := by omega
    rcases s3 with rfl | rfl | rfl <;> omega
  unfold inB
  rcases hx with h | h
  · simp [h]
  · simp [show ¬ N s i ≤ m by omega]
theorem q_busy (hT : NT σ β e) (hn : 4000000 ≤ n) {p m : Int} (h1 : -2147483648 ≤ p) (h2 : p < 2147483648) (h3 : -2147483648 ≤ m) (h4 : m < 2147483648) : SAME σ (m_X12_busy n p m σ) (m_X13_busy n p m σ) := by
  have hT' := hT
  obtain ⟨hB, hβ, hV, -⟩ := hT
  unfold m_X12_busy m_X13_busy
  refine SAME_night hT' hn (fun h60 hf hRF hF => ?_)
  have hP := prm_V hV h60
  have hN := Mf_NB hV h60
  have hb60 : (bl β).length ≤ 60 := hP.2.2.1
  have hin : m_X13_isIn (zI p) 0 2 = if 0 ≤ p ∧ p ≤ 2 then 1 else 0 := by rw [zI_of h1 h2, r_isIn (by omega) (by omega) (by omega) (by omega) (by omega) (by omega)]
  rw [c_isPlace h1 h2, hin]
  by_cases c : 0 ≤ p ∧ p < 3
  · obtain ⟨s, rfl⟩ : ∃ s : Nat, p = (s : Int) := ⟨p.toNat, by omega⟩
    have hbd := cnt_bd (n := (bl β).length) (fun i => inB (prm β) (Mf (prm β)).1 s (m - σ 184 6) i)
    refine ⟨sumTo (bl β).length (fun i => if inB (prm β) (Mf (prm β)).1 s (m - σ 184 6) i = true then 1 else 0), ?_, by omega, by omega, fun s' hG hs h6 => ?_⟩
    · rw [if_pos c, xj_eq, if_neg (by omega)]
      have hci := c_inUse hRF.1 hP hN hn hf (m := m) ⟨h3, h4⟩ (s := s) (by omega)
      have e2 : m_X4_stageAt (s : Int) = ((2 * s : Nat) : Int) := by unfold m_X4_stageAt; omega
      rw [e2, hci]
      rfl
    · rw [if_pos (show 0 ≤ (s : Int) ∧ (s : Int) ≤ 2 by omega), if_neg (show ¬ (1 : Int) = 0 by omega), xj_eq, h6, zI_of (by omega) (by omega), zI_of h3 h4]
      by_cases cm : σ 184 6 ≤ m
      · rw [if_pos cm, r_inUse hP hG hF hn (by omega) (by omega), bind_some']
      · rw [if_neg cm, sumTo_zero (fun i hi => by rw [inB_neg hP hF (by omega) s (by omega) hi]; rfl)]
  · refine ⟨-1, ?_, by omega, by omega, fun s' hG hs h6 => ?_⟩
    · rw [if_neg c, xj_eq, if_pos rfl]
    · rw [if_neg (show ¬ (0 ≤ p ∧ p ≤ 2) by omega), if_pos rfl]
end ASK4
