/-! the reference: a statement -/
section TX26
variable {T : Nat → Int} {L p : Nat} {σ τ υ : xS} {n : Nat} {S : PSt}
theorem rtQ_s {r : RSt} (h : rtQ σ T L r) : rtS σ T L (plS r) := by
  cases r with
  | inl f => exact h
  | inr S => exact h.1
theorem r_semi (h : rtQ τ T L (sStm T L S)) (hf : rtF σ τ) (hn : 4000000 ≤ n) : OK ((m_X13_semicolon n τ).bind fun s7 => some s7) (fun υ => rtQ υ T L (sAll T L S) ∧ rtF σ υ) := by
  refine OK_bind (r_semicolon (rtQ_s h) hn) (fun υ g => OK_some ⟨?_, rtF_trans hf (rtF_t g.2)⟩)
  obtain ⟨g1, g2⟩ := g
  unfold sAll
  cases hs : sStm T L S with
  | inl f =>
    rw [hs] at g1
    exact g1
  | inr S1 =>
    rw [hs] at g1 h
    have g1' : rtS υ T L (nxS (rSem T L S1.1)) := g1
    have h' : rtP τ T L S1 := h
    show rtQ υ T L (fin1 (rSem T L S1.1) (fun _ q => stP S1 q))
    cases hq : rSem T L S1.1 with
    | inl f =>
      rw [hq] at g1'
      exact g1'
    | inr q =>
      rw [hq] at g1'
      exact rtP_move h' g1' g2
theorem r_statement (h : rtP σ T L S) (hV : PSV T L S) (hn : 4000000 ≤ n) : OK (m_X13_statement n σ) (fun τ => rtQ τ T L (sAll T L S) ∧ rtF σ τ) := by
  have hG := h.1
  have hkd : kwF T L S.1 ≠ -1 → kdF T L S.1 = 1 := fun z => kw_kind z
  have fin : ∀ {o : Option xS}, OK o (fun τ => rtQ τ T L (sStm T L S) ∧ rtF σ τ) → OK (o.bind fun s11 => (m_X13_semicolon n s11).bind fun s7 => some s7) (fun υ => rtQ υ T L (sAll T L S) ∧ rtF σ υ) := fun ho => OK_bind ho (fun s11 g => r_semi g.1 g.2 hn)
  have hst := show sStm T L S = _ from rfl
  unfold sStm at hst
  unfold m_X13_statement
  rw [r_singleHere hG hn, bind_some', r_manyHere hG hn, bind_some']
  simp only [xj_eq]
  by_cases c0 : kwF T L S.1 = 0
  · rw [if_pos c0, show zI 0 = 0 from rfl, if_neg (by omega)]
    rw [if_pos c0] at hst
    exact fin (by unfold sStm; rw [if_pos c0]; exact r_single (k := 0) (by omega) (Or.inl ⟨rfl, rfl, rfl⟩) h hV (hkd (by omega)) hn)
  rw [if_neg c0]
  by_cases c1 : kwF T L S.1 = 1
  · rw [if_pos c1, show zI 1 = 1 from rfl, if_neg (by omega)]
    exact fin (by unfold sStm; rw [if_neg c0, if_pos c1]; exact r_single (k := 1) (by omega) (Or.inr (Or.inl ⟨rfl, rfl, rfl⟩)) h hV (hkd (by omega)) hn)
  rw [if_neg c1]
  by_cases c2 : kwF T L S.1 = 2
  · rw [if_pos c2, show zI 2 = 2 from rfl, if_neg (by omega)]
    exact fin (by unfold sStm; rw [if_neg c0, if_neg c1, if_pos c2]; exact r_single (k := 2) (by omega) (Or.inr (Or.inr ⟨Or.inl rfl, rfl, rfl⟩)) h hV (hkd (by omega)) hn)
  rw [if_neg c2]
  by_cases c3 : kwF T L S.1 = 3
  · rw [if_pos c3, show zI 3 = 3 from rfl, if_neg (by omega)]
    exact fin (by unfold sStm; rw [if_neg c0, if_neg c1, if_neg c2, if_pos c3]; exact r_single (k := 3) (by omega) (Or.inr (Or.inr ⟨Or.inr rfl, rfl, rfl⟩)) h hV (hkd (by omega)) hn)
  rw [if_neg c3, show zI (-1) = -1 from rfl, if_pos rfl]
  by_cases c4 : kwF T L S.1 = 4
  · rw [if_pos c4, show zI 4 = 4 from rfl, if_neg (by omega)]
    exact fin (by unfold sStm; rw [if_neg c0, if_neg c1, if_neg c2, if_neg c3, if_pos c4]; exact r_doughS h hV (hkd (by omega)) hn)
  rw [if_neg c4]
  by_cases c5 : kwF T L S.1 = 15
  · rw [if_pos c5, show zI 5 = 5 from rfl, if_neg (by omega)]
    exact fin (by unfold sStm; rw [if_neg c0, if_neg c1, if_neg c2, if_neg c3, if_neg c4, if_pos c5]; exact r_ovenS h hV (hkd (by omega)) hn)
  rw [if_neg c5]
  by_cases c6 : kwF T L S.1 = 18
  · rw [if_pos c6, show zI 6 = 6 from rfl, if_neg (by omega)]
    exact fin (by unfold sStm; rw [if_neg c0, if_neg c1, if_neg c2, if_neg c3, if_neg c4, if_neg c5, if_pos c6]; exact r_shop h hV (hkd (by omega)) hn)
  rw [if_neg c6]
  by_cases c7 : kwF T L S.1 = 19
  · rw [if_pos c7, show zI 7 = 7 from rfl, if_neg (by omega)]
    exact fin (by unfold sStm; rw [if_neg c0, if_neg c1, if_neg c2, if_neg c3, if_neg c4, if_neg c5, if_neg c6, if_pos c7]; exact r_streetS h hV (hkd (by omega)) hn)
  rw [if_neg c7]
  by_cases c8 : kwF T L S.1 = 20
  · rw [if_pos c8, show zI 8 = 8 from rfl, if_neg (by omega)]
    exact fin (by unfold sStm; rw [if_neg c0, if_neg c1, if_neg c2, if_neg c3, if_neg c4, if_neg c5, if_neg c6, if_neg c7, if_pos c8]; exact r_van h hV (hkd (by omega)) hn)
  rw [if_neg c8]
  by_cases c9 : kwF T L S.1 = 21
  · rw [if_pos c9, show zI 9 = 9 from rfl, if_neg (by omega)]
    exact fin (by unfold sStm; rw [if_neg c0, if_neg c1, if_neg c2, if_neg c3, if_neg c4, if_neg c5, if_neg c6, if_neg c7, if_neg c8, if_pos c9]; exact r_orderS h hV (hkd (by omega)) hn)
  rw [if_neg c9, show zI (-1) = -1 from rfl, if_pos rfl, hG.2.1]
  refine fin ?_
  have e : sStm T L S = .inl (1, S.1) := by
    unfold sStm
    rw [if_neg c0, if_neg c1, if_neg c2, if_neg c3, if_neg c4, if_neg c5, if_neg c6, if_neg c7, if_neg c8, if_neg c9]
  rw [e]
  exact OK_mono (r_faultyG hG.1 ⟨_, hG.2.1, hG.2.2.1⟩ hG.2.2.2.1 (c := 1) (q := S.1) (by omega)) (fun u hu => ⟨hu.1, rtF_t hu.2.1⟩)
end TX26
