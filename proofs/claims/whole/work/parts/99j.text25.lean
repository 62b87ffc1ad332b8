/-! the reference: which statement stands here -/
section TX25
variable {T : Nat → Int} {L p : Nat} {σ : xS} {n : Nat}
theorem r_singleHere (h : rtG σ T L p) (hn : 4000000 ≤ n) : m_X13_singleHere n σ = some (if kwF T L p = 0 then 0 else if kwF T L p = 1 then 1 else if kwF T L p = 2 then 2 else if kwF T L p = 3 then 3 else -1) := by
  obtain ⟨h1, h2, h3, h4, h5⟩ := h
  have hw : ∀ w, w < 24 → m_X13_isWord n w σ = some (if kwF T L p = (w : Int) then 1 else 0) := fun w hw => by
    rw [r_isWord h1 h2 h3 h4 hw hn]
    have hk := kw_iff (T := T) (L := L) (p := p) hw
    by_cases c : iwB T L p w = true
    · rw [if_pos c, if_pos (hk.mpr c)]
    · rw [if_neg c, if_neg (fun z => c (hk.mp z))]
  unfold m_X13_singleHere
  simp only [xj_eq]
  rw [hw 0 (by omega), bind_some', show ((0 : Nat) : Int) = 0 from rfl]
  by_cases c0 : kwF T L p = 0
  · rw [if_pos c0, if_pos c0, show zI 1 = 1 from rfl, if_neg (by omega)]
  rw [if_neg c0, if_neg c0, show zI 0 = 0 from rfl, if_pos rfl]
  rw [hw 1 (by omega), bind_some', show ((1 : Nat) : Int) = 1 from rfl]
  by_cases c1 : kwF T L p = 1
  · rw [if_pos c1, if_pos c1, show zI 1 = 1 from rfl, if_neg (by omega)]
  rw [if_neg c1, if_neg c1, show zI 0 = 0 from rfl, if_pos rfl]
  rw [hw 2 (by omega), bind_some', show ((2 : Nat) : Int) = 2 from rfl]
  by_cases c2 : kwF T L p = 2
  · rw [if_pos c2, if_pos c2, show zI 1 = 1 from rfl, if_neg (by omega)]
  rw [if_neg c2, if_neg c2, show zI 0 = 0 from rfl, if_pos rfl]
  rw [hw 3 (by omega), bind_some', show ((3 : Nat) : Int) = 3 from rfl]
  by_cases c3 : kwF T L p = 3
  · rw [if_pos c3, if_pos c3, show zI 1 = 1 from rfl, if_neg (by omega)]
  rw [if_neg c3, if_neg c3, show zI 0 = 0 from rfl, if_pos rfl]
theorem r_manyHere (h : rtG σ T L p) (hn : 4000000 ≤ n) : m_X13_manyHere n σ = some (if kwF T L p = 4 then 4 else if kwF T L p = 15 then 5 else if kwF T L p = 18 then 6 else if kwF T L p = 19 then 7 else if kwF T L p = 20 then 8 else if kwF T L p = 21 then 9 else -1) := by
  obtain ⟨h1, h2, h3, h4, h5⟩ := h
  have hw : ∀ w, w < 24 → m_X13_isWord n w σ = some (if kwF T L p = (w : Int) then 1 else 0) := fun w hw => by
    rw [r_isWord h1 h2 h3 h4 hw hn]
    have hk := kw_iff (T := T) (L := L) (p := p) hw
    by_cases c : iwB T L p w = true
    · rw [if_pos c, if_pos (hk.mpr c)]
    · rw [if_neg c, if_neg (fun z => c (hk.mp z))]
  unfold m_X13_manyHere
  simp only [xj_eq]
  rw [hw 4 (by omega), bind_some', show ((4 : Nat) : Int) = 4 from rfl]
  by_cases c4 : kwF T L p = 4
  · rw [if_pos c4, if_pos c4, show zI 1 = 1 from rfl, if_neg (by omega)]
  rw [if_neg c4, if_neg c4, show zI 0 = 0 from rfl, if_pos rfl]
  rw [hw 15 (by omega), bind_some', show ((15 : Nat) : Int) = 15 from rfl]
  by_cases c15 : kwF T L p = 15
  · rw [if_pos c15, if_pos c15, show zI 1 = 1 from rfl, if_neg (by omega)]
  rw [if_neg c15, if_neg c15, show zI 0 = 0 from rfl, if_pos rfl]
  rw [hw 18 (by omega), bind_some', show ((18 : Nat) : Int) = 18 from rfl]
  by_cases c18 : kwF T L p = 18
  · rw [if_pos c18, if_pos c18, show zI 1 = 1 from rfl, if_neg (by omega)]
  rw [if_neg c18, if_neg c18, show zI 0 = 0 from rfl, if_pos rfl]
  rw [hw 19 (by omega), bind_some', show ((19 : Nat) : Int) = 19 from rfl]
  by_cases c19 : kwF T L p = 19
  · rw [if_pos c19, if_pos c19, show zI 1 = 1 from rfl, if_neg (by omega)]
  rw [if_neg c19, if_neg c19, show zI 0 = 0 from rfl, if_pos rfl]
  rw [hw 20 (by omega), bind_some', show ((20 : Nat) : Int) = 20 from rfl]
  by_cases c20 : kwF T L p = 20
  · rw [if_pos c20, if_pos c20, show zI 1 = 1 from rfl, if_neg (by omega)]
  rw [if_neg c20, if_neg c20, show zI 0 = 0 from rfl, if_pos rfl]
  rw [hw 21 (by omega), bind_some', show ((21 : Nat) : Int) = 21 from rfl]
  by_cases c21 : kwF T L p = 21
  · rw [if_pos c21, if_pos c21, show zI 1 = 1 from rfl, if_neg (by omega)]
  rw [if_neg c21, if_neg c21, show zI 0 = 0 from rfl, if_pos rfl]
end TX25
