/-! the reference: streets -/
section TX23
variable {T : Nat → Int} {L p cnt : Nat} {σ τ υ : xS} {n b k1 z1 c : Nat} {s : RS0} {f : Int × Nat} {S : PSt} {nm : Nat → Nat × Nat}
theorem rPl_none : rPl T L nm cnt (-1) p = rPlc T L nm cnt p := by
  unfold rPl rPlc rKnw
  rw [if_neg (show ¬ (7 : Int) = -1 by omega)]
  by_cases c : kwF T L p = 23
  · rw [if_pos c, if_pos c]
  · rw [if_neg c, if_neg c]
    by_cases d : nmB T L p = true
    · rw [if_pos d, if_pos d]
      by_cases e : ixN T L nm cnt p < cnt
      · rw [if_pos e, if_pos e, if_neg (by omega)]
      · rw [if_neg e, if_neg e]
    · rw [if_neg d, if_neg d]
theorem rPl_some {o : Int} : rPl T L nm cnt o p = match rPlc T L nm cnt p with
    | .inl f => .inl f
    | .inr q => if q.1 = o then .inl (3, p) else .inr q := by
  unfold rPl rPlc rKnw
  by_cases c : kwF T L p = 23
  · rw [if_pos c, if_pos c]
  · rw [if_neg c, if_neg c]
    by_cases d : nmB T L p = true
    · rw [if_pos d, if_pos d]
      by_cases e : ixN T L nm cnt p < cnt
      · rw [if_pos e, if_pos e]
      · rw [if_neg e, if_neg e]
    · rw [if_neg d, if_neg d]
theorem plc_r {q : Int × Nat} (h : rPlc T L nm cnt p = .inr q) : q.1 = 7 ∨ (0 ≤ q.1 ∧ q.1 < cnt) := by
  unfold rPlc at h
  split at h
  · cases h
    exact Or.inl rfl
  · exact Or.inr (knw_r h).1
end TX23
