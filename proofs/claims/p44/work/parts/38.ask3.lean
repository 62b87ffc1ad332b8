/-! questions of both: baking, waiting, simulating -/
section ASK3
variable {σ : xS} {q b n : Nat} {β : Nat → Int} {e f t : Int} {N : Nat → Nat → Int} {M : NS}
theorem FN_Mf (hV : V β) (h60 : allF β ≤ 60) : FN (prm β) (Mf (prm β)).1 := FN_of (n0 := 124001) (prm_V hV h60) (Nat.le_refl _) (Mf_I hV h60) (Mf_done (prm_V hV h60))
theorem c_isPlace {p : Int} (h1 : -2147483648 ≤ p) (h2 : p < 2147483648) : m_X4_isPlace p = if 0 ≤ p ∧ p < 3 then 1 else 0 := by
  unfold m_X4_isPlace
  rw [zI_of h1 h2]
  split
  · rw [if_neg (by omega)]
  · split
    · rw [if_neg (by omega)]
    · rw [if_pos (by omega)]
end ASK3
