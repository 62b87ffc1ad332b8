/-! the law's text: letters of seven bits alone -/
theorem aL_app {t u : List Int32} (h1 : aL t) (h2 : aL u) : aL (t ++ u) := fun k hk => by
  rw [getD_app]
  split
  · next c => exact h1 k c
  · rw [List.length_append] at hk
    exact h2 _ (by omega)
theorem aL_lb : ∀ i, i < 27 → aL (lb i) := by
  have h : ∀ i, i < 27 → ∀ k, k < (lb i).length → 0 ≤ ((lb i).getD k 0).toInt ∧ ((lb i).getD k 0).toInt < 128 := by decide +kernel
  exact h
theorem aL_dec {v : Nat} (hv : v < 10000) : aL (dec v) := by
  have hd : ∀ x, x < 10 → 0 ≤ (dC x).toInt ∧ (dC x).toInt < 128 := by decide
  have h1 : ∀ x, x < 10 → aL [dC x] := fun x hx k hk => by
    have : k = 0 := by simpa using hk
    subst this
    exact hd x hx
  by_cases c1 : v < 10
  · rw [dec1 c1]
    exact h1 v c1
  · by_cases c2 : v < 100
    · rw [dec2 c1 c2]
      exact aL_app (h1 _ (by omega)) (h1 _ (by omega))
    · by_cases c3 : v < 1000
      · rw [dec3 c2 c3]
        exact aL_app (h1 _ (by omega)) (aL_app (h1 _ (by omega)) (h1 _ (by omega)))
      · rw [dec4 c3]
        exact aL_app (h1 _ (by omega)) (aL_app (h1 _ (by omega)) (aL_app (h1 _ (by omega)) (h1 _ (by omega))))
theorem aL_bw {x : Int} {lo hi : Nat} (h : lo ≤ hi) (h2 : hi < 10000) : aL (dec (bw x lo hi)) := aL_dec (by have := (bw_le (x := x) h).2; omega)
theorem aL_nil : aL [] := fun k hk => absurd hk (Nat.not_lt_zero k)
theorem aL_dT (x : Int) : aL (dT x) := by
  unfold dT
  repeat' (first | with_reducible apply aL_app | with_reducible exact aL_nil | with_reducible apply aL_lb | with_reducible apply aL_bw)
  all_goals decide
theorem aL_oT {t : List Int32} (h : aL t) (z : Int) : aL (oT t z) := by
  have e1 : aL (lb (if zand z 1 = 0 then 13 else 14)) := aL_lb _ (by split <;> decide)
  have e2 : aL (lb (if zand z 2 = 0 then 15 else 16)) := aL_lb _ (by split <;> decide)
  unfold oT
  repeat' (first | with_reducible apply aL_app | with_reducible exact h | with_reducible exact e1 | with_reducible exact e2 | with_reducible apply aL_lb | with_reducible apply aL_bw)
  all_goals decide
theorem aL_bT (c : Nat → Int) : aL (bT c) := by
  unfold bT
  refine aL_oT (aL_oT (aL_oT (aL_oT ?_ _) _) _) _
  unfold bT1 bT0
  repeat' (first | with_reducible apply aL_app | with_reducible exact aL_nil | with_reducible exact aL_dT _ | with_reducible apply aL_lb | with_reducible apply aL_bw)
  all_goals decide
