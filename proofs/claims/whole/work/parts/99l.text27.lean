/-! the reference: nothing given -/
section TX27
variable {T : Nat → Int} {L p : Nat} {σ τ υ : xS} {n : Nat} {S : PSt}
theorem r_empties (hn : 4000000 ≤ n) : OK (m_X13_empties n 186 σ) (fun τ => (∀ i, i < 289 → τ 186 i = δ0 i) ∧ ∀ k j, k ≠ 186 → τ k j = σ k j) := by
  unfold m_X13_empties
  refine loop_for 289 (fun i (t : Int × xS) => t.1 = (i : Int) ∧ (∀ j, j < i → t.2 186 j = 0) ∧ ∀ k j, k ≠ 186 → t.2 k j = σ k j) ?_ ?_ (by omega) ⟨rfl, fun j hj => absurd hj (Nat.not_lt_zero _), fun _ _ _ => rfl⟩
  · rintro i t hi ⟨g1, g2, g3⟩ rec hrec
    try dsimp only
    rw [g1, zI_of (n := (i : Int)) (by omega) (by omega), if_neg (by omega), xck_of (by omega) (by omega), xlet_eq, xlet_eq, tn_cast]
    refine hrec _ ⟨by show (i : Int) + 1 = _; omega, fun j hj => ?_, fun k j hk => ?_⟩
    · show xput t.2 186 i 0 186 j = 0
      by_cases e : j = i
      · subst e
        exact xput_eq
      · rw [xput_ne (by omega)]
        exact g2 j (by omega)
    · show xput t.2 186 i 0 k j = _
      rw [xput_ne (by omega)]
      exact g3 k j hk
  · rintro t ⟨g1, g2, g3⟩ rec
    try dsimp only
    rw [g1, zI_of (n := ((289 : Nat) : Int)) (by omega) (by omega), if_pos (by omega), xck_of (by omega) (by omega), xlet_eq, xck_of (by omega) (by omega), xlet_eq, xck_of (by omega) (by omega), xlet_eq, xck_of (by omega) (by omega), xlet_eq, show (0 : Int).toNat = 0 from rfl, show (1 : Int).toNat = 1 from rfl, show (2 : Int).toNat = 2 from rfl, show (3 : Int).toNat = 3 from rfl]
    refine OK_some ⟨fun i hi => ?_, fun k j hk => ?_⟩
    · by_cases e3 : i = 3
      · subst e3
        exact xput_eq
      · rw [xput_ne (by omega)]
        by_cases e2 : i = 2
        · subst e2
          exact xput_eq
        · rw [xput_ne (by omega)]
          by_cases e1 : i = 1
          · subst e1
            exact xput_eq
          · rw [xput_ne (by omega)]
            by_cases e0 : i = 0
            · subst e0
              exact xput_eq
            · rw [xput_ne (by omega), g2 i hi]
              unfold δ0
              rw [if_neg e0, if_neg e1, if_neg e2, if_neg e3]
    · rw [xput_ne (by omega), xput_ne (by omega), xput_ne (by omega), xput_ne (by omega)]
      exact g3 k j hk
end TX27
