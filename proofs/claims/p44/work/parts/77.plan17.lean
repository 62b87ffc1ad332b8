/-! the best plan taken up again by the reference; the class's best plan when it is asked for -/
section PLH
variable {σ τ : xS} {k n i : Nat} {β γ : Nat → Int} {e f : Int}
theorem GR_same {q : Nat} {rd du ld : Nat → Int} (h : GR σ q rd du ld) (hs : ∀ a j, q + 1 ≤ a → a ≤ q + 3 → τ a j = σ a j) : GR τ q rd du ld := fun s hs' => by
  rw [hs _ _ (by omega) (by omega), hs _ _ (by omega) (by omega), hs _ _ (by omega) (by omega)]
  exact h s hs'
theorem RD_same {r : Nat} (h : RD σ r β) (hs : ∀ a j, r + 6 ≤ a → a ≤ r + 14 → τ a j = σ a j) : RD τ r β :=
  ⟨fun p q hp hq => by rw [hs _ _ (by omega) (by omega)]; exact h.1 p q hp hq, fun m p hm hp => by rw [hs _ _ (by omega) (by omega)]; exact h.2 m p hm hp⟩
end PLH
