/-! the two nights side by side -/
section ASK2
variable {σ : xS} {q b n : Nat} {β : Nat → Int} {e f t : Int} {N : Nat → Nat → Int} {M : NS}
theorem bkA_lt (v : Int) : bkA v + 54 ≤ 118 := by
  unfold bkA
  split <;> omega
theorem OK_xbS {ρ : Type} {o : Option (Int × xS)} {F : Int → xS → Option ρ} {Q : Int × xS → Prop} {P : ρ → Prop} (h : OK o Q) (k : ∀ v s, Q (v, s) → OK (F v s) P) : OK (xbS o F) P := by
  obtain ⟨r, rfl, q⟩ := h
  exact k r.1 r.2 q
end ASK2
