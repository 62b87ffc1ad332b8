/-! when a loaf is out, where the streets may be others than the night's -/
section OUT5
variable {σ : xS} {k q b n : Nat} {β γ : Nat → Int} {e f t : Int} {N : Nat → Nat → Int} {M : NS}
/-- the same but for the streets -/
def Ag (β γ : Nat → Int) : Prop := ∀ i, i < 289 → (i < 86 ∨ 166 ≤ i) → γ i = β i
end OUT5
