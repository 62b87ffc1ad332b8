/-! the reference's minute: what has ended, what spoils -/
def wmF (P : NP) (N : Nat → Nat → Int) : Int := sumTo (pn P) (fun b => if N 0 b ≠ -1 then N 0 b else 0)
section RNM
variable {σ : xS} {k n : Nat} {β : Nat → Int} {u t : Int} {N : Nat → Nat → Int} {M : NS}
end RNM
