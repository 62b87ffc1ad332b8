/-! the reference finds its shops -/
section PLB
variable {σ τ : xS} {k n : Nat} {β γ : Nat → Int} {e f : Int} {m S : Nat}
theorem mt_lt (hV : V β) {s o : Nat} (ho : (o : Int) < β 9) (h : mtB β s o = true) : (s : Int) < β 6 := by
  have vr := hV.2.2.2.2.2.2.2.2.2.2.2.2.2.2 o ho
  unfold mtB at h
  rw [Bool.and_eq_true, decide_eq_true_eq, decide_eq_true_eq] at h
  omega
end PLB
