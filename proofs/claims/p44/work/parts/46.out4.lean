/-! questions of both: when an order is ready -/
section OUT4
variable {σ : xS} {k q b n : Nat} {β : Nat → Int} {e f t : Int} {N : Nat → Nat → Int} {M : NS}
theorem rdyF_bd (hV : V β) (h60 : allF β ≤ 60) {o : Nat} (ho : (o : Int) < β 9) : -1 ≤ rdyF β (Mf (prm β)).1 o ∧ rdyF β (Mf (prm β)).1 o ≤ 300000 := by
  have hb := takF_bd (prm_V hV h60) (Mf_NB hV h60) (oF β o 1).toNat (aheadF β o + oF β o 2 - 1)
  have v1 := hV.2.1
  unfold rdyF
  split
  · split <;> omega
  · omega
end OUT4
