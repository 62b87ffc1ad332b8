/-! the top invariant; a recorded change keeps it -/
section TOP1
variable {σ τ s x y y0 : xS} {n m b L : Nat} {β γ δ : Nat → Int} {B : Nat → Nat → Int}
/-- what a record leaves of the class, its night dropped -/
def CHz (s x : xS) (m : Nat) (K I B : Int) : Prop := x 114 3 = (mnF m : Int) + 1 ∧ (∀ i, i < mnF m → x 115 i = s 115 (i + shM m) ∧ x 116 i = s 116 (i + shM m) ∧ x 117 i = s 117 (i + shM m)) ∧ (x 115 (mnF m) = K ∧ x 116 (mnF m) = I ∧ x 117 (mnF m) = B) ∧ x 0 8 = 0 ∧ ∀ k j, ¬ (114 ≤ k ∧ k ≤ 117) → ¬ (k = 0 ∧ j = 8) → x k j = s k j
theorem c_record {K I Bv : Int} (hm : m ≤ 12) (h3 : s 114 3 = (m : Int)) : OK (m_X12_recordChange K I Bv s) (fun x => CHz s x m K I Bv) := by
  unfold m_X12_recordChange
  refine OK_bind (c_add hm h3) fun s1 h => ?_
  obtain ⟨g1, g2, ⟨g3, g4, g5⟩, g6⟩ := h
  unfold m_X12_dropNight
  rw [xlet_eq, bind_some']
  refine OK_some ⟨by rw [xput_ne (by omega)]; exact g1, fun i hi => ⟨by rw [xput_ne (by omega)]; exact (g2 i hi).1, by rw [xput_ne (by omega)]; exact (g2 i hi).2.1, by rw [xput_ne (by omega)]; exact (g2 i hi).2.2⟩, ⟨by rw [xput_ne (by omega)]; exact g3, by rw [xput_ne (by omega)]; exact g4, by rw [xput_ne (by omega)]; exact g5⟩, xput_eq, fun k j c1 c2 => by rw [xput_ne c2]; exact g6 k j (by omega) (by omega)⟩
end TOP1
