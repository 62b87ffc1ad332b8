/-! what stays when the reference's night is over -/
section RFI
variable {σ : xS} {k n : Nat} {β : Nat → Int} {u t : Int} {N : Nat → Nat → Int} {M : NS}
/-- facts of a finished night -/
def FN (P : NP) (N : Nat → Nat → Int) : Prop := ∀ b, b < pn P → (0 ≤ N 0 b ∧ N 0 b ≤ 125000) ∧ (0 ≤ N 1 b ∧ N 1 b ≤ 125000 ∧ rE P N b ≤ N 1 b) ∧ ((N 2 b = -1 ∧ N 4 b = -1 ∧ N 3 b = pE P N b + pT P b 4 + 1 ∧ N 3 b ≤ 125000) ∨ (N 3 b = -1 ∧ pE P N b ≤ N 2 b ∧ N 2 b + pT P b 5 ≤ 125000 ∧ N 2 b - pE P N b ≤ pT P b 4 ∧ 0 ≤ N 4 b ∧ N 4 b < pv P))
theorem FN_of (hP : PV (prm β)) {n0 : Nat} (h0 : n0 ≤ 124001) (I : Minv (prm β) n0 M) (hd : done (prm β) n0 M) : FN (prm β) M.1 := by
  have hf := done_facts I hd
  obtain ⟨i0, i1, i2, i3, i4, i5, i6, i7, i8, i8', i10, i9, i11, i12, i13⟩ := I
  intro b hb
  obtain ⟨f0, f1, f2, f3⟩ := hf.2.2.2 b hb
  have hT := hP.1 b hb
  have a0 := (i1 b).1 (by rw [hf.2.2.1]; exact hb)
  have er : rE (prm β) M.1 b = M.1 0 b + pT (prm β) b 0 + pT (prm β) b 1 := rfl
  have ep : pE (prm β) M.1 b = M.1 1 b + pT (prm β) b 2 + pT (prm β) b 3 := rfl
  have a1 : M.1 1 b ≠ -1 ∧ rE (prm β) M.1 b ≤ M.1 1 b ∧ M.1 1 b < n0 := by
    rcases i2 b with z | z
    · exact absurd z f1
    · exact ⟨f1, z.2⟩
  refine ⟨by omega, by omega, ?_⟩
  have a10 := i10 b
  by_cases z : M.1 3 b = -1
  · right
    have h2 : M.1 2 b ≠ -1 ∧ M.1 2 b + pT (prm β) b 5 < n0 := by
      rcases hd b hb with y | y
      · exact absurd z y
      · exact y
    rcases i3 b with y | y
    · exact absurd y h2.1
    · have := a10.2 h2.1
      exact ⟨z, y.2.1, by omega, y.2.2.2.2, this⟩
  · left
    rcases i4 b with y | y
    · exact absurd y z
    · have h2 : M.1 2 b = -1 := by
        rcases i3 b with x | x
        · exact x
        · exact absurd x.2.2.2.1 z
      exact ⟨h2, a10.1 h2, y.2.1, by omega⟩
end RFI
