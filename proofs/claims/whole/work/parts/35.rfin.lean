/-! what stays when the reference's night is over -/
section RFI
variable {σ : xS} {k n : Nat} {β : Nat → Int} {u t : Int} {N : Nat → Nat → Int} {M : NS}
/-- the minutes of a batch, all behind it -/
def rgF (P : NP) (N : Nat → Nat → Int) (r b : Nat) : Int := match r with
  | 0 => N 0 b
  | 1 => N 0 b + pT P b 0
  | 2 => N 1 b
  | 3 => N 1 b + pT P b 2
  | 4 => N 2 b
  | _ => if N 2 b = -1 then -1 else N 2 b + pT P b 5
/-- facts of a finished night -/
def FN (P : NP) (N : Nat → Nat → Int) : Prop := ∀ b, b < pn P → (0 ≤ N 0 b ∧ N 0 b ≤ 125000) ∧ (0 ≤ N 1 b ∧ N 1 b ≤ 125000 ∧ rE P N b ≤ N 1 b) ∧ ((N 2 b = -1 ∧ N 4 b = -1 ∧ N 3 b = pE P N b + pT P b 4 + 1 ∧ N 3 b ≤ 125000) ∨ (N 3 b = -1 ∧ pE P N b ≤ N 2 b ∧ N 2 b + pT P b 5 ≤ 125000 ∧ N 2 b - pE P N b ≤ pT P b 4 ∧ 0 ≤ N 4 b ∧ N 4 b < pv P))
theorem FN_of (hP : PV (prm β)) {n0 : Nat} (h0 : n0 ≤ 124001) (I : Minv (prm β) n0 M) (hd : done (prm β) n0 M) : FN (prm β) M.1 := by
  have hf := done_facts I hd
  obtain ⟨i0, i1, i2, i3, i4, i5, i6, i7, i8, i8', i10, i9, i11, i12, i13⟩ := I
  intro b hb
  obtain ⟨f0, f1, f2, f3⟩ := hf.2.2.2 b hb
  have hT := hP.1 b hb
  have a0 := (i1 b).1 (by rw [hf.2.2.1]; exact hb)
  have er : rE (prm β) M.1 b = M.1 0 b + pT (prm β) b 0 + pT (prm β) b 1 := rfl
  have ep : pE (prm β) M.1 b = M.1 1 b + pT (prm β) b 2 + pT (prm β) b 3 := rfl
  have a1 : M.1 1 b ≠ -1 ∧ rE (prm β) M.1 b ≤ M.1 1 b ∧ M.1 1 b < n0 := by
    rcases i2 b with z | z
    · exact absurd z f1
    · exact ⟨f1, z.2⟩
  refine ⟨by omega, by omega, ?_⟩
  have a10 := i10 b
  by_cases z : M.1 3 b = -1
  · right
    have h2 : M.1 2 b ≠ -1 ∧ M.1 2 b + pT (prm β) b 5 < n0 := by
      rcases hd b hb with y | y
      · exact absurd z y
      · exact y
    rcases i3 b with y | y
    · exact absurd y h2.1
    · have := a10.2 h2.1
      exact ⟨z, y.2.1, by omega, y.2.2.2.2, this⟩
  · left
    rcases i4 b with y | y
    · exact absurd y z
    · have h2 : M.1 2 b = -1 := by
        rcases i3 b with x | x
        · exact x
        · exact absurd x.2.2.2.1 z
      exact ⟨h2, a10.1 h2, y.2.1, by omega⟩
/-- the reference behind its night -/
def RG (σ : xS) (β : Nat → Int) : Prop :=
  σ 184 19 = ((bl β).length : Int) ∧
  (∀ b, b < (bl β).length → σ 192 b = lG (bl β) b ∧ σ 193 b = (if (Mf (prm β)).1 3 b = -1 then 8 else 9) ∧ (∀ r, r < 6 → σ 195 (6 * b + r) = rgF (prm β) (Mf (prm β)).1 r b) ∧ σ 196 b = (Mf (prm β)).1 4 b) ∧
  (∀ o : Nat, (o : Int) < β 5 → σ 204 o = (Mf (prm β)).1 7 o) ∧
  σ 184 35 = endF (prm β) (Mf (prm β)).1 (bl β).length ∧ σ 184 36 = wmF (prm β) (Mf (prm β)).1 ∧ σ 184 37 = wbF (prm β) (Mf (prm β)).1 ∧ σ 184 38 = woF (prm β) (Mf (prm β)).1
theorem endE_endF (hF : FN (prm β) N) (hP : PV (prm β)) : ∀ k, k ≤ pn (prm β) → (∀ b, b < k → N 3 b = -1 → N 2 b + pT (prm β) b 5 ≤ u) → endE (prm β) N u k = endF (prm β) N k
  | 0, _, _ => rfl
  | k + 1, hk, h => by
    have ih := endE_endF hF hP k (by omega) (fun b hb => h b (by omega))
    have hb := hF k (by omega)
    have hk2 := h k (by omega)
    have hT := hP.1 k (by omega)
    rw [endE, endF, ih]
    unfold eEn
    by_cases z : N 3 k = -1
    · have h2 : N 2 k ≠ -1 := by
        unfold pE at hb
        omega
      rw [if_neg (by omega), if_pos ⟨h2, hk2 z⟩]
      simp [z]
    · rw [if_pos z]
      simp [z]
theorem RG_of (hV : V β) (h60 : allF β ≤ 60) (h : RF2 σ β) : RG σ β ∧ FN (prm β) (Mf (prm β)).1 := by
  have hP := prm_V hV h60
  have v5 := hV.2.2.2.2.2.1
  obtain ⟨n0, h0, hX, hd, I⟩ := h
  have hF := FN_of hP h0 I hd
  have hf := done_facts I hd
  obtain ⟨⟨h19, hRB, hRO, hQ1, hQ2⟩, h34, h35, h36, h37, h38⟩ := hX
  refine ⟨⟨h19, fun b hb => ?_, fun o ho => (hRO o ho).2.2, ?_, h36, h37, h38⟩, hF⟩
  · obtain ⟨q0, q1, u1, u2, u4, u5, u7, s0, s1, s2, s3, s4, s5, q4, p7, p8⟩ := hRB b hb
    have hFb := hF b hb
    have hT := hP.1 b hb
    obtain ⟨f0, f1, f2, f3⟩ := hf.2.2.2 b hb
    have hdb := hd b hb
    have i4 := I.2.2.2.2.1 b
    generalize (Mf (prm β)).1 = N at *
    have er : rE (prm β) N b = N 0 b + pT (prm β) b 0 + pT (prm β) b 1 := rfl
    have ep : pE (prm β) N b = N 1 b + pT (prm β) b 2 + pT (prm β) b 3 := rfl
    refine ⟨q0, ?_, fun r hr => ?_, q4⟩
    · rw [q1]
      unfold phF
      by_cases z : N 3 b = -1
      · rw [if_neg (by omega), if_pos (by omega), if_neg (by omega), if_pos z]
      · rw [if_pos z, if_neg z]
    · have r6 : r = 0 ∨ r = 1 ∨ r = 2 ∨ r = 3 ∨ r = 4 ∨ r = 5 := by omega
      rcases r6 with rfl | rfl | rfl | rfl | rfl | rfl
      · exact s0
      · rw [s1]
        show sgF _ _ _ = N 0 b + pT (prm β) b 0
        unfold sgF
        rw [if_pos (by omega)]
      · exact s2
      · rw [s3]
        show sgF _ _ _ = N 1 b + pT (prm β) b 2
        unfold sgF
        rw [if_pos (by omega)]
      · exact s4
      · rw [s5]
        show sgF _ _ _ = if N 2 b = -1 then -1 else N 2 b + pT (prm β) b 5
        unfold sgF
        by_cases z : N 2 b = -1
        · rw [if_neg (by omega), if_pos z]
        · rw [if_pos (by omega), if_neg z]
  · rw [h35]
    refine endE_endF hF hP _ (Nat.le_refl _) (fun b hb z => ?_)
    rcases hd b hb with y | y
    · exact absurd z y
    · omega
end RFI
