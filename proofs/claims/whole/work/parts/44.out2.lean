/-! when a loaf is out: the reference -/
section OUT2
variable {σ : xS} {k q b n : Nat} {β : Nat → Int} {e f t : Int} {N : Nat → Nat → Int} {M : NS}
/-- taken out at that minute -/
def atB (β : Nat → Int) (N : Nat → Nat → Int) (d : Nat) (m : Int) (b : Nat) : Bool := bkB β N d b && decide (N 2 b + pT (prm β) b 5 = m)
theorem oc_bd (hP : PV (prm β)) {d : Nat} {m : Int} : 0 ≤ ocF β N d m ∧ ocF β N d m ≤ 60 := by
  have h := cnt_bd (n := (bl β).length) (outB β N d m)
  have h60 : (bl β).length ≤ 60 := hP.2.2.1
  unfold ocF
  omega
theorem oc_step {d : Nat} {last best : Int} (hlb : last < best) (h : ∀ b, b < (bl β).length → bkB β N d b = true → last < N 2 b + pT (prm β) b 5 → best ≤ N 2 b + pT (prm β) b 5) : ocF β N d best = ocF β N d last + sumTo (bl β).length (fun b => if atB β N d best b = true then 1 else 0) := by
  unfold ocF
  refine (sum_two fun b hb => ?_).symm
  have h1 := h b hb
  unfold outB atB
  by_cases z : bkB β N d b = true
  · rw [z]
    simp only [Bool.true_and, decide_eq_true_eq]
    have h2 := h1 z
    by_cases y : N 2 b + pT (prm β) b 5 ≤ last
    · rw [if_pos y, if_neg (by omega), if_pos (by omega)]; rfl
    · by_cases x : N 2 b + pT (prm β) b 5 = best
      · rw [if_neg y, if_pos x, if_pos (by omega)]; rfl
      · rw [if_neg y, if_neg x, if_neg (by omega)]; rfl
  · rw [bfalse z]
    rfl
theorem oc_low {d : Nat} {last best m : Int} (hm : m < best) (h : ∀ b, b < (bl β).length → bkB β N d b = true → last < N 2 b + pT (prm β) b 5 → best ≤ N 2 b + pT (prm β) b 5) : ocF β N d m ≤ ocF β N d last := by
  unfold ocF
  refine sumTo_le fun b hb => ?_
  have h1 := h b hb
  unfold outB
  by_cases z : bkB β N d b = true
  · rw [z]
    simp only [Bool.true_and, decide_eq_true_eq]
    have h2 := h1 z
    by_cases y : N 2 b + pT (prm β) b 5 ≤ m
    · rw [if_pos y, if_pos (by omega)]; exact Int.le_refl _
    · rw [if_neg y]; split <;> omega
  · rw [bfalse z]
    exact Int.le_refl _
theorem oc_all (hP : PV (prm β)) (hF : FN (prm β) N) {d : Nat} {m : Int} (hm : 125000 ≤ m) : ocF β N d m = cbF β N d (bl β).length := by
  unfold ocF cbF
  refine sumTo_congr fun b hb => ?_
  have hFb := hF b hb
  have hT := hP.1 b hb
  have ep : pE (prm β) N b = N 1 b + pT (prm β) b 2 + pT (prm β) b 3 := rfl
  unfold outB
  by_cases z : bkB β N d b = true
  · have h2 := (bk_iff.mp z).2
    rw [z, decide_eq_true (show N 2 b + pT (prm β) b 5 ≤ m by omega)]
    rfl
  · rw [bfalse z]
    rfl
theorem oc_neg (hP : PV (prm β)) (hF : FN (prm β) N) {d : Nat} : ocF β N d (-1) = 0 := by
  unfold ocF
  refine sumTo_zero fun b hb => ?_
  have hFb := hF b hb
  have hT := hP.1 b hb
  have ep : pE (prm β) N b = N 1 b + pT (prm β) b 2 + pT (prm β) b 3 := rfl
  refine if_neg fun z => ?_
  simp only [outB, Bool.and_eq_true, decide_eq_true_eq] at z
  have := (bk_iff.mp z.1).2
  omega
/-- what the inner loop knows of the first i batches -/
def ivO (β : Nat → Int) (N : Nat → Nat → Int) (d i : Nat) (last best many : Int) : Prop :=
  last < best ∧ best ≤ 1000000 ∧ many = sumTo i (fun b => if atB β N d best b = true then 1 else 0) ∧ ∀ b, b < i → bkB β N d b = true → last < N 2 b + pT (prm β) b 5 → best ≤ N 2 b + pT (prm β) b 5
theorem ivO_skip {d i : Nat} {last best many : Int} (h : ivO β N d i last best many) (hz : bkB β N d i = false ∨ N 2 i + pT (prm β) i 5 ≤ last) : ivO β N d (i + 1) last best many := by
  obtain ⟨h1, h2, h3, h4⟩ := h
  have hat : atB β N d best i = false := by
    unfold atB
    rcases hz with z | z
    · rw [z]; rfl
    · rw [decide_eq_false (by omega), Bool.and_false]
  refine ⟨h1, h2, ?_, fun b hb hk hl => ?_⟩
  · rw [sumTo, ← h3, hat]
    exact (Int.add_zero _).symm
  · by_cases y : b = i
    · subst y
      rcases hz with z | z
      · rw [z] at hk; cases hk
      · omega
    · exact h4 b (by omega) hk hl
theorem ivO_take {d i : Nat} {last best many : Int} (h : ivO β N d i last best many) (hk : bkB β N d i = true) (hl : last < N 2 i + pT (prm β) i 5) (ho : N 2 i + pT (prm β) i 5 ≤ 1000000) : ivO β N d (i + 1) last (min best (N 2 i + pT (prm β) i 5)) ((if best ≤ N 2 i + pT (prm β) i 5 then many else 0) + (if N 2 i + pT (prm β) i 5 = min best (N 2 i + pT (prm β) i 5) then 1 else 0)) := by
  obtain ⟨h1, h2, h3, h4⟩ := h
  refine ⟨by omega, by omega, ?_, fun b hb hkb hlb => ?_⟩
  · have e : atB β N d (min best (N 2 i + pT (prm β) i 5)) i = decide (N 2 i + pT (prm β) i 5 = min best (N 2 i + pT (prm β) i 5)) := by
      unfold atB
      rw [hk]
      exact Bool.true_and _
    rw [sumTo, e]
    simp only [decide_eq_true_eq]
    by_cases z : best ≤ N 2 i + pT (prm β) i 5
    · rw [if_pos z, h3, show min best (N 2 i + pT (prm β) i 5) = best by omega]
    · rw [if_neg z, sumTo_zero (fun b hb => by
        refine if_neg fun y => ?_
        simp only [atB, Bool.and_eq_true, decide_eq_true_eq] at y
        have := h4 b hb y.1 (by omega)
        omega)]
  · by_cases y : b = i
    · subst y; omega
    · have := h4 b (by omega) hkb hlb
      omega
end OUT2
