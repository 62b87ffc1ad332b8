/-! when a loaf is out -/
section OUT1
variable {σ : xS} {q b n : Nat} {β : Nat → Int} {e f t : Int} {N : Nat → Nat → Int} {M : NS}
def outB (β : Nat → Int) (N : Nat → Nat → Int) (d : Nat) (m : Int) (b : Nat) : Bool := bkB β N d b && decide (N 2 b + pT (prm β) b 5 ≤ m)
def ocF (β : Nat → Int) (N : Nat → Nat → Int) (d : Nat) (m : Int) : Int := sumTo (bl β).length (fun b => if outB β N d m b = true then 1 else 0)
theorem sumTo_more {k : Nat} {f : Nat → Int} (h : ∀ i, 0 ≤ f i) : ∀ {n : Nat}, k ≤ n → sumTo k f ≤ sumTo n f
  | 0, hk => by
    have : k = 0 := by omega
    rw [this]
    exact Int.le_refl _
  | n + 1, hk => by
    rw [sumTo]
    have := h n
    by_cases e : k = n + 1
    · subst e
      rw [sumTo]
      omega
    · have := sumTo_more (k := k) h (n := n) (by omega)
      omega
theorem sumTo_cut {k : Nat} {f : Nat → Int} : ∀ {n : Nat}, k ≤ n → (∀ i, k ≤ i → i < n → f i = 0) → sumTo n f = sumTo k f
  | 0, hk, _ => by
    have : k = 0 := by omega
    rw [this]
  | n + 1, hk, h => by
    by_cases e : k = n + 1
    · subst e; rfl
    · rw [sumTo, sumTo_cut (k := k) (n := n) (by omega) (fun i a b => h i a (by omega)), h n (by omega) (by omega)]
      omega
theorem cb_find {d : Nat} {l sz : Int} (hl : 0 ≤ l) : ∀ k, l < cbF β N d k * sz → ∃ i, i < k ∧ (bkB β N d i && decide (l < cbF β N d (i + 1) * sz)) = true
  | 0, h => by
    have : cbF β N d 0 = 0 := rfl
    rw [this] at h
    omega
  | k + 1, h => by
    by_cases z : bkB β N d k = true
    · exact ⟨k, by omega, by rw [z, decide_eq_true h]; rfl⟩
    · have e : cbF β N d (k + 1) = cbF β N d k := by
        show sumTo k _ + (if bkB β N d k = true then (1 : Int) else 0) = _
        rw [if_neg z]
        exact Int.add_zero _
      rw [e] at h
      obtain ⟨i, hi, hi2⟩ := cb_find hl k h
      exact ⟨i, by omega, hi2⟩
theorem bk_iff {d b : Nat} : bkB β N d b = true ↔ (bl β).getD b 0 = d ∧ N 2 b ≠ -1 := by simp [bkB]
theorem pT_dough {i j : Nat} (h : (bl β).getD i 0 = (bl β).getD j 0) : pT (prm β) i = pT (prm β) j := by
  funext r
  show tmF β i r = tmF β j r
  unfold tmF
  rw [h]
theorem out_mono (I : Minv (prm β) t M) {d i j : Nat} (hij : i ≤ j) (hi : bkB β M.1 d i = true) (hj : bkB β M.1 d j = true) : M.1 2 i + pT (prm β) i 5 ≤ M.1 2 j + pT (prm β) j 5 := by
  obtain ⟨i0, i1, i2, i3, i4, i5, i6, i7, i8, i8', i10, i9, i11, i12, i13⟩ := I
  have h1 := bk_iff.mp hi
  have h2 := bk_iff.mp hj
  have e := pT_dough (β := β) (h1.1.trans h2.1.symm)
  by_cases z : i = j
  · subst z; exact Int.le_refl _
  · rw [e]
    rcases i13 i j (by omega) e h2.2 with y | y
    · rcases i3 i with x | x
      · exact absurd x h1.2
      · exact absurd x.2.2.2.1 y
    · omega
theorem takF_spec (hP : PV (prm β)) (I : Minv (prm β) t M) (hF : FN (prm β) M.1) {d : Nat} {l : Int} (hl : 0 ≤ l) (hs : 0 ≤ dF β d 7) (h : l < cbF β M.1 d (bl β).length * dF β d 7) :
    (0 ≤ takF β M.1 d l ∧ takF β M.1 d l ≤ 125000) ∧ l < ocF β M.1 d (takF β M.1 d l) * dF β d 7 ∧ ∀ m, m < takF β M.1 d l → ocF β M.1 d m * dF β d 7 ≤ l := by
  obtain ⟨i0, hi0, hi1⟩ := cb_find hl _ h
  have hlt : takI β M.1 d l < (bl β).length := by
    rcases Nat.lt_or_ge (takI β M.1 d l) (bl β).length with z | z
    · exact z
    · have hle := firstTo_le (fun b => bkB β M.1 d b && decide (l < cbF β M.1 d (b + 1) * dF β d 7)) (bl β).length
      have hn := firstTo_none.mp (Nat.le_antisymm hle z) i0 hi0
      rw [hi1] at hn
      cases hn
  have hat := firstTo_at (fun b => bkB β M.1 d b && decide (l < cbF β M.1 d (b + 1) * dF β d 7)) _ hlt
  have hbf := firstTo_before (fun b => bkB β M.1 d b && decide (l < cbF β M.1 d (b + 1) * dF β d 7)) (bl β).length
  have etak : takF β M.1 d l = M.1 2 (takI β M.1 d l) + pT (prm β) (takI β M.1 d l) 5 := if_pos hlt
  rw [etak]
  change (bkB β M.1 d (takI β M.1 d l) && decide (l < cbF β M.1 d (takI β M.1 d l + 1) * dF β d 7)) = true at hat
  change ∀ i, i < takI β M.1 d l → _ at hbf
  generalize takI β M.1 d l = i at hlt hat hbf etak
  simp only [Bool.and_eq_true, decide_eq_true_eq] at hat
  obtain ⟨hbk, hli⟩ := hat
  have hb := bk_iff.mp hbk
  have hFi := hF i hlt
  have hT := hP.1 i hlt
  have ep : pE (prm β) M.1 i = M.1 1 i + pT (prm β) i 2 + pT (prm β) i 3 := rfl
  refine ⟨by omega, ?_, fun m hm => ?_⟩
  · have h1 : cbF β M.1 d (i + 1) ≤ ocF β M.1 d (M.1 2 i + pT (prm β) i 5) := by
      refine Int.le_trans (b := sumTo (i + 1) (fun b => if outB β M.1 d (M.1 2 i + pT (prm β) i 5) b = true then 1 else 0)) (sumTo_le fun b hb => ?_) (sumTo_more (fun b => by split <;> omega) (by omega))
      by_cases z : bkB β M.1 d b = true
      · have ho : outB β M.1 d (M.1 2 i + pT (prm β) i 5) b = true := by
          unfold outB
          rw [z, decide_eq_true (out_mono I (by omega) z hbk)]
          rfl
        rw [if_pos z, if_pos ho]
        exact Int.le_refl _
      · rw [if_neg z]
        split <;> omega
    have h2 := Int.mul_le_mul_of_nonneg_right h1 hs
    omega
  · have h1 : ocF β M.1 d m ≤ cbF β M.1 d i := by
      unfold ocF
      rw [sumTo_cut (k := i) (by omega) (fun b h1 h2 => by
        refine if_neg fun z => ?_
        simp only [outB, Bool.and_eq_true, decide_eq_true_eq] at z
        have := out_mono I h1 hbk z.1
        omega)]
      refine sumTo_le fun b hb => ?_
      by_cases z : bkB β M.1 d b = true
      · rw [if_pos z]
        split <;> omega
      · have ho : outB β M.1 d m b = false := by
          unfold outB
          rw [bfalse z]
          rfl
        rw [if_neg z, ho]
        exact Int.le_refl _
    have h2 := Int.mul_le_mul_of_nonneg_right h1 hs
    have h3 : ¬ l < cbF β M.1 d i * dF β d 7 := fun z => by
      obtain ⟨j, hj, hj2⟩ := cb_find hl _ z
      have := hbf j hj
      rw [hj2] at this
      cases this
    omega
end OUT1
