/-! never more hands than there are -/
section CAP
variable {P : NP} {t : Int} {M : NS}
theorem shN_before (hP : PV P) {N N' : Nat → Nat → Int} (h1 : N' 1 = N 1) (hl : ∀ b, b < pn P → N 1 b < t) : shN P N' t ≤ shN P N (t - 1) := by
  unfold shN
  refine sumTo_le fun b hb => ?_
  have h2 := hl b hb
  have h3 : shB P N' t b = true → shB P N (t - 1) b = true := by
    simp only [shB, h1, Bool.and_eq_true, decide_eq_true_eq]
    intro z
    refine ⟨⟨z.1.1, by omega⟩, by omega⟩
  by_cases z : shB P N' t b = true
  · rw [if_pos z, if_pos (h3 z)]; exact Int.le_refl _
  · rw [if_neg z]; split <;> omega
theorem Cap_step (hP : PV P) (I : Minv P t M) (ht : 0 ≤ t) (hc : shN P M.1 (t - 1) ≤ pk P) : shN P (sA P t M).1 t ≤ pk P ∧ shN P (mstep P t M).1 t ≤ pk P := by
  have B := sBI hP I ht
  have hqs := queS hP I ht
  have hr := step_rows hP I ht
  dsimp only at hr
  obtain ⟨r0, r1, r3, r2, r4, r5, r6, r7⟩ := hr
  have i2 := I.2.2.1
  have i0 := I.1
  have e1 : (sA P t M).1 1 = M.1 1 := by rw [B.1 1 (by decide) (by decide) (by decide) (by decide) (by decide)]; funext b; simp [sN1]
  have hA : shN P (sA P t M).1 t ≤ pk P := Int.le_trans (shN_before hP (N := M.1) e1 (fun b hb => by
    rcases i2 b with z | z <;> omega)) hc
  refine ⟨hA, ?_⟩
  have hq2 : (sQs P t M).Pairwise (qR P) := hqs.2
  have hq1 : ∀ b, b ∈ sQs P t M ↔ _ := hqs.1
  have hc := sumTo_list (n := pn P) ((sQs P t M).take (sK P t M)) (shB P (sA P t M).1 t) ((hq2.sublist (List.take_sublist _ _)).imp (fun h => h.1)) (fun b hb => by
    have h := (hq1 b).mp (List.mem_of_mem_take hb)
    exact ⟨by omega, by simp [shB, e1, h.2.2]⟩)
  have e : shN P (mstep P t M).1 t = sumTo (pn P) (fun b => if (decide (b ∈ (sQs P t M).take (sK P t M)) || shB P (sA P t M).1 t b) = true then (1 : Int) else 0) := by
    unfold shN
    refine sumTo_congr fun b hb => ?_
    have hT := (hP.1 b hb).2.2.1
    by_cases z : b ∈ (sQs P t M).take (sK P t M)
    · have : shB P (mstep P t M).1 t b = true := by simp [shB, r1, z]; omega
      simp [this, z]
    · have : shB P (mstep P t M).1 t b = shB P (sA P t M).1 t b := by simp [shB, r1, z, e1]
      simp [this, z]
  rw [e, hc, List.length_take]
  have : sK P t M = shCnt P (sA P t M).1 t (sQs P t M).length := rfl
  unfold shCnt at this
  have hs : shN P (sA P t M).1 t = sumTo (pn P) (fun b => if shB P (sA P t M).1 t b = true then (1 : Int) else 0) := rfl
  rw [← hs]
  have := hP.2.2.2.2.2
  omega
theorem Cap_t (hP : PV P) : ∀ n : Nat, shN P (Mt P n).1 ((n : Int) - 1) ≤ pk P
  | 0 => by
    have : shN P (M0 P).1 (-1) = 0 := by
      unfold shN
      rw [sumTo_congr (g := fun _ => 0) (fun i _ => by simp [shB, M0])]
      exact sumTo_zero (fun _ _ => rfl)
    have := hP.2.2.2.2.2
    show shN P (M0 P).1 (((0 : Nat) : Int) - 1) ≤ pk P
    rw [show (((0 : Nat) : Int) - 1) = -1 by omega]
    omega
  | n + 1 => by
    have h := (Cap_step hP (Minv_t hP n) (by omega) (Cap_t hP n)).2
    rw [show (((n + 1 : Nat) : Int) - 1) = (n : Int) by omega]
    exact h
end CAP
/-! the reference's minute: shaping -/
section RNL
variable {σ : xS} {k n : Nat} {β : Nat → Int} {u t : Int} {N : Nat → Nat → Int} {M : NS}
theorem ph4 {P : NP} {b : Nat} (hb : bOK P N (u + 1) b) (hT : 0 ≤ pT P b 3) : phF P N u b = 4 ↔ shB P N u b = true := by
  have ep : pE P N b = N 1 b + pT P b 2 + pT P b 3 := rfl
  unfold bOK at hb
  unfold phF shB
  simp only [Bool.and_eq_true, decide_eq_true_eq]
  constructor
  · intro h
    repeat' split at h
    all_goals omega
  · intro h
    rw [if_neg (by omega), if_neg (by omega), if_pos (by omega), if_pos (by omega)]
theorem ph1 {P : NP} {b : Nat} (hb : bOK P N (u + 1) b) (hT : 0 ≤ pT P b 3 ∧ 0 ≤ pT P b 2 ∧ 0 ≤ pT P b 1) : phF P N u b = 1 ↔ mxB P N u b = true := by
  have ep : pE P N b = N 1 b + pT P b 2 + pT P b 3 := rfl
  have er : rE P N b = N 0 b + pT P b 0 + pT P b 1 := rfl
  unfold bOK at hb
  unfold phF mxB
  simp only [Bool.and_eq_true, decide_eq_true_eq]
  constructor
  · intro h
    repeat' split at h
    all_goals omega
  · intro h
    rw [if_neg (by omega), if_neg (by omega), if_neg (by omega), if_pos (by omega), if_pos (by omega)]
theorem ph0 {P : NP} {b : Nat} (hb : bOK P N (u + 1) b) : phF P N u b = 0 ↔ N 0 b = -1 := by
  unfold bOK at hb
  unfold phF
  constructor
  · intro h
    repeat' split at h
    all_goals omega
  · intro h
    rw [if_neg (by omega), if_neg (by omega), if_neg (by omega), if_neg (by omega)]
end RNL
