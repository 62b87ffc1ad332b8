/-! the law: its object made -/
set_option maxHeartbeats 4000000 in
set_option maxRecDepth 100000 in
theorem lw_made {ρ : Type} {X : xX} {Qf : ρ → State → Prop} {o : Option ρ} {b : Nat} (Cg : xCg X cL_law "BakeryNightLaw" (some .boolean) room_1 5) (hAO : xAO (xXs X)) (hfl : (xXE X).2.1.2.2 9 0 = 0)
    (aft : ∀ σ : xS, J0S σ → WO (xat X 185 7415) Qf WW σ 8 [(1, .ref (xqa (xXE X).2.2 0)), (0, .ref b)] [] o) : WO (xat X 0 0) Qf (wP 0 (fun _ _ => false)) (fun _ _ => 0) 0 [(0, .ref b)] [] o := by
  obtain ⟨s1, s2, s3, s4, e1, e2, e3, e4, e5, e6, e7, hJ⟩ := ini_c (n := 4000000) (Nat.le_refl _)
  refine x_newO (c := 0) (m := 0) (by decide) Cg cls_X12 rfl (fun _ _ => rfl) (fun _ _ => rfl) (by decide) hfl wd80 wd81 wd49 dL_law_0 (by decide) (by decide) ?_
  have C1 := Cg 1 12 (by decide) (by decide)
  refine x_dup C1 dL_law_3 rfl ?_
  refine x_callIO Cg hAO (by decide) (ct_X12_init (xXl X) (xXE X) hfl (h := fun _ _ => false) (fun _ _ _ => rfl) (fun _ _ _ => rfl) e1 e2 e3 e4 e5 e6 e7) mt_X12_init rfl wd83 wd82 rfl ⟨by decide, by decide⟩ rfl (Nat.le_of_ble_eq_true rfl) dL_law_4 ?_
  have C2 := Cg 185 7415 (by decide) (by decide)
  refine x_astore_n C2 dL_law_7 rfl (by decide) rfl ?_
  refine x_pick [0, 1] rfl ?_
  refine x_world (w' := WW) rfl (fun k hk => ⟨rfl, fun j v => ?_⟩) (aft _ hJ)
  show WW.2.2 k j v = (if hR 0 184 (fun _ _ => false) k j = true then WW.2.2 k j v else none)
  have hk : xqi k < 185 := hk
  by_cases c : k < 184
  · have e : hR 0 184 (fun _ _ => false) k j = true := by
      unfold hR
      rw [if_pos ⟨Nat.zero_le _, c⟩]
    rw [e]
    simp
  · have e : k = 216 := by
      unfold xqi at hk
      split at hk
      · omega
      · split at hk
        · assumption
        · split at hk <;> omega
    subst e
    rw [WW_none (by omega) (by unfold rfs; simp [rtL])]
    simp
