/-! the law: its objects made -/
set_option maxHeartbeats 4000000 in
set_option maxRecDepth 100000 in
theorem lw_made {ρ : Type} {X : xX} {Qf : ρ → State → Prop} {o : Option ρ} {b : Nat} (Cg : xCg X cL_law "BakeryNightLaw" (some .boolean) room_1 7) (hAO : xAO (xXs X)) (hfl : (xXE X).2.1.2.2 9 0 = 0)
    (aft : ∀ (σ : xS) (z : Nat), z ≤ 20000 → TI σ → WO (xat X 217 z) Qf WW σ 23 (lL X b 0) [] o) : WO (xat X 0 0) Qf (wP 0 (fun _ _ => false)) (fun _ _ => 0) 0 [(0, .ref b)] [] o := by
  obtain ⟨s1, s2, s3, s4, s5, e1, e2, e3, e4, e5, e6, e7, e8, e9, hTI⟩ := ini_all (n := 4000000) (Nat.le_refl _)
  refine x_newO (c := 0) (m := 0) (by decide) Cg cls_X12 rfl (fun _ _ => rfl) (fun _ _ => rfl) (by decide) hfl wd179 wd180 wd151 dL_law_0 (by decide) (by decide) ?_
  have C1 := Cg 1 12 (by decide) (by decide)
  refine x_dup C1 dL_law_3 rfl ?_
  refine x_callIO Cg hAO (by decide) (ct_X12_init (xXl X) (xXE X) hfl (h := fun _ _ => false) (fun _ _ _ => rfl) (fun _ _ _ => rfl) e1 e2 e3 e4 e5 e6 e7) mt_X12_init rfl wd182 wd181 rfl ⟨by decide, by decide⟩ rfl (Nat.le_of_ble_eq_true rfl) dL_law_4 ?_
  have C2 := Cg 185 7415 (by decide) (by decide)
  refine x_astore_n C2 dL_law_7 rfl (by decide) rfl ?_
  refine x_newO (c := 184) (m := 185) (by decide) Cg cls_X13 rfl (fun _ _ => rfl) (fun j _ => ?_) (by decide) hfl wd1492 wd1493 wd164 dL_law_8 (by decide) (by decide) ?_
  · rw [xput_ne (by omega)]
    exact e6 184 j (by omega)
  have C3 := Cg 186 7470 (by decide) (by decide)
  refine x_dup C3 dL_law_11 rfl ?_
  refine x_callI Cg (by decide) (ct_X13_init (xXl X) (xXE X) hfl (h := hR 0 184 (fun _ _ => false)) (hlow_R (lo := 0) (c := 0) (hi := 184) (fun _ _ _ => rfl) (by decide)) (fun k j hk => by rw [xput_ne (by omega)]; exact e6 k j (by omega)) e8) mt_X13_init rfl wd1495 wd1494 rfl ⟨by decide, by decide⟩ rfl (Nat.le_of_ble_eq_true rfl) dL_law_12 ?_
  have C4 := Cg 216 15414 (by decide) (by decide)
  refine x_astore_n C4 dL_law_15 rfl (by decide) rfl ?_
  refine x_iconst C4 (1) dL_law_16 rfl ?_
  refine x_newA (m := 216) (by decide) Cg (atype := .long) (q := 1) (n := 1) (c := 215) (by decide) rfl (fun j _ => e9 215 j (by omega)) hfl wdA1 rfl rfl (by decide) dL_law_17 (by decide) (by decide) ?_
  have C5 := Cg 217 15415 (by decide) (by decide)
  refine x_astore_n C5 dL_law_19 rfl (by decide) rfl ?_
  refine x_iconst C5 (0) dL_law_20 rfl ?_
  refine x_istore C5 dL_law_21 (by decide) rfl ?_
  refine x_pick [4, 3, 2, 1, 0] rfl ?_
  refine x_world (w' := WW) rfl (fun k hk => ⟨rfl, fun j v => ?_⟩) (aft s5 15415 (by decide) hTI)
  show WW.2.2 k j v = (if hR 184 215 (hR 0 184 (fun _ _ => false)) k j = true then WW.2.2 k j v else none)
  have hk : xqi k < 217 := hk
  by_cases c : k < 215
  · have e : hR 184 215 (hR 0 184 (fun _ _ => false)) k j = true := by
      unfold hR
      by_cases d : 184 ≤ k
      · rw [if_pos ⟨d, c⟩]
      · rw [if_neg (by omega), if_pos (by omega)]
    rw [e]
    simp
  · have e : k = 215 ∨ k = 216 := by
      unfold xqi at hk
      split at hk
      · omega
      · split at hk
        · exact Or.inr (by assumption)
        · split at hk <;> omega
    rcases e with rfl | rfl
    · rw [WW_none (by omega) (by unfold rfs; simp [rtL])]
      simp
    · rw [WW_none (by omega) (by unfold rfs; simp [rtL])]
      simp
