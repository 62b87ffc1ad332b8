/-! constructors: nights and plans -/
theorem mt_X4_init : xMth yX4_init cX4_init 1 none 0 := ⟨wd442, wd60, ⟨by decide, by decide, rfl⟩⟩
theorem mt_X8_init : xMth yX8_init cX8_init 1 none 0 := ⟨wd517, wd61, ⟨by decide, by decide, rfl⟩⟩
theorem rq118 : ∀ k j, 118 ≤ k → k < 139 → rfs k j = true → (k = 118 ∧ j = 3) ∨ (k = 118 ∧ j = 4) ∨ (k = 121 ∧ j < 6) ∨ (k = 118 ∧ j = 5) ∨ (k = 118 ∧ j = 6) ∨ (k = 118 ∧ j = 7) ∨ (k = 118 ∧ j = 8) ∨ (k = 118 ∧ j = 10) ∨ (k = 118 ∧ j = 12) ∨ (k = 118 ∧ j = 14) ∨ (k = 118 ∧ j = 15) ∨ (k = 118 ∧ j = 16) ∨ (k = 118 ∧ j = 17) ∨ (k = 118 ∧ j = 18) ∨ (k = 118 ∧ j = 19) := fun k j a b c => of_decide_eq_true (rq_of (lo := 118) (hi := 139) (P := fun k j => decide ((k = 118 ∧ j = 3) ∨ (k = 118 ∧ j = 4) ∨ (k = 121 ∧ j < 6) ∨ (k = 118 ∧ j = 5) ∨ (k = 118 ∧ j = 6) ∨ (k = 118 ∧ j = 7) ∨ (k = 118 ∧ j = 8) ∨ (k = 118 ∧ j = 10) ∨ (k = 118 ∧ j = 12) ∨ (k = 118 ∧ j = 14) ∨ (k = 118 ∧ j = 15) ∨ (k = 118 ∧ j = 16) ∨ (k = 118 ∧ j = 17) ∨ (k = 118 ∧ j = 18) ∨ (k = 118 ∧ j = 19))) (by decide +kernel) k j a b c)
set_option maxHeartbeats 4000000 in
set_option maxRecDepth 100000 in
theorem ct_X4_init_118 (l : Launch) (E : xE) (hfl : E.2.1.2.2 9 0 = 0) {h : Nat → Nat → Bool} (hh : hlow 118 h) {σ : xS} (hz0 : ∀ k j, 118 < k → σ k j = 0) : xMetO l E yX4_init cX4_init 1 none { frames := 1, cells := 20, slots := 850, locals := 20 } [.ref (xqa E.2.2 118)] (wP 120 h) (wP 140 (hR 118 139 h)) σ (some (none, σ)) := by
  refine xMetO_of (by decide) (Nat.le_of_ble_eq_true rfl) (fun X hE hnm hAO Cg => ?_)
  subst hE
  have hh1 := hlow_le hh (Nat.le_succ 118)
  refine x_aload_n (Cg 0 0 (Nat.le_of_ble_eq_true rfl) (Nat.le_of_ble_eq_true rfl)) 0 dX4_init_0 rfl rfl ?_
  refine x_objI (Cg 0 0 (Nat.le_of_ble_eq_true rfl) (Nat.le_of_ble_eq_true rfl)) wd443 (Nat.le_of_ble_eq_true rfl) (Nat.le_of_ble_eq_true rfl) (Nat.le_of_ble_eq_true rfl) dX4_init_1 ?_
  refine x_aload_n (Cg 0 0 (Nat.le_of_ble_eq_true rfl) (Nat.le_of_ble_eq_true rfl)) 0 dX4_init_4 rfl rfl ?_
  refine x_bipush (Cg 0 0 (Nat.le_of_ble_eq_true rfl) (Nat.le_of_ble_eq_true rfl)) (60) dX4_init_5 rfl ?_
  refine x_newA (m := 120) (by decide) Cg (atype := .int) (q := 0) (n := 60) (c := 119) (by decide) rfl (fun j _ => hz0 _ _ (by decide)) hfl wdA0 rfl rfl (by decide) dX4_init_7 (Nat.le_of_ble_eq_true rfl) (Nat.le_of_ble_eq_true rfl) ?_
  have hh2 := hlow_le hh1 (show 119 ≤ 120 by decide)
  refine x_putR Cg (k0 := 118) (j := 3) (a := 119) (σ' := σ) ⟨(Nat.le_of_ble_eq_true rfl), (Nat.le_of_ble_eq_true rfl)⟩ cls_X4 (by decide) rfl (by decide) wd449 rfl (Or.inr ⟨rfl, rfl, hnm⟩) rfl (rt_of ⟨rfl, by decide, by decide⟩) (fun _ _ _ => rfl) dX4_init_9 ?_
  have hh3 := hlow_S (k0 := 118) (j := 3) hh2 (by decide)
  refine x_aload_n (Cg 1 60 (Nat.le_of_ble_eq_true rfl) (Nat.le_of_ble_eq_true rfl)) 0 dX4_init_12 rfl rfl ?_
  refine x_bipush (Cg 1 60 (Nat.le_of_ble_eq_true rfl) (Nat.le_of_ble_eq_true rfl)) (60) dX4_init_13 rfl ?_
  refine x_newA (m := 121) (by decide) Cg (atype := .int) (q := 0) (n := 60) (c := 120) (by decide) rfl (fun j _ => hz0 _ _ (by decide)) hfl wdA0 rfl rfl (by decide) dX4_init_15 (Nat.le_of_ble_eq_true rfl) (Nat.le_of_ble_eq_true rfl) ?_
  have hh4 := hlow_le hh3 (show 120 ≤ 121 by decide)
  refine x_putR Cg (k0 := 118) (j := 4) (a := 120) (σ' := σ) ⟨(Nat.le_of_ble_eq_true rfl), (Nat.le_of_ble_eq_true rfl)⟩ cls_X4 (by decide) rfl (by decide) wd451 rfl (Or.inr ⟨rfl, rfl, hnm⟩) rfl (rt_of ⟨rfl, by decide, by decide⟩) (fun _ _ _ => rfl) dX4_init_17 ?_
  have hh5 := hlow_S (k0 := 118) (j := 4) hh4 (by decide)
  refine x_aload_n (Cg 2 120 (Nat.le_of_ble_eq_true rfl) (Nat.le_of_ble_eq_true rfl)) 0 dX4_init_20 rfl rfl ?_
  refine x_bipush (Cg 2 120 (Nat.le_of_ble_eq_true rfl) (Nat.le_of_ble_eq_true rfl)) (6) dX4_init_21 rfl ?_
  refine x_bipush (Cg 2 120 (Nat.le_of_ble_eq_true rfl) (Nat.le_of_ble_eq_true rfl)) (60) dX4_init_23 rfl ?_
  refine x_multi (n := 6) (by decide) Cg (m := 60) (c := 121) rfl (by decide +kernel) (fun j hj v => rt_of ((by decide +kernel : ∀ j, j < 6 → ((rtL.getD 121 []).getD j 0 = 121 + 1 + j ∧ rkB 121 = true ∧ 121 + 1 + j ≠ 0)) j hj)) (fun k j hk => hz0 k j (Nat.lt_of_le_of_lt (by decide) hk)) hh5 hfl wd444 hAO.2.2.2 wdA0 rfl rfl (by decide) dX4_init_25 (Nat.le_of_ble_eq_true rfl) (Nat.le_of_ble_eq_true rfl) ?_
  have hh6 := hlow_M (k0 := 121) (n := 6) (hlow_le hh5 (show 121 ≤ 128 by decide)) (by decide)
  refine x_putR Cg (k0 := 118) (j := 5) (a := 121) (σ' := σ) ⟨(Nat.le_of_ble_eq_true rfl), (Nat.le_of_ble_eq_true rfl)⟩ cls_X4 (by decide) rfl (by decide) wd453 rfl (Or.inr ⟨rfl, rfl, hnm⟩) rfl (rt_of ⟨rfl, by decide, by decide⟩) (fun _ _ _ => rfl) dX4_init_29 ?_
  have hh7 := hlow_S (k0 := 118) (j := 5) hh6 (by decide)
  refine x_aload_n (Cg 9 486 (Nat.le_of_ble_eq_true rfl) (Nat.le_of_ble_eq_true rfl)) 0 dX4_init_32 rfl rfl ?_
  refine x_bipush (Cg 9 486 (Nat.le_of_ble_eq_true rfl) (Nat.le_of_ble_eq_true rfl)) (60) dX4_init_33 rfl ?_
  refine x_newA (m := 129) (by decide) Cg (atype := .int) (q := 0) (n := 60) (c := 128) (by decide) rfl (fun j _ => hz0 _ _ (by decide)) hfl wdA0 rfl rfl (by decide) dX4_init_35 (Nat.le_of_ble_eq_true rfl) (Nat.le_of_ble_eq_true rfl) ?_
  have hh8 := hlow_le hh7 (show 128 ≤ 129 by decide)
  refine x_putR Cg (k0 := 118) (j := 6) (a := 128) (σ' := σ) ⟨(Nat.le_of_ble_eq_true rfl), (Nat.le_of_ble_eq_true rfl)⟩ cls_X4 (by decide) rfl (by decide) wd455 rfl (Or.inr ⟨rfl, rfl, hnm⟩) rfl (rt_of ⟨rfl, by decide, by decide⟩) (fun _ _ _ => rfl) dX4_init_37 ?_
  have hh9 := hlow_S (k0 := 118) (j := 6) hh8 (by decide)
  refine x_aload_n (Cg 10 546 (Nat.le_of_ble_eq_true rfl) (Nat.le_of_ble_eq_true rfl)) 0 dX4_init_40 rfl rfl ?_
  refine x_bipush (Cg 10 546 (Nat.le_of_ble_eq_true rfl) (Nat.le_of_ble_eq_true rfl)) (60) dX4_init_41 rfl ?_
  refine x_newA (m := 130) (by decide) Cg (atype := .int) (q := 0) (n := 60) (c := 129) (by decide) rfl (fun j _ => hz0 _ _ (by decide)) hfl wdA0 rfl rfl (by decide) dX4_init_43 (Nat.le_of_ble_eq_true rfl) (Nat.le_of_ble_eq_true rfl) ?_
  have hh10 := hlow_le hh9 (show 129 ≤ 130 by decide)
  refine x_putR Cg (k0 := 118) (j := 7) (a := 129) (σ' := σ) ⟨(Nat.le_of_ble_eq_true rfl), (Nat.le_of_ble_eq_true rfl)⟩ cls_X4 (by decide) rfl (by decide) wd456 rfl (Or.inr ⟨rfl, rfl, hnm⟩) rfl (rt_of ⟨rfl, by decide, by decide⟩) (fun _ _ _ => rfl) dX4_init_45 ?_
  have hh11 := hlow_S (k0 := 118) (j := 7) hh10 (by decide)
  refine x_aload_n (Cg 11 606 (Nat.le_of_ble_eq_true rfl) (Nat.le_of_ble_eq_true rfl)) 0 dX4_init_48 rfl rfl ?_
  refine x_bipush (Cg 11 606 (Nat.le_of_ble_eq_true rfl) (Nat.le_of_ble_eq_true rfl)) (60) dX4_init_49 rfl ?_
  refine x_newA (m := 131) (by decide) Cg (atype := .int) (q := 0) (n := 60) (c := 130) (by decide) rfl (fun j _ => hz0 _ _ (by decide)) hfl wdA0 rfl rfl (by decide) dX4_init_51 (Nat.le_of_ble_eq_true rfl) (Nat.le_of_ble_eq_true rfl) ?_
  have hh12 := hlow_le hh11 (show 130 ≤ 131 by decide)
  refine x_putR Cg (k0 := 118) (j := 8) (a := 130) (σ' := σ) ⟨(Nat.le_of_ble_eq_true rfl), (Nat.le_of_ble_eq_true rfl)⟩ cls_X4 (by decide) rfl (by decide) wd457 rfl (Or.inr ⟨rfl, rfl, hnm⟩) rfl (rt_of ⟨rfl, by decide, by decide⟩) (fun _ _ _ => rfl) dX4_init_53 ?_
  have hh13 := hlow_S (k0 := 118) (j := 8) hh12 (by decide)
  refine x_aload_n (Cg 12 666 (Nat.le_of_ble_eq_true rfl) (Nat.le_of_ble_eq_true rfl)) 0 dX4_init_56 rfl rfl ?_
  refine x_bipush (Cg 12 666 (Nat.le_of_ble_eq_true rfl) (Nat.le_of_ble_eq_true rfl)) (60) dX4_init_57 rfl ?_
  refine x_newA (m := 132) (by decide) Cg (atype := .int) (q := 0) (n := 60) (c := 131) (by decide) rfl (fun j _ => hz0 _ _ (by decide)) hfl wdA0 rfl rfl (by decide) dX4_init_59 (Nat.le_of_ble_eq_true rfl) (Nat.le_of_ble_eq_true rfl) ?_
  have hh14 := hlow_le hh13 (show 131 ≤ 132 by decide)
  refine x_putR Cg (k0 := 118) (j := 10) (a := 131) (σ' := σ) ⟨(Nat.le_of_ble_eq_true rfl), (Nat.le_of_ble_eq_true rfl)⟩ cls_X4 (by decide) rfl (by decide) wd459 rfl (Or.inr ⟨rfl, rfl, hnm⟩) rfl (rt_of ⟨rfl, by decide, by decide⟩) (fun _ _ _ => rfl) dX4_init_61 ?_
  have hh15 := hlow_S (k0 := 118) (j := 10) hh14 (by decide)
  refine x_aload_n (Cg 13 726 (Nat.le_of_ble_eq_true rfl) (Nat.le_of_ble_eq_true rfl)) 0 dX4_init_64 rfl rfl ?_
  refine x_bipush (Cg 13 726 (Nat.le_of_ble_eq_true rfl) (Nat.le_of_ble_eq_true rfl)) (60) dX4_init_65 rfl ?_
  refine x_newA (m := 133) (by decide) Cg (atype := .int) (q := 0) (n := 60) (c := 132) (by decide) rfl (fun j _ => hz0 _ _ (by decide)) hfl wdA0 rfl rfl (by decide) dX4_init_67 (Nat.le_of_ble_eq_true rfl) (Nat.le_of_ble_eq_true rfl) ?_
  have hh16 := hlow_le hh15 (show 132 ≤ 133 by decide)
  refine x_putR Cg (k0 := 118) (j := 12) (a := 132) (σ' := σ) ⟨(Nat.le_of_ble_eq_true rfl), (Nat.le_of_ble_eq_true rfl)⟩ cls_X4 (by decide) rfl (by decide) wd461 rfl (Or.inr ⟨rfl, rfl, hnm⟩) rfl (rt_of ⟨rfl, by decide, by decide⟩) (fun _ _ _ => rfl) dX4_init_69 ?_
  have hh17 := hlow_S (k0 := 118) (j := 12) hh16 (by decide)
  refine x_aload_n (Cg 14 786 (Nat.le_of_ble_eq_true rfl) (Nat.le_of_ble_eq_true rfl)) 0 dX4_init_72 rfl rfl ?_
  refine x_iconst (Cg 14 786 (Nat.le_of_ble_eq_true rfl) (Nat.le_of_ble_eq_true rfl)) (4) dX4_init_73 rfl ?_
  refine x_newA (m := 134) (by decide) Cg (atype := .int) (q := 0) (n := 4) (c := 133) (by decide) rfl (fun j _ => hz0 _ _ (by decide)) hfl wdA0 rfl rfl (by decide) dX4_init_74 (Nat.le_of_ble_eq_true rfl) (Nat.le_of_ble_eq_true rfl) ?_
  have hh18 := hlow_le hh17 (show 133 ≤ 134 by decide)
  refine x_putR Cg (k0 := 118) (j := 14) (a := 133) (σ' := σ) ⟨(Nat.le_of_ble_eq_true rfl), (Nat.le_of_ble_eq_true rfl)⟩ cls_X4 (by decide) rfl (by decide) wd463 rfl (Or.inr ⟨rfl, rfl, hnm⟩) rfl (rt_of ⟨rfl, by decide, by decide⟩) (fun _ _ _ => rfl) dX4_init_76 ?_
  have hh19 := hlow_S (k0 := 118) (j := 14) hh18 (by decide)
  refine x_aload_n (Cg 15 790 (Nat.le_of_ble_eq_true rfl) (Nat.le_of_ble_eq_true rfl)) 0 dX4_init_79 rfl rfl ?_
  refine x_iconst (Cg 15 790 (Nat.le_of_ble_eq_true rfl) (Nat.le_of_ble_eq_true rfl)) (4) dX4_init_80 rfl ?_
  refine x_newA (m := 135) (by decide) Cg (atype := .int) (q := 0) (n := 4) (c := 134) (by decide) rfl (fun j _ => hz0 _ _ (by decide)) hfl wdA0 rfl rfl (by decide) dX4_init_81 (Nat.le_of_ble_eq_true rfl) (Nat.le_of_ble_eq_true rfl) ?_
  have hh20 := hlow_le hh19 (show 134 ≤ 135 by decide)
  refine x_putR Cg (k0 := 118) (j := 15) (a := 134) (σ' := σ) ⟨(Nat.le_of_ble_eq_true rfl), (Nat.le_of_ble_eq_true rfl)⟩ cls_X4 (by decide) rfl (by decide) wd464 rfl (Or.inr ⟨rfl, rfl, hnm⟩) rfl (rt_of ⟨rfl, by decide, by decide⟩) (fun _ _ _ => rfl) dX4_init_83 ?_
  have hh21 := hlow_S (k0 := 118) (j := 15) hh20 (by decide)
  refine x_aload_n (Cg 16 794 (Nat.le_of_ble_eq_true rfl) (Nat.le_of_ble_eq_true rfl)) 0 dX4_init_86 rfl rfl ?_
  refine x_iconst (Cg 16 794 (Nat.le_of_ble_eq_true rfl) (Nat.le_of_ble_eq_true rfl)) (4) dX4_init_87 rfl ?_
  refine x_newA (m := 136) (by decide) Cg (atype := .int) (q := 0) (n := 4) (c := 135) (by decide) rfl (fun j _ => hz0 _ _ (by decide)) hfl wdA0 rfl rfl (by decide) dX4_init_88 (Nat.le_of_ble_eq_true rfl) (Nat.le_of_ble_eq_true rfl) ?_
  have hh22 := hlow_le hh21 (show 135 ≤ 136 by decide)
  refine x_putR Cg (k0 := 118) (j := 16) (a := 135) (σ' := σ) ⟨(Nat.le_of_ble_eq_true rfl), (Nat.le_of_ble_eq_true rfl)⟩ cls_X4 (by decide) rfl (by decide) wd465 rfl (Or.inr ⟨rfl, rfl, hnm⟩) rfl (rt_of ⟨rfl, by decide, by decide⟩) (fun _ _ _ => rfl) dX4_init_90 ?_
  have hh23 := hlow_S (k0 := 118) (j := 16) hh22 (by decide)
  refine x_aload_n (Cg 17 798 (Nat.le_of_ble_eq_true rfl) (Nat.le_of_ble_eq_true rfl)) 0 dX4_init_93 rfl rfl ?_
  refine x_iconst (Cg 17 798 (Nat.le_of_ble_eq_true rfl) (Nat.le_of_ble_eq_true rfl)) (4) dX4_init_94 rfl ?_
  refine x_newA (m := 137) (by decide) Cg (atype := .int) (q := 0) (n := 4) (c := 136) (by decide) rfl (fun j _ => hz0 _ _ (by decide)) hfl wdA0 rfl rfl (by decide) dX4_init_95 (Nat.le_of_ble_eq_true rfl) (Nat.le_of_ble_eq_true rfl) ?_
  have hh24 := hlow_le hh23 (show 136 ≤ 137 by decide)
  refine x_putR Cg (k0 := 118) (j := 17) (a := 136) (σ' := σ) ⟨(Nat.le_of_ble_eq_true rfl), (Nat.le_of_ble_eq_true rfl)⟩ cls_X4 (by decide) rfl (by decide) wd467 rfl (Or.inr ⟨rfl, rfl, hnm⟩) rfl (rt_of ⟨rfl, by decide, by decide⟩) (fun _ _ _ => rfl) dX4_init_97 ?_
  have hh25 := hlow_S (k0 := 118) (j := 17) hh24 (by decide)
  refine x_aload_n (Cg 18 802 (Nat.le_of_ble_eq_true rfl) (Nat.le_of_ble_eq_true rfl)) 0 dX4_init_100 rfl rfl ?_
  refine x_bipush (Cg 18 802 (Nat.le_of_ble_eq_true rfl) (Nat.le_of_ble_eq_true rfl)) (24) dX4_init_101 rfl ?_
  refine x_newA (m := 138) (by decide) Cg (atype := .int) (q := 0) (n := 24) (c := 137) (by decide) rfl (fun j _ => hz0 _ _ (by decide)) hfl wdA0 rfl rfl (by decide) dX4_init_103 (Nat.le_of_ble_eq_true rfl) (Nat.le_of_ble_eq_true rfl) ?_
  have hh26 := hlow_le hh25 (show 137 ≤ 138 by decide)
  refine x_putR Cg (k0 := 118) (j := 18) (a := 137) (σ' := σ) ⟨(Nat.le_of_ble_eq_true rfl), (Nat.le_of_ble_eq_true rfl)⟩ cls_X4 (by decide) rfl (by decide) wd468 rfl (Or.inr ⟨rfl, rfl, hnm⟩) rfl (rt_of ⟨rfl, by decide, by decide⟩) (fun _ _ _ => rfl) dX4_init_105 ?_
  have hh27 := hlow_S (k0 := 118) (j := 18) hh26 (by decide)
  refine x_aload_n (Cg 19 826 (Nat.le_of_ble_eq_true rfl) (Nat.le_of_ble_eq_true rfl)) 0 dX4_init_108 rfl rfl ?_
  refine x_bipush (Cg 19 826 (Nat.le_of_ble_eq_true rfl) (Nat.le_of_ble_eq_true rfl)) (24) dX4_init_109 rfl ?_
  refine x_newA (m := 139) (by decide) Cg (atype := .int) (q := 0) (n := 24) (c := 138) (by decide) rfl (fun j _ => hz0 _ _ (by decide)) hfl wdA0 rfl rfl (by decide) dX4_init_111 (Nat.le_of_ble_eq_true rfl) (Nat.le_of_ble_eq_true rfl) ?_
  have hh28 := hlow_le hh27 (show 138 ≤ 139 by decide)
  refine x_putR Cg (k0 := 118) (j := 19) (a := 138) (σ' := σ) ⟨(Nat.le_of_ble_eq_true rfl), (Nat.le_of_ble_eq_true rfl)⟩ cls_X4 (by decide) rfl (by decide) wd471 rfl (Or.inr ⟨rfl, rfl, hnm⟩) rfl (rt_of ⟨rfl, by decide, by decide⟩) (fun _ _ _ => rfl) dX4_init_113 ?_
  have hh29 := hlow_S (k0 := 118) (j := 19) hh28 (by decide)
  refine x_wR (h := h) (lo := 118) (hi := 139) (by decide) (fun k j a1 a2 a3 => ?_) (fun k j a1 => ?_) ?_
  · have a4 := rq118 k j a1 a2 a3
    rcases a4 with a4 | a4 | a4 | a4 | a4 | a4 | a4 | a4 | a4 | a4 | a4 | a4 | a4 | a4 | a4
    · obtain ⟨rfl, rfl⟩ := a4; simp [hS, hM, hR]
    · obtain ⟨rfl, rfl⟩ := a4; simp [hS, hM, hR]
    · obtain ⟨rfl, a5⟩ := a4; simp [hS, hM, hR, a5]
    · obtain ⟨rfl, rfl⟩ := a4; simp [hS, hM, hR]
    · obtain ⟨rfl, rfl⟩ := a4; simp [hS, hM, hR]
    · obtain ⟨rfl, rfl⟩ := a4; simp [hS, hM, hR]
    · obtain ⟨rfl, rfl⟩ := a4; simp [hS, hM, hR]
    · obtain ⟨rfl, rfl⟩ := a4; simp [hS, hM, hR]
    · obtain ⟨rfl, rfl⟩ := a4; simp [hS, hM, hR]
    · obtain ⟨rfl, rfl⟩ := a4; simp [hS, hM, hR]
    · obtain ⟨rfl, rfl⟩ := a4; simp [hS, hM, hR]
    · obtain ⟨rfl, rfl⟩ := a4; simp [hS, hM, hR]
    · obtain ⟨rfl, rfl⟩ := a4; simp [hS, hM, hR]
    · obtain ⟨rfl, rfl⟩ := a4; simp [hS, hM, hR]
    · obtain ⟨rfl, rfl⟩ := a4; simp [hS, hM, hR]
  · rw [hS_ne (by omega), hS_ne (by omega), hS_ne (by omega), hS_ne (by omega), hS_ne (by omega), hS_ne (by omega), hS_ne (by omega), hS_ne (by omega), hS_ne (by omega), hS_ne (by omega), hS_ne (by omega), hS_ne (by omega), hM_ne (by omega), hS_ne (by omega), hS_ne (by omega)]
  · exact x_vretG Cg (Nat.le_of_ble_eq_true rfl) (Nat.le_of_ble_eq_true rfl) dX4_init_116
theorem rq151 : ∀ k j, 151 ≤ k → k < 172 → rfs k j = true → (k = 151 ∧ j = 3) ∨ (k = 151 ∧ j = 4) ∨ (k = 154 ∧ j < 6) ∨ (k = 151 ∧ j = 5) ∨ (k = 151 ∧ j = 6) ∨ (k = 151 ∧ j = 7) ∨ (k = 151 ∧ j = 8) ∨ (k = 151 ∧ j = 10) ∨ (k = 151 ∧ j = 12) ∨ (k = 151 ∧ j = 14) ∨ (k = 151 ∧ j = 15) ∨ (k = 151 ∧ j = 16) ∨ (k = 151 ∧ j = 17) ∨ (k = 151 ∧ j = 18) ∨ (k = 151 ∧ j = 19) := fun k j a b c => of_decide_eq_true (rq_of (lo := 151) (hi := 172) (P := fun k j => decide ((k = 151 ∧ j = 3) ∨ (k = 151 ∧ j = 4) ∨ (k = 154 ∧ j < 6) ∨ (k = 151 ∧ j = 5) ∨ (k = 151 ∧ j = 6) ∨ (k = 151 ∧ j = 7) ∨ (k = 151 ∧ j = 8) ∨ (k = 151 ∧ j = 10) ∨ (k = 151 ∧ j = 12) ∨ (k = 151 ∧ j = 14) ∨ (k = 151 ∧ j = 15) ∨ (k = 151 ∧ j = 16) ∨ (k = 151 ∧ j = 17) ∨ (k = 151 ∧ j = 18) ∨ (k = 151 ∧ j = 19))) (by decide +kernel) k j a b c)
set_option maxHeartbeats 4000000 in
set_option maxRecDepth 100000 in
theorem ct_X4_init_151 (l : Launch) (E : xE) (hfl : E.2.1.2.2 9 0 = 0) {h : Nat → Nat → Bool} (hh : hlow 151 h) {σ : xS} (hz0 : ∀ k j, 151 < k → σ k j = 0) : xMetO l E yX4_init cX4_init 1 none { frames := 1, cells := 20, slots := 850, locals := 20 } [.ref (xqa E.2.2 151)] (wP 153 h) (wP 173 (hR 151 172 h)) σ (some (none, σ)) := by
  refine xMetO_of (by decide) (Nat.le_of_ble_eq_true rfl) (fun X hE hnm hAO Cg => ?_)
  subst hE
  have hh1 := hlow_le hh (Nat.le_succ 151)
  refine x_aload_n (Cg 0 0 (Nat.le_of_ble_eq_true rfl) (Nat.le_of_ble_eq_true rfl)) 0 dX4_init_0 rfl rfl ?_
  refine x_objI (Cg 0 0 (Nat.le_of_ble_eq_true rfl) (Nat.le_of_ble_eq_true rfl)) wd443 (Nat.le_of_ble_eq_true rfl) (Nat.le_of_ble_eq_true rfl) (Nat.le_of_ble_eq_true rfl) dX4_init_1 ?_
  refine x_aload_n (Cg 0 0 (Nat.le_of_ble_eq_true rfl) (Nat.le_of_ble_eq_true rfl)) 0 dX4_init_4 rfl rfl ?_
  refine x_bipush (Cg 0 0 (Nat.le_of_ble_eq_true rfl) (Nat.le_of_ble_eq_true rfl)) (60) dX4_init_5 rfl ?_
  refine x_newA (m := 153) (by decide) Cg (atype := .int) (q := 0) (n := 60) (c := 152) (by decide) rfl (fun j _ => hz0 _ _ (by decide)) hfl wdA0 rfl rfl (by decide) dX4_init_7 (Nat.le_of_ble_eq_true rfl) (Nat.le_of_ble_eq_true rfl) ?_
  have hh2 := hlow_le hh1 (show 152 ≤ 153 by decide)
  refine x_putR Cg (k0 := 151) (j := 3) (a := 152) (σ' := σ) ⟨(Nat.le_of_ble_eq_true rfl), (Nat.le_of_ble_eq_true rfl)⟩ cls_X4 (by decide) rfl (by decide) wd449 rfl (Or.inr ⟨rfl, rfl, hnm⟩) rfl (rt_of ⟨rfl, by decide, by decide⟩) (fun _ _ _ => rfl) dX4_init_9 ?_
  have hh3 := hlow_S (k0 := 151) (j := 3) hh2 (by decide)
  refine x_aload_n (Cg 1 60 (Nat.le_of_ble_eq_true rfl) (Nat.le_of_ble_eq_true rfl)) 0 dX4_init_12 rfl rfl ?_
  refine x_bipush (Cg 1 60 (Nat.le_of_ble_eq_true rfl) (Nat.le_of_ble_eq_true rfl)) (60) dX4_init_13 rfl ?_
  refine x_newA (m := 154) (by decide) Cg (atype := .int) (q := 0) (n := 60) (c := 153) (by decide) rfl (fun j _ => hz0 _ _ (by decide)) hfl wdA0 rfl rfl (by decide) dX4_init_15 (Nat.le_of_ble_eq_true rfl) (Nat.le_of_ble_eq_true rfl) ?_
  have hh4 := hlow_le hh3 (show 153 ≤ 154 by decide)
  refine x_putR Cg (k0 := 151) (j := 4) (a := 153) (σ' := σ) ⟨(Nat.le_of_ble_eq_true rfl), (Nat.le_of_ble_eq_true rfl)⟩ cls_X4 (by decide) rfl (by decide) wd451 rfl (Or.inr ⟨rfl, rfl, hnm⟩) rfl (rt_of ⟨rfl, by decide, by decide⟩) (fun _ _ _ => rfl) dX4_init_17 ?_
  have hh5 := hlow_S (k0 := 151) (j := 4) hh4 (by decide)
  refine x_aload_n (Cg 2 120 (Nat.le_of_ble_eq_true rfl) (Nat.le_of_ble_eq_true rfl)) 0 dX4_init_20 rfl rfl ?_
  refine x_bipush (Cg 2 120 (Nat.le_of_ble_eq_true rfl) (Nat.le_of_ble_eq_true rfl)) (6) dX4_init_21 rfl ?_
  refine x_bipush (Cg 2 120 (Nat.le_of_ble_eq_true rfl) (Nat.le_of_ble_eq_true rfl)) (60) dX4_init_23 rfl ?_
  refine x_multi (n := 6) (by decide) Cg (m := 60) (c := 154) rfl (by decide +kernel) (fun j hj v => rt_of ((by decide +kernel : ∀ j, j < 6 → ((rtL.getD 154 []).getD j 0 = 154 + 1 + j ∧ rkB 154 = true ∧ 154 + 1 + j ≠ 0)) j hj)) (fun k j hk => hz0 k j (Nat.lt_of_le_of_lt (by decide) hk)) hh5 hfl wd444 hAO.2.2.2 wdA0 rfl rfl (by decide) dX4_init_25 (Nat.le_of_ble_eq_true rfl) (Nat.le_of_ble_eq_true rfl) ?_
  have hh6 := hlow_M (k0 := 154) (n := 6) (hlow_le hh5 (show 154 ≤ 161 by decide)) (by decide)
  refine x_putR Cg (k0 := 151) (j := 5) (a := 154) (σ' := σ) ⟨(Nat.le_of_ble_eq_true rfl), (Nat.le_of_ble_eq_true rfl)⟩ cls_X4 (by decide) rfl (by decide) wd453 rfl (Or.inr ⟨rfl, rfl, hnm⟩) rfl (rt_of ⟨rfl, by decide, by decide⟩) (fun _ _ _ => rfl) dX4_init_29 ?_
  have hh7 := hlow_S (k0 := 151) (j := 5) hh6 (by decide)
  refine x_aload_n (Cg 9 486 (Nat.le_of_ble_eq_true rfl) (Nat.le_of_ble_eq_true rfl)) 0 dX4_init_32 rfl rfl ?_
  refine x_bipush (Cg 9 486 (Nat.le_of_ble_eq_true rfl) (Nat.le_of_ble_eq_true rfl)) (60) dX4_init_33 rfl ?_
  refine x_newA (m := 162) (by decide) Cg (atype := .int) (q := 0) (n := 60) (c := 161) (by decide) rfl (fun j _ => hz0 _ _ (by decide)) hfl wdA0 rfl rfl (by decide) dX4_init_35 (Nat.le_of_ble_eq_true rfl) (Nat.le_of_ble_eq_true rfl) ?_
  have hh8 := hlow_le hh7 (show 161 ≤ 162 by decide)
  refine x_putR Cg (k0 := 151) (j := 6) (a := 161) (σ' := σ) ⟨(Nat.le_of_ble_eq_true rfl), (Nat.le_of_ble_eq_true rfl)⟩ cls_X4 (by decide) rfl (by decide) wd455 rfl (Or.inr ⟨rfl, rfl, hnm⟩) rfl (rt_of ⟨rfl, by decide, by decide⟩) (fun _ _ _ => rfl) dX4_init_37 ?_
  have hh9 := hlow_S (k0 := 151) (j := 6) hh8 (by decide)
  refine x_aload_n (Cg 10 546 (Nat.le_of_ble_eq_true rfl) (Nat.le_of_ble_eq_true rfl)) 0 dX4_init_40 rfl rfl ?_
  refine x_bipush (Cg 10 546 (Nat.le_of_ble_eq_true rfl) (Nat.le_of_ble_eq_true rfl)) (60) dX4_init_41 rfl ?_
  refine x_newA (m := 163) (by decide) Cg (atype := .int) (q := 0) (n := 60) (c := 162) (by decide) rfl (fun j _ => hz0 _ _ (by decide)) hfl wdA0 rfl rfl (by decide) dX4_init_43 (Nat.le_of_ble_eq_true rfl) (Nat.le_of_ble_eq_true rfl) ?_
  have hh10 := hlow_le hh9 (show 162 ≤ 163 by decide)
  refine x_putR Cg (k0 := 151) (j := 7) (a := 162) (σ' := σ) ⟨(Nat.le_of_ble_eq_true rfl), (Nat.le_of_ble_eq_true rfl)⟩ cls_X4 (by decide) rfl (by decide) wd456 rfl (Or.inr ⟨rfl, rfl, hnm⟩) rfl (rt_of ⟨rfl, by decide, by decide⟩) (fun _ _ _ => rfl) dX4_init_45 ?_
  have hh11 := hlow_S (k0 := 151) (j := 7) hh10 (by decide)
  refine x_aload_n (Cg 11 606 (Nat.le_of_ble_eq_true rfl) (Nat.le_of_ble_eq_true rfl)) 0 dX4_init_48 rfl rfl ?_
  refine x_bipush (Cg 11 606 (Nat.le_of_ble_eq_true rfl) (Nat.le_of_ble_eq_true rfl)) (60) dX4_init_49 rfl ?_
  refine x_newA (m := 164) (by decide) Cg (atype := .int) (q := 0) (n := 60) (c := 163) (by decide) rfl (fun j _ => hz0 _ _ (by decide)) hfl wdA0 rfl rfl (by decide) dX4_init_51 (Nat.le_of_ble_eq_true rfl) (Nat.le_of_ble_eq_true rfl) ?_
  have hh12 := hlow_le hh11 (show 163 ≤ 164 by decide)
  refine x_putR Cg (k0 := 151) (j := 8) (a := 163) (σ' := σ) ⟨(Nat.le_of_ble_eq_true rfl), (Nat.le_of_ble_eq_true rfl)⟩ cls_X4 (by decide) rfl (by decide) wd457 rfl (Or.inr ⟨rfl, rfl, hnm⟩) rfl (rt_of ⟨rfl, by decide, by decide⟩) (fun _ _ _ => rfl) dX4_init_53 ?_
  have hh13 := hlow_S (k0 := 151) (j := 8) hh12 (by decide)
  refine x_aload_n (Cg 12 666 (Nat.le_of_ble_eq_true rfl) (Nat.le_of_ble_eq_true rfl)) 0 dX4_init_56 rfl rfl ?_
  refine x_bipush (Cg 12 666 (Nat.le_of_ble_eq_true rfl) (Nat.le_of_ble_eq_true rfl)) (60) dX4_init_57 rfl ?_
  refine x_newA (m := 165) (by decide) Cg (atype := .int) (q := 0) (n := 60) (c := 164) (by decide) rfl (fun j _ => hz0 _ _ (by decide)) hfl wdA0 rfl rfl (by decide) dX4_init_59 (Nat.le_of_ble_eq_true rfl) (Nat.le_of_ble_eq_true rfl) ?_
  have hh14 := hlow_le hh13 (show 164 ≤ 165 by decide)
  refine x_putR Cg (k0 := 151) (j := 10) (a := 164) (σ' := σ) ⟨(Nat.le_of_ble_eq_true rfl), (Nat.le_of_ble_eq_true rfl)⟩ cls_X4 (by decide) rfl (by decide) wd459 rfl (Or.inr ⟨rfl, rfl, hnm⟩) rfl (rt_of ⟨rfl, by decide, by decide⟩) (fun _ _ _ => rfl) dX4_init_61 ?_
  have hh15 := hlow_S (k0 := 151) (j := 10) hh14 (by decide)
  refine x_aload_n (Cg 13 726 (Nat.le_of_ble_eq_true rfl) (Nat.le_of_ble_eq_true rfl)) 0 dX4_init_64 rfl rfl ?_
  refine x_bipush (Cg 13 726 (Nat.le_of_ble_eq_true rfl) (Nat.le_of_ble_eq_true rfl)) (60) dX4_init_65 rfl ?_
  refine x_newA (m := 166) (by decide) Cg (atype := .int) (q := 0) (n := 60) (c := 165) (by decide) rfl (fun j _ => hz0 _ _ (by decide)) hfl wdA0 rfl rfl (by decide) dX4_init_67 (Nat.le_of_ble_eq_true rfl) (Nat.le_of_ble_eq_true rfl) ?_
  have hh16 := hlow_le hh15 (show 165 ≤ 166 by decide)
  refine x_putR Cg (k0 := 151) (j := 12) (a := 165) (σ' := σ) ⟨(Nat.le_of_ble_eq_true rfl), (Nat.le_of_ble_eq_true rfl)⟩ cls_X4 (by decide) rfl (by decide) wd461 rfl (Or.inr ⟨rfl, rfl, hnm⟩) rfl (rt_of ⟨rfl, by decide, by decide⟩) (fun _ _ _ => rfl) dX4_init_69 ?_
  have hh17 := hlow_S (k0 := 151) (j := 12) hh16 (by decide)
  refine x_aload_n (Cg 14 786 (Nat.le_of_ble_eq_true rfl) (Nat.le_of_ble_eq_true rfl)) 0 dX4_init_72 rfl rfl ?_
  refine x_iconst (Cg 14 786 (Nat.le_of_ble_eq_true rfl) (Nat.le_of_ble_eq_true rfl)) (4) dX4_init_73 rfl ?_
  refine x_newA (m := 167) (by decide) Cg (atype := .int) (q := 0) (n := 4) (c := 166) (by decide) rfl (fun j _ => hz0 _ _ (by decide)) hfl wdA0 rfl rfl (by decide) dX4_init_74 (Nat.le_of_ble_eq_true rfl) (Nat.le_of_ble_eq_true rfl) ?_
  have hh18 := hlow_le hh17 (show 166 ≤ 167 by decide)
  refine x_putR Cg (k0 := 151) (j := 14) (a := 166) (σ' := σ) ⟨(Nat.le_of_ble_eq_true rfl), (Nat.le_of_ble_eq_true rfl)⟩ cls_X4 (by decide) rfl (by decide) wd463 rfl (Or.inr ⟨rfl, rfl, hnm⟩) rfl (rt_of ⟨rfl, by decide, by decide⟩) (fun _ _ _ => rfl) dX4_init_76 ?_
  have hh19 := hlow_S (k0 := 151) (j := 14) hh18 (by decide)
  refine x_aload_n (Cg 15 790 (Nat.le_of_ble_eq_true rfl) (Nat.le_of_ble_eq_true rfl)) 0 dX4_init_79 rfl rfl ?_
  refine x_iconst (Cg 15 790 (Nat.le_of_ble_eq_true rfl) (Nat.le_of_ble_eq_true rfl)) (4) dX4_init_80 rfl ?_
  refine x_newA (m := 168) (by decide) Cg (atype := .int) (q := 0) (n := 4) (c := 167) (by decide) rfl (fun j _ => hz0 _ _ (by decide)) hfl wdA0 rfl rfl (by decide) dX4_init_81 (Nat.le_of_ble_eq_true rfl) (Nat.le_of_ble_eq_true rfl) ?_
  have hh20 := hlow_le hh19 (show 167 ≤ 168 by decide)
  refine x_putR Cg (k0 := 151) (j := 15) (a := 167) (σ' := σ) ⟨(Nat.le_of_ble_eq_true rfl), (Nat.le_of_ble_eq_true rfl)⟩ cls_X4 (by decide) rfl (by decide) wd464 rfl (Or.inr ⟨rfl, rfl, hnm⟩) rfl (rt_of ⟨rfl, by decide, by decide⟩) (fun _ _ _ => rfl) dX4_init_83 ?_
  have hh21 := hlow_S (k0 := 151) (j := 15) hh20 (by decide)
  refine x_aload_n (Cg 16 794 (Nat.le_of_ble_eq_true rfl) (Nat.le_of_ble_eq_true rfl)) 0 dX4_init_86 rfl rfl ?_
  refine x_iconst (Cg 16 794 (Nat.le_of_ble_eq_true rfl) (Nat.le_of_ble_eq_true rfl)) (4) dX4_init_87 rfl ?_
  refine x_newA (m := 169) (by decide) Cg (atype := .int) (q := 0) (n := 4) (c := 168) (by decide) rfl (fun j _ => hz0 _ _ (by decide)) hfl wdA0 rfl rfl (by decide) dX4_init_88 (Nat.le_of_ble_eq_true rfl) (Nat.le_of_ble_eq_true rfl) ?_
  have hh22 := hlow_le hh21 (show 168 ≤ 169 by decide)
  refine x_putR Cg (k0 := 151) (j := 16) (a := 168) (σ' := σ) ⟨(Nat.le_of_ble_eq_true rfl), (Nat.le_of_ble_eq_true rfl)⟩ cls_X4 (by decide) rfl (by decide) wd465 rfl (Or.inr ⟨rfl, rfl, hnm⟩) rfl (rt_of ⟨rfl, by decide, by decide⟩) (fun _ _ _ => rfl) dX4_init_90 ?_
  have hh23 := hlow_S (k0 := 151) (j := 16) hh22 (by decide)
  refine x_aload_n (Cg 17 798 (Nat.le_of_ble_eq_true rfl) (Nat.le_of_ble_eq_true rfl)) 0 dX4_init_93 rfl rfl ?_
  refine x_iconst (Cg 17 798 (Nat.le_of_ble_eq_true rfl) (Nat.le_of_ble_eq_true rfl)) (4) dX4_init_94 rfl ?_
  refine x_newA (m := 170) (by decide) Cg (atype := .int) (q := 0) (n := 4) (c := 169) (by decide) rfl (fun j _ => hz0 _ _ (by decide)) hfl wdA0 rfl rfl (by decide) dX4_init_95 (Nat.le_of_ble_eq_true rfl) (Nat.le_of_ble_eq_true rfl) ?_
  have hh24 := hlow_le hh23 (show 169 ≤ 170 by decide)
  refine x_putR Cg (k0 := 151) (j := 17) (a := 169) (σ' := σ) ⟨(Nat.le_of_ble_eq_true rfl), (Nat.le_of_ble_eq_true rfl)⟩ cls_X4 (by decide) rfl (by decide) wd467 rfl (Or.inr ⟨rfl, rfl, hnm⟩) rfl (rt_of ⟨rfl, by decide, by decide⟩) (fun _ _ _ => rfl) dX4_init_97 ?_
  have hh25 := hlow_S (k0 := 151) (j := 17) hh24 (by decide)
  refine x_aload_n (Cg 18 802 (Nat.le_of_ble_eq_true rfl) (Nat.le_of_ble_eq_true rfl)) 0 dX4_init_100 rfl rfl ?_
  refine x_bipush (Cg 18 802 (Nat.le_of_ble_eq_true rfl) (Nat.le_of_ble_eq_true rfl)) (24) dX4_init_101 rfl ?_
  refine x_newA (m := 171) (by decide) Cg (atype := .int) (q := 0) (n := 24) (c := 170) (by decide) rfl (fun j _ => hz0 _ _ (by decide)) hfl wdA0 rfl rfl (by decide) dX4_init_103 (Nat.le_of_ble_eq_true rfl) (Nat.le_of_ble_eq_true rfl) ?_
  have hh26 := hlow_le hh25 (show 170 ≤ 171 by decide)
  refine x_putR Cg (k0 := 151) (j := 18) (a := 170) (σ' := σ) ⟨(Nat.le_of_ble_eq_true rfl), (Nat.le_of_ble_eq_true rfl)⟩ cls_X4 (by decide) rfl (by decide) wd468 rfl (Or.inr ⟨rfl, rfl, hnm⟩) rfl (rt_of ⟨rfl, by decide, by decide⟩) (fun _ _ _ => rfl) dX4_init_105 ?_
  have hh27 := hlow_S (k0 := 151) (j := 18) hh26 (by decide)
  refine x_aload_n (Cg 19 826 (Nat.le_of_ble_eq_true rfl) (Nat.le_of_ble_eq_true rfl)) 0 dX4_init_108 rfl rfl ?_
  refine x_bipush (Cg 19 826 (Nat.le_of_ble_eq_true rfl) (Nat.le_of_ble_eq_true rfl)) (24) dX4_init_109 rfl ?_
  refine x_newA (m := 172) (by decide) Cg (atype := .int) (q := 0) (n := 24) (c := 171) (by decide) rfl (fun j _ => hz0 _ _ (by decide)) hfl wdA0 rfl rfl (by decide) dX4_init_111 (Nat.le_of_ble_eq_true rfl) (Nat.le_of_ble_eq_true rfl) ?_
  have hh28 := hlow_le hh27 (show 171 ≤ 172 by decide)
  refine x_putR Cg (k0 := 151) (j := 19) (a := 171) (σ' := σ) ⟨(Nat.le_of_ble_eq_true rfl), (Nat.le_of_ble_eq_true rfl)⟩ cls_X4 (by decide) rfl (by decide) wd471 rfl (Or.inr ⟨rfl, rfl, hnm⟩) rfl (rt_of ⟨rfl, by decide, by decide⟩) (fun _ _ _ => rfl) dX4_init_113 ?_
  have hh29 := hlow_S (k0 := 151) (j := 19) hh28 (by decide)
  refine x_wR (h := h) (lo := 151) (hi := 172) (by decide) (fun k j a1 a2 a3 => ?_) (fun k j a1 => ?_) ?_
  · have a4 := rq151 k j a1 a2 a3
    rcases a4 with a4 | a4 | a4 | a4 | a4 | a4 | a4 | a4 | a4 | a4 | a4 | a4 | a4 | a4 | a4
    · obtain ⟨rfl, rfl⟩ := a4; simp [hS, hM, hR]
    · obtain ⟨rfl, rfl⟩ := a4; simp [hS, hM, hR]
    · obtain ⟨rfl, a5⟩ := a4; simp [hS, hM, hR, a5]
    · obtain ⟨rfl, rfl⟩ := a4; simp [hS, hM, hR]
    · obtain ⟨rfl, rfl⟩ := a4; simp [hS, hM, hR]
    · obtain ⟨rfl, rfl⟩ := a4; simp [hS, hM, hR]
    · obtain ⟨rfl, rfl⟩ := a4; simp [hS, hM, hR]
    · obtain ⟨rfl, rfl⟩ := a4; simp [hS, hM, hR]
    · obtain ⟨rfl, rfl⟩ := a4; simp [hS, hM, hR]
    · obtain ⟨rfl, rfl⟩ := a4; simp [hS, hM, hR]
    · obtain ⟨rfl, rfl⟩ := a4; simp [hS, hM, hR]
    · obtain ⟨rfl, rfl⟩ := a4; simp [hS, hM, hR]
    · obtain ⟨rfl, rfl⟩ := a4; simp [hS, hM, hR]
    · obtain ⟨rfl, rfl⟩ := a4; simp [hS, hM, hR]
    · obtain ⟨rfl, rfl⟩ := a4; simp [hS, hM, hR]
  · rw [hS_ne (by omega), hS_ne (by omega), hS_ne (by omega), hS_ne (by omega), hS_ne (by omega), hS_ne (by omega), hS_ne (by omega), hS_ne (by omega), hS_ne (by omega), hS_ne (by omega), hS_ne (by omega), hS_ne (by omega), hM_ne (by omega), hS_ne (by omega), hS_ne (by omega)]
  · exact x_vretG Cg (Nat.le_of_ble_eq_true rfl) (Nat.le_of_ble_eq_true rfl) dX4_init_116
theorem rq139 : ∀ k j, 139 ≤ k → k < 151 → rfs k j = true → (k = 139 ∧ j = 0) ∨ (k = 139 ∧ j = 1) ∨ (k = 139 ∧ j = 2) ∨ (k = 139 ∧ j = 5) ∨ (k = 139 ∧ j = 6) ∨ (k = 139 ∧ j = 7) ∨ (k = 139 ∧ j = 8) ∨ (k = 139 ∧ j = 9) ∨ (k = 139 ∧ j = 10) ∨ (k = 139 ∧ j = 13) ∨ (k = 139 ∧ j = 14) := fun k j a b c => of_decide_eq_true (rq_of (lo := 139) (hi := 151) (P := fun k j => decide ((k = 139 ∧ j = 0) ∨ (k = 139 ∧ j = 1) ∨ (k = 139 ∧ j = 2) ∨ (k = 139 ∧ j = 5) ∨ (k = 139 ∧ j = 6) ∨ (k = 139 ∧ j = 7) ∨ (k = 139 ∧ j = 8) ∨ (k = 139 ∧ j = 9) ∨ (k = 139 ∧ j = 10) ∨ (k = 139 ∧ j = 13) ∨ (k = 139 ∧ j = 14))) (by decide +kernel) k j a b c)
set_option maxHeartbeats 4000000 in
set_option maxRecDepth 100000 in
theorem ct_X8_init_139 (l : Launch) (E : xE) (hfl : E.2.1.2.2 9 0 = 0) {h : Nat → Nat → Bool} (hh : hlow 139 h) {σ : xS} (hz0 : ∀ k j, 139 < k → σ k j = 0) : xMet l E yX8_init cX8_init 1 none { frames := 1, cells := 11, slots := 553, locals := 20 } [.ref (xqa E.2.2 139)] (wP 141 h) (wP 152 (hR 139 151 h)) σ (some (none, σ)) := by
  refine xMetG_of (by decide) (Nat.le_of_ble_eq_true rfl) (fun X hE hnm Cg => ?_)
  subst hE
  have hh1 := hlow_le hh (Nat.le_succ 139)
  refine x_aload_n (Cg 0 0 (Nat.le_of_ble_eq_true rfl) (Nat.le_of_ble_eq_true rfl)) 0 dX8_init_0 rfl rfl ?_
  refine x_objI (Cg 0 0 (Nat.le_of_ble_eq_true rfl) (Nat.le_of_ble_eq_true rfl)) wd518 (Nat.le_of_ble_eq_true rfl) (Nat.le_of_ble_eq_true rfl) (Nat.le_of_ble_eq_true rfl) dX8_init_1 ?_
  refine x_aload_n (Cg 0 0 (Nat.le_of_ble_eq_true rfl) (Nat.le_of_ble_eq_true rfl)) 0 dX8_init_4 rfl rfl ?_
  refine x_bipush (Cg 0 0 (Nat.le_of_ble_eq_true rfl) (Nat.le_of_ble_eq_true rfl)) (7) dX8_init_5 rfl ?_
  refine x_newA (m := 141) (by decide) Cg (atype := .int) (q := 0) (n := 7) (c := 140) (by decide) rfl (fun j _ => hz0 _ _ (by decide)) hfl wdA0 rfl rfl (by decide) dX8_init_7 (Nat.le_of_ble_eq_true rfl) (Nat.le_of_ble_eq_true rfl) ?_
  have hh2 := hlow_le hh1 (show 140 ≤ 141 by decide)
  refine x_putR Cg (k0 := 139) (j := 0) (a := 140) (σ' := σ) ⟨(Nat.le_of_ble_eq_true rfl), (Nat.le_of_ble_eq_true rfl)⟩ cls_X8 (by decide) rfl (by decide) wd519 rfl (Or.inr ⟨rfl, rfl, hnm⟩) rfl (rt_of ⟨rfl, by decide, by decide⟩) (fun _ _ _ => rfl) dX8_init_9 ?_
  have hh3 := hlow_S (k0 := 139) (j := 0) hh2 (by decide)
  refine x_aload_n (Cg 1 7 (Nat.le_of_ble_eq_true rfl) (Nat.le_of_ble_eq_true rfl)) 0 dX8_init_12 rfl rfl ?_
  refine x_bipush (Cg 1 7 (Nat.le_of_ble_eq_true rfl) (Nat.le_of_ble_eq_true rfl)) (7) dX8_init_13 rfl ?_
  refine x_newA (m := 142) (by decide) Cg (atype := .int) (q := 0) (n := 7) (c := 141) (by decide) rfl (fun j _ => hz0 _ _ (by decide)) hfl wdA0 rfl rfl (by decide) dX8_init_15 (Nat.le_of_ble_eq_true rfl) (Nat.le_of_ble_eq_true rfl) ?_
  have hh4 := hlow_le hh3 (show 141 ≤ 142 by decide)
  refine x_putR Cg (k0 := 139) (j := 1) (a := 141) (σ' := σ) ⟨(Nat.le_of_ble_eq_true rfl), (Nat.le_of_ble_eq_true rfl)⟩ cls_X8 (by decide) rfl (by decide) wd520 rfl (Or.inr ⟨rfl, rfl, hnm⟩) rfl (rt_of ⟨rfl, by decide, by decide⟩) (fun _ _ _ => rfl) dX8_init_17 ?_
  have hh5 := hlow_S (k0 := 139) (j := 1) hh4 (by decide)
  refine x_aload_n (Cg 2 14 (Nat.le_of_ble_eq_true rfl) (Nat.le_of_ble_eq_true rfl)) 0 dX8_init_20 rfl rfl ?_
  refine x_bipush (Cg 2 14 (Nat.le_of_ble_eq_true rfl) (Nat.le_of_ble_eq_true rfl)) (7) dX8_init_21 rfl ?_
  refine x_newA (m := 143) (by decide) Cg (atype := .int) (q := 0) (n := 7) (c := 142) (by decide) rfl (fun j _ => hz0 _ _ (by decide)) hfl wdA0 rfl rfl (by decide) dX8_init_23 (Nat.le_of_ble_eq_true rfl) (Nat.le_of_ble_eq_true rfl) ?_
  have hh6 := hlow_le hh5 (show 142 ≤ 143 by decide)
  refine x_putR Cg (k0 := 139) (j := 2) (a := 142) (σ' := σ) ⟨(Nat.le_of_ble_eq_true rfl), (Nat.le_of_ble_eq_true rfl)⟩ cls_X8 (by decide) rfl (by decide) wd521 rfl (Or.inr ⟨rfl, rfl, hnm⟩) rfl (rt_of ⟨rfl, by decide, by decide⟩) (fun _ _ _ => rfl) dX8_init_25 ?_
  have hh7 := hlow_S (k0 := 139) (j := 2) hh6 (by decide)
  refine x_aload_n (Cg 3 21 (Nat.le_of_ble_eq_true rfl) (Nat.le_of_ble_eq_true rfl)) 0 dX8_init_28 rfl rfl ?_
  refine x_sipush (Cg 3 21 (Nat.le_of_ble_eq_true rfl) (Nat.le_of_ble_eq_true rfl)) (128) dX8_init_29 rfl ?_
  refine x_newA (m := 144) (by decide) Cg (atype := .int) (q := 0) (n := 128) (c := 143) (by decide) rfl (fun j _ => hz0 _ _ (by decide)) hfl wdA0 rfl rfl (by decide) dX8_init_32 (Nat.le_of_ble_eq_true rfl) (Nat.le_of_ble_eq_true rfl) ?_
  have hh8 := hlow_le hh7 (show 143 ≤ 144 by decide)
  refine x_putR Cg (k0 := 139) (j := 5) (a := 143) (σ' := σ) ⟨(Nat.le_of_ble_eq_true rfl), (Nat.le_of_ble_eq_true rfl)⟩ cls_X8 (by decide) rfl (by decide) wd524 rfl (Or.inr ⟨rfl, rfl, hnm⟩) rfl (rt_of ⟨rfl, by decide, by decide⟩) (fun _ _ _ => rfl) dX8_init_34 ?_
  have hh9 := hlow_S (k0 := 139) (j := 5) hh8 (by decide)
  refine x_aload_n (Cg 4 149 (Nat.le_of_ble_eq_true rfl) (Nat.le_of_ble_eq_true rfl)) 0 dX8_init_37 rfl rfl ?_
  refine x_sipush (Cg 4 149 (Nat.le_of_ble_eq_true rfl) (Nat.le_of_ble_eq_true rfl)) (128) dX8_init_38 rfl ?_
  refine x_newA (m := 145) (by decide) Cg (atype := .int) (q := 0) (n := 128) (c := 144) (by decide) rfl (fun j _ => hz0 _ _ (by decide)) hfl wdA0 rfl rfl (by decide) dX8_init_41 (Nat.le_of_ble_eq_true rfl) (Nat.le_of_ble_eq_true rfl) ?_
  have hh10 := hlow_le hh9 (show 144 ≤ 145 by decide)
  refine x_putR Cg (k0 := 139) (j := 6) (a := 144) (σ' := σ) ⟨(Nat.le_of_ble_eq_true rfl), (Nat.le_of_ble_eq_true rfl)⟩ cls_X8 (by decide) rfl (by decide) wd525 rfl (Or.inr ⟨rfl, rfl, hnm⟩) rfl (rt_of ⟨rfl, by decide, by decide⟩) (fun _ _ _ => rfl) dX8_init_43 ?_
  have hh11 := hlow_S (k0 := 139) (j := 6) hh10 (by decide)
  refine x_aload_n (Cg 5 277 (Nat.le_of_ble_eq_true rfl) (Nat.le_of_ble_eq_true rfl)) 0 dX8_init_46 rfl rfl ?_
  refine x_sipush (Cg 5 277 (Nat.le_of_ble_eq_true rfl) (Nat.le_of_ble_eq_true rfl)) (128) dX8_init_47 rfl ?_
  refine x_newA (m := 146) (by decide) Cg (atype := .int) (q := 0) (n := 128) (c := 145) (by decide) rfl (fun j _ => hz0 _ _ (by decide)) hfl wdA0 rfl rfl (by decide) dX8_init_50 (Nat.le_of_ble_eq_true rfl) (Nat.le_of_ble_eq_true rfl) ?_
  have hh12 := hlow_le hh11 (show 145 ≤ 146 by decide)
  refine x_putR Cg (k0 := 139) (j := 7) (a := 145) (σ' := σ) ⟨(Nat.le_of_ble_eq_true rfl), (Nat.le_of_ble_eq_true rfl)⟩ cls_X8 (by decide) rfl (by decide) wd526 rfl (Or.inr ⟨rfl, rfl, hnm⟩) rfl (rt_of ⟨rfl, by decide, by decide⟩) (fun _ _ _ => rfl) dX8_init_52 ?_
  have hh13 := hlow_S (k0 := 139) (j := 7) hh12 (by decide)
  refine x_aload_n (Cg 6 405 (Nat.le_of_ble_eq_true rfl) (Nat.le_of_ble_eq_true rfl)) 0 dX8_init_55 rfl rfl ?_
  refine x_sipush (Cg 6 405 (Nat.le_of_ble_eq_true rfl) (Nat.le_of_ble_eq_true rfl)) (128) dX8_init_56 rfl ?_
  refine x_newA (m := 147) (by decide) Cg (atype := .int) (q := 0) (n := 128) (c := 146) (by decide) rfl (fun j _ => hz0 _ _ (by decide)) hfl wdA0 rfl rfl (by decide) dX8_init_59 (Nat.le_of_ble_eq_true rfl) (Nat.le_of_ble_eq_true rfl) ?_
  have hh14 := hlow_le hh13 (show 146 ≤ 147 by decide)
  refine x_putR Cg (k0 := 139) (j := 8) (a := 146) (σ' := σ) ⟨(Nat.le_of_ble_eq_true rfl), (Nat.le_of_ble_eq_true rfl)⟩ cls_X8 (by decide) rfl (by decide) wd527 rfl (Or.inr ⟨rfl, rfl, hnm⟩) rfl (rt_of ⟨rfl, by decide, by decide⟩) (fun _ _ _ => rfl) dX8_init_61 ?_
  have hh15 := hlow_S (k0 := 139) (j := 8) hh14 (by decide)
  refine x_aload_n (Cg 7 533 (Nat.le_of_ble_eq_true rfl) (Nat.le_of_ble_eq_true rfl)) 0 dX8_init_64 rfl rfl ?_
  refine x_iconst (Cg 7 533 (Nat.le_of_ble_eq_true rfl) (Nat.le_of_ble_eq_true rfl)) (3) dX8_init_65 rfl ?_
  refine x_newA (m := 148) (by decide) Cg (atype := .int) (q := 0) (n := 3) (c := 147) (by decide) rfl (fun j _ => hz0 _ _ (by decide)) hfl wdA0 rfl rfl (by decide) dX8_init_66 (Nat.le_of_ble_eq_true rfl) (Nat.le_of_ble_eq_true rfl) ?_
  have hh16 := hlow_le hh15 (show 147 ≤ 148 by decide)
  refine x_putR Cg (k0 := 139) (j := 9) (a := 147) (σ' := σ) ⟨(Nat.le_of_ble_eq_true rfl), (Nat.le_of_ble_eq_true rfl)⟩ cls_X8 (by decide) rfl (by decide) wd528 rfl (Or.inr ⟨rfl, rfl, hnm⟩) rfl (rt_of ⟨rfl, by decide, by decide⟩) (fun _ _ _ => rfl) dX8_init_68 ?_
  have hh17 := hlow_S (k0 := 139) (j := 9) hh16 (by decide)
  refine x_aload_n (Cg 8 536 (Nat.le_of_ble_eq_true rfl) (Nat.le_of_ble_eq_true rfl)) 0 dX8_init_71 rfl rfl ?_
  refine x_bipush (Cg 8 536 (Nat.le_of_ble_eq_true rfl) (Nat.le_of_ble_eq_true rfl)) (7) dX8_init_72 rfl ?_
  refine x_newA (m := 149) (by decide) Cg (atype := .int) (q := 0) (n := 7) (c := 148) (by decide) rfl (fun j _ => hz0 _ _ (by decide)) hfl wdA0 rfl rfl (by decide) dX8_init_74 (Nat.le_of_ble_eq_true rfl) (Nat.le_of_ble_eq_true rfl) ?_
  have hh18 := hlow_le hh17 (show 148 ≤ 149 by decide)
  refine x_putR Cg (k0 := 139) (j := 10) (a := 148) (σ' := σ) ⟨(Nat.le_of_ble_eq_true rfl), (Nat.le_of_ble_eq_true rfl)⟩ cls_X8 (by decide) rfl (by decide) wd529 rfl (Or.inr ⟨rfl, rfl, hnm⟩) rfl (rt_of ⟨rfl, by decide, by decide⟩) (fun _ _ _ => rfl) dX8_init_76 ?_
  have hh19 := hlow_S (k0 := 139) (j := 10) hh18 (by decide)
  refine x_aload_n (Cg 9 543 (Nat.le_of_ble_eq_true rfl) (Nat.le_of_ble_eq_true rfl)) 0 dX8_init_79 rfl rfl ?_
  refine x_iconst (Cg 9 543 (Nat.le_of_ble_eq_true rfl) (Nat.le_of_ble_eq_true rfl)) (3) dX8_init_80 rfl ?_
  refine x_newA (m := 150) (by decide) Cg (atype := .int) (q := 0) (n := 3) (c := 149) (by decide) rfl (fun j _ => hz0 _ _ (by decide)) hfl wdA0 rfl rfl (by decide) dX8_init_81 (Nat.le_of_ble_eq_true rfl) (Nat.le_of_ble_eq_true rfl) ?_
  have hh20 := hlow_le hh19 (show 149 ≤ 150 by decide)
  refine x_putR Cg (k0 := 139) (j := 13) (a := 149) (σ' := σ) ⟨(Nat.le_of_ble_eq_true rfl), (Nat.le_of_ble_eq_true rfl)⟩ cls_X8 (by decide) rfl (by decide) wd534 rfl (Or.inr ⟨rfl, rfl, hnm⟩) rfl (rt_of ⟨rfl, by decide, by decide⟩) (fun _ _ _ => rfl) dX8_init_83 ?_
  have hh21 := hlow_S (k0 := 139) (j := 13) hh20 (by decide)
  refine x_aload_n (Cg 10 546 (Nat.le_of_ble_eq_true rfl) (Nat.le_of_ble_eq_true rfl)) 0 dX8_init_86 rfl rfl ?_
  refine x_bipush (Cg 10 546 (Nat.le_of_ble_eq_true rfl) (Nat.le_of_ble_eq_true rfl)) (7) dX8_init_87 rfl ?_
  refine x_newA (m := 151) (by decide) Cg (atype := .int) (q := 0) (n := 7) (c := 150) (by decide) rfl (fun j _ => hz0 _ _ (by decide)) hfl wdA0 rfl rfl (by decide) dX8_init_89 (Nat.le_of_ble_eq_true rfl) (Nat.le_of_ble_eq_true rfl) ?_
  have hh22 := hlow_le hh21 (show 150 ≤ 151 by decide)
  refine x_putR Cg (k0 := 139) (j := 14) (a := 150) (σ' := σ) ⟨(Nat.le_of_ble_eq_true rfl), (Nat.le_of_ble_eq_true rfl)⟩ cls_X8 (by decide) rfl (by decide) wd535 rfl (Or.inr ⟨rfl, rfl, hnm⟩) rfl (rt_of ⟨rfl, by decide, by decide⟩) (fun _ _ _ => rfl) dX8_init_91 ?_
  have hh23 := hlow_S (k0 := 139) (j := 14) hh22 (by decide)
  refine x_wR (h := h) (lo := 139) (hi := 151) (by decide) (fun k j a1 a2 a3 => ?_) (fun k j a1 => ?_) ?_
  · have a4 := rq139 k j a1 a2 a3
    rcases a4 with a4 | a4 | a4 | a4 | a4 | a4 | a4 | a4 | a4 | a4 | a4
    · obtain ⟨rfl, rfl⟩ := a4; simp [hS, hM, hR]
    · obtain ⟨rfl, rfl⟩ := a4; simp [hS, hM, hR]
    · obtain ⟨rfl, rfl⟩ := a4; simp [hS, hM, hR]
    · obtain ⟨rfl, rfl⟩ := a4; simp [hS, hM, hR]
    · obtain ⟨rfl, rfl⟩ := a4; simp [hS, hM, hR]
    · obtain ⟨rfl, rfl⟩ := a4; simp [hS, hM, hR]
    · obtain ⟨rfl, rfl⟩ := a4; simp [hS, hM, hR]
    · obtain ⟨rfl, rfl⟩ := a4; simp [hS, hM, hR]
    · obtain ⟨rfl, rfl⟩ := a4; simp [hS, hM, hR]
    · obtain ⟨rfl, rfl⟩ := a4; simp [hS, hM, hR]
    · obtain ⟨rfl, rfl⟩ := a4; simp [hS, hM, hR]
  · rw [hS_ne (by omega), hS_ne (by omega), hS_ne (by omega), hS_ne (by omega), hS_ne (by omega), hS_ne (by omega), hS_ne (by omega), hS_ne (by omega), hS_ne (by omega), hS_ne (by omega), hS_ne (by omega)]
  · exact x_vretG Cg (Nat.le_of_ble_eq_true rfl) (Nat.le_of_ble_eq_true rfl) dX8_init_94
theorem rq172 : ∀ k j, 172 ≤ k → k < 184 → rfs k j = true → (k = 172 ∧ j = 0) ∨ (k = 172 ∧ j = 1) ∨ (k = 172 ∧ j = 2) ∨ (k = 172 ∧ j = 5) ∨ (k = 172 ∧ j = 6) ∨ (k = 172 ∧ j = 7) ∨ (k = 172 ∧ j = 8) ∨ (k = 172 ∧ j = 9) ∨ (k = 172 ∧ j = 10) ∨ (k = 172 ∧ j = 13) ∨ (k = 172 ∧ j = 14) := fun k j a b c => of_decide_eq_true (rq_of (lo := 172) (hi := 184) (P := fun k j => decide ((k = 172 ∧ j = 0) ∨ (k = 172 ∧ j = 1) ∨ (k = 172 ∧ j = 2) ∨ (k = 172 ∧ j = 5) ∨ (k = 172 ∧ j = 6) ∨ (k = 172 ∧ j = 7) ∨ (k = 172 ∧ j = 8) ∨ (k = 172 ∧ j = 9) ∨ (k = 172 ∧ j = 10) ∨ (k = 172 ∧ j = 13) ∨ (k = 172 ∧ j = 14))) (by decide +kernel) k j a b c)
set_option maxHeartbeats 4000000 in
set_option maxRecDepth 100000 in
theorem ct_X8_init_172 (l : Launch) (E : xE) (hfl : E.2.1.2.2 9 0 = 0) {h : Nat → Nat → Bool} (hh : hlow 172 h) {σ : xS} (hz0 : ∀ k j, 172 < k → σ k j = 0) : xMet l E yX8_init cX8_init 1 none { frames := 1, cells := 11, slots := 553, locals := 20 } [.ref (xqa E.2.2 172)] (wP 174 h) (wP 185 (hR 172 184 h)) σ (some (none, σ)) := by
  refine xMetG_of (by decide) (Nat.le_of_ble_eq_true rfl) (fun X hE hnm Cg => ?_)
  subst hE
  have hh1 := hlow_le hh (Nat.le_succ 172)
  refine x_aload_n (Cg 0 0 (Nat.le_of_ble_eq_true rfl) (Nat.le_of_ble_eq_true rfl)) 0 dX8_init_0 rfl rfl ?_
  refine x_objI (Cg 0 0 (Nat.le_of_ble_eq_true rfl) (Nat.le_of_ble_eq_true rfl)) wd518 (Nat.le_of_ble_eq_true rfl) (Nat.le_of_ble_eq_true rfl) (Nat.le_of_ble_eq_true rfl) dX8_init_1 ?_
  refine x_aload_n (Cg 0 0 (Nat.le_of_ble_eq_true rfl) (Nat.le_of_ble_eq_true rfl)) 0 dX8_init_4 rfl rfl ?_
  refine x_bipush (Cg 0 0 (Nat.le_of_ble_eq_true rfl) (Nat.le_of_ble_eq_true rfl)) (7) dX8_init_5 rfl ?_
  refine x_newA (m := 174) (by decide) Cg (atype := .int) (q := 0) (n := 7) (c := 173) (by decide) rfl (fun j _ => hz0 _ _ (by decide)) hfl wdA0 rfl rfl (by decide) dX8_init_7 (Nat.le_of_ble_eq_true rfl) (Nat.le_of_ble_eq_true rfl) ?_
  have hh2 := hlow_le hh1 (show 173 ≤ 174 by decide)
  refine x_putR Cg (k0 := 172) (j := 0) (a := 173) (σ' := σ) ⟨(Nat.le_of_ble_eq_true rfl), (Nat.le_of_ble_eq_true rfl)⟩ cls_X8 (by decide) rfl (by decide) wd519 rfl (Or.inr ⟨rfl, rfl, hnm⟩) rfl (rt_of ⟨rfl, by decide, by decide⟩) (fun _ _ _ => rfl) dX8_init_9 ?_
  have hh3 := hlow_S (k0 := 172) (j := 0) hh2 (by decide)
  refine x_aload_n (Cg 1 7 (Nat.le_of_ble_eq_true rfl) (Nat.le_of_ble_eq_true rfl)) 0 dX8_init_12 rfl rfl ?_
  refine x_bipush (Cg 1 7 (Nat.le_of_ble_eq_true rfl) (Nat.le_of_ble_eq_true rfl)) (7) dX8_init_13 rfl ?_
  refine x_newA (m := 175) (by decide) Cg (atype := .int) (q := 0) (n := 7) (c := 174) (by decide) rfl (fun j _ => hz0 _ _ (by decide)) hfl wdA0 rfl rfl (by decide) dX8_init_15 (Nat.le_of_ble_eq_true rfl) (Nat.le_of_ble_eq_true rfl) ?_
  have hh4 := hlow_le hh3 (show 174 ≤ 175 by decide)
  refine x_putR Cg (k0 := 172) (j := 1) (a := 174) (σ' := σ) ⟨(Nat.le_of_ble_eq_true rfl), (Nat.le_of_ble_eq_true rfl)⟩ cls_X8 (by decide) rfl (by decide) wd520 rfl (Or.inr ⟨rfl, rfl, hnm⟩) rfl (rt_of ⟨rfl, by decide, by decide⟩) (fun _ _ _ => rfl) dX8_init_17 ?_
  have hh5 := hlow_S (k0 := 172) (j := 1) hh4 (by decide)
  refine x_aload_n (Cg 2 14 (Nat.le_of_ble_eq_true rfl) (Nat.le_of_ble_eq_true rfl)) 0 dX8_init_20 rfl rfl ?_
  refine x_bipush (Cg 2 14 (Nat.le_of_ble_eq_true rfl) (Nat.le_of_ble_eq_true rfl)) (7) dX8_init_21 rfl ?_
  refine x_newA (m := 176) (by decide) Cg (atype := .int) (q := 0) (n := 7) (c := 175) (by decide) rfl (fun j _ => hz0 _ _ (by decide)) hfl wdA0 rfl rfl (by decide) dX8_init_23 (Nat.le_of_ble_eq_true rfl) (Nat.le_of_ble_eq_true rfl) ?_
  have hh6 := hlow_le hh5 (show 175 ≤ 176 by decide)
  refine x_putR Cg (k0 := 172) (j := 2) (a := 175) (σ' := σ) ⟨(Nat.le_of_ble_eq_true rfl), (Nat.le_of_ble_eq_true rfl)⟩ cls_X8 (by decide) rfl (by decide) wd521 rfl (Or.inr ⟨rfl, rfl, hnm⟩) rfl (rt_of ⟨rfl, by decide, by decide⟩) (fun _ _ _ => rfl) dX8_init_25 ?_
  have hh7 := hlow_S (k0 := 172) (j := 2) hh6 (by decide)
  refine x_aload_n (Cg 3 21 (Nat.le_of_ble_eq_true rfl) (Nat.le_of_ble_eq_true rfl)) 0 dX8_init_28 rfl rfl ?_
  refine x_sipush (Cg 3 21 (Nat.le_of_ble_eq_true rfl) (Nat.le_of_ble_eq_true rfl)) (128) dX8_init_29 rfl ?_
  refine x_newA (m := 177) (by decide) Cg (atype := .int) (q := 0) (n := 128) (c := 176) (by decide) rfl (fun j _ => hz0 _ _ (by decide)) hfl wdA0 rfl rfl (by decide) dX8_init_32 (Nat.le_of_ble_eq_true rfl) (Nat.le_of_ble_eq_true rfl) ?_
  have hh8 := hlow_le hh7 (show 176 ≤ 177 by decide)
  refine x_putR Cg (k0 := 172) (j := 5) (a := 176) (σ' := σ) ⟨(Nat.le_of_ble_eq_true rfl), (Nat.le_of_ble_eq_true rfl)⟩ cls_X8 (by decide) rfl (by decide) wd524 rfl (Or.inr ⟨rfl, rfl, hnm⟩) rfl (rt_of ⟨rfl, by decide, by decide⟩) (fun _ _ _ => rfl) dX8_init_34 ?_
  have hh9 := hlow_S (k0 := 172) (j := 5) hh8 (by decide)
  refine x_aload_n (Cg 4 149 (Nat.le_of_ble_eq_true rfl) (Nat.le_of_ble_eq_true rfl)) 0 dX8_init_37 rfl rfl ?_
  refine x_sipush (Cg 4 149 (Nat.le_of_ble_eq_true rfl) (Nat.le_of_ble_eq_true rfl)) (128) dX8_init_38 rfl ?_
  refine x_newA (m := 178) (by decide) Cg (atype := .int) (q := 0) (n := 128) (c := 177) (by decide) rfl (fun j _ => hz0 _ _ (by decide)) hfl wdA0 rfl rfl (by decide) dX8_init_41 (Nat.le_of_ble_eq_true rfl) (Nat.le_of_ble_eq_true rfl) ?_
  have hh10 := hlow_le hh9 (show 177 ≤ 178 by decide)
  refine x_putR Cg (k0 := 172) (j := 6) (a := 177) (σ' := σ) ⟨(Nat.le_of_ble_eq_true rfl), (Nat.le_of_ble_eq_true rfl)⟩ cls_X8 (by decide) rfl (by decide) wd525 rfl (Or.inr ⟨rfl, rfl, hnm⟩) rfl (rt_of ⟨rfl, by decide, by decide⟩) (fun _ _ _ => rfl) dX8_init_43 ?_
  have hh11 := hlow_S (k0 := 172) (j := 6) hh10 (by decide)
  refine x_aload_n (Cg 5 277 (Nat.le_of_ble_eq_true rfl) (Nat.le_of_ble_eq_true rfl)) 0 dX8_init_46 rfl rfl ?_
  refine x_sipush (Cg 5 277 (Nat.le_of_ble_eq_true rfl) (Nat.le_of_ble_eq_true rfl)) (128) dX8_init_47 rfl ?_
  refine x_newA (m := 179) (by decide) Cg (atype := .int) (q := 0) (n := 128) (c := 178) (by decide) rfl (fun j _ => hz0 _ _ (by decide)) hfl wdA0 rfl rfl (by decide) dX8_init_50 (Nat.le_of_ble_eq_true rfl) (Nat.le_of_ble_eq_true rfl) ?_
  have hh12 := hlow_le hh11 (show 178 ≤ 179 by decide)
  refine x_putR Cg (k0 := 172) (j := 7) (a := 178) (σ' := σ) ⟨(Nat.le_of_ble_eq_true rfl), (Nat.le_of_ble_eq_true rfl)⟩ cls_X8 (by decide) rfl (by decide) wd526 rfl (Or.inr ⟨rfl, rfl, hnm⟩) rfl (rt_of ⟨rfl, by decide, by decide⟩) (fun _ _ _ => rfl) dX8_init_52 ?_
  have hh13 := hlow_S (k0 := 172) (j := 7) hh12 (by decide)
  refine x_aload_n (Cg 6 405 (Nat.le_of_ble_eq_true rfl) (Nat.le_of_ble_eq_true rfl)) 0 dX8_init_55 rfl rfl ?_
  refine x_sipush (Cg 6 405 (Nat.le_of_ble_eq_true rfl) (Nat.le_of_ble_eq_true rfl)) (128) dX8_init_56 rfl ?_
  refine x_newA (m := 180) (by decide) Cg (atype := .int) (q := 0) (n := 128) (c := 179) (by decide) rfl (fun j _ => hz0 _ _ (by decide)) hfl wdA0 rfl rfl (by decide) dX8_init_59 (Nat.le_of_ble_eq_true rfl) (Nat.le_of_ble_eq_true rfl) ?_
  have hh14 := hlow_le hh13 (show 179 ≤ 180 by decide)
  refine x_putR Cg (k0 := 172) (j := 8) (a := 179) (σ' := σ) ⟨(Nat.le_of_ble_eq_true rfl), (Nat.le_of_ble_eq_true rfl)⟩ cls_X8 (by decide) rfl (by decide) wd527 rfl (Or.inr ⟨rfl, rfl, hnm⟩) rfl (rt_of ⟨rfl, by decide, by decide⟩) (fun _ _ _ => rfl) dX8_init_61 ?_
  have hh15 := hlow_S (k0 := 172) (j := 8) hh14 (by decide)
  refine x_aload_n (Cg 7 533 (Nat.le_of_ble_eq_true rfl) (Nat.le_of_ble_eq_true rfl)) 0 dX8_init_64 rfl rfl ?_
  refine x_iconst (Cg 7 533 (Nat.le_of_ble_eq_true rfl) (Nat.le_of_ble_eq_true rfl)) (3) dX8_init_65 rfl ?_
  refine x_newA (m := 181) (by decide) Cg (atype := .int) (q := 0) (n := 3) (c := 180) (by decide) rfl (fun j _ => hz0 _ _ (by decide)) hfl wdA0 rfl rfl (by decide) dX8_init_66 (Nat.le_of_ble_eq_true rfl) (Nat.le_of_ble_eq_true rfl) ?_
  have hh16 := hlow_le hh15 (show 180 ≤ 181 by decide)
  refine x_putR Cg (k0 := 172) (j := 9) (a := 180) (σ' := σ) ⟨(Nat.le_of_ble_eq_true rfl), (Nat.le_of_ble_eq_true rfl)⟩ cls_X8 (by decide) rfl (by decide) wd528 rfl (Or.inr ⟨rfl, rfl, hnm⟩) rfl (rt_of ⟨rfl, by decide, by decide⟩) (fun _ _ _ => rfl) dX8_init_68 ?_
  have hh17 := hlow_S (k0 := 172) (j := 9) hh16 (by decide)
  refine x_aload_n (Cg 8 536 (Nat.le_of_ble_eq_true rfl) (Nat.le_of_ble_eq_true rfl)) 0 dX8_init_71 rfl rfl ?_
  refine x_bipush (Cg 8 536 (Nat.le_of_ble_eq_true rfl) (Nat.le_of_ble_eq_true rfl)) (7) dX8_init_72 rfl ?_
  refine x_newA (m := 182) (by decide) Cg (atype := .int) (q := 0) (n := 7) (c := 181) (by decide) rfl (fun j _ => hz0 _ _ (by decide)) hfl wdA0 rfl rfl (by decide) dX8_init_74 (Nat.le_of_ble_eq_true rfl) (Nat.le_of_ble_eq_true rfl) ?_
  have hh18 := hlow_le hh17 (show 181 ≤ 182 by decide)
  refine x_putR Cg (k0 := 172) (j := 10) (a := 181) (σ' := σ) ⟨(Nat.le_of_ble_eq_true rfl), (Nat.le_of_ble_eq_true rfl)⟩ cls_X8 (by decide) rfl (by decide) wd529 rfl (Or.inr ⟨rfl, rfl, hnm⟩) rfl (rt_of ⟨rfl, by decide, by decide⟩) (fun _ _ _ => rfl) dX8_init_76 ?_
  have hh19 := hlow_S (k0 := 172) (j := 10) hh18 (by decide)
  refine x_aload_n (Cg 9 543 (Nat.le_of_ble_eq_true rfl) (Nat.le_of_ble_eq_true rfl)) 0 dX8_init_79 rfl rfl ?_
  refine x_iconst (Cg 9 543 (Nat.le_of_ble_eq_true rfl) (Nat.le_of_ble_eq_true rfl)) (3) dX8_init_80 rfl ?_
  refine x_newA (m := 183) (by decide) Cg (atype := .int) (q := 0) (n := 3) (c := 182) (by decide) rfl (fun j _ => hz0 _ _ (by decide)) hfl wdA0 rfl rfl (by decide) dX8_init_81 (Nat.le_of_ble_eq_true rfl) (Nat.le_of_ble_eq_true rfl) ?_
  have hh20 := hlow_le hh19 (show 182 ≤ 183 by decide)
  refine x_putR Cg (k0 := 172) (j := 13) (a := 182) (σ' := σ) ⟨(Nat.le_of_ble_eq_true rfl), (Nat.le_of_ble_eq_true rfl)⟩ cls_X8 (by decide) rfl (by decide) wd534 rfl (Or.inr ⟨rfl, rfl, hnm⟩) rfl (rt_of ⟨rfl, by decide, by decide⟩) (fun _ _ _ => rfl) dX8_init_83 ?_
  have hh21 := hlow_S (k0 := 172) (j := 13) hh20 (by decide)
  refine x_aload_n (Cg 10 546 (Nat.le_of_ble_eq_true rfl) (Nat.le_of_ble_eq_true rfl)) 0 dX8_init_86 rfl rfl ?_
  refine x_bipush (Cg 10 546 (Nat.le_of_ble_eq_true rfl) (Nat.le_of_ble_eq_true rfl)) (7) dX8_init_87 rfl ?_
  refine x_newA (m := 184) (by decide) Cg (atype := .int) (q := 0) (n := 7) (c := 183) (by decide) rfl (fun j _ => hz0 _ _ (by decide)) hfl wdA0 rfl rfl (by decide) dX8_init_89 (Nat.le_of_ble_eq_true rfl) (Nat.le_of_ble_eq_true rfl) ?_
  have hh22 := hlow_le hh21 (show 183 ≤ 184 by decide)
  refine x_putR Cg (k0 := 172) (j := 14) (a := 183) (σ' := σ) ⟨(Nat.le_of_ble_eq_true rfl), (Nat.le_of_ble_eq_true rfl)⟩ cls_X8 (by decide) rfl (by decide) wd535 rfl (Or.inr ⟨rfl, rfl, hnm⟩) rfl (rt_of ⟨rfl, by decide, by decide⟩) (fun _ _ _ => rfl) dX8_init_91 ?_
  have hh23 := hlow_S (k0 := 172) (j := 14) hh22 (by decide)
  refine x_wR (h := h) (lo := 172) (hi := 184) (by decide) (fun k j a1 a2 a3 => ?_) (fun k j a1 => ?_) ?_
  · have a4 := rq172 k j a1 a2 a3
    rcases a4 with a4 | a4 | a4 | a4 | a4 | a4 | a4 | a4 | a4 | a4 | a4
    · obtain ⟨rfl, rfl⟩ := a4; simp [hS, hM, hR]
    · obtain ⟨rfl, rfl⟩ := a4; simp [hS, hM, hR]
    · obtain ⟨rfl, rfl⟩ := a4; simp [hS, hM, hR]
    · obtain ⟨rfl, rfl⟩ := a4; simp [hS, hM, hR]
    · obtain ⟨rfl, rfl⟩ := a4; simp [hS, hM, hR]
    · obtain ⟨rfl, rfl⟩ := a4; simp [hS, hM, hR]
    · obtain ⟨rfl, rfl⟩ := a4; simp [hS, hM, hR]
    · obtain ⟨rfl, rfl⟩ := a4; simp [hS, hM, hR]
    · obtain ⟨rfl, rfl⟩ := a4; simp [hS, hM, hR]
    · obtain ⟨rfl, rfl⟩ := a4; simp [hS, hM, hR]
    · obtain ⟨rfl, rfl⟩ := a4; simp [hS, hM, hR]
  · rw [hS_ne (by omega), hS_ne (by omega), hS_ne (by omega), hS_ne (by omega), hS_ne (by omega), hS_ne (by omega), hS_ne (by omega), hS_ne (by omega), hS_ne (by omega), hS_ne (by omega), hS_ne (by omega)]
  · exact x_vretG Cg (Nat.le_of_ble_eq_true rfl) (Nat.le_of_ble_eq_true rfl) dX8_init_94
