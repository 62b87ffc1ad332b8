/-! constructors: roads -/
theorem mt_X9_init : xMth yX9_init cX9_init 1 none 0 := ⟨wd271, wd56, ⟨by decide, by decide, rfl⟩⟩
theorem rq45 : ∀ k j, 45 ≤ k → k < 60 → rfs k j = true → (k = 45 ∧ j = 0) ∨ (k = 45 ∧ j = 1) ∨ (k = 45 ∧ j = 2) ∨ (k = 45 ∧ j = 3) ∨ (k = 50 ∧ j < 8) ∨ (k = 45 ∧ j = 5) ∨ (k = 45 ∧ j = 6) := fun k j a b c => of_decide_eq_true (rq_of (lo := 45) (hi := 60) (P := fun k j => decide ((k = 45 ∧ j = 0) ∨ (k = 45 ∧ j = 1) ∨ (k = 45 ∧ j = 2) ∨ (k = 45 ∧ j = 3) ∨ (k = 50 ∧ j < 8) ∨ (k = 45 ∧ j = 5) ∨ (k = 45 ∧ j = 6))) (by decide +kernel) k j a b c)
set_option maxHeartbeats 4000000 in
set_option maxRecDepth 100000 in
theorem ct_X9_init_45 (l : Launch) (E : xE) (hfl : E.2.1.2.2 9 0 = 0) {h : Nat → Nat → Bool} (hh : hlow 45 h) {σ : xS} (hz0 : ∀ k j, 45 < k → σ k j = 0) : xMetO l E yX9_init cX9_init 1 none { frames := 1, cells := 14, slots := 1176, locals := 20 } [.ref (xqa E.2.2 45)] (wP 47 h) (wP 61 (hR 45 60 h)) σ (some (none, σ)) := by
  refine xMetO_of (by decide) (Nat.le_of_ble_eq_true rfl) (fun X hE hnm hAO Cg => ?_)
  subst hE
  have hh1 := hlow_le hh (Nat.le_succ 45)
  refine x_aload_n (Cg 0 0 (Nat.le_of_ble_eq_true rfl) (Nat.le_of_ble_eq_true rfl)) 0 dX9_init_0 rfl rfl ?_
  refine x_objI (Cg 0 0 (Nat.le_of_ble_eq_true rfl) (Nat.le_of_ble_eq_true rfl)) wd272 (Nat.le_of_ble_eq_true rfl) (Nat.le_of_ble_eq_true rfl) (Nat.le_of_ble_eq_true rfl) dX9_init_1 ?_
  refine x_aload_n (Cg 0 0 (Nat.le_of_ble_eq_true rfl) (Nat.le_of_ble_eq_true rfl)) 0 dX9_init_4 rfl rfl ?_
  refine x_bipush (Cg 0 0 (Nat.le_of_ble_eq_true rfl) (Nat.le_of_ble_eq_true rfl)) (20) dX9_init_5 rfl ?_
  refine x_newA (m := 47) (by decide) Cg (atype := .int) (q := 0) (n := 20) (c := 46) (by decide) rfl (fun j _ => hz0 _ _ (by decide)) hfl wdA0 rfl rfl (by decide) dX9_init_7 (Nat.le_of_ble_eq_true rfl) (Nat.le_of_ble_eq_true rfl) ?_
  have hh2 := hlow_le hh1 (show 46 ≤ 47 by decide)
  refine x_putR Cg (k0 := 45) (j := 0) (a := 46) (σ' := σ) ⟨(Nat.le_of_ble_eq_true rfl), (Nat.le_of_ble_eq_true rfl)⟩ cls_X9 (by decide) rfl (by decide) wd275 rfl (Or.inr ⟨rfl, rfl, hnm⟩) rfl (rt_of ⟨rfl, by decide, by decide⟩) (fun _ _ _ => rfl) dX9_init_9 ?_
  have hh3 := hlow_S (k0 := 45) (j := 0) hh2 (by decide)
  refine x_aload_n (Cg 1 20 (Nat.le_of_ble_eq_true rfl) (Nat.le_of_ble_eq_true rfl)) 0 dX9_init_12 rfl rfl ?_
  refine x_bipush (Cg 1 20 (Nat.le_of_ble_eq_true rfl) (Nat.le_of_ble_eq_true rfl)) (20) dX9_init_13 rfl ?_
  refine x_newA (m := 48) (by decide) Cg (atype := .int) (q := 0) (n := 20) (c := 47) (by decide) rfl (fun j _ => hz0 _ _ (by decide)) hfl wdA0 rfl rfl (by decide) dX9_init_15 (Nat.le_of_ble_eq_true rfl) (Nat.le_of_ble_eq_true rfl) ?_
  have hh4 := hlow_le hh3 (show 47 ≤ 48 by decide)
  refine x_putR Cg (k0 := 45) (j := 1) (a := 47) (σ' := σ) ⟨(Nat.le_of_ble_eq_true rfl), (Nat.le_of_ble_eq_true rfl)⟩ cls_X9 (by decide) rfl (by decide) wd277 rfl (Or.inr ⟨rfl, rfl, hnm⟩) rfl (rt_of ⟨rfl, by decide, by decide⟩) (fun _ _ _ => rfl) dX9_init_17 ?_
  have hh5 := hlow_S (k0 := 45) (j := 1) hh4 (by decide)
  refine x_aload_n (Cg 2 40 (Nat.le_of_ble_eq_true rfl) (Nat.le_of_ble_eq_true rfl)) 0 dX9_init_20 rfl rfl ?_
  refine x_bipush (Cg 2 40 (Nat.le_of_ble_eq_true rfl) (Nat.le_of_ble_eq_true rfl)) (20) dX9_init_21 rfl ?_
  refine x_newA (m := 49) (by decide) Cg (atype := .int) (q := 0) (n := 20) (c := 48) (by decide) rfl (fun j _ => hz0 _ _ (by decide)) hfl wdA0 rfl rfl (by decide) dX9_init_23 (Nat.le_of_ble_eq_true rfl) (Nat.le_of_ble_eq_true rfl) ?_
  have hh6 := hlow_le hh5 (show 48 ≤ 49 by decide)
  refine x_putR Cg (k0 := 45) (j := 2) (a := 48) (σ' := σ) ⟨(Nat.le_of_ble_eq_true rfl), (Nat.le_of_ble_eq_true rfl)⟩ cls_X9 (by decide) rfl (by decide) wd279 rfl (Or.inr ⟨rfl, rfl, hnm⟩) rfl (rt_of ⟨rfl, by decide, by decide⟩) (fun _ _ _ => rfl) dX9_init_25 ?_
  have hh7 := hlow_S (k0 := 45) (j := 2) hh6 (by decide)
  refine x_aload_n (Cg 3 60 (Nat.le_of_ble_eq_true rfl) (Nat.le_of_ble_eq_true rfl)) 0 dX9_init_28 rfl rfl ?_
  refine x_bipush (Cg 3 60 (Nat.le_of_ble_eq_true rfl) (Nat.le_of_ble_eq_true rfl)) (20) dX9_init_29 rfl ?_
  refine x_newA (m := 50) (by decide) Cg (atype := .boolean) (q := 3) (n := 20) (c := 49) (by decide) rfl (fun j _ => hz0 _ _ (by decide)) hfl wdA3 rfl rfl (by decide) dX9_init_31 (Nat.le_of_ble_eq_true rfl) (Nat.le_of_ble_eq_true rfl) ?_
  have hh8 := hlow_le hh7 (show 49 ≤ 50 by decide)
  refine x_putR Cg (k0 := 45) (j := 3) (a := 49) (σ' := σ) ⟨(Nat.le_of_ble_eq_true rfl), (Nat.le_of_ble_eq_true rfl)⟩ cls_X9 (by decide) rfl (by decide) wd281 rfl (Or.inr ⟨rfl, rfl, hnm⟩) rfl (rt_of ⟨rfl, by decide, by decide⟩) (fun _ _ _ => rfl) dX9_init_33 ?_
  have hh9 := hlow_S (k0 := 45) (j := 3) hh8 (by decide)
  refine x_aload_n (Cg 4 80 (Nat.le_of_ble_eq_true rfl) (Nat.le_of_ble_eq_true rfl)) 0 dX9_init_36 rfl rfl ?_
  refine x_bipush (Cg 4 80 (Nat.le_of_ble_eq_true rfl) (Nat.le_of_ble_eq_true rfl)) (8) dX9_init_37 rfl ?_
  refine x_bipush (Cg 4 80 (Nat.le_of_ble_eq_true rfl) (Nat.le_of_ble_eq_true rfl)) (8) dX9_init_39 rfl ?_
  refine x_multi (n := 8) (by decide) Cg (m := 8) (c := 50) rfl (by decide +kernel) (fun j hj v => rt_of ((by decide +kernel : ∀ j, j < 8 → ((rtL.getD 50 []).getD j 0 = 50 + 1 + j ∧ rkB 50 = true ∧ 50 + 1 + j ≠ 0)) j hj)) (fun k j hk => hz0 k j (Nat.lt_of_le_of_lt (by decide) hk)) hh9 hfl wd273 hAO.2.2.2 wdA0 rfl rfl (by decide) dX9_init_41 (Nat.le_of_ble_eq_true rfl) (Nat.le_of_ble_eq_true rfl) ?_
  have hh10 := hlow_M (k0 := 50) (n := 8) (hlow_le hh9 (show 50 ≤ 59 by decide)) (by decide)
  refine x_putR Cg (k0 := 45) (j := 5) (a := 50) (σ' := σ) ⟨(Nat.le_of_ble_eq_true rfl), (Nat.le_of_ble_eq_true rfl)⟩ cls_X9 (by decide) rfl (by decide) wd289 rfl (Or.inr ⟨rfl, rfl, hnm⟩) rfl (rt_of ⟨rfl, by decide, by decide⟩) (fun _ _ _ => rfl) dX9_init_45 ?_
  have hh11 := hlow_S (k0 := 45) (j := 5) hh10 (by decide)
  refine x_aload_n (Cg 13 152 (Nat.le_of_ble_eq_true rfl) (Nat.le_of_ble_eq_true rfl)) 0 dX9_init_48 rfl rfl ?_
  refine x_sipush (Cg 13 152 (Nat.le_of_ble_eq_true rfl) (Nat.le_of_ble_eq_true rfl)) (1024) dX9_init_49 rfl ?_
  refine x_newA (m := 60) (by decide) Cg (atype := .int) (q := 0) (n := 1024) (c := 59) (by decide) rfl (fun j _ => hz0 _ _ (by decide)) hfl wdA0 rfl rfl (by decide) dX9_init_52 (Nat.le_of_ble_eq_true rfl) (Nat.le_of_ble_eq_true rfl) ?_
  have hh12 := hlow_le hh11 (show 59 ≤ 60 by decide)
  refine x_putR Cg (k0 := 45) (j := 6) (a := 59) (σ' := σ) ⟨(Nat.le_of_ble_eq_true rfl), (Nat.le_of_ble_eq_true rfl)⟩ cls_X9 (by decide) rfl (by decide) wd290 rfl (Or.inr ⟨rfl, rfl, hnm⟩) rfl (rt_of ⟨rfl, by decide, by decide⟩) (fun _ _ _ => rfl) dX9_init_54 ?_
  have hh13 := hlow_S (k0 := 45) (j := 6) hh12 (by decide)
  refine x_wR (h := h) (lo := 45) (hi := 60) (by decide) (fun k j a1 a2 a3 => ?_) (fun k j a1 => ?_) ?_
  · have a4 := rq45 k j a1 a2 a3
    rcases a4 with a4 | a4 | a4 | a4 | a4 | a4 | a4
    · obtain ⟨rfl, rfl⟩ := a4; simp [hS, hM, hR]
    · obtain ⟨rfl, rfl⟩ := a4; simp [hS, hM, hR]
    · obtain ⟨rfl, rfl⟩ := a4; simp [hS, hM, hR]
    · obtain ⟨rfl, rfl⟩ := a4; simp [hS, hM, hR]
    · obtain ⟨rfl, a5⟩ := a4; simp [hS, hM, hR, a5]
    · obtain ⟨rfl, rfl⟩ := a4; simp [hS, hM, hR]
    · obtain ⟨rfl, rfl⟩ := a4; simp [hS, hM, hR]
  · rw [hS_ne (by omega), hS_ne (by omega), hM_ne (by omega), hS_ne (by omega), hS_ne (by omega), hS_ne (by omega), hS_ne (by omega)]
  · exact x_vretG Cg (Nat.le_of_ble_eq_true rfl) (Nat.le_of_ble_eq_true rfl) dX9_init_57
theorem rq99 : ∀ k j, 99 ≤ k → k < 114 → rfs k j = true → (k = 99 ∧ j = 0) ∨ (k = 99 ∧ j = 1) ∨ (k = 99 ∧ j = 2) ∨ (k = 99 ∧ j = 3) ∨ (k = 104 ∧ j < 8) ∨ (k = 99 ∧ j = 5) ∨ (k = 99 ∧ j = 6) := fun k j a b c => of_decide_eq_true (rq_of (lo := 99) (hi := 114) (P := fun k j => decide ((k = 99 ∧ j = 0) ∨ (k = 99 ∧ j = 1) ∨ (k = 99 ∧ j = 2) ∨ (k = 99 ∧ j = 3) ∨ (k = 104 ∧ j < 8) ∨ (k = 99 ∧ j = 5) ∨ (k = 99 ∧ j = 6))) (by decide +kernel) k j a b c)
set_option maxHeartbeats 4000000 in
set_option maxRecDepth 100000 in
theorem ct_X9_init_99 (l : Launch) (E : xE) (hfl : E.2.1.2.2 9 0 = 0) {h : Nat → Nat → Bool} (hh : hlow 99 h) {σ : xS} (hz0 : ∀ k j, 99 < k → σ k j = 0) : xMetO l E yX9_init cX9_init 1 none { frames := 1, cells := 14, slots := 1176, locals := 20 } [.ref (xqa E.2.2 99)] (wP 101 h) (wP 115 (hR 99 114 h)) σ (some (none, σ)) := by
  refine xMetO_of (by decide) (Nat.le_of_ble_eq_true rfl) (fun X hE hnm hAO Cg => ?_)
  subst hE
  have hh1 := hlow_le hh (Nat.le_succ 99)
  refine x_aload_n (Cg 0 0 (Nat.le_of_ble_eq_true rfl) (Nat.le_of_ble_eq_true rfl)) 0 dX9_init_0 rfl rfl ?_
  refine x_objI (Cg 0 0 (Nat.le_of_ble_eq_true rfl) (Nat.le_of_ble_eq_true rfl)) wd272 (Nat.le_of_ble_eq_true rfl) (Nat.le_of_ble_eq_true rfl) (Nat.le_of_ble_eq_true rfl) dX9_init_1 ?_
  refine x_aload_n (Cg 0 0 (Nat.le_of_ble_eq_true rfl) (Nat.le_of_ble_eq_true rfl)) 0 dX9_init_4 rfl rfl ?_
  refine x_bipush (Cg 0 0 (Nat.le_of_ble_eq_true rfl) (Nat.le_of_ble_eq_true rfl)) (20) dX9_init_5 rfl ?_
  refine x_newA (m := 101) (by decide) Cg (atype := .int) (q := 0) (n := 20) (c := 100) (by decide) rfl (fun j _ => hz0 _ _ (by decide)) hfl wdA0 rfl rfl (by decide) dX9_init_7 (Nat.le_of_ble_eq_true rfl) (Nat.le_of_ble_eq_true rfl) ?_
  have hh2 := hlow_le hh1 (show 100 ≤ 101 by decide)
  refine x_putR Cg (k0 := 99) (j := 0) (a := 100) (σ' := σ) ⟨(Nat.le_of_ble_eq_true rfl), (Nat.le_of_ble_eq_true rfl)⟩ cls_X9 (by decide) rfl (by decide) wd275 rfl (Or.inr ⟨rfl, rfl, hnm⟩) rfl (rt_of ⟨rfl, by decide, by decide⟩) (fun _ _ _ => rfl) dX9_init_9 ?_
  have hh3 := hlow_S (k0 := 99) (j := 0) hh2 (by decide)
  refine x_aload_n (Cg 1 20 (Nat.le_of_ble_eq_true rfl) (Nat.le_of_ble_eq_true rfl)) 0 dX9_init_12 rfl rfl ?_
  refine x_bipush (Cg 1 20 (Nat.le_of_ble_eq_true rfl) (Nat.le_of_ble_eq_true rfl)) (20) dX9_init_13 rfl ?_
  refine x_newA (m := 102) (by decide) Cg (atype := .int) (q := 0) (n := 20) (c := 101) (by decide) rfl (fun j _ => hz0 _ _ (by decide)) hfl wdA0 rfl rfl (by decide) dX9_init_15 (Nat.le_of_ble_eq_true rfl) (Nat.le_of_ble_eq_true rfl) ?_
  have hh4 := hlow_le hh3 (show 101 ≤ 102 by decide)
  refine x_putR Cg (k0 := 99) (j := 1) (a := 101) (σ' := σ) ⟨(Nat.le_of_ble_eq_true rfl), (Nat.le_of_ble_eq_true rfl)⟩ cls_X9 (by decide) rfl (by decide) wd277 rfl (Or.inr ⟨rfl, rfl, hnm⟩) rfl (rt_of ⟨rfl, by decide, by decide⟩) (fun _ _ _ => rfl) dX9_init_17 ?_
  have hh5 := hlow_S (k0 := 99) (j := 1) hh4 (by decide)
  refine x_aload_n (Cg 2 40 (Nat.le_of_ble_eq_true rfl) (Nat.le_of_ble_eq_true rfl)) 0 dX9_init_20 rfl rfl ?_
  refine x_bipush (Cg 2 40 (Nat.le_of_ble_eq_true rfl) (Nat.le_of_ble_eq_true rfl)) (20) dX9_init_21 rfl ?_
  refine x_newA (m := 103) (by decide) Cg (atype := .int) (q := 0) (n := 20) (c := 102) (by decide) rfl (fun j _ => hz0 _ _ (by decide)) hfl wdA0 rfl rfl (by decide) dX9_init_23 (Nat.le_of_ble_eq_true rfl) (Nat.le_of_ble_eq_true rfl) ?_
  have hh6 := hlow_le hh5 (show 102 ≤ 103 by decide)
  refine x_putR Cg (k0 := 99) (j := 2) (a := 102) (σ' := σ) ⟨(Nat.le_of_ble_eq_true rfl), (Nat.le_of_ble_eq_true rfl)⟩ cls_X9 (by decide) rfl (by decide) wd279 rfl (Or.inr ⟨rfl, rfl, hnm⟩) rfl (rt_of ⟨rfl, by decide, by decide⟩) (fun _ _ _ => rfl) dX9_init_25 ?_
  have hh7 := hlow_S (k0 := 99) (j := 2) hh6 (by decide)
  refine x_aload_n (Cg 3 60 (Nat.le_of_ble_eq_true rfl) (Nat.le_of_ble_eq_true rfl)) 0 dX9_init_28 rfl rfl ?_
  refine x_bipush (Cg 3 60 (Nat.le_of_ble_eq_true rfl) (Nat.le_of_ble_eq_true rfl)) (20) dX9_init_29 rfl ?_
  refine x_newA (m := 104) (by decide) Cg (atype := .boolean) (q := 3) (n := 20) (c := 103) (by decide) rfl (fun j _ => hz0 _ _ (by decide)) hfl wdA3 rfl rfl (by decide) dX9_init_31 (Nat.le_of_ble_eq_true rfl) (Nat.le_of_ble_eq_true rfl) ?_
  have hh8 := hlow_le hh7 (show 103 ≤ 104 by decide)
  refine x_putR Cg (k0 := 99) (j := 3) (a := 103) (σ' := σ) ⟨(Nat.le_of_ble_eq_true rfl), (Nat.le_of_ble_eq_true rfl)⟩ cls_X9 (by decide) rfl (by decide) wd281 rfl (Or.inr ⟨rfl, rfl, hnm⟩) rfl (rt_of ⟨rfl, by decide, by decide⟩) (fun _ _ _ => rfl) dX9_init_33 ?_
  have hh9 := hlow_S (k0 := 99) (j := 3) hh8 (by decide)
  refine x_aload_n (Cg 4 80 (Nat.le_of_ble_eq_true rfl) (Nat.le_of_ble_eq_true rfl)) 0 dX9_init_36 rfl rfl ?_
  refine x_bipush (Cg 4 80 (Nat.le_of_ble_eq_true rfl) (Nat.le_of_ble_eq_true rfl)) (8) dX9_init_37 rfl ?_
  refine x_bipush (Cg 4 80 (Nat.le_of_ble_eq_true rfl) (Nat.le_of_ble_eq_true rfl)) (8) dX9_init_39 rfl ?_
  refine x_multi (n := 8) (by decide) Cg (m := 8) (c := 104) rfl (by decide +kernel) (fun j hj v => rt_of ((by decide +kernel : ∀ j, j < 8 → ((rtL.getD 104 []).getD j 0 = 104 + 1 + j ∧ rkB 104 = true ∧ 104 + 1 + j ≠ 0)) j hj)) (fun k j hk => hz0 k j (Nat.lt_of_le_of_lt (by decide) hk)) hh9 hfl wd273 hAO.2.2.2 wdA0 rfl rfl (by decide) dX9_init_41 (Nat.le_of_ble_eq_true rfl) (Nat.le_of_ble_eq_true rfl) ?_
  have hh10 := hlow_M (k0 := 104) (n := 8) (hlow_le hh9 (show 104 ≤ 113 by decide)) (by decide)
  refine x_putR Cg (k0 := 99) (j := 5) (a := 104) (σ' := σ) ⟨(Nat.le_of_ble_eq_true rfl), (Nat.le_of_ble_eq_true rfl)⟩ cls_X9 (by decide) rfl (by decide) wd289 rfl (Or.inr ⟨rfl, rfl, hnm⟩) rfl (rt_of ⟨rfl, by decide, by decide⟩) (fun _ _ _ => rfl) dX9_init_45 ?_
  have hh11 := hlow_S (k0 := 99) (j := 5) hh10 (by decide)
  refine x_aload_n (Cg 13 152 (Nat.le_of_ble_eq_true rfl) (Nat.le_of_ble_eq_true rfl)) 0 dX9_init_48 rfl rfl ?_
  refine x_sipush (Cg 13 152 (Nat.le_of_ble_eq_true rfl) (Nat.le_of_ble_eq_true rfl)) (1024) dX9_init_49 rfl ?_
  refine x_newA (m := 114) (by decide) Cg (atype := .int) (q := 0) (n := 1024) (c := 113) (by decide) rfl (fun j _ => hz0 _ _ (by decide)) hfl wdA0 rfl rfl (by decide) dX9_init_52 (Nat.le_of_ble_eq_true rfl) (Nat.le_of_ble_eq_true rfl) ?_
  have hh12 := hlow_le hh11 (show 113 ≤ 114 by decide)
  refine x_putR Cg (k0 := 99) (j := 6) (a := 113) (σ' := σ) ⟨(Nat.le_of_ble_eq_true rfl), (Nat.le_of_ble_eq_true rfl)⟩ cls_X9 (by decide) rfl (by decide) wd290 rfl (Or.inr ⟨rfl, rfl, hnm⟩) rfl (rt_of ⟨rfl, by decide, by decide⟩) (fun _ _ _ => rfl) dX9_init_54 ?_
  have hh13 := hlow_S (k0 := 99) (j := 6) hh12 (by decide)
  refine x_wR (h := h) (lo := 99) (hi := 114) (by decide) (fun k j a1 a2 a3 => ?_) (fun k j a1 => ?_) ?_
  · have a4 := rq99 k j a1 a2 a3
    rcases a4 with a4 | a4 | a4 | a4 | a4 | a4 | a4
    · obtain ⟨rfl, rfl⟩ := a4; simp [hS, hM, hR]
    · obtain ⟨rfl, rfl⟩ := a4; simp [hS, hM, hR]
    · obtain ⟨rfl, rfl⟩ := a4; simp [hS, hM, hR]
    · obtain ⟨rfl, rfl⟩ := a4; simp [hS, hM, hR]
    · obtain ⟨rfl, a5⟩ := a4; simp [hS, hM, hR, a5]
    · obtain ⟨rfl, rfl⟩ := a4; simp [hS, hM, hR]
    · obtain ⟨rfl, rfl⟩ := a4; simp [hS, hM, hR]
  · rw [hS_ne (by omega), hS_ne (by omega), hM_ne (by omega), hS_ne (by omega), hS_ne (by omega), hS_ne (by omega), hS_ne (by omega)]
  · exact x_vretG Cg (Nat.le_of_ble_eq_true rfl) (Nat.le_of_ble_eq_true rfl) dX9_init_57
