/-! constructors: small ones -/
theorem mt_X2_init : xMth yX2_init cX2_init 1 none 0 := ⟨wd160, wd53, ⟨by decide, by decide, rfl⟩⟩
theorem ct_X2_init {w : xW} (l : Launch) (E : xE) (k0 : Nat) (σ : xS) : xMet l E yX2_init cX2_init 1 none { frames := 1, cells := 0, slots := 0, locals := 20 } [.ref (xqa E.2.2 k0)] w w σ (some (none, σ)) := by
  refine xMetG_of (by decide) (Nat.le_of_ble_eq_true rfl) (fun X hE hnm Cg => ?_)
  subst hE
  refine x_aload_n (Cg 0 0 (Nat.le_of_ble_eq_true rfl) (Nat.le_of_ble_eq_true rfl)) 0 dX2_init_0 rfl rfl ?_
  refine x_objI (Cg 0 0 (Nat.le_of_ble_eq_true rfl) (Nat.le_of_ble_eq_true rfl)) wd161 (Nat.le_of_ble_eq_true rfl) (by decide) (Nat.le_of_ble_eq_true rfl) dX2_init_1 ?_
  exact x_vretG Cg (Nat.le_of_ble_eq_true rfl) (Nat.le_of_ble_eq_true rfl) dX2_init_4
theorem mt_X5_init : xMth yX5_init cX5_init 1 none 0 := ⟨wd236, wd55, ⟨by decide, by decide, rfl⟩⟩
theorem ct_X5_init {w : xW} (l : Launch) (E : xE) (k0 : Nat) (σ : xS) : xMet l E yX5_init cX5_init 1 none { frames := 1, cells := 0, slots := 0, locals := 20 } [.ref (xqa E.2.2 k0)] w w σ (some (none, σ)) := by
  refine xMetG_of (by decide) (Nat.le_of_ble_eq_true rfl) (fun X hE hnm Cg => ?_)
  subst hE
  refine x_aload_n (Cg 0 0 (Nat.le_of_ble_eq_true rfl) (Nat.le_of_ble_eq_true rfl)) 0 dX5_init_0 rfl rfl ?_
  refine x_objI (Cg 0 0 (Nat.le_of_ble_eq_true rfl) (Nat.le_of_ble_eq_true rfl)) wd237 (Nat.le_of_ble_eq_true rfl) (by decide) (Nat.le_of_ble_eq_true rfl) dX5_init_1 ?_
  exact x_vretG Cg (Nat.le_of_ble_eq_true rfl) (Nat.le_of_ble_eq_true rfl) dX5_init_4
theorem mt_X6_init : xMth yX6_init cX6_init 1 none 0 := ⟨wd209, wd54, ⟨by decide, by decide, rfl⟩⟩
theorem ct_X6_init {w : xW} (l : Launch) (E : xE) (k0 : Nat) (σ : xS) : xMet l E yX6_init cX6_init 1 none { frames := 1, cells := 0, slots := 0, locals := 20 } [.ref (xqa E.2.2 k0)] w w σ (some (none, σ)) := by
  refine xMetG_of (by decide) (Nat.le_of_ble_eq_true rfl) (fun X hE hnm Cg => ?_)
  subst hE
  refine x_aload_n (Cg 0 0 (Nat.le_of_ble_eq_true rfl) (Nat.le_of_ble_eq_true rfl)) 0 dX6_init_0 rfl rfl ?_
  refine x_objI (Cg 0 0 (Nat.le_of_ble_eq_true rfl) (Nat.le_of_ble_eq_true rfl)) wd210 (Nat.le_of_ble_eq_true rfl) (by decide) (Nat.le_of_ble_eq_true rfl) dX6_init_1 ?_
  exact x_vretG Cg (Nat.le_of_ble_eq_true rfl) (Nat.le_of_ble_eq_true rfl) dX6_init_4
theorem mt_X10_init : xMth yX10_init cX10_init 1 none 0 := ⟨wd98, wd51, ⟨by decide, by decide, rfl⟩⟩
theorem rq3 : ∀ k j, 3 ≤ k → k < 4 → rfs k j = true → (k = 3 ∧ j = 0) := fun k j a b c => of_decide_eq_true (rq_of (lo := 3) (hi := 4) (P := fun k j => decide ((k = 3 ∧ j = 0))) (by decide +kernel) k j a b c)
set_option maxHeartbeats 4000000 in
set_option maxRecDepth 100000 in
theorem ct_X10_init (l : Launch) (E : xE) (hfl : E.2.1.2.2 9 0 = 0) {h : Nat → Nat → Bool} (hh : hlow 3 h) {σ : xS} (hz0 : ∀ k j, 2 < k → σ k j = 0) : xMet l E yX10_init cX10_init 1 none { frames := 1, cells := 1, slots := 0, locals := 20 } [.ref (xqa E.2.2 3)] (wP 4 h) (wP 5 (hR 3 4 h)) σ (some (none, σ)) := by
  refine xMetG_of (by decide) (Nat.le_of_ble_eq_true rfl) (fun X hE hnm Cg => ?_)
  subst hE
  have hh1 := hlow_le hh (Nat.le_succ 3)
  refine x_aload_n (Cg 0 0 (Nat.le_of_ble_eq_true rfl) (Nat.le_of_ble_eq_true rfl)) 0 dX10_init_0 rfl rfl ?_
  refine x_objI (Cg 0 0 (Nat.le_of_ble_eq_true rfl) (Nat.le_of_ble_eq_true rfl)) wd99 (Nat.le_of_ble_eq_true rfl) (Nat.le_of_ble_eq_true rfl) (Nat.le_of_ble_eq_true rfl) dX10_init_1 ?_
  refine x_aload_n (Cg 0 0 (Nat.le_of_ble_eq_true rfl) (Nat.le_of_ble_eq_true rfl)) 0 dX10_init_4 rfl rfl ?_
  refine x_iconst (Cg 0 0 (Nat.le_of_ble_eq_true rfl) (Nat.le_of_ble_eq_true rfl)) (0) dX10_init_5 rfl ?_
  refine x_newA (m := 4) (by decide) Cg (atype := .byte) (q := 2) (n := 0) (c := 216) (by decide) rfl (fun j hj => absurd hj (Nat.not_lt_zero j)) hfl wdA2 rfl rfl (by decide) dX10_init_6 (Nat.le_of_ble_eq_true rfl) (Nat.le_of_ble_eq_true rfl) ?_
  refine x_putR Cg (k0 := 3) (j := 0) (a := 216) (σ' := σ) ⟨(Nat.le_of_ble_eq_true rfl), (Nat.le_of_ble_eq_true rfl)⟩ cls_X10 (by decide) rfl (by decide) wd100 rfl (Or.inl rfl) rfl (by rw [hz0 _ _ (by decide)]; rfl) (fun _ _ _ => rfl) dX10_init_8 ?_
  have hh2 := hlow_S (k0 := 3) (j := 0) hh1 (by decide)
  refine x_wR (h := h) (lo := 3) (hi := 4) (by decide) (fun k j a1 a2 a3 => ?_) (fun k j a1 => ?_) ?_
  · have a4 := rq3 k j a1 a2 a3
    obtain ⟨rfl, rfl⟩ := a4; simp [hS, hM, hR]
  · rw [hS_ne (by omega)]
  · exact x_vretG Cg (Nat.le_of_ble_eq_true rfl) (Nat.le_of_ble_eq_true rfl) dX10_init_11
theorem mt_X7_init : xMth yX7_init cX7_init 1 none 0 := ⟨wd92, wd50, ⟨by decide, by decide, rfl⟩⟩
theorem rq2 : ∀ k j, 2 ≤ k → k < 6 → rfs k j = true → (3 ≤ k ∧ k < 4) ∨ (k = 2 ∧ j = 0) ∨ (k = 2 ∧ j = 1) ∨ (k = 2 ∧ j = 2) := fun k j a b c => of_decide_eq_true (rq_of (lo := 2) (hi := 6) (P := fun k j => decide ((3 ≤ k ∧ k < 4) ∨ (k = 2 ∧ j = 0) ∨ (k = 2 ∧ j = 1) ∨ (k = 2 ∧ j = 2))) (by decide +kernel) k j a b c)
set_option maxHeartbeats 4000000 in
set_option maxRecDepth 100000 in
theorem ct_X7_init (l : Launch) (E : xE) (hfl : E.2.1.2.2 9 0 = 0) {h : Nat → Nat → Bool} (hh : hlow 2 h) {σ : xS} (hz0 : ∀ k j, 2 < k → σ k j = 0) : xMet l E yX7_init cX7_init 1 none { frames := 2, cells := 4, slots := 18, locals := 41 } [.ref (xqa E.2.2 2)] (wP 3 h) (wP 7 (hR 2 6 h)) σ (some (none, (xput σ 2 8 (-1)))) := by
  refine xMetG_of (by decide) (Nat.le_of_ble_eq_true rfl) (fun X hE hnm Cg => ?_)
  subst hE
  have hh1 := hlow_le hh (Nat.le_succ 2)
  refine x_aload_n (Cg 0 0 (Nat.le_of_ble_eq_true rfl) (Nat.le_of_ble_eq_true rfl)) 0 dX7_init_0 rfl rfl ?_
  refine x_objI (Cg 0 0 (Nat.le_of_ble_eq_true rfl) (Nat.le_of_ble_eq_true rfl)) wd93 (Nat.le_of_ble_eq_true rfl) (Nat.le_of_ble_eq_true rfl) (Nat.le_of_ble_eq_true rfl) dX7_init_1 ?_
  refine x_aload_n (Cg 0 0 (Nat.le_of_ble_eq_true rfl) (Nat.le_of_ble_eq_true rfl)) 0 dX7_init_4 rfl rfl ?_
  refine x_newO (m := 3) (by decide) Cg (c := 3) cls_X10 rfl (fun j _ => hh1 _ _ (Nat.le_refl _)) (fun j _ => hz0 _ _ (by decide)) (by decide) hfl wd94 wd95 wd51 dX7_init_5 (Nat.le_of_ble_eq_true rfl) (Nat.le_of_ble_eq_true rfl) ?_
  have hh2 := hlow_le hh1 (show 3 ≤ 4 by decide)
  refine x_dup (Cg 1 5 (Nat.le_of_ble_eq_true rfl) (Nat.le_of_ble_eq_true rfl)) dX7_init_8 rfl ?_
  refine x_callI Cg ⟨(Nat.le_of_ble_eq_true rfl), (Nat.le_of_ble_eq_true rfl)⟩ (ct_X10_init _ _ hfl hh1 (fun k j hk => hz0 k j (Nat.lt_of_le_of_lt (by decide) hk))) mt_X10_init rfl wd97 wd96 rfl ⟨(Nat.le_of_ble_eq_true rfl), (Nat.le_of_ble_eq_true rfl)⟩ rfl (Nat.le_of_ble_eq_true rfl) dX7_init_9 ?_
  have hh3 := hlow_R (lo := 3) (hi := 4) hh2 (by decide)
  refine x_putR Cg (k0 := 2) (j := 0) (a := 3) (σ' := σ) ⟨(Nat.le_of_ble_eq_true rfl), (Nat.le_of_ble_eq_true rfl)⟩ cls_X7 (by decide) rfl (by decide) wd119 rfl (Or.inr ⟨rfl, rfl, hnm⟩) rfl (rt_of ⟨rfl, by decide, by decide⟩) (fun _ _ _ => rfl) dX7_init_12 ?_
  have hh4 := hlow_S (k0 := 2) (j := 0) hh3 (by decide)
  refine x_aload_n (Cg 2 5 (Nat.le_of_ble_eq_true rfl) (Nat.le_of_ble_eq_true rfl)) 0 dX7_init_15 rfl rfl ?_
  refine x_bipush (Cg 2 5 (Nat.le_of_ble_eq_true rfl) (Nat.le_of_ble_eq_true rfl)) (6) dX7_init_16 rfl ?_
  refine x_newA (m := 5) (by decide) Cg (atype := .long) (q := 1) (n := 6) (c := 4) (by decide) rfl (fun j _ => hz0 _ _ (by decide)) hfl wdA1 rfl rfl (by decide) dX7_init_18 (Nat.le_of_ble_eq_true rfl) (Nat.le_of_ble_eq_true rfl) ?_
  have hh5 := hlow_le hh4 (show 4 ≤ 5 by decide)
  refine x_putR Cg (k0 := 2) (j := 1) (a := 4) (σ' := σ) ⟨(Nat.le_of_ble_eq_true rfl), (Nat.le_of_ble_eq_true rfl)⟩ cls_X7 (by decide) rfl (by decide) wd120 rfl (Or.inr ⟨rfl, rfl, hnm⟩) rfl (rt_of ⟨rfl, by decide, by decide⟩) (fun _ _ _ => rfl) dX7_init_20 ?_
  have hh6 := hlow_S (k0 := 2) (j := 1) hh5 (by decide)
  refine x_aload_n (Cg 3 11 (Nat.le_of_ble_eq_true rfl) (Nat.le_of_ble_eq_true rfl)) 0 dX7_init_23 rfl rfl ?_
  refine x_bipush (Cg 3 11 (Nat.le_of_ble_eq_true rfl) (Nat.le_of_ble_eq_true rfl)) (7) dX7_init_24 rfl ?_
  refine x_newA (m := 6) (by decide) Cg (atype := .long) (q := 1) (n := 7) (c := 5) (by decide) rfl (fun j _ => hz0 _ _ (by decide)) hfl wdA1 rfl rfl (by decide) dX7_init_26 (Nat.le_of_ble_eq_true rfl) (Nat.le_of_ble_eq_true rfl) ?_
  have hh7 := hlow_le hh6 (show 5 ≤ 6 by decide)
  refine x_putR Cg (k0 := 2) (j := 2) (a := 5) (σ' := σ) ⟨(Nat.le_of_ble_eq_true rfl), (Nat.le_of_ble_eq_true rfl)⟩ cls_X7 (by decide) rfl (by decide) wd121 rfl (Or.inr ⟨rfl, rfl, hnm⟩) rfl (rt_of ⟨rfl, by decide, by decide⟩) (fun _ _ _ => rfl) dX7_init_28 ?_
  have hh8 := hlow_S (k0 := 2) (j := 2) hh7 (by decide)
  refine x_aload_n (Cg 4 18 (Nat.le_of_ble_eq_true rfl) (Nat.le_of_ble_eq_true rfl)) 0 dX7_init_31 rfl rfl ?_
  refine x_iconst (Cg 4 18 (Nat.le_of_ble_eq_true rfl) (Nat.le_of_ble_eq_true rfl)) (-1) dX7_init_32 rfl ?_
  refine x_put (Cg 4 18 (Nat.le_of_ble_eq_true rfl) (Nat.le_of_ble_eq_true rfl)) 8 (-1) cls_X7 ⟨(by decide : xqi 2 < 7), rfl⟩ (by decide) wd128 rfl rfl rfl rfl (xV_pI rfl) dX7_init_33 ?_
  have hz1 : ∀ k j, 2 < k → (xput σ 2 8 (-1)) k j = 0 := fun k j hk => by rw [xput_ne (fun q => by have := q.1; omega)]; exact hz0 k j hk
  refine x_wR (h := h) (lo := 2) (hi := 6) (by decide) (fun k j a1 a2 a3 => ?_) (fun k j a1 => ?_) ?_
  · have a4 := rq2 k j a1 a2 a3
    rcases a4 with a4 | a4 | a4 | a4
    · simp [hS, hM, hR, a4.1, a4.2]
    · obtain ⟨rfl, rfl⟩ := a4; simp [hS, hM, hR]
    · obtain ⟨rfl, rfl⟩ := a4; simp [hS, hM, hR]
    · obtain ⟨rfl, rfl⟩ := a4; simp [hS, hM, hR]
  · rw [hS_ne (by omega), hS_ne (by omega), hS_ne (by omega), hR_ne (by omega)]
  · exact x_vretG Cg (Nat.le_of_ble_eq_true rfl) (Nat.le_of_ble_eq_true rfl) dX7_init_36
theorem mt_X3_init : xMth yX3_init cX3_init 1 none 0 := ⟨wd422, wd59, ⟨by decide, by decide, rfl⟩⟩
theorem rq114 : ∀ k j, 114 ≤ k → k < 118 → rfs k j = true → (k = 114 ∧ j = 0) ∨ (k = 114 ∧ j = 1) ∨ (k = 114 ∧ j = 2) := fun k j a b c => of_decide_eq_true (rq_of (lo := 114) (hi := 118) (P := fun k j => decide ((k = 114 ∧ j = 0) ∨ (k = 114 ∧ j = 1) ∨ (k = 114 ∧ j = 2))) (by decide +kernel) k j a b c)
set_option maxHeartbeats 4000000 in
set_option maxRecDepth 100000 in
theorem ct_X3_init (l : Launch) (E : xE) (hfl : E.2.1.2.2 9 0 = 0) {h : Nat → Nat → Bool} (hh : hlow 114 h) {σ : xS} (hz0 : ∀ k j, 114 < k → σ k j = 0) : xMet l E yX3_init cX3_init 1 none { frames := 1, cells := 3, slots := 36, locals := 20 } [.ref (xqa E.2.2 114)] (wP 116 h) (wP 119 (hR 114 118 h)) σ (some (none, σ)) := by
  refine xMetG_of (by decide) (Nat.le_of_ble_eq_true rfl) (fun X hE hnm Cg => ?_)
  subst hE
  have hh1 := hlow_le hh (Nat.le_succ 114)
  refine x_aload_n (Cg 0 0 (Nat.le_of_ble_eq_true rfl) (Nat.le_of_ble_eq_true rfl)) 0 dX3_init_0 rfl rfl ?_
  refine x_objI (Cg 0 0 (Nat.le_of_ble_eq_true rfl) (Nat.le_of_ble_eq_true rfl)) wd423 (Nat.le_of_ble_eq_true rfl) (Nat.le_of_ble_eq_true rfl) (Nat.le_of_ble_eq_true rfl) dX3_init_1 ?_
  refine x_aload_n (Cg 0 0 (Nat.le_of_ble_eq_true rfl) (Nat.le_of_ble_eq_true rfl)) 0 dX3_init_4 rfl rfl ?_
  refine x_bipush (Cg 0 0 (Nat.le_of_ble_eq_true rfl) (Nat.le_of_ble_eq_true rfl)) (12) dX3_init_5 rfl ?_
  refine x_newA (m := 116) (by decide) Cg (atype := .int) (q := 0) (n := 12) (c := 115) (by decide) rfl (fun j _ => hz0 _ _ (by decide)) hfl wdA0 rfl rfl (by decide) dX3_init_7 (Nat.le_of_ble_eq_true rfl) (Nat.le_of_ble_eq_true rfl) ?_
  have hh2 := hlow_le hh1 (show 115 ≤ 116 by decide)
  refine x_putR Cg (k0 := 114) (j := 0) (a := 115) (σ' := σ) ⟨(Nat.le_of_ble_eq_true rfl), (Nat.le_of_ble_eq_true rfl)⟩ cls_X3 (by decide) rfl (by decide) wd424 rfl (Or.inr ⟨rfl, rfl, hnm⟩) rfl (rt_of ⟨rfl, by decide, by decide⟩) (fun _ _ _ => rfl) dX3_init_9 ?_
  have hh3 := hlow_S (k0 := 114) (j := 0) hh2 (by decide)
  refine x_aload_n (Cg 1 12 (Nat.le_of_ble_eq_true rfl) (Nat.le_of_ble_eq_true rfl)) 0 dX3_init_12 rfl rfl ?_
  refine x_bipush (Cg 1 12 (Nat.le_of_ble_eq_true rfl) (Nat.le_of_ble_eq_true rfl)) (12) dX3_init_13 rfl ?_
  refine x_newA (m := 117) (by decide) Cg (atype := .int) (q := 0) (n := 12) (c := 116) (by decide) rfl (fun j _ => hz0 _ _ (by decide)) hfl wdA0 rfl rfl (by decide) dX3_init_15 (Nat.le_of_ble_eq_true rfl) (Nat.le_of_ble_eq_true rfl) ?_
  have hh4 := hlow_le hh3 (show 116 ≤ 117 by decide)
  refine x_putR Cg (k0 := 114) (j := 1) (a := 116) (σ' := σ) ⟨(Nat.le_of_ble_eq_true rfl), (Nat.le_of_ble_eq_true rfl)⟩ cls_X3 (by decide) rfl (by decide) wd425 rfl (Or.inr ⟨rfl, rfl, hnm⟩) rfl (rt_of ⟨rfl, by decide, by decide⟩) (fun _ _ _ => rfl) dX3_init_17 ?_
  have hh5 := hlow_S (k0 := 114) (j := 1) hh4 (by decide)
  refine x_aload_n (Cg 2 24 (Nat.le_of_ble_eq_true rfl) (Nat.le_of_ble_eq_true rfl)) 0 dX3_init_20 rfl rfl ?_
  refine x_bipush (Cg 2 24 (Nat.le_of_ble_eq_true rfl) (Nat.le_of_ble_eq_true rfl)) (12) dX3_init_21 rfl ?_
  refine x_newA (m := 118) (by decide) Cg (atype := .int) (q := 0) (n := 12) (c := 117) (by decide) rfl (fun j _ => hz0 _ _ (by decide)) hfl wdA0 rfl rfl (by decide) dX3_init_23 (Nat.le_of_ble_eq_true rfl) (Nat.le_of_ble_eq_true rfl) ?_
  have hh6 := hlow_le hh5 (show 117 ≤ 118 by decide)
  refine x_putR Cg (k0 := 114) (j := 2) (a := 117) (σ' := σ) ⟨(Nat.le_of_ble_eq_true rfl), (Nat.le_of_ble_eq_true rfl)⟩ cls_X3 (by decide) rfl (by decide) wd426 rfl (Or.inr ⟨rfl, rfl, hnm⟩) rfl (rt_of ⟨rfl, by decide, by decide⟩) (fun _ _ _ => rfl) dX3_init_25 ?_
  have hh7 := hlow_S (k0 := 114) (j := 2) hh6 (by decide)
  refine x_wR (h := h) (lo := 114) (hi := 118) (by decide) (fun k j a1 a2 a3 => ?_) (fun k j a1 => ?_) ?_
  · have a4 := rq114 k j a1 a2 a3
    rcases a4 with a4 | a4 | a4
    · obtain ⟨rfl, rfl⟩ := a4; simp [hS, hM, hR]
    · obtain ⟨rfl, rfl⟩ := a4; simp [hS, hM, hR]
    · obtain ⟨rfl, rfl⟩ := a4; simp [hS, hM, hR]
  · rw [hS_ne (by omega), hS_ne (by omega), hS_ne (by omega)]
  · exact x_vretG Cg (Nat.le_of_ble_eq_true rfl) (Nat.le_of_ble_eq_true rfl) dX3_init_28
