/-! constructors: a bakery -/
theorem mt_X1_init : xMth yX1_init cX1_init 2 none 0 := ⟨wd153, wd52, ⟨by decide, by decide, rfl⟩⟩
theorem kEq {ρ : Type} {X : xX} {Qf : ρ → State → Prop} {w' : xW} {pc : Nat} {L : List (Nat × Value)} {st : List Value} {res : Option (Option Value × xS)} {o : Option ρ} {τ : xS} (h : res = some (none, τ)) (k : WO X Qf w' τ pc L st o) : xKK X Qf w' pc L st res o := fun r0 h0 => ⟨_, h, k r0 h0⟩
theorem rq6 : ∀ k j, 6 ≤ k → k < 60 → rfs k j = true → (k = 6 ∧ j = 4) ∨ (k = 7 ∧ j < 6) ∨ (k = 6 ∧ j = 6) ∨ (k = 14 ∧ j < 4) ∨ (k = 6 ∧ j = 12) ∨ (k = 19 ∧ j < 24) ∨ (k = 6 ∧ j = 10) ∨ (45 ≤ k ∧ k < 60) ∨ (k = 6 ∧ j = 9) := fun k j a b c => of_decide_eq_true (rq_of (lo := 6) (hi := 60) (P := fun k j => decide ((k = 6 ∧ j = 4) ∨ (k = 7 ∧ j < 6) ∨ (k = 6 ∧ j = 6) ∨ (k = 14 ∧ j < 4) ∨ (k = 6 ∧ j = 12) ∨ (k = 19 ∧ j < 24) ∨ (k = 6 ∧ j = 10) ∨ (45 ≤ k ∧ k < 60) ∨ (k = 6 ∧ j = 9))) (by decide +kernel) k j a b c)
set_option maxHeartbeats 4000000 in
set_option maxRecDepth 100000 in
theorem ct_X1_init_6 (l : Launch) (E : xE) (hfl : E.2.1.2.2 9 0 = 0) {h : Nat → Nat → Bool} (hh : hlow 6 h) {σ s1 s2 : xS} {n : Nat} (hz0 : ∀ k j, 6 < k → σ k j = 0) (hm1 : m_X1_clear 6 σ = some s1) (hm2 : m_X9_explore n (6 + 39) 0 (-1) s1 = some s2) : xMetO l E yX1_init cX1_init 2 none { frames := 3, cells := 53, slots := 1416, locals := 72 } [.ref (xqa E.2.2 6)] (wP 8 h) (wP 61 (hR 6 60 h)) σ (some (none, s2)) := by
  refine xMetO_of (by decide) (Nat.le_of_ble_eq_true rfl) (fun X hE hnm hAO Cg => ?_)
  subst hE
  have hh1 := hlow_le hh (Nat.le_succ 6)
  refine x_aload_n (Cg 0 0 (Nat.le_of_ble_eq_true rfl) (Nat.le_of_ble_eq_true rfl)) 0 dX1_init_0 rfl rfl ?_
  refine x_objI (Cg 0 0 (Nat.le_of_ble_eq_true rfl) (Nat.le_of_ble_eq_true rfl)) wd154 (Nat.le_of_ble_eq_true rfl) (Nat.le_of_ble_eq_true rfl) (Nat.le_of_ble_eq_true rfl) dX1_init_1 ?_
  refine x_aload_n (Cg 0 0 (Nat.le_of_ble_eq_true rfl) (Nat.le_of_ble_eq_true rfl)) 0 dX1_init_4 rfl rfl ?_
  refine x_bipush (Cg 0 0 (Nat.le_of_ble_eq_true rfl) (Nat.le_of_ble_eq_true rfl)) (6) dX1_init_5 rfl ?_
  refine x_newQ (m := 8) (by decide) Cg (q := 5) (n := 6) (c := 7) (by decide) rfl rfl (fun j _ => hh1 _ _ (Nat.le_refl _)) hfl wd155 (hAO.1) rfl (by decide) dX1_init_7 (Nat.le_of_ble_eq_true rfl) (Nat.le_of_ble_eq_true rfl) ?_
  have hh2 := hlow_le hh1 (show 7 ≤ 8 by decide)
  refine x_putR Cg (k0 := 6) (j := 4) (a := 7) (σ' := σ) ⟨(Nat.le_of_ble_eq_true rfl), (Nat.le_of_ble_eq_true rfl)⟩ cls_X1 (by decide) rfl (by decide) wd349 rfl (Or.inr ⟨rfl, rfl, hnm⟩) rfl (rt_of ⟨rfl, by decide, by decide⟩) (fun _ _ _ => rfl) dX1_init_10 ?_
  have hh3 := hlow_S (k0 := 6) (j := 4) hh2 (by decide)
  refine x_iconst (Cg 1 6 (Nat.le_of_ble_eq_true rfl) (Nat.le_of_ble_eq_true rfl)) (0) dX1_init_13 rfl ?_
  refine x_istore_n (L' := [(1, _), (0, _)]) (Cg 1 6 (Nat.le_of_ble_eq_true rfl) (Nat.le_of_ble_eq_true rfl)) dX1_init_14 rfl (by decide) rfl ?_
  refine lq_X1_1_6 (k0 := 1) (z0 := 6) Cg hfl hh3 (by simp [hS, hM, hR]) hz0 (by decide) (by decide) ?_
  have hh4 := hlow_M (k0 := 7) (n := 6) (hlow_le hh3 (show 8 ≤ 14 by decide)) (by decide)
  refine x_pick [1] (L' := [(0, .ref (xqa (xXE X).2.2 6))]) rfl ?_
  refine x_aload_n (Cg 7 66 (Nat.le_of_ble_eq_true rfl) (Nat.le_of_ble_eq_true rfl)) 0 dX1_init_40 rfl rfl ?_
  refine x_iconst (Cg 7 66 (Nat.le_of_ble_eq_true rfl) (Nat.le_of_ble_eq_true rfl)) (4) dX1_init_41 rfl ?_
  refine x_newQ (m := 15) (by decide) Cg (q := 6) (n := 4) (c := 14) (by decide) rfl rfl (fun j _ => hh4 _ _ (Nat.le_refl _)) hfl wd204 (hAO.2.1) rfl (by decide) dX1_init_42 (Nat.le_of_ble_eq_true rfl) (Nat.le_of_ble_eq_true rfl) ?_
  have hh5 := hlow_le hh4 (show 14 ≤ 15 by decide)
  refine x_putR Cg (k0 := 6) (j := 6) (a := 14) (σ' := σ) ⟨(Nat.le_of_ble_eq_true rfl), (Nat.le_of_ble_eq_true rfl)⟩ cls_X1 (by decide) rfl (by decide) wd356 rfl (Or.inr ⟨rfl, rfl, hnm⟩) rfl (rt_of ⟨rfl, by decide, by decide⟩) (fun _ _ _ => rfl) dX1_init_45 ?_
  have hh6 := hlow_S (k0 := 6) (j := 6) hh5 (by decide)
  refine x_iconst (Cg 8 70 (Nat.le_of_ble_eq_true rfl) (Nat.le_of_ble_eq_true rfl)) (0) dX1_init_48 rfl ?_
  refine x_istore_n (L' := [(1, _), (0, _)]) (Cg 8 70 (Nat.le_of_ble_eq_true rfl) (Nat.le_of_ble_eq_true rfl)) dX1_init_49 rfl (by decide) rfl ?_
  refine lq_X1_2_6 (k0 := 8) (z0 := 70) Cg hfl hh6 (by simp [hS, hM, hR]) hz0 (by decide) (by decide) ?_
  have hh7 := hlow_M (k0 := 14) (n := 4) (hlow_le hh6 (show 15 ≤ 19 by decide)) (by decide)
  refine x_pick [1] (L' := [(0, .ref (xqa (xXE X).2.2 6))]) rfl ?_
  refine x_aload_n (Cg 12 86 (Nat.le_of_ble_eq_true rfl) (Nat.le_of_ble_eq_true rfl)) 0 dX1_init_74 rfl rfl ?_
  refine x_bipush (Cg 12 86 (Nat.le_of_ble_eq_true rfl) (Nat.le_of_ble_eq_true rfl)) (24) dX1_init_75 rfl ?_
  refine x_newQ (m := 20) (by decide) Cg (q := 7) (n := 24) (c := 19) (by decide) rfl rfl (fun j _ => hh7 _ _ (Nat.le_refl _)) hfl wd231 (hAO.2.2.1) rfl (by decide) dX1_init_77 (Nat.le_of_ble_eq_true rfl) (Nat.le_of_ble_eq_true rfl) ?_
  have hh8 := hlow_le hh7 (show 19 ≤ 20 by decide)
  refine x_putR Cg (k0 := 6) (j := 12) (a := 19) (σ' := σ) ⟨(Nat.le_of_ble_eq_true rfl), (Nat.le_of_ble_eq_true rfl)⟩ cls_X1 (by decide) rfl (by decide) wd377 rfl (Or.inr ⟨rfl, rfl, hnm⟩) rfl (rt_of ⟨rfl, by decide, by decide⟩) (fun _ _ _ => rfl) dX1_init_80 ?_
  have hh9 := hlow_S (k0 := 6) (j := 12) hh8 (by decide)
  refine x_iconst (Cg 13 110 (Nat.le_of_ble_eq_true rfl) (Nat.le_of_ble_eq_true rfl)) (0) dX1_init_83 rfl ?_
  refine x_istore_n (L' := [(1, _), (0, _)]) (Cg 13 110 (Nat.le_of_ble_eq_true rfl) (Nat.le_of_ble_eq_true rfl)) dX1_init_84 rfl (by decide) rfl ?_
  refine lq_X1_3_6 (k0 := 13) (z0 := 110) Cg hfl hh9 (by simp [hS, hM, hR]) hz0 (by decide) (by decide) ?_
  have hh10 := hlow_M (k0 := 19) (n := 24) (hlow_le hh9 (show 20 ≤ 44 by decide)) (by decide)
  refine x_pick [1] (L' := [(0, .ref (xqa (xXE X).2.2 6))]) rfl ?_
  refine x_aload_n (Cg 37 230 (Nat.le_of_ble_eq_true rfl) (Nat.le_of_ble_eq_true rfl)) 0 dX1_init_110 rfl rfl ?_
  refine x_iconst (Cg 37 230 (Nat.le_of_ble_eq_true rfl) (Nat.le_of_ble_eq_true rfl)) (3) dX1_init_111 rfl ?_
  refine x_newA (m := 45) (by decide) Cg (atype := .int) (q := 0) (n := 3) (c := 44) (by decide) rfl (fun j _ => hz0 _ _ (by decide)) hfl wdA0 rfl rfl (by decide) dX1_init_112 (Nat.le_of_ble_eq_true rfl) (Nat.le_of_ble_eq_true rfl) ?_
  have hh11 := hlow_le hh10 (show 44 ≤ 45 by decide)
  refine x_putR Cg (k0 := 6) (j := 10) (a := 44) (σ' := σ) ⟨(Nat.le_of_ble_eq_true rfl), (Nat.le_of_ble_eq_true rfl)⟩ cls_X1 (by decide) rfl (by decide) wd371 rfl (Or.inr ⟨rfl, rfl, hnm⟩) rfl (rt_of ⟨rfl, by decide, by decide⟩) (fun _ _ _ => rfl) dX1_init_114 ?_
  have hh12 := hlow_S (k0 := 6) (j := 10) hh11 (by decide)
  refine x_aload_n (Cg 38 233 (Nat.le_of_ble_eq_true rfl) (Nat.le_of_ble_eq_true rfl)) 0 dX1_init_117 rfl rfl ?_
  refine x_newO (m := 46) (by decide) Cg (c := 45) cls_X9 rfl (fun j _ => hh12 _ _ (Nat.le_refl _)) (fun j _ => hz0 _ _ (by decide)) (by decide) hfl wd267 wd268 wd56 dX1_init_118 (Nat.le_of_ble_eq_true rfl) (Nat.le_of_ble_eq_true rfl) ?_
  have hh13 := hlow_le hh12 (show 45 ≤ 46 by decide)
  refine x_dup (Cg 39 240 (Nat.le_of_ble_eq_true rfl) (Nat.le_of_ble_eq_true rfl)) dX1_init_121 rfl ?_
  refine x_callIO Cg hAO ⟨(Nat.le_of_ble_eq_true rfl), (Nat.le_of_ble_eq_true rfl)⟩ (ct_X9_init_45 _ _ hfl hh12 (fun k j hk => hz0 k j (Nat.lt_of_le_of_lt (by decide) hk))) mt_X9_init rfl wd270 wd269 rfl ⟨(Nat.le_of_ble_eq_true rfl), (Nat.le_of_ble_eq_true rfl)⟩ rfl (Nat.le_of_ble_eq_true rfl) dX1_init_122 ?_
  have hh14 := hlow_R (lo := 45) (hi := 60) hh13 (by decide)
  refine x_putR Cg (k0 := 6) (j := 9) (a := 45) (σ' := σ) ⟨(Nat.le_of_ble_eq_true rfl), (Nat.le_of_ble_eq_true rfl)⟩ cls_X1 (by decide) rfl (by decide) wd367 rfl (Or.inr ⟨rfl, rfl, hnm⟩) rfl (rt_of ⟨rfl, by decide, by decide⟩) (fun _ _ _ => rfl) dX1_init_125 ?_
  have hh15 := hlow_S (k0 := 6) (j := 9) hh14 (by decide)
  refine x_wR (h := h) (lo := 6) (hi := 60) (by decide) (fun k j a1 a2 a3 => ?_) (fun k j a1 => ?_) ?_
  · have a4 := rq6 k j a1 a2 a3
    rcases a4 with a4 | a4 | a4 | a4 | a4 | a4 | a4 | a4 | a4
    · obtain ⟨rfl, rfl⟩ := a4; simp [hS, hM, hR]
    · obtain ⟨rfl, a5⟩ := a4; simp [hS, hM, hR, a5]
    · obtain ⟨rfl, rfl⟩ := a4; simp [hS, hM, hR]
    · obtain ⟨rfl, a5⟩ := a4; simp [hS, hM, hR, a5]
    · obtain ⟨rfl, rfl⟩ := a4; simp [hS, hM, hR]
    · obtain ⟨rfl, a5⟩ := a4; simp [hS, hM, hR, a5]
    · obtain ⟨rfl, rfl⟩ := a4; simp [hS, hM, hR]
    · simp [hS, hM, hR, a4.1, a4.2]
    · obtain ⟨rfl, rfl⟩ := a4; simp [hS, hM, hR]
  · rw [hS_ne (by omega), hR_ne (by omega), hS_ne (by omega), hM_ne (by omega), hS_ne (by omega), hM_ne (by omega), hS_ne (by omega), hM_ne (by omega), hS_ne (by omega)]
  · have hin : InW (wP 61 (hR 6 60 h)) 6 60 := wP_in (by decide) (fun k j b1 b2 => hR_eq ⟨b1, b2⟩)
    have hin2 : InW (wP 61 (hR 6 60 h)) (6 + 39) (6 + 39 + 15) := fun k b1 b2 => hin k (by omega) (by omega)
    refine x_aload_n (Cg 53 1416 (Nat.le_of_ble_eq_true rfl) (Nat.le_of_ble_eq_true rfl)) 0 dX1_init_128 rfl rfl ?_
    refine x_callV (Cg 53 1416 (Nat.le_of_ble_eq_true rfl) (Nat.le_of_ble_eq_true rfl)) (cg_X1_clear _ _ 6 σ (Or.inl rfl) hin) mt_X1_clear vr_X1_clear wd308 cls_X1 ⟨by show xqi 6 < 61; decide, rfl⟩ rfl ⟨rfl, rfl, (Nat.le_of_ble_eq_true rfl), (Nat.le_of_ble_eq_true rfl)⟩ rfl (Nat.le_of_ble_eq_true rfl) dX1_init_129 (kEq (τ := s1) (by rw [hm1]; rfl) ?_)
    refine x_aload_n (Cg 53 1416 (Nat.le_of_ble_eq_true rfl) (Nat.le_of_ble_eq_true rfl)) 0 dX1_init_132 rfl rfl ?_
    refine x_get (v := .ref (xqa (xXE X).2.2 (6 + 39))) (Cg 53 1416 (Nat.le_of_ble_eq_true rfl) (Nat.le_of_ble_eq_true rfl)) 9 cls_X1 ⟨by show xqi 6 < 61; decide, rfl⟩ (by decide) wd367 rfl (xV_r (wP_ref (hR_eq (by decide)) (rt_of ⟨rfl, by decide, by decide⟩)) rfl) dX1_init_133 ?_
    refine x_iconst (Cg 53 1416 (Nat.le_of_ble_eq_true rfl) (Nat.le_of_ble_eq_true rfl)) (0) dX1_init_136 rfl ?_
    refine x_iconst (Cg 53 1416 (Nat.le_of_ble_eq_true rfl) (Nat.le_of_ble_eq_true rfl)) (-1) dX1_init_137 rfl ?_
    refine x_callV (Cg 53 1416 (Nat.le_of_ble_eq_true rfl) (Nat.le_of_ble_eq_true rfl)) (cg_X9_explore _ _ n (6 + 39) 0 (-1) s1 (Or.inl rfl) hin2) mt_X9_explore vr_X9_explore wd312 cls_X9 ⟨by show xqi (6 + 39) < 61; decide, rfl⟩ rfl ⟨rfl, rfl, (Nat.le_of_ble_eq_true rfl), (Nat.le_of_ble_eq_true rfl)⟩ rfl (Nat.le_of_ble_eq_true rfl) dX1_init_138 (kEq (τ := s2) (by rw [hm2]; rfl) ?_)
    exact x_vretG Cg (Nat.le_of_ble_eq_true rfl) (Nat.le_of_ble_eq_true rfl) dX1_init_141
theorem rq60 : ∀ k j, 60 ≤ k → k < 114 → rfs k j = true → (k = 60 ∧ j = 4) ∨ (k = 61 ∧ j < 6) ∨ (k = 60 ∧ j = 6) ∨ (k = 68 ∧ j < 4) ∨ (k = 60 ∧ j = 12) ∨ (k = 73 ∧ j < 24) ∨ (k = 60 ∧ j = 10) ∨ (99 ≤ k ∧ k < 114) ∨ (k = 60 ∧ j = 9) := fun k j a b c => of_decide_eq_true (rq_of (lo := 60) (hi := 114) (P := fun k j => decide ((k = 60 ∧ j = 4) ∨ (k = 61 ∧ j < 6) ∨ (k = 60 ∧ j = 6) ∨ (k = 68 ∧ j < 4) ∨ (k = 60 ∧ j = 12) ∨ (k = 73 ∧ j < 24) ∨ (k = 60 ∧ j = 10) ∨ (99 ≤ k ∧ k < 114) ∨ (k = 60 ∧ j = 9))) (by decide +kernel) k j a b c)
set_option maxHeartbeats 4000000 in
set_option maxRecDepth 100000 in
theorem ct_X1_init_60 (l : Launch) (E : xE) (hfl : E.2.1.2.2 9 0 = 0) {h : Nat → Nat → Bool} (hh : hlow 60 h) {σ s1 s2 : xS} {n : Nat} (hz0 : ∀ k j, 60 < k → σ k j = 0) (hm1 : m_X1_clear 60 σ = some s1) (hm2 : m_X9_explore n (60 + 39) 0 (-1) s1 = some s2) : xMetO l E yX1_init cX1_init 2 none { frames := 3, cells := 53, slots := 1416, locals := 72 } [.ref (xqa E.2.2 60)] (wP 62 h) (wP 115 (hR 60 114 h)) σ (some (none, s2)) := by
  refine xMetO_of (by decide) (Nat.le_of_ble_eq_true rfl) (fun X hE hnm hAO Cg => ?_)
  subst hE
  have hh1 := hlow_le hh (Nat.le_succ 60)
  refine x_aload_n (Cg 0 0 (Nat.le_of_ble_eq_true rfl) (Nat.le_of_ble_eq_true rfl)) 0 dX1_init_0 rfl rfl ?_
  refine x_objI (Cg 0 0 (Nat.le_of_ble_eq_true rfl) (Nat.le_of_ble_eq_true rfl)) wd154 (Nat.le_of_ble_eq_true rfl) (Nat.le_of_ble_eq_true rfl) (Nat.le_of_ble_eq_true rfl) dX1_init_1 ?_
  refine x_aload_n (Cg 0 0 (Nat.le_of_ble_eq_true rfl) (Nat.le_of_ble_eq_true rfl)) 0 dX1_init_4 rfl rfl ?_
  refine x_bipush (Cg 0 0 (Nat.le_of_ble_eq_true rfl) (Nat.le_of_ble_eq_true rfl)) (6) dX1_init_5 rfl ?_
  refine x_newQ (m := 62) (by decide) Cg (q := 5) (n := 6) (c := 61) (by decide) rfl rfl (fun j _ => hh1 _ _ (Nat.le_refl _)) hfl wd155 (hAO.1) rfl (by decide) dX1_init_7 (Nat.le_of_ble_eq_true rfl) (Nat.le_of_ble_eq_true rfl) ?_
  have hh2 := hlow_le hh1 (show 61 ≤ 62 by decide)
  refine x_putR Cg (k0 := 60) (j := 4) (a := 61) (σ' := σ) ⟨(Nat.le_of_ble_eq_true rfl), (Nat.le_of_ble_eq_true rfl)⟩ cls_X1 (by decide) rfl (by decide) wd349 rfl (Or.inr ⟨rfl, rfl, hnm⟩) rfl (rt_of ⟨rfl, by decide, by decide⟩) (fun _ _ _ => rfl) dX1_init_10 ?_
  have hh3 := hlow_S (k0 := 60) (j := 4) hh2 (by decide)
  refine x_iconst (Cg 1 6 (Nat.le_of_ble_eq_true rfl) (Nat.le_of_ble_eq_true rfl)) (0) dX1_init_13 rfl ?_
  refine x_istore_n (L' := [(1, _), (0, _)]) (Cg 1 6 (Nat.le_of_ble_eq_true rfl) (Nat.le_of_ble_eq_true rfl)) dX1_init_14 rfl (by decide) rfl ?_
  refine lq_X1_1_60 (k0 := 1) (z0 := 6) Cg hfl hh3 (by simp [hS, hM, hR]) hz0 (by decide) (by decide) ?_
  have hh4 := hlow_M (k0 := 61) (n := 6) (hlow_le hh3 (show 62 ≤ 68 by decide)) (by decide)
  refine x_pick [1] (L' := [(0, .ref (xqa (xXE X).2.2 60))]) rfl ?_
  refine x_aload_n (Cg 7 66 (Nat.le_of_ble_eq_true rfl) (Nat.le_of_ble_eq_true rfl)) 0 dX1_init_40 rfl rfl ?_
  refine x_iconst (Cg 7 66 (Nat.le_of_ble_eq_true rfl) (Nat.le_of_ble_eq_true rfl)) (4) dX1_init_41 rfl ?_
  refine x_newQ (m := 69) (by decide) Cg (q := 6) (n := 4) (c := 68) (by decide) rfl rfl (fun j _ => hh4 _ _ (Nat.le_refl _)) hfl wd204 (hAO.2.1) rfl (by decide) dX1_init_42 (Nat.le_of_ble_eq_true rfl) (Nat.le_of_ble_eq_true rfl) ?_
  have hh5 := hlow_le hh4 (show 68 ≤ 69 by decide)
  refine x_putR Cg (k0 := 60) (j := 6) (a := 68) (σ' := σ) ⟨(Nat.le_of_ble_eq_true rfl), (Nat.le_of_ble_eq_true rfl)⟩ cls_X1 (by decide) rfl (by decide) wd356 rfl (Or.inr ⟨rfl, rfl, hnm⟩) rfl (rt_of ⟨rfl, by decide, by decide⟩) (fun _ _ _ => rfl) dX1_init_45 ?_
  have hh6 := hlow_S (k0 := 60) (j := 6) hh5 (by decide)
  refine x_iconst (Cg 8 70 (Nat.le_of_ble_eq_true rfl) (Nat.le_of_ble_eq_true rfl)) (0) dX1_init_48 rfl ?_
  refine x_istore_n (L' := [(1, _), (0, _)]) (Cg 8 70 (Nat.le_of_ble_eq_true rfl) (Nat.le_of_ble_eq_true rfl)) dX1_init_49 rfl (by decide) rfl ?_
  refine lq_X1_2_60 (k0 := 8) (z0 := 70) Cg hfl hh6 (by simp [hS, hM, hR]) hz0 (by decide) (by decide) ?_
  have hh7 := hlow_M (k0 := 68) (n := 4) (hlow_le hh6 (show 69 ≤ 73 by decide)) (by decide)
  refine x_pick [1] (L' := [(0, .ref (xqa (xXE X).2.2 60))]) rfl ?_
  refine x_aload_n (Cg 12 86 (Nat.le_of_ble_eq_true rfl) (Nat.le_of_ble_eq_true rfl)) 0 dX1_init_74 rfl rfl ?_
  refine x_bipush (Cg 12 86 (Nat.le_of_ble_eq_true rfl) (Nat.le_of_ble_eq_true rfl)) (24) dX1_init_75 rfl ?_
  refine x_newQ (m := 74) (by decide) Cg (q := 7) (n := 24) (c := 73) (by decide) rfl rfl (fun j _ => hh7 _ _ (Nat.le_refl _)) hfl wd231 (hAO.2.2.1) rfl (by decide) dX1_init_77 (Nat.le_of_ble_eq_true rfl) (Nat.le_of_ble_eq_true rfl) ?_
  have hh8 := hlow_le hh7 (show 73 ≤ 74 by decide)
  refine x_putR Cg (k0 := 60) (j := 12) (a := 73) (σ' := σ) ⟨(Nat.le_of_ble_eq_true rfl), (Nat.le_of_ble_eq_true rfl)⟩ cls_X1 (by decide) rfl (by decide) wd377 rfl (Or.inr ⟨rfl, rfl, hnm⟩) rfl (rt_of ⟨rfl, by decide, by decide⟩) (fun _ _ _ => rfl) dX1_init_80 ?_
  have hh9 := hlow_S (k0 := 60) (j := 12) hh8 (by decide)
  refine x_iconst (Cg 13 110 (Nat.le_of_ble_eq_true rfl) (Nat.le_of_ble_eq_true rfl)) (0) dX1_init_83 rfl ?_
  refine x_istore_n (L' := [(1, _), (0, _)]) (Cg 13 110 (Nat.le_of_ble_eq_true rfl) (Nat.le_of_ble_eq_true rfl)) dX1_init_84 rfl (by decide) rfl ?_
  refine lq_X1_3_60 (k0 := 13) (z0 := 110) Cg hfl hh9 (by simp [hS, hM, hR]) hz0 (by decide) (by decide) ?_
  have hh10 := hlow_M (k0 := 73) (n := 24) (hlow_le hh9 (show 74 ≤ 98 by decide)) (by decide)
  refine x_pick [1] (L' := [(0, .ref (xqa (xXE X).2.2 60))]) rfl ?_
  refine x_aload_n (Cg 37 230 (Nat.le_of_ble_eq_true rfl) (Nat.le_of_ble_eq_true rfl)) 0 dX1_init_110 rfl rfl ?_
  refine x_iconst (Cg 37 230 (Nat.le_of_ble_eq_true rfl) (Nat.le_of_ble_eq_true rfl)) (3) dX1_init_111 rfl ?_
  refine x_newA (m := 99) (by decide) Cg (atype := .int) (q := 0) (n := 3) (c := 98) (by decide) rfl (fun j _ => hz0 _ _ (by decide)) hfl wdA0 rfl rfl (by decide) dX1_init_112 (Nat.le_of_ble_eq_true rfl) (Nat.le_of_ble_eq_true rfl) ?_
  have hh11 := hlow_le hh10 (show 98 ≤ 99 by decide)
  refine x_putR Cg (k0 := 60) (j := 10) (a := 98) (σ' := σ) ⟨(Nat.le_of_ble_eq_true rfl), (Nat.le_of_ble_eq_true rfl)⟩ cls_X1 (by decide) rfl (by decide) wd371 rfl (Or.inr ⟨rfl, rfl, hnm⟩) rfl (rt_of ⟨rfl, by decide, by decide⟩) (fun _ _ _ => rfl) dX1_init_114 ?_
  have hh12 := hlow_S (k0 := 60) (j := 10) hh11 (by decide)
  refine x_aload_n (Cg 38 233 (Nat.le_of_ble_eq_true rfl) (Nat.le_of_ble_eq_true rfl)) 0 dX1_init_117 rfl rfl ?_
  refine x_newO (m := 100) (by decide) Cg (c := 99) cls_X9 rfl (fun j _ => hh12 _ _ (Nat.le_refl _)) (fun j _ => hz0 _ _ (by decide)) (by decide) hfl wd267 wd268 wd56 dX1_init_118 (Nat.le_of_ble_eq_true rfl) (Nat.le_of_ble_eq_true rfl) ?_
  have hh13 := hlow_le hh12 (show 99 ≤ 100 by decide)
  refine x_dup (Cg 39 240 (Nat.le_of_ble_eq_true rfl) (Nat.le_of_ble_eq_true rfl)) dX1_init_121 rfl ?_
  refine x_callIO Cg hAO ⟨(Nat.le_of_ble_eq_true rfl), (Nat.le_of_ble_eq_true rfl)⟩ (ct_X9_init_99 _ _ hfl hh12 (fun k j hk => hz0 k j (Nat.lt_of_le_of_lt (by decide) hk))) mt_X9_init rfl wd270 wd269 rfl ⟨(Nat.le_of_ble_eq_true rfl), (Nat.le_of_ble_eq_true rfl)⟩ rfl (Nat.le_of_ble_eq_true rfl) dX1_init_122 ?_
  have hh14 := hlow_R (lo := 99) (hi := 114) hh13 (by decide)
  refine x_putR Cg (k0 := 60) (j := 9) (a := 99) (σ' := σ) ⟨(Nat.le_of_ble_eq_true rfl), (Nat.le_of_ble_eq_true rfl)⟩ cls_X1 (by decide) rfl (by decide) wd367 rfl (Or.inr ⟨rfl, rfl, hnm⟩) rfl (rt_of ⟨rfl, by decide, by decide⟩) (fun _ _ _ => rfl) dX1_init_125 ?_
  have hh15 := hlow_S (k0 := 60) (j := 9) hh14 (by decide)
  refine x_wR (h := h) (lo := 60) (hi := 114) (by decide) (fun k j a1 a2 a3 => ?_) (fun k j a1 => ?_) ?_
  · have a4 := rq60 k j a1 a2 a3
    rcases a4 with a4 | a4 | a4 | a4 | a4 | a4 | a4 | a4 | a4
    · obtain ⟨rfl, rfl⟩ := a4; simp [hS, hM, hR]
    · obtain ⟨rfl, a5⟩ := a4; simp [hS, hM, hR, a5]
    · obtain ⟨rfl, rfl⟩ := a4; simp [hS, hM, hR]
    · obtain ⟨rfl, a5⟩ := a4; simp [hS, hM, hR, a5]
    · obtain ⟨rfl, rfl⟩ := a4; simp [hS, hM, hR]
    · obtain ⟨rfl, a5⟩ := a4; simp [hS, hM, hR, a5]
    · obtain ⟨rfl, rfl⟩ := a4; simp [hS, hM, hR]
    · simp [hS, hM, hR, a4.1, a4.2]
    · obtain ⟨rfl, rfl⟩ := a4; simp [hS, hM, hR]
  · rw [hS_ne (by omega), hR_ne (by omega), hS_ne (by omega), hM_ne (by omega), hS_ne (by omega), hM_ne (by omega), hS_ne (by omega), hM_ne (by omega), hS_ne (by omega)]
  · have hin : InW (wP 115 (hR 60 114 h)) 60 114 := wP_in (by decide) (fun k j b1 b2 => hR_eq ⟨b1, b2⟩)
    have hin2 : InW (wP 115 (hR 60 114 h)) (60 + 39) (60 + 39 + 15) := fun k b1 b2 => hin k (by omega) (by omega)
    refine x_aload_n (Cg 53 1416 (Nat.le_of_ble_eq_true rfl) (Nat.le_of_ble_eq_true rfl)) 0 dX1_init_128 rfl rfl ?_
    refine x_callV (Cg 53 1416 (Nat.le_of_ble_eq_true rfl) (Nat.le_of_ble_eq_true rfl)) (cg_X1_clear _ _ 60 σ (Or.inr rfl) hin) mt_X1_clear vr_X1_clear wd308 cls_X1 ⟨by show xqi 60 < 115; decide, rfl⟩ rfl ⟨rfl, rfl, (Nat.le_of_ble_eq_true rfl), (Nat.le_of_ble_eq_true rfl)⟩ rfl (Nat.le_of_ble_eq_true rfl) dX1_init_129 (kEq (τ := s1) (by rw [hm1]; rfl) ?_)
    refine x_aload_n (Cg 53 1416 (Nat.le_of_ble_eq_true rfl) (Nat.le_of_ble_eq_true rfl)) 0 dX1_init_132 rfl rfl ?_
    refine x_get (v := .ref (xqa (xXE X).2.2 (60 + 39))) (Cg 53 1416 (Nat.le_of_ble_eq_true rfl) (Nat.le_of_ble_eq_true rfl)) 9 cls_X1 ⟨by show xqi 60 < 115; decide, rfl⟩ (by decide) wd367 rfl (xV_r (wP_ref (hR_eq (by decide)) (rt_of ⟨rfl, by decide, by decide⟩)) rfl) dX1_init_133 ?_
    refine x_iconst (Cg 53 1416 (Nat.le_of_ble_eq_true rfl) (Nat.le_of_ble_eq_true rfl)) (0) dX1_init_136 rfl ?_
    refine x_iconst (Cg 53 1416 (Nat.le_of_ble_eq_true rfl) (Nat.le_of_ble_eq_true rfl)) (-1) dX1_init_137 rfl ?_
    refine x_callV (Cg 53 1416 (Nat.le_of_ble_eq_true rfl) (Nat.le_of_ble_eq_true rfl)) (cg_X9_explore _ _ n (60 + 39) 0 (-1) s1 (Or.inr rfl) hin2) mt_X9_explore vr_X9_explore wd312 cls_X9 ⟨by show xqi (60 + 39) < 115; decide, rfl⟩ rfl ⟨rfl, rfl, (Nat.le_of_ble_eq_true rfl), (Nat.le_of_ble_eq_true rfl)⟩ rfl (Nat.le_of_ble_eq_true rfl) dX1_init_138 (kEq (τ := s2) (by rw [hm2]; rfl) ?_)
    exact x_vretG Cg (Nat.le_of_ble_eq_true rfl) (Nat.le_of_ble_eq_true rfl) dX1_init_141
