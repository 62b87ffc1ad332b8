/-! constructors: the class -/
theorem mt_X12_init : xMth yX12_init cX12_init 1 none 0 := ⟨wd84, wd49, ⟨by decide, by decide, rfl⟩⟩
theorem WW_none2 {k j : Nat} {v : Int} (hk : ¬ (k = 0 ∧ (j = 3 ∨ j = 4))) (h : rfs k j = false) : WW.2.2 k j v = none := by
  have h0 : (rtL.getD k []).getD j 0 = 0 := by
    unfold rfs at h
    rw [decide_eq_false_iff_not] at h
    exact Classical.not_not.mp h
  have h3 : ¬ (k = 3 ∧ j = 0) := fun q => by
    rw [q.1, q.2] at h
    exact absurd h (by decide)
  show (if k = 0 ∧ (j = 3 ∨ j = 4) then some (bkA v) else if k = 3 ∧ j = 0 then some (txA v) else match (rtL.getD k []).getD j 0 with
    | 0 => none
    | a + 1 => some (a + 1)) = none
  rw [if_neg hk, if_neg h3, h0]
theorem x_wR0 {ρ : Type} {X : xX} {Qf : ρ → State → Prop} {σ : xS} {pc c hi : Nat} {h h' : Nat → Nat → Bool} {L : List (Nat × Value)} {st : List Value} {o : Option ρ} (hq : ∀ k j, k < hi → rfs k j = true → h' k j = true) (h3 : h' 0 3 = true) (h4 : h' 0 4 = true) (ho : ∀ k j, ¬ (0 ≤ k ∧ k < hi) → h' k j = h k j) (kk : WO X Qf (wP c (hR 0 hi h)) σ pc L st o) : WO X Qf (wP c h') σ pc L st o := by
  refine x_world (w := wP c h') (w' := wP c (hR 0 hi h)) rfl (fun k hk => ⟨rfl, fun j v => ?_⟩) kk
  show (if hR 0 hi h k j = true then WW.2.2 k j v else none) = (if h' k j = true then WW.2.2 k j v else none)
  by_cases d : 0 ≤ k ∧ k < hi
  · have e : hR 0 hi h k j = true := if_pos d
    rw [e]
    by_cases f : rfs k j = true
    · rw [hq k j d.2 f]
    · by_cases g : k = 0 ∧ (j = 3 ∨ j = 4)
      · obtain ⟨rfl, rfl | rfl⟩ := g
        · rw [h3]
        · rw [h4]
      · rw [WW_none2 g (by simpa using f)]
        simp
  · have e : hR 0 hi h k j = h k j := if_neg d
    rw [e, ho k j d]
theorem rq0 : ∀ k j, 0 ≤ k → k < 184 → rfs k j = true → (k = 0 ∧ j = 0) ∨ (2 ≤ k ∧ k < 6) ∨ (k = 0 ∧ j = 2) ∨ (6 ≤ k ∧ k < 60) ∨ (k = 0 ∧ j = 3) ∨ (60 ≤ k ∧ k < 114) ∨ (k = 0 ∧ j = 4) ∨ (114 ≤ k ∧ k < 118) ∨ (k = 0 ∧ j = 5) ∨ (118 ≤ k ∧ k < 139) ∨ (k = 0 ∧ j = 6) ∨ (139 ≤ k ∧ k < 151) ∨ (k = 0 ∧ j = 7) ∨ (151 ≤ k ∧ k < 172) ∨ (k = 0 ∧ j = 10) ∨ (172 ≤ k ∧ k < 184) ∨ (k = 0 ∧ j = 11) := fun k j a b c => of_decide_eq_true (rq_of (lo := 0) (hi := 184) (P := fun k j => decide ((k = 0 ∧ j = 0) ∨ (2 ≤ k ∧ k < 6) ∨ (k = 0 ∧ j = 2) ∨ (6 ≤ k ∧ k < 60) ∨ (k = 0 ∧ j = 3) ∨ (60 ≤ k ∧ k < 114) ∨ (k = 0 ∧ j = 4) ∨ (114 ≤ k ∧ k < 118) ∨ (k = 0 ∧ j = 5) ∨ (118 ≤ k ∧ k < 139) ∨ (k = 0 ∧ j = 6) ∨ (139 ≤ k ∧ k < 151) ∨ (k = 0 ∧ j = 7) ∨ (151 ≤ k ∧ k < 172) ∨ (k = 0 ∧ j = 10) ∨ (172 ≤ k ∧ k < 184) ∨ (k = 0 ∧ j = 11))) (by decide +kernel) k j a b c)
set_option maxHeartbeats 4000000 in
set_option maxRecDepth 100000 in
theorem ct_X12_init (l : Launch) (E : xE) (hfl : E.2.1.2.2 9 0 = 0) {h : Nat → Nat → Bool} (hh : hlow 0 h) {σ s1 s2 s3 s4 : xS} {n : Nat} (hz0 : ∀ k j, 0 < k → σ k j = 0) (hm1 : m_X1_clear 6 (xput σ 2 8 (-1)) = some s1) (hm2 : m_X9_explore n (6 + 39) 0 (-1) s1 = some s2) (hm3 : m_X1_clear 60 s2 = some s3) (hm4 : m_X9_explore n (60 + 39) 0 (-1) s3 = some s4) (hzA : ∀ k j, 59 < k → s2 k j = 0) (hzB : ∀ k j, 113 < k → s4 k j = 0) (h03 : s2 0 3 = 0) : xMetO l E yX12_init cX12_init 1 none { frames := 4, cells := 184, slots := 7403, locals := 93 } [.ref (xqa E.2.2 0)] (wP 1 h) (wP 185 (hR 0 184 h)) σ (some (none, xput s4 0 4 1)) := by
  refine xMetO_of (by decide) (Nat.le_of_ble_eq_true rfl) (fun X hE hnm hAO Cg => ?_)
  subst hE
  have hh1 := hlow_le hh (Nat.le_succ 0)
  refine x_aload_n (Cg 0 0 (Nat.le_of_ble_eq_true rfl) (Nat.le_of_ble_eq_true rfl)) 0 dX12_init_0 rfl rfl ?_
  refine x_objI (Cg 0 0 (Nat.le_of_ble_eq_true rfl) (Nat.le_of_ble_eq_true rfl)) wd85 (Nat.le_of_ble_eq_true rfl) (Nat.le_of_ble_eq_true rfl) (Nat.le_of_ble_eq_true rfl) dX12_init_1 ?_
  refine x_aload_n (Cg 0 0 (Nat.le_of_ble_eq_true rfl) (Nat.le_of_ble_eq_true rfl)) 0 dX12_init_4 rfl rfl ?_
  refine x_sipush (Cg 0 0 (Nat.le_of_ble_eq_true rfl) (Nat.le_of_ble_eq_true rfl)) (1600) dX12_init_5 rfl ?_
  refine x_newA (m := 1) (by decide) Cg (atype := .byte) (q := 2) (n := 1600) (c := 1) (by decide) rfl (fun j _ => hz0 _ _ (by decide)) hfl wdA2 rfl rfl (by decide) dX12_init_8 (Nat.le_of_ble_eq_true rfl) (Nat.le_of_ble_eq_true rfl) ?_
  have hh2 := hlow_le hh1 (show 1 ≤ 2 by decide)
  refine x_putR Cg (k0 := 0) (j := 0) (a := 1) (σ' := σ) ⟨(Nat.le_of_ble_eq_true rfl), (Nat.le_of_ble_eq_true rfl)⟩ cls_X12 (by decide) rfl (by decide) wd567 rfl (Or.inr ⟨rfl, rfl, hnm⟩) rfl (rfl) (fun _ _ _ => rfl) dX12_init_10 ?_
  have hh3 := hlow_S (k0 := 0) (j := 0) hh2 (by decide)
  refine x_aload_n (Cg 1 1600 (Nat.le_of_ble_eq_true rfl) (Nat.le_of_ble_eq_true rfl)) 0 dX12_init_13 rfl rfl ?_
  refine x_newO (m := 2) (by decide) Cg (c := 2) cls_X7 rfl (fun j _ => hh3 _ _ (Nat.le_refl _)) (fun j _ => hz0 _ _ (by decide)) (by decide) hfl wd88 wd89 wd50 dX12_init_14 (Nat.le_of_ble_eq_true rfl) (Nat.le_of_ble_eq_true rfl) ?_
  have hh4 := hlow_le hh3 (show 2 ≤ 3 by decide)
  refine x_dup (Cg 2 1609 (Nat.le_of_ble_eq_true rfl) (Nat.le_of_ble_eq_true rfl)) dX12_init_17 rfl ?_
  refine x_callI Cg ⟨(Nat.le_of_ble_eq_true rfl), (Nat.le_of_ble_eq_true rfl)⟩ (ct_X7_init _ _ hfl hh3 (fun k j hk => hz0 k j (Nat.lt_of_le_of_lt (by decide) hk))) mt_X7_init rfl wd91 wd90 rfl ⟨(Nat.le_of_ble_eq_true rfl), (Nat.le_of_ble_eq_true rfl)⟩ rfl (Nat.le_of_ble_eq_true rfl) dX12_init_18 ?_
  have hh5 := hlow_R (lo := 2) (hi := 6) hh4 (by decide)
  have hz1 : ∀ k j, 5 < k → (xput σ 2 8 (-1)) k j = 0 := fun k j hk => by rw [xput_ne (fun q => by have := q.1; omega)]; exact hz0 k j (by omega)
  refine x_putR Cg (k0 := 0) (j := 2) (a := 2) (σ' := (xput σ 2 8 (-1))) ⟨(Nat.le_of_ble_eq_true rfl), (Nat.le_of_ble_eq_true rfl)⟩ cls_X12 (by decide) rfl (by decide) wd569 rfl (Or.inr ⟨rfl, rfl, hnm⟩) rfl (rfl) (fun _ _ _ => rfl) dX12_init_21 ?_
  have hh6 := hlow_S (k0 := 0) (j := 2) hh5 (by decide)
  refine x_aload_n (Cg 6 1627 (Nat.le_of_ble_eq_true rfl) (Nat.le_of_ble_eq_true rfl)) 0 dX12_init_24 rfl rfl ?_
  refine x_newO (m := 7) (by decide) Cg (c := 6) cls_X1 rfl (fun j _ => hh6 _ _ (Nat.le_refl _)) (fun j _ => hz1 _ _ (by decide)) (by decide) hfl wd149 wd150 wd52 dX12_init_25 (Nat.le_of_ble_eq_true rfl) (Nat.le_of_ble_eq_true rfl) ?_
  have hh7 := hlow_le hh6 (show 6 ≤ 7 by decide)
  refine x_dup (Cg 7 1641 (Nat.le_of_ble_eq_true rfl) (Nat.le_of_ble_eq_true rfl)) dX12_init_28 rfl ?_
  refine x_callIO Cg hAO ⟨(Nat.le_of_ble_eq_true rfl), (Nat.le_of_ble_eq_true rfl)⟩ (ct_X1_init_6 _ _ hfl hh6 (fun k j hk => hz1 k j (Nat.lt_of_le_of_lt (by decide) hk)) hm1 hm2) mt_X1_init rfl wd152 wd151 rfl ⟨(Nat.le_of_ble_eq_true rfl), (Nat.le_of_ble_eq_true rfl)⟩ rfl (Nat.le_of_ble_eq_true rfl) dX12_init_29 ?_
  have hh8 := hlow_R (lo := 6) (hi := 60) hh7 (by decide)
  have hz2 := hzA
  refine x_putR Cg (k0 := 0) (j := 3) (a := 6) (σ' := s2) ⟨(Nat.le_of_ble_eq_true rfl), (Nat.le_of_ble_eq_true rfl)⟩ cls_X12 (by decide) rfl (by decide) wd570 rfl (Or.inl rfl) rfl (by rw [h03]; rfl) (fun _ _ _ => rfl) dX12_init_32 ?_
  have hh9 := hlow_S (k0 := 0) (j := 3) hh8 (by decide)
  refine x_aload_n (Cg 60 3057 (Nat.le_of_ble_eq_true rfl) (Nat.le_of_ble_eq_true rfl)) 0 dX12_init_35 rfl rfl ?_
  refine x_newO (m := 61) (by decide) Cg (c := 60) cls_X1 rfl (fun j _ => hh9 _ _ (Nat.le_refl _)) (fun j _ => hz2 _ _ (by decide)) (by decide) hfl wd149 wd150 wd52 dX12_init_36 (Nat.le_of_ble_eq_true rfl) (Nat.le_of_ble_eq_true rfl) ?_
  have hh10 := hlow_le hh9 (show 60 ≤ 61 by decide)
  refine x_dup (Cg 61 3071 (Nat.le_of_ble_eq_true rfl) (Nat.le_of_ble_eq_true rfl)) dX12_init_39 rfl ?_
  refine x_callIO Cg hAO ⟨(Nat.le_of_ble_eq_true rfl), (Nat.le_of_ble_eq_true rfl)⟩ (ct_X1_init_60 _ _ hfl hh9 (fun k j hk => hzA k j (Nat.lt_of_le_of_lt (by decide) hk)) hm3 hm4) mt_X1_init rfl wd152 wd151 rfl ⟨(Nat.le_of_ble_eq_true rfl), (Nat.le_of_ble_eq_true rfl)⟩ rfl (Nat.le_of_ble_eq_true rfl) dX12_init_40 ?_
  have hh11 := hlow_R (lo := 60) (hi := 114) hh10 (by decide)
  have hz3 := hzB
  refine x_putR Cg (k0 := 0) (j := 4) (a := 60) (σ' := (xput s4 0 4 1)) ⟨(Nat.le_of_ble_eq_true rfl), (Nat.le_of_ble_eq_true rfl)⟩ cls_X12 (by decide) rfl (by decide) wd571 rfl (Or.inl rfl) rfl (by rw [xput_eq]; rfl) (fun a i q => xput_ne q) dX12_init_43 ?_
  have hh12 := hlow_S (k0 := 0) (j := 4) hh11 (by decide)
  have hz4 : ∀ k j, 113 < k → (xput s4 0 4 1) k j = 0 := fun k j hk => by rw [xput_ne (fun q => by have := q.1; omega)]; exact hz3 k j hk
  refine x_aload_n (Cg 114 4487 (Nat.le_of_ble_eq_true rfl) (Nat.le_of_ble_eq_true rfl)) 0 dX12_init_46 rfl rfl ?_
  refine x_newO (m := 115) (by decide) Cg (c := 114) cls_X3 rfl (fun j _ => hh12 _ _ (Nat.le_refl _)) (fun j _ => hz4 _ _ (by decide)) (by decide) hfl wd418 wd419 wd59 dX12_init_47 (Nat.le_of_ble_eq_true rfl) (Nat.le_of_ble_eq_true rfl) ?_
  have hh13 := hlow_le hh12 (show 114 ≤ 115 by decide)
  refine x_dup (Cg 115 4491 (Nat.le_of_ble_eq_true rfl) (Nat.le_of_ble_eq_true rfl)) dX12_init_50 rfl ?_
  refine x_callI Cg ⟨(Nat.le_of_ble_eq_true rfl), (Nat.le_of_ble_eq_true rfl)⟩ (ct_X3_init _ _ hfl hh12 (fun k j hk => hz4 k j (Nat.lt_of_le_of_lt (by decide) hk))) mt_X3_init rfl wd421 wd420 rfl ⟨(Nat.le_of_ble_eq_true rfl), (Nat.le_of_ble_eq_true rfl)⟩ rfl (Nat.le_of_ble_eq_true rfl) dX12_init_51 ?_
  have hh14 := hlow_R (lo := 114) (hi := 118) hh13 (by decide)
  refine x_putR Cg (k0 := 0) (j := 5) (a := 114) (σ' := (xput s4 0 4 1)) ⟨(Nat.le_of_ble_eq_true rfl), (Nat.le_of_ble_eq_true rfl)⟩ cls_X12 (by decide) rfl (by decide) wd572 rfl (Or.inr ⟨rfl, rfl, hnm⟩) rfl (rfl) (fun _ _ _ => rfl) dX12_init_54 ?_
  have hh15 := hlow_S (k0 := 0) (j := 5) hh14 (by decide)
  refine x_aload_n (Cg 118 4527 (Nat.le_of_ble_eq_true rfl) (Nat.le_of_ble_eq_true rfl)) 0 dX12_init_57 rfl rfl ?_
  refine x_newO (m := 119) (by decide) Cg (c := 118) cls_X4 rfl (fun j _ => hh15 _ _ (Nat.le_refl _)) (fun j _ => hz4 _ _ (by decide)) (by decide) hfl wd438 wd439 wd60 dX12_init_58 (Nat.le_of_ble_eq_true rfl) (Nat.le_of_ble_eq_true rfl) ?_
  have hh16 := hlow_le hh15 (show 118 ≤ 119 by decide)
  refine x_dup (Cg 119 4547 (Nat.le_of_ble_eq_true rfl) (Nat.le_of_ble_eq_true rfl)) dX12_init_61 rfl ?_
  refine x_callIO Cg hAO ⟨(Nat.le_of_ble_eq_true rfl), (Nat.le_of_ble_eq_true rfl)⟩ (ct_X4_init_118 _ _ hfl hh15 (fun k j hk => hz4 k j (Nat.lt_of_le_of_lt (by decide) hk))) mt_X4_init rfl wd441 wd440 rfl ⟨(Nat.le_of_ble_eq_true rfl), (Nat.le_of_ble_eq_true rfl)⟩ rfl (Nat.le_of_ble_eq_true rfl) dX12_init_62 ?_
  have hh17 := hlow_R (lo := 118) (hi := 139) hh16 (by decide)
  refine x_putR Cg (k0 := 0) (j := 6) (a := 118) (σ' := (xput s4 0 4 1)) ⟨(Nat.le_of_ble_eq_true rfl), (Nat.le_of_ble_eq_true rfl)⟩ cls_X12 (by decide) rfl (by decide) wd573 rfl (Or.inr ⟨rfl, rfl, hnm⟩) rfl (rfl) (fun _ _ _ => rfl) dX12_init_65 ?_
  have hh18 := hlow_S (k0 := 0) (j := 6) hh17 (by decide)
  refine x_aload_n (Cg 139 5397 (Nat.le_of_ble_eq_true rfl) (Nat.le_of_ble_eq_true rfl)) 0 dX12_init_68 rfl rfl ?_
  refine x_newO (m := 140) (by decide) Cg (c := 139) cls_X8 rfl (fun j _ => hh18 _ _ (Nat.le_refl _)) (fun j _ => hz4 _ _ (by decide)) (by decide) hfl wd513 wd514 wd61 dX12_init_69 (Nat.le_of_ble_eq_true rfl) (Nat.le_of_ble_eq_true rfl) ?_
  have hh19 := hlow_le hh18 (show 139 ≤ 140 by decide)
  refine x_dup (Cg 140 5412 (Nat.le_of_ble_eq_true rfl) (Nat.le_of_ble_eq_true rfl)) dX12_init_72 rfl ?_
  refine x_callI Cg ⟨(Nat.le_of_ble_eq_true rfl), (Nat.le_of_ble_eq_true rfl)⟩ (ct_X8_init_139 _ _ hfl hh18 (fun k j hk => hz4 k j (Nat.lt_of_le_of_lt (by decide) hk))) mt_X8_init rfl wd516 wd515 rfl ⟨(Nat.le_of_ble_eq_true rfl), (Nat.le_of_ble_eq_true rfl)⟩ rfl (Nat.le_of_ble_eq_true rfl) dX12_init_73 ?_
  have hh20 := hlow_R (lo := 139) (hi := 151) hh19 (by decide)
  refine x_putR Cg (k0 := 0) (j := 7) (a := 139) (σ' := (xput s4 0 4 1)) ⟨(Nat.le_of_ble_eq_true rfl), (Nat.le_of_ble_eq_true rfl)⟩ cls_X12 (by decide) rfl (by decide) wd574 rfl (Or.inr ⟨rfl, rfl, hnm⟩) rfl (rfl) (fun _ _ _ => rfl) dX12_init_76 ?_
  have hh21 := hlow_S (k0 := 0) (j := 7) hh20 (by decide)
  refine x_aload_n (Cg 151 5965 (Nat.le_of_ble_eq_true rfl) (Nat.le_of_ble_eq_true rfl)) 0 dX12_init_79 rfl rfl ?_
  refine x_newO (m := 152) (by decide) Cg (c := 151) cls_X4 rfl (fun j _ => hh21 _ _ (Nat.le_refl _)) (fun j _ => hz4 _ _ (by decide)) (by decide) hfl wd438 wd439 wd60 dX12_init_80 (Nat.le_of_ble_eq_true rfl) (Nat.le_of_ble_eq_true rfl) ?_
  have hh22 := hlow_le hh21 (show 151 ≤ 152 by decide)
  refine x_dup (Cg 152 5985 (Nat.le_of_ble_eq_true rfl) (Nat.le_of_ble_eq_true rfl)) dX12_init_83 rfl ?_
  refine x_callIO Cg hAO ⟨(Nat.le_of_ble_eq_true rfl), (Nat.le_of_ble_eq_true rfl)⟩ (ct_X4_init_151 _ _ hfl hh21 (fun k j hk => hz4 k j (Nat.lt_of_le_of_lt (by decide) hk))) mt_X4_init rfl wd441 wd440 rfl ⟨(Nat.le_of_ble_eq_true rfl), (Nat.le_of_ble_eq_true rfl)⟩ rfl (Nat.le_of_ble_eq_true rfl) dX12_init_84 ?_
  have hh23 := hlow_R (lo := 151) (hi := 172) hh22 (by decide)
  refine x_putR Cg (k0 := 0) (j := 10) (a := 151) (σ' := (xput s4 0 4 1)) ⟨(Nat.le_of_ble_eq_true rfl), (Nat.le_of_ble_eq_true rfl)⟩ cls_X12 (by decide) rfl (by decide) wd577 rfl (Or.inr ⟨rfl, rfl, hnm⟩) rfl (rfl) (fun _ _ _ => rfl) dX12_init_87 ?_
  have hh24 := hlow_S (k0 := 0) (j := 10) hh23 (by decide)
  refine x_aload_n (Cg 172 6835 (Nat.le_of_ble_eq_true rfl) (Nat.le_of_ble_eq_true rfl)) 0 dX12_init_90 rfl rfl ?_
  refine x_newO (m := 173) (by decide) Cg (c := 172) cls_X8 rfl (fun j _ => hh24 _ _ (Nat.le_refl _)) (fun j _ => hz4 _ _ (by decide)) (by decide) hfl wd513 wd514 wd61 dX12_init_91 (Nat.le_of_ble_eq_true rfl) (Nat.le_of_ble_eq_true rfl) ?_
  have hh25 := hlow_le hh24 (show 172 ≤ 173 by decide)
  refine x_dup (Cg 173 6850 (Nat.le_of_ble_eq_true rfl) (Nat.le_of_ble_eq_true rfl)) dX12_init_94 rfl ?_
  refine x_callI Cg ⟨(Nat.le_of_ble_eq_true rfl), (Nat.le_of_ble_eq_true rfl)⟩ (ct_X8_init_172 _ _ hfl hh24 (fun k j hk => hz4 k j (Nat.lt_of_le_of_lt (by decide) hk))) mt_X8_init rfl wd516 wd515 rfl ⟨(Nat.le_of_ble_eq_true rfl), (Nat.le_of_ble_eq_true rfl)⟩ rfl (Nat.le_of_ble_eq_true rfl) dX12_init_95 ?_
  have hh26 := hlow_R (lo := 172) (hi := 184) hh25 (by decide)
  refine x_putR Cg (k0 := 0) (j := 11) (a := 172) (σ' := (xput s4 0 4 1)) ⟨(Nat.le_of_ble_eq_true rfl), (Nat.le_of_ble_eq_true rfl)⟩ cls_X12 (by decide) rfl (by decide) wd578 rfl (Or.inr ⟨rfl, rfl, hnm⟩) rfl (rfl) (fun _ _ _ => rfl) dX12_init_98 ?_
  have hh27 := hlow_S (k0 := 0) (j := 11) hh26 (by decide)
  refine x_wR0 (h := h) (hi := 184) (fun k j a2 a3 => ?_) (by simp [hS, hM, hR]) (by simp [hS, hM, hR]) (fun k j a1 => ?_) ?_
  · have a4 := rq0 k j (Nat.zero_le _) a2 a3
    rcases a4 with a4 | a4 | a4 | a4 | a4 | a4 | a4 | a4 | a4 | a4 | a4 | a4 | a4 | a4 | a4 | a4 | a4
    · obtain ⟨rfl, rfl⟩ := a4; simp [hS, hM, hR]
    · simp [hS, hM, hR, a4.1, a4.2]
    · obtain ⟨rfl, rfl⟩ := a4; simp [hS, hM, hR]
    · simp [hS, hM, hR, a4.1, a4.2]
    · obtain ⟨rfl, rfl⟩ := a4; simp [hS, hM, hR]
    · simp [hS, hM, hR, a4.1, a4.2]
    · obtain ⟨rfl, rfl⟩ := a4; simp [hS, hM, hR]
    · simp [hS, hM, hR, a4.1, a4.2]
    · obtain ⟨rfl, rfl⟩ := a4; simp [hS, hM, hR]
    · simp [hS, hM, hR, a4.1, a4.2]
    · obtain ⟨rfl, rfl⟩ := a4; simp [hS, hM, hR]
    · simp [hS, hM, hR, a4.1, a4.2]
    · obtain ⟨rfl, rfl⟩ := a4; simp [hS, hM, hR]
    · simp [hS, hM, hR, a4.1, a4.2]
    · obtain ⟨rfl, rfl⟩ := a4; simp [hS, hM, hR]
    · simp [hS, hM, hR, a4.1, a4.2]
    · obtain ⟨rfl, rfl⟩ := a4; simp [hS, hM, hR]
  · rw [hS_ne (by omega), hR_ne (by omega), hS_ne (by omega), hR_ne (by omega), hS_ne (by omega), hR_ne (by omega), hS_ne (by omega), hR_ne (by omega), hS_ne (by omega), hR_ne (by omega), hS_ne (by omega), hR_ne (by omega), hS_ne (by omega), hR_ne (by omega), hS_ne (by omega), hR_ne (by omega), hS_ne (by omega)]
  · exact x_vretG Cg (Nat.le_of_ble_eq_true rfl) (Nat.le_of_ble_eq_true rfl) dX12_init_101
