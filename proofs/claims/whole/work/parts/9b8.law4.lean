/-! the law: its cases that catch -/
theorem zcmp_self (x : Int) : zcmp x x = 0 := by
  unfold zcmp lg_cmp
  simp
set_option maxHeartbeats 4000000 in
set_option maxRecDepth 100000 in
theorem lc_batchDough {ρ : Type} {X : xX} {Qf : ρ → State → Prop} {o : Option ρ} {σ : xS} {b Ln i k z m Lb : Nat} {xs : Nat → Int32} {β : Nat → Int} {B : Nat → Nat → Int} (Cg : xCg X cL_law "BakeryNightLaw" (some .boolean) room_1 7) (hs : lsS X b Ln xs) (hi : i + 6 ≤ Ln) (hk : k + 1 ≤ 601024 ∧ z + 6 ≤ 7293034) (hT : XT (xA (xXE X)) (xXs X) (xXs X).heap) (hlt : (xXl X).stackTraces = false) (hE : (xXE X).2.1.2.2 9 0 ≠ 0) (h : TJ σ β Lb m B)
    (aft : LWaft X Qf o b i k z) : WO (xat X k z) Qf WW σ 585 (lL X b i) [] o := by
  have C := Cg k z (Nat.le_of_succ_le hk.1) (Nat.le_trans (Nat.le_add_right _ _) hk.2)
  have C1 := Cg (k + 1) (z + 6) hk.1 hk.2
  have hs1 : lsS (xat X (k + 1) (z + 6)) b Ln xs := hs
  have hs : lsS (xat X k z) b Ln xs := hs
  have hb1 := i32_bd (xs (i + 1))
  obtain ⟨e, he, hcls, y, υ, h2, hTI, h3⟩ := q_batchDough h (Nat.le_refl 4000000) hb1.1 hb1.2
  cases e with
  | inl v =>
    obtain ⟨g1, g2, g3⟩ := h3
    refine x_aload_n C 1 dL_law_585 rfl rfl ?_
    refine x_aload_n C 0 dL_law_586 rfl rfl ?_
    refine x_iload C 4 dL_law_587 rfl ?_
    refine x_iconst C (1) dL_law_589 rfl ?_
    refine x_iadd C dL_law_590 ?_
    refine x_sld C hs (i + 1) (by omega) (by omega) dL_law_591 ?_
    refine x_aload_n C 3 dL_law_592 rfl rfl ?_
    have hM := ct_L_batchDough (l := xXl X) (E := xXE X) he (fun l hl E hE => hcls l hl E hE) hlt hE
    refine x_callSW (st := []) Cg ⟨hk.1, hk.2⟩ hT hM hcL_batchDough wd150 ⟨by decide, by decide, rfl⟩ wd1383 wd1382 rfl ⟨Nat.le_of_ble_eq_true rfl, Nat.le_of_ble_eq_true rfl⟩ rfl (Nat.le_of_ble_eq_true rfl) dL_law_593 ?_
    refine x_istore C1 dL_law_596 (by show 5 < 7; omega) rfl ?_
    refine x_aload_n C1 3 dL_law_598 rfl rfl ?_
    refine x_aload_n C1 1 dL_law_599 rfl rfl ?_
    refine x_iload C1 5 dL_law_600 rfl ?_
    refine x_iconst C1 (1) dL_law_602 rfl ?_
    refine x_iadd C1 dL_law_603 ?_
    refine x_sld C1 hs1 (i + 1) (by omega) (by omega) dL_law_604 ?_
    refine x_callV C1 (ct_X13_batchDough _ _ 4000000 (xs (i + 1)).toInt _) mt_X13_batchDough vr_X13_batchDough wd1997 cls_X13 at_X13 rfl ⟨rfl, rfl, (Nat.le_of_ble_eq_true rfl), (Nat.le_of_ble_eq_true rfl)⟩ rfl (Nat.le_of_ble_eq_true rfl) dL_law_605 (kVal (by rw [h2]; rfl) ?_)
    refine x_istore C1 dL_law_608 (by show 6 < 7; omega) rfl ?_
    refine x_aload_n C1 4 dL_law_610 rfl rfl ?_
    refine x_callV C1 (ct_X13_thrown _ _ υ) mt_X13_thrown vr_X13_thrown wd1668 cls_X13 at_X13 rfl ⟨rfl, rfl, (Nat.le_of_ble_eq_true rfl), (Nat.le_of_ble_eq_true rfl)⟩ rfl (Nat.le_of_ble_eq_true rfl) dL_law_611 (kP ?_)
    refine x_iload C1 1 dL_law_614 rfl ?_
    refine x_icmp_eq C1 621 rfl rfl dL_law_616 rfl (fun _ => ?_) (fun c => absurd (by show zI (υ 184 7) = zI 0; rw [g1]) c)
    refine x_iload C1 1 dL_law_621 rfl ?_
    refine x_if_ne C1 638 (x' := 0) zI_0 dL_law_623 rfl (fun c => absurd rfl c) (fun _ => ?_)
    refine x_aload_n C1 5 dL_law_626 rfl rfl ?_
    refine x_iconst C1 (0) dL_law_627 rfl ?_
    refine xt_ck (⟨by decide, by decide⟩ : 0 ≤ (0 : Int) ∧ (0 : Int) < ((1 : Nat) : Int)) (x_lald C1 (k := 215) (n := 1) (i := 0) ⟨by decide, rfl⟩ (by decide) dL_law_628 (fun _ => ?_))
    refine x_iload C1 0 dL_law_629 rfl ?_
    refine x_i2l C1 dL_law_631 ?_
    refine x_lcmp C1 dL_law_632 ?_
    refine x_if_eq C1 638 (x' := 0) (by show zI (zcmp (υ 215 0) (zI y)) = 0; rw [g2, g3, zcmp_self]; decide) dL_law_633 rfl (fun _ => ?_) (fun c => absurd rfl c)
    refine x_goto C1 1446 dL_law_638 rfl ?_
    refine x_pick [2, 3, 4, 5, 6] rfl ?_
    exact aft υ (k + 1) (z + 6) (by omega) (by omega) (by omega) (by omega) hTI
  | inr q =>
    refine x_aload_n C 1 dL_law_585 rfl rfl ?_
    refine x_aload_n C 0 dL_law_586 rfl rfl ?_
    refine x_iload C 4 dL_law_587 rfl ?_
    refine x_iconst C (1) dL_law_589 rfl ?_
    refine x_iadd C dL_law_590 ?_
    refine x_sld C hs (i + 1) (by omega) (by omega) dL_law_591 ?_
    refine x_aload_n C 3 dL_law_592 rfl rfl ?_
    have hM := ct_L_batchDough (l := xXl X) (E := xXE X) he (fun l hl E hE => hcls l hl E hE) hlt hE
    refine x_callSW (st := []) Cg ⟨hk.1, hk.2⟩ hT hM hcL_batchDough wd150 ⟨by decide, by decide, rfl⟩ wd1383 wd1382 rfl ⟨Nat.le_of_ble_eq_true rfl, Nat.le_of_ble_eq_true rfl⟩ rfl (Nat.le_of_ble_eq_true rfl) dL_law_593 ?_
    refine x_istore C1 dL_law_596 (by show 5 < 7; omega) rfl ?_
    refine x_aload_n C1 3 dL_law_598 rfl rfl ?_
    refine x_aload_n C1 1 dL_law_599 rfl rfl ?_
    refine x_iload C1 5 dL_law_600 rfl ?_
    refine x_iconst C1 (1) dL_law_602 rfl ?_
    refine x_iadd C1 dL_law_603 ?_
    refine x_sld C1 hs1 (i + 1) (by omega) (by omega) dL_law_604 ?_
    refine x_callV C1 (ct_X13_batchDough _ _ 4000000 (xs (i + 1)).toInt _) mt_X13_batchDough vr_X13_batchDough wd1997 cls_X13 at_X13 rfl ⟨rfl, rfl, (Nat.le_of_ble_eq_true rfl), (Nat.le_of_ble_eq_true rfl)⟩ rfl (Nat.le_of_ble_eq_true rfl) dL_law_605 (kVal (by rw [h2]; rfl) ?_)
    refine x_istore C1 dL_law_608 (by show 6 < 7; omega) rfl ?_
    refine x_aload_n C1 4 dL_law_610 rfl rfl ?_
    refine x_callV C1 (ct_X13_thrown _ _ υ) mt_X13_thrown vr_X13_thrown wd1668 cls_X13 at_X13 rfl ⟨rfl, rfl, (Nat.le_of_ble_eq_true rfl), (Nat.le_of_ble_eq_true rfl)⟩ rfl (Nat.le_of_ble_eq_true rfl) dL_law_611 (kP ?_)
    refine x_iload C1 1 dL_law_614 rfl ?_
    refine x_icmp_eq C1 621 rfl rfl dL_law_616 rfl (fun _ => ?_) (fun c => absurd (by show zI (υ 184 7) = zI _; rw [h3]) c)
    refine x_iload C1 1 dL_law_621 rfl ?_
    refine x_if_ne C1 638 (x' := if q = XIS then 1 else 2) (by split <;> decide) dL_law_623 rfl (fun _ => ?_) (fun c => absurd c (by split <;> decide))
    refine x_goto C1 1446 dL_law_638 rfl ?_
    refine x_pick [2, 3, 4, 5, 6] rfl ?_
    exact aft υ (k + 1) (z + 6) (by omega) (by omega) (by omega) (by omega) hTI
set_option maxHeartbeats 4000000 in
set_option maxRecDepth 100000 in
theorem lc_stageMinute {ρ : Type} {X : xX} {Qf : ρ → State → Prop} {o : Option ρ} {σ : xS} {b Ln i k z m Lb : Nat} {xs : Nat → Int32} {β : Nat → Int} {B : Nat → Nat → Int} (Cg : xCg X cL_law "BakeryNightLaw" (some .boolean) room_1 7) (hs : lsS X b Ln xs) (hi : i + 6 ≤ Ln) (hk : k + 1 ≤ 601024 ∧ z + 6 ≤ 7293034) (hT : XT (xA (xXE X)) (xXs X) (xXs X).heap) (hlt : (xXl X).stackTraces = false) (hE : (xXE X).2.1.2.2 9 0 ≠ 0) (h : TJ σ β Lb m B)
    (aft : LWaft X Qf o b i k z) : WO (xat X k z) Qf WW σ 641 (lL X b i) [] o := by
  have C := Cg k z (Nat.le_of_succ_le hk.1) (Nat.le_trans (Nat.le_add_right _ _) hk.2)
  have C1 := Cg (k + 1) (z + 6) hk.1 hk.2
  have hs1 : lsS (xat X (k + 1) (z + 6)) b Ln xs := hs
  have hs : lsS (xat X k z) b Ln xs := hs
  have hb1 := i32_bd (xs (i + 1))
  have hb2 := i32_bd (xs (i + 2))
  obtain ⟨e, he, hcls, y, υ, h2, hTI, h3⟩ := q_stageMinute h (Nat.le_refl 4000000) hb1.1 hb1.2 hb2.1 hb2.2
  cases e with
  | inl v =>
    obtain ⟨g1, g2, g3⟩ := h3
    refine x_aload_n C 1 dL_law_641 rfl rfl ?_
    refine x_aload_n C 0 dL_law_642 rfl rfl ?_
    refine x_iload C 4 dL_law_643 rfl ?_
    refine x_iconst C (1) dL_law_645 rfl ?_
    refine x_iadd C dL_law_646 ?_
    refine x_sld C hs (i + 1) (by omega) (by omega) dL_law_647 ?_
    refine x_aload_n C 0 dL_law_648 rfl rfl ?_
    refine x_iload C 4 dL_law_649 rfl ?_
    refine x_iconst C (2) dL_law_651 rfl ?_
    refine x_iadd C dL_law_652 ?_
    refine x_sld C hs (i + 2) (by omega) (by omega) dL_law_653 ?_
    refine x_aload_n C 3 dL_law_654 rfl rfl ?_
    have hM := ct_L_stageMinute (l := xXl X) (E := xXE X) he (fun l hl E hE => hcls l hl E hE) hlt hE
    refine x_callSW (st := []) Cg ⟨hk.1, hk.2⟩ hT hM hcL_stageMinute wd150 ⟨by decide, by decide, rfl⟩ wd1478 wd1477 rfl ⟨Nat.le_of_ble_eq_true rfl, Nat.le_of_ble_eq_true rfl⟩ rfl (Nat.le_of_ble_eq_true rfl) dL_law_655 ?_
    refine x_istore C1 dL_law_658 (by show 5 < 7; omega) rfl ?_
    refine x_aload_n C1 3 dL_law_660 rfl rfl ?_
    refine x_aload_n C1 1 dL_law_661 rfl rfl ?_
    refine x_iload C1 5 dL_law_662 rfl ?_
    refine x_iconst C1 (1) dL_law_664 rfl ?_
    refine x_iadd C1 dL_law_665 ?_
    refine x_sld C1 hs1 (i + 1) (by omega) (by omega) dL_law_666 ?_
    refine x_aload_n C1 1 dL_law_667 rfl rfl ?_
    refine x_iload C1 5 dL_law_668 rfl ?_
    refine x_iconst C1 (2) dL_law_670 rfl ?_
    refine x_iadd C1 dL_law_671 ?_
    refine x_sld C1 hs1 (i + 2) (by omega) (by omega) dL_law_672 ?_
    refine x_callV C1 (ct_X13_stageMinute _ _ 4000000 (xs (i + 1)).toInt (xs (i + 2)).toInt _) mt_X13_stageMinute vr_X13_stageMinute wd2009 cls_X13 at_X13 rfl ⟨rfl, rfl, (Nat.le_of_ble_eq_true rfl), (Nat.le_of_ble_eq_true rfl)⟩ rfl (Nat.le_of_ble_eq_true rfl) dL_law_673 (kVal (by rw [h2]; rfl) ?_)
    refine x_istore C1 dL_law_676 (by show 6 < 7; omega) rfl ?_
    refine x_aload_n C1 4 dL_law_678 rfl rfl ?_
    refine x_callV C1 (ct_X13_thrown _ _ υ) mt_X13_thrown vr_X13_thrown wd1668 cls_X13 at_X13 rfl ⟨rfl, rfl, (Nat.le_of_ble_eq_true rfl), (Nat.le_of_ble_eq_true rfl)⟩ rfl (Nat.le_of_ble_eq_true rfl) dL_law_679 (kP ?_)
    refine x_iload C1 1 dL_law_682 rfl ?_
    refine x_icmp_eq C1 689 rfl rfl dL_law_684 rfl (fun _ => ?_) (fun c => absurd (by show zI (υ 184 7) = zI 0; rw [g1]) c)
    refine x_iload C1 1 dL_law_689 rfl ?_
    refine x_if_ne C1 706 (x' := 0) zI_0 dL_law_691 rfl (fun c => absurd rfl c) (fun _ => ?_)
    refine x_aload_n C1 5 dL_law_694 rfl rfl ?_
    refine x_iconst C1 (0) dL_law_695 rfl ?_
    refine xt_ck (⟨by decide, by decide⟩ : 0 ≤ (0 : Int) ∧ (0 : Int) < ((1 : Nat) : Int)) (x_lald C1 (k := 215) (n := 1) (i := 0) ⟨by decide, rfl⟩ (by decide) dL_law_696 (fun _ => ?_))
    refine x_iload C1 0 dL_law_697 rfl ?_
    refine x_i2l C1 dL_law_699 ?_
    refine x_lcmp C1 dL_law_700 ?_
    refine x_if_eq C1 706 (x' := 0) (by show zI (zcmp (υ 215 0) (zI y)) = 0; rw [g2, g3, zcmp_self]; decide) dL_law_701 rfl (fun _ => ?_) (fun c => absurd rfl c)
    refine x_goto C1 1446 dL_law_706 rfl ?_
    refine x_pick [2, 3, 4, 5, 6] rfl ?_
    exact aft υ (k + 1) (z + 6) (by omega) (by omega) (by omega) (by omega) hTI
  | inr q =>
    refine x_aload_n C 1 dL_law_641 rfl rfl ?_
    refine x_aload_n C 0 dL_law_642 rfl rfl ?_
    refine x_iload C 4 dL_law_643 rfl ?_
    refine x_iconst C (1) dL_law_645 rfl ?_
    refine x_iadd C dL_law_646 ?_
    refine x_sld C hs (i + 1) (by omega) (by omega) dL_law_647 ?_
    refine x_aload_n C 0 dL_law_648 rfl rfl ?_
    refine x_iload C 4 dL_law_649 rfl ?_
    refine x_iconst C (2) dL_law_651 rfl ?_
    refine x_iadd C dL_law_652 ?_
    refine x_sld C hs (i + 2) (by omega) (by omega) dL_law_653 ?_
    refine x_aload_n C 3 dL_law_654 rfl rfl ?_
    have hM := ct_L_stageMinute (l := xXl X) (E := xXE X) he (fun l hl E hE => hcls l hl E hE) hlt hE
    refine x_callSW (st := []) Cg ⟨hk.1, hk.2⟩ hT hM hcL_stageMinute wd150 ⟨by decide, by decide, rfl⟩ wd1478 wd1477 rfl ⟨Nat.le_of_ble_eq_true rfl, Nat.le_of_ble_eq_true rfl⟩ rfl (Nat.le_of_ble_eq_true rfl) dL_law_655 ?_
    refine x_istore C1 dL_law_658 (by show 5 < 7; omega) rfl ?_
    refine x_aload_n C1 3 dL_law_660 rfl rfl ?_
    refine x_aload_n C1 1 dL_law_661 rfl rfl ?_
    refine x_iload C1 5 dL_law_662 rfl ?_
    refine x_iconst C1 (1) dL_law_664 rfl ?_
    refine x_iadd C1 dL_law_665 ?_
    refine x_sld C1 hs1 (i + 1) (by omega) (by omega) dL_law_666 ?_
    refine x_aload_n C1 1 dL_law_667 rfl rfl ?_
    refine x_iload C1 5 dL_law_668 rfl ?_
    refine x_iconst C1 (2) dL_law_670 rfl ?_
    refine x_iadd C1 dL_law_671 ?_
    refine x_sld C1 hs1 (i + 2) (by omega) (by omega) dL_law_672 ?_
    refine x_callV C1 (ct_X13_stageMinute _ _ 4000000 (xs (i + 1)).toInt (xs (i + 2)).toInt _) mt_X13_stageMinute vr_X13_stageMinute wd2009 cls_X13 at_X13 rfl ⟨rfl, rfl, (Nat.le_of_ble_eq_true rfl), (Nat.le_of_ble_eq_true rfl)⟩ rfl (Nat.le_of_ble_eq_true rfl) dL_law_673 (kVal (by rw [h2]; rfl) ?_)
    refine x_istore C1 dL_law_676 (by show 6 < 7; omega) rfl ?_
    refine x_aload_n C1 4 dL_law_678 rfl rfl ?_
    refine x_callV C1 (ct_X13_thrown _ _ υ) mt_X13_thrown vr_X13_thrown wd1668 cls_X13 at_X13 rfl ⟨rfl, rfl, (Nat.le_of_ble_eq_true rfl), (Nat.le_of_ble_eq_true rfl)⟩ rfl (Nat.le_of_ble_eq_true rfl) dL_law_679 (kP ?_)
    refine x_iload C1 1 dL_law_682 rfl ?_
    refine x_icmp_eq C1 689 rfl rfl dL_law_684 rfl (fun _ => ?_) (fun c => absurd (by show zI (υ 184 7) = zI _; rw [h3]) c)
    refine x_iload C1 1 dL_law_689 rfl ?_
    refine x_if_ne C1 706 (x' := if q = XIS then 1 else 2) (by split <;> decide) dL_law_691 rfl (fun _ => ?_) (fun c => absurd c (by split <;> decide))
    refine x_goto C1 1446 dL_law_706 rfl ?_
    refine x_pick [2, 3, 4, 5, 6] rfl ?_
    exact aft υ (k + 1) (z + 6) (by omega) (by omega) (by omega) (by omega) hTI
set_option maxHeartbeats 4000000 in
set_option maxRecDepth 100000 in
theorem lc_ovenOf {ρ : Type} {X : xX} {Qf : ρ → State → Prop} {o : Option ρ} {σ : xS} {b Ln i k z m Lb : Nat} {xs : Nat → Int32} {β : Nat → Int} {B : Nat → Nat → Int} (Cg : xCg X cL_law "BakeryNightLaw" (some .boolean) room_1 7) (hs : lsS X b Ln xs) (hi : i + 6 ≤ Ln) (hk : k + 1 ≤ 601024 ∧ z + 6 ≤ 7293034) (hT : XT (xA (xXE X)) (xXs X) (xXs X).heap) (hlt : (xXl X).stackTraces = false) (hE : (xXE X).2.1.2.2 9 0 ≠ 0) (h : TJ σ β Lb m B)
    (aft : LWaft X Qf o b i k z) : WO (xat X k z) Qf WW σ 709 (lL X b i) [] o := by
  have C := Cg k z (Nat.le_of_succ_le hk.1) (Nat.le_trans (Nat.le_add_right _ _) hk.2)
  have C1 := Cg (k + 1) (z + 6) hk.1 hk.2
  have hs1 : lsS (xat X (k + 1) (z + 6)) b Ln xs := hs
  have hs : lsS (xat X k z) b Ln xs := hs
  have hb1 := i32_bd (xs (i + 1))
  obtain ⟨e, he, hcls, y, υ, h2, hTI, h3⟩ := q_ovenOf h (Nat.le_refl 4000000) hb1.1 hb1.2
  cases e with
  | inl v =>
    obtain ⟨g1, g2, g3⟩ := h3
    refine x_aload_n C 1 dL_law_709 rfl rfl ?_
    refine x_aload_n C 0 dL_law_710 rfl rfl ?_
    refine x_iload C 4 dL_law_711 rfl ?_
    refine x_iconst C (1) dL_law_713 rfl ?_
    refine x_iadd C dL_law_714 ?_
    refine x_sld C hs (i + 1) (by omega) (by omega) dL_law_715 ?_
    refine x_aload_n C 3 dL_law_716 rfl rfl ?_
    have hM := ct_L_ovenOf (l := xXl X) (E := xXE X) he (fun l hl E hE => hcls l hl E hE) hlt hE
    refine x_callSW (st := []) Cg ⟨hk.1, hk.2⟩ hT hM hcL_ovenOf wd150 ⟨by decide, by decide, rfl⟩ wd1486 wd1485 rfl ⟨Nat.le_of_ble_eq_true rfl, Nat.le_of_ble_eq_true rfl⟩ rfl (Nat.le_of_ble_eq_true rfl) dL_law_717 ?_
    refine x_istore C1 dL_law_720 (by show 5 < 7; omega) rfl ?_
    refine x_aload_n C1 3 dL_law_722 rfl rfl ?_
    refine x_aload_n C1 1 dL_law_723 rfl rfl ?_
    refine x_iload C1 5 dL_law_724 rfl ?_
    refine x_iconst C1 (1) dL_law_726 rfl ?_
    refine x_iadd C1 dL_law_727 ?_
    refine x_sld C1 hs1 (i + 1) (by omega) (by omega) dL_law_728 ?_
    refine x_callV C1 (ct_X13_ovenOf _ _ 4000000 (xs (i + 1)).toInt _) mt_X13_ovenOf vr_X13_ovenOf wd2022 cls_X13 at_X13 rfl ⟨rfl, rfl, (Nat.le_of_ble_eq_true rfl), (Nat.le_of_ble_eq_true rfl)⟩ rfl (Nat.le_of_ble_eq_true rfl) dL_law_729 (kVal (by rw [h2]; rfl) ?_)
    refine x_istore C1 dL_law_732 (by show 6 < 7; omega) rfl ?_
    refine x_aload_n C1 4 dL_law_734 rfl rfl ?_
    refine x_callV C1 (ct_X13_thrown _ _ υ) mt_X13_thrown vr_X13_thrown wd1668 cls_X13 at_X13 rfl ⟨rfl, rfl, (Nat.le_of_ble_eq_true rfl), (Nat.le_of_ble_eq_true rfl)⟩ rfl (Nat.le_of_ble_eq_true rfl) dL_law_735 (kP ?_)
    refine x_iload C1 1 dL_law_738 rfl ?_
    refine x_icmp_eq C1 745 rfl rfl dL_law_740 rfl (fun _ => ?_) (fun c => absurd (by show zI (υ 184 7) = zI 0; rw [g1]) c)
    refine x_iload C1 1 dL_law_745 rfl ?_
    refine x_if_ne C1 762 (x' := 0) zI_0 dL_law_747 rfl (fun c => absurd rfl c) (fun _ => ?_)
    refine x_aload_n C1 5 dL_law_750 rfl rfl ?_
    refine x_iconst C1 (0) dL_law_751 rfl ?_
    refine xt_ck (⟨by decide, by decide⟩ : 0 ≤ (0 : Int) ∧ (0 : Int) < ((1 : Nat) : Int)) (x_lald C1 (k := 215) (n := 1) (i := 0) ⟨by decide, rfl⟩ (by decide) dL_law_752 (fun _ => ?_))
    refine x_iload C1 0 dL_law_753 rfl ?_
    refine x_i2l C1 dL_law_755 ?_
    refine x_lcmp C1 dL_law_756 ?_
    refine x_if_eq C1 762 (x' := 0) (by show zI (zcmp (υ 215 0) (zI y)) = 0; rw [g2, g3, zcmp_self]; decide) dL_law_757 rfl (fun _ => ?_) (fun c => absurd rfl c)
    refine x_goto C1 1446 dL_law_762 rfl ?_
    refine x_pick [2, 3, 4, 5, 6] rfl ?_
    exact aft υ (k + 1) (z + 6) (by omega) (by omega) (by omega) (by omega) hTI
  | inr q =>
    refine x_aload_n C 1 dL_law_709 rfl rfl ?_
    refine x_aload_n C 0 dL_law_710 rfl rfl ?_
    refine x_iload C 4 dL_law_711 rfl ?_
    refine x_iconst C (1) dL_law_713 rfl ?_
    refine x_iadd C dL_law_714 ?_
    refine x_sld C hs (i + 1) (by omega) (by omega) dL_law_715 ?_
    refine x_aload_n C 3 dL_law_716 rfl rfl ?_
    have hM := ct_L_ovenOf (l := xXl X) (E := xXE X) he (fun l hl E hE => hcls l hl E hE) hlt hE
    refine x_callSW (st := []) Cg ⟨hk.1, hk.2⟩ hT hM hcL_ovenOf wd150 ⟨by decide, by decide, rfl⟩ wd1486 wd1485 rfl ⟨Nat.le_of_ble_eq_true rfl, Nat.le_of_ble_eq_true rfl⟩ rfl (Nat.le_of_ble_eq_true rfl) dL_law_717 ?_
    refine x_istore C1 dL_law_720 (by show 5 < 7; omega) rfl ?_
    refine x_aload_n C1 3 dL_law_722 rfl rfl ?_
    refine x_aload_n C1 1 dL_law_723 rfl rfl ?_
    refine x_iload C1 5 dL_law_724 rfl ?_
    refine x_iconst C1 (1) dL_law_726 rfl ?_
    refine x_iadd C1 dL_law_727 ?_
    refine x_sld C1 hs1 (i + 1) (by omega) (by omega) dL_law_728 ?_
    refine x_callV C1 (ct_X13_ovenOf _ _ 4000000 (xs (i + 1)).toInt _) mt_X13_ovenOf vr_X13_ovenOf wd2022 cls_X13 at_X13 rfl ⟨rfl, rfl, (Nat.le_of_ble_eq_true rfl), (Nat.le_of_ble_eq_true rfl)⟩ rfl (Nat.le_of_ble_eq_true rfl) dL_law_729 (kVal (by rw [h2]; rfl) ?_)
    refine x_istore C1 dL_law_732 (by show 6 < 7; omega) rfl ?_
    refine x_aload_n C1 4 dL_law_734 rfl rfl ?_
    refine x_callV C1 (ct_X13_thrown _ _ υ) mt_X13_thrown vr_X13_thrown wd1668 cls_X13 at_X13 rfl ⟨rfl, rfl, (Nat.le_of_ble_eq_true rfl), (Nat.le_of_ble_eq_true rfl)⟩ rfl (Nat.le_of_ble_eq_true rfl) dL_law_735 (kP ?_)
    refine x_iload C1 1 dL_law_738 rfl ?_
    refine x_icmp_eq C1 745 rfl rfl dL_law_740 rfl (fun _ => ?_) (fun c => absurd (by show zI (υ 184 7) = zI _; rw [h3]) c)
    refine x_iload C1 1 dL_law_745 rfl ?_
    refine x_if_ne C1 762 (x' := if q = XIS then 1 else 2) (by split <;> decide) dL_law_747 rfl (fun _ => ?_) (fun c => absurd c (by split <;> decide))
    refine x_goto C1 1446 dL_law_762 rfl ?_
    refine x_pick [2, 3, 4, 5, 6] rfl ?_
    exact aft υ (k + 1) (z + 6) (by omega) (by omega) (by omega) (by omega) hTI
