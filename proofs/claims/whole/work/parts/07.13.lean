def m_X13_parseBakery (n : Nat) (σ : xS) : Option (Int × xS) :=
  xlet (xput σ 184 7 0) fun s1 => xlet (xput s1 184 10 (s1 184 9)) fun s2 => xlet (xput s2 184 9 0) fun s3 => xlet (xput s3 184 11 0) fun s4 => xlet (xput s4 184 12 0) fun s5 => xlet (xput s5 184 13 (-1)) fun s6 => xlet (xput s6 184 17 0) fun s7 => (m_X13_empties n 186 s7).bind fun s8 => (m_X13_skips n s8).bind fun s9 => loopF (fun rec11 (t10 : Int × xS) => xj (fun (q16 : Unit) => if (m_X13_fine t10.2) = 0 then some ((-1), t10.2) else (m_X13_copies n 186 185 t10.2).bind fun s18 => xlet (xput s18 184 4 0) fun s19 => xlet (xput s19 184 5 0) fun s20 => some (t10.1, s20)) fun J14 => if (m_X13_fine t10.2) = 0 then J14 () else if (zI (t10.2 184 10)) ≤ (zI (t10.2 184 11)) then J14 () else (m_X13_statement n t10.2).bind fun s23 => xlet (t10.1 + 1) fun v24 => rec11 (v24, s23)) n (0, s9)
set_option maxHeartbeats 4000000 in
set_option maxRecDepth 100000 in
theorem wk_X13_parseBakery {X : xX} {Qf : (Int × xS) → State → Prop} {n : Nat} {σ : xS} (C : xCx X cX13_parseBakery "BakeryNightModel" (some .int) { frames := 13, cells := 0, slots := 0, locals := 282 } 2) (hQ : ∀ v τ, Qf (v, τ) = xQf X WW (some (iV v), τ))  : WO X Qf WW σ 0 [(0, .ref (xqa (xXE X).2.2 184))] [] (m_X13_parseBakery n σ) := by
  unfold m_X13_parseBakery
  refine x_aload_n C 0 dX13_parseBakery_0 rfl rfl ?_
  refine x_iconst C (0) dX13_parseBakery_1 rfl ?_
  refine x_put C 7 0 cls_X13 at_X13 (by decide) wd1509 rfl rfl rfl rfl (xV_pI rfl) dX13_parseBakery_2 ?_
  refine x_letS (fun s1 => ?_)
  refine x_aload_n C 0 dX13_parseBakery_5 rfl rfl ?_
  refine x_aload_n C 0 dX13_parseBakery_6 rfl rfl ?_
  refine x_get (v := iV (s1 184 9)) C 9 cls_X13 at_X13 (by decide) wd1511 rfl rfl dX13_parseBakery_7 ?_
  refine x_put C 10 (s1 184 9) cls_X13 at_X13 (by decide) wd1512 rfl rfl rfl rfl (xV_pI rfl) dX13_parseBakery_10 ?_
  refine x_letS (fun s2 => ?_)
  refine x_aload_n C 0 dX13_parseBakery_13 rfl rfl ?_
  refine x_iconst C (0) dX13_parseBakery_14 rfl ?_
  refine x_put C 9 0 cls_X13 at_X13 (by decide) wd1511 rfl rfl rfl rfl (xV_pI rfl) dX13_parseBakery_15 ?_
  refine x_letS (fun s3 => ?_)
  refine x_aload_n C 0 dX13_parseBakery_18 rfl rfl ?_
  refine x_iconst C (0) dX13_parseBakery_19 rfl ?_
  refine x_put C 11 0 cls_X13 at_X13 (by decide) wd1513 rfl rfl rfl rfl (xV_pI rfl) dX13_parseBakery_20 ?_
  refine x_letS (fun s4 => ?_)
  refine x_aload_n C 0 dX13_parseBakery_23 rfl rfl ?_
  refine x_iconst C (0) dX13_parseBakery_24 rfl ?_
  refine x_put C 12 0 cls_X13 at_X13 (by decide) wd1514 rfl rfl rfl rfl (xV_pI rfl) dX13_parseBakery_25 ?_
  refine x_letS (fun s5 => ?_)
  refine x_aload_n C 0 dX13_parseBakery_28 rfl rfl ?_
  refine x_iconst C (-1) dX13_parseBakery_29 rfl ?_
  refine x_put C 13 (-1) cls_X13 at_X13 (by decide) wd1515 rfl rfl rfl rfl (xV_pI rfl) dX13_parseBakery_30 ?_
  refine x_letS (fun s6 => ?_)
  refine x_aload_n C 0 dX13_parseBakery_33 rfl rfl ?_
  refine x_iconst C (0) dX13_parseBakery_34 rfl ?_
  refine x_put C 17 0 cls_X13 at_X13 (by decide) wd1519 rfl rfl rfl rfl (xV_pI rfl) dX13_parseBakery_35 ?_
  refine x_letS (fun s7 => ?_)
  refine x_aload_n C 0 dX13_parseBakery_38 rfl rfl ?_
  refine x_aload_n C 0 dX13_parseBakery_39 rfl rfl ?_
  refine x_get (v := .ref (xqa (xXE X).2.2 186)) C 1 cls_X13 at_X13 (by decide) wd1503 rfl (xV_r (rt_X13_draft  _) rfl) dX13_parseBakery_40 ?_
  refine x_callV C (ct_X13_empties _ _ n 186 s7 at_X13_draft) mt_X13_empties vr_X13_empties wd1498 cls_X13 at_X13 rfl ⟨rfl, rfl, Nat.le_of_ble_eq_true rfl, Nat.le_of_ble_eq_true rfl⟩ rfl (by decide) dX13_parseBakery_43 (kV (fun s8 => ?_))
  refine x_aload_n C 0 dX13_parseBakery_46 rfl rfl ?_
  refine x_callV C (ct_X13_skips _ _ n s8) mt_X13_skips vr_X13_skips wd1688 cls_X13 at_X13 rfl ⟨rfl, rfl, Nat.le_of_ble_eq_true rfl, Nat.le_of_ble_eq_true rfl⟩ rfl (by decide) dX13_parseBakery_47 (kV (fun s9 => ?_))
  refine x_iconst C (0) dX13_parseBakery_50 rfl ?_
  refine x_istore_n (L' := [(1, _), (0, _)]) C dX13_parseBakery_51 rfl (by decide) rfl ?_
  refine x_pick [1, 0] rfl ?_
  refine x_loop (fun t10 : Int × xS => t10.2) (fun t10 : Int × xS => [(0, .ref (xqa (xXE X).2.2 184)), (1, iV t10.1)]) (fun rec11 hr12 t10 => ?_) n (0, s9)
  refine x_aload_n C 0 dX13_parseBakery_52 rfl rfl ?_
  refine x_callV C (ct_X13_fine _ _ t10.2) mt_X13_fine vr_X13_fine wd1700 cls_X13 at_X13 rfl ⟨rfl, rfl, Nat.le_of_ble_eq_true rfl, Nat.le_of_ble_eq_true rfl⟩ rfl (by decide) dX13_parseBakery_53 (kP ?_)
  refine x_join (fun J => ∀ q16 : Unit, WO X Qf WW t10.2 81 [(0, .ref (xqa (xXE X).2.2 184)), (1, iV t10.1)] [] (J q16)) ?_ ?_
  · intro q16
    refine x_aload_n C 0 dX13_parseBakery_81 rfl rfl ?_
    refine x_callV C (ct_X13_fine _ _ t10.2) mt_X13_fine vr_X13_fine wd1700 cls_X13 at_X13 rfl ⟨rfl, rfl, Nat.le_of_ble_eq_true rfl, Nat.le_of_ble_eq_true rfl⟩ rfl (by decide) dX13_parseBakery_82 (kP ?_)
    refine x_if_ne C 90 (zI_bo (bo_X13_fine _)) dX13_parseBakery_85 rfl (fun c17 => x_on c17 ?_) (fun c17 => x_op c17 ?_)
    · refine x_aload_n C 0 dX13_parseBakery_90 rfl rfl ?_
      refine x_aload_n C 0 dX13_parseBakery_91 rfl rfl ?_
      refine x_get (v := .ref (xqa (xXE X).2.2 186)) C 1 cls_X13 at_X13 (by decide) wd1503 rfl (xV_r (rt_X13_draft  _) rfl) dX13_parseBakery_92 ?_
      refine x_aload_n C 0 dX13_parseBakery_95 rfl rfl ?_
      refine x_get (v := .ref (xqa (xXE X).2.2 185)) C 0 cls_X13 at_X13 (by decide) wd1502 rfl (xV_r (rt_X13_bakery  _) rfl) dX13_parseBakery_96 ?_
      refine x_callV C (ct_X13_copies _ _ n 186 185 t10.2 at_X13_draft at_X13_bakery) mt_X13_copies vr_X13_copies wd1847 cls_X13 at_X13 rfl ⟨rfl, rfl, Nat.le_of_ble_eq_true rfl, Nat.le_of_ble_eq_true rfl⟩ rfl (by decide) dX13_parseBakery_99 (kV (fun s18 => ?_))
      refine x_aload_n C 0 dX13_parseBakery_102 rfl rfl ?_
      refine x_iconst C (0) dX13_parseBakery_103 rfl ?_
      refine x_put C 4 0 cls_X13 at_X13 (by decide) wd1506 rfl rfl rfl rfl (xV_pI rfl) dX13_parseBakery_104 ?_
      refine x_letS (fun s19 => ?_)
      refine x_aload_n C 0 dX13_parseBakery_107 rfl rfl ?_
      refine x_iconst C (0) dX13_parseBakery_108 rfl ?_
      refine x_put C 5 0 cls_X13 at_X13 (by decide) wd1507 rfl rfl (xnb (Or.inl rfl)) (xfb (Or.inl rfl)) (xV_pI rfl) dX13_parseBakery_109 ?_
      refine x_letS (fun s20 => ?_)
      refine x_iload_n C 1 dX13_parseBakery_112 rfl rfl ?_
      exact x_iretQ C (hQ _ _) rfl dX13_parseBakery_113
    · refine x_iconst C (-1) dX13_parseBakery_88 rfl ?_
      exact x_iretQ C (hQ _ _) rfl dX13_parseBakery_89
  · intro J14 hJ15
    refine x_if_eq C 81 (zI_bo (bo_X13_fine _)) dX13_parseBakery_56 rfl (fun c21 => x_op c21 ?_) (fun c21 => x_on c21 ?_)
    · refine x_pick [0, 1] rfl ?_
      exact hJ15 ()
    · refine x_aload_n C 0 dX13_parseBakery_59 rfl rfl ?_
      refine x_get (v := iV (t10.2 184 11)) C 11 cls_X13 at_X13 (by decide) wd1513 rfl rfl dX13_parseBakery_60 ?_
      refine x_aload_n C 0 dX13_parseBakery_63 rfl rfl ?_
      refine x_get (v := iV (t10.2 184 10)) C 10 cls_X13 at_X13 (by decide) wd1512 rfl rfl dX13_parseBakery_64 ?_
      refine x_icmp_ge C 81 rfl rfl dX13_parseBakery_67 rfl (fun c22 => x_op c22 ?_) (fun c22 => x_on c22 ?_)
      · refine x_pick [0, 1] rfl ?_
        exact hJ15 ()
      · refine x_aload_n C 0 dX13_parseBakery_70 rfl rfl ?_
        refine x_callV C (ct_X13_statement _ _ n t10.2) mt_X13_statement vr_X13_statement wd1704 cls_X13 at_X13 rfl ⟨rfl, rfl, Nat.le_of_ble_eq_true rfl, Nat.le_of_ble_eq_true rfl⟩ rfl (by decide) dX13_parseBakery_71 (kV (fun s23 => ?_))
        refine x_iload_n C 1 dX13_parseBakery_74 rfl rfl ?_
        refine x_iconst C (1) dX13_parseBakery_75 rfl ?_
        refine x_iadd C dX13_parseBakery_76 ?_
        refine x_letI (fun v24 => ?_)
        refine x_istore_n (L' := [(1, _), (0, _)]) C dX13_parseBakery_77 rfl (by decide) rfl ?_
        refine x_goto C 52 dX13_parseBakery_78 rfl ?_
        refine x_pick [1, 0] rfl ?_
        exact hr12 (v24, s23)
theorem ct_X13_parseBakery (l : Launch) (E : xE) (n : Nat) (σ : xS)   : xMet l E yX13_parseBakery cX13_parseBakery 2 (some .int) { frames := 13, cells := 0, slots := 0, locals := 282 } [.ref (xqa E.2.2 184)] WW WW σ (xrS (m_X13_parseBakery n σ)) := by
  refine xMet.of0 (by decide) (Nat.le_of_ble_eq_true rfl) rfl rfl (fun X hE C => ?_)
  subst hE
  exact xMap (fun q => (some (iV q.1), q.2)) (wk_X13_parseBakery C (fun _ _ => rfl) )
theorem mt_X13_parseBakery : xMth yX13_parseBakery cX13_parseBakery 2 (some .int) 0 := ⟨wd1687, wd164, ⟨by decide, by decide, rfl⟩⟩
theorem vr_X13_parseBakery : xVir yX13_parseBakery := ⟨wd1685, wd1686⟩
