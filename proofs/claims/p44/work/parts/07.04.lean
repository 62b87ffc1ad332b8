def m_X7_readKnownName (n : Nat) (k1 z1 : Nat) (p2 : Int) (σ : xS) : Option (Int × xS) :=
  xlet (-1) fun v1 => (m_X10_isName n σ).bind fun v2 => xj (fun (q6 : Int × xS) => xj (fun (q10 : xS) => some (q6.1, q10)) fun J8 => if (m_X7_failed q6.2) = 0 then (m_X10_next n q6.2).bind fun s12 => J8 s12 else J8 q6.2) fun J4 => if (zI v2) = 0 then (m_X7_fail 1 σ).bind fun s17 => J4 (v1, s17) else (m_X7_indexOfName n k1 z1 p2 σ).bind fun v14 => if (zI v14) = (-1) then (m_X7_fail 4 σ).bind fun s16 => J4 (v14, s16) else J4 (v14, σ)
set_option maxHeartbeats 4000000 in
set_option maxRecDepth 100000 in
theorem wk_X7_readKnownName {X : xX} {Qf : (Int × xS) → State → Prop} {n : Nat} {k1 z1 : Nat} {p2 : Int} {σ : xS} (C : xCx X cX7_readKnownName "BakeryNight$Parser" (some .int) { frames := 7, cells := 0, slots := 0, locals := 152 } 4) (hQ : ∀ v τ, Qf (v, τ) = xQf X WW (some (iV v), τ)) (hk1 : xAt WW k1 1 z1) : WO X Qf WW σ 0 [(0, .ref (xqa (xXE X).2.2 2)), (1, .ref (xqa (xXE X).2.2 k1)), (2, iV p2)] [] (m_X7_readKnownName n k1 z1 p2 σ) := by
  unfold m_X7_readKnownName
  refine x_iconst C (-1) dX7_readKnownName_0 rfl ?_
  refine x_letI (fun v1 => ?_)
  refine x_istore_n (L' := [(3, _), (0, _), (1, _), (2, _)]) C dX7_readKnownName_1 rfl (by decide) rfl ?_
  refine x_aload_n C 1 dX7_readKnownName_2 rfl rfl ?_
  refine x_get (v := .ref (xqa (xXE X).2.2 3)) C 0 cls_X7 at_X7 (by decide) wd119 rfl (xV_r (rt_X7_scanner  _) rfl) dX7_readKnownName_3 ?_
  refine x_callV C (ct_X10_isName _ _ n σ) mt_X10_isName vr_X10_isName wd1007 cls_X10 at_X10 rfl ⟨rfl, rfl, Nat.le_of_ble_eq_true rfl, Nat.le_of_ble_eq_true rfl⟩ rfl (by decide) dX7_readKnownName_6 (kI (fun v2 => ?_))
  refine x_join (fun J => ∀ q6 : Int × xS, WO X Qf WW q6.2 37 [(0, .ref (xqa (xXE X).2.2 2)), (3, iV q6.1)] [] (J q6)) ?_ ?_
  · intro q6
    refine x_aload_n C 0 dX7_readKnownName_37 rfl rfl ?_
    refine x_callV C (ct_X7_failed _ _ q6.2) mt_X7_failed vr_X7_failed wd991 cls_X7 at_X7 rfl ⟨rfl, rfl, Nat.le_of_ble_eq_true rfl, Nat.le_of_ble_eq_true rfl⟩ rfl (by decide) dX7_readKnownName_38 (kP ?_)
    refine x_join (fun J => ∀ q10 : xS, WO X Qf WW q10 51 [(3, iV q6.1)] [] (J q10)) ?_ ?_
    · intro q10
      refine x_iload_n C 0 dX7_readKnownName_51 rfl rfl ?_
      exact x_iretQ C (hQ _ _) rfl dX7_readKnownName_52
    · intro J8 hJ9
      refine x_if_ne C 51 (zI_bo (bo_X7_failed _)) dX7_readKnownName_41 rfl (fun c11 => x_on c11 ?_) (fun c11 => x_op c11 ?_)
      · refine x_pick [1] rfl ?_
        exact hJ9 q6.2
      · refine x_aload_n C 0 dX7_readKnownName_44 rfl rfl ?_
        refine x_get (v := .ref (xqa (xXE X).2.2 3)) C 0 cls_X7 at_X7 (by decide) wd119 rfl (xV_r (rt_X7_scanner  _) rfl) dX7_readKnownName_45 ?_
        refine x_callV C (ct_X10_next _ _ n q6.2) mt_X10_next vr_X10_next wd978 cls_X10 at_X10 rfl ⟨rfl, rfl, Nat.le_of_ble_eq_true rfl, Nat.le_of_ble_eq_true rfl⟩ rfl (by decide) dX7_readKnownName_48 (kV (fun s12 => ?_))
        refine x_pick [1] rfl ?_
        exact hJ9 s12
  · intro J4 hJ5
    refine x_if_ne C 20 rfl dX7_readKnownName_9 rfl (fun c13 => x_on c13 ?_) (fun c13 => x_op c13 ?_)
    · refine x_aload_n C 1 dX7_readKnownName_20 rfl rfl ?_
      refine x_aload_n C 2 dX7_readKnownName_21 rfl rfl ?_
      refine x_iload_n C 3 dX7_readKnownName_22 rfl rfl ?_
      refine x_callV C (ct_X7_indexOfName _ _ n k1 z1 p2 σ hk1) mt_X7_indexOfName vr_X7_indexOfName wd1012 cls_X7 at_X7 rfl ⟨rfl, rfl, Nat.le_of_ble_eq_true rfl, Nat.le_of_ble_eq_true rfl⟩ rfl (by decide) dX7_readKnownName_23 (kI (fun v14 => ?_))
      refine x_istore_n (L' := [(3, _), (0, _), (1, _), (2, _)]) C dX7_readKnownName_26 rfl (by decide) rfl ?_
      refine x_iload_n C 0 dX7_readKnownName_27 rfl rfl ?_
      refine x_iconst C (-1) dX7_readKnownName_28 rfl ?_
      refine x_icmp_ne C 37 rfl (zIl _ rfl) dX7_readKnownName_29 rfl (fun c15 => x_on c15 ?_) (fun c15 => x_op c15 ?_)
      · refine x_pick [1, 0] rfl ?_
        exact hJ5 (v14, σ)
      · refine x_aload_n C 1 dX7_readKnownName_32 rfl rfl ?_
        refine x_iconst C (4) dX7_readKnownName_33 rfl ?_
        refine x_callV C (ct_X7_fail _ _ 4 σ) mt_X7_fail vr_X7_fail wd962 cls_X7 at_X7 rfl ⟨rfl, rfl, Nat.le_of_ble_eq_true rfl, Nat.le_of_ble_eq_true rfl⟩ rfl (by decide) dX7_readKnownName_34 (kV (fun s16 => ?_))
        refine x_pick [1, 0] rfl ?_
        exact hJ5 (v14, s16)
    · refine x_aload_n C 1 dX7_readKnownName_12 rfl rfl ?_
      refine x_iconst C (1) dX7_readKnownName_13 rfl ?_
      refine x_callV C (ct_X7_fail _ _ 1 σ) mt_X7_fail vr_X7_fail wd962 cls_X7 at_X7 rfl ⟨rfl, rfl, Nat.le_of_ble_eq_true rfl, Nat.le_of_ble_eq_true rfl⟩ rfl (by decide) dX7_readKnownName_14 (kV (fun s17 => ?_))
      refine x_goto C 37 dX7_readKnownName_17 rfl ?_
      refine x_pick [1, 0] rfl ?_
      exact hJ5 (v1, s17)
theorem ct_X7_readKnownName (l : Launch) (E : xE) (n : Nat) (k1 z1 : Nat) (p2 : Int) (σ : xS) (hk1 : xAt WW k1 1 z1)  : xMet l E yX7_readKnownName cX7_readKnownName 4 (some .int) { frames := 7, cells := 0, slots := 0, locals := 152 } [.ref (xqa E.2.2 2), .ref (xqa E.2.2 k1), iV p2] WW WW σ (xrS (m_X7_readKnownName n k1 z1 p2 σ)) := by
  refine xMet.of0 (by decide) (Nat.le_of_ble_eq_true rfl) rfl rfl (fun X hE C => ?_)
  subst hE
  exact xMap (fun q => (some (iV q.1), q.2)) (wk_X7_readKnownName C (fun _ _ => rfl) hk1)
theorem mt_X7_readKnownName : xMth yX7_readKnownName cX7_readKnownName 4 (some .int) 2 := ⟨wd1079, wd50, ⟨by decide, by decide, rfl⟩⟩
theorem vr_X7_readKnownName : xVir yX7_readKnownName := ⟨wd1078, wd43⟩
def m_X7_readOrder (n : Nat) (k1 : Nat) (σ : xS) : Option xS :=
  (m_X7_beginOneOf n 24 (σ k1 13) σ).bind fun s1 => xbS (m_X7_readKnownName n 5 7 (s1 k1 8) s1) fun v3 s2 => xbS (m_X7_readKnownName n 4 6 (s2 k1 5) s2) fun v5 s4 => xbS (m_X7_readNumber n 1 200 s4) fun v7 s6 => xbS (m_X7_readField n 22 0 1439 s6) fun v9 s8 => xj (fun (q13 : xS) => some q13) fun J11 => if (m_X7_failed s8) = 0 then xck (zI (s8 k1 13)) 24 <| (m_X5_set (k1 + 14 + (zI (s8 k1 13)).toNat) v3 v5 v7 v9 s8).bind fun s16 => xlet (xput s16 k1 13 ((s16 k1 13) + 1)) fun s17 => J11 s17 else J11 s8
set_option maxHeartbeats 4000000 in
set_option maxRecDepth 100000 in
theorem wk_X7_readOrder {X : xX} {Qf : xS → State → Prop} {n : Nat} {k1 : Nat} {σ : xS} (C : xCx X cX7_readOrder "BakeryNight$Parser" none { frames := 8, cells := 0, slots := 0, locals := 175 } 6) (hQ : ∀ τ, Qf τ = xQf X WW (none, τ)) (hk1 : isBk k1) : WO X Qf WW σ 0 [(0, .ref (xqa (xXE X).2.2 2)), (1, .ref (xqa (xXE X).2.2 k1))] [] (m_X7_readOrder n k1 σ) := by
  unfold m_X7_readOrder
  refine x_aload_n C 0 dX7_readOrder_0 rfl rfl ?_
  refine x_bipush C (24) dX7_readOrder_1 rfl ?_
  refine x_aload_n C 1 dX7_readOrder_3 rfl rfl ?_
  refine x_get (v := iV (σ k1 13)) C 13 cls_X1 (at_X1 hk1) (by decide) wd387 rfl rfl dX7_readOrder_4 ?_
  refine x_callV C (ct_X7_beginOneOf _ _ n 24 (σ k1 13) σ) mt_X7_beginOneOf vr_X7_beginOneOf wd999 cls_X7 at_X7 rfl ⟨rfl, rfl, Nat.le_of_ble_eq_true rfl, Nat.le_of_ble_eq_true rfl⟩ rfl (by decide) dX7_readOrder_7 (kV (fun s1 => ?_))
  refine x_aload_n C 0 dX7_readOrder_10 rfl rfl ?_
  refine x_aload_n C 0 dX7_readOrder_11 rfl rfl ?_
  refine x_get (v := .ref (xqa (xXE X).2.2 5)) C 2 cls_X7 at_X7 (by decide) wd121 rfl (xV_r (rt_X7_shopNames  _) rfl) dX7_readOrder_12 ?_
  refine x_aload_n C 1 dX7_readOrder_15 rfl rfl ?_
  refine x_get (v := iV (s1 k1 8)) C 8 cls_X1 (at_X1 hk1) (by decide) wd365 rfl rfl dX7_readOrder_16 ?_
  refine x_callV C (ct_X7_readKnownName _ _ n 5 7 (s1 k1 8) s1 at_X7_shopNames) mt_X7_readKnownName vr_X7_readKnownName wd1076 cls_X7 at_X7 rfl ⟨rfl, rfl, Nat.le_of_ble_eq_true rfl, Nat.le_of_ble_eq_true rfl⟩ rfl (by decide) dX7_readOrder_19 (kS (fun v3 s2 => ?_))
  refine x_istore_n (L' := [(2, _), (0, _), (1, _)]) C dX7_readOrder_22 rfl (by decide) rfl ?_
  refine x_aload_n C 1 dX7_readOrder_23 rfl rfl ?_
  refine x_aload_n C 1 dX7_readOrder_24 rfl rfl ?_
  refine x_get (v := .ref (xqa (xXE X).2.2 4)) C 1 cls_X7 at_X7 (by decide) wd120 rfl (xV_r (rt_X7_doughNames  _) rfl) dX7_readOrder_25 ?_
  refine x_aload_n C 2 dX7_readOrder_28 rfl rfl ?_
  refine x_get (v := iV (s2 k1 5)) C 5 cls_X1 (at_X1 hk1) (by decide) wd354 rfl rfl dX7_readOrder_29 ?_
  refine x_callV C (ct_X7_readKnownName _ _ n 4 6 (s2 k1 5) s2 at_X7_doughNames) mt_X7_readKnownName vr_X7_readKnownName wd1076 cls_X7 at_X7 rfl ⟨rfl, rfl, Nat.le_of_ble_eq_true rfl, Nat.le_of_ble_eq_true rfl⟩ rfl (by decide) dX7_readOrder_32 (kS (fun v5 s4 => ?_))
  refine x_istore_n (L' := [(3, _), (2, _), (0, _), (1, _)]) C dX7_readOrder_35 rfl (by decide) rfl ?_
  refine x_aload_n C 2 dX7_readOrder_36 rfl rfl ?_
  refine x_iconst C (1) dX7_readOrder_37 rfl ?_
  refine x_sipush C (200) dX7_readOrder_38 rfl ?_
  refine x_callV C (ct_X7_readNumber _ _ n 1 200 s4) mt_X7_readNumber vr_X7_readNumber wd979 cls_X7 at_X7 rfl ⟨rfl, rfl, Nat.le_of_ble_eq_true rfl, Nat.le_of_ble_eq_true rfl⟩ rfl (by decide) dX7_readOrder_41 (kS (fun v7 s6 => ?_))
  refine x_istore (L' := [(4, _), (3, _), (2, _), (0, _), (1, _)]) C dX7_readOrder_44 (by decide) rfl ?_
  refine x_aload_n C 3 dX7_readOrder_46 rfl rfl ?_
  refine x_gsW C 22 (by decide) wd1080 dX7_readOrder_47 ?_
  refine x_iconst C (0) dX7_readOrder_50 rfl ?_
  refine x_sipush C (1439) dX7_readOrder_51 rfl ?_
  refine x_callV C (ct_X7_readField _ _ n 22 0 1439 s6 (by decide)) mt_X7_readField vr_X7_readField wd1024 cls_X7 at_X7 rfl ⟨rfl, rfl, Nat.le_of_ble_eq_true rfl, Nat.le_of_ble_eq_true rfl⟩ rfl (by decide) dX7_readOrder_54 (kS (fun v9 s8 => ?_))
  refine x_istore (L' := [(5, _), (4, _), (3, _), (2, _), (0, _), (1, _)]) C dX7_readOrder_57 (by decide) rfl ?_
  refine x_aload_n C 4 dX7_readOrder_59 rfl rfl ?_
  refine x_callV C (ct_X7_failed _ _ s8) mt_X7_failed vr_X7_failed wd991 cls_X7 at_X7 rfl ⟨rfl, rfl, Nat.le_of_ble_eq_true rfl, Nat.le_of_ble_eq_true rfl⟩ rfl (by decide) dX7_readOrder_60 (kP ?_)
  refine x_join (fun J => ∀ q13 : xS, WO X Qf WW q13 94 [] [] (J q13)) ?_ ?_
  · intro q13
    exact x_vretQ C (hQ _) rfl dX7_readOrder_94
  · intro J11 hJ12
    refine x_if_ne C 94 (zI_bo (bo_X7_failed _)) dX7_readOrder_63 rfl (fun c14 => x_on c14 ?_) (fun c14 => x_op c14 ?_)
    · refine x_pick [] rfl ?_
      exact hJ12 s8
    · refine x_aload_n C 5 dX7_readOrder_66 rfl rfl ?_
      refine x_get (v := .ref (xqa (xXE X).2.2 (k1 + 13))) C 12 cls_X1 (at_X1 hk1) (by decide) wd381 rfl (xV_r (rt_X1_orders hk1 _) rfl) dX7_readOrder_67 ?_
      refine x_aload_n C 5 dX7_readOrder_70 rfl rfl ?_
      refine x_get (v := iV (s8 k1 13)) C 13 cls_X1 (at_X1 hk1) (by decide) wd387 rfl rfl dX7_readOrder_71 ?_
      refine x_aald C (at_X1_orders hk1) (by decide) rfl (fun h15 => rl_X1_orders hk1 _ h15) dX7_readOrder_74 (fun h15 => ?_)
      refine x_iload_n C 3 dX7_readOrder_75 rfl rfl ?_
      refine x_iload_n C 2 dX7_readOrder_76 rfl rfl ?_
      refine x_iload C 1 dX7_readOrder_77 rfl ?_
      refine x_iload C 0 dX7_readOrder_79 rfl ?_
      refine x_callV C (ct_X5_set _ _ (k1 + 14 + (zI (s8 k1 13)).toNat) v3 v5 v7 v9 s8 (el_X1_orders hk1 h15)) mt_X5_set vr_X5_set wd1082 cls_X5 (el_X1_orders hk1 h15) rfl ⟨rfl, rfl, Nat.le_of_ble_eq_true rfl, Nat.le_of_ble_eq_true rfl⟩ rfl (by decide) dX7_readOrder_81 (kV (fun s16 => ?_))
      refine x_aload_n C 5 dX7_readOrder_84 rfl rfl ?_
      refine x_dup C dX7_readOrder_85 rfl ?_
      refine x_get (v := iV (s16 k1 13)) C 13 cls_X1 (at_X1 hk1) (by decide) wd387 rfl rfl dX7_readOrder_86 ?_
      refine x_iconst C (1) dX7_readOrder_89 rfl ?_
      refine x_iadd C dX7_readOrder_90 ?_
      refine x_put C 13 ((s16 k1 13) + 1) cls_X1 (at_X1 hk1) (by decide) wd387 rfl rfl rfl rfl (xV_pI rfl) dX7_readOrder_91 ?_
      refine x_letS (fun s17 => ?_)
      refine x_pick [] rfl ?_
      exact hJ12 s17
theorem ct_X7_readOrder (l : Launch) (E : xE) (n : Nat) (k1 : Nat) (σ : xS) (hk1 : isBk k1)  : xMet l E yX7_readOrder cX7_readOrder 6 none { frames := 8, cells := 0, slots := 0, locals := 175 } [.ref (xqa E.2.2 2), .ref (xqa E.2.2 k1)] WW WW σ (xrV (m_X7_readOrder n k1 σ)) := by
  refine xMet.of0 (by decide) (Nat.le_of_ble_eq_true rfl) rfl rfl (fun X hE C => ?_)
  subst hE
  exact xMap (fun q => (none, q)) (wk_X7_readOrder C (fun _ => rfl) hk1)
theorem mt_X7_readOrder : xMth yX7_readOrder cX7_readOrder 6 none 1 := ⟨wd1075, wd50, ⟨by decide, by decide, rfl⟩⟩
theorem vr_X7_readOrder : xVir yX7_readOrder := ⟨wd1074, wd42⟩
