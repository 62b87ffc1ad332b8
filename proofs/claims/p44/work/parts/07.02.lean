def m_X7_readField (n : Nat) (p1 : Int) (p2 : Int) (p3 : Int) (σ : xS) : Option (Int × xS) :=
  (m_X10_keyword n σ).bind fun v1 => xwd v1 <| xj (fun (q6 : xS) => if (m_X7_failed q6) = 0 then (m_X10_next n q6).bind fun s8 => xbS (m_X7_readNumber n p2 p3 s8) fun v10 s9 => some (v10, s9) else some (p2, q6)) fun J4 => if v1 = p1 then J4 σ else (m_X7_fail 1 σ).bind fun s12 => J4 s12
set_option maxHeartbeats 4000000 in
set_option maxRecDepth 100000 in
theorem wk_X7_readField {X : xX} {Qf : (Int × xS) → State → Prop} {n : Nat} {p1 : Int} {p2 : Int} {p3 : Int} {σ : xS} (C : xCx X cX7_readField "BakeryNight$Parser" (some .int) { frames := 6, cells := 0, slots := 0, locals := 132 } 4) (hQ : ∀ v τ, Qf (v, τ) = xQf X WW (some (iV v), τ)) (hp1 : 0 ≤ p1 ∧ p1 < 24) : WO X Qf WW σ 0 [(0, .ref (xqa (xXE X).2.2 2)), (1, .ref ((xXE X).2.1.2.2 0 p1.toNat)), (2, iV p2), (3, iV p3)] [] (m_X7_readField n p1 p2 p3 σ) := by
  unfold m_X7_readField
  refine x_aload_n C 0 dX7_readField_0 rfl rfl ?_
  refine x_get (v := .ref (xqa (xXE X).2.2 3)) C 0 cls_X7 at_X7 (by decide) wd119 rfl (xV_r (rt_X7_scanner  _) rfl) dX7_readField_1 ?_
  refine x_callV C (ct_X10_keyword _ _ n σ) mt_X10_keyword vr_X10_keyword wd954 cls_X10 at_X10 rfl ⟨rfl, rfl, Nat.le_of_ble_eq_true rfl, Nat.le_of_ble_eq_true rfl⟩ rfl (by decide) dX7_readField_4 (kW (fun v1 => ?_))
  refine x_wd (fun hw2 => ?_)
  refine x_aload_n C 1 dX7_readField_7 rfl rfl ?_
  refine x_join (fun J => ∀ q6 : xS, WO X Qf WW q6 16 [(0, .ref (xqa (xXE X).2.2 2)), (2, iV p2), (3, iV p3)] [] (J q6)) ?_ ?_
  · intro q6
    refine x_aload_n C 0 dX7_readField_16 rfl rfl ?_
    refine x_callV C (ct_X7_failed _ _ q6) mt_X7_failed vr_X7_failed wd991 cls_X7 at_X7 rfl ⟨rfl, rfl, Nat.le_of_ble_eq_true rfl, Nat.le_of_ble_eq_true rfl⟩ rfl (by decide) dX7_readField_17 (kP ?_)
    refine x_if_eq C 25 (zI_bo (bo_X7_failed _)) dX7_readField_20 rfl (fun c7 => x_op c7 ?_) (fun c7 => x_on c7 ?_)
    · refine x_aload_n C 0 dX7_readField_25 rfl rfl ?_
      refine x_get (v := .ref (xqa (xXE X).2.2 3)) C 0 cls_X7 at_X7 (by decide) wd119 rfl (xV_r (rt_X7_scanner  _) rfl) dX7_readField_26 ?_
      refine x_callV C (ct_X10_next _ _ n q6) mt_X10_next vr_X10_next wd978 cls_X10 at_X10 rfl ⟨rfl, rfl, Nat.le_of_ble_eq_true rfl, Nat.le_of_ble_eq_true rfl⟩ rfl (by decide) dX7_readField_29 (kV (fun s8 => ?_))
      refine x_aload_n C 0 dX7_readField_32 rfl rfl ?_
      refine x_iload_n C 1 dX7_readField_33 rfl rfl ?_
      refine x_iload_n C 2 dX7_readField_34 rfl rfl ?_
      refine x_callV C (ct_X7_readNumber _ _ n p2 p3 s8) mt_X7_readNumber vr_X7_readNumber wd979 cls_X7 at_X7 rfl ⟨rfl, rfl, Nat.le_of_ble_eq_true rfl, Nat.le_of_ble_eq_true rfl⟩ rfl (by decide) dX7_readField_35 (kS (fun v10 s9 => ?_))
      exact x_iretQ C (hQ _ _) rfl dX7_readField_38
    · refine x_iload_n C 1 dX7_readField_23 rfl rfl ?_
      exact x_iretQ C (hQ _ _) rfl dX7_readField_24
  · intro J4 hJ5
    refine x_acmpW_eq C hw2 hp1 16 dX7_readField_8 rfl (fun c11 => x_op c11 ?_) (fun c11 => x_on c11 ?_)
    · refine x_pick [0, 2, 3] rfl ?_
      exact hJ5 σ
    · refine x_aload_n C 0 dX7_readField_11 rfl rfl ?_
      refine x_iconst C (1) dX7_readField_12 rfl ?_
      refine x_callV C (ct_X7_fail _ _ 1 σ) mt_X7_fail vr_X7_fail wd962 cls_X7 at_X7 rfl ⟨rfl, rfl, Nat.le_of_ble_eq_true rfl, Nat.le_of_ble_eq_true rfl⟩ rfl (by decide) dX7_readField_13 (kV (fun s12 => ?_))
      refine x_pick [0, 2, 3] rfl ?_
      exact hJ5 s12
theorem ct_X7_readField (l : Launch) (E : xE) (n : Nat) (p1 : Int) (p2 : Int) (p3 : Int) (σ : xS) (hp1 : 0 ≤ p1 ∧ p1 < 24)  : xMet l E yX7_readField cX7_readField 4 (some .int) { frames := 6, cells := 0, slots := 0, locals := 132 } [.ref (xqa E.2.2 2), .ref (E.2.1.2.2 0 p1.toNat), iV p2, iV p3] WW WW σ (xrS (m_X7_readField n p1 p2 p3 σ)) := by
  refine xMet.of0 (by decide) (Nat.le_of_ble_eq_true rfl) rfl rfl (fun X hE C => ?_)
  subst hE
  exact xMap (fun q => (some (iV q.1), q.2)) (wk_X7_readField C (fun _ _ => rfl) hp1)
theorem mt_X7_readField : xMth yX7_readField cX7_readField 4 (some .int) 3 := ⟨wd1027, wd50, ⟨by decide, by decide, rfl⟩⟩
theorem vr_X7_readField : xVir yX7_readField := ⟨wd1026, wd36⟩
def m_X7_readDough (n : Nat) (k1 : Nat) (σ : xS) : Option xS :=
  xlet (σ k1 5) fun v1 => (m_X7_beginOneOf n 6 v1 σ).bind fun s2 => (m_X7_readNewName n 4 6 v1 s2).bind fun s3 => if (m_X7_failed s3) = 0 then xck (zI v1) 6 <| xbS (m_X7_readField n 5 1 120 s3) fun v7 s6 => xlet (xput s6 (k1 + 2 + (zI v1).toNat) 0 v7) fun s8 => xbS (m_X7_readField n 6 0 300 s8) fun v10 s9 => xlet (xput s9 (k1 + 2 + (zI v1).toNat) 1 v10) fun s11 => xbS (m_X7_readField n 7 1 120 s11) fun v13 s12 => xlet (xput s12 (k1 + 2 + (zI v1).toNat) 2 v13) fun s14 => xbS (m_X7_readField n 8 0 300 s14) fun v16 s15 => xlet (xput s15 (k1 + 2 + (zI v1).toNat) 3 v16) fun s17 => xbS (m_X7_readField n 9 0 240 s17) fun v19 s18 => xlet (xput s18 (k1 + 2 + (zI v1).toNat) 4 v19) fun s20 => xbS (m_X7_readField n 10 1 120 s20) fun v22 s21 => xlet (xput s21 (k1 + 2 + (zI v1).toNat) 5 v22) fun s23 => xbS (m_X7_readField n 11 100 300 s23) fun v25 s24 => xlet (xput s24 (k1 + 2 + (zI v1).toNat) 6 v25) fun s26 => xbS (m_X7_readField n 12 5 200 s26) fun v28 s27 => xlet (xput s27 (k1 + 2 + (zI v1).toNat) 7 v28) fun s29 => xbS (m_X7_readField n 13 1 1440 s29) fun v31 s30 => xlet (xput s30 (k1 + 2 + (zI v1).toNat) 8 v31) fun s32 => xbS (m_X7_readField n 14 0 999 s32) fun v34 s33 => xlet (xput s33 (k1 + 2 + (zI v1).toNat) 9 v34) fun s35 => xlet (xput s35 k1 5 ((s35 k1 5) + 1)) fun s36 => some s36 else some s3
set_option maxHeartbeats 4000000 in
set_option maxRecDepth 100000 in
theorem wk_X7_readDough {X : xX} {Qf : xS → State → Prop} {n : Nat} {k1 : Nat} {σ : xS} (C : xCx X cX7_readDough "BakeryNight$Parser" none { frames := 8, cells := 0, slots := 0, locals := 174 } 4) (hQ : ∀ τ, Qf τ = xQf X WW (none, τ)) (hk1 : isBk k1) : WO X Qf WW σ 0 [(0, .ref (xqa (xXE X).2.2 2)), (1, .ref (xqa (xXE X).2.2 k1))] [] (m_X7_readDough n k1 σ) := by
  unfold m_X7_readDough
  refine x_aload_n C 1 dX7_readDough_0 rfl rfl ?_
  refine x_get (v := iV (σ k1 5)) C 5 cls_X1 (at_X1 hk1) (by decide) wd354 rfl rfl dX7_readDough_1 ?_
  refine x_letI (fun v1 => ?_)
  refine x_istore_n (L' := [(2, _), (0, _), (1, _)]) C dX7_readDough_4 rfl (by decide) rfl ?_
  refine x_aload_n C 1 dX7_readDough_5 rfl rfl ?_
  refine x_bipush C (6) dX7_readDough_6 rfl ?_
  refine x_iload_n C 0 dX7_readDough_8 rfl rfl ?_
  refine x_callV C (ct_X7_beginOneOf _ _ n 6 v1 σ) mt_X7_beginOneOf vr_X7_beginOneOf wd999 cls_X7 at_X7 rfl ⟨rfl, rfl, Nat.le_of_ble_eq_true rfl, Nat.le_of_ble_eq_true rfl⟩ rfl (by decide) dX7_readDough_9 (kV (fun s2 => ?_))
  refine x_aload_n C 1 dX7_readDough_12 rfl rfl ?_
  refine x_aload_n C 1 dX7_readDough_13 rfl rfl ?_
  refine x_get (v := .ref (xqa (xXE X).2.2 4)) C 1 cls_X7 at_X7 (by decide) wd120 rfl (xV_r (rt_X7_doughNames  _) rfl) dX7_readDough_14 ?_
  refine x_iload_n C 0 dX7_readDough_17 rfl rfl ?_
  refine x_callV C (ct_X7_readNewName _ _ n 4 6 v1 s2 at_X7_doughNames) mt_X7_readNewName vr_X7_readNewName wd1003 cls_X7 at_X7 rfl ⟨rfl, rfl, Nat.le_of_ble_eq_true rfl, Nat.le_of_ble_eq_true rfl⟩ rfl (by decide) dX7_readDough_18 (kV (fun s3 => ?_))
  refine x_aload_n C 1 dX7_readDough_21 rfl rfl ?_
  refine x_callV C (ct_X7_failed _ _ s3) mt_X7_failed vr_X7_failed wd991 cls_X7 at_X7 rfl ⟨rfl, rfl, Nat.le_of_ble_eq_true rfl, Nat.le_of_ble_eq_true rfl⟩ rfl (by decide) dX7_readDough_22 (kP ?_)
  refine x_if_eq C 29 (zI_bo (bo_X7_failed _)) dX7_readDough_25 rfl (fun c4 => x_op c4 ?_) (fun c4 => x_on c4 ?_)
  · refine x_aload_n C 2 dX7_readDough_29 rfl rfl ?_
    refine x_get (v := .ref (xqa (xXE X).2.2 (k1 + 1))) C 4 cls_X1 (at_X1 hk1) (by decide) wd351 rfl (xV_r (rt_X1_doughs hk1 _) rfl) dX7_readDough_30 ?_
    refine x_iload_n C 0 dX7_readDough_33 rfl rfl ?_
    refine x_aald C (at_X1_doughs hk1) (by decide) rfl (fun h5 => rl_X1_doughs hk1 _ h5) dX7_readDough_34 (fun h5 => ?_)
    refine x_astore_n (L' := [(3, _), (2, _), (0, _), (1, _)]) C dX7_readDough_35 rfl (by decide) rfl ?_
    refine x_aload_n C 0 dX7_readDough_36 rfl rfl ?_
    refine x_aload_n C 2 dX7_readDough_37 rfl rfl ?_
    refine x_gsW C 5 (by decide) wd1022 dX7_readDough_38 ?_
    refine x_iconst C (1) dX7_readDough_41 rfl ?_
    refine x_bipush C (120) dX7_readDough_42 rfl ?_
    refine x_callV C (ct_X7_readField _ _ n 5 1 120 s3 (by decide)) mt_X7_readField vr_X7_readField wd1024 cls_X7 at_X7 rfl ⟨rfl, rfl, Nat.le_of_ble_eq_true rfl, Nat.le_of_ble_eq_true rfl⟩ rfl (Nat.le_of_ble_eq_true rfl) dX7_readDough_44 (kS (fun v7 s6 => ?_))
    refine x_put C 0 v7 cls_X2 (el_X1_doughs hk1 h5) (by decide) wd162 rfl rfl rfl rfl (xV_pI rfl) dX7_readDough_47 ?_
    refine x_letS (fun s8 => ?_)
    refine x_aload_n C 0 dX7_readDough_50 rfl rfl ?_
    refine x_aload_n C 2 dX7_readDough_51 rfl rfl ?_
    refine x_gsW C 6 (by decide) wd1028 dX7_readDough_52 ?_
    refine x_iconst C (0) dX7_readDough_55 rfl ?_
    refine x_sipush C (300) dX7_readDough_56 rfl ?_
    refine x_callV C (ct_X7_readField _ _ n 6 0 300 s8 (by decide)) mt_X7_readField vr_X7_readField wd1024 cls_X7 at_X7 rfl ⟨rfl, rfl, Nat.le_of_ble_eq_true rfl, Nat.le_of_ble_eq_true rfl⟩ rfl (Nat.le_of_ble_eq_true rfl) dX7_readDough_59 (kS (fun v10 s9 => ?_))
    refine x_put C 1 v10 cls_X2 (el_X1_doughs hk1 h5) (by decide) wd164 rfl rfl rfl rfl (xV_pI rfl) dX7_readDough_62 ?_
    refine x_letS (fun s11 => ?_)
    refine x_aload_n C 0 dX7_readDough_65 rfl rfl ?_
    refine x_aload_n C 2 dX7_readDough_66 rfl rfl ?_
    refine x_gsW C 7 (by decide) wd1030 dX7_readDough_67 ?_
    refine x_iconst C (1) dX7_readDough_70 rfl ?_
    refine x_bipush C (120) dX7_readDough_71 rfl ?_
    refine x_callV C (ct_X7_readField _ _ n 7 1 120 s11 (by decide)) mt_X7_readField vr_X7_readField wd1024 cls_X7 at_X7 rfl ⟨rfl, rfl, Nat.le_of_ble_eq_true rfl, Nat.le_of_ble_eq_true rfl⟩ rfl (Nat.le_of_ble_eq_true rfl) dX7_readDough_73 (kS (fun v13 s12 => ?_))
    refine x_put C 2 v13 cls_X2 (el_X1_doughs hk1 h5) (by decide) wd166 rfl rfl rfl rfl (xV_pI rfl) dX7_readDough_76 ?_
    refine x_letS (fun s14 => ?_)
    refine x_aload_n C 0 dX7_readDough_79 rfl rfl ?_
    refine x_aload_n C 2 dX7_readDough_80 rfl rfl ?_
    refine x_gsW C 8 (by decide) wd1032 dX7_readDough_81 ?_
    refine x_iconst C (0) dX7_readDough_84 rfl ?_
    refine x_sipush C (300) dX7_readDough_85 rfl ?_
    refine x_callV C (ct_X7_readField _ _ n 8 0 300 s14 (by decide)) mt_X7_readField vr_X7_readField wd1024 cls_X7 at_X7 rfl ⟨rfl, rfl, Nat.le_of_ble_eq_true rfl, Nat.le_of_ble_eq_true rfl⟩ rfl (Nat.le_of_ble_eq_true rfl) dX7_readDough_88 (kS (fun v16 s15 => ?_))
    refine x_put C 3 v16 cls_X2 (el_X1_doughs hk1 h5) (by decide) wd168 rfl rfl rfl rfl (xV_pI rfl) dX7_readDough_91 ?_
    refine x_letS (fun s17 => ?_)
    refine x_aload_n C 0 dX7_readDough_94 rfl rfl ?_
    refine x_aload_n C 2 dX7_readDough_95 rfl rfl ?_
    refine x_gsW C 9 (by decide) wd1034 dX7_readDough_96 ?_
    refine x_iconst C (0) dX7_readDough_99 rfl ?_
    refine x_sipush C (240) dX7_readDough_100 rfl ?_
    refine x_callV C (ct_X7_readField _ _ n 9 0 240 s17 (by decide)) mt_X7_readField vr_X7_readField wd1024 cls_X7 at_X7 rfl ⟨rfl, rfl, Nat.le_of_ble_eq_true rfl, Nat.le_of_ble_eq_true rfl⟩ rfl (Nat.le_of_ble_eq_true rfl) dX7_readDough_103 (kS (fun v19 s18 => ?_))
    refine x_put C 4 v19 cls_X2 (el_X1_doughs hk1 h5) (by decide) wd171 rfl rfl rfl rfl (xV_pI rfl) dX7_readDough_106 ?_
    refine x_letS (fun s20 => ?_)
    refine x_aload_n C 0 dX7_readDough_109 rfl rfl ?_
    refine x_aload_n C 2 dX7_readDough_110 rfl rfl ?_
    refine x_gsW C 10 (by decide) wd1036 dX7_readDough_111 ?_
    refine x_iconst C (1) dX7_readDough_114 rfl ?_
    refine x_bipush C (120) dX7_readDough_115 rfl ?_
    refine x_callV C (ct_X7_readField _ _ n 10 1 120 s20 (by decide)) mt_X7_readField vr_X7_readField wd1024 cls_X7 at_X7 rfl ⟨rfl, rfl, Nat.le_of_ble_eq_true rfl, Nat.le_of_ble_eq_true rfl⟩ rfl (Nat.le_of_ble_eq_true rfl) dX7_readDough_117 (kS (fun v22 s21 => ?_))
    refine x_put C 5 v22 cls_X2 (el_X1_doughs hk1 h5) (by decide) wd173 rfl rfl rfl rfl (xV_pI rfl) dX7_readDough_120 ?_
    refine x_letS (fun s23 => ?_)
    refine x_aload_n C 0 dX7_readDough_123 rfl rfl ?_
    refine x_aload_n C 2 dX7_readDough_124 rfl rfl ?_
    refine x_gsW C 11 (by decide) wd1038 dX7_readDough_125 ?_
    refine x_bipush C (100) dX7_readDough_128 rfl ?_
    refine x_sipush C (300) dX7_readDough_130 rfl ?_
    refine x_callV C (ct_X7_readField _ _ n 11 100 300 s23 (by decide)) mt_X7_readField vr_X7_readField wd1024 cls_X7 at_X7 rfl ⟨rfl, rfl, Nat.le_of_ble_eq_true rfl, Nat.le_of_ble_eq_true rfl⟩ rfl (Nat.le_of_ble_eq_true rfl) dX7_readDough_133 (kS (fun v25 s24 => ?_))
    refine x_put C 6 v25 cls_X2 (el_X1_doughs hk1 h5) (by decide) wd175 rfl rfl rfl rfl (xV_pI rfl) dX7_readDough_136 ?_
    refine x_letS (fun s26 => ?_)
    refine x_aload_n C 0 dX7_readDough_139 rfl rfl ?_
    refine x_aload_n C 2 dX7_readDough_140 rfl rfl ?_
    refine x_gsW C 12 (by decide) wd1040 dX7_readDough_141 ?_
    refine x_iconst C (5) dX7_readDough_144 rfl ?_
    refine x_sipush C (200) dX7_readDough_145 rfl ?_
    refine x_callV C (ct_X7_readField _ _ n 12 5 200 s26 (by decide)) mt_X7_readField vr_X7_readField wd1024 cls_X7 at_X7 rfl ⟨rfl, rfl, Nat.le_of_ble_eq_true rfl, Nat.le_of_ble_eq_true rfl⟩ rfl (Nat.le_of_ble_eq_true rfl) dX7_readDough_148 (kS (fun v28 s27 => ?_))
    refine x_put C 7 v28 cls_X2 (el_X1_doughs hk1 h5) (by decide) wd176 rfl rfl rfl rfl (xV_pI rfl) dX7_readDough_151 ?_
    refine x_letS (fun s29 => ?_)
    refine x_aload_n C 0 dX7_readDough_154 rfl rfl ?_
    refine x_aload_n C 2 dX7_readDough_155 rfl rfl ?_
    refine x_gsW C 13 (by decide) wd1042 dX7_readDough_156 ?_
    refine x_iconst C (1) dX7_readDough_159 rfl ?_
    refine x_sipush C (1440) dX7_readDough_160 rfl ?_
    refine x_callV C (ct_X7_readField _ _ n 13 1 1440 s29 (by decide)) mt_X7_readField vr_X7_readField wd1024 cls_X7 at_X7 rfl ⟨rfl, rfl, Nat.le_of_ble_eq_true rfl, Nat.le_of_ble_eq_true rfl⟩ rfl (Nat.le_of_ble_eq_true rfl) dX7_readDough_163 (kS (fun v31 s30 => ?_))
    refine x_put C 8 v31 cls_X2 (el_X1_doughs hk1 h5) (by decide) wd179 rfl rfl rfl rfl (xV_pI rfl) dX7_readDough_166 ?_
    refine x_letS (fun s32 => ?_)
    refine x_aload_n C 0 dX7_readDough_169 rfl rfl ?_
    refine x_aload_n C 2 dX7_readDough_170 rfl rfl ?_
    refine x_gsW C 14 (by decide) wd1044 dX7_readDough_171 ?_
    refine x_iconst C (0) dX7_readDough_174 rfl ?_
    refine x_sipush C (999) dX7_readDough_175 rfl ?_
    refine x_callV C (ct_X7_readField _ _ n 14 0 999 s32 (by decide)) mt_X7_readField vr_X7_readField wd1024 cls_X7 at_X7 rfl ⟨rfl, rfl, Nat.le_of_ble_eq_true rfl, Nat.le_of_ble_eq_true rfl⟩ rfl (Nat.le_of_ble_eq_true rfl) dX7_readDough_178 (kS (fun v34 s33 => ?_))
    refine x_put C 9 v34 cls_X2 (el_X1_doughs hk1 h5) (by decide) wd181 rfl rfl rfl rfl (xV_pI rfl) dX7_readDough_181 ?_
    refine x_letS (fun s35 => ?_)
    refine x_aload_n C 3 dX7_readDough_184 rfl rfl ?_
    refine x_dup C dX7_readDough_185 rfl ?_
    refine x_get (v := iV (s35 k1 5)) C 5 cls_X1 (at_X1 hk1) (by decide) wd354 rfl rfl dX7_readDough_186 ?_
    refine x_iconst C (1) dX7_readDough_189 rfl ?_
    refine x_iadd C dX7_readDough_190 ?_
    refine x_put C 5 ((s35 k1 5) + 1) cls_X1 (at_X1 hk1) (by decide) wd354 rfl rfl rfl rfl (xV_pI rfl) dX7_readDough_191 ?_
    refine x_letS (fun s36 => ?_)
    exact x_vretQ C (hQ _) rfl dX7_readDough_194
  · exact x_vretQ C (hQ _) rfl dX7_readDough_28
theorem ct_X7_readDough (l : Launch) (E : xE) (n : Nat) (k1 : Nat) (σ : xS) (hk1 : isBk k1)  : xMet l E yX7_readDough cX7_readDough 4 none { frames := 8, cells := 0, slots := 0, locals := 174 } [.ref (xqa E.2.2 2), .ref (xqa E.2.2 k1)] WW WW σ (xrV (m_X7_readDough n k1 σ)) := by
  refine xMet.of0 (by decide) (Nat.le_of_ble_eq_true rfl) rfl rfl (fun X hE C => ?_)
  subst hE
  exact xMap (fun q => (none, q)) (wk_X7_readDough C (fun _ => rfl) hk1)
theorem mt_X7_readDough : xMth yX7_readDough cX7_readDough 4 none 1 := ⟨wd998, wd50, ⟨by decide, by decide, rfl⟩⟩
theorem vr_X7_readDough : xVir yX7_readDough := ⟨wd997, wd32⟩
def m_X7_readOven (n : Nat) (k1 : Nat) (σ : xS) : Option xS :=
  xlet (σ k1 7) fun v1 => (m_X7_beginOneOf n 4 v1 σ).bind fun s2 => if (m_X7_failed s2) = 0 then xck (zI v1) 4 <| xbS (m_X7_readField n 16 1 6 s2) fun v6 s5 => xlet (xput s5 (k1 + 9 + (zI v1).toNat) 0 v6) fun s7 => xbS (m_X7_readField n 11 20 300 s7) fun v9 s8 => xlet (xput s8 (k1 + 9 + (zI v1).toNat) 1 v9) fun s10 => xbS (m_X7_readField n 17 1 50 s10) fun v12 s11 => xlet (xput s11 (k1 + 9 + (zI v1).toNat) 2 v12) fun s13 => xlet (xput s13 (k1 + 9 + (zI v1).toNat) 3 0) fun s14 => xlet (xput s14 k1 7 ((s14 k1 7) + 1)) fun s15 => some s15 else some s2
set_option maxHeartbeats 4000000 in
set_option maxRecDepth 100000 in
theorem wk_X7_readOven {X : xX} {Qf : xS → State → Prop} {n : Nat} {k1 : Nat} {σ : xS} (C : xCx X cX7_readOven "BakeryNight$Parser" none { frames := 7, cells := 0, slots := 0, locals := 155 } 4) (hQ : ∀ τ, Qf τ = xQf X WW (none, τ)) (hk1 : isBk k1) : WO X Qf WW σ 0 [(0, .ref (xqa (xXE X).2.2 2)), (1, .ref (xqa (xXE X).2.2 k1))] [] (m_X7_readOven n k1 σ) := by
  unfold m_X7_readOven
  refine x_aload_n C 1 dX7_readOven_0 rfl rfl ?_
  refine x_get (v := iV (σ k1 7)) C 7 cls_X1 (at_X1 hk1) (by decide) wd363 rfl rfl dX7_readOven_1 ?_
  refine x_letI (fun v1 => ?_)
  refine x_istore_n (L' := [(2, _), (0, _), (1, _)]) C dX7_readOven_4 rfl (by decide) rfl ?_
  refine x_aload_n C 1 dX7_readOven_5 rfl rfl ?_
  refine x_iconst C (4) dX7_readOven_6 rfl ?_
  refine x_iload_n C 0 dX7_readOven_7 rfl rfl ?_
  refine x_callV C (ct_X7_beginOneOf _ _ n 4 v1 σ) mt_X7_beginOneOf vr_X7_beginOneOf wd999 cls_X7 at_X7 rfl ⟨rfl, rfl, Nat.le_of_ble_eq_true rfl, Nat.le_of_ble_eq_true rfl⟩ rfl (by decide) dX7_readOven_8 (kV (fun s2 => ?_))
  refine x_aload_n C 1 dX7_readOven_11 rfl rfl ?_
  refine x_callV C (ct_X7_failed _ _ s2) mt_X7_failed vr_X7_failed wd991 cls_X7 at_X7 rfl ⟨rfl, rfl, Nat.le_of_ble_eq_true rfl, Nat.le_of_ble_eq_true rfl⟩ rfl (by decide) dX7_readOven_12 (kP ?_)
  refine x_if_eq C 19 (zI_bo (bo_X7_failed _)) dX7_readOven_15 rfl (fun c3 => x_op c3 ?_) (fun c3 => x_on c3 ?_)
  · refine x_aload_n C 2 dX7_readOven_19 rfl rfl ?_
    refine x_get (v := .ref (xqa (xXE X).2.2 (k1 + 8))) C 6 cls_X1 (at_X1 hk1) (by decide) wd359 rfl (xV_r (rt_X1_ovens hk1 _) rfl) dX7_readOven_20 ?_
    refine x_iload_n C 0 dX7_readOven_23 rfl rfl ?_
    refine x_aald C (at_X1_ovens hk1) (by decide) rfl (fun h4 => rl_X1_ovens hk1 _ h4) dX7_readOven_24 (fun h4 => ?_)
    refine x_astore_n (L' := [(3, _), (2, _), (0, _), (1, _)]) C dX7_readOven_25 rfl (by decide) rfl ?_
    refine x_aload_n C 0 dX7_readOven_26 rfl rfl ?_
    refine x_aload_n C 2 dX7_readOven_27 rfl rfl ?_
    refine x_gsW C 16 (by decide) wd1050 dX7_readOven_28 ?_
    refine x_iconst C (1) dX7_readOven_31 rfl ?_
    refine x_bipush C (6) dX7_readOven_32 rfl ?_
    refine x_callV C (ct_X7_readField _ _ n 16 1 6 s2 (by decide)) mt_X7_readField vr_X7_readField wd1024 cls_X7 at_X7 rfl ⟨rfl, rfl, Nat.le_of_ble_eq_true rfl, Nat.le_of_ble_eq_true rfl⟩ rfl (Nat.le_of_ble_eq_true rfl) dX7_readOven_34 (kS (fun v6 s5 => ?_))
    refine x_put C 0 v6 cls_X6 (el_X1_ovens hk1 h4) (by decide) wd212 rfl rfl rfl rfl (xV_pI rfl) dX7_readOven_37 ?_
    refine x_letS (fun s7 => ?_)
    refine x_aload_n C 0 dX7_readOven_40 rfl rfl ?_
    refine x_aload_n C 2 dX7_readOven_41 rfl rfl ?_
    refine x_gsW C 11 (by decide) wd1038 dX7_readOven_42 ?_
    refine x_bipush C (20) dX7_readOven_45 rfl ?_
    refine x_sipush C (300) dX7_readOven_47 rfl ?_
    refine x_callV C (ct_X7_readField _ _ n 11 20 300 s7 (by decide)) mt_X7_readField vr_X7_readField wd1024 cls_X7 at_X7 rfl ⟨rfl, rfl, Nat.le_of_ble_eq_true rfl, Nat.le_of_ble_eq_true rfl⟩ rfl (Nat.le_of_ble_eq_true rfl) dX7_readOven_50 (kS (fun v9 s8 => ?_))
    refine x_put C 1 v9 cls_X6 (el_X1_ovens hk1 h4) (by decide) wd215 rfl rfl rfl rfl (xV_pI rfl) dX7_readOven_53 ?_
    refine x_letS (fun s10 => ?_)
    refine x_aload_n C 0 dX7_readOven_56 rfl rfl ?_
    refine x_aload_n C 2 dX7_readOven_57 rfl rfl ?_
    refine x_gsW C 17 (by decide) wd1052 dX7_readOven_58 ?_
    refine x_iconst C (1) dX7_readOven_61 rfl ?_
    refine x_bipush C (50) dX7_readOven_62 rfl ?_
    refine x_callV C (ct_X7_readField _ _ n 17 1 50 s10 (by decide)) mt_X7_readField vr_X7_readField wd1024 cls_X7 at_X7 rfl ⟨rfl, rfl, Nat.le_of_ble_eq_true rfl, Nat.le_of_ble_eq_true rfl⟩ rfl (Nat.le_of_ble_eq_true rfl) dX7_readOven_64 (kS (fun v12 s11 => ?_))
    refine x_put C 2 v12 cls_X6 (el_X1_ovens hk1 h4) (by decide) wd217 rfl rfl rfl rfl (xV_pI rfl) dX7_readOven_67 ?_
    refine x_letS (fun s13 => ?_)
    refine x_aload_n C 0 dX7_readOven_70 rfl rfl ?_
    refine x_iconst C (0) dX7_readOven_71 rfl ?_
    refine x_put C 3 0 cls_X6 (el_X1_ovens hk1 h4) (by decide) wd220 rfl rfl (xnb (Or.inl rfl)) (xfb (Or.inl rfl)) (xV_pI rfl) dX7_readOven_72 ?_
    refine x_letS (fun s14 => ?_)
    refine x_aload_n C 3 dX7_readOven_75 rfl rfl ?_
    refine x_dup C dX7_readOven_76 rfl ?_
    refine x_get (v := iV (s14 k1 7)) C 7 cls_X1 (at_X1 hk1) (by decide) wd363 rfl rfl dX7_readOven_77 ?_
    refine x_iconst C (1) dX7_readOven_80 rfl ?_
    refine x_iadd C dX7_readOven_81 ?_
    refine x_put C 7 ((s14 k1 7) + 1) cls_X1 (at_X1 hk1) (by decide) wd363 rfl rfl rfl rfl (xV_pI rfl) dX7_readOven_82 ?_
    refine x_letS (fun s15 => ?_)
    exact x_vretQ C (hQ _) rfl dX7_readOven_85
  · exact x_vretQ C (hQ _) rfl dX7_readOven_18
theorem ct_X7_readOven (l : Launch) (E : xE) (n : Nat) (k1 : Nat) (σ : xS) (hk1 : isBk k1)  : xMet l E yX7_readOven cX7_readOven 4 none { frames := 7, cells := 0, slots := 0, locals := 155 } [.ref (xqa E.2.2 2), .ref (xqa E.2.2 k1)] WW WW σ (xrV (m_X7_readOven n k1 σ)) := by
  refine xMet.of0 (by decide) (Nat.le_of_ble_eq_true rfl) rfl rfl (fun X hE C => ?_)
  subst hE
  exact xMap (fun q => (none, q)) (wk_X7_readOven C (fun _ => rfl) hk1)
theorem mt_X7_readOven : xMth yX7_readOven cX7_readOven 4 none 1 := ⟨wd1049, wd50, ⟨by decide, by decide, rfl⟩⟩
theorem vr_X7_readOven : xVir yX7_readOven := ⟨wd1048, wd37⟩
