def m_X13_manyHere (n : Nat) (σ : xS) : Option Int :=
  (m_X13_isWord n 4 σ).bind fun v1 => xj (fun (q5 : Int) => some q5) fun J3 => if (zI v1) = 0 then (m_X13_isWord n 15 σ).bind fun v7 => if (zI v7) = 0 then (m_X13_isWord n 18 σ).bind fun v9 => if (zI v9) = 0 then (m_X13_isWord n 19 σ).bind fun v11 => if (zI v11) = 0 then (m_X13_isWord n 20 σ).bind fun v13 => if (zI v13) = 0 then (m_X13_isWord n 21 σ).bind fun v15 => if (zI v15) = 0 then J3 (-1) else J3 9 else J3 8 else J3 7 else J3 6 else J3 5 else J3 4
set_option maxHeartbeats 4000000 in
set_option maxRecDepth 100000 in
theorem wk_X13_manyHere {X : xX} {Qf : Int → State → Prop} {n : Nat} {σ : xS} (C : xCx X cX13_manyHere "BakeryNightModel" (some .int) { frames := 6, cells := 0, slots := 0, locals := 128 } 1) (hQ : ∀ v, Qf v = xQf X WW (some (iV v), σ))  : WO X Qf WW σ 0 [(0, .ref (xqa (xXE X).2.2 184))] [] (m_X13_manyHere n σ) := by
  unfold m_X13_manyHere
  refine x_aload_n C 0 dX13_manyHere_0 rfl rfl ?_
  refine x_ldcS C (i := 4) sr4 dX13_manyHere_1 ?_
  refine x_callV C (ct_X13_isWord _ _ n 4 σ (by decide)) mt_X13_isWord vr_X13_isWord wd1713 cls_X13 at_X13 rfl ⟨rfl, rfl, Nat.le_of_ble_eq_true rfl, Nat.le_of_ble_eq_true rfl⟩ rfl (by decide) dX13_manyHere_3 (kI (fun v1 => ?_))
  refine x_join (fun J => ∀ q5 : Int, WO X Qf WW σ 83 [] [iV q5] (J q5)) ?_ ?_
  · intro q5
    exact x_iretQ C (hQ _) rfl dX13_manyHere_83
  · intro J3 hJ4
    refine x_if_eq C 13 rfl dX13_manyHere_6 rfl (fun c6 => x_op c6 ?_) (fun c6 => x_on c6 ?_)
    · refine x_aload_n C 0 dX13_manyHere_13 rfl rfl ?_
      refine x_ldcS C (i := 15) sr15 dX13_manyHere_14 ?_
      refine x_callV C (ct_X13_isWord _ _ n 15 σ (by decide)) mt_X13_isWord vr_X13_isWord wd1713 cls_X13 at_X13 rfl ⟨rfl, rfl, Nat.le_of_ble_eq_true rfl, Nat.le_of_ble_eq_true rfl⟩ rfl (by decide) dX13_manyHere_16 (kI (fun v7 => ?_))
      refine x_if_eq C 26 rfl dX13_manyHere_19 rfl (fun c8 => x_op c8 ?_) (fun c8 => x_on c8 ?_)
      · refine x_aload_n C 0 dX13_manyHere_26 rfl rfl ?_
        refine x_ldcS C (i := 18) sr18 dX13_manyHere_27 ?_
        refine x_callV C (ct_X13_isWord _ _ n 18 σ (by decide)) mt_X13_isWord vr_X13_isWord wd1713 cls_X13 at_X13 rfl ⟨rfl, rfl, Nat.le_of_ble_eq_true rfl, Nat.le_of_ble_eq_true rfl⟩ rfl (by decide) dX13_manyHere_29 (kI (fun v9 => ?_))
        refine x_if_eq C 40 rfl dX13_manyHere_32 rfl (fun c10 => x_op c10 ?_) (fun c10 => x_on c10 ?_)
        · refine x_aload_n C 0 dX13_manyHere_40 rfl rfl ?_
          refine x_ldcS C (i := 19) sr19 dX13_manyHere_41 ?_
          refine x_callV C (ct_X13_isWord _ _ n 19 σ (by decide)) mt_X13_isWord vr_X13_isWord wd1713 cls_X13 at_X13 rfl ⟨rfl, rfl, Nat.le_of_ble_eq_true rfl, Nat.le_of_ble_eq_true rfl⟩ rfl (by decide) dX13_manyHere_43 (kI (fun v11 => ?_))
          refine x_if_eq C 54 rfl dX13_manyHere_46 rfl (fun c12 => x_op c12 ?_) (fun c12 => x_on c12 ?_)
          · refine x_aload_n C 0 dX13_manyHere_54 rfl rfl ?_
            refine x_ldcS C (i := 20) sr20 dX13_manyHere_55 ?_
            refine x_callV C (ct_X13_isWord _ _ n 20 σ (by decide)) mt_X13_isWord vr_X13_isWord wd1713 cls_X13 at_X13 rfl ⟨rfl, rfl, Nat.le_of_ble_eq_true rfl, Nat.le_of_ble_eq_true rfl⟩ rfl (by decide) dX13_manyHere_57 (kI (fun v13 => ?_))
            refine x_if_eq C 68 rfl dX13_manyHere_60 rfl (fun c14 => x_op c14 ?_) (fun c14 => x_on c14 ?_)
            · refine x_aload_n C 0 dX13_manyHere_68 rfl rfl ?_
              refine x_ldcS C (i := 21) sr21 dX13_manyHere_69 ?_
              refine x_callV C (ct_X13_isWord _ _ n 21 σ (by decide)) mt_X13_isWord vr_X13_isWord wd1713 cls_X13 at_X13 rfl ⟨rfl, rfl, Nat.le_of_ble_eq_true rfl, Nat.le_of_ble_eq_true rfl⟩ rfl (by decide) dX13_manyHere_71 (kI (fun v15 => ?_))
              refine x_if_eq C 82 rfl dX13_manyHere_74 rfl (fun c16 => x_op c16 ?_) (fun c16 => x_on c16 ?_)
              · refine x_iconst C (-1) dX13_manyHere_82 rfl ?_
                refine x_pick [] rfl ?_
                exact hJ4 (-1)
              · refine x_bipush C (9) dX13_manyHere_77 rfl ?_
                refine x_goto C 83 dX13_manyHere_79 rfl ?_
                refine x_pick [] rfl ?_
                exact hJ4 9
            · refine x_bipush C (8) dX13_manyHere_63 rfl ?_
              refine x_goto C 83 dX13_manyHere_65 rfl ?_
              refine x_pick [] rfl ?_
              exact hJ4 8
          · refine x_bipush C (7) dX13_manyHere_49 rfl ?_
            refine x_goto C 83 dX13_manyHere_51 rfl ?_
            refine x_pick [] rfl ?_
            exact hJ4 7
        · refine x_bipush C (6) dX13_manyHere_35 rfl ?_
          refine x_goto C 83 dX13_manyHere_37 rfl ?_
          refine x_pick [] rfl ?_
          exact hJ4 6
      · refine x_iconst C (5) dX13_manyHere_22 rfl ?_
        refine x_goto C 83 dX13_manyHere_23 rfl ?_
        refine x_pick [] rfl ?_
        exact hJ4 5
    · refine x_iconst C (4) dX13_manyHere_9 rfl ?_
      refine x_goto C 83 dX13_manyHere_10 rfl ?_
      refine x_pick [] rfl ?_
      exact hJ4 4
theorem ct_X13_manyHere (l : Launch) (E : xE) (n : Nat) (σ : xS)   : xMet l E yX13_manyHere cX13_manyHere 1 (some .int) { frames := 6, cells := 0, slots := 0, locals := 128 } [.ref (xqa E.2.2 184)] WW WW σ (xrI (m_X13_manyHere n σ) σ) := by
  refine xMet.of0 (by decide) (Nat.le_of_ble_eq_true rfl) rfl rfl (fun X hE C => ?_)
  subst hE
  exact xMap (fun v => (some (iV v), σ)) (wk_X13_manyHere C (fun _ => rfl) )
theorem mt_X13_manyHere : xMth yX13_manyHere cX13_manyHere 1 (some .int) 0 := ⟨wd1735, wd164, ⟨by decide, by decide, rfl⟩⟩
theorem vr_X13_manyHere : xVir yX13_manyHere := ⟨wd1734, wd60⟩
def m_X13_part (n : Nat) (p1 : Int) (k2 : Nat) (p3 : Int) (p4 : Int) (σ : xS) : Option xS :=
  (m_X13_needs n k2 σ).bind fun s1 => xbS (m_X13_number n p3 p4 s1) fun v3 s2 => xck (zI p1) 289 <| xlet (xput s2 186 (zI p1).toNat v3) fun s4 => some s4
set_option maxHeartbeats 4000000 in
set_option maxRecDepth 100000 in
theorem wk_X13_part {X : xX} {Qf : xS → State → Prop} {n : Nat} {p1 : Int} {k2 : Nat} {p3 : Int} {p4 : Int} {σ : xS} (C : xCx X cX13_part "BakeryNightModel" none { frames := 8, cells := 0, slots := 0, locals := 170 } 5) (hQ : ∀ τ, Qf τ = xQf X WW (none, τ)) (hk2 : k2 < 24) : WO X Qf WW σ 0 [(0, .ref (xqa (xXE X).2.2 184)), (1, iV p1), (2, cR X 1 k2), (3, iV p3), (4, iV p4)] [] (m_X13_part n p1 k2 p3 p4 σ) := by
  unfold m_X13_part
  refine x_aload_n C 0 dX13_part_0 rfl rfl ?_
  refine x_aload_n C 2 dX13_part_1 rfl rfl ?_
  refine x_callV C (ct_X13_needs _ _ n k2 σ hk2) mt_X13_needs vr_X13_needs wd1811 cls_X13 at_X13 rfl ⟨rfl, rfl, Nat.le_of_ble_eq_true rfl, Nat.le_of_ble_eq_true rfl⟩ rfl (by decide) dX13_part_2 (kV (fun s1 => ?_))
  refine x_aload_n C 0 dX13_part_5 rfl rfl ?_
  refine x_get (v := .ref (xqa (xXE X).2.2 186)) C 1 cls_X13 at_X13 (by decide) wd1503 rfl (xV_r (rt_X13_draft  _) rfl) dX13_part_6 ?_
  refine x_iload_n C 1 dX13_part_9 rfl rfl ?_
  refine x_aload_n C 0 dX13_part_10 rfl rfl ?_
  refine x_iload_n C 3 dX13_part_11 rfl rfl ?_
  refine x_iload C 4 dX13_part_12 rfl ?_
  refine x_callV C (ct_X13_number _ _ n p3 p4 s1) mt_X13_number vr_X13_number wd1758 cls_X13 at_X13 rfl ⟨rfl, rfl, Nat.le_of_ble_eq_true rfl, Nat.le_of_ble_eq_true rfl⟩ rfl (Nat.le_of_ble_eq_true rfl) dX13_part_14 (kS (fun v3 s2 => ?_))
  refine x_iast C at_X13_draft rfl dX13_part_17 (fun _ => ?_)
  refine x_letS (fun s4 => ?_)
  exact x_vretQ C (hQ _) rfl dX13_part_18
theorem ct_X13_part (l : Launch) (E : xE) (n : Nat) (p1 : Int) (k2 : Nat) (p3 : Int) (p4 : Int) (σ : xS) (hk2 : k2 < 24)  : xMet l E yX13_part cX13_part 5 none { frames := 8, cells := 0, slots := 0, locals := 170 } [.ref (xqa E.2.2 184), iV p1, cRE E 1 k2, iV p3, iV p4] WW WW σ (xrV (m_X13_part n p1 k2 p3 p4 σ)) := by
  refine xMet.of0 (by decide) (Nat.le_of_ble_eq_true rfl) rfl rfl (fun X hE C => ?_)
  subst hE
  exact xMap (fun q => (none, q)) (wk_X13_part C (fun _ => rfl) hk2)
theorem mt_X13_part : xMth yX13_part cX13_part 5 none 4 := ⟨wd1810, wd164, ⟨by decide, by decide, rfl⟩⟩
theorem vr_X13_part : xVir yX13_part := ⟨wd1809, wd73⟩
def m_X13_doughStatement (n : Nat) (σ : xS) : Option xS :=
  xck 4 289 <| xlet (σ 186 (4 : Int).toNat) fun v1 => xbS (m_X13_fresh n 190 6 v1 σ) fun v3 s2 => xlet (10 + (10 * v1)) fun v4 => (m_X13_part n (v4 + 0) 5 1 120 s2).bind fun s5 => (m_X13_part n (v4 + 1) 6 0 300 s5).bind fun s6 => (m_X13_part n (v4 + 2) 7 1 120 s6).bind fun s7 => (m_X13_part n (v4 + 3) 8 0 300 s7).bind fun s8 => (m_X13_part n (v4 + 4) 9 0 240 s8).bind fun s9 => (m_X13_part n (v4 + 5) 10 1 120 s9).bind fun s10 => (m_X13_part n (v4 + 6) 11 100 300 s10).bind fun s11 => (m_X13_part n (v4 + 7) 12 5 200 s11).bind fun s12 => (m_X13_part n (v4 + 8) 13 1 1440 s12).bind fun s13 => (m_X13_part n (v4 + 9) 14 0 999 s13).bind fun s14 => xck (zI v1) 6 <| xlet (xput s14 190 (zI v1).toNat v3) fun s15 => some s15
set_option maxHeartbeats 4000000 in
set_option maxRecDepth 100000 in
theorem wk_X13_doughStatement {X : xX} {Qf : xS → State → Prop} {n : Nat} {σ : xS} (C : xCx X cX13_doughStatement "BakeryNightModel" none { frames := 9, cells := 0, slots := 0, locals := 196 } 5) (hQ : ∀ τ, Qf τ = xQf X WW (none, τ))  : WO X Qf WW σ 0 [(0, .ref (xqa (xXE X).2.2 184))] [] (m_X13_doughStatement n σ) := by
  unfold m_X13_doughStatement
  refine x_aload_n C 0 dX13_doughStatement_0 rfl rfl ?_
  refine x_get (v := .ref (xqa (xXE X).2.2 186)) C 1 cls_X13 at_X13 (by decide) wd1503 rfl (xV_r (rt_X13_draft  _) rfl) dX13_doughStatement_1 ?_
  refine x_iconst C (4) dX13_doughStatement_4 rfl ?_
  refine x_iald C at_X13_draft (zIl _ rfl) dX13_doughStatement_5 (fun _ => ?_)
  refine x_letI (fun v1 => ?_)
  refine x_istore_n (L' := [(1, _), (0, _)]) C dX13_doughStatement_6 rfl (by decide) rfl ?_
  refine x_aload_n C 1 dX13_doughStatement_7 rfl rfl ?_
  refine x_aload_n C 1 dX13_doughStatement_8 rfl rfl ?_
  refine x_get (v := .ref (xqa (xXE X).2.2 190)) C 15 cls_X13 at_X13 (by decide) wd1517 rfl (xV_r (rt_X13_doughName  _) rfl) dX13_doughStatement_9 ?_
  refine x_iload_n C 0 dX13_doughStatement_12 rfl rfl ?_
  refine x_callV C (ct_X13_fresh _ _ n 190 6 v1 σ at_X13_doughName) mt_X13_fresh vr_X13_fresh wd1776 cls_X13 at_X13 rfl ⟨rfl, rfl, Nat.le_of_ble_eq_true rfl, Nat.le_of_ble_eq_true rfl⟩ rfl (by decide) dX13_doughStatement_13 (kT (fun v3 s2 => ?_))
  refine x_lstore_n (L' := [(2, _), (1, _), (0, _)]) C dX13_doughStatement_16 rfl (by decide) rfl ?_
  refine x_bipush C (10) dX13_doughStatement_17 rfl ?_
  refine x_bipush C (10) dX13_doughStatement_19 rfl ?_
  refine x_iload_n C 1 dX13_doughStatement_21 rfl rfl ?_
  refine x_imul C dX13_doughStatement_22 ?_
  refine x_iadd C dX13_doughStatement_23 ?_
  refine x_letI (fun v4 => ?_)
  refine x_istore (L' := [(4, _), (2, _), (1, _), (0, _)]) C dX13_doughStatement_24 (by decide) rfl ?_
  refine x_aload_n C 3 dX13_doughStatement_26 rfl rfl ?_
  refine x_iload C 0 dX13_doughStatement_27 rfl ?_
  refine x_iconst C (0) dX13_doughStatement_29 rfl ?_
  refine x_iadd C dX13_doughStatement_30 ?_
  refine x_ldcS C (i := 5) sr5 dX13_doughStatement_31 ?_
  refine x_iconst C (1) dX13_doughStatement_33 rfl ?_
  refine x_bipush C (120) dX13_doughStatement_34 rfl ?_
  refine x_callV C (ct_X13_part _ _ n (v4 + 0) 5 1 120 s2 (by decide)) mt_X13_part vr_X13_part wd1807 cls_X13 at_X13 rfl ⟨rfl, rfl, Nat.le_of_ble_eq_true rfl, Nat.le_of_ble_eq_true rfl⟩ rfl (by decide) dX13_doughStatement_36 (kV (fun s5 => ?_))
  refine x_aload_n C 3 dX13_doughStatement_39 rfl rfl ?_
  refine x_iload C 0 dX13_doughStatement_40 rfl ?_
  refine x_iconst C (1) dX13_doughStatement_42 rfl ?_
  refine x_iadd C dX13_doughStatement_43 ?_
  refine x_ldcS C (i := 6) sr6 dX13_doughStatement_44 ?_
  refine x_iconst C (0) dX13_doughStatement_46 rfl ?_
  refine x_sipush C (300) dX13_doughStatement_47 rfl ?_
  refine x_callV C (ct_X13_part _ _ n (v4 + 1) 6 0 300 s5 (by decide)) mt_X13_part vr_X13_part wd1807 cls_X13 at_X13 rfl ⟨rfl, rfl, Nat.le_of_ble_eq_true rfl, Nat.le_of_ble_eq_true rfl⟩ rfl (by decide) dX13_doughStatement_50 (kV (fun s6 => ?_))
  refine x_aload_n C 3 dX13_doughStatement_53 rfl rfl ?_
  refine x_iload C 0 dX13_doughStatement_54 rfl ?_
  refine x_iconst C (2) dX13_doughStatement_56 rfl ?_
  refine x_iadd C dX13_doughStatement_57 ?_
  refine x_ldcS C (i := 7) sr7 dX13_doughStatement_58 ?_
  refine x_iconst C (1) dX13_doughStatement_60 rfl ?_
  refine x_bipush C (120) dX13_doughStatement_61 rfl ?_
  refine x_callV C (ct_X13_part _ _ n (v4 + 2) 7 1 120 s6 (by decide)) mt_X13_part vr_X13_part wd1807 cls_X13 at_X13 rfl ⟨rfl, rfl, Nat.le_of_ble_eq_true rfl, Nat.le_of_ble_eq_true rfl⟩ rfl (by decide) dX13_doughStatement_63 (kV (fun s7 => ?_))
  refine x_aload_n C 3 dX13_doughStatement_66 rfl rfl ?_
  refine x_iload C 0 dX13_doughStatement_67 rfl ?_
  refine x_iconst C (3) dX13_doughStatement_69 rfl ?_
  refine x_iadd C dX13_doughStatement_70 ?_
  refine x_ldcS C (i := 8) sr8 dX13_doughStatement_71 ?_
  refine x_iconst C (0) dX13_doughStatement_73 rfl ?_
  refine x_sipush C (300) dX13_doughStatement_74 rfl ?_
  refine x_callV C (ct_X13_part _ _ n (v4 + 3) 8 0 300 s7 (by decide)) mt_X13_part vr_X13_part wd1807 cls_X13 at_X13 rfl ⟨rfl, rfl, Nat.le_of_ble_eq_true rfl, Nat.le_of_ble_eq_true rfl⟩ rfl (by decide) dX13_doughStatement_77 (kV (fun s8 => ?_))
  refine x_aload_n C 3 dX13_doughStatement_80 rfl rfl ?_
  refine x_iload C 0 dX13_doughStatement_81 rfl ?_
  refine x_iconst C (4) dX13_doughStatement_83 rfl ?_
  refine x_iadd C dX13_doughStatement_84 ?_
  refine x_ldcS C (i := 9) sr9 dX13_doughStatement_85 ?_
  refine x_iconst C (0) dX13_doughStatement_87 rfl ?_
  refine x_sipush C (240) dX13_doughStatement_88 rfl ?_
  refine x_callV C (ct_X13_part _ _ n (v4 + 4) 9 0 240 s8 (by decide)) mt_X13_part vr_X13_part wd1807 cls_X13 at_X13 rfl ⟨rfl, rfl, Nat.le_of_ble_eq_true rfl, Nat.le_of_ble_eq_true rfl⟩ rfl (by decide) dX13_doughStatement_91 (kV (fun s9 => ?_))
  refine x_aload_n C 3 dX13_doughStatement_94 rfl rfl ?_
  refine x_iload C 0 dX13_doughStatement_95 rfl ?_
  refine x_iconst C (5) dX13_doughStatement_97 rfl ?_
  refine x_iadd C dX13_doughStatement_98 ?_
  refine x_ldcS C (i := 10) sr10 dX13_doughStatement_99 ?_
  refine x_iconst C (1) dX13_doughStatement_101 rfl ?_
  refine x_bipush C (120) dX13_doughStatement_102 rfl ?_
  refine x_callV C (ct_X13_part _ _ n (v4 + 5) 10 1 120 s9 (by decide)) mt_X13_part vr_X13_part wd1807 cls_X13 at_X13 rfl ⟨rfl, rfl, Nat.le_of_ble_eq_true rfl, Nat.le_of_ble_eq_true rfl⟩ rfl (by decide) dX13_doughStatement_104 (kV (fun s10 => ?_))
  refine x_aload_n C 3 dX13_doughStatement_107 rfl rfl ?_
  refine x_iload C 0 dX13_doughStatement_108 rfl ?_
  refine x_bipush C (6) dX13_doughStatement_110 rfl ?_
  refine x_iadd C dX13_doughStatement_112 ?_
  refine x_ldcS C (i := 11) sr11 dX13_doughStatement_113 ?_
  refine x_bipush C (100) dX13_doughStatement_115 rfl ?_
  refine x_sipush C (300) dX13_doughStatement_117 rfl ?_
  refine x_callV C (ct_X13_part _ _ n (v4 + 6) 11 100 300 s10 (by decide)) mt_X13_part vr_X13_part wd1807 cls_X13 at_X13 rfl ⟨rfl, rfl, Nat.le_of_ble_eq_true rfl, Nat.le_of_ble_eq_true rfl⟩ rfl (by decide) dX13_doughStatement_120 (kV (fun s11 => ?_))
  refine x_aload_n C 3 dX13_doughStatement_123 rfl rfl ?_
  refine x_iload C 0 dX13_doughStatement_124 rfl ?_
  refine x_bipush C (7) dX13_doughStatement_126 rfl ?_
  refine x_iadd C dX13_doughStatement_128 ?_
  refine x_ldcS C (i := 12) sr12 dX13_doughStatement_129 ?_
  refine x_iconst C (5) dX13_doughStatement_131 rfl ?_
  refine x_sipush C (200) dX13_doughStatement_132 rfl ?_
  refine x_callV C (ct_X13_part _ _ n (v4 + 7) 12 5 200 s11 (by decide)) mt_X13_part vr_X13_part wd1807 cls_X13 at_X13 rfl ⟨rfl, rfl, Nat.le_of_ble_eq_true rfl, Nat.le_of_ble_eq_true rfl⟩ rfl (by decide) dX13_doughStatement_135 (kV (fun s12 => ?_))
  refine x_aload_n C 3 dX13_doughStatement_138 rfl rfl ?_
  refine x_iload C 0 dX13_doughStatement_139 rfl ?_
  refine x_bipush C (8) dX13_doughStatement_141 rfl ?_
  refine x_iadd C dX13_doughStatement_143 ?_
  refine x_ldcS C (i := 13) sr13 dX13_doughStatement_144 ?_
  refine x_iconst C (1) dX13_doughStatement_146 rfl ?_
  refine x_sipush C (1440) dX13_doughStatement_147 rfl ?_
  refine x_callV C (ct_X13_part _ _ n (v4 + 8) 13 1 1440 s12 (by decide)) mt_X13_part vr_X13_part wd1807 cls_X13 at_X13 rfl ⟨rfl, rfl, Nat.le_of_ble_eq_true rfl, Nat.le_of_ble_eq_true rfl⟩ rfl (by decide) dX13_doughStatement_150 (kV (fun s13 => ?_))
  refine x_aload_n C 3 dX13_doughStatement_153 rfl rfl ?_
  refine x_iload C 0 dX13_doughStatement_154 rfl ?_
  refine x_bipush C (9) dX13_doughStatement_156 rfl ?_
  refine x_iadd C dX13_doughStatement_158 ?_
  refine x_ldcS C (i := 14) sr14 dX13_doughStatement_159 ?_
  refine x_iconst C (0) dX13_doughStatement_161 rfl ?_
  refine x_sipush C (999) dX13_doughStatement_162 rfl ?_
  refine x_callV C (ct_X13_part _ _ n (v4 + 9) 14 0 999 s13 (by decide)) mt_X13_part vr_X13_part wd1807 cls_X13 at_X13 rfl ⟨rfl, rfl, Nat.le_of_ble_eq_true rfl, Nat.le_of_ble_eq_true rfl⟩ rfl (by decide) dX13_doughStatement_165 (kV (fun s14 => ?_))
  refine x_aload_n C 3 dX13_doughStatement_168 rfl rfl ?_
  refine x_get (v := .ref (xqa (xXE X).2.2 190)) C 15 cls_X13 at_X13 (by decide) wd1517 rfl (xV_r (rt_X13_doughName  _) rfl) dX13_doughStatement_169 ?_
  refine x_iload_n C 2 dX13_doughStatement_172 rfl rfl ?_
  refine x_lload_n C 1 dX13_doughStatement_173 rfl rfl ?_
  refine x_last C at_X13_doughName rfl dX13_doughStatement_174 (fun _ => ?_)
  refine x_letS (fun s15 => ?_)
  exact x_vretQ C (hQ _) rfl dX13_doughStatement_175
theorem ct_X13_doughStatement (l : Launch) (E : xE) (n : Nat) (σ : xS)   : xMet l E yX13_doughStatement cX13_doughStatement 5 none { frames := 9, cells := 0, slots := 0, locals := 196 } [.ref (xqa E.2.2 184)] WW WW σ (xrV (m_X13_doughStatement n σ)) := by
  refine xMet.of0 (by decide) (Nat.le_of_ble_eq_true rfl) rfl rfl (fun X hE C => ?_)
  subst hE
  exact xMap (fun q => (none, q)) (wk_X13_doughStatement C (fun _ => rfl) )
theorem mt_X13_doughStatement : xMth yX13_doughStatement cX13_doughStatement 5 none 0 := ⟨wd1775, wd164, ⟨by decide, by decide, rfl⟩⟩
theorem vr_X13_doughStatement : xVir yX13_doughStatement := ⟨wd1774, wd68⟩
