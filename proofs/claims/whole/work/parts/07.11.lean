def m_X13_ovenStatement (n : Nat) (σ : xS) : Option xS :=
  xck 5 289 <| xlet (70 + (4 * (σ 186 (5 : Int).toNat))) fun v1 => (m_X13_part n (v1 + 0) 16 1 6 σ).bind fun s2 => (m_X13_part n (v1 + 1) 11 20 300 s2).bind fun s3 => (m_X13_part n (v1 + 2) 17 1 50 s3).bind fun s4 => some s4
set_option maxHeartbeats 4000000 in
set_option maxRecDepth 100000 in
theorem wk_X13_ovenStatement {X : xX} {Qf : xS → State → Prop} {n : Nat} {σ : xS} (C : xCx X cX13_ovenStatement "BakeryNightModel" none { frames := 9, cells := 0, slots := 0, locals := 194 } 2) (hQ : ∀ τ, Qf τ = xQf X WW (none, τ))  : WO X Qf WW σ 0 [(0, .ref (xqa (xXE X).2.2 184))] [] (m_X13_ovenStatement n σ) := by
  unfold m_X13_ovenStatement
  refine x_bipush C (70) dX13_ovenStatement_0 rfl ?_
  refine x_iconst C (4) dX13_ovenStatement_2 rfl ?_
  refine x_aload_n C 0 dX13_ovenStatement_3 rfl rfl ?_
  refine x_get (v := .ref (xqa (xXE X).2.2 186)) C 1 cls_X13 at_X13 (by decide) wd1503 rfl (xV_r (rt_X13_draft  _) rfl) dX13_ovenStatement_4 ?_
  refine x_iconst C (5) dX13_ovenStatement_7 rfl ?_
  refine x_iald C at_X13_draft (zIl _ rfl) dX13_ovenStatement_8 (fun _ => ?_)
  refine x_imul C dX13_ovenStatement_9 ?_
  refine x_iadd C dX13_ovenStatement_10 ?_
  refine x_letI (fun v1 => ?_)
  refine x_istore_n (L' := [(1, _), (0, _)]) C dX13_ovenStatement_11 rfl (by decide) rfl ?_
  refine x_aload_n C 1 dX13_ovenStatement_12 rfl rfl ?_
  refine x_iload_n C 0 dX13_ovenStatement_13 rfl rfl ?_
  refine x_iconst C (0) dX13_ovenStatement_14 rfl ?_
  refine x_iadd C dX13_ovenStatement_15 ?_
  refine x_ldcS C (i := 16) sr16 dX13_ovenStatement_16 ?_
  refine x_iconst C (1) dX13_ovenStatement_18 rfl ?_
  refine x_bipush C (6) dX13_ovenStatement_19 rfl ?_
  refine x_callV C (ct_X13_part _ _ n (v1 + 0) 16 1 6 σ (by decide)) mt_X13_part vr_X13_part wd1807 cls_X13 at_X13 rfl ⟨rfl, rfl, Nat.le_of_ble_eq_true rfl, Nat.le_of_ble_eq_true rfl⟩ rfl (by decide) dX13_ovenStatement_21 (kV (fun s2 => ?_))
  refine x_aload_n C 1 dX13_ovenStatement_24 rfl rfl ?_
  refine x_iload_n C 0 dX13_ovenStatement_25 rfl rfl ?_
  refine x_iconst C (1) dX13_ovenStatement_26 rfl ?_
  refine x_iadd C dX13_ovenStatement_27 ?_
  refine x_ldcS C (i := 11) sr11 dX13_ovenStatement_28 ?_
  refine x_bipush C (20) dX13_ovenStatement_30 rfl ?_
  refine x_sipush C (300) dX13_ovenStatement_32 rfl ?_
  refine x_callV C (ct_X13_part _ _ n (v1 + 1) 11 20 300 s2 (by decide)) mt_X13_part vr_X13_part wd1807 cls_X13 at_X13 rfl ⟨rfl, rfl, Nat.le_of_ble_eq_true rfl, Nat.le_of_ble_eq_true rfl⟩ rfl (by decide) dX13_ovenStatement_35 (kV (fun s3 => ?_))
  refine x_aload_n C 1 dX13_ovenStatement_38 rfl rfl ?_
  refine x_iload_n C 0 dX13_ovenStatement_39 rfl rfl ?_
  refine x_iconst C (2) dX13_ovenStatement_40 rfl ?_
  refine x_iadd C dX13_ovenStatement_41 ?_
  refine x_ldcS C (i := 17) sr17 dX13_ovenStatement_42 ?_
  refine x_iconst C (1) dX13_ovenStatement_44 rfl ?_
  refine x_bipush C (50) dX13_ovenStatement_45 rfl ?_
  refine x_callV C (ct_X13_part _ _ n (v1 + 2) 17 1 50 s3 (by decide)) mt_X13_part vr_X13_part wd1807 cls_X13 at_X13 rfl ⟨rfl, rfl, Nat.le_of_ble_eq_true rfl, Nat.le_of_ble_eq_true rfl⟩ rfl (by decide) dX13_ovenStatement_47 (kV (fun s4 => ?_))
  exact x_vretQ C (hQ _) rfl dX13_ovenStatement_50
theorem ct_X13_ovenStatement (l : Launch) (E : xE) (n : Nat) (σ : xS)   : xMet l E yX13_ovenStatement cX13_ovenStatement 2 none { frames := 9, cells := 0, slots := 0, locals := 194 } [.ref (xqa E.2.2 184)] WW WW σ (xrV (m_X13_ovenStatement n σ)) := by
  refine xMet.of0 (by decide) (Nat.le_of_ble_eq_true rfl) rfl rfl (fun X hE C => ?_)
  subst hE
  exact xMap (fun q => (none, q)) (wk_X13_ovenStatement C (fun _ => rfl) )
theorem mt_X13_ovenStatement : xMth yX13_ovenStatement cX13_ovenStatement 2 none 0 := ⟨wd1822, wd164, ⟨by decide, by decide, rfl⟩⟩
theorem vr_X13_ovenStatement : xVir yX13_ovenStatement := ⟨wd1821, wd76⟩
def m_X13_place (n : Nat) (σ : xS) : Option (Int × xS) :=
  xbS (m_X13_takes n 23 σ) fun v2 s1 => xj (fun (q5 : xS × Int) => some (q5.2, q5.1)) fun J3 => if (zI v2) = 0 then xck 6 289 <| xbS (m_X13_known n 191 7 (s1 186 (6 : Int).toNat) s1) fun v8 s7 => J3 (s7, v8 + 1) else J3 (s1, 0)
set_option maxHeartbeats 4000000 in
set_option maxRecDepth 100000 in
theorem wk_X13_place {X : xX} {Qf : (Int × xS) → State → Prop} {n : Nat} {σ : xS} (C : xCx X cX13_place "BakeryNightModel" (some .int) { frames := 9, cells := 0, slots := 0, locals := 197 } 1) (hQ : ∀ v τ, Qf (v, τ) = xQf X WW (some (iV v), τ))  : WO X Qf WW σ 0 [(0, .ref (xqa (xXE X).2.2 184))] [] (m_X13_place n σ) := by
  unfold m_X13_place
  refine x_aload_n C 0 dX13_place_0 rfl rfl ?_
  refine x_ldcS C (i := 23) sr23 dX13_place_1 ?_
  refine x_callV C (ct_X13_takes _ _ n 23 σ (by decide)) mt_X13_takes vr_X13_takes wd1815 cls_X13 at_X13 rfl ⟨rfl, rfl, Nat.le_of_ble_eq_true rfl, Nat.le_of_ble_eq_true rfl⟩ rfl (by decide) dX13_place_3 (kS (fun v2 s1 => ?_))
  refine x_join (fun J => ∀ q5 : xS × Int, WO X Qf WW q5.1 30 [] [iV q5.2] (J q5)) ?_ ?_
  · intro q5
    exact x_iretQ C (hQ _ _) rfl dX13_place_30
  · intro J3 hJ4
    refine x_if_eq C 13 rfl dX13_place_6 rfl (fun c6 => x_op c6 ?_) (fun c6 => x_on c6 ?_)
    · refine x_aload_n C 0 dX13_place_13 rfl rfl ?_
      refine x_aload_n C 0 dX13_place_14 rfl rfl ?_
      refine x_get (v := .ref (xqa (xXE X).2.2 191)) C 16 cls_X13 at_X13 (by decide) wd1518 rfl (xV_r (rt_X13_shopName  _) rfl) dX13_place_15 ?_
      refine x_aload_n C 0 dX13_place_18 rfl rfl ?_
      refine x_get (v := .ref (xqa (xXE X).2.2 186)) C 1 cls_X13 at_X13 (by decide) wd1503 rfl (xV_r (rt_X13_draft  _) rfl) dX13_place_19 ?_
      refine x_bipush C (6) dX13_place_22 rfl ?_
      refine x_iald C at_X13_draft (zIl _ rfl) dX13_place_24 (fun _ => ?_)
      refine x_callV C (ct_X13_known _ _ n 191 7 (s1 186 (6 : Int).toNat) s1 at_X13_shopName) mt_X13_known vr_X13_known wd1831 cls_X13 at_X13 rfl ⟨rfl, rfl, Nat.le_of_ble_eq_true rfl, Nat.le_of_ble_eq_true rfl⟩ rfl (by decide) dX13_place_25 (kS (fun v8 s7 => ?_))
      refine x_iconst C (1) dX13_place_28 rfl ?_
      refine x_iadd C dX13_place_29 ?_
      refine x_pick [] rfl ?_
      exact hJ4 (s7, v8 + 1)
    · refine x_iconst C (0) dX13_place_9 rfl ?_
      refine x_goto C 30 dX13_place_10 rfl ?_
      refine x_pick [] rfl ?_
      exact hJ4 (s1, 0)
theorem ct_X13_place (l : Launch) (E : xE) (n : Nat) (σ : xS)   : xMet l E yX13_place cX13_place 1 (some .int) { frames := 9, cells := 0, slots := 0, locals := 197 } [.ref (xqa E.2.2 184)] WW WW σ (xrS (m_X13_place n σ)) := by
  refine xMet.of0 (by decide) (Nat.le_of_ble_eq_true rfl) rfl rfl (fun X hE C => ?_)
  subst hE
  exact xMap (fun q => (some (iV q.1), q.2)) (wk_X13_place C (fun _ _ => rfl) )
theorem mt_X13_place : xMth yX13_place cX13_place 1 (some .int) 0 := ⟨wd1830, wd164, ⟨by decide, by decide, rfl⟩⟩
theorem vr_X13_place : xVir yX13_place := ⟨wd1829, wd78⟩
def m_X13_streetStatement (n : Nat) (σ : xS) : Option xS :=
  xck 7 289 <| xlet (86 + (4 * (σ 186 (7 : Int).toNat))) fun v1 => xbS (m_X13_place n σ) fun v3 s2 => xck (zI (v1 + 0)) 289 <| xlet (xput s2 186 (zI (v1 + 0)).toNat v3) fun s4 => xlet (s4 184 11) fun v5 => xbS (m_X13_place n s4) fun v7 s6 => xck (zI (v1 + 1)) 289 <| xlet (xput s6 186 (zI (v1 + 1)).toNat v7) fun s8 => xck (zI (v1 + 0)) 289 <| xck (zI (v1 + 1)) 289 <| xj (fun (q12 : xS) => xbS (m_X13_number n 1 120 q12) fun v14 s13 => xck (zI (v1 + 2)) 289 <| xlet (xput s13 186 (zI (v1 + 2)).toNat v14) fun s15 => some s15) fun J10 => if (zI (s8 186 (zI (v1 + 0)).toNat)) = (zI (s8 186 (zI (v1 + 1)).toNat)) then (m_X13_faulty 3 v5 s8).bind fun s17 => J10 s17 else J10 s8
set_option maxHeartbeats 4000000 in
set_option maxRecDepth 100000 in
theorem wk_X13_streetStatement {X : xX} {Qf : xS → State → Prop} {n : Nat} {σ : xS} (C : xCx X cX13_streetStatement "BakeryNightModel" none { frames := 10, cells := 0, slots := 0, locals := 217 } 3) (hQ : ∀ τ, Qf τ = xQf X WW (none, τ))  : WO X Qf WW σ 0 [(0, .ref (xqa (xXE X).2.2 184))] [] (m_X13_streetStatement n σ) := by
  unfold m_X13_streetStatement
  refine x_bipush C (86) dX13_streetStatement_0 rfl ?_
  refine x_iconst C (4) dX13_streetStatement_2 rfl ?_
  refine x_aload_n C 0 dX13_streetStatement_3 rfl rfl ?_
  refine x_get (v := .ref (xqa (xXE X).2.2 186)) C 1 cls_X13 at_X13 (by decide) wd1503 rfl (xV_r (rt_X13_draft  _) rfl) dX13_streetStatement_4 ?_
  refine x_bipush C (7) dX13_streetStatement_7 rfl ?_
  refine x_iald C at_X13_draft (zIl _ rfl) dX13_streetStatement_9 (fun _ => ?_)
  refine x_imul C dX13_streetStatement_10 ?_
  refine x_iadd C dX13_streetStatement_11 ?_
  refine x_letI (fun v1 => ?_)
  refine x_istore_n (L' := [(1, _), (0, _)]) C dX13_streetStatement_12 rfl (by decide) rfl ?_
  refine x_aload_n C 1 dX13_streetStatement_13 rfl rfl ?_
  refine x_get (v := .ref (xqa (xXE X).2.2 186)) C 1 cls_X13 at_X13 (by decide) wd1503 rfl (xV_r (rt_X13_draft  _) rfl) dX13_streetStatement_14 ?_
  refine x_iload_n C 0 dX13_streetStatement_17 rfl rfl ?_
  refine x_iconst C (0) dX13_streetStatement_18 rfl ?_
  refine x_iadd C dX13_streetStatement_19 ?_
  refine x_aload_n C 1 dX13_streetStatement_20 rfl rfl ?_
  refine x_callV C (ct_X13_place _ _ n σ) mt_X13_place vr_X13_place wd1827 cls_X13 at_X13 rfl ⟨rfl, rfl, Nat.le_of_ble_eq_true rfl, Nat.le_of_ble_eq_true rfl⟩ rfl (Nat.le_of_ble_eq_true rfl) dX13_streetStatement_21 (kS (fun v3 s2 => ?_))
  refine x_iast C at_X13_draft rfl dX13_streetStatement_24 (fun _ => ?_)
  refine x_letS (fun s4 => ?_)
  refine x_aload_n C 1 dX13_streetStatement_25 rfl rfl ?_
  refine x_get (v := iV (s4 184 11)) C 11 cls_X13 at_X13 (by decide) wd1513 rfl rfl dX13_streetStatement_26 ?_
  refine x_letI (fun v5 => ?_)
  refine x_istore_n (L' := [(2, _), (1, _), (0, _)]) C dX13_streetStatement_29 rfl (by decide) rfl ?_
  refine x_aload_n C 2 dX13_streetStatement_30 rfl rfl ?_
  refine x_get (v := .ref (xqa (xXE X).2.2 186)) C 1 cls_X13 at_X13 (by decide) wd1503 rfl (xV_r (rt_X13_draft  _) rfl) dX13_streetStatement_31 ?_
  refine x_iload_n C 1 dX13_streetStatement_34 rfl rfl ?_
  refine x_iconst C (1) dX13_streetStatement_35 rfl ?_
  refine x_iadd C dX13_streetStatement_36 ?_
  refine x_aload_n C 2 dX13_streetStatement_37 rfl rfl ?_
  refine x_callV C (ct_X13_place _ _ n s4) mt_X13_place vr_X13_place wd1827 cls_X13 at_X13 rfl ⟨rfl, rfl, Nat.le_of_ble_eq_true rfl, Nat.le_of_ble_eq_true rfl⟩ rfl (Nat.le_of_ble_eq_true rfl) dX13_streetStatement_38 (kS (fun v7 s6 => ?_))
  refine x_iast C at_X13_draft rfl dX13_streetStatement_41 (fun _ => ?_)
  refine x_letS (fun s8 => ?_)
  refine x_aload_n C 2 dX13_streetStatement_42 rfl rfl ?_
  refine x_get (v := .ref (xqa (xXE X).2.2 186)) C 1 cls_X13 at_X13 (by decide) wd1503 rfl (xV_r (rt_X13_draft  _) rfl) dX13_streetStatement_43 ?_
  refine x_iload_n C 1 dX13_streetStatement_46 rfl rfl ?_
  refine x_iconst C (0) dX13_streetStatement_47 rfl ?_
  refine x_iadd C dX13_streetStatement_48 ?_
  refine x_iald C at_X13_draft rfl dX13_streetStatement_49 (fun _ => ?_)
  refine x_aload_n C 2 dX13_streetStatement_50 rfl rfl ?_
  refine x_get (v := .ref (xqa (xXE X).2.2 186)) C 1 cls_X13 at_X13 (by decide) wd1503 rfl (xV_r (rt_X13_draft  _) rfl) dX13_streetStatement_51 ?_
  refine x_iload_n C 1 dX13_streetStatement_54 rfl rfl ?_
  refine x_iconst C (1) dX13_streetStatement_55 rfl ?_
  refine x_iadd C dX13_streetStatement_56 ?_
  refine x_iald C at_X13_draft rfl dX13_streetStatement_57 (fun _ => ?_)
  refine x_join (fun J => ∀ q12 : xS, WO X Qf WW q12 67 [(0, .ref (xqa (xXE X).2.2 184)), (1, iV v1)] [] (J q12)) ?_ ?_
  · intro q12
    refine x_aload_n C 0 dX13_streetStatement_67 rfl rfl ?_
    refine x_get (v := .ref (xqa (xXE X).2.2 186)) C 1 cls_X13 at_X13 (by decide) wd1503 rfl (xV_r (rt_X13_draft  _) rfl) dX13_streetStatement_68 ?_
    refine x_iload_n C 1 dX13_streetStatement_71 rfl rfl ?_
    refine x_iconst C (2) dX13_streetStatement_72 rfl ?_
    refine x_iadd C dX13_streetStatement_73 ?_
    refine x_aload_n C 0 dX13_streetStatement_74 rfl rfl ?_
    refine x_iconst C (1) dX13_streetStatement_75 rfl ?_
    refine x_bipush C (120) dX13_streetStatement_76 rfl ?_
    refine x_callV C (ct_X13_number _ _ n 1 120 q12) mt_X13_number vr_X13_number wd1758 cls_X13 at_X13 rfl ⟨rfl, rfl, Nat.le_of_ble_eq_true rfl, Nat.le_of_ble_eq_true rfl⟩ rfl (Nat.le_of_ble_eq_true rfl) dX13_streetStatement_78 (kS (fun v14 s13 => ?_))
    refine x_iast C at_X13_draft rfl dX13_streetStatement_81 (fun _ => ?_)
    refine x_letS (fun s15 => ?_)
    exact x_vretQ C (hQ _) rfl dX13_streetStatement_82
  · intro J10 hJ11
    refine x_icmp_ne C 67 rfl rfl dX13_streetStatement_58 rfl (fun c16 => x_on c16 ?_) (fun c16 => x_op c16 ?_)
    · refine x_pick [2, 1] rfl ?_
      exact hJ11 s8
    · refine x_aload_n C 2 dX13_streetStatement_61 rfl rfl ?_
      refine x_iconst C (3) dX13_streetStatement_62 rfl ?_
      refine x_iload_n C 0 dX13_streetStatement_63 rfl rfl ?_
      refine x_callV C (ct_X13_faulty _ _ 3 v5 s8) mt_X13_faulty vr_X13_faulty wd1750 cls_X13 at_X13 rfl ⟨rfl, rfl, Nat.le_of_ble_eq_true rfl, Nat.le_of_ble_eq_true rfl⟩ rfl (by decide) dX13_streetStatement_64 (kV (fun s17 => ?_))
      refine x_pick [2, 1] rfl ?_
      exact hJ11 s17
theorem ct_X13_streetStatement (l : Launch) (E : xE) (n : Nat) (σ : xS)   : xMet l E yX13_streetStatement cX13_streetStatement 3 none { frames := 10, cells := 0, slots := 0, locals := 217 } [.ref (xqa E.2.2 184)] WW WW σ (xrV (m_X13_streetStatement n σ)) := by
  refine xMet.of0 (by decide) (Nat.le_of_ble_eq_true rfl) rfl rfl (fun X hE C => ?_)
  subst hE
  exact xMap (fun q => (none, q)) (wk_X13_streetStatement C (fun _ => rfl) )
theorem mt_X13_streetStatement : xMth yX13_streetStatement cX13_streetStatement 3 none 0 := ⟨wd1826, wd164, ⟨by decide, by decide, rfl⟩⟩
theorem vr_X13_streetStatement : xVir yX13_streetStatement := ⟨wd1825, wd77⟩
def m_X13_orderStatement (n : Nat) (σ : xS) : Option xS :=
  xck 9 289 <| xlet (169 + (5 * (σ 186 (9 : Int).toNat))) fun v1 => xck 6 289 <| xbS (m_X13_known n 191 7 (σ 186 (6 : Int).toNat) σ) fun v3 s2 => xck (zI (v1 + 0)) 289 <| xlet (xput s2 186 (zI (v1 + 0)).toNat v3) fun s4 => xck 4 289 <| xbS (m_X13_known n 190 6 (s4 186 (4 : Int).toNat) s4) fun v6 s5 => xck (zI (v1 + 1)) 289 <| xlet (xput s5 186 (zI (v1 + 1)).toNat v6) fun s7 => xbS (m_X13_number n 1 200 s7) fun v9 s8 => xck (zI (v1 + 2)) 289 <| xlet (xput s8 186 (zI (v1 + 2)).toNat v9) fun s10 => (m_X13_part n (v1 + 3) 22 0 1439 s10).bind fun s11 => some s11
set_option maxHeartbeats 4000000 in
set_option maxRecDepth 100000 in
theorem wk_X13_orderStatement {X : xX} {Qf : xS → State → Prop} {n : Nat} {σ : xS} (C : xCx X cX13_orderStatement "BakeryNightModel" none { frames := 9, cells := 0, slots := 0, locals := 197 } 2) (hQ : ∀ τ, Qf τ = xQf X WW (none, τ))  : WO X Qf WW σ 0 [(0, .ref (xqa (xXE X).2.2 184))] [] (m_X13_orderStatement n σ) := by
  unfold m_X13_orderStatement
  refine x_sipush C (169) dX13_orderStatement_0 rfl ?_
  refine x_iconst C (5) dX13_orderStatement_3 rfl ?_
  refine x_aload_n C 0 dX13_orderStatement_4 rfl rfl ?_
  refine x_get (v := .ref (xqa (xXE X).2.2 186)) C 1 cls_X13 at_X13 (by decide) wd1503 rfl (xV_r (rt_X13_draft  _) rfl) dX13_orderStatement_5 ?_
  refine x_bipush C (9) dX13_orderStatement_8 rfl ?_
  refine x_iald C at_X13_draft (zIl _ rfl) dX13_orderStatement_10 (fun _ => ?_)
  refine x_imul C dX13_orderStatement_11 ?_
  refine x_iadd C dX13_orderStatement_12 ?_
  refine x_letI (fun v1 => ?_)
  refine x_istore_n (L' := [(1, _), (0, _)]) C dX13_orderStatement_13 rfl (by decide) rfl ?_
  refine x_aload_n C 1 dX13_orderStatement_14 rfl rfl ?_
  refine x_get (v := .ref (xqa (xXE X).2.2 186)) C 1 cls_X13 at_X13 (by decide) wd1503 rfl (xV_r (rt_X13_draft  _) rfl) dX13_orderStatement_15 ?_
  refine x_iload_n C 0 dX13_orderStatement_18 rfl rfl ?_
  refine x_iconst C (0) dX13_orderStatement_19 rfl ?_
  refine x_iadd C dX13_orderStatement_20 ?_
  refine x_aload_n C 1 dX13_orderStatement_21 rfl rfl ?_
  refine x_aload_n C 1 dX13_orderStatement_22 rfl rfl ?_
  refine x_get (v := .ref (xqa (xXE X).2.2 191)) C 16 cls_X13 at_X13 (by decide) wd1518 rfl (xV_r (rt_X13_shopName  _) rfl) dX13_orderStatement_23 ?_
  refine x_aload_n C 1 dX13_orderStatement_26 rfl rfl ?_
  refine x_get (v := .ref (xqa (xXE X).2.2 186)) C 1 cls_X13 at_X13 (by decide) wd1503 rfl (xV_r (rt_X13_draft  _) rfl) dX13_orderStatement_27 ?_
  refine x_bipush C (6) dX13_orderStatement_30 rfl ?_
  refine x_iald C at_X13_draft (zIl _ rfl) dX13_orderStatement_32 (fun _ => ?_)
  refine x_callV C (ct_X13_known _ _ n 191 7 (σ 186 (6 : Int).toNat) σ at_X13_shopName) mt_X13_known vr_X13_known wd1831 cls_X13 at_X13 rfl ⟨rfl, rfl, Nat.le_of_ble_eq_true rfl, Nat.le_of_ble_eq_true rfl⟩ rfl (Nat.le_of_ble_eq_true rfl) dX13_orderStatement_33 (kS (fun v3 s2 => ?_))
  refine x_iast C at_X13_draft rfl dX13_orderStatement_36 (fun _ => ?_)
  refine x_letS (fun s4 => ?_)
  refine x_aload_n C 1 dX13_orderStatement_37 rfl rfl ?_
  refine x_get (v := .ref (xqa (xXE X).2.2 186)) C 1 cls_X13 at_X13 (by decide) wd1503 rfl (xV_r (rt_X13_draft  _) rfl) dX13_orderStatement_38 ?_
  refine x_iload_n C 0 dX13_orderStatement_41 rfl rfl ?_
  refine x_iconst C (1) dX13_orderStatement_42 rfl ?_
  refine x_iadd C dX13_orderStatement_43 ?_
  refine x_aload_n C 1 dX13_orderStatement_44 rfl rfl ?_
  refine x_aload_n C 1 dX13_orderStatement_45 rfl rfl ?_
  refine x_get (v := .ref (xqa (xXE X).2.2 190)) C 15 cls_X13 at_X13 (by decide) wd1517 rfl (xV_r (rt_X13_doughName  _) rfl) dX13_orderStatement_46 ?_
  refine x_aload_n C 1 dX13_orderStatement_49 rfl rfl ?_
  refine x_get (v := .ref (xqa (xXE X).2.2 186)) C 1 cls_X13 at_X13 (by decide) wd1503 rfl (xV_r (rt_X13_draft  _) rfl) dX13_orderStatement_50 ?_
  refine x_iconst C (4) dX13_orderStatement_53 rfl ?_
  refine x_iald C at_X13_draft (zIl _ rfl) dX13_orderStatement_54 (fun _ => ?_)
  refine x_callV C (ct_X13_known _ _ n 190 6 (s4 186 (4 : Int).toNat) s4 at_X13_doughName) mt_X13_known vr_X13_known wd1831 cls_X13 at_X13 rfl ⟨rfl, rfl, Nat.le_of_ble_eq_true rfl, Nat.le_of_ble_eq_true rfl⟩ rfl (Nat.le_of_ble_eq_true rfl) dX13_orderStatement_55 (kS (fun v6 s5 => ?_))
  refine x_iast C at_X13_draft rfl dX13_orderStatement_58 (fun _ => ?_)
  refine x_letS (fun s7 => ?_)
  refine x_aload_n C 1 dX13_orderStatement_59 rfl rfl ?_
  refine x_get (v := .ref (xqa (xXE X).2.2 186)) C 1 cls_X13 at_X13 (by decide) wd1503 rfl (xV_r (rt_X13_draft  _) rfl) dX13_orderStatement_60 ?_
  refine x_iload_n C 0 dX13_orderStatement_63 rfl rfl ?_
  refine x_iconst C (2) dX13_orderStatement_64 rfl ?_
  refine x_iadd C dX13_orderStatement_65 ?_
  refine x_aload_n C 1 dX13_orderStatement_66 rfl rfl ?_
  refine x_iconst C (1) dX13_orderStatement_67 rfl ?_
  refine x_sipush C (200) dX13_orderStatement_68 rfl ?_
  refine x_callV C (ct_X13_number _ _ n 1 200 s7) mt_X13_number vr_X13_number wd1758 cls_X13 at_X13 rfl ⟨rfl, rfl, Nat.le_of_ble_eq_true rfl, Nat.le_of_ble_eq_true rfl⟩ rfl (Nat.le_of_ble_eq_true rfl) dX13_orderStatement_71 (kS (fun v9 s8 => ?_))
  refine x_iast C at_X13_draft rfl dX13_orderStatement_74 (fun _ => ?_)
  refine x_letS (fun s10 => ?_)
  refine x_aload_n C 1 dX13_orderStatement_75 rfl rfl ?_
  refine x_iload_n C 0 dX13_orderStatement_76 rfl rfl ?_
  refine x_iconst C (3) dX13_orderStatement_77 rfl ?_
  refine x_iadd C dX13_orderStatement_78 ?_
  refine x_ldcS C (i := 22) sr22 dX13_orderStatement_79 ?_
  refine x_iconst C (0) dX13_orderStatement_81 rfl ?_
  refine x_sipush C (1439) dX13_orderStatement_82 rfl ?_
  refine x_callV C (ct_X13_part _ _ n (v1 + 3) 22 0 1439 s10 (by decide)) mt_X13_part vr_X13_part wd1807 cls_X13 at_X13 rfl ⟨rfl, rfl, Nat.le_of_ble_eq_true rfl, Nat.le_of_ble_eq_true rfl⟩ rfl (by decide) dX13_orderStatement_85 (kV (fun s11 => ?_))
  exact x_vretQ C (hQ _) rfl dX13_orderStatement_88
theorem ct_X13_orderStatement (l : Launch) (E : xE) (n : Nat) (σ : xS)   : xMet l E yX13_orderStatement cX13_orderStatement 2 none { frames := 9, cells := 0, slots := 0, locals := 197 } [.ref (xqa E.2.2 184)] WW WW σ (xrV (m_X13_orderStatement n σ)) := by
  refine xMet.of0 (by decide) (Nat.le_of_ble_eq_true rfl) rfl rfl (fun X hE C => ?_)
  subst hE
  exact xMap (fun q => (none, q)) (wk_X13_orderStatement C (fun _ => rfl) )
theorem mt_X13_orderStatement : xMth yX13_orderStatement cX13_orderStatement 2 none 0 := ⟨wd1842, wd164, ⟨by decide, by decide, rfl⟩⟩
theorem vr_X13_orderStatement : xVir yX13_orderStatement := ⟨wd1841, wd81⟩
