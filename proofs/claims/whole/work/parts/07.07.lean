def m_X12_vanOf (n : Nat) (p1 : Int) (σ : xS) : Option (Int × xS) :=
  if (zI (σ 0 8)) = 0 then some ((-2), σ) else xj (fun (q5 : xS × Int) => some (q5.2, q5.1)) fun J3 => if (m_X1_hasShop (bkA (σ 0 3)) p1 σ) = 0 then J3 (σ, (-1)) else (m_X12_bestPlan n σ).bind fun s7 => (m_X8_vanFor n 139 p1 s7).bind fun v8 => J3 (s7, v8)
set_option maxHeartbeats 4000000 in
set_option maxRecDepth 100000 in
theorem wk_X12_vanOf {X : xX} {Qf : (Int × xS) → State → Prop} {n : Nat} {p1 : Int} {σ : xS} (C : xCx X cX12_vanOf "BakeryNight" (some .int) { frames := 6, cells := 0, slots := 0, locals := 143 } 2) (hQ : ∀ v τ, Qf (v, τ) = xQf X WW (some (iV v), τ))  : WO X Qf WW σ 0 [(0, .ref (xqa (xXE X).2.2 0)), (1, iV p1)] [] (m_X12_vanOf n p1 σ) := by
  unfold m_X12_vanOf
  refine x_aload_n C 0 dX12_vanOf_0 rfl rfl ?_
  refine x_get (v := iV (σ 0 8)) C 8 cls_X12 at_X12 (by decide) wd683 rfl rfl dX12_vanOf_1 ?_
  refine x_if_ne C 10 rfl dX12_vanOf_4 rfl (fun c1 => x_on c1 ?_) (fun c1 => x_op c1 ?_)
  · refine x_aload_n C 0 dX12_vanOf_10 rfl rfl ?_
    refine x_get (v := .ref (xqa (xXE X).2.2 (bkA (σ 0 3)))) C 3 cls_X12 at_X12 (by decide) wd678 rfl rfl dX12_vanOf_11 ?_
    refine x_iload_n C 1 dX12_vanOf_14 rfl rfl ?_
    refine x_callV C (ct_X1_hasShop _ _ (bkA (σ 0 3)) p1 σ (bk_A (σ 0 3))) mt_X1_hasShop vr_X1_hasShop wd1000 cls_X1 (at_X1 (bk_A (σ 0 3))) rfl ⟨rfl, rfl, Nat.le_of_ble_eq_true rfl, Nat.le_of_ble_eq_true rfl⟩ rfl (by decide) dX12_vanOf_15 (kP ?_)
    refine x_join (fun J => ∀ q5 : xS × Int, WO X Qf WW q5.1 33 [] [iV q5.2] (J q5)) ?_ ?_
    · intro q5
      exact x_iretQ C (hQ _ _) rfl dX12_vanOf_33
    · intro J3 hJ4
      refine x_if_eq C 32 (zI_bo (bo_X1_hasShop _ _ _)) dX12_vanOf_18 rfl (fun c6 => x_op c6 ?_) (fun c6 => x_on c6 ?_)
      · refine x_iconst C (-1) dX12_vanOf_32 rfl ?_
        refine x_pick [] rfl ?_
        exact hJ4 (σ, (-1))
      · refine x_aload_n C 0 dX12_vanOf_21 rfl rfl ?_
        refine x_callV C (ct_X12_bestPlan _ _ n σ) mt_X12_bestPlan vr_X12_bestPlan wd1222 cls_X12 at_X12 rfl ⟨rfl, rfl, Nat.le_of_ble_eq_true rfl, Nat.le_of_ble_eq_true rfl⟩ rfl (by decide) dX12_vanOf_22 (kR (fun s7 => ?_))
        refine x_iload_n C 1 dX12_vanOf_25 rfl rfl ?_
        refine x_callV C (ct_X8_vanFor _ _ n 139 p1 s7 (Or.inl rfl)) mt_X8_vanFor vr_X8_vanFor wd1276 cls_X8 (at_X8 (Or.inl rfl)) rfl ⟨rfl, rfl, Nat.le_of_ble_eq_true rfl, Nat.le_of_ble_eq_true rfl⟩ rfl (by decide) dX12_vanOf_26 (kI (fun v8 => ?_))
        refine x_goto C 33 dX12_vanOf_29 rfl ?_
        refine x_pick [] rfl ?_
        exact hJ4 (s7, v8)
  · refine x_bipush C (-2) dX12_vanOf_7 rfl ?_
    exact x_iretQ C (hQ _ _) rfl dX12_vanOf_9
theorem ct_X12_vanOf (l : Launch) (E : xE) (n : Nat) (p1 : Int) (σ : xS)   : xMet l E yX12_vanOf cX12_vanOf 2 (some .int) { frames := 6, cells := 0, slots := 0, locals := 143 } [.ref (xqa E.2.2 0), iV p1] WW WW σ (xrS (m_X12_vanOf n p1 σ)) := by
  refine xMet.of0 (by decide) (Nat.le_of_ble_eq_true rfl) rfl rfl (fun X hE C => ?_)
  subst hE
  exact xMap (fun q => (some (iV q.1), q.2)) (wk_X12_vanOf C (fun _ _ => rfl) )
theorem mt_X12_vanOf : xMth yX12_vanOf cX12_vanOf 2 (some .int) 1 := ⟨wd1275, wd151, ⟨by decide, by decide, rfl⟩⟩
theorem vr_X12_vanOf : xVir yX12_vanOf := ⟨wd1273, wd1274⟩
def m_X12_arrivalMinute (n : Nat) (p1 : Int) (σ : xS) : Option (Int × xS) :=
  if (zI (σ 0 8)) = 0 then some ((-2), σ) else if (m_X1_hasShop (bkA (σ 0 3)) p1 σ) = 0 then some ((-1), σ) else (m_X12_bestPlan n σ).bind fun s3 => (m_X8_vanFor n 139 p1 s3).bind fun v4 => xj (fun (q7 : Int) => some (q7, s3)) fun J5 => if (zI v4) = (-1) then J5 (-1) else xck (zI p1) 7 <| J5 (s3 (139 + 11) (zI p1).toNat)
set_option maxHeartbeats 4000000 in
set_option maxRecDepth 100000 in
theorem wk_X12_arrivalMinute {X : xX} {Qf : (Int × xS) → State → Prop} {n : Nat} {p1 : Int} {σ : xS} (C : xCx X cX12_arrivalMinute "BakeryNight" (some .int) { frames := 6, cells := 0, slots := 0, locals := 143 } 3) (hQ : ∀ v τ, Qf (v, τ) = xQf X WW (some (iV v), τ))  : WO X Qf WW σ 0 [(0, .ref (xqa (xXE X).2.2 0)), (1, iV p1)] [] (m_X12_arrivalMinute n p1 σ) := by
  unfold m_X12_arrivalMinute
  refine x_aload_n C 0 dX12_arrivalMinute_0 rfl rfl ?_
  refine x_get (v := iV (σ 0 8)) C 8 cls_X12 at_X12 (by decide) wd683 rfl rfl dX12_arrivalMinute_1 ?_
  refine x_if_ne C 10 rfl dX12_arrivalMinute_4 rfl (fun c1 => x_on c1 ?_) (fun c1 => x_op c1 ?_)
  · refine x_aload_n C 0 dX12_arrivalMinute_10 rfl rfl ?_
    refine x_get (v := .ref (xqa (xXE X).2.2 (bkA (σ 0 3)))) C 3 cls_X12 at_X12 (by decide) wd678 rfl rfl dX12_arrivalMinute_11 ?_
    refine x_iload_n C 1 dX12_arrivalMinute_14 rfl rfl ?_
    refine x_callV C (ct_X1_hasShop _ _ (bkA (σ 0 3)) p1 σ (bk_A (σ 0 3))) mt_X1_hasShop vr_X1_hasShop wd1000 cls_X1 (at_X1 (bk_A (σ 0 3))) rfl ⟨rfl, rfl, Nat.le_of_ble_eq_true rfl, Nat.le_of_ble_eq_true rfl⟩ rfl (by decide) dX12_arrivalMinute_15 (kP ?_)
    refine x_if_ne C 23 (zI_bo (bo_X1_hasShop _ _ _)) dX12_arrivalMinute_18 rfl (fun c2 => x_on c2 ?_) (fun c2 => x_op c2 ?_)
    · refine x_aload_n C 0 dX12_arrivalMinute_23 rfl rfl ?_
      refine x_callV C (ct_X12_bestPlan _ _ n σ) mt_X12_bestPlan vr_X12_bestPlan wd1222 cls_X12 at_X12 rfl ⟨rfl, rfl, Nat.le_of_ble_eq_true rfl, Nat.le_of_ble_eq_true rfl⟩ rfl (by decide) dX12_arrivalMinute_24 (kR (fun s3 => ?_))
      refine x_astore_n (L' := [(2, _), (0, _), (1, _)]) C dX12_arrivalMinute_27 rfl (by decide) rfl ?_
      refine x_aload_n C 0 dX12_arrivalMinute_28 rfl rfl ?_
      refine x_iload_n C 2 dX12_arrivalMinute_29 rfl rfl ?_
      refine x_callV C (ct_X8_vanFor _ _ n 139 p1 s3 (Or.inl rfl)) mt_X8_vanFor vr_X8_vanFor wd1276 cls_X8 (at_X8 (Or.inl rfl)) rfl ⟨rfl, rfl, Nat.le_of_ble_eq_true rfl, Nat.le_of_ble_eq_true rfl⟩ rfl (by decide) dX12_arrivalMinute_30 (kI (fun v4 => ?_))
      refine x_iconst C (-1) dX12_arrivalMinute_33 rfl ?_
      refine x_join (fun J => ∀ q7 : Int, WO X Qf WW s3 47 [] [iV q7] (J q7)) ?_ ?_
      · intro q7
        exact x_iretQ C (hQ _ _) rfl dX12_arrivalMinute_47
      · intro J5 hJ6
        refine x_icmp_ne C 41 rfl (zIl _ rfl) dX12_arrivalMinute_34 rfl (fun c8 => x_on c8 ?_) (fun c8 => x_op c8 ?_)
        · refine x_aload_n C 0 dX12_arrivalMinute_41 rfl rfl ?_
          refine x_get (v := .ref (xqa (xXE X).2.2 (139 + 11))) C 14 cls_X8 (at_X8 (Or.inl rfl)) (by decide) wd643 rfl (xV_r (rt_X8_arrival (Or.inl rfl) _) rfl) dX12_arrivalMinute_42 ?_
          refine x_iload_n C 2 dX12_arrivalMinute_45 rfl rfl ?_
          refine x_iald C (at_X8_arrival (Or.inl rfl)) rfl dX12_arrivalMinute_46 (fun _ => ?_)
          refine x_pick [] rfl ?_
          exact hJ6 (s3 (139 + 11) (zI p1).toNat)
        · refine x_iconst C (-1) dX12_arrivalMinute_37 rfl ?_
          refine x_goto C 47 dX12_arrivalMinute_38 rfl ?_
          refine x_pick [] rfl ?_
          exact hJ6 (-1)
    · refine x_iconst C (-1) dX12_arrivalMinute_21 rfl ?_
      exact x_iretQ C (hQ _ _) rfl dX12_arrivalMinute_22
  · refine x_bipush C (-2) dX12_arrivalMinute_7 rfl ?_
    exact x_iretQ C (hQ _ _) rfl dX12_arrivalMinute_9
theorem ct_X12_arrivalMinute (l : Launch) (E : xE) (n : Nat) (p1 : Int) (σ : xS)   : xMet l E yX12_arrivalMinute cX12_arrivalMinute 3 (some .int) { frames := 6, cells := 0, slots := 0, locals := 143 } [.ref (xqa E.2.2 0), iV p1] WW WW σ (xrS (m_X12_arrivalMinute n p1 σ)) := by
  refine xMet.of0 (by decide) (Nat.le_of_ble_eq_true rfl) rfl rfl (fun X hE C => ?_)
  subst hE
  exact xMap (fun q => (some (iV q.1), q.2)) (wk_X12_arrivalMinute C (fun _ _ => rfl) )
theorem mt_X12_arrivalMinute : xMth yX12_arrivalMinute cX12_arrivalMinute 3 (some .int) 1 := ⟨wd1283, wd151, ⟨by decide, by decide, rfl⟩⟩
theorem vr_X12_arrivalMinute : xVir yX12_arrivalMinute := ⟨wd1281, wd1282⟩
def m_X12_departureMinute (n : Nat) (p1 : Int) (σ : xS) : Option (Int × xS) :=
  if (zI (σ 0 8)) = 0 then some ((-2), σ) else xj (fun (q5 : xS × Int) => some (q5.2, q5.1)) fun J3 => if (m_X1_hasVan (bkA (σ 0 3)) p1 σ) = 0 then J3 (σ, (-1)) else (m_X12_bestPlan n σ).bind fun s7 => (m_X8_departureOf n 139 p1 s7).bind fun v8 => J3 (s7, v8)
set_option maxHeartbeats 4000000 in
set_option maxRecDepth 100000 in
theorem wk_X12_departureMinute {X : xX} {Qf : (Int × xS) → State → Prop} {n : Nat} {p1 : Int} {σ : xS} (C : xCx X cX12_departureMinute "BakeryNight" (some .int) { frames := 6, cells := 0, slots := 0, locals := 143 } 2) (hQ : ∀ v τ, Qf (v, τ) = xQf X WW (some (iV v), τ))  : WO X Qf WW σ 0 [(0, .ref (xqa (xXE X).2.2 0)), (1, iV p1)] [] (m_X12_departureMinute n p1 σ) := by
  unfold m_X12_departureMinute
  refine x_aload_n C 0 dX12_departureMinute_0 rfl rfl ?_
  refine x_get (v := iV (σ 0 8)) C 8 cls_X12 at_X12 (by decide) wd683 rfl rfl dX12_departureMinute_1 ?_
  refine x_if_ne C 10 rfl dX12_departureMinute_4 rfl (fun c1 => x_on c1 ?_) (fun c1 => x_op c1 ?_)
  · refine x_aload_n C 0 dX12_departureMinute_10 rfl rfl ?_
    refine x_get (v := .ref (xqa (xXE X).2.2 (bkA (σ 0 3)))) C 3 cls_X12 at_X12 (by decide) wd678 rfl rfl dX12_departureMinute_11 ?_
    refine x_iload_n C 1 dX12_departureMinute_14 rfl rfl ?_
    refine x_callV C (ct_X1_hasVan _ _ (bkA (σ 0 3)) p1 σ (bk_A (σ 0 3))) mt_X1_hasVan vr_X1_hasVan wd1288 cls_X1 (at_X1 (bk_A (σ 0 3))) rfl ⟨rfl, rfl, Nat.le_of_ble_eq_true rfl, Nat.le_of_ble_eq_true rfl⟩ rfl (by decide) dX12_departureMinute_15 (kP ?_)
    refine x_join (fun J => ∀ q5 : xS × Int, WO X Qf WW q5.1 33 [] [iV q5.2] (J q5)) ?_ ?_
    · intro q5
      exact x_iretQ C (hQ _ _) rfl dX12_departureMinute_33
    · intro J3 hJ4
      refine x_if_eq C 32 (zI_bo (bo_X1_hasVan _ _ _)) dX12_departureMinute_18 rfl (fun c6 => x_op c6 ?_) (fun c6 => x_on c6 ?_)
      · refine x_iconst C (-1) dX12_departureMinute_32 rfl ?_
        refine x_pick [] rfl ?_
        exact hJ4 (σ, (-1))
      · refine x_aload_n C 0 dX12_departureMinute_21 rfl rfl ?_
        refine x_callV C (ct_X12_bestPlan _ _ n σ) mt_X12_bestPlan vr_X12_bestPlan wd1222 cls_X12 at_X12 rfl ⟨rfl, rfl, Nat.le_of_ble_eq_true rfl, Nat.le_of_ble_eq_true rfl⟩ rfl (by decide) dX12_departureMinute_22 (kR (fun s7 => ?_))
        refine x_iload_n C 1 dX12_departureMinute_25 rfl rfl ?_
        refine x_callV C (ct_X8_departureOf _ _ n 139 p1 s7 (Or.inl rfl)) mt_X8_departureOf vr_X8_departureOf wd1292 cls_X8 (at_X8 (Or.inl rfl)) rfl ⟨rfl, rfl, Nat.le_of_ble_eq_true rfl, Nat.le_of_ble_eq_true rfl⟩ rfl (by decide) dX12_departureMinute_26 (kI (fun v8 => ?_))
        refine x_goto C 33 dX12_departureMinute_29 rfl ?_
        refine x_pick [] rfl ?_
        exact hJ4 (s7, v8)
  · refine x_bipush C (-2) dX12_departureMinute_7 rfl ?_
    exact x_iretQ C (hQ _ _) rfl dX12_departureMinute_9
theorem ct_X12_departureMinute (l : Launch) (E : xE) (n : Nat) (p1 : Int) (σ : xS)   : xMet l E yX12_departureMinute cX12_departureMinute 2 (some .int) { frames := 6, cells := 0, slots := 0, locals := 143 } [.ref (xqa E.2.2 0), iV p1] WW WW σ (xrS (m_X12_departureMinute n p1 σ)) := by
  refine xMet.of0 (by decide) (Nat.le_of_ble_eq_true rfl) rfl rfl (fun X hE C => ?_)
  subst hE
  exact xMap (fun q => (some (iV q.1), q.2)) (wk_X12_departureMinute C (fun _ _ => rfl) )
theorem mt_X12_departureMinute : xMth yX12_departureMinute cX12_departureMinute 2 (some .int) 1 := ⟨wd1287, wd151, ⟨by decide, by decide, rfl⟩⟩
theorem vr_X12_departureMinute : xVir yX12_departureMinute := ⟨wd1285, wd1286⟩
def m_X12_staleOrders (n : Nat) (σ : xS) : Option (Int × xS) :=
  if (zI (σ 0 8)) = 0 then some ((-2), σ) else (m_X12_bestPlan n σ).bind fun s2 => xj (fun (q6 : Int) => some (q6, s2)) fun J4 => if (zI (s2 139 11)) = 0 then J4 (-1) else (m_X8_staleTotal n 139 (bkA (s2 0 3)) 118 s2).bind fun v8 => J4 v8
set_option maxHeartbeats 4000000 in
set_option maxRecDepth 100000 in
theorem wk_X12_staleOrders {X : xX} {Qf : (Int × xS) → State → Prop} {n : Nat} {σ : xS} (C : xCx X cX12_staleOrders "BakeryNight" (some .int) { frames := 6, cells := 0, slots := 0, locals := 143 } 2) (hQ : ∀ v τ, Qf (v, τ) = xQf X WW (some (iV v), τ))  : WO X Qf WW σ 0 [(0, .ref (xqa (xXE X).2.2 0))] [] (m_X12_staleOrders n σ) := by
  unfold m_X12_staleOrders
  refine x_aload_n C 0 dX12_staleOrders_0 rfl rfl ?_
  refine x_get (v := iV (σ 0 8)) C 8 cls_X12 at_X12 (by decide) wd683 rfl rfl dX12_staleOrders_1 ?_
  refine x_if_ne C 10 rfl dX12_staleOrders_4 rfl (fun c1 => x_on c1 ?_) (fun c1 => x_op c1 ?_)
  · refine x_aload_n C 0 dX12_staleOrders_10 rfl rfl ?_
    refine x_callV C (ct_X12_bestPlan _ _ n σ) mt_X12_bestPlan vr_X12_bestPlan wd1222 cls_X12 at_X12 rfl ⟨rfl, rfl, Nat.le_of_ble_eq_true rfl, Nat.le_of_ble_eq_true rfl⟩ rfl (by decide) dX12_staleOrders_11 (kR (fun s2 => ?_))
    refine x_astore_n (L' := [(1, _), (0, _)]) C dX12_staleOrders_14 rfl (by decide) rfl ?_
    refine x_aload_n C 0 dX12_staleOrders_15 rfl rfl ?_
    refine x_get (v := iV (s2 139 11)) C 11 cls_X8 (at_X8 (Or.inl rfl)) (by decide) wd638 rfl rfl dX12_staleOrders_16 ?_
    refine x_join (fun J => ∀ q6 : Int, WO X Qf WW s2 38 [] [iV q6] (J q6)) ?_ ?_
    · intro q6
      exact x_iretQ C (hQ _ _) rfl dX12_staleOrders_38
    · intro J4 hJ5
      refine x_if_eq C 37 rfl dX12_staleOrders_19 rfl (fun c7 => x_op c7 ?_) (fun c7 => x_on c7 ?_)
      · refine x_iconst C (-1) dX12_staleOrders_37 rfl ?_
        refine x_pick [] rfl ?_
        exact hJ5 (-1)
      · refine x_aload_n C 0 dX12_staleOrders_22 rfl rfl ?_
        refine x_aload_n C 1 dX12_staleOrders_23 rfl rfl ?_
        refine x_get (v := .ref (xqa (xXE X).2.2 (bkA (s2 0 3)))) C 3 cls_X12 at_X12 (by decide) wd678 rfl rfl dX12_staleOrders_24 ?_
        refine x_aload_n C 1 dX12_staleOrders_27 rfl rfl ?_
        refine x_get (v := .ref (xqa (xXE X).2.2 118)) C 6 cls_X12 at_X12 (by decide) wd681 rfl (xV_r (rt_X12_night  _) rfl) dX12_staleOrders_28 ?_
        refine x_callV C (ct_X8_staleTotal _ _ n 139 (bkA (s2 0 3)) 118 s2 (Or.inl rfl) (bk_A (s2 0 3)) (by first | exact Or.inl rfl | exact Or.inr rfl)) mt_X8_staleTotal vr_X8_staleTotal wd1300 cls_X8 (at_X8 (Or.inl rfl)) rfl ⟨rfl, rfl, Nat.le_of_ble_eq_true rfl, Nat.le_of_ble_eq_true rfl⟩ rfl (by decide) dX12_staleOrders_31 (kI (fun v8 => ?_))
        refine x_goto C 38 dX12_staleOrders_34 rfl ?_
        refine x_pick [] rfl ?_
        exact hJ5 v8
  · refine x_bipush C (-2) dX12_staleOrders_7 rfl ?_
    exact x_iretQ C (hQ _ _) rfl dX12_staleOrders_9
theorem ct_X12_staleOrders (l : Launch) (E : xE) (n : Nat) (σ : xS)   : xMet l E yX12_staleOrders cX12_staleOrders 2 (some .int) { frames := 6, cells := 0, slots := 0, locals := 143 } [.ref (xqa E.2.2 0)] WW WW σ (xrS (m_X12_staleOrders n σ)) := by
  refine xMet.of0 (by decide) (Nat.le_of_ble_eq_true rfl) rfl rfl (fun X hE C => ?_)
  subst hE
  exact xMap (fun q => (some (iV q.1), q.2)) (wk_X12_staleOrders C (fun _ _ => rfl) )
theorem mt_X12_staleOrders : xMth yX12_staleOrders cX12_staleOrders 2 (some .int) 0 := ⟨wd1299, wd151, ⟨by decide, by decide, rfl⟩⟩
theorem vr_X12_staleOrders : xVir yX12_staleOrders := ⟨wd1297, wd1298⟩
def m_X13_isWord (n : Nat) (k1 : Nat) (σ : xS) : Option Int :=
  xj (fun (q4 : Unit) => some 0) fun J2 => if (m_X13_fine σ) = 0 then J2 () else (m_X13_wordLength n σ).bind fun v6 => if (zI v6) = (zI (m_J0_length_8abf5 k1)) then loopF (fun rec9 (t8 : Int) => if (zI (m_J0_length_8abf5 k1)) ≤ (zI t8) then some 1 else (m_X13_byteAt ((σ 184 11) + t8) σ).bind fun v12 => (m_J0_charAt_5068e k1 t8).bind fun v13 => if (zI v12) = (zI v13) then xlet (t8 + 1) fun v15 => rec9 v15 else some 0) n 0 else J2 ()
set_option maxHeartbeats 4000000 in
set_option maxRecDepth 100000 in
theorem wk_X13_isWord {X : xX} {Qf : Int → State → Prop} {n : Nat} {k1 : Nat} {σ : xS} (C : xCx X cX13_isWord "BakeryNightModel" (some .boolean) { frames := 5, cells := 0, slots := 0, locals := 106 } 3) (hQ : ∀ v, Qf v = xQf X WW (some (iV v), σ)) (hk1 : k1 < 24) : WO X Qf WW σ 0 [(0, .ref (xqa (xXE X).2.2 184)), (1, cR X 1 k1)] [] (m_X13_isWord n k1 σ) := by
  unfold m_X13_isWord
  refine x_aload_n C 0 dX13_isWord_0 rfl rfl ?_
  refine x_callV C (ct_X13_fine _ _ σ) mt_X13_fine vr_X13_fine wd1700 cls_X13 at_X13 rfl ⟨rfl, rfl, Nat.le_of_ble_eq_true rfl, Nat.le_of_ble_eq_true rfl⟩ rfl (by decide) dX13_isWord_1 (kP ?_)
  refine x_join (fun J => ∀ q4 : Unit, WO X Qf WW σ 18 [] [] (J q4)) ?_ ?_
  · intro q4
    refine x_iconst C (0) dX13_isWord_18 rfl ?_
    exact x_zretQ C (hQ _) rfl (Or.inl rfl) dX13_isWord_19
  · intro J2 hJ3
    refine x_if_eq C 18 (zI_bo (bo_X13_fine _)) dX13_isWord_4 rfl (fun c5 => x_op c5 ?_) (fun c5 => x_on c5 ?_)
    · refine x_pick [] rfl ?_
      exact hJ3 ()
    · refine x_aload_n C 0 dX13_isWord_7 rfl rfl ?_
      refine x_callV C (ct_X13_wordLength _ _ n σ) mt_X13_wordLength vr_X13_wordLength wd1717 cls_X13 at_X13 rfl ⟨rfl, rfl, Nat.le_of_ble_eq_true rfl, Nat.le_of_ble_eq_true rfl⟩ rfl (by decide) dX13_isWord_8 (kI (fun v6 => ?_))
      refine x_aload_n C 1 dX13_isWord_11 rfl rfl ?_
      refine x_callVs C (ct_J0_length_8abf5 _ _ k1 hk1 σ) mt_J0_length_8abf5 vr_J0_length_8abf5 wd1727 hk1 rfl ⟨rfl, rfl, Nat.le_of_ble_eq_true rfl, Nat.le_of_ble_eq_true rfl⟩ rfl (Nat.le_of_ble_eq_true rfl) dX13_isWord_12 (kP ?_)
      refine x_icmp_eq C 20 rfl rfl dX13_isWord_15 rfl (fun c7 => x_op c7 ?_) (fun c7 => x_on c7 ?_)
      · refine x_iconst C (0) dX13_isWord_20 rfl ?_
        refine x_istore_n (L' := [(2, _), (0, _), (1, _)]) C dX13_isWord_21 rfl (by decide) rfl ?_
        refine x_pick [1, 2, 0] rfl ?_
        refine x_loop (fun t8 : Int => σ) (fun t8 : Int => [(0, .ref (xqa (xXE X).2.2 184)), (1, cR X 1 k1), (2, iV t8)]) (fun rec9 hr10 t8 => ?_) n 0
        refine x_iload_n C 2 dX13_isWord_22 rfl rfl ?_
        refine x_aload_n C 1 dX13_isWord_23 rfl rfl ?_
        refine x_callVs C (ct_J0_length_8abf5 _ _ k1 hk1 σ) mt_J0_length_8abf5 vr_J0_length_8abf5 wd1727 hk1 rfl ⟨rfl, rfl, Nat.le_of_ble_eq_true rfl, Nat.le_of_ble_eq_true rfl⟩ rfl (Nat.le_of_ble_eq_true rfl) dX13_isWord_24 (kP ?_)
        refine x_icmp_ge C 56 rfl rfl dX13_isWord_27 rfl (fun c11 => x_op c11 ?_) (fun c11 => x_on c11 ?_)
        · refine x_iconst C (1) dX13_isWord_56 rfl ?_
          exact x_zretQ C (hQ _) rfl (Or.inr rfl) dX13_isWord_57
        · refine x_aload_n C 0 dX13_isWord_30 rfl rfl ?_
          refine x_aload_n C 0 dX13_isWord_31 rfl rfl ?_
          refine x_get (v := iV (σ 184 11)) C 11 cls_X13 at_X13 (by decide) wd1513 rfl rfl dX13_isWord_32 ?_
          refine x_iload_n C 2 dX13_isWord_35 rfl rfl ?_
          refine x_iadd C dX13_isWord_36 ?_
          refine x_callV C (ct_X13_byteAt _ _ ((σ 184 11) + t8) σ) mt_X13_byteAt vr_X13_byteAt wd1696 cls_X13 at_X13 rfl ⟨rfl, rfl, Nat.le_of_ble_eq_true rfl, Nat.le_of_ble_eq_true rfl⟩ rfl (by decide) dX13_isWord_37 (kI (fun v12 => ?_))
          refine x_aload_n C 1 dX13_isWord_40 rfl rfl ?_
          refine x_iload_n C 2 dX13_isWord_41 rfl rfl ?_
          refine x_callVs C (ct_J0_charAt_5068e _ _ k1 t8 hk1 σ) mt_J0_charAt_5068e vr_J0_charAt_5068e wd1728 hk1 rfl ⟨rfl, rfl, Nat.le_of_ble_eq_true rfl, Nat.le_of_ble_eq_true rfl⟩ rfl (Nat.le_of_ble_eq_true rfl) dX13_isWord_42 (kI (fun v13 => ?_))
          refine x_icmp_eq C 50 rfl rfl dX13_isWord_45 rfl (fun c14 => x_op c14 ?_) (fun c14 => x_on c14 ?_)
          · refine x_inc C 2 (f := _) dX13_isWord_50 rfl (by decide) (1) rfl (fun v15 => ?_)
            refine x_reL (L' := [(2, _), (0, _), (1, _)]) rfl ?_
            refine x_goto C 22 dX13_isWord_53 rfl ?_
            refine x_pick [1, 2, 0] rfl ?_
            exact hr10 v15
          · refine x_iconst C (0) dX13_isWord_48 rfl ?_
            exact x_zretQ C (hQ _) rfl (Or.inl rfl) dX13_isWord_49
      · refine x_pick [] rfl ?_
        exact hJ3 ()
theorem ct_X13_isWord (l : Launch) (E : xE) (n : Nat) (k1 : Nat) (σ : xS) (hk1 : k1 < 24)  : xMet l E yX13_isWord cX13_isWord 3 (some .boolean) { frames := 5, cells := 0, slots := 0, locals := 106 } [.ref (xqa E.2.2 184), cRE E 1 k1] WW WW σ (xrI (m_X13_isWord n k1 σ) σ) := by
  refine xMet.of0 (by decide) (Nat.le_of_ble_eq_true rfl) rfl rfl (fun X hE C => ?_)
  subst hE
  exact xMap (fun v => (some (iV v), σ)) (wk_X13_isWord C (fun _ => rfl) hk1)
theorem mt_X13_isWord : xMth yX13_isWord cX13_isWord 3 (some .boolean) 1 := ⟨wd1716, wd164, ⟨by decide, by decide, rfl⟩⟩
theorem vr_X13_isWord : xVir yX13_isWord := ⟨wd1715, wd57⟩
def m_X13_takes (n : Nat) (k1 : Nat) (σ : xS) : Option (Int × xS) :=
  (m_X13_isWord n k1 σ).bind fun v1 => if (zI v1) = 0 then some (0, σ) else xlet (xput σ 184 11 ((σ 184 11) + (m_J0_length_8abf5 k1))) fun s3 => (m_X13_skips n s3).bind fun s4 => some (1, s4)
set_option maxHeartbeats 4000000 in
set_option maxRecDepth 100000 in
theorem wk_X13_takes {X : xX} {Qf : (Int × xS) → State → Prop} {n : Nat} {k1 : Nat} {σ : xS} (C : xCx X cX13_takes "BakeryNightModel" (some .boolean) { frames := 6, cells := 0, slots := 0, locals := 128 } 2) (hQ : ∀ v τ, Qf (v, τ) = xQf X WW (some (iV v), τ)) (hk1 : k1 < 24) : WO X Qf WW σ 0 [(0, .ref (xqa (xXE X).2.2 184)), (1, cR X 1 k1)] [] (m_X13_takes n k1 σ) := by
  unfold m_X13_takes
  refine x_aload_n C 0 dX13_takes_0 rfl rfl ?_
  refine x_aload_n C 1 dX13_takes_1 rfl rfl ?_
  refine x_callV C (ct_X13_isWord _ _ n k1 σ hk1) mt_X13_isWord vr_X13_isWord wd1713 cls_X13 at_X13 rfl ⟨rfl, rfl, Nat.le_of_ble_eq_true rfl, Nat.le_of_ble_eq_true rfl⟩ rfl (by decide) dX13_takes_2 (kI (fun v1 => ?_))
  refine x_if_ne C 10 rfl dX13_takes_5 rfl (fun c2 => x_on c2 ?_) (fun c2 => x_op c2 ?_)
  · refine x_aload_n C 0 dX13_takes_10 rfl rfl ?_
    refine x_aload_n C 0 dX13_takes_11 rfl rfl ?_
    refine x_get (v := iV (σ 184 11)) C 11 cls_X13 at_X13 (by decide) wd1513 rfl rfl dX13_takes_12 ?_
    refine x_aload_n C 1 dX13_takes_15 rfl rfl ?_
    refine x_callVs C (ct_J0_length_8abf5 _ _ k1 hk1 σ) mt_J0_length_8abf5 vr_J0_length_8abf5 wd1727 hk1 rfl ⟨rfl, rfl, Nat.le_of_ble_eq_true rfl, Nat.le_of_ble_eq_true rfl⟩ rfl (Nat.le_of_ble_eq_true rfl) dX13_takes_16 (kP ?_)
    refine x_iadd C dX13_takes_19 ?_
    refine x_put C 11 ((σ 184 11) + (m_J0_length_8abf5 k1)) cls_X13 at_X13 (by decide) wd1513 rfl rfl rfl rfl (xV_pI rfl) dX13_takes_20 ?_
    refine x_letS (fun s3 => ?_)
    refine x_aload_n C 0 dX13_takes_23 rfl rfl ?_
    refine x_callV C (ct_X13_skips _ _ n s3) mt_X13_skips vr_X13_skips wd1688 cls_X13 at_X13 rfl ⟨rfl, rfl, Nat.le_of_ble_eq_true rfl, Nat.le_of_ble_eq_true rfl⟩ rfl (by decide) dX13_takes_24 (kV (fun s4 => ?_))
    refine x_iconst C (1) dX13_takes_27 rfl ?_
    exact x_zretQ C (hQ _ _) rfl (Or.inr rfl) dX13_takes_28
  · refine x_iconst C (0) dX13_takes_8 rfl ?_
    exact x_zretQ C (hQ _ _) rfl (Or.inl rfl) dX13_takes_9
theorem ct_X13_takes (l : Launch) (E : xE) (n : Nat) (k1 : Nat) (σ : xS) (hk1 : k1 < 24)  : xMet l E yX13_takes cX13_takes 2 (some .boolean) { frames := 6, cells := 0, slots := 0, locals := 128 } [.ref (xqa E.2.2 184), cRE E 1 k1] WW WW σ (xrS (m_X13_takes n k1 σ)) := by
  refine xMet.of0 (by decide) (Nat.le_of_ble_eq_true rfl) rfl rfl (fun X hE C => ?_)
  subst hE
  exact xMap (fun q => (some (iV q.1), q.2)) (wk_X13_takes C (fun _ _ => rfl) hk1)
theorem mt_X13_takes : xMth yX13_takes cX13_takes 2 (some .boolean) 1 := ⟨wd1818, wd164, ⟨by decide, by decide, rfl⟩⟩
theorem vr_X13_takes : xVir yX13_takes := ⟨wd1817, wd75⟩
