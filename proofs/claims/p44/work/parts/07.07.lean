def m_X12_bestPlan (n : Nat) (σ : xS) : Option xS :=
  xj (fun (q4 : xS) => some q4) fun J2 => if (zI (σ 0 9)) = 0 then (m_X8_gather n 139 (bkA (σ 0 3)) 118 σ).bind fun s6 => (m_X8_choose n 139 (bkA (s6 0 3)) s6).bind fun s7 => xlet (xput s7 0 9 1) fun s8 => J2 s8 else J2 σ
set_option maxHeartbeats 4000000 in
set_option maxRecDepth 100000 in
theorem wk_X12_bestPlan {X : xX} {Qf : xS → State → Prop} {n : Nat} {σ : xS} (C : xCx X cX12_bestPlan "BakeryNight" (some (.object "BakeryNight$Plan")) { frames := 5, cells := 0, slots := 0, locals := 123 } 1) (hQ : ∀ τ, Qf τ = xQf X WW (some (.ref (xqa (xXE X).2.2 139)), τ))  : WO X Qf WW σ 0 [(0, .ref (xqa (xXE X).2.2 0))] [] (m_X12_bestPlan n σ) := by
  unfold m_X12_bestPlan
  refine x_aload_n C 0 dX12_bestPlan_0 rfl rfl ?_
  refine x_get (v := iV (σ 0 9)) C 9 cls_X12 at_X12 (by decide) wd576 rfl rfl dX12_bestPlan_1 ?_
  refine x_join (fun J => ∀ q4 : xS, WO X Qf WW q4 38 [(0, .ref (xqa (xXE X).2.2 0))] [] (J q4)) ?_ ?_
  · intro q4
    refine x_aload_n C 0 dX12_bestPlan_38 rfl rfl ?_
    refine x_get (v := .ref (xqa (xXE X).2.2 139)) C 7 cls_X12 at_X12 (by decide) wd574 rfl (xV_r (rt_X12_plan  _) rfl) dX12_bestPlan_39 ?_
    exact x_pretQ C (hQ _) rfl dX12_bestPlan_42
  · intro J2 hJ3
    refine x_if_ne C 38 rfl dX12_bestPlan_4 rfl (fun c5 => x_on c5 ?_) (fun c5 => x_op c5 ?_)
    · refine x_pick [0] rfl ?_
      exact hJ3 σ
    · refine x_aload_n C 0 dX12_bestPlan_7 rfl rfl ?_
      refine x_get (v := .ref (xqa (xXE X).2.2 139)) C 7 cls_X12 at_X12 (by decide) wd574 rfl (xV_r (rt_X12_plan  _) rfl) dX12_bestPlan_8 ?_
      refine x_aload_n C 0 dX12_bestPlan_11 rfl rfl ?_
      refine x_get (v := .ref (xqa (xXE X).2.2 (bkA (σ 0 3)))) C 3 cls_X12 at_X12 (by decide) wd570 rfl rfl dX12_bestPlan_12 ?_
      refine x_aload_n C 0 dX12_bestPlan_15 rfl rfl ?_
      refine x_get (v := .ref (xqa (xXE X).2.2 118)) C 6 cls_X12 at_X12 (by decide) wd573 rfl (xV_r (rt_X12_night  _) rfl) dX12_bestPlan_16 ?_
      refine x_callV C (ct_X8_gather _ _ n 139 (bkA (σ 0 3)) 118 σ (by first | exact Or.inl rfl | exact Or.inr rfl) (bk_A (σ 0 3)) (by first | exact Or.inl rfl | exact Or.inr rfl)) mt_X8_gather vr_X8_gather wd768 cls_X8 (at_X8 (by first | exact Or.inl rfl | exact Or.inr rfl)) rfl ⟨rfl, rfl, Nat.le_of_ble_eq_true rfl, Nat.le_of_ble_eq_true rfl⟩ rfl (by decide) dX12_bestPlan_19 (kV (fun s6 => ?_))
      refine x_aload_n C 0 dX12_bestPlan_22 rfl rfl ?_
      refine x_get (v := .ref (xqa (xXE X).2.2 139)) C 7 cls_X12 at_X12 (by decide) wd574 rfl (xV_r (rt_X12_plan  _) rfl) dX12_bestPlan_23 ?_
      refine x_aload_n C 0 dX12_bestPlan_26 rfl rfl ?_
      refine x_get (v := .ref (xqa (xXE X).2.2 (bkA (s6 0 3)))) C 3 cls_X12 at_X12 (by decide) wd570 rfl rfl dX12_bestPlan_27 ?_
      refine x_callV C (ct_X8_choose _ _ n 139 (bkA (s6 0 3)) s6 (by first | exact Or.inl rfl | exact Or.inr rfl) (bk_A (s6 0 3))) mt_X8_choose vr_X8_choose wd776 cls_X8 (at_X8 (by first | exact Or.inl rfl | exact Or.inr rfl)) rfl ⟨rfl, rfl, Nat.le_of_ble_eq_true rfl, Nat.le_of_ble_eq_true rfl⟩ rfl (by decide) dX12_bestPlan_30 (kV (fun s7 => ?_))
      refine x_aload_n C 0 dX12_bestPlan_33 rfl rfl ?_
      refine x_iconst C (1) dX12_bestPlan_34 rfl ?_
      refine x_put C 9 1 cls_X12 at_X12 (by decide) wd576 rfl rfl (xnb (Or.inr rfl)) (xfb (Or.inr rfl)) (xV_pI rfl) dX12_bestPlan_35 ?_
      refine x_letS (fun s8 => ?_)
      refine x_pick [0] rfl ?_
      exact hJ3 s8
theorem ct_X12_bestPlan (l : Launch) (E : xE) (n : Nat) (σ : xS)   : xMet l E yX12_bestPlan cX12_bestPlan 1 (some (.object "BakeryNight$Plan")) { frames := 5, cells := 0, slots := 0, locals := 123 } [.ref (xqa E.2.2 0)] WW WW σ (xrP (xqa E.2.2 139) (m_X12_bestPlan n σ)) := by
  refine xMet.of0 (by decide) (Nat.le_of_ble_eq_true rfl) rfl rfl (fun X hE C => ?_)
  subst hE
  exact xMap (fun q => (some (.ref (xqa (xXE X).2.2 139)), q)) (wk_X12_bestPlan C (fun _ => rfl) )
theorem mt_X12_bestPlan : xMth yX12_bestPlan cX12_bestPlan 1 (some (.object "BakeryNight$Plan")) 0 := ⟨wd767, wd49, ⟨by decide, by decide, rfl⟩⟩
theorem vr_X12_bestPlan : xVir yX12_bestPlan := ⟨wd766, wd17⟩
def m_X12_failedShops (n : Nat) (σ : xS) : Option (Int × xS) :=
  if (zI (σ 0 8)) = 0 then some ((-2), σ) else (m_X12_bestPlan n σ).bind fun s2 => xj (fun (q6 : Int) => some (q6, s2)) fun J4 => if (zI (s2 139 11)) = 0 then J4 (-1) else (m_X8_missedTotal 139 s2).bind fun v8 => J4 (v8 + (s2 139 12))
set_option maxHeartbeats 4000000 in
set_option maxRecDepth 100000 in
theorem wk_X12_failedShops {X : xX} {Qf : (Int × xS) → State → Prop} {n : Nat} {σ : xS} (C : xCx X cX12_failedShops "BakeryNight" (some .int) { frames := 6, cells := 0, slots := 0, locals := 143 } 2) (hQ : ∀ v τ, Qf (v, τ) = xQf X WW (some (iV v), τ))  : WO X Qf WW σ 0 [(0, .ref (xqa (xXE X).2.2 0))] [] (m_X12_failedShops n σ) := by
  unfold m_X12_failedShops
  refine x_aload_n C 0 dX12_failedShops_0 rfl rfl ?_
  refine x_get (v := iV (σ 0 8)) C 8 cls_X12 at_X12 (by decide) wd575 rfl rfl dX12_failedShops_1 ?_
  refine x_if_ne C 10 rfl dX12_failedShops_4 rfl (fun c1 => x_on c1 ?_) (fun c1 => x_op c1 ?_)
  · refine x_aload_n C 0 dX12_failedShops_10 rfl rfl ?_
    refine x_callV C (ct_X12_bestPlan _ _ n σ) mt_X12_bestPlan vr_X12_bestPlan wd764 cls_X12 at_X12 rfl ⟨rfl, rfl, Nat.le_of_ble_eq_true rfl, Nat.le_of_ble_eq_true rfl⟩ rfl (by decide) dX12_failedShops_11 (kR (fun s2 => ?_))
    refine x_astore_n (L' := [(1, _), (0, _)]) C dX12_failedShops_14 rfl (by decide) rfl ?_
    refine x_aload_n C 0 dX12_failedShops_15 rfl rfl ?_
    refine x_get (v := iV (s2 139 11)) C 11 cls_X8 (at_X8 (Or.inl rfl)) (by decide) wd531 rfl rfl dX12_failedShops_16 ?_
    refine x_join (fun J => ∀ q6 : Int, WO X Qf WW s2 35 [] [iV q6] (J q6)) ?_ ?_
    · intro q6
      exact x_iretQ C (hQ _ _) rfl dX12_failedShops_35
    · intro J4 hJ5
      refine x_if_eq C 34 rfl dX12_failedShops_19 rfl (fun c7 => x_op c7 ?_) (fun c7 => x_on c7 ?_)
      · refine x_iconst C (-1) dX12_failedShops_34 rfl ?_
        refine x_pick [] rfl ?_
        exact hJ5 (-1)
      · refine x_aload_n C 0 dX12_failedShops_22 rfl rfl ?_
        refine x_callV C (ct_X8_missedTotal _ _ 139 s2 (Or.inl rfl)) mt_X8_missedTotal vr_X8_missedTotal wd822 cls_X8 (at_X8 (Or.inl rfl)) rfl ⟨rfl, rfl, Nat.le_of_ble_eq_true rfl, Nat.le_of_ble_eq_true rfl⟩ rfl (by decide) dX12_failedShops_23 (kI (fun v8 => ?_))
        refine x_aload_n C 0 dX12_failedShops_26 rfl rfl ?_
        refine x_get (v := iV (s2 139 12)) C 12 cls_X8 (at_X8 (Or.inl rfl)) (by decide) wd533 rfl rfl dX12_failedShops_27 ?_
        refine x_iadd C dX12_failedShops_30 ?_
        refine x_goto C 35 dX12_failedShops_31 rfl ?_
        refine x_pick [] rfl ?_
        exact hJ5 (v8 + (s2 139 12))
  · refine x_bipush C (-2) dX12_failedShops_7 rfl ?_
    exact x_iretQ C (hQ _ _) rfl dX12_failedShops_9
theorem ct_X12_failedShops (l : Launch) (E : xE) (n : Nat) (σ : xS)   : xMet l E yX12_failedShops cX12_failedShops 2 (some .int) { frames := 6, cells := 0, slots := 0, locals := 143 } [.ref (xqa E.2.2 0)] WW WW σ (xrS (m_X12_failedShops n σ)) := by
  refine xMet.of0 (by decide) (Nat.le_of_ble_eq_true rfl) rfl rfl (fun X hE C => ?_)
  subst hE
  exact xMap (fun q => (some (iV q.1), q.2)) (wk_X12_failedShops C (fun _ _ => rfl) )
theorem mt_X12_failedShops : xMth yX12_failedShops cX12_failedShops 2 (some .int) 0 := ⟨wd763, wd49, ⟨by decide, by decide, rfl⟩⟩
theorem vr_X12_failedShops : xVir yX12_failedShops := ⟨wd761, wd762⟩
def m_L_between (p1 : Int) (p2 : Int) (p3 : Int) (σ : xS) : Option Int :=
  xnz (zI ((p3 - p2) + 1)) <| some (p2 + ((zand p1 2147483647) - (zI (zand p1 2147483647)).tdiv (zI ((p3 - p2) + 1)) * ((p3 - p2) + 1)))
set_option maxHeartbeats 4000000 in
set_option maxRecDepth 100000 in
theorem wk_L_between {X : xX} {Qf : Int → State → Prop} {p1 : Int} {p2 : Int} {p3 : Int} {σ : xS} (C : xCx X cL_between "BakeryNightLaw" (some .int) { frames := 0, cells := 0, slots := 0, locals := 0 } 3) (hQ : ∀ v, Qf v = xQf X WW (some (iV v), σ))  : WO X Qf WW σ 0 [(0, iV p1), (1, iV p2), (2, iV p3)] [] (m_L_between p1 p2 p3 σ) := by
  unfold m_L_between
  refine x_iload_n C 1 dL_between_0 rfl rfl ?_
  refine x_iload_n C 0 dL_between_1 rfl rfl ?_
  refine x_ldc C (2147483647) wd862 rfl dL_between_2 ?_
  refine x_iand C dL_between_4 ?_
  refine x_iload_n C 2 dL_between_5 rfl rfl ?_
  refine x_iload_n C 1 dL_between_6 rfl rfl ?_
  refine x_isub C dL_between_7 ?_
  refine x_iconst C (1) dL_between_8 rfl ?_
  refine x_iadd C dL_between_9 ?_
  refine x_irem C dL_between_10 ?_
  refine x_iadd C dL_between_11 ?_
  exact x_iretQ C (hQ _) rfl dL_between_12
theorem ct_L_between (l : Launch) (E : xE) (p1 : Int) (p2 : Int) (p3 : Int) (σ : xS)   : xMet l E yL_between cL_between 3 (some .int) { frames := 0, cells := 0, slots := 0, locals := 0 } [iV p1, iV p2, iV p3] WW WW σ (xrI (m_L_between p1 p2 p3 σ) σ) := by
  refine xMet.of0 (by decide) (Nat.le_of_ble_eq_true rfl) rfl rfl (fun X hE C => ?_)
  subst hE
  exact xMap (fun v => (some (iV v), σ)) (wk_L_between C (fun _ => rfl) )
theorem mt_L_between : xMth yL_between cL_between 3 (some .int) 3 := ⟨wd861, wd48, ⟨by decide, by decide, rfl⟩⟩
theorem st_L_between : Cond.static yL_between ∈ GW := wd860
