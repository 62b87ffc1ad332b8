def m_X12_bakingMinutes (n : Nat) (p1 : Int) (σ : xS) : Option Int :=
  if (zI (σ 0 8)) = 0 then some (-2) else xj (fun (q5 : Int) => some q5) fun J3 => if (m_X1_hasOven (bkA (σ 0 3)) p1 σ) = 0 then J3 (-1) else (m_X4_minutesBakedIn n 118 p1 σ).bind fun v7 => J3 v7
set_option maxHeartbeats 4000000 in
set_option maxRecDepth 100000 in
theorem wk_X12_bakingMinutes {X : xX} {Qf : Int → State → Prop} {n : Nat} {p1 : Int} {σ : xS} (C : xCx X cX12_bakingMinutes "BakeryNight" (some .int) { frames := 1, cells := 0, slots := 0, locals := 23 } 2) (hQ : ∀ v, Qf v = xQf X WW (some (iV v), σ))  : WO X Qf WW σ 0 [(0, .ref (xqa (xXE X).2.2 0)), (1, iV p1)] [] (m_X12_bakingMinutes n p1 σ) := by
  unfold m_X12_bakingMinutes
  refine x_aload_n C 0 dX12_bakingMinutes_0 rfl rfl ?_
  refine x_get (v := iV (σ 0 8)) C 8 cls_X12 at_X12 (by decide) wd683 rfl rfl dX12_bakingMinutes_1 ?_
  refine x_if_ne C 10 rfl dX12_bakingMinutes_4 rfl (fun c1 => x_on c1 ?_) (fun c1 => x_op c1 ?_)
  · refine x_aload_n C 0 dX12_bakingMinutes_10 rfl rfl ?_
    refine x_get (v := .ref (xqa (xXE X).2.2 (bkA (σ 0 3)))) C 3 cls_X12 at_X12 (by decide) wd678 rfl rfl dX12_bakingMinutes_11 ?_
    refine x_iload_n C 1 dX12_bakingMinutes_14 rfl rfl ?_
    refine x_callV C (ct_X1_hasOven _ _ (bkA (σ 0 3)) p1 σ (bk_A (σ 0 3))) mt_X1_hasOven vr_X1_hasOven wd1150 cls_X1 (at_X1 (bk_A (σ 0 3))) rfl ⟨rfl, rfl, Nat.le_of_ble_eq_true rfl, Nat.le_of_ble_eq_true rfl⟩ rfl (by decide) dX12_bakingMinutes_15 (kP ?_)
    refine x_join (fun J => ∀ q5 : Int, WO X Qf WW σ 33 [] [iV q5] (J q5)) ?_ ?_
    · intro q5
      exact x_iretQ C (hQ _) rfl dX12_bakingMinutes_33
    · intro J3 hJ4
      refine x_if_eq C 32 (zI_bo (bo_X1_hasOven _ _ _)) dX12_bakingMinutes_18 rfl (fun c6 => x_op c6 ?_) (fun c6 => x_on c6 ?_)
      · refine x_iconst C (-1) dX12_bakingMinutes_32 rfl ?_
        refine x_pick [] rfl ?_
        exact hJ4 (-1)
      · refine x_aload_n C 0 dX12_bakingMinutes_21 rfl rfl ?_
        refine x_get (v := .ref (xqa (xXE X).2.2 118)) C 6 cls_X12 at_X12 (by decide) wd681 rfl (xV_r (rt_X12_night  _) rfl) dX12_bakingMinutes_22 ?_
        refine x_iload_n C 1 dX12_bakingMinutes_25 rfl rfl ?_
        refine x_callV C (ct_X4_minutesBakedIn _ _ n 118 p1 σ (by first | exact Or.inl rfl | exact Or.inr rfl)) mt_X4_minutesBakedIn vr_X4_minutesBakedIn wd1158 cls_X4 (at_X4 (by first | exact Or.inl rfl | exact Or.inr rfl)) rfl ⟨rfl, rfl, Nat.le_of_ble_eq_true rfl, Nat.le_of_ble_eq_true rfl⟩ rfl (by decide) dX12_bakingMinutes_26 (kI (fun v7 => ?_))
        refine x_goto C 33 dX12_bakingMinutes_29 rfl ?_
        refine x_pick [] rfl ?_
        exact hJ4 v7
  · refine x_bipush C (-2) dX12_bakingMinutes_7 rfl ?_
    exact x_iretQ C (hQ _) rfl dX12_bakingMinutes_9
theorem ct_X12_bakingMinutes (l : Launch) (E : xE) (n : Nat) (p1 : Int) (σ : xS)   : xMet l E yX12_bakingMinutes cX12_bakingMinutes 2 (some .int) { frames := 1, cells := 0, slots := 0, locals := 23 } [.ref (xqa E.2.2 0), iV p1] WW WW σ (xrI (m_X12_bakingMinutes n p1 σ) σ) := by
  refine xMet.of0 (by decide) (Nat.le_of_ble_eq_true rfl) rfl rfl (fun X hE C => ?_)
  subst hE
  exact xMap (fun v => (some (iV v), σ)) (wk_X12_bakingMinutes C (fun _ => rfl) )
theorem mt_X12_bakingMinutes : xMth yX12_bakingMinutes cX12_bakingMinutes 2 (some .int) 1 := ⟨wd1157, wd151, ⟨by decide, by decide, rfl⟩⟩
theorem vr_X12_bakingMinutes : xVir yX12_bakingMinutes := ⟨wd1155, wd1156⟩
def m_X12_waitingMinutes (n : Nat) (p1 : Int) (σ : xS) : Option Int :=
  if (zI (σ 0 8)) = 0 then some (-2) else xj (fun (q5 : Int) => some q5) fun J3 => if (m_X4_isPlace p1) = 0 then J3 (-1) else (m_X4_minutesWaitedFor n 118 p1 σ).bind fun v7 => J3 v7
set_option maxHeartbeats 4000000 in
set_option maxRecDepth 100000 in
theorem wk_X12_waitingMinutes {X : xX} {Qf : Int → State → Prop} {n : Nat} {p1 : Int} {σ : xS} (C : xCx X cX12_waitingMinutes "BakeryNight" (some .int) { frames := 2, cells := 0, slots := 0, locals := 44 } 2) (hQ : ∀ v, Qf v = xQf X WW (some (iV v), σ))  : WO X Qf WW σ 0 [(0, .ref (xqa (xXE X).2.2 0)), (1, iV p1)] [] (m_X12_waitingMinutes n p1 σ) := by
  unfold m_X12_waitingMinutes
  refine x_aload_n C 0 dX12_waitingMinutes_0 rfl rfl ?_
  refine x_get (v := iV (σ 0 8)) C 8 cls_X12 at_X12 (by decide) wd683 rfl rfl dX12_waitingMinutes_1 ?_
  refine x_if_ne C 10 rfl dX12_waitingMinutes_4 rfl (fun c1 => x_on c1 ?_) (fun c1 => x_op c1 ?_)
  · refine x_iload_n C 1 dX12_waitingMinutes_10 rfl rfl ?_
    refine x_callS C (ct_X4_isPlace _ _ p1 σ) mt_X4_isPlace st_X4_isPlace wd1166 rfl ⟨rfl, rfl, Nat.le_of_ble_eq_true rfl, Nat.le_of_ble_eq_true rfl⟩ rfl (by decide) dX12_waitingMinutes_11 (kP ?_)
    refine x_join (fun J => ∀ q5 : Int, WO X Qf WW σ 29 [] [iV q5] (J q5)) ?_ ?_
    · intro q5
      exact x_iretQ C (hQ _) rfl dX12_waitingMinutes_29
    · intro J3 hJ4
      refine x_if_eq C 28 (zI_bo (bo_X4_isPlace _)) dX12_waitingMinutes_14 rfl (fun c6 => x_op c6 ?_) (fun c6 => x_on c6 ?_)
      · refine x_iconst C (-1) dX12_waitingMinutes_28 rfl ?_
        refine x_pick [] rfl ?_
        exact hJ4 (-1)
      · refine x_aload_n C 0 dX12_waitingMinutes_17 rfl rfl ?_
        refine x_get (v := .ref (xqa (xXE X).2.2 118)) C 6 cls_X12 at_X12 (by decide) wd681 rfl (xV_r (rt_X12_night  _) rfl) dX12_waitingMinutes_18 ?_
        refine x_iload_n C 1 dX12_waitingMinutes_21 rfl rfl ?_
        refine x_callV C (ct_X4_minutesWaitedFor _ _ n 118 p1 σ (by first | exact Or.inl rfl | exact Or.inr rfl)) mt_X4_minutesWaitedFor vr_X4_minutesWaitedFor wd1169 cls_X4 (at_X4 (by first | exact Or.inl rfl | exact Or.inr rfl)) rfl ⟨rfl, rfl, Nat.le_of_ble_eq_true rfl, Nat.le_of_ble_eq_true rfl⟩ rfl (by decide) dX12_waitingMinutes_22 (kI (fun v7 => ?_))
        refine x_goto C 29 dX12_waitingMinutes_25 rfl ?_
        refine x_pick [] rfl ?_
        exact hJ4 v7
  · refine x_bipush C (-2) dX12_waitingMinutes_7 rfl ?_
    exact x_iretQ C (hQ _) rfl dX12_waitingMinutes_9
theorem ct_X12_waitingMinutes (l : Launch) (E : xE) (n : Nat) (p1 : Int) (σ : xS)   : xMet l E yX12_waitingMinutes cX12_waitingMinutes 2 (some .int) { frames := 2, cells := 0, slots := 0, locals := 44 } [.ref (xqa E.2.2 0), iV p1] WW WW σ (xrI (m_X12_waitingMinutes n p1 σ) σ) := by
  refine xMet.of0 (by decide) (Nat.le_of_ble_eq_true rfl) rfl rfl (fun X hE C => ?_)
  subst hE
  exact xMap (fun v => (some (iV v), σ)) (wk_X12_waitingMinutes C (fun _ => rfl) )
theorem mt_X12_waitingMinutes : xMth yX12_waitingMinutes cX12_waitingMinutes 2 (some .int) 1 := ⟨wd1165, wd151, ⟨by decide, by decide, rfl⟩⟩
theorem vr_X12_waitingMinutes : xVir yX12_waitingMinutes := ⟨wd1163, wd1164⟩
def m_X12_shelvesUsed (n : Nat) (p1 : Int) (p2 : Int) (σ : xS) : Option Int :=
  if (zI (σ 0 8)) = 0 then some (-2) else xj (fun (q5 : Int) => some q5) fun J3 => if (m_X1_hasOven (bkA (σ 0 3)) p1 σ) = 0 then J3 (-1) else (m_X4_shelvesTaken n 118 p1 p2 σ).bind fun v7 => J3 v7
set_option maxHeartbeats 4000000 in
set_option maxRecDepth 100000 in
theorem wk_X12_shelvesUsed {X : xX} {Qf : Int → State → Prop} {n : Nat} {p1 : Int} {p2 : Int} {σ : xS} (C : xCx X cX12_shelvesUsed "BakeryNight" (some .int) { frames := 2, cells := 0, slots := 0, locals := 48 } 3) (hQ : ∀ v, Qf v = xQf X WW (some (iV v), σ))  : WO X Qf WW σ 0 [(0, .ref (xqa (xXE X).2.2 0)), (1, iV p1), (2, iV p2)] [] (m_X12_shelvesUsed n p1 p2 σ) := by
  unfold m_X12_shelvesUsed
  refine x_aload_n C 0 dX12_shelvesUsed_0 rfl rfl ?_
  refine x_get (v := iV (σ 0 8)) C 8 cls_X12 at_X12 (by decide) wd683 rfl rfl dX12_shelvesUsed_1 ?_
  refine x_if_ne C 10 rfl dX12_shelvesUsed_4 rfl (fun c1 => x_on c1 ?_) (fun c1 => x_op c1 ?_)
  · refine x_aload_n C 0 dX12_shelvesUsed_10 rfl rfl ?_
    refine x_get (v := .ref (xqa (xXE X).2.2 (bkA (σ 0 3)))) C 3 cls_X12 at_X12 (by decide) wd678 rfl rfl dX12_shelvesUsed_11 ?_
    refine x_iload_n C 1 dX12_shelvesUsed_14 rfl rfl ?_
    refine x_callV C (ct_X1_hasOven _ _ (bkA (σ 0 3)) p1 σ (bk_A (σ 0 3))) mt_X1_hasOven vr_X1_hasOven wd1150 cls_X1 (at_X1 (bk_A (σ 0 3))) rfl ⟨rfl, rfl, Nat.le_of_ble_eq_true rfl, Nat.le_of_ble_eq_true rfl⟩ rfl (by decide) dX12_shelvesUsed_15 (kP ?_)
    refine x_join (fun J => ∀ q5 : Int, WO X Qf WW σ 34 [] [iV q5] (J q5)) ?_ ?_
    · intro q5
      exact x_iretQ C (hQ _) rfl dX12_shelvesUsed_34
    · intro J3 hJ4
      refine x_if_eq C 33 (zI_bo (bo_X1_hasOven _ _ _)) dX12_shelvesUsed_18 rfl (fun c6 => x_op c6 ?_) (fun c6 => x_on c6 ?_)
      · refine x_iconst C (-1) dX12_shelvesUsed_33 rfl ?_
        refine x_pick [] rfl ?_
        exact hJ4 (-1)
      · refine x_aload_n C 0 dX12_shelvesUsed_21 rfl rfl ?_
        refine x_get (v := .ref (xqa (xXE X).2.2 118)) C 6 cls_X12 at_X12 (by decide) wd681 rfl (xV_r (rt_X12_night  _) rfl) dX12_shelvesUsed_22 ?_
        refine x_iload_n C 1 dX12_shelvesUsed_25 rfl rfl ?_
        refine x_iload_n C 2 dX12_shelvesUsed_26 rfl rfl ?_
        refine x_callV C (ct_X4_shelvesTaken _ _ n 118 p1 p2 σ (by first | exact Or.inl rfl | exact Or.inr rfl)) mt_X4_shelvesTaken vr_X4_shelvesTaken wd1180 cls_X4 (at_X4 (by first | exact Or.inl rfl | exact Or.inr rfl)) rfl ⟨rfl, rfl, Nat.le_of_ble_eq_true rfl, Nat.le_of_ble_eq_true rfl⟩ rfl (by decide) dX12_shelvesUsed_27 (kI (fun v7 => ?_))
        refine x_goto C 34 dX12_shelvesUsed_30 rfl ?_
        refine x_pick [] rfl ?_
        exact hJ4 v7
  · refine x_bipush C (-2) dX12_shelvesUsed_7 rfl ?_
    exact x_iretQ C (hQ _) rfl dX12_shelvesUsed_9
theorem ct_X12_shelvesUsed (l : Launch) (E : xE) (n : Nat) (p1 : Int) (p2 : Int) (σ : xS)   : xMet l E yX12_shelvesUsed cX12_shelvesUsed 3 (some .int) { frames := 2, cells := 0, slots := 0, locals := 48 } [.ref (xqa E.2.2 0), iV p1, iV p2] WW WW σ (xrI (m_X12_shelvesUsed n p1 p2 σ) σ) := by
  refine xMet.of0 (by decide) (Nat.le_of_ble_eq_true rfl) rfl rfl (fun X hE C => ?_)
  subst hE
  exact xMap (fun v => (some (iV v), σ)) (wk_X12_shelvesUsed C (fun _ => rfl) )
theorem mt_X12_shelvesUsed : xMth yX12_shelvesUsed cX12_shelvesUsed 3 (some .int) 2 := ⟨wd1179, wd151, ⟨by decide, by decide, rfl⟩⟩
theorem vr_X12_shelvesUsed : xVir yX12_shelvesUsed := ⟨wd1177, wd1178⟩
def m_X12_busy (n : Nat) (p1 : Int) (p2 : Int) (σ : xS) : Option Int :=
  if (zI (σ 0 8)) = 0 then some (-2) else xj (fun (q5 : Int) => some q5) fun J3 => if (m_X4_isPlace p1) = 0 then J3 (-1) else (m_X4_inUse n 118 (m_X4_stageAt p1) p2 σ).bind fun v7 => J3 v7
set_option maxHeartbeats 4000000 in
set_option maxRecDepth 100000 in
theorem wk_X12_busy {X : xX} {Qf : Int → State → Prop} {n : Nat} {p1 : Int} {p2 : Int} {σ : xS} (C : xCx X cX12_busy "BakeryNight" (some .int) { frames := 2, cells := 0, slots := 0, locals := 48 } 3) (hQ : ∀ v, Qf v = xQf X WW (some (iV v), σ))  : WO X Qf WW σ 0 [(0, .ref (xqa (xXE X).2.2 0)), (1, iV p1), (2, iV p2)] [] (m_X12_busy n p1 p2 σ) := by
  unfold m_X12_busy
  refine x_aload_n C 0 dX12_busy_0 rfl rfl ?_
  refine x_get (v := iV (σ 0 8)) C 8 cls_X12 at_X12 (by decide) wd683 rfl rfl dX12_busy_1 ?_
  refine x_if_ne C 10 rfl dX12_busy_4 rfl (fun c1 => x_on c1 ?_) (fun c1 => x_op c1 ?_)
  · refine x_iload_n C 1 dX12_busy_10 rfl rfl ?_
    refine x_callS C (ct_X4_isPlace _ _ p1 σ) mt_X4_isPlace st_X4_isPlace wd1166 rfl ⟨rfl, rfl, Nat.le_of_ble_eq_true rfl, Nat.le_of_ble_eq_true rfl⟩ rfl (by decide) dX12_busy_11 (kP ?_)
    refine x_join (fun J => ∀ q5 : Int, WO X Qf WW σ 33 [] [iV q5] (J q5)) ?_ ?_
    · intro q5
      exact x_iretQ C (hQ _) rfl dX12_busy_33
    · intro J3 hJ4
      refine x_if_eq C 32 (zI_bo (bo_X4_isPlace _)) dX12_busy_14 rfl (fun c6 => x_op c6 ?_) (fun c6 => x_on c6 ?_)
      · refine x_iconst C (-1) dX12_busy_32 rfl ?_
        refine x_pick [] rfl ?_
        exact hJ4 (-1)
      · refine x_aload_n C 0 dX12_busy_17 rfl rfl ?_
        refine x_get (v := .ref (xqa (xXE X).2.2 118)) C 6 cls_X12 at_X12 (by decide) wd681 rfl (xV_r (rt_X12_night  _) rfl) dX12_busy_18 ?_
        refine x_iload_n C 1 dX12_busy_21 rfl rfl ?_
        refine x_callS C (ct_X4_stageAt _ _ p1 σ) mt_X4_stageAt st_X4_stageAt wd1185 rfl ⟨rfl, rfl, Nat.le_of_ble_eq_true rfl, Nat.le_of_ble_eq_true rfl⟩ rfl (Nat.le_of_ble_eq_true rfl) dX12_busy_22 (kP ?_)
        refine x_iload_n C 2 dX12_busy_25 rfl rfl ?_
        refine x_callV C (ct_X4_inUse _ _ n 118 (m_X4_stageAt p1) p2 σ (by first | exact Or.inl rfl | exact Or.inr rfl)) mt_X4_inUse vr_X4_inUse wd1186 cls_X4 (at_X4 (by first | exact Or.inl rfl | exact Or.inr rfl)) rfl ⟨rfl, rfl, Nat.le_of_ble_eq_true rfl, Nat.le_of_ble_eq_true rfl⟩ rfl (by decide) dX12_busy_26 (kI (fun v7 => ?_))
        refine x_goto C 33 dX12_busy_29 rfl ?_
        refine x_pick [] rfl ?_
        exact hJ4 v7
  · refine x_bipush C (-2) dX12_busy_7 rfl ?_
    exact x_iretQ C (hQ _) rfl dX12_busy_9
theorem ct_X12_busy (l : Launch) (E : xE) (n : Nat) (p1 : Int) (p2 : Int) (σ : xS)   : xMet l E yX12_busy cX12_busy 3 (some .int) { frames := 2, cells := 0, slots := 0, locals := 48 } [.ref (xqa E.2.2 0), iV p1, iV p2] WW WW σ (xrI (m_X12_busy n p1 p2 σ) σ) := by
  refine xMet.of0 (by decide) (Nat.le_of_ble_eq_true rfl) rfl rfl (fun X hE C => ?_)
  subst hE
  exact xMap (fun v => (some (iV v), σ)) (wk_X12_busy C (fun _ => rfl) )
theorem mt_X12_busy : xMth yX12_busy cX12_busy 3 (some .int) 2 := ⟨wd1184, wd151, ⟨by decide, by decide, rfl⟩⟩
theorem vr_X12_busy : xVir yX12_busy := ⟨wd1182, wd1183⟩
def m_X12_busiestMinute (n : Nat) (p1 : Int) (σ : xS) : Option Int :=
  if (zI (σ 0 8)) = 0 then some (-2) else xj (fun (q5 : Int) => some q5) fun J3 => if (m_X4_isPlace p1) = 0 then J3 (-1) else (m_X4_firstFullest n 118 (m_X4_stageAt p1) σ).bind fun v7 => J3 v7
set_option maxHeartbeats 4000000 in
set_option maxRecDepth 100000 in
theorem wk_X12_busiestMinute {X : xX} {Qf : Int → State → Prop} {n : Nat} {p1 : Int} {σ : xS} (C : xCx X cX12_busiestMinute "BakeryNight" (some .int) { frames := 3, cells := 0, slots := 0, locals := 74 } 2) (hQ : ∀ v, Qf v = xQf X WW (some (iV v), σ))  : WO X Qf WW σ 0 [(0, .ref (xqa (xXE X).2.2 0)), (1, iV p1)] [] (m_X12_busiestMinute n p1 σ) := by
  unfold m_X12_busiestMinute
  refine x_aload_n C 0 dX12_busiestMinute_0 rfl rfl ?_
  refine x_get (v := iV (σ 0 8)) C 8 cls_X12 at_X12 (by decide) wd683 rfl rfl dX12_busiestMinute_1 ?_
  refine x_if_ne C 10 rfl dX12_busiestMinute_4 rfl (fun c1 => x_on c1 ?_) (fun c1 => x_op c1 ?_)
  · refine x_iload_n C 1 dX12_busiestMinute_10 rfl rfl ?_
    refine x_callS C (ct_X4_isPlace _ _ p1 σ) mt_X4_isPlace st_X4_isPlace wd1166 rfl ⟨rfl, rfl, Nat.le_of_ble_eq_true rfl, Nat.le_of_ble_eq_true rfl⟩ rfl (by decide) dX12_busiestMinute_11 (kP ?_)
    refine x_join (fun J => ∀ q5 : Int, WO X Qf WW σ 32 [] [iV q5] (J q5)) ?_ ?_
    · intro q5
      exact x_iretQ C (hQ _) rfl dX12_busiestMinute_32
    · intro J3 hJ4
      refine x_if_eq C 31 (zI_bo (bo_X4_isPlace _)) dX12_busiestMinute_14 rfl (fun c6 => x_op c6 ?_) (fun c6 => x_on c6 ?_)
      · refine x_iconst C (-1) dX12_busiestMinute_31 rfl ?_
        refine x_pick [] rfl ?_
        exact hJ4 (-1)
      · refine x_aload_n C 0 dX12_busiestMinute_17 rfl rfl ?_
        refine x_get (v := .ref (xqa (xXE X).2.2 118)) C 6 cls_X12 at_X12 (by decide) wd681 rfl (xV_r (rt_X12_night  _) rfl) dX12_busiestMinute_18 ?_
        refine x_iload_n C 1 dX12_busiestMinute_21 rfl rfl ?_
        refine x_callS C (ct_X4_stageAt _ _ p1 σ) mt_X4_stageAt st_X4_stageAt wd1185 rfl ⟨rfl, rfl, Nat.le_of_ble_eq_true rfl, Nat.le_of_ble_eq_true rfl⟩ rfl (Nat.le_of_ble_eq_true rfl) dX12_busiestMinute_22 (kP ?_)
        refine x_callV C (ct_X4_firstFullest _ _ n 118 (m_X4_stageAt p1) σ (by first | exact Or.inl rfl | exact Or.inr rfl)) mt_X4_firstFullest vr_X4_firstFullest wd1191 cls_X4 (at_X4 (by first | exact Or.inl rfl | exact Or.inr rfl)) rfl ⟨rfl, rfl, Nat.le_of_ble_eq_true rfl, Nat.le_of_ble_eq_true rfl⟩ rfl (by decide) dX12_busiestMinute_25 (kI (fun v7 => ?_))
        refine x_goto C 32 dX12_busiestMinute_28 rfl ?_
        refine x_pick [] rfl ?_
        exact hJ4 v7
  · refine x_bipush C (-2) dX12_busiestMinute_7 rfl ?_
    exact x_iretQ C (hQ _) rfl dX12_busiestMinute_9
theorem ct_X12_busiestMinute (l : Launch) (E : xE) (n : Nat) (p1 : Int) (σ : xS)   : xMet l E yX12_busiestMinute cX12_busiestMinute 2 (some .int) { frames := 3, cells := 0, slots := 0, locals := 74 } [.ref (xqa E.2.2 0), iV p1] WW WW σ (xrI (m_X12_busiestMinute n p1 σ) σ) := by
  refine xMet.of0 (by decide) (Nat.le_of_ble_eq_true rfl) rfl rfl (fun X hE C => ?_)
  subst hE
  exact xMap (fun v => (some (iV v), σ)) (wk_X12_busiestMinute C (fun _ => rfl) )
theorem mt_X12_busiestMinute : xMth yX12_busiestMinute cX12_busiestMinute 2 (some .int) 1 := ⟨wd1190, wd151, ⟨by decide, by decide, rfl⟩⟩
theorem vr_X12_busiestMinute : xVir yX12_busiestMinute := ⟨wd1188, wd1189⟩
def m_X12_readyMinute (p1 : Int) (σ : xS) : Option Int :=
  if (zI (σ 0 8)) = 0 then some (-2) else (m_X1_hasOrder (bkA (σ 0 3)) p1 σ).bind fun v2 => xj (fun (q5 : Int) => some q5) fun J3 => if (zI v2) = 0 then J3 (-1) else xck (zI p1) 24 <| J3 (σ (118 + 19) (zI p1).toNat)
set_option maxHeartbeats 4000000 in
set_option maxRecDepth 100000 in
theorem wk_X12_readyMinute {X : xX} {Qf : Int → State → Prop} {p1 : Int} {σ : xS} (C : xCx X cX12_readyMinute "BakeryNight" (some .int) { frames := 1, cells := 0, slots := 0, locals := 21 } 2) (hQ : ∀ v, Qf v = xQf X WW (some (iV v), σ))  : WO X Qf WW σ 0 [(0, .ref (xqa (xXE X).2.2 0)), (1, iV p1)] [] (m_X12_readyMinute p1 σ) := by
  unfold m_X12_readyMinute
  refine x_aload_n C 0 dX12_readyMinute_0 rfl rfl ?_
  refine x_get (v := iV (σ 0 8)) C 8 cls_X12 at_X12 (by decide) wd683 rfl rfl dX12_readyMinute_1 ?_
  refine x_if_ne C 10 rfl dX12_readyMinute_4 rfl (fun c1 => x_on c1 ?_) (fun c1 => x_op c1 ?_)
  · refine x_aload_n C 0 dX12_readyMinute_10 rfl rfl ?_
    refine x_get (v := .ref (xqa (xXE X).2.2 (bkA (σ 0 3)))) C 3 cls_X12 at_X12 (by decide) wd678 rfl rfl dX12_readyMinute_11 ?_
    refine x_iload_n C 1 dX12_readyMinute_14 rfl rfl ?_
    refine x_callV C (ct_X1_hasOrder _ _ (bkA (σ 0 3)) p1 σ (bk_A (σ 0 3))) mt_X1_hasOrder vr_X1_hasOrder wd1199 cls_X1 (at_X1 (bk_A (σ 0 3))) rfl ⟨rfl, rfl, Nat.le_of_ble_eq_true rfl, Nat.le_of_ble_eq_true rfl⟩ rfl (by decide) dX12_readyMinute_15 (kI (fun v2 => ?_))
    refine x_join (fun J => ∀ q5 : Int, WO X Qf WW σ 34 [] [iV q5] (J q5)) ?_ ?_
    · intro q5
      exact x_iretQ C (hQ _) rfl dX12_readyMinute_34
    · intro J3 hJ4
      refine x_if_eq C 33 rfl dX12_readyMinute_18 rfl (fun c6 => x_op c6 ?_) (fun c6 => x_on c6 ?_)
      · refine x_iconst C (-1) dX12_readyMinute_33 rfl ?_
        refine x_pick [] rfl ?_
        exact hJ4 (-1)
      · refine x_aload_n C 0 dX12_readyMinute_21 rfl rfl ?_
        refine x_get (v := .ref (xqa (xXE X).2.2 118)) C 6 cls_X12 at_X12 (by decide) wd681 rfl (xV_r (rt_X12_night  _) rfl) dX12_readyMinute_22 ?_
        refine x_get (v := .ref (xqa (xXE X).2.2 (118 + 19))) C 18 cls_X4 (at_X4 (by first | exact Or.inl rfl | exact Or.inr rfl)) (by decide) wd576 rfl (xV_r (rt_X4_ready (by first | exact Or.inl rfl | exact Or.inr rfl) _) rfl) dX12_readyMinute_25 ?_
        refine x_iload_n C 1 dX12_readyMinute_28 rfl rfl ?_
        refine x_iald C (at_X4_ready (by first | exact Or.inl rfl | exact Or.inr rfl)) rfl dX12_readyMinute_29 (fun _ => ?_)
        refine x_goto C 34 dX12_readyMinute_30 rfl ?_
        refine x_pick [] rfl ?_
        exact hJ4 (σ (118 + 19) (zI p1).toNat)
  · refine x_bipush C (-2) dX12_readyMinute_7 rfl ?_
    exact x_iretQ C (hQ _) rfl dX12_readyMinute_9
theorem ct_X12_readyMinute (l : Launch) (E : xE) (p1 : Int) (σ : xS)   : xMet l E yX12_readyMinute cX12_readyMinute 2 (some .int) { frames := 1, cells := 0, slots := 0, locals := 21 } [.ref (xqa E.2.2 0), iV p1] WW WW σ (xrI (m_X12_readyMinute p1 σ) σ) := by
  refine xMet.of0 (by decide) (Nat.le_of_ble_eq_true rfl) rfl rfl (fun X hE C => ?_)
  subst hE
  exact xMap (fun v => (some (iV v), σ)) (wk_X12_readyMinute C (fun _ => rfl) )
theorem mt_X12_readyMinute : xMth yX12_readyMinute cX12_readyMinute 2 (some .int) 1 := ⟨wd1198, wd151, ⟨by decide, by decide, rfl⟩⟩
theorem vr_X12_readyMinute : xVir yX12_readyMinute := ⟨wd1196, wd1197⟩
def m_X12_surplusLoaves (n : Nat) (p1 : Int) (σ : xS) : Option Int :=
  if (zI (σ 0 8)) = 0 then some (-2) else xj (fun (q5 : Int) => some q5) fun J3 => if (m_X1_hasDough (bkA (σ 0 3)) p1 σ) = 0 then J3 (-1) else (m_X4_leftOver n 118 (bkA (σ 0 3)) p1 σ).bind fun v7 => J3 v7
set_option maxHeartbeats 4000000 in
set_option maxRecDepth 100000 in
theorem wk_X12_surplusLoaves {X : xX} {Qf : Int → State → Prop} {n : Nat} {p1 : Int} {σ : xS} (C : xCx X cX12_surplusLoaves "BakeryNight" (some .int) { frames := 3, cells := 0, slots := 0, locals := 68 } 2) (hQ : ∀ v, Qf v = xQf X WW (some (iV v), σ))  : WO X Qf WW σ 0 [(0, .ref (xqa (xXE X).2.2 0)), (1, iV p1)] [] (m_X12_surplusLoaves n p1 σ) := by
  unfold m_X12_surplusLoaves
  refine x_aload_n C 0 dX12_surplusLoaves_0 rfl rfl ?_
  refine x_get (v := iV (σ 0 8)) C 8 cls_X12 at_X12 (by decide) wd683 rfl rfl dX12_surplusLoaves_1 ?_
  refine x_if_ne C 10 rfl dX12_surplusLoaves_4 rfl (fun c1 => x_on c1 ?_) (fun c1 => x_op c1 ?_)
  · refine x_aload_n C 0 dX12_surplusLoaves_10 rfl rfl ?_
    refine x_get (v := .ref (xqa (xXE X).2.2 (bkA (σ 0 3)))) C 3 cls_X12 at_X12 (by decide) wd678 rfl rfl dX12_surplusLoaves_11 ?_
    refine x_iload_n C 1 dX12_surplusLoaves_14 rfl rfl ?_
    refine x_callV C (ct_X1_hasDough _ _ (bkA (σ 0 3)) p1 σ (bk_A (σ 0 3))) mt_X1_hasDough vr_X1_hasDough wd956 cls_X1 (at_X1 (bk_A (σ 0 3))) rfl ⟨rfl, rfl, Nat.le_of_ble_eq_true rfl, Nat.le_of_ble_eq_true rfl⟩ rfl (by decide) dX12_surplusLoaves_15 (kP ?_)
    refine x_join (fun J => ∀ q5 : Int, WO X Qf WW σ 37 [] [iV q5] (J q5)) ?_ ?_
    · intro q5
      exact x_iretQ C (hQ _) rfl dX12_surplusLoaves_37
    · intro J3 hJ4
      refine x_if_eq C 36 (zI_bo (bo_X1_hasDough _ _ _)) dX12_surplusLoaves_18 rfl (fun c6 => x_op c6 ?_) (fun c6 => x_on c6 ?_)
      · refine x_iconst C (-1) dX12_surplusLoaves_36 rfl ?_
        refine x_pick [] rfl ?_
        exact hJ4 (-1)
      · refine x_aload_n C 0 dX12_surplusLoaves_21 rfl rfl ?_
        refine x_get (v := .ref (xqa (xXE X).2.2 118)) C 6 cls_X12 at_X12 (by decide) wd681 rfl (xV_r (rt_X12_night  _) rfl) dX12_surplusLoaves_22 ?_
        refine x_aload_n C 0 dX12_surplusLoaves_25 rfl rfl ?_
        refine x_get (v := .ref (xqa (xXE X).2.2 (bkA (σ 0 3)))) C 3 cls_X12 at_X12 (by decide) wd678 rfl rfl dX12_surplusLoaves_26 ?_
        refine x_iload_n C 1 dX12_surplusLoaves_29 rfl rfl ?_
        refine x_callV C (ct_X4_leftOver _ _ n 118 (bkA (σ 0 3)) p1 σ (by first | exact Or.inl rfl | exact Or.inr rfl) (bk_A (σ 0 3))) mt_X4_leftOver vr_X4_leftOver wd1204 cls_X4 (at_X4 (by first | exact Or.inl rfl | exact Or.inr rfl)) rfl ⟨rfl, rfl, Nat.le_of_ble_eq_true rfl, Nat.le_of_ble_eq_true rfl⟩ rfl (by decide) dX12_surplusLoaves_30 (kI (fun v7 => ?_))
        refine x_goto C 37 dX12_surplusLoaves_33 rfl ?_
        refine x_pick [] rfl ?_
        exact hJ4 v7
  · refine x_bipush C (-2) dX12_surplusLoaves_7 rfl ?_
    exact x_iretQ C (hQ _) rfl dX12_surplusLoaves_9
theorem ct_X12_surplusLoaves (l : Launch) (E : xE) (n : Nat) (p1 : Int) (σ : xS)   : xMet l E yX12_surplusLoaves cX12_surplusLoaves 2 (some .int) { frames := 3, cells := 0, slots := 0, locals := 68 } [.ref (xqa E.2.2 0), iV p1] WW WW σ (xrI (m_X12_surplusLoaves n p1 σ) σ) := by
  refine xMet.of0 (by decide) (Nat.le_of_ble_eq_true rfl) rfl rfl (fun X hE C => ?_)
  subst hE
  exact xMap (fun v => (some (iV v), σ)) (wk_X12_surplusLoaves C (fun _ => rfl) )
theorem mt_X12_surplusLoaves : xMth yX12_surplusLoaves cX12_surplusLoaves 2 (some .int) 1 := ⟨wd1203, wd151, ⟨by decide, by decide, rfl⟩⟩
theorem vr_X12_surplusLoaves : xVir yX12_surplusLoaves := ⟨wd1201, wd1202⟩
def m_X12_surplusValue (n : Nat) (p1 : Int) (σ : xS) : Option Int :=
  if (zI (σ 0 8)) = 0 then some (-2) else xj (fun (q4 : Unit) => some (-1)) fun J2 => if (zI p1) < 0 then J2 () else if (zI p1) ≤ 9999 then loopF (fun rec8 (t7 : Int × Int) => if (zI (σ (bkA (σ 0 3)) 5)) ≤ (zI t7.2) then some t7.1 else (m_X4_leftOverCents n 118 (bkA (σ 0 3)) t7.2 p1 σ).bind fun v11 => xlet (t7.1 + v11) fun v12 => xlet (t7.2 + 1) fun v13 => rec8 (v12, v13)) n (0, 0) else J2 ()
set_option maxHeartbeats 4000000 in
set_option maxRecDepth 100000 in
theorem wk_X12_surplusValue {X : xX} {Qf : Int → State → Prop} {n : Nat} {p1 : Int} {σ : xS} (C : xCx X cX12_surplusValue "BakeryNight" (some .int) { frames := 4, cells := 0, slots := 0, locals := 94 } 4) (hQ : ∀ v, Qf v = xQf X WW (some (iV v), σ))  : WO X Qf WW σ 0 [(0, .ref (xqa (xXE X).2.2 0)), (1, iV p1)] [] (m_X12_surplusValue n p1 σ) := by
  unfold m_X12_surplusValue
  refine x_aload_n C 0 dX12_surplusValue_0 rfl rfl ?_
  refine x_get (v := iV (σ 0 8)) C 8 cls_X12 at_X12 (by decide) wd683 rfl rfl dX12_surplusValue_1 ?_
  refine x_if_ne C 10 rfl dX12_surplusValue_4 rfl (fun c1 => x_on c1 ?_) (fun c1 => x_op c1 ?_)
  · refine x_iload_n C 1 dX12_surplusValue_10 rfl rfl ?_
    refine x_join (fun J => ∀ q4 : Unit, WO X Qf WW σ 21 [] [] (J q4)) ?_ ?_
    · intro q4
      refine x_iconst C (-1) dX12_surplusValue_21 rfl ?_
      exact x_iretQ C (hQ _) rfl dX12_surplusValue_22
    · intro J2 hJ3
      refine x_if_lt C 21 rfl dX12_surplusValue_11 rfl (fun c5 => x_op c5 ?_) (fun c5 => x_on c5 ?_)
      · refine x_pick [] rfl ?_
        exact hJ3 ()
      · refine x_iload_n C 1 dX12_surplusValue_14 rfl rfl ?_
        refine x_sipush C (9999) dX12_surplusValue_15 rfl ?_
        refine x_icmp_le C 23 rfl (zIl _ rfl) dX12_surplusValue_18 rfl (fun c6 => x_op c6 ?_) (fun c6 => x_on c6 ?_)
        · refine x_iconst C (0) dX12_surplusValue_23 rfl ?_
          refine x_istore_n (L' := [(2, _), (0, _), (1, _)]) C dX12_surplusValue_24 rfl (by decide) rfl ?_
          refine x_iconst C (0) dX12_surplusValue_25 rfl ?_
          refine x_istore_n (L' := [(3, _), (2, _), (0, _), (1, _)]) C dX12_surplusValue_26 rfl (by decide) rfl ?_
          refine x_pick [2, 3, 1, 0] rfl ?_
          refine x_loop (fun t7 : Int × Int => σ) (fun t7 : Int × Int => [(0, .ref (xqa (xXE X).2.2 0)), (1, iV p1), (2, iV t7.1), (3, iV t7.2)]) (fun rec8 hr9 t7 => ?_) n (0, 0)
          refine x_iload_n C 3 dX12_surplusValue_27 rfl rfl ?_
          refine x_aload_n C 0 dX12_surplusValue_28 rfl rfl ?_
          refine x_get (v := .ref (xqa (xXE X).2.2 (bkA (σ 0 3)))) C 3 cls_X12 at_X12 (by decide) wd678 rfl rfl dX12_surplusValue_29 ?_
          refine x_get (v := iV (σ (bkA (σ 0 3)) 5)) C 5 cls_X1 (at_X1 (bk_A (σ 0 3))) (by decide) wd461 rfl rfl dX12_surplusValue_32 ?_
          refine x_icmp_ge C 60 rfl rfl dX12_surplusValue_35 rfl (fun c10 => x_op c10 ?_) (fun c10 => x_on c10 ?_)
          · refine x_iload_n C 2 dX12_surplusValue_60 rfl rfl ?_
            exact x_iretQ C (hQ _) rfl dX12_surplusValue_61
          · refine x_iload_n C 2 dX12_surplusValue_38 rfl rfl ?_
            refine x_aload_n C 0 dX12_surplusValue_39 rfl rfl ?_
            refine x_get (v := .ref (xqa (xXE X).2.2 118)) C 6 cls_X12 at_X12 (by decide) wd681 rfl (xV_r (rt_X12_night  _) rfl) dX12_surplusValue_40 ?_
            refine x_aload_n C 0 dX12_surplusValue_43 rfl rfl ?_
            refine x_get (v := .ref (xqa (xXE X).2.2 (bkA (σ 0 3)))) C 3 cls_X12 at_X12 (by decide) wd678 rfl rfl dX12_surplusValue_44 ?_
            refine x_iload_n C 3 dX12_surplusValue_47 rfl rfl ?_
            refine x_iload_n C 1 dX12_surplusValue_48 rfl rfl ?_
            refine x_callV C (ct_X4_leftOverCents _ _ n 118 (bkA (σ 0 3)) t7.2 p1 σ (by first | exact Or.inl rfl | exact Or.inr rfl) (bk_A (σ 0 3))) mt_X4_leftOverCents vr_X4_leftOverCents wd1213 cls_X4 (at_X4 (by first | exact Or.inl rfl | exact Or.inr rfl)) rfl ⟨rfl, rfl, Nat.le_of_ble_eq_true rfl, Nat.le_of_ble_eq_true rfl⟩ rfl (Nat.le_of_ble_eq_true rfl) dX12_surplusValue_49 (kI (fun v11 => ?_))
            refine x_iadd C dX12_surplusValue_52 ?_
            refine x_letI (fun v12 => ?_)
            refine x_istore_n (L' := [(2, _), (0, _), (1, _), (3, _)]) C dX12_surplusValue_53 rfl (by decide) rfl ?_
            refine x_inc C 3 (f := _) dX12_surplusValue_54 rfl (by decide) (1) rfl (fun v13 => ?_)
            refine x_reL (L' := [(3, _), (2, _), (0, _), (1, _)]) rfl ?_
            refine x_goto C 27 dX12_surplusValue_57 rfl ?_
            refine x_pick [2, 3, 1, 0] rfl ?_
            exact hr9 (v12, v13)
        · refine x_pick [] rfl ?_
          exact hJ3 ()
  · refine x_bipush C (-2) dX12_surplusValue_7 rfl ?_
    exact x_iretQ C (hQ _) rfl dX12_surplusValue_9
theorem ct_X12_surplusValue (l : Launch) (E : xE) (n : Nat) (p1 : Int) (σ : xS)   : xMet l E yX12_surplusValue cX12_surplusValue 4 (some .int) { frames := 4, cells := 0, slots := 0, locals := 94 } [.ref (xqa E.2.2 0), iV p1] WW WW σ (xrI (m_X12_surplusValue n p1 σ) σ) := by
  refine xMet.of0 (by decide) (Nat.le_of_ble_eq_true rfl) rfl rfl (fun X hE C => ?_)
  subst hE
  exact xMap (fun v => (some (iV v), σ)) (wk_X12_surplusValue C (fun _ => rfl) )
theorem mt_X12_surplusValue : xMth yX12_surplusValue cX12_surplusValue 4 (some .int) 1 := ⟨wd1212, wd151, ⟨by decide, by decide, rfl⟩⟩
theorem vr_X12_surplusValue : xVir yX12_surplusValue := ⟨wd1210, wd1211⟩
def m_X12_latestAsItIs (n : Nat) (σ : xS) : Option (Int × xS) :=
  (m_X4_run n 151 (bkA (σ 0 3)) 0 σ).bind fun s1 => (m_X8_gather n 172 (bkA (s1 0 3)) 151 s1).bind fun s2 => xbS (m_X8_latest n 172 (bkA (s2 0 3)) s2) fun v4 s3 => some (v4, s3)
set_option maxHeartbeats 4000000 in
set_option maxRecDepth 100000 in
theorem wk_X12_latestAsItIs {X : xX} {Qf : (Int × xS) → State → Prop} {n : Nat} {σ : xS} (C : xCx X cX12_latestAsItIs "BakeryNight" (some .int) { frames := 6, cells := 0, slots := 0, locals := 140 } 1) (hQ : ∀ v τ, Qf (v, τ) = xQf X WW (some (iV v), τ))  : WO X Qf WW σ 0 [(0, .ref (xqa (xXE X).2.2 0))] [] (m_X12_latestAsItIs n σ) := by
  unfold m_X12_latestAsItIs
  refine x_aload_n C 0 dX12_latestAsItIs_0 rfl rfl ?_
  refine x_get (v := .ref (xqa (xXE X).2.2 151)) C 10 cls_X12 at_X12 (by decide) wd685 rfl (xV_r (rt_X12_trialNight  _) rfl) dX12_latestAsItIs_1 ?_
  refine x_aload_n C 0 dX12_latestAsItIs_4 rfl rfl ?_
  refine x_get (v := .ref (xqa (xXE X).2.2 (bkA (σ 0 3)))) C 3 cls_X12 at_X12 (by decide) wd678 rfl rfl dX12_latestAsItIs_5 ?_
  refine x_iconst C (0) dX12_latestAsItIs_8 rfl ?_
  refine x_callV C (ct_X4_run _ _ n 151 (bkA (σ 0 3)) 0 σ (by first | exact Or.inl rfl | exact Or.inr rfl) (bk_A (σ 0 3))) mt_X4_run vr_X4_run wd1042 cls_X4 (at_X4 (by first | exact Or.inl rfl | exact Or.inr rfl)) rfl ⟨rfl, rfl, Nat.le_of_ble_eq_true rfl, Nat.le_of_ble_eq_true rfl⟩ rfl (by decide) dX12_latestAsItIs_9 (kV (fun s1 => ?_))
  refine x_aload_n C 0 dX12_latestAsItIs_12 rfl rfl ?_
  refine x_get (v := .ref (xqa (xXE X).2.2 172)) C 11 cls_X12 at_X12 (by decide) wd686 rfl (xV_r (rt_X12_trialPlan  _) rfl) dX12_latestAsItIs_13 ?_
  refine x_aload_n C 0 dX12_latestAsItIs_16 rfl rfl ?_
  refine x_get (v := .ref (xqa (xXE X).2.2 (bkA (s1 0 3)))) C 3 cls_X12 at_X12 (by decide) wd678 rfl rfl dX12_latestAsItIs_17 ?_
  refine x_aload_n C 0 dX12_latestAsItIs_20 rfl rfl ?_
  refine x_get (v := .ref (xqa (xXE X).2.2 151)) C 10 cls_X12 at_X12 (by decide) wd685 rfl (xV_r (rt_X12_trialNight  _) rfl) dX12_latestAsItIs_21 ?_
  refine x_callV C (ct_X8_gather _ _ n 172 (bkA (s1 0 3)) 151 s1 (by first | exact Or.inl rfl | exact Or.inr rfl) (bk_A (s1 0 3)) (by first | exact Or.inl rfl | exact Or.inr rfl)) mt_X8_gather vr_X8_gather wd1226 cls_X8 (at_X8 (by first | exact Or.inl rfl | exact Or.inr rfl)) rfl ⟨rfl, rfl, Nat.le_of_ble_eq_true rfl, Nat.le_of_ble_eq_true rfl⟩ rfl (by decide) dX12_latestAsItIs_24 (kV (fun s2 => ?_))
  refine x_aload_n C 0 dX12_latestAsItIs_27 rfl rfl ?_
  refine x_get (v := .ref (xqa (xXE X).2.2 172)) C 11 cls_X12 at_X12 (by decide) wd686 rfl (xV_r (rt_X12_trialPlan  _) rfl) dX12_latestAsItIs_28 ?_
  refine x_aload_n C 0 dX12_latestAsItIs_31 rfl rfl ?_
  refine x_get (v := .ref (xqa (xXE X).2.2 (bkA (s2 0 3)))) C 3 cls_X12 at_X12 (by decide) wd678 rfl rfl dX12_latestAsItIs_32 ?_
  refine x_callV C (ct_X8_latest _ _ n 172 (bkA (s2 0 3)) s2 (by first | exact Or.inl rfl | exact Or.inr rfl) (bk_A (s2 0 3))) mt_X8_latest vr_X8_latest wd1313 cls_X8 (at_X8 (by first | exact Or.inl rfl | exact Or.inr rfl)) rfl ⟨rfl, rfl, Nat.le_of_ble_eq_true rfl, Nat.le_of_ble_eq_true rfl⟩ rfl (by decide) dX12_latestAsItIs_35 (kS (fun v4 s3 => ?_))
  exact x_iretQ C (hQ _ _) rfl dX12_latestAsItIs_38
theorem ct_X12_latestAsItIs (l : Launch) (E : xE) (n : Nat) (σ : xS)   : xMet l E yX12_latestAsItIs cX12_latestAsItIs 1 (some .int) { frames := 6, cells := 0, slots := 0, locals := 140 } [.ref (xqa E.2.2 0)] WW WW σ (xrS (m_X12_latestAsItIs n σ)) := by
  refine xMet.of0 (by decide) (Nat.le_of_ble_eq_true rfl) rfl rfl (fun X hE C => ?_)
  subst hE
  exact xMap (fun q => (some (iV q.1), q.2)) (wk_X12_latestAsItIs C (fun _ _ => rfl) )
theorem mt_X12_latestAsItIs : xMth yX12_latestAsItIs cX12_latestAsItIs 1 (some .int) 0 := ⟨wd1312, wd151, ⟨by decide, by decide, rfl⟩⟩
theorem vr_X12_latestAsItIs : xVir yX12_latestAsItIs := ⟨wd1311, wd45⟩
def m_X12_latestStart (n : Nat) (σ : xS) : Option (Int × xS) :=
  (m_X12_batchCount n σ).bind fun v1 => xj (fun (q6 : xS × Int) => some (q6.2, q6.1)) fun J4 => if (zI v1) = (-3) then J4 (σ, (-3)) else xbS (m_X12_latestAsItIs n σ) fun v9 s8 => J4 (s8, v9)
set_option maxHeartbeats 4000000 in
set_option maxRecDepth 100000 in
theorem wk_X12_latestStart {X : xX} {Qf : (Int × xS) → State → Prop} {n : Nat} {σ : xS} (C : xCx X cX12_latestStart "BakeryNight" (some .int) { frames := 7, cells := 0, slots := 0, locals := 160 } 1) (hQ : ∀ v τ, Qf (v, τ) = xQf X WW (some (iV v), τ))  : WO X Qf WW σ 0 [(0, .ref (xqa (xXE X).2.2 0))] [] (m_X12_latestStart n σ) := by
  unfold m_X12_latestStart
  refine x_aload_n C 0 dX12_latestStart_0 rfl rfl ?_
  refine x_callV C (ct_X12_batchCount _ _ n σ) mt_X12_batchCount vr_X12_batchCount wd1041 cls_X12 at_X12 rfl ⟨rfl, rfl, Nat.le_of_ble_eq_true rfl, Nat.le_of_ble_eq_true rfl⟩ rfl (by decide) dX12_latestStart_1 (kI (fun v1 => ?_))
  refine x_bipush C (-3) dX12_latestStart_4 rfl ?_
  refine x_join (fun J => ∀ q6 : xS × Int, WO X Qf WW q6.1 18 [] [iV q6.2] (J q6)) ?_ ?_
  · intro q6
    exact x_iretQ C (hQ _ _) rfl dX12_latestStart_18
  · intro J4 hJ5
    refine x_icmp_ne C 14 rfl (zIl _ rfl) dX12_latestStart_6 rfl (fun c7 => x_on c7 ?_) (fun c7 => x_op c7 ?_)
    · refine x_aload_n C 0 dX12_latestStart_14 rfl rfl ?_
      refine x_callV C (ct_X12_latestAsItIs _ _ n σ) mt_X12_latestAsItIs vr_X12_latestAsItIs wd1309 cls_X12 at_X12 rfl ⟨rfl, rfl, Nat.le_of_ble_eq_true rfl, Nat.le_of_ble_eq_true rfl⟩ rfl (by decide) dX12_latestStart_15 (kS (fun v9 s8 => ?_))
      refine x_pick [] rfl ?_
      exact hJ5 (s8, v9)
    · refine x_bipush C (-3) dX12_latestStart_9 rfl ?_
      refine x_goto C 18 dX12_latestStart_11 rfl ?_
      refine x_pick [] rfl ?_
      exact hJ5 (σ, (-3))
theorem ct_X12_latestStart (l : Launch) (E : xE) (n : Nat) (σ : xS)   : xMet l E yX12_latestStart cX12_latestStart 1 (some .int) { frames := 7, cells := 0, slots := 0, locals := 160 } [.ref (xqa E.2.2 0)] WW WW σ (xrS (m_X12_latestStart n σ)) := by
  refine xMet.of0 (by decide) (Nat.le_of_ble_eq_true rfl) rfl rfl (fun X hE C => ?_)
  subst hE
  exact xMap (fun q => (some (iV q.1), q.2)) (wk_X12_latestStart C (fun _ _ => rfl) )
theorem mt_X12_latestStart : xMth yX12_latestStart cX12_latestStart 1 (some .int) 0 := ⟨wd1308, wd151, ⟨by decide, by decide, rfl⟩⟩
theorem vr_X12_latestStart : xVir yX12_latestStart := ⟨wd1306, wd1307⟩
def m_X12_latestStartWith (n : Nat) (p1 : Int) (σ : xS) : Option (Int × xS) :=
  xj (fun (q4 : Unit) => some ((-1), σ)) fun J2 => if (zI p1) < 0 then J2 () else if (zI p1) < 5 then (m_X12_batchCount n σ).bind fun v7 => if (zI v7) = (-3) then some ((-3), σ) else (m_X1_improve n (bkA (σ 0 3)) p1 1 σ).bind fun s9 => xbS (m_X12_latestAsItIs n s9) fun v11 s10 => (m_X1_improve n (bkA (s10 0 3)) p1 (-1) s10).bind fun s12 => some (v11, s12) else J2 ()
set_option maxHeartbeats 4000000 in
set_option maxRecDepth 100000 in
theorem wk_X12_latestStartWith {X : xX} {Qf : (Int × xS) → State → Prop} {n : Nat} {p1 : Int} {σ : xS} (C : xCx X cX12_latestStartWith "BakeryNight" (some .int) { frames := 7, cells := 0, slots := 0, locals := 160 } 3) (hQ : ∀ v τ, Qf (v, τ) = xQf X WW (some (iV v), τ))  : WO X Qf WW σ 0 [(0, .ref (xqa (xXE X).2.2 0)), (1, iV p1)] [] (m_X12_latestStartWith n p1 σ) := by
  unfold m_X12_latestStartWith
  refine x_iload_n C 1 dX12_latestStartWith_0 rfl rfl ?_
  refine x_join (fun J => ∀ q4 : Unit, WO X Qf WW σ 9 [] [] (J q4)) ?_ ?_
  · intro q4
    refine x_iconst C (-1) dX12_latestStartWith_9 rfl ?_
    exact x_iretQ C (hQ _ _) rfl dX12_latestStartWith_10
  · intro J2 hJ3
    refine x_if_lt C 9 rfl dX12_latestStartWith_1 rfl (fun c5 => x_op c5 ?_) (fun c5 => x_on c5 ?_)
    · refine x_pick [] rfl ?_
      exact hJ3 ()
    · refine x_iload_n C 1 dX12_latestStartWith_4 rfl rfl ?_
      refine x_iconst C (5) dX12_latestStartWith_5 rfl ?_
      refine x_icmp_lt C 11 rfl (zIl _ rfl) dX12_latestStartWith_6 rfl (fun c6 => x_op c6 ?_) (fun c6 => x_on c6 ?_)
      · refine x_aload_n C 0 dX12_latestStartWith_11 rfl rfl ?_
        refine x_callV C (ct_X12_batchCount _ _ n σ) mt_X12_batchCount vr_X12_batchCount wd1041 cls_X12 at_X12 rfl ⟨rfl, rfl, Nat.le_of_ble_eq_true rfl, Nat.le_of_ble_eq_true rfl⟩ rfl (by decide) dX12_latestStartWith_12 (kI (fun v7 => ?_))
        refine x_bipush C (-3) dX12_latestStartWith_15 rfl ?_
        refine x_icmp_ne C 23 rfl (zIl _ rfl) dX12_latestStartWith_17 rfl (fun c8 => x_on c8 ?_) (fun c8 => x_op c8 ?_)
        · refine x_aload_n C 0 dX12_latestStartWith_23 rfl rfl ?_
          refine x_get (v := .ref (xqa (xXE X).2.2 (bkA (σ 0 3)))) C 3 cls_X12 at_X12 (by decide) wd678 rfl rfl dX12_latestStartWith_24 ?_
          refine x_iload_n C 1 dX12_latestStartWith_27 rfl rfl ?_
          refine x_iconst C (1) dX12_latestStartWith_28 rfl ?_
          refine x_callV C (ct_X1_improve _ _ n (bkA (σ 0 3)) p1 1 σ (bk_A (σ 0 3))) mt_X1_improve vr_X1_improve wd1321 cls_X1 (at_X1 (bk_A (σ 0 3))) rfl ⟨rfl, rfl, Nat.le_of_ble_eq_true rfl, Nat.le_of_ble_eq_true rfl⟩ rfl (by decide) dX12_latestStartWith_29 (kV (fun s9 => ?_))
          refine x_aload_n C 0 dX12_latestStartWith_32 rfl rfl ?_
          refine x_callV C (ct_X12_latestAsItIs _ _ n s9) mt_X12_latestAsItIs vr_X12_latestAsItIs wd1309 cls_X12 at_X12 rfl ⟨rfl, rfl, Nat.le_of_ble_eq_true rfl, Nat.le_of_ble_eq_true rfl⟩ rfl (by decide) dX12_latestStartWith_33 (kS (fun v11 s10 => ?_))
          refine x_istore_n (L' := [(2, _), (0, _), (1, _)]) C dX12_latestStartWith_36 rfl (by decide) rfl ?_
          refine x_aload_n C 1 dX12_latestStartWith_37 rfl rfl ?_
          refine x_get (v := .ref (xqa (xXE X).2.2 (bkA (s10 0 3)))) C 3 cls_X12 at_X12 (by decide) wd678 rfl rfl dX12_latestStartWith_38 ?_
          refine x_iload_n C 2 dX12_latestStartWith_41 rfl rfl ?_
          refine x_iconst C (-1) dX12_latestStartWith_42 rfl ?_
          refine x_callV C (ct_X1_improve _ _ n (bkA (s10 0 3)) p1 (-1) s10 (bk_A (s10 0 3))) mt_X1_improve vr_X1_improve wd1321 cls_X1 (at_X1 (bk_A (s10 0 3))) rfl ⟨rfl, rfl, Nat.le_of_ble_eq_true rfl, Nat.le_of_ble_eq_true rfl⟩ rfl (by decide) dX12_latestStartWith_43 (kV (fun s12 => ?_))
          refine x_iload_n C 0 dX12_latestStartWith_46 rfl rfl ?_
          exact x_iretQ C (hQ _ _) rfl dX12_latestStartWith_47
        · refine x_bipush C (-3) dX12_latestStartWith_20 rfl ?_
          exact x_iretQ C (hQ _ _) rfl dX12_latestStartWith_22
      · refine x_pick [] rfl ?_
        exact hJ3 ()
theorem ct_X12_latestStartWith (l : Launch) (E : xE) (n : Nat) (p1 : Int) (σ : xS)   : xMet l E yX12_latestStartWith cX12_latestStartWith 3 (some .int) { frames := 7, cells := 0, slots := 0, locals := 160 } [.ref (xqa E.2.2 0), iV p1] WW WW σ (xrS (m_X12_latestStartWith n p1 σ)) := by
  refine xMet.of0 (by decide) (Nat.le_of_ble_eq_true rfl) rfl rfl (fun X hE C => ?_)
  subst hE
  exact xMap (fun q => (some (iV q.1), q.2)) (wk_X12_latestStartWith C (fun _ _ => rfl) )
theorem mt_X12_latestStartWith : xMth yX12_latestStartWith cX12_latestStartWith 3 (some .int) 1 := ⟨wd1320, wd151, ⟨by decide, by decide, rfl⟩⟩
theorem vr_X12_latestStartWith : xVir yX12_latestStartWith := ⟨wd1318, wd1319⟩
def m_X12_vitalStreet (n : Nat) (σ : xS) : Option (Int × xS) :=
  (m_X12_batchCount n σ).bind fun v1 => if (zI v1) = (-3) then some ((-3), σ) else xbS (m_X12_latestAsItIs n σ) fun v4 s3 => xlet (-1) fun v5 => if (zI v4) = (-1) then some ((-1), s3) else loopF (fun rec8 (t7 : Int × Int × Int × xS) => if (zI (t7.2.2.2 ((bkA (s3 0 3)) + 39) 4)) ≤ (zI t7.2.2.1) then (m_X9_explore n ((bkA (s3 0 3)) + 39) (t7.2.2.2 (bkA (t7.2.2.2 0 3)) 8) (-1) t7.2.2.2).bind fun s11 => some (t7.2.1, s11) else xck (zI t7.2.2.1) 20 <| xj (fun (q15 : Int × Int × xS) => xlet (t7.2.2.1 + 1) fun v16 => rec8 (q15.1, q15.2.1, v16, q15.2.2)) fun J13 => if (zI (t7.2.2.2 (((bkA (s3 0 3)) + 39) + 4) (zI t7.2.2.1).toNat)) = 0 then (m_X9_explore n ((bkA (s3 0 3)) + 39) (t7.2.2.2 (bkA (t7.2.2.2 0 3)) 8) t7.2.2.1 t7.2.2.2).bind fun s18 => xbS (m_X8_latest n 172 (bkA (s18 0 3)) s18) fun v20 s19 => if (zI t7.1) ≤ (zI v20) then J13 (t7.1, t7.2.1, s19) else J13 (v20, t7.2.2.1, s19) else J13 (t7.1, t7.2.1, t7.2.2.2)) n (v4, v5, 0, s3)
set_option maxHeartbeats 4000000 in
set_option maxRecDepth 100000 in
theorem wk_X12_vitalStreet {X : xX} {Qf : (Int × xS) → State → Prop} {n : Nat} {σ : xS} (C : xCx X cX12_vitalStreet "BakeryNight" (some .int) { frames := 7, cells := 0, slots := 0, locals := 160 } 6) (hQ : ∀ v τ, Qf (v, τ) = xQf X WW (some (iV v), τ))  : WO X Qf WW σ 0 [(0, .ref (xqa (xXE X).2.2 0))] [] (m_X12_vitalStreet n σ) := by
  unfold m_X12_vitalStreet
  refine x_aload_n C 0 dX12_vitalStreet_0 rfl rfl ?_
  refine x_callV C (ct_X12_batchCount _ _ n σ) mt_X12_batchCount vr_X12_batchCount wd1041 cls_X12 at_X12 rfl ⟨rfl, rfl, Nat.le_of_ble_eq_true rfl, Nat.le_of_ble_eq_true rfl⟩ rfl (by decide) dX12_vitalStreet_1 (kI (fun v1 => ?_))
  refine x_bipush C (-3) dX12_vitalStreet_4 rfl ?_
  refine x_icmp_ne C 12 rfl (zIl _ rfl) dX12_vitalStreet_6 rfl (fun c2 => x_on c2 ?_) (fun c2 => x_op c2 ?_)
  · refine x_aload_n C 0 dX12_vitalStreet_12 rfl rfl ?_
    refine x_callV C (ct_X12_latestAsItIs _ _ n σ) mt_X12_latestAsItIs vr_X12_latestAsItIs wd1309 cls_X12 at_X12 rfl ⟨rfl, rfl, Nat.le_of_ble_eq_true rfl, Nat.le_of_ble_eq_true rfl⟩ rfl (by decide) dX12_vitalStreet_13 (kS (fun v4 s3 => ?_))
    refine x_istore_n (L' := [(1, _), (0, _)]) C dX12_vitalStreet_16 rfl (by decide) rfl ?_
    refine x_iconst C (-1) dX12_vitalStreet_17 rfl ?_
    refine x_letI (fun v5 => ?_)
    refine x_istore_n (L' := [(2, _), (1, _), (0, _)]) C dX12_vitalStreet_18 rfl (by decide) rfl ?_
    refine x_iload_n C 1 dX12_vitalStreet_19 rfl rfl ?_
    refine x_iconst C (-1) dX12_vitalStreet_20 rfl ?_
    refine x_icmp_ne C 26 rfl (zIl _ rfl) dX12_vitalStreet_21 rfl (fun c6 => x_on c6 ?_) (fun c6 => x_op c6 ?_)
    · refine x_aload_n C 2 dX12_vitalStreet_26 rfl rfl ?_
      refine x_get (v := .ref (xqa (xXE X).2.2 (bkA (s3 0 3)))) C 3 cls_X12 at_X12 (by decide) wd678 rfl rfl dX12_vitalStreet_27 ?_
      refine x_get (v := .ref (xqa (xXE X).2.2 ((bkA (s3 0 3)) + 39))) C 9 cls_X1 (at_X1 (bk_A (s3 0 3))) (by decide) wd476 rfl (xV_r (rt_X1_roads (bk_A (s3 0 3)) _) rfl) dX12_vitalStreet_30 ?_
      refine x_astore_n (L' := [(3, _), (2, _), (1, _), (0, _)]) C dX12_vitalStreet_33 rfl (by decide) rfl ?_
      refine x_iconst C (0) dX12_vitalStreet_34 rfl ?_
      refine x_istore (L' := [(4, _), (3, _), (2, _), (1, _), (0, _)]) C dX12_vitalStreet_35 (by decide) rfl ?_
      refine x_pick [4, 3, 2, 1, 0] rfl ?_
      refine x_loop (fun t7 : Int × Int × Int × xS => t7.2.2.2) (fun t7 : Int × Int × Int × xS => [(0, .ref (xqa (xXE X).2.2 0)), (1, iV t7.1), (2, iV t7.2.1), (3, .ref (xqa (xXE X).2.2 ((bkA (s3 0 3)) + 39))), (4, iV t7.2.2.1)]) (fun rec8 hr9 t7 => ?_) n (v4, v5, 0, s3)
      refine x_iload C 4 dX12_vitalStreet_37 rfl ?_
      refine x_aload_n C 3 dX12_vitalStreet_39 rfl rfl ?_
      refine x_get (v := iV (t7.2.2.2 ((bkA (s3 0 3)) + 39) 4)) C 4 cls_X9 (at_X9 (rd_bk (bk_A (s3 0 3)))) (by decide) wd392 rfl rfl dX12_vitalStreet_40 ?_
      refine x_icmp_ge C 100 rfl rfl dX12_vitalStreet_43 rfl (fun c10 => x_op c10 ?_) (fun c10 => x_on c10 ?_)
      · refine x_aload_n C 3 dX12_vitalStreet_100 rfl rfl ?_
        refine x_aload_n C 0 dX12_vitalStreet_101 rfl rfl ?_
        refine x_get (v := .ref (xqa (xXE X).2.2 (bkA (t7.2.2.2 0 3)))) C 3 cls_X12 at_X12 (by decide) wd678 rfl rfl dX12_vitalStreet_102 ?_
        refine x_get (v := iV (t7.2.2.2 (bkA (t7.2.2.2 0 3)) 8)) C 8 cls_X1 (at_X1 (bk_A (t7.2.2.2 0 3))) (by decide) wd472 rfl rfl dX12_vitalStreet_105 ?_
        refine x_iconst C (-1) dX12_vitalStreet_108 rfl ?_
        refine x_callV C (ct_X9_explore _ _ n ((bkA (s3 0 3)) + 39) (t7.2.2.2 (bkA (t7.2.2.2 0 3)) 8) (-1) t7.2.2.2 (rd_bk (bk_A (s3 0 3)))) mt_X9_explore vr_X9_explore wd1330 cls_X9 (at_X9 (rd_bk (bk_A (s3 0 3)))) rfl ⟨rfl, rfl, Nat.le_of_ble_eq_true rfl, Nat.le_of_ble_eq_true rfl⟩ rfl (by decide) dX12_vitalStreet_109 (kV (fun s11 => ?_))
        refine x_iload_n C 2 dX12_vitalStreet_112 rfl rfl ?_
        exact x_iretQ C (hQ _ _) rfl dX12_vitalStreet_113
      · refine x_aload_n C 3 dX12_vitalStreet_46 rfl rfl ?_
        refine x_get (v := .ref (xqa (xXE X).2.2 (((bkA (s3 0 3)) + 39) + 4))) C 3 cls_X9 (at_X9 (rd_bk (bk_A (s3 0 3)))) (by decide) wd388 rfl (xV_r (rt_X9_closed (rd_bk (bk_A (s3 0 3))) _) rfl) dX12_vitalStreet_47 ?_
        refine x_iload C 4 dX12_vitalStreet_50 rfl ?_
        refine x_zald C (at_X9_closed (rd_bk (bk_A (s3 0 3)))) rfl dX12_vitalStreet_52 (fun _ => ?_)
        refine x_join (fun J => ∀ q15 : Int × Int × xS, WO X Qf WW q15.2.2 94 [(0, .ref (xqa (xXE X).2.2 0)), (1, iV q15.1), (2, iV q15.2.1), (3, .ref (xqa (xXE X).2.2 ((bkA (s3 0 3)) + 39))), (4, iV t7.2.2.1)] [] (J q15)) ?_ ?_
        · intro q15
          refine x_inc C 4 (f := _) dX12_vitalStreet_94 rfl (by decide) (1) rfl (fun v16 => ?_)
          refine x_reL (L' := [(4, _), (0, _), (1, _), (2, _), (3, _)]) rfl ?_
          refine x_goto C 37 dX12_vitalStreet_97 rfl ?_
          refine x_pick [1, 2, 3, 4, 0] rfl ?_
          exact hr9 (q15.1, q15.2.1, v16, q15.2.2)
        · intro J13 hJ14
          refine x_if_ne C 94 rfl dX12_vitalStreet_53 rfl (fun c17 => x_on c17 ?_) (fun c17 => x_op c17 ?_)
          · refine x_pick [0, 1, 2, 3, 4] rfl ?_
            exact hJ14 (t7.1, t7.2.1, t7.2.2.2)
          · refine x_aload_n C 3 dX12_vitalStreet_56 rfl rfl ?_
            refine x_aload_n C 0 dX12_vitalStreet_57 rfl rfl ?_
            refine x_get (v := .ref (xqa (xXE X).2.2 (bkA (t7.2.2.2 0 3)))) C 3 cls_X12 at_X12 (by decide) wd678 rfl rfl dX12_vitalStreet_58 ?_
            refine x_get (v := iV (t7.2.2.2 (bkA (t7.2.2.2 0 3)) 8)) C 8 cls_X1 (at_X1 (bk_A (t7.2.2.2 0 3))) (by decide) wd472 rfl rfl dX12_vitalStreet_61 ?_
            refine x_iload C 4 dX12_vitalStreet_64 rfl ?_
            refine x_callV C (ct_X9_explore _ _ n ((bkA (s3 0 3)) + 39) (t7.2.2.2 (bkA (t7.2.2.2 0 3)) 8) t7.2.2.1 t7.2.2.2 (rd_bk (bk_A (s3 0 3)))) mt_X9_explore vr_X9_explore wd1330 cls_X9 (at_X9 (rd_bk (bk_A (s3 0 3)))) rfl ⟨rfl, rfl, Nat.le_of_ble_eq_true rfl, Nat.le_of_ble_eq_true rfl⟩ rfl (by decide) dX12_vitalStreet_66 (kV (fun s18 => ?_))
            refine x_aload_n C 0 dX12_vitalStreet_69 rfl rfl ?_
            refine x_get (v := .ref (xqa (xXE X).2.2 172)) C 11 cls_X12 at_X12 (by decide) wd686 rfl (xV_r (rt_X12_trialPlan  _) rfl) dX12_vitalStreet_70 ?_
            refine x_aload_n C 0 dX12_vitalStreet_73 rfl rfl ?_
            refine x_get (v := .ref (xqa (xXE X).2.2 (bkA (s18 0 3)))) C 3 cls_X12 at_X12 (by decide) wd678 rfl rfl dX12_vitalStreet_74 ?_
            refine x_callV C (ct_X8_latest _ _ n 172 (bkA (s18 0 3)) s18 (by first | exact Or.inl rfl | exact Or.inr rfl) (bk_A (s18 0 3))) mt_X8_latest vr_X8_latest wd1313 cls_X8 (at_X8 (by first | exact Or.inl rfl | exact Or.inr rfl)) rfl ⟨rfl, rfl, Nat.le_of_ble_eq_true rfl, Nat.le_of_ble_eq_true rfl⟩ rfl (by decide) dX12_vitalStreet_77 (kS (fun v20 s19 => ?_))
            refine x_istore (L' := [(5, _), (0, _), (1, _), (2, _), (3, _), (4, _)]) C dX12_vitalStreet_80 (by decide) rfl ?_
            refine x_iload C 0 dX12_vitalStreet_82 rfl ?_
            refine x_iload_n C 2 dX12_vitalStreet_84 rfl rfl ?_
            refine x_icmp_ge C 94 rfl rfl dX12_vitalStreet_85 rfl (fun c21 => x_op c21 ?_) (fun c21 => x_on c21 ?_)
            · refine x_pick [1, 2, 3, 4, 5] rfl ?_
              exact hJ14 (t7.1, t7.2.1, s19)
            · refine x_iload C 0 dX12_vitalStreet_88 rfl ?_
              refine x_istore_n (L' := [(1, _), (5, _), (0, _), (2, _), (3, _), (4, _)]) C dX12_vitalStreet_90 rfl (by decide) rfl ?_
              refine x_iload C 5 dX12_vitalStreet_91 rfl ?_
              refine x_istore_n (L' := [(2, _), (1, _), (5, _), (0, _), (3, _), (4, _)]) C dX12_vitalStreet_93 rfl (by decide) rfl ?_
              refine x_pick [3, 1, 0, 4, 5] rfl ?_
              exact hJ14 (v20, t7.2.2.1, s19)
    · refine x_iconst C (-1) dX12_vitalStreet_24 rfl ?_
      exact x_iretQ C (hQ _ _) rfl dX12_vitalStreet_25
  · refine x_bipush C (-3) dX12_vitalStreet_9 rfl ?_
    exact x_iretQ C (hQ _ _) rfl dX12_vitalStreet_11
theorem ct_X12_vitalStreet (l : Launch) (E : xE) (n : Nat) (σ : xS)   : xMet l E yX12_vitalStreet cX12_vitalStreet 6 (some .int) { frames := 7, cells := 0, slots := 0, locals := 160 } [.ref (xqa E.2.2 0)] WW WW σ (xrS (m_X12_vitalStreet n σ)) := by
  refine xMet.of0 (by decide) (Nat.le_of_ble_eq_true rfl) rfl rfl (fun X hE C => ?_)
  subst hE
  exact xMap (fun q => (some (iV q.1), q.2)) (wk_X12_vitalStreet C (fun _ _ => rfl) )
theorem mt_X12_vitalStreet : xMth yX12_vitalStreet cX12_vitalStreet 6 (some .int) 0 := ⟨wd1329, wd151, ⟨by decide, by decide, rfl⟩⟩
theorem vr_X12_vitalStreet : xVir yX12_vitalStreet := ⟨wd1327, wd1328⟩
def m_X12_recordChange (p1 : Int) (p2 : Int) (p3 : Int) (σ : xS) : Option xS :=
  (m_X3_add p1 p2 p3 σ).bind fun s1 => (m_X12_dropNight s1).bind fun s2 => some s2
set_option maxHeartbeats 4000000 in
set_option maxRecDepth 100000 in
theorem wk_X12_recordChange {X : xX} {Qf : xS → State → Prop} {p1 : Int} {p2 : Int} {p3 : Int} {σ : xS} (C : xCx X cX12_recordChange "BakeryNight" none { frames := 3, cells := 0, slots := 0, locals := 83 } 4) (hQ : ∀ τ, Qf τ = xQf X WW (none, τ))  : WO X Qf WW σ 0 [(0, .ref (xqa (xXE X).2.2 0)), (1, iV p1), (2, iV p2), (3, iV p3)] [] (m_X12_recordChange p1 p2 p3 σ) := by
  unfold m_X12_recordChange
  refine x_aload_n C 0 dX12_recordChange_0 rfl rfl ?_
  refine x_get (v := .ref (xqa (xXE X).2.2 114)) C 5 cls_X12 at_X12 (by decide) wd680 rfl (xV_r (rt_X12_history  _) rfl) dX12_recordChange_1 ?_
  refine x_iload_n C 1 dX12_recordChange_4 rfl rfl ?_
  refine x_iload_n C 2 dX12_recordChange_5 rfl rfl ?_
  refine x_iload_n C 3 dX12_recordChange_6 rfl rfl ?_
  refine x_callV C (ct_X3_add _ _ p1 p2 p3 σ) mt_X3_add vr_X3_add wd1339 cls_X3 at_X3 rfl ⟨rfl, rfl, Nat.le_of_ble_eq_true rfl, Nat.le_of_ble_eq_true rfl⟩ rfl (by decide) dX12_recordChange_7 (kV (fun s1 => ?_))
  refine x_aload_n C 0 dX12_recordChange_10 rfl rfl ?_
  refine x_callV C (ct_X12_dropNight _ _ s1) mt_X12_dropNight vr_X12_dropNight wd936 cls_X12 at_X12 rfl ⟨rfl, rfl, Nat.le_of_ble_eq_true rfl, Nat.le_of_ble_eq_true rfl⟩ rfl (by decide) dX12_recordChange_11 (kV (fun s2 => ?_))
  exact x_vretQ C (hQ _) rfl dX12_recordChange_14
theorem ct_X12_recordChange (l : Launch) (E : xE) (p1 : Int) (p2 : Int) (p3 : Int) (σ : xS)   : xMet l E yX12_recordChange cX12_recordChange 4 none { frames := 3, cells := 0, slots := 0, locals := 83 } [.ref (xqa E.2.2 0), iV p1, iV p2, iV p3] WW WW σ (xrV (m_X12_recordChange p1 p2 p3 σ)) := by
  refine xMet.of0 (by decide) (Nat.le_of_ble_eq_true rfl) rfl rfl (fun X hE C => ?_)
  subst hE
  exact xMap (fun q => (none, q)) (wk_X12_recordChange C (fun _ => rfl) )
theorem mt_X12_recordChange : xMth yX12_recordChange cX12_recordChange 4 none 3 := ⟨wd1338, wd151, ⟨by decide, by decide, rfl⟩⟩
theorem vr_X12_recordChange : xVir yX12_recordChange := ⟨wd1337, wd46⟩
def m_X12_setRoom (p1 : Int) (σ : xS) : Option (Int × xS) :=
  xj (fun (q3 : Unit) => some ((-1), σ)) fun J1 => if (zI p1) < 10 then J1 () else if (zI p1) ≤ 40 then xlet (σ (bkA (σ 0 3)) 0) fun v6 => xlet (xput σ (bkA (σ 0 3)) 0 p1) fun s7 => (m_X12_recordChange 0 0 v6 s7).bind fun s8 => some (v6, s8) else J1 ()
set_option maxHeartbeats 4000000 in
set_option maxRecDepth 100000 in
theorem wk_X12_setRoom {X : xX} {Qf : (Int × xS) → State → Prop} {p1 : Int} {σ : xS} (C : xCx X cX12_setRoom "BakeryNight" (some .int) { frames := 4, cells := 0, slots := 0, locals := 106 } 3) (hQ : ∀ v τ, Qf (v, τ) = xQf X WW (some (iV v), τ))  : WO X Qf WW σ 0 [(0, .ref (xqa (xXE X).2.2 0)), (1, iV p1)] [] (m_X12_setRoom p1 σ) := by
  unfold m_X12_setRoom
  refine x_iload_n C 1 dX12_setRoom_0 rfl rfl ?_
  refine x_bipush C (10) dX12_setRoom_1 rfl ?_
  refine x_join (fun J => ∀ q3 : Unit, WO X Qf WW σ 12 [] [] (J q3)) ?_ ?_
  · intro q3
    refine x_iconst C (-1) dX12_setRoom_12 rfl ?_
    exact x_iretQ C (hQ _ _) rfl dX12_setRoom_13
  · intro J1 hJ2
    refine x_icmp_lt C 12 rfl (zIl _ rfl) dX12_setRoom_3 rfl (fun c4 => x_op c4 ?_) (fun c4 => x_on c4 ?_)
    · refine x_pick [] rfl ?_
      exact hJ2 ()
    · refine x_iload_n C 1 dX12_setRoom_6 rfl rfl ?_
      refine x_bipush C (40) dX12_setRoom_7 rfl ?_
      refine x_icmp_le C 14 rfl (zIl _ rfl) dX12_setRoom_9 rfl (fun c5 => x_op c5 ?_) (fun c5 => x_on c5 ?_)
      · refine x_aload_n C 0 dX12_setRoom_14 rfl rfl ?_
        refine x_get (v := .ref (xqa (xXE X).2.2 (bkA (σ 0 3)))) C 3 cls_X12 at_X12 (by decide) wd678 rfl rfl dX12_setRoom_15 ?_
        refine x_get (v := iV (σ (bkA (σ 0 3)) 0)) C 0 cls_X1 (at_X1 (bk_A (σ 0 3))) (by decide) wd443 rfl rfl dX12_setRoom_18 ?_
        refine x_letI (fun v6 => ?_)
        refine x_istore_n (L' := [(2, _), (0, _), (1, _)]) C dX12_setRoom_21 rfl (by decide) rfl ?_
        refine x_aload_n C 1 dX12_setRoom_22 rfl rfl ?_
        refine x_get (v := .ref (xqa (xXE X).2.2 (bkA (σ 0 3)))) C 3 cls_X12 at_X12 (by decide) wd678 rfl rfl dX12_setRoom_23 ?_
        refine x_iload_n C 2 dX12_setRoom_26 rfl rfl ?_
        refine x_put C 0 p1 cls_X1 (at_X1 (bk_A (σ 0 3))) (by decide) wd443 rfl rfl rfl rfl (xV_pI rfl) dX12_setRoom_27 ?_
        refine x_letS (fun s7 => ?_)
        refine x_aload_n C 1 dX12_setRoom_30 rfl rfl ?_
        refine x_iconst C (0) dX12_setRoom_31 rfl ?_
        refine x_iconst C (0) dX12_setRoom_32 rfl ?_
        refine x_iload_n C 0 dX12_setRoom_33 rfl rfl ?_
        refine x_callV C (ct_X12_recordChange _ _ 0 0 v6 s7) mt_X12_recordChange vr_X12_recordChange wd1335 cls_X12 at_X12 rfl ⟨rfl, rfl, Nat.le_of_ble_eq_true rfl, Nat.le_of_ble_eq_true rfl⟩ rfl (by decide) dX12_setRoom_34 (kV (fun s8 => ?_))
        refine x_iload_n C 0 dX12_setRoom_37 rfl rfl ?_
        exact x_iretQ C (hQ _ _) rfl dX12_setRoom_38
      · refine x_pick [] rfl ?_
        exact hJ2 ()
theorem ct_X12_setRoom (l : Launch) (E : xE) (p1 : Int) (σ : xS)   : xMet l E yX12_setRoom cX12_setRoom 3 (some .int) { frames := 4, cells := 0, slots := 0, locals := 106 } [.ref (xqa E.2.2 0), iV p1] WW WW σ (xrS (m_X12_setRoom p1 σ)) := by
  refine xMet.of0 (by decide) (Nat.le_of_ble_eq_true rfl) rfl rfl (fun X hE C => ?_)
  subst hE
  exact xMap (fun q => (some (iV q.1), q.2)) (wk_X12_setRoom C (fun _ _ => rfl) )
theorem mt_X12_setRoom : xMth yX12_setRoom cX12_setRoom 3 (some .int) 1 := ⟨wd1334, wd151, ⟨by decide, by decide, rfl⟩⟩
theorem vr_X12_setRoom : xVir yX12_setRoom := ⟨wd1332, wd1333⟩
def m_X12_breakOven (p1 : Int) (p2 : Int) (σ : xS) : Option (Int × xS) :=
  if (m_X1_hasOven (bkA (σ 0 3)) p1 σ) = 0 then some (0, σ) else xck (zI p1) 4 <| xlet (if (zI (σ ((bkA (σ 0 3)) + 9 + (zI p1).toNat) 3)) = 0 then 0 else 1) fun v3 => xck (zI p1) 4 <| xbo p2 <| xlet (xput σ ((bkA (σ 0 3)) + 9 + (zI p1).toNat) 3 p2) fun s6 => (m_X12_recordChange 1 p1 v3 s6).bind fun s7 => some (1, s7)
set_option maxHeartbeats 4000000 in
set_option maxRecDepth 100000 in
theorem wk_X12_breakOven {X : xX} {Qf : (Int × xS) → State → Prop} {p1 : Int} {p2 : Int} {σ : xS} (C : xCx X cX12_breakOven "BakeryNight" (some .boolean) { frames := 4, cells := 0, slots := 0, locals := 106 } 4) (hQ : ∀ v τ, Qf (v, τ) = xQf X WW (some (iV v), τ))  : WO X Qf WW σ 0 [(0, .ref (xqa (xXE X).2.2 0)), (1, iV p1), (2, iV p2)] [] (m_X12_breakOven p1 p2 σ) := by
  unfold m_X12_breakOven
  refine x_aload_n C 0 dX12_breakOven_0 rfl rfl ?_
  refine x_get (v := .ref (xqa (xXE X).2.2 (bkA (σ 0 3)))) C 3 cls_X12 at_X12 (by decide) wd678 rfl rfl dX12_breakOven_1 ?_
  refine x_iload_n C 1 dX12_breakOven_4 rfl rfl ?_
  refine x_callV C (ct_X1_hasOven _ _ (bkA (σ 0 3)) p1 σ (bk_A (σ 0 3))) mt_X1_hasOven vr_X1_hasOven wd1150 cls_X1 (at_X1 (bk_A (σ 0 3))) rfl ⟨rfl, rfl, Nat.le_of_ble_eq_true rfl, Nat.le_of_ble_eq_true rfl⟩ rfl (by decide) dX12_breakOven_5 (kP ?_)
  refine x_if_ne C 13 (zI_bo (bo_X1_hasOven _ _ _)) dX12_breakOven_8 rfl (fun c1 => x_on c1 ?_) (fun c1 => x_op c1 ?_)
  · refine x_aload_n C 0 dX12_breakOven_13 rfl rfl ?_
    refine x_get (v := .ref (xqa (xXE X).2.2 (bkA (σ 0 3)))) C 3 cls_X12 at_X12 (by decide) wd678 rfl rfl dX12_breakOven_14 ?_
    refine x_get (v := .ref (xqa (xXE X).2.2 ((bkA (σ 0 3)) + 8))) C 6 cls_X1 (at_X1 (bk_A (σ 0 3))) (by decide) wd466 rfl (xV_r (rt_X1_ovens (bk_A (σ 0 3)) _) rfl) dX12_breakOven_17 ?_
    refine x_iload_n C 1 dX12_breakOven_20 rfl rfl ?_
    refine x_aald C (at_X1_ovens (bk_A (σ 0 3))) (by decide) rfl (fun h2 => rl_X1_ovens (bk_A (σ 0 3)) _ h2) dX12_breakOven_21 (fun h2 => ?_)
    refine x_get (v := iV (σ ((bkA (σ 0 3)) + 9 + (zI p1).toNat) 3)) C 3 cls_X6 (el_X1_ovens (bk_A (σ 0 3)) h2) (by decide) wd324 rfl rfl dX12_breakOven_22 ?_
    refine x_tree 33 [] (fun v3 => ?_) (fun hJ8 => ?_)
    · refine x_istore_n (L' := [(3, _), (0, _), (1, _), (2, _)]) C dX12_breakOven_33 rfl (by decide) rfl ?_
      refine x_aload_n C 1 dX12_breakOven_34 rfl rfl ?_
      refine x_get (v := .ref (xqa (xXE X).2.2 (bkA (σ 0 3)))) C 3 cls_X12 at_X12 (by decide) wd678 rfl rfl dX12_breakOven_35 ?_
      refine x_get (v := .ref (xqa (xXE X).2.2 ((bkA (σ 0 3)) + 8))) C 6 cls_X1 (at_X1 (bk_A (σ 0 3))) (by decide) wd466 rfl (xV_r (rt_X1_ovens (bk_A (σ 0 3)) _) rfl) dX12_breakOven_38 ?_
      refine x_iload_n C 2 dX12_breakOven_41 rfl rfl ?_
      refine x_aald C (at_X1_ovens (bk_A (σ 0 3))) (by decide) rfl (fun h4 => rl_X1_ovens (bk_A (σ 0 3)) _ h4) dX12_breakOven_42 (fun h4 => ?_)
      refine x_iload_n C 3 dX12_breakOven_43 rfl rfl ?_
      refine x_bo (fun hb5 => ?_)
      refine x_put C 3 p2 cls_X6 (el_X1_ovens (bk_A (σ 0 3)) h4) (by decide) wd324 rfl rfl (xnb hb5) (xfb hb5) (xV_pI rfl) dX12_breakOven_44 ?_
      refine x_letS (fun s6 => ?_)
      refine x_aload_n C 1 dX12_breakOven_47 rfl rfl ?_
      refine x_iconst C (1) dX12_breakOven_48 rfl ?_
      refine x_iload_n C 2 dX12_breakOven_49 rfl rfl ?_
      refine x_iload_n C 0 dX12_breakOven_50 rfl rfl ?_
      refine x_callV C (ct_X12_recordChange _ _ 1 p1 v3 s6) mt_X12_recordChange vr_X12_recordChange wd1335 cls_X12 at_X12 rfl ⟨rfl, rfl, Nat.le_of_ble_eq_true rfl, Nat.le_of_ble_eq_true rfl⟩ rfl (by decide) dX12_breakOven_51 (kV (fun s7 => ?_))
      refine x_iconst C (1) dX12_breakOven_54 rfl ?_
      exact x_zretQ C (hQ _ _) rfl (Or.inr rfl) dX12_breakOven_55
    · refine x_if_eq C 32 rfl dX12_breakOven_25 rfl (fun c9 => ?_) (fun c9 => ?_)
      · refine x_iconst C (0) dX12_breakOven_32 rfl ?_
        exact hJ8 _ (by rw [if_pos c9])
      · refine x_iconst C (1) dX12_breakOven_28 rfl ?_
        refine x_goto C 33 dX12_breakOven_29 rfl ?_
        exact hJ8 _ (by rw [if_neg c9])
  · refine x_iconst C (0) dX12_breakOven_11 rfl ?_
    exact x_zretQ C (hQ _ _) rfl (Or.inl rfl) dX12_breakOven_12
theorem ct_X12_breakOven (l : Launch) (E : xE) (p1 : Int) (p2 : Int) (σ : xS)   : xMet l E yX12_breakOven cX12_breakOven 4 (some .boolean) { frames := 4, cells := 0, slots := 0, locals := 106 } [.ref (xqa E.2.2 0), iV p1, iV p2] WW WW σ (xrS (m_X12_breakOven p1 p2 σ)) := by
  refine xMet.of0 (by decide) (Nat.le_of_ble_eq_true rfl) rfl rfl (fun X hE C => ?_)
  subst hE
  exact xMap (fun q => (some (iV q.1), q.2)) (wk_X12_breakOven C (fun _ _ => rfl) )
theorem mt_X12_breakOven : xMth yX12_breakOven cX12_breakOven 4 (some .boolean) 2 := ⟨wd1351, wd151, ⟨by decide, by decide, rfl⟩⟩
theorem vr_X12_breakOven : xVir yX12_breakOven := ⟨wd1349, wd1350⟩
def m_X12_closeStreet (n : Nat) (p1 : Int) (p2 : Int) (σ : xS) : Option (Int × xS) :=
  xj (fun (q3 : Unit) => some (0, σ)) fun J1 => if (zI p1) < 0 then J1 () else if (zI p1) < (zI (σ ((bkA (σ 0 3)) + 39) 4)) then xck (zI p1) 20 <| xlet (if (zI (σ (((bkA (σ 0 3)) + 39) + 4) (zI p1).toNat)) = 0 then 0 else 1) fun v6 => (m_X1_markStreet n (bkA (σ 0 3)) p1 p2 σ).bind fun s7 => (m_X12_recordChange 2 p1 v6 s7).bind fun s8 => some (1, s8) else J1 ()
set_option maxHeartbeats 4000000 in
set_option maxRecDepth 100000 in
theorem wk_X12_closeStreet {X : xX} {Qf : (Int × xS) → State → Prop} {n : Nat} {p1 : Int} {p2 : Int} {σ : xS} (C : xCx X cX12_closeStreet "BakeryNight" (some .boolean) { frames := 4, cells := 0, slots := 0, locals := 106 } 4) (hQ : ∀ v τ, Qf (v, τ) = xQf X WW (some (iV v), τ))  : WO X Qf WW σ 0 [(0, .ref (xqa (xXE X).2.2 0)), (1, iV p1), (2, iV p2)] [] (m_X12_closeStreet n p1 p2 σ) := by
  unfold m_X12_closeStreet
  refine x_iload_n C 1 dX12_closeStreet_0 rfl rfl ?_
  refine x_join (fun J => ∀ q3 : Unit, WO X Qf WW σ 18 [] [] (J q3)) ?_ ?_
  · intro q3
    refine x_iconst C (0) dX12_closeStreet_18 rfl ?_
    exact x_zretQ C (hQ _ _) rfl (Or.inl rfl) dX12_closeStreet_19
  · intro J1 hJ2
    refine x_if_lt C 18 rfl dX12_closeStreet_1 rfl (fun c4 => x_op c4 ?_) (fun c4 => x_on c4 ?_)
    · refine x_pick [] rfl ?_
      exact hJ2 ()
    · refine x_iload_n C 1 dX12_closeStreet_4 rfl rfl ?_
      refine x_aload_n C 0 dX12_closeStreet_5 rfl rfl ?_
      refine x_get (v := .ref (xqa (xXE X).2.2 (bkA (σ 0 3)))) C 3 cls_X12 at_X12 (by decide) wd678 rfl rfl dX12_closeStreet_6 ?_
      refine x_get (v := .ref (xqa (xXE X).2.2 ((bkA (σ 0 3)) + 39))) C 9 cls_X1 (at_X1 (bk_A (σ 0 3))) (by decide) wd476 rfl (xV_r (rt_X1_roads (bk_A (σ 0 3)) _) rfl) dX12_closeStreet_9 ?_
      refine x_get (v := iV (σ ((bkA (σ 0 3)) + 39) 4)) C 4 cls_X9 (at_X9 (rd_bk (bk_A (σ 0 3)))) (by decide) wd392 rfl rfl dX12_closeStreet_12 ?_
      refine x_icmp_lt C 20 rfl rfl dX12_closeStreet_15 rfl (fun c5 => x_op c5 ?_) (fun c5 => x_on c5 ?_)
      · refine x_aload_n C 0 dX12_closeStreet_20 rfl rfl ?_
        refine x_get (v := .ref (xqa (xXE X).2.2 (bkA (σ 0 3)))) C 3 cls_X12 at_X12 (by decide) wd678 rfl rfl dX12_closeStreet_21 ?_
        refine x_get (v := .ref (xqa (xXE X).2.2 ((bkA (σ 0 3)) + 39))) C 9 cls_X1 (at_X1 (bk_A (σ 0 3))) (by decide) wd476 rfl (xV_r (rt_X1_roads (bk_A (σ 0 3)) _) rfl) dX12_closeStreet_24 ?_
        refine x_get (v := .ref (xqa (xXE X).2.2 (((bkA (σ 0 3)) + 39) + 4))) C 3 cls_X9 (at_X9 (rd_bk (bk_A (σ 0 3)))) (by decide) wd388 rfl (xV_r (rt_X9_closed (rd_bk (bk_A (σ 0 3))) _) rfl) dX12_closeStreet_27 ?_
        refine x_iload_n C 1 dX12_closeStreet_30 rfl rfl ?_
        refine x_zald C (at_X9_closed (rd_bk (bk_A (σ 0 3)))) rfl dX12_closeStreet_31 (fun _ => ?_)
        refine x_tree 40 [] (fun v6 => ?_) (fun hJ9 => ?_)
        · refine x_istore_n (L' := [(3, _), (0, _), (1, _), (2, _)]) C dX12_closeStreet_40 rfl (by decide) rfl ?_
          refine x_aload_n C 1 dX12_closeStreet_41 rfl rfl ?_
          refine x_get (v := .ref (xqa (xXE X).2.2 (bkA (σ 0 3)))) C 3 cls_X12 at_X12 (by decide) wd678 rfl rfl dX12_closeStreet_42 ?_
          refine x_iload_n C 2 dX12_closeStreet_45 rfl rfl ?_
          refine x_iload_n C 3 dX12_closeStreet_46 rfl rfl ?_
          refine x_callV C (ct_X1_markStreet _ _ n (bkA (σ 0 3)) p1 p2 σ (bk_A (σ 0 3))) mt_X1_markStreet vr_X1_markStreet wd1356 cls_X1 (at_X1 (bk_A (σ 0 3))) rfl ⟨rfl, rfl, Nat.le_of_ble_eq_true rfl, Nat.le_of_ble_eq_true rfl⟩ rfl (by decide) dX12_closeStreet_47 (kV (fun s7 => ?_))
          refine x_aload_n C 1 dX12_closeStreet_50 rfl rfl ?_
          refine x_iconst C (2) dX12_closeStreet_51 rfl ?_
          refine x_iload_n C 2 dX12_closeStreet_52 rfl rfl ?_
          refine x_iload_n C 0 dX12_closeStreet_53 rfl rfl ?_
          refine x_callV C (ct_X12_recordChange _ _ 2 p1 v6 s7) mt_X12_recordChange vr_X12_recordChange wd1335 cls_X12 at_X12 rfl ⟨rfl, rfl, Nat.le_of_ble_eq_true rfl, Nat.le_of_ble_eq_true rfl⟩ rfl (by decide) dX12_closeStreet_54 (kV (fun s8 => ?_))
          refine x_iconst C (1) dX12_closeStreet_57 rfl ?_
          exact x_zretQ C (hQ _ _) rfl (Or.inr rfl) dX12_closeStreet_58
        · refine x_if_eq C 39 rfl dX12_closeStreet_32 rfl (fun c10 => ?_) (fun c10 => ?_)
          · refine x_iconst C (0) dX12_closeStreet_39 rfl ?_
            exact hJ9 _ (by rw [if_pos c10])
          · refine x_iconst C (1) dX12_closeStreet_35 rfl ?_
            refine x_goto C 40 dX12_closeStreet_36 rfl ?_
            exact hJ9 _ (by rw [if_neg c10])
      · refine x_pick [] rfl ?_
        exact hJ2 ()
theorem ct_X12_closeStreet (l : Launch) (E : xE) (n : Nat) (p1 : Int) (p2 : Int) (σ : xS)   : xMet l E yX12_closeStreet cX12_closeStreet 4 (some .boolean) { frames := 4, cells := 0, slots := 0, locals := 106 } [.ref (xqa E.2.2 0), iV p1, iV p2] WW WW σ (xrS (m_X12_closeStreet n p1 p2 σ)) := by
  refine xMet.of0 (by decide) (Nat.le_of_ble_eq_true rfl) rfl rfl (fun X hE C => ?_)
  subst hE
  exact xMap (fun q => (some (iV q.1), q.2)) (wk_X12_closeStreet C (fun _ _ => rfl) )
theorem mt_X12_closeStreet : xMth yX12_closeStreet cX12_closeStreet 4 (some .boolean) 2 := ⟨wd1355, wd151, ⟨by decide, by decide, rfl⟩⟩
theorem vr_X12_closeStreet : xVir yX12_closeStreet := ⟨wd1353, wd1354⟩
def m_X12_addOrder (p1 : Int) (p2 : Int) (p3 : Int) (p4 : Int) (σ : xS) : Option (Int × xS) :=
  xj (fun (q3 : Unit) => some ((-1), σ)) fun J1 => if (m_X1_hasShop (bkA (σ 0 3)) p1 σ) = 0 then J1 () else if (m_X1_hasDough (bkA (σ 0 3)) p2 σ) = 0 then J1 () else if (zI (σ (bkA (σ 0 3)) 13)) < 24 then xj (fun (q9 : Unit) => some ((-1), σ)) fun J7 => if (zI p3) < 1 then J7 () else if 200 < (zI p3) then J7 () else if (zI p4) < 0 then J7 () else if (zI p4) ≤ 1439 then xlet (σ (bkA (σ 0 3)) 13) fun v14 => xck (zI v14) 24 <| (m_X5_set ((bkA (σ 0 3)) + 14 + (zI v14).toNat) p1 p2 p3 p4 σ).bind fun s16 => xlet (xput s16 (bkA (s16 0 3)) 13 ((s16 (bkA (s16 0 3)) 13) + 1)) fun s17 => (m_X12_recordChange 3 v14 0 s17).bind fun s18 => some (v14, s18) else J7 () else J1 ()
set_option maxHeartbeats 4000000 in
set_option maxRecDepth 100000 in
theorem wk_X12_addOrder {X : xX} {Qf : (Int × xS) → State → Prop} {p1 : Int} {p2 : Int} {p3 : Int} {p4 : Int} {σ : xS} (C : xCx X cX12_addOrder "BakeryNight" (some .int) { frames := 4, cells := 0, slots := 0, locals := 106 } 6) (hQ : ∀ v τ, Qf (v, τ) = xQf X WW (some (iV v), τ))  : WO X Qf WW σ 0 [(0, .ref (xqa (xXE X).2.2 0)), (1, iV p1), (2, iV p2), (3, iV p3), (4, iV p4)] [] (m_X12_addOrder p1 p2 p3 p4 σ) := by
  unfold m_X12_addOrder
  refine x_aload_n C 0 dX12_addOrder_0 rfl rfl ?_
  refine x_get (v := .ref (xqa (xXE X).2.2 (bkA (σ 0 3)))) C 3 cls_X12 at_X12 (by decide) wd678 rfl rfl dX12_addOrder_1 ?_
  refine x_iload_n C 1 dX12_addOrder_4 rfl rfl ?_
  refine x_callV C (ct_X1_hasShop _ _ (bkA (σ 0 3)) p1 σ (bk_A (σ 0 3))) mt_X1_hasShop vr_X1_hasShop wd1000 cls_X1 (at_X1 (bk_A (σ 0 3))) rfl ⟨rfl, rfl, Nat.le_of_ble_eq_true rfl, Nat.le_of_ble_eq_true rfl⟩ rfl (by decide) dX12_addOrder_5 (kP ?_)
  refine x_join (fun J => ∀ q3 : Unit, WO X Qf WW σ 34 [] [] (J q3)) ?_ ?_
  · intro q3
    refine x_iconst C (-1) dX12_addOrder_34 rfl ?_
    exact x_iretQ C (hQ _ _) rfl dX12_addOrder_35
  · intro J1 hJ2
    refine x_if_eq C 34 (zI_bo (bo_X1_hasShop _ _ _)) dX12_addOrder_8 rfl (fun c4 => x_op c4 ?_) (fun c4 => x_on c4 ?_)
    · refine x_pick [] rfl ?_
      exact hJ2 ()
    · refine x_aload_n C 0 dX12_addOrder_11 rfl rfl ?_
      refine x_get (v := .ref (xqa (xXE X).2.2 (bkA (σ 0 3)))) C 3 cls_X12 at_X12 (by decide) wd678 rfl rfl dX12_addOrder_12 ?_
      refine x_iload_n C 2 dX12_addOrder_15 rfl rfl ?_
      refine x_callV C (ct_X1_hasDough _ _ (bkA (σ 0 3)) p2 σ (bk_A (σ 0 3))) mt_X1_hasDough vr_X1_hasDough wd956 cls_X1 (at_X1 (bk_A (σ 0 3))) rfl ⟨rfl, rfl, Nat.le_of_ble_eq_true rfl, Nat.le_of_ble_eq_true rfl⟩ rfl (by decide) dX12_addOrder_16 (kP ?_)
      refine x_if_eq C 34 (zI_bo (bo_X1_hasDough _ _ _)) dX12_addOrder_19 rfl (fun c5 => x_op c5 ?_) (fun c5 => x_on c5 ?_)
      · refine x_pick [] rfl ?_
        exact hJ2 ()
      · refine x_aload_n C 0 dX12_addOrder_22 rfl rfl ?_
        refine x_get (v := .ref (xqa (xXE X).2.2 (bkA (σ 0 3)))) C 3 cls_X12 at_X12 (by decide) wd678 rfl rfl dX12_addOrder_23 ?_
        refine x_get (v := iV (σ (bkA (σ 0 3)) 13)) C 13 cls_X1 (at_X1 (bk_A (σ 0 3))) (by decide) wd492 rfl rfl dX12_addOrder_26 ?_
        refine x_bipush C (24) dX12_addOrder_29 rfl ?_
        refine x_icmp_lt C 36 rfl (zIl _ rfl) dX12_addOrder_31 rfl (fun c6 => x_op c6 ?_) (fun c6 => x_on c6 ?_)
        · refine x_iload_n C 3 dX12_addOrder_36 rfl rfl ?_
          refine x_iconst C (1) dX12_addOrder_37 rfl ?_
          refine x_join (fun J => ∀ q9 : Unit, WO X Qf WW σ 61 [] [] (J q9)) ?_ ?_
          · intro q9
            refine x_iconst C (-1) dX12_addOrder_61 rfl ?_
            exact x_iretQ C (hQ _ _) rfl dX12_addOrder_62
          · intro J7 hJ8
            refine x_icmp_lt C 61 rfl (zIl _ rfl) dX12_addOrder_38 rfl (fun c10 => x_op c10 ?_) (fun c10 => x_on c10 ?_)
            · refine x_pick [] rfl ?_
              exact hJ8 ()
            · refine x_iload_n C 3 dX12_addOrder_41 rfl rfl ?_
              refine x_sipush C (200) dX12_addOrder_42 rfl ?_
              refine x_icmp_gt C 61 rfl (zIl _ rfl) dX12_addOrder_45 rfl (fun c11 => x_op c11 ?_) (fun c11 => x_on c11 ?_)
              · refine x_pick [] rfl ?_
                exact hJ8 ()
              · refine x_iload C 4 dX12_addOrder_48 rfl ?_
                refine x_if_lt C 61 rfl dX12_addOrder_50 rfl (fun c12 => x_op c12 ?_) (fun c12 => x_on c12 ?_)
                · refine x_pick [] rfl ?_
                  exact hJ8 ()
                · refine x_iload C 4 dX12_addOrder_53 rfl ?_
                  refine x_sipush C (1439) dX12_addOrder_55 rfl ?_
                  refine x_icmp_le C 63 rfl (zIl _ rfl) dX12_addOrder_58 rfl (fun c13 => x_op c13 ?_) (fun c13 => x_on c13 ?_)
                  · refine x_aload_n C 0 dX12_addOrder_63 rfl rfl ?_
                    refine x_get (v := .ref (xqa (xXE X).2.2 (bkA (σ 0 3)))) C 3 cls_X12 at_X12 (by decide) wd678 rfl rfl dX12_addOrder_64 ?_
                    refine x_get (v := iV (σ (bkA (σ 0 3)) 13)) C 13 cls_X1 (at_X1 (bk_A (σ 0 3))) (by decide) wd492 rfl rfl dX12_addOrder_67 ?_
                    refine x_letI (fun v14 => ?_)
                    refine x_istore (L' := [(5, _), (0, _), (1, _), (2, _), (3, _), (4, _)]) C dX12_addOrder_70 (by decide) rfl ?_
                    refine x_aload_n C 1 dX12_addOrder_72 rfl rfl ?_
                    refine x_get (v := .ref (xqa (xXE X).2.2 (bkA (σ 0 3)))) C 3 cls_X12 at_X12 (by decide) wd678 rfl rfl dX12_addOrder_73 ?_
                    refine x_get (v := .ref (xqa (xXE X).2.2 ((bkA (σ 0 3)) + 13))) C 12 cls_X1 (at_X1 (bk_A (σ 0 3))) (by decide) wd488 rfl (xV_r (rt_X1_orders (bk_A (σ 0 3)) _) rfl) dX12_addOrder_76 ?_
                    refine x_iload C 0 dX12_addOrder_79 rfl ?_
                    refine x_aald C (at_X1_orders (bk_A (σ 0 3))) (by decide) rfl (fun h15 => rl_X1_orders (bk_A (σ 0 3)) _ h15) dX12_addOrder_81 (fun h15 => ?_)
                    refine x_iload_n C 2 dX12_addOrder_82 rfl rfl ?_
                    refine x_iload_n C 3 dX12_addOrder_83 rfl rfl ?_
                    refine x_iload_n C 4 dX12_addOrder_84 rfl rfl ?_
                    refine x_iload C 5 dX12_addOrder_85 rfl ?_
                    refine x_callV C (ct_X5_set _ _ ((bkA (σ 0 3)) + 14 + (zI v14).toNat) p1 p2 p3 p4 σ (el_X1_orders (bk_A (σ 0 3)) h15)) mt_X5_set vr_X5_set wd1364 cls_X5 (el_X1_orders (bk_A (σ 0 3)) h15) rfl ⟨rfl, rfl, Nat.le_of_ble_eq_true rfl, Nat.le_of_ble_eq_true rfl⟩ rfl (by decide) dX12_addOrder_87 (kV (fun s16 => ?_))
                    refine x_aload_n C 1 dX12_addOrder_90 rfl rfl ?_
                    refine x_get (v := .ref (xqa (xXE X).2.2 (bkA (s16 0 3)))) C 3 cls_X12 at_X12 (by decide) wd678 rfl rfl dX12_addOrder_91 ?_
                    refine x_dup C dX12_addOrder_94 rfl ?_
                    refine x_get (v := iV (s16 (bkA (s16 0 3)) 13)) C 13 cls_X1 (at_X1 (bk_A (s16 0 3))) (by decide) wd492 rfl rfl dX12_addOrder_95 ?_
                    refine x_iconst C (1) dX12_addOrder_98 rfl ?_
                    refine x_iadd C dX12_addOrder_99 ?_
                    refine x_put C 13 ((s16 (bkA (s16 0 3)) 13) + 1) cls_X1 (at_X1 (bk_A (s16 0 3))) (by decide) wd492 rfl rfl rfl rfl (xV_pI rfl) dX12_addOrder_100 ?_
                    refine x_letS (fun s17 => ?_)
                    refine x_aload_n C 1 dX12_addOrder_103 rfl rfl ?_
                    refine x_iconst C (3) dX12_addOrder_104 rfl ?_
                    refine x_iload C 0 dX12_addOrder_105 rfl ?_
                    refine x_iconst C (0) dX12_addOrder_107 rfl ?_
                    refine x_callV C (ct_X12_recordChange _ _ 3 v14 0 s17) mt_X12_recordChange vr_X12_recordChange wd1335 cls_X12 at_X12 rfl ⟨rfl, rfl, Nat.le_of_ble_eq_true rfl, Nat.le_of_ble_eq_true rfl⟩ rfl (by decide) dX12_addOrder_108 (kV (fun s18 => ?_))
                    refine x_iload C 0 dX12_addOrder_111 rfl ?_
                    exact x_iretQ C (hQ _ _) rfl dX12_addOrder_113
                  · refine x_pick [] rfl ?_
                    exact hJ8 ()
        · refine x_pick [] rfl ?_
          exact hJ2 ()
theorem ct_X12_addOrder (l : Launch) (E : xE) (p1 : Int) (p2 : Int) (p3 : Int) (p4 : Int) (σ : xS)   : xMet l E yX12_addOrder cX12_addOrder 6 (some .int) { frames := 4, cells := 0, slots := 0, locals := 106 } [.ref (xqa E.2.2 0), iV p1, iV p2, iV p3, iV p4] WW WW σ (xrS (m_X12_addOrder p1 p2 p3 p4 σ)) := by
  refine xMet.of0 (by decide) (Nat.le_of_ble_eq_true rfl) rfl rfl (fun X hE C => ?_)
  subst hE
  exact xMap (fun q => (some (iV q.1), q.2)) (wk_X12_addOrder C (fun _ _ => rfl) )
theorem mt_X12_addOrder : xMth yX12_addOrder cX12_addOrder 6 (some .int) 4 := ⟨wd1363, wd151, ⟨by decide, by decide, rfl⟩⟩
theorem vr_X12_addOrder : xVir yX12_addOrder := ⟨wd1361, wd1362⟩
def m_X12_cancelOrder (p1 : Int) (σ : xS) : Option (Int × xS) :=
  (m_X1_hasOrder (bkA (σ 0 3)) p1 σ).bind fun v1 => if (zI v1) = 0 then some (0, σ) else xck (zI p1) 24 <| xlet (xput σ ((bkA (σ 0 3)) + 14 + (zI p1).toNat) 4 1) fun s4 => (m_X12_recordChange 4 p1 0 s4).bind fun s5 => some (1, s5)
set_option maxHeartbeats 4000000 in
set_option maxRecDepth 100000 in
theorem wk_X12_cancelOrder {X : xX} {Qf : (Int × xS) → State → Prop} {p1 : Int} {σ : xS} (C : xCx X cX12_cancelOrder "BakeryNight" (some .boolean) { frames := 4, cells := 0, slots := 0, locals := 106 } 2) (hQ : ∀ v τ, Qf (v, τ) = xQf X WW (some (iV v), τ))  : WO X Qf WW σ 0 [(0, .ref (xqa (xXE X).2.2 0)), (1, iV p1)] [] (m_X12_cancelOrder p1 σ) := by
  unfold m_X12_cancelOrder
  refine x_aload_n C 0 dX12_cancelOrder_0 rfl rfl ?_
  refine x_get (v := .ref (xqa (xXE X).2.2 (bkA (σ 0 3)))) C 3 cls_X12 at_X12 (by decide) wd678 rfl rfl dX12_cancelOrder_1 ?_
  refine x_iload_n C 1 dX12_cancelOrder_4 rfl rfl ?_
  refine x_callV C (ct_X1_hasOrder _ _ (bkA (σ 0 3)) p1 σ (bk_A (σ 0 3))) mt_X1_hasOrder vr_X1_hasOrder wd1199 cls_X1 (at_X1 (bk_A (σ 0 3))) rfl ⟨rfl, rfl, Nat.le_of_ble_eq_true rfl, Nat.le_of_ble_eq_true rfl⟩ rfl (by decide) dX12_cancelOrder_5 (kI (fun v1 => ?_))
  refine x_if_ne C 13 rfl dX12_cancelOrder_8 rfl (fun c2 => x_on c2 ?_) (fun c2 => x_op c2 ?_)
  · refine x_aload_n C 0 dX12_cancelOrder_13 rfl rfl ?_
    refine x_get (v := .ref (xqa (xXE X).2.2 (bkA (σ 0 3)))) C 3 cls_X12 at_X12 (by decide) wd678 rfl rfl dX12_cancelOrder_14 ?_
    refine x_get (v := .ref (xqa (xXE X).2.2 ((bkA (σ 0 3)) + 13))) C 12 cls_X1 (at_X1 (bk_A (σ 0 3))) (by decide) wd488 rfl (xV_r (rt_X1_orders (bk_A (σ 0 3)) _) rfl) dX12_cancelOrder_17 ?_
    refine x_iload_n C 1 dX12_cancelOrder_20 rfl rfl ?_
    refine x_aald C (at_X1_orders (bk_A (σ 0 3))) (by decide) rfl (fun h3 => rl_X1_orders (bk_A (σ 0 3)) _ h3) dX12_cancelOrder_21 (fun h3 => ?_)
    refine x_iconst C (1) dX12_cancelOrder_22 rfl ?_
    refine x_put C 4 1 cls_X5 (el_X1_orders (bk_A (σ 0 3)) h3) (by decide) wd359 rfl rfl (xnb (Or.inr rfl)) (xfb (Or.inr rfl)) (xV_pI rfl) dX12_cancelOrder_23 ?_
    refine x_letS (fun s4 => ?_)
    refine x_aload_n C 0 dX12_cancelOrder_26 rfl rfl ?_
    refine x_iconst C (4) dX12_cancelOrder_27 rfl ?_
    refine x_iload_n C 1 dX12_cancelOrder_28 rfl rfl ?_
    refine x_iconst C (0) dX12_cancelOrder_29 rfl ?_
    refine x_callV C (ct_X12_recordChange _ _ 4 p1 0 s4) mt_X12_recordChange vr_X12_recordChange wd1335 cls_X12 at_X12 rfl ⟨rfl, rfl, Nat.le_of_ble_eq_true rfl, Nat.le_of_ble_eq_true rfl⟩ rfl (by decide) dX12_cancelOrder_30 (kV (fun s5 => ?_))
    refine x_iconst C (1) dX12_cancelOrder_33 rfl ?_
    exact x_zretQ C (hQ _ _) rfl (Or.inr rfl) dX12_cancelOrder_34
  · refine x_iconst C (0) dX12_cancelOrder_11 rfl ?_
    exact x_zretQ C (hQ _ _) rfl (Or.inl rfl) dX12_cancelOrder_12
theorem ct_X12_cancelOrder (l : Launch) (E : xE) (p1 : Int) (σ : xS)   : xMet l E yX12_cancelOrder cX12_cancelOrder 2 (some .boolean) { frames := 4, cells := 0, slots := 0, locals := 106 } [.ref (xqa E.2.2 0), iV p1] WW WW σ (xrS (m_X12_cancelOrder p1 σ)) := by
  refine xMet.of0 (by decide) (Nat.le_of_ble_eq_true rfl) rfl rfl (fun X hE C => ?_)
  subst hE
  exact xMap (fun q => (some (iV q.1), q.2)) (wk_X12_cancelOrder C (fun _ _ => rfl) )
theorem mt_X12_cancelOrder : xMth yX12_cancelOrder cX12_cancelOrder 2 (some .boolean) 1 := ⟨wd1368, wd151, ⟨by decide, by decide, rfl⟩⟩
theorem vr_X12_cancelOrder : xVir yX12_cancelOrder := ⟨wd1366, wd1367⟩
def m_X12_moveOrder (p1 : Int) (p2 : Int) (σ : xS) : Option (Int × xS) :=
  (m_X1_hasOrder (bkA (σ 0 3)) p1 σ).bind fun v1 => xj (fun (q5 : Unit) => some ((-1), σ)) fun J3 => if (zI v1) = 0 then J3 () else if (zI p2) < 0 then J3 () else if (zI p2) ≤ 1439 then xck (zI p1) 24 <| xlet (σ ((bkA (σ 0 3)) + 14 + (zI p1).toNat) 3) fun v10 => xck (zI p1) 24 <| xlet (xput σ ((bkA (σ 0 3)) + 14 + (zI p1).toNat) 3 p2) fun s12 => (m_X12_recordChange 5 p1 v10 s12).bind fun s13 => some (v10, s13) else J3 ()
set_option maxHeartbeats 4000000 in
set_option maxRecDepth 100000 in
theorem wk_X12_moveOrder {X : xX} {Qf : (Int × xS) → State → Prop} {p1 : Int} {p2 : Int} {σ : xS} (C : xCx X cX12_moveOrder "BakeryNight" (some .int) { frames := 4, cells := 0, slots := 0, locals := 106 } 4) (hQ : ∀ v τ, Qf (v, τ) = xQf X WW (some (iV v), τ))  : WO X Qf WW σ 0 [(0, .ref (xqa (xXE X).2.2 0)), (1, iV p1), (2, iV p2)] [] (m_X12_moveOrder p1 p2 σ) := by
  unfold m_X12_moveOrder
  refine x_aload_n C 0 dX12_moveOrder_0 rfl rfl ?_
  refine x_get (v := .ref (xqa (xXE X).2.2 (bkA (σ 0 3)))) C 3 cls_X12 at_X12 (by decide) wd678 rfl rfl dX12_moveOrder_1 ?_
  refine x_iload_n C 1 dX12_moveOrder_4 rfl rfl ?_
  refine x_callV C (ct_X1_hasOrder _ _ (bkA (σ 0 3)) p1 σ (bk_A (σ 0 3))) mt_X1_hasOrder vr_X1_hasOrder wd1199 cls_X1 (at_X1 (bk_A (σ 0 3))) rfl ⟨rfl, rfl, Nat.le_of_ble_eq_true rfl, Nat.le_of_ble_eq_true rfl⟩ rfl (by decide) dX12_moveOrder_5 (kI (fun v1 => ?_))
  refine x_join (fun J => ∀ q5 : Unit, WO X Qf WW σ 22 [] [] (J q5)) ?_ ?_
  · intro q5
    refine x_iconst C (-1) dX12_moveOrder_22 rfl ?_
    exact x_iretQ C (hQ _ _) rfl dX12_moveOrder_23
  · intro J3 hJ4
    refine x_if_eq C 22 rfl dX12_moveOrder_8 rfl (fun c6 => x_op c6 ?_) (fun c6 => x_on c6 ?_)
    · refine x_pick [] rfl ?_
      exact hJ4 ()
    · refine x_iload_n C 2 dX12_moveOrder_11 rfl rfl ?_
      refine x_if_lt C 22 rfl dX12_moveOrder_12 rfl (fun c7 => x_op c7 ?_) (fun c7 => x_on c7 ?_)
      · refine x_pick [] rfl ?_
        exact hJ4 ()
      · refine x_iload_n C 2 dX12_moveOrder_15 rfl rfl ?_
        refine x_sipush C (1439) dX12_moveOrder_16 rfl ?_
        refine x_icmp_le C 24 rfl (zIl _ rfl) dX12_moveOrder_19 rfl (fun c8 => x_op c8 ?_) (fun c8 => x_on c8 ?_)
        · refine x_aload_n C 0 dX12_moveOrder_24 rfl rfl ?_
          refine x_get (v := .ref (xqa (xXE X).2.2 (bkA (σ 0 3)))) C 3 cls_X12 at_X12 (by decide) wd678 rfl rfl dX12_moveOrder_25 ?_
          refine x_get (v := .ref (xqa (xXE X).2.2 ((bkA (σ 0 3)) + 13))) C 12 cls_X1 (at_X1 (bk_A (σ 0 3))) (by decide) wd488 rfl (xV_r (rt_X1_orders (bk_A (σ 0 3)) _) rfl) dX12_moveOrder_28 ?_
          refine x_iload_n C 1 dX12_moveOrder_31 rfl rfl ?_
          refine x_aald C (at_X1_orders (bk_A (σ 0 3))) (by decide) rfl (fun h9 => rl_X1_orders (bk_A (σ 0 3)) _ h9) dX12_moveOrder_32 (fun h9 => ?_)
          refine x_get (v := iV (σ ((bkA (σ 0 3)) + 14 + (zI p1).toNat) 3)) C 3 cls_X5 (el_X1_orders (bk_A (σ 0 3)) h9) (by decide) wd355 rfl rfl dX12_moveOrder_33 ?_
          refine x_letI (fun v10 => ?_)
          refine x_istore_n (L' := [(3, _), (0, _), (1, _), (2, _)]) C dX12_moveOrder_36 rfl (by decide) rfl ?_
          refine x_aload_n C 1 dX12_moveOrder_37 rfl rfl ?_
          refine x_get (v := .ref (xqa (xXE X).2.2 (bkA (σ 0 3)))) C 3 cls_X12 at_X12 (by decide) wd678 rfl rfl dX12_moveOrder_38 ?_
          refine x_get (v := .ref (xqa (xXE X).2.2 ((bkA (σ 0 3)) + 13))) C 12 cls_X1 (at_X1 (bk_A (σ 0 3))) (by decide) wd488 rfl (xV_r (rt_X1_orders (bk_A (σ 0 3)) _) rfl) dX12_moveOrder_41 ?_
          refine x_iload_n C 2 dX12_moveOrder_44 rfl rfl ?_
          refine x_aald C (at_X1_orders (bk_A (σ 0 3))) (by decide) rfl (fun h11 => rl_X1_orders (bk_A (σ 0 3)) _ h11) dX12_moveOrder_45 (fun h11 => ?_)
          refine x_iload_n C 3 dX12_moveOrder_46 rfl rfl ?_
          refine x_put C 3 p2 cls_X5 (el_X1_orders (bk_A (σ 0 3)) h11) (by decide) wd355 rfl rfl rfl rfl (xV_pI rfl) dX12_moveOrder_47 ?_
          refine x_letS (fun s12 => ?_)
          refine x_aload_n C 1 dX12_moveOrder_50 rfl rfl ?_
          refine x_iconst C (5) dX12_moveOrder_51 rfl ?_
          refine x_iload_n C 2 dX12_moveOrder_52 rfl rfl ?_
          refine x_iload_n C 0 dX12_moveOrder_53 rfl rfl ?_
          refine x_callV C (ct_X12_recordChange _ _ 5 p1 v10 s12) mt_X12_recordChange vr_X12_recordChange wd1335 cls_X12 at_X12 rfl ⟨rfl, rfl, Nat.le_of_ble_eq_true rfl, Nat.le_of_ble_eq_true rfl⟩ rfl (by decide) dX12_moveOrder_54 (kV (fun s13 => ?_))
          refine x_iload_n C 0 dX12_moveOrder_57 rfl rfl ?_
          exact x_iretQ C (hQ _ _) rfl dX12_moveOrder_58
        · refine x_pick [] rfl ?_
          exact hJ4 ()
theorem ct_X12_moveOrder (l : Launch) (E : xE) (p1 : Int) (p2 : Int) (σ : xS)   : xMet l E yX12_moveOrder cX12_moveOrder 4 (some .int) { frames := 4, cells := 0, slots := 0, locals := 106 } [.ref (xqa E.2.2 0), iV p1, iV p2] WW WW σ (xrS (m_X12_moveOrder p1 p2 σ)) := by
  refine xMet.of0 (by decide) (Nat.le_of_ble_eq_true rfl) rfl rfl (fun X hE C => ?_)
  subst hE
  exact xMap (fun q => (some (iV q.1), q.2)) (wk_X12_moveOrder C (fun _ _ => rfl) )
theorem mt_X12_moveOrder : xMth yX12_moveOrder cX12_moveOrder 4 (some .int) 2 := ⟨wd1372, wd151, ⟨by decide, by decide, rfl⟩⟩
theorem vr_X12_moveOrder : xVir yX12_moveOrder := ⟨wd1370, wd1371⟩
def m_X12_undo (n : Nat) (σ : xS) : Option (Int × xS) :=
  if (zI (σ 114 3)) = 0 then some ((-1), σ) else (m_X3_takeBack n (bkA (σ 0 3)) σ).bind fun s2 => (m_X12_dropNight s2).bind fun s3 => some (s3 114 3, s3)
set_option maxHeartbeats 4000000 in
set_option maxRecDepth 100000 in
theorem wk_X12_undo {X : xX} {Qf : (Int × xS) → State → Prop} {n : Nat} {σ : xS} (C : xCx X cX12_undo "BakeryNight" (some .int) { frames := 5, cells := 0, slots := 0, locals := 116 } 1) (hQ : ∀ v τ, Qf (v, τ) = xQf X WW (some (iV v), τ))  : WO X Qf WW σ 0 [(0, .ref (xqa (xXE X).2.2 0))] [] (m_X12_undo n σ) := by
  unfold m_X12_undo
  refine x_aload_n C 0 dX12_undo_0 rfl rfl ?_
  refine x_get (v := .ref (xqa (xXE X).2.2 114)) C 5 cls_X12 at_X12 (by decide) wd680 rfl (xV_r (rt_X12_history  _) rfl) dX12_undo_1 ?_
  refine x_get (v := iV (σ 114 3)) C 3 cls_X3 at_X3 (by decide) wd534 rfl rfl dX12_undo_4 ?_
  refine x_if_ne C 12 rfl dX12_undo_7 rfl (fun c1 => x_on c1 ?_) (fun c1 => x_op c1 ?_)
  · refine x_aload_n C 0 dX12_undo_12 rfl rfl ?_
    refine x_get (v := .ref (xqa (xXE X).2.2 114)) C 5 cls_X12 at_X12 (by decide) wd680 rfl (xV_r (rt_X12_history  _) rfl) dX12_undo_13 ?_
    refine x_aload_n C 0 dX12_undo_16 rfl rfl ?_
    refine x_get (v := .ref (xqa (xXE X).2.2 (bkA (σ 0 3)))) C 3 cls_X12 at_X12 (by decide) wd678 rfl rfl dX12_undo_17 ?_
    refine x_callV C (ct_X3_takeBack _ _ n (bkA (σ 0 3)) σ (bk_A (σ 0 3))) mt_X3_takeBack vr_X3_takeBack wd1377 cls_X3 at_X3 rfl ⟨rfl, rfl, Nat.le_of_ble_eq_true rfl, Nat.le_of_ble_eq_true rfl⟩ rfl (by decide) dX12_undo_20 (kV (fun s2 => ?_))
    refine x_aload_n C 0 dX12_undo_23 rfl rfl ?_
    refine x_callV C (ct_X12_dropNight _ _ s2) mt_X12_dropNight vr_X12_dropNight wd936 cls_X12 at_X12 rfl ⟨rfl, rfl, Nat.le_of_ble_eq_true rfl, Nat.le_of_ble_eq_true rfl⟩ rfl (by decide) dX12_undo_24 (kV (fun s3 => ?_))
    refine x_aload_n C 0 dX12_undo_27 rfl rfl ?_
    refine x_get (v := .ref (xqa (xXE X).2.2 114)) C 5 cls_X12 at_X12 (by decide) wd680 rfl (xV_r (rt_X12_history  _) rfl) dX12_undo_28 ?_
    refine x_get (v := iV (s3 114 3)) C 3 cls_X3 at_X3 (by decide) wd534 rfl rfl dX12_undo_31 ?_
    exact x_iretQ C (hQ _ _) rfl dX12_undo_34
  · refine x_iconst C (-1) dX12_undo_10 rfl ?_
    exact x_iretQ C (hQ _ _) rfl dX12_undo_11
theorem ct_X12_undo (l : Launch) (E : xE) (n : Nat) (σ : xS)   : xMet l E yX12_undo cX12_undo 1 (some .int) { frames := 5, cells := 0, slots := 0, locals := 116 } [.ref (xqa E.2.2 0)] WW WW σ (xrS (m_X12_undo n σ)) := by
  refine xMet.of0 (by decide) (Nat.le_of_ble_eq_true rfl) rfl rfl (fun X hE C => ?_)
  subst hE
  exact xMap (fun q => (some (iV q.1), q.2)) (wk_X12_undo C (fun _ _ => rfl) )
theorem mt_X12_undo : xMth yX12_undo cX12_undo 1 (some .int) 0 := ⟨wd1376, wd151, ⟨by decide, by decide, rfl⟩⟩
theorem vr_X12_undo : xVir yX12_undo := ⟨wd1374, wd1375⟩
def m_X13_empties (n : Nat) (k1 : Nat) (σ : xS) : Option xS :=
  loopF (fun rec2 (t1 : Int × xS) => if 289 ≤ (zI t1.1) then xck 0 289 <| xlet (xput t1.2 k1 (0 : Int).toNat 24) fun s5 => xck 1 289 <| xlet (xput s5 k1 (1 : Int).toNat 30) fun s6 => xck 2 289 <| xlet (xput s6 k1 (2 : Int).toNat 1) fun s7 => xck 3 289 <| xlet (xput s7 k1 (3 : Int).toNat 1) fun s8 => some s8 else xck (zI t1.1) 289 <| xlet (xput t1.2 k1 (zI t1.1).toNat 0) fun s9 => xlet (t1.1 + 1) fun v10 => rec2 (v10, s9)) n (0, σ)
set_option maxHeartbeats 4000000 in
set_option maxRecDepth 100000 in
theorem wk_X13_empties {X : xX} {Qf : xS → State → Prop} {n : Nat} {k1 : Nat} {σ : xS} (C : xCx X cX13_empties "BakeryNightModel" none { frames := 0, cells := 0, slots := 0, locals := 0 } 3) (hQ : ∀ τ, Qf τ = xQf X WW (none, τ)) (hk1 : xAt WW k1 0 289) : WO X Qf WW σ 0 [(0, .ref (xqa (xXE X).2.2 184)), (1, .ref (xqa (xXE X).2.2 k1))] [] (m_X13_empties n k1 σ) := by
  unfold m_X13_empties
  refine x_iconst C (0) dX13_empties_0 rfl ?_
  refine x_istore_n (L' := [(2, _), (0, _), (1, _)]) C dX13_empties_1 rfl (by decide) rfl ?_
  refine x_pick [2, 0] rfl ?_
  refine x_loop (fun t1 : Int × xS => t1.2) (fun t1 : Int × xS => [(1, .ref (xqa (xXE X).2.2 k1)), (2, iV t1.1)]) (fun rec2 hr3 t1 => ?_) n (0, σ)
  refine x_iload_n C 1 dX13_empties_2 rfl rfl ?_
  refine x_sipush C (289) dX13_empties_3 rfl ?_
  refine x_icmp_ge C 19 rfl (zIl _ rfl) dX13_empties_6 rfl (fun c4 => x_op c4 ?_) (fun c4 => x_on c4 ?_)
  · refine x_aload_n C 0 dX13_empties_19 rfl rfl ?_
    refine x_iconst C (0) dX13_empties_20 rfl ?_
    refine x_bipush C (24) dX13_empties_21 rfl ?_
    refine x_iast C hk1 (zIl _ rfl) dX13_empties_23 (fun _ => ?_)
    refine x_letS (fun s5 => ?_)
    refine x_aload_n C 0 dX13_empties_24 rfl rfl ?_
    refine x_iconst C (1) dX13_empties_25 rfl ?_
    refine x_bipush C (30) dX13_empties_26 rfl ?_
    refine x_iast C hk1 (zIl _ rfl) dX13_empties_28 (fun _ => ?_)
    refine x_letS (fun s6 => ?_)
    refine x_aload_n C 0 dX13_empties_29 rfl rfl ?_
    refine x_iconst C (2) dX13_empties_30 rfl ?_
    refine x_iconst C (1) dX13_empties_31 rfl ?_
    refine x_iast C hk1 (zIl _ rfl) dX13_empties_32 (fun _ => ?_)
    refine x_letS (fun s7 => ?_)
    refine x_aload_n C 0 dX13_empties_33 rfl rfl ?_
    refine x_iconst C (3) dX13_empties_34 rfl ?_
    refine x_iconst C (1) dX13_empties_35 rfl ?_
    refine x_iast C hk1 (zIl _ rfl) dX13_empties_36 (fun _ => ?_)
    refine x_letS (fun s8 => ?_)
    exact x_vretQ C (hQ _) rfl dX13_empties_37
  · refine x_aload_n C 0 dX13_empties_9 rfl rfl ?_
    refine x_iload_n C 1 dX13_empties_10 rfl rfl ?_
    refine x_iconst C (0) dX13_empties_11 rfl ?_
    refine x_iast C hk1 rfl dX13_empties_12 (fun _ => ?_)
    refine x_letS (fun s9 => ?_)
    refine x_inc C 1 (f := _) dX13_empties_13 rfl (by decide) (1) rfl (fun v10 => ?_)
    refine x_reL (L' := [(2, _), (1, _)]) rfl ?_
    refine x_goto C 2 dX13_empties_16 rfl ?_
    refine x_pick [1, 0] rfl ?_
    exact hr3 (v10, s9)
theorem ct_X13_empties (l : Launch) (E : xE) (n : Nat) (k1 : Nat) (σ : xS) (hk1 : xAt WW k1 0 289)  : xMet l E yX13_empties cX13_empties 3 none { frames := 0, cells := 0, slots := 0, locals := 0 } [.ref (xqa E.2.2 184), .ref (xqa E.2.2 k1)] WW WW σ (xrV (m_X13_empties n k1 σ)) := by
  refine xMet.of0 (by decide) (Nat.le_of_ble_eq_true rfl) rfl rfl (fun X hE C => ?_)
  subst hE
  exact xMap (fun q => (none, q)) (wk_X13_empties C (fun _ => rfl) hk1)
theorem mt_X13_empties : xMth yX13_empties cX13_empties 3 none 1 := ⟨wd1501, wd164, ⟨by decide, by decide, rfl⟩⟩
theorem vr_X13_empties : xVir yX13_empties := ⟨wd1500, wd49⟩
def m_X13_thrown (σ : xS) : Int := σ 184 7
set_option maxHeartbeats 4000000 in
set_option maxRecDepth 100000 in
theorem wk_X13_thrown {X : xX} {Qf : Int → State → Prop} {σ : xS} (C : xCx X cX13_thrown "BakeryNightModel" (some .int) { frames := 0, cells := 0, slots := 0, locals := 0 } 1) (hQ : ∀ v, Qf v = xQf X WW (some (iV v), σ))  : WO X Qf WW σ 0 [(0, .ref (xqa (xXE X).2.2 184))] [] (some (m_X13_thrown σ)) := by
  refine x_aload_n C 0 dX13_thrown_0 rfl rfl ?_
  refine x_get (v := iV (σ 184 7)) C 7 cls_X13 at_X13 (by decide) wd1509 rfl rfl dX13_thrown_1 ?_
  exact x_leafR rfl (x_iretQ C (hQ _) rfl dX13_thrown_4)
theorem ct_X13_thrown (l : Launch) (E : xE) (σ : xS)   : xMet l E yX13_thrown cX13_thrown 1 (some .int) { frames := 0, cells := 0, slots := 0, locals := 0 } [.ref (xqa E.2.2 184)] WW WW σ (some (some (iV (m_X13_thrown σ)), σ)) := by
  refine xMet.of0 (by decide) (Nat.le_of_ble_eq_true rfl) rfl rfl (fun X hE C => ?_)
  subst hE
  exact xMap (fun v => (some (iV v), σ)) (wk_X13_thrown C (fun _ => rfl) )
theorem mt_X13_thrown : xMth yX13_thrown cX13_thrown 1 (some .int) 0 := ⟨wd1671, wd164, ⟨by decide, by decide, rfl⟩⟩
theorem vr_X13_thrown : xVir yX13_thrown := ⟨wd1669, wd1670⟩
def m_X13_fails (p1 : Int) (σ : xS) : Option (Int × xS) :=
  xlet (xput σ 184 7 p1) fun s1 => some (0, s1)
set_option maxHeartbeats 4000000 in
set_option maxRecDepth 100000 in
theorem wk_X13_fails {X : xX} {Qf : (Int × xS) → State → Prop} {p1 : Int} {σ : xS} (C : xCx X cX13_fails "BakeryNightModel" (some .int) { frames := 0, cells := 0, slots := 0, locals := 0 } 2) (hQ : ∀ v τ, Qf (v, τ) = xQf X WW (some (iV v), τ))  : WO X Qf WW σ 0 [(0, .ref (xqa (xXE X).2.2 184)), (1, iV p1)] [] (m_X13_fails p1 σ) := by
  unfold m_X13_fails
  refine x_aload_n C 0 dX13_fails_0 rfl rfl ?_
  refine x_iload_n C 1 dX13_fails_1 rfl rfl ?_
  refine x_put C 7 p1 cls_X13 at_X13 (by decide) wd1509 rfl rfl rfl rfl (xV_pI rfl) dX13_fails_2 ?_
  refine x_letS (fun s1 => ?_)
  refine x_iconst C (0) dX13_fails_5 rfl ?_
  exact x_iretQ C (hQ _ _) rfl dX13_fails_6
theorem ct_X13_fails (l : Launch) (E : xE) (p1 : Int) (σ : xS)   : xMet l E yX13_fails cX13_fails 2 (some .int) { frames := 0, cells := 0, slots := 0, locals := 0 } [.ref (xqa E.2.2 184), iV p1] WW WW σ (xrS (m_X13_fails p1 σ)) := by
  refine xMet.of0 (by decide) (Nat.le_of_ble_eq_true rfl) rfl rfl (fun X hE C => ?_)
  subst hE
  exact xMap (fun q => (some (iV q.1), q.2)) (wk_X13_fails C (fun _ _ => rfl) )
theorem mt_X13_fails : xMth yX13_fails cX13_fails 2 (some .int) 1 := ⟨wd2017, wd164, ⟨by decide, by decide, rfl⟩⟩
theorem vr_X13_fails : xVir yX13_fails := ⟨wd2016, wd115⟩
def m_X13_isIn (p1 : Int) (p2 : Int) (p3 : Int) : Int := if (zI (zcmp p1 p2)) < 0 then 0 else if 0 < (zI (zcmp p1 p3)) then 0 else 1
set_option maxHeartbeats 4000000 in
set_option maxRecDepth 100000 in
theorem wk_X13_isIn {X : xX} {Qf : Int → State → Prop} {p1 : Int} {p2 : Int} {p3 : Int} {σ : xS} (C : xCx X cX13_isIn "BakeryNightModel" (some .boolean) { frames := 0, cells := 0, slots := 0, locals := 0 } 7) (hQ : ∀ v, Qf v = xQf X WW (some (iV v), σ))  : WO X Qf WW σ 0 [(0, .ref (xqa (xXE X).2.2 184)), (1, jV p1), (3, jV p2), (5, jV p3)] [] (some (m_X13_isIn p1 p2 p3)) := by
  refine x_lload_n C 1 dX13_isIn_0 rfl rfl ?_
  refine x_lload_n C 2 dX13_isIn_1 rfl rfl ?_
  refine x_lcmp C dX13_isIn_2 ?_
  refine x_if_lt C 17 rfl dX13_isIn_3 rfl (fun c1 => ?_) (fun c1 => ?_)
  · refine x_iconst C (0) dX13_isIn_17 rfl ?_
    exact x_leafR (by unfold m_X13_isIn; rw [if_pos c1]) (x_zretQ C (hQ _) rfl (Or.inl rfl) dX13_isIn_18)
  · refine x_lload_n C 1 dX13_isIn_6 rfl rfl ?_
    refine x_lload C 3 dX13_isIn_7 rfl ?_
    refine x_lcmp C dX13_isIn_9 ?_
    refine x_if_gt C 17 rfl dX13_isIn_10 rfl (fun c2 => ?_) (fun c2 => ?_)
    · refine x_iconst C (0) dX13_isIn_17 rfl ?_
      exact x_leafR (by unfold m_X13_isIn; rw [if_neg c1, if_pos c2]) (x_zretQ C (hQ _) rfl (Or.inl rfl) dX13_isIn_18)
    · refine x_iconst C (1) dX13_isIn_13 rfl ?_
      refine x_goto C 18 dX13_isIn_14 rfl ?_
      exact x_leafR (by unfold m_X13_isIn; rw [if_neg c1, if_neg c2]) (x_zretQ C (hQ _) rfl (Or.inr rfl) dX13_isIn_18)
theorem bo_X13_isIn (p1 : Int) (p2 : Int) (p3 : Int) : m_X13_isIn p1 p2 p3 = 0 ∨ m_X13_isIn p1 p2 p3 = 1 := by
  unfold m_X13_isIn
  repeat' split
  all_goals first | exact Or.inl rfl | exact Or.inr rfl
theorem ct_X13_isIn (l : Launch) (E : xE) (p1 : Int) (p2 : Int) (p3 : Int)  (σ : xS) : xMet l E yX13_isIn cX13_isIn 7 (some .boolean) { frames := 0, cells := 0, slots := 0, locals := 0 } [.ref (xqa E.2.2 184), jV p1, jV p2, jV p3] WW WW σ (some (some (iV (m_X13_isIn p1 p2 p3)), σ)) := by
  refine xMet.of0 (by decide) (Nat.le_of_ble_eq_true rfl) rfl rfl (fun X hE C => ?_)
  subst hE
  exact xMap (fun v => (some (iV v), σ)) (wk_X13_isIn C (fun _ => rfl) )
theorem mt_X13_isIn : xMth yX13_isIn cX13_isIn 7 (some .boolean) 3 := ⟨wd1683, wd164, ⟨by decide, by decide, rfl⟩⟩
theorem vr_X13_isIn : xVir yX13_isIn := ⟨wd1682, wd50⟩
def m_X13_has (p1 : Int) (p2 : Int) : Int := if (zI (zand (zshr p1 p2) 1)) = 1 then 1 else 0
set_option maxHeartbeats 4000000 in
set_option maxRecDepth 100000 in
theorem wk_X13_has {X : xX} {Qf : Int → State → Prop} {p1 : Int} {p2 : Int} {σ : xS} (C : xCx X cX13_has "BakeryNightModel" (some .boolean) { frames := 0, cells := 0, slots := 0, locals := 0 } 3) (hQ : ∀ v, Qf v = xQf X WW (some (iV v), σ))  : WO X Qf WW σ 0 [(0, .ref (xqa (xXE X).2.2 184)), (1, iV p1), (2, iV p2)] [] (some (m_X13_has p1 p2)) := by
  refine x_iload_n C 1 dX13_has_0 rfl rfl ?_
  refine x_iload_n C 2 dX13_has_1 rfl rfl ?_
  refine x_ishr C dX13_has_2 ?_
  refine x_iconst C (1) dX13_has_3 rfl ?_
  refine x_iand C dX13_has_4 ?_
  refine x_iconst C (1) dX13_has_5 rfl ?_
  refine x_icmp_ne C 13 rfl (zIl _ rfl) dX13_has_6 rfl (fun c1 => ?_) (fun c1 => ?_)
  · refine x_iconst C (0) dX13_has_13 rfl ?_
    exact x_leafR (by unfold m_X13_has; rw [if_neg c1]) (x_zretQ C (hQ _) rfl (Or.inl rfl) dX13_has_14)
  · refine x_iconst C (1) dX13_has_9 rfl ?_
    refine x_goto C 14 dX13_has_10 rfl ?_
    exact x_leafR (by unfold m_X13_has; rw [if_pos c1]) (x_zretQ C (hQ _) rfl (Or.inr rfl) dX13_has_14)
theorem bo_X13_has (p1 : Int) (p2 : Int) : m_X13_has p1 p2 = 0 ∨ m_X13_has p1 p2 = 1 := by
  unfold m_X13_has
  repeat' split
  all_goals first | exact Or.inl rfl | exact Or.inr rfl
theorem ct_X13_has (l : Launch) (E : xE) (p1 : Int) (p2 : Int)  (σ : xS) : xMet l E yX13_has cX13_has 3 (some .boolean) { frames := 0, cells := 0, slots := 0, locals := 0 } [.ref (xqa E.2.2 184), iV p1, iV p2] WW WW σ (some (some (iV (m_X13_has p1 p2)), σ)) := by
  refine xMet.of0 (by decide) (Nat.le_of_ble_eq_true rfl) rfl rfl (fun X hE C => ?_)
  subst hE
  exact xMap (fun v => (some (iV v), σ)) (wk_X13_has C (fun _ => rfl) )
theorem mt_X13_has : xMth yX13_has cX13_has 3 (some .boolean) 2 := ⟨wd1749, wd164, ⟨by decide, by decide, rfl⟩⟩
theorem vr_X13_has : xVir yX13_has := ⟨wd1748, wd62⟩
def m_X13_greater (p1 : Int) (p2 : Int) : Int := if (zI p1) ≤ (zI p2) then p2 else p1
set_option maxHeartbeats 4000000 in
set_option maxRecDepth 100000 in
theorem wk_X13_greater {X : xX} {Qf : Int → State → Prop} {p1 : Int} {p2 : Int} {σ : xS} (C : xCx X cX13_greater "BakeryNightModel" (some .int) { frames := 0, cells := 0, slots := 0, locals := 0 } 3) (hQ : ∀ v, Qf v = xQf X WW (some (iV v), σ))  : WO X Qf WW σ 0 [(0, .ref (xqa (xXE X).2.2 184)), (1, iV p1), (2, iV p2)] [] (some (m_X13_greater p1 p2)) := by
  refine x_iload_n C 1 dX13_greater_0 rfl rfl ?_
  refine x_iload_n C 2 dX13_greater_1 rfl rfl ?_
  refine x_icmp_le C 9 rfl rfl dX13_greater_2 rfl (fun c1 => ?_) (fun c1 => ?_)
  · refine x_iload_n C 2 dX13_greater_9 rfl rfl ?_
    exact x_leafR (by unfold m_X13_greater; rw [if_pos c1]) (x_iretQ C (hQ _) rfl dX13_greater_10)
  · refine x_iload_n C 1 dX13_greater_5 rfl rfl ?_
    refine x_goto C 10 dX13_greater_6 rfl ?_
    exact x_leafR (by unfold m_X13_greater; rw [if_neg c1]) (x_iretQ C (hQ _) rfl dX13_greater_10)
theorem ct_X13_greater (l : Launch) (E : xE) (p1 : Int) (p2 : Int)  (σ : xS) : xMet l E yX13_greater cX13_greater 3 (some .int) { frames := 0, cells := 0, slots := 0, locals := 0 } [.ref (xqa E.2.2 184), iV p1, iV p2] WW WW σ (some (some (iV (m_X13_greater p1 p2)), σ)) := by
  refine xMet.of0 (by decide) (Nat.le_of_ble_eq_true rfl) rfl rfl (fun X hE C => ?_)
  subst hE
  exact xMap (fun v => (some (iV v), σ)) (wk_X13_greater C (fun _ => rfl) )
theorem mt_X13_greater : xMth yX13_greater cX13_greater 3 (some .int) 2 := ⟨wd1838, wd164, ⟨by decide, by decide, rfl⟩⟩
theorem vr_X13_greater : xVir yX13_greater := ⟨wd1837, wd80⟩
def m_X13_lesser (p1 : Int) (p2 : Int) : Int := if (zI p2) ≤ (zI p1) then p2 else p1
set_option maxHeartbeats 4000000 in
set_option maxRecDepth 100000 in
theorem wk_X13_lesser {X : xX} {Qf : Int → State → Prop} {p1 : Int} {p2 : Int} {σ : xS} (C : xCx X cX13_lesser "BakeryNightModel" (some .int) { frames := 0, cells := 0, slots := 0, locals := 0 } 3) (hQ : ∀ v, Qf v = xQf X WW (some (iV v), σ))  : WO X Qf WW σ 0 [(0, .ref (xqa (xXE X).2.2 184)), (1, iV p1), (2, iV p2)] [] (some (m_X13_lesser p1 p2)) := by
  refine x_iload_n C 1 dX13_lesser_0 rfl rfl ?_
  refine x_iload_n C 2 dX13_lesser_1 rfl rfl ?_
  refine x_icmp_ge C 9 rfl rfl dX13_lesser_2 rfl (fun c1 => ?_) (fun c1 => ?_)
  · refine x_iload_n C 2 dX13_lesser_9 rfl rfl ?_
    exact x_leafR (by unfold m_X13_lesser; rw [if_pos c1]) (x_iretQ C (hQ _) rfl dX13_lesser_10)
  · refine x_iload_n C 1 dX13_lesser_5 rfl rfl ?_
    refine x_goto C 10 dX13_lesser_6 rfl ?_
    exact x_leafR (by unfold m_X13_lesser; rw [if_neg c1]) (x_iretQ C (hQ _) rfl dX13_lesser_10)
theorem ct_X13_lesser (l : Launch) (E : xE) (p1 : Int) (p2 : Int)  (σ : xS) : xMet l E yX13_lesser cX13_lesser 3 (some .int) { frames := 0, cells := 0, slots := 0, locals := 0 } [.ref (xqa E.2.2 184), iV p1, iV p2] WW WW σ (some (some (iV (m_X13_lesser p1 p2)), σ)) := by
  refine xMet.of0 (by decide) (Nat.le_of_ble_eq_true rfl) rfl rfl (fun X hE C => ?_)
  subst hE
  exact xMap (fun v => (some (iV v), σ)) (wk_X13_lesser C (fun _ => rfl) )
theorem mt_X13_lesser : xMth yX13_lesser cX13_lesser 3 (some .int) 2 := ⟨wd1936, wd164, ⟨by decide, by decide, rfl⟩⟩
theorem vr_X13_lesser : xVir yX13_lesser := ⟨wd1935, wd97⟩
def m_X13_up (p1 : Int) (p2 : Int) (σ : xS) : Option Int :=
  xnz (zI p2) <| some ((zI ((p1 + p2) - 1)).tdiv (zI p2))
set_option maxHeartbeats 4000000 in
set_option maxRecDepth 100000 in
theorem wk_X13_up {X : xX} {Qf : Int → State → Prop} {p1 : Int} {p2 : Int} {σ : xS} (C : xCx X cX13_up "BakeryNightModel" (some .int) { frames := 0, cells := 0, slots := 0, locals := 0 } 3) (hQ : ∀ v, Qf v = xQf X WW (some (iV v), σ))  : WO X Qf WW σ 0 [(0, .ref (xqa (xXE X).2.2 184)), (1, iV p1), (2, iV p2)] [] (m_X13_up p1 p2 σ) := by
  unfold m_X13_up
  refine x_iload_n C 1 dX13_up_0 rfl rfl ?_
  refine x_iload_n C 2 dX13_up_1 rfl rfl ?_
  refine x_iadd C dX13_up_2 ?_
  refine x_iconst C (1) dX13_up_3 rfl ?_
  refine x_isub C dX13_up_4 ?_
  refine x_iload_n C 2 dX13_up_5 rfl rfl ?_
  refine x_idiv C dX13_up_6 ?_
  exact x_iretQ C (hQ _) rfl dX13_up_7
theorem ct_X13_up (l : Launch) (E : xE) (p1 : Int) (p2 : Int) (σ : xS)   : xMet l E yX13_up cX13_up 3 (some .int) { frames := 0, cells := 0, slots := 0, locals := 0 } [.ref (xqa E.2.2 184), iV p1, iV p2] WW WW σ (xrI (m_X13_up p1 p2 σ) σ) := by
  refine xMet.of0 (by decide) (Nat.le_of_ble_eq_true rfl) rfl rfl (fun X hE C => ?_)
  subst hE
  exact xMap (fun v => (some (iV v), σ)) (wk_X13_up C (fun _ => rfl) )
theorem mt_X13_up : xMth yX13_up cX13_up 3 (some .int) 2 := ⟨wd1902, wd164, ⟨by decide, by decide, rfl⟩⟩
theorem vr_X13_up : xVir yX13_up := ⟨wd1901, wd91⟩
def m_X13_copies (n : Nat) (k1 : Nat) (k2 : Nat) (σ : xS) : Option xS :=
  loopF (fun rec2 (t1 : Int × xS) => if 289 ≤ (zI t1.1) then some t1.2 else xck (zI t1.1) 289 <| xck (zI t1.1) 289 <| xlet (xput t1.2 k2 (zI t1.1).toNat (t1.2 k1 (zI t1.1).toNat)) fun s5 => xlet (t1.1 + 1) fun v6 => rec2 (v6, s5)) n (0, σ)
set_option maxHeartbeats 4000000 in
set_option maxRecDepth 100000 in
theorem wk_X13_copies {X : xX} {Qf : xS → State → Prop} {n : Nat} {k1 : Nat} {k2 : Nat} {σ : xS} (C : xCx X cX13_copies "BakeryNightModel" none { frames := 0, cells := 0, slots := 0, locals := 0 } 4) (hQ : ∀ τ, Qf τ = xQf X WW (none, τ)) (hk1 : xAt WW k1 0 289) (hk2 : xAt WW k2 0 289) : WO X Qf WW σ 0 [(0, .ref (xqa (xXE X).2.2 184)), (1, .ref (xqa (xXE X).2.2 k1)), (2, .ref (xqa (xXE X).2.2 k2))] [] (m_X13_copies n k1 k2 σ) := by
  unfold m_X13_copies
  refine x_iconst C (0) dX13_copies_0 rfl ?_
  refine x_istore_n (L' := [(3, _), (0, _), (1, _), (2, _)]) C dX13_copies_1 rfl (by decide) rfl ?_
  refine x_pick [2, 3, 0] rfl ?_
  refine x_loop (fun t1 : Int × xS => t1.2) (fun t1 : Int × xS => [(1, .ref (xqa (xXE X).2.2 k1)), (2, .ref (xqa (xXE X).2.2 k2)), (3, iV t1.1)]) (fun rec2 hr3 t1 => ?_) n (0, σ)
  refine x_iload_n C 2 dX13_copies_2 rfl rfl ?_
  refine x_sipush C (289) dX13_copies_3 rfl ?_
  refine x_icmp_ge C 21 rfl (zIl _ rfl) dX13_copies_6 rfl (fun c4 => x_op c4 ?_) (fun c4 => x_on c4 ?_)
  · exact x_vretQ C (hQ _) rfl dX13_copies_21
  · refine x_aload_n C 1 dX13_copies_9 rfl rfl ?_
    refine x_iload_n C 2 dX13_copies_10 rfl rfl ?_
    refine x_aload_n C 0 dX13_copies_11 rfl rfl ?_
    refine x_iload_n C 2 dX13_copies_12 rfl rfl ?_
    refine x_iald C hk1 rfl dX13_copies_13 (fun _ => ?_)
    refine x_iast C hk2 rfl dX13_copies_14 (fun _ => ?_)
    refine x_letS (fun s5 => ?_)
    refine x_inc C 2 (f := _) dX13_copies_15 rfl (by decide) (1) rfl (fun v6 => ?_)
    refine x_reL (L' := [(3, _), (1, _), (2, _)]) rfl ?_
    refine x_goto C 2 dX13_copies_18 rfl ?_
    refine x_pick [1, 2, 0] rfl ?_
    exact hr3 (v6, s5)
theorem ct_X13_copies (l : Launch) (E : xE) (n : Nat) (k1 : Nat) (k2 : Nat) (σ : xS) (hk1 : xAt WW k1 0 289) (hk2 : xAt WW k2 0 289)  : xMet l E yX13_copies cX13_copies 4 none { frames := 0, cells := 0, slots := 0, locals := 0 } [.ref (xqa E.2.2 184), .ref (xqa E.2.2 k1), .ref (xqa E.2.2 k2)] WW WW σ (xrV (m_X13_copies n k1 k2 σ)) := by
  refine xMet.of0 (by decide) (Nat.le_of_ble_eq_true rfl) rfl rfl (fun X hE C => ?_)
  subst hE
  exact xMap (fun q => (none, q)) (wk_X13_copies C (fun _ => rfl) hk1 hk2)
theorem mt_X13_copies : xMth yX13_copies cX13_copies 4 none 2 := ⟨wd1850, wd164, ⟨by decide, by decide, rfl⟩⟩
theorem vr_X13_copies : xVir yX13_copies := ⟨wd1849, wd83⟩
def m_X13_dough (k1 : Nat) (p2 : Int) (p3 : Int) (σ : xS) : Option Int :=
  xck (zI ((10 + (10 * p2)) + p3)) 289 <| some (σ k1 (zI ((10 + (10 * p2)) + p3)).toNat)
set_option maxHeartbeats 4000000 in
set_option maxRecDepth 100000 in
theorem wk_X13_dough {X : xX} {Qf : Int → State → Prop} {k1 : Nat} {p2 : Int} {p3 : Int} {σ : xS} (C : xCx X cX13_dough "BakeryNightModel" (some .int) { frames := 0, cells := 0, slots := 0, locals := 0 } 4) (hQ : ∀ v, Qf v = xQf X WW (some (iV v), σ)) (hk1 : xAt WW k1 0 289) : WO X Qf WW σ 0 [(0, .ref (xqa (xXE X).2.2 184)), (1, .ref (xqa (xXE X).2.2 k1)), (2, iV p2), (3, iV p3)] [] (m_X13_dough k1 p2 p3 σ) := by
  unfold m_X13_dough
  refine x_aload_n C 1 dX13_dough_0 rfl rfl ?_
  refine x_bipush C (10) dX13_dough_1 rfl ?_
  refine x_bipush C (10) dX13_dough_3 rfl ?_
  refine x_iload_n C 2 dX13_dough_5 rfl rfl ?_
  refine x_imul C dX13_dough_6 ?_
  refine x_iadd C dX13_dough_7 ?_
  refine x_iload_n C 3 dX13_dough_8 rfl rfl ?_
  refine x_iadd C dX13_dough_9 ?_
  refine x_iald C hk1 rfl dX13_dough_10 (fun _ => ?_)
  exact x_iretQ C (hQ _) rfl dX13_dough_11
theorem ct_X13_dough (l : Launch) (E : xE) (k1 : Nat) (p2 : Int) (p3 : Int) (σ : xS) (hk1 : xAt WW k1 0 289)  : xMet l E yX13_dough cX13_dough 4 (some .int) { frames := 0, cells := 0, slots := 0, locals := 0 } [.ref (xqa E.2.2 184), .ref (xqa E.2.2 k1), iV p2, iV p3] WW WW σ (xrI (m_X13_dough k1 p2 p3 σ) σ) := by
  refine xMet.of0 (by decide) (Nat.le_of_ble_eq_true rfl) rfl rfl (fun X hE C => ?_)
  subst hE
  exact xMap (fun v => (some (iV v), σ)) (wk_X13_dough C (fun _ => rfl) hk1)
theorem mt_X13_dough : xMth yX13_dough cX13_dough 4 (some .int) 3 := ⟨wd1898, wd164, ⟨by decide, by decide, rfl⟩⟩
theorem vr_X13_dough : xVir yX13_dough := ⟨wd1897, wd90⟩
def m_X13_oven (k1 : Nat) (p2 : Int) (p3 : Int) (σ : xS) : Option Int :=
  xck (zI ((70 + (4 * p2)) + p3)) 289 <| some (σ k1 (zI ((70 + (4 * p2)) + p3)).toNat)
set_option maxHeartbeats 4000000 in
set_option maxRecDepth 100000 in
theorem wk_X13_oven {X : xX} {Qf : Int → State → Prop} {k1 : Nat} {p2 : Int} {p3 : Int} {σ : xS} (C : xCx X cX13_oven "BakeryNightModel" (some .int) { frames := 0, cells := 0, slots := 0, locals := 0 } 4) (hQ : ∀ v, Qf v = xQf X WW (some (iV v), σ)) (hk1 : xAt WW k1 0 289) : WO X Qf WW σ 0 [(0, .ref (xqa (xXE X).2.2 184)), (1, .ref (xqa (xXE X).2.2 k1)), (2, iV p2), (3, iV p3)] [] (m_X13_oven k1 p2 p3 σ) := by
  unfold m_X13_oven
  refine x_aload_n C 1 dX13_oven_0 rfl rfl ?_
  refine x_bipush C (70) dX13_oven_1 rfl ?_
  refine x_iconst C (4) dX13_oven_3 rfl ?_
  refine x_iload_n C 2 dX13_oven_4 rfl rfl ?_
  refine x_imul C dX13_oven_5 ?_
  refine x_iadd C dX13_oven_6 ?_
  refine x_iload_n C 3 dX13_oven_7 rfl rfl ?_
  refine x_iadd C dX13_oven_8 ?_
  refine x_iald C hk1 rfl dX13_oven_9 (fun _ => ?_)
  exact x_iretQ C (hQ _) rfl dX13_oven_10
theorem ct_X13_oven (l : Launch) (E : xE) (k1 : Nat) (p2 : Int) (p3 : Int) (σ : xS) (hk1 : xAt WW k1 0 289)  : xMet l E yX13_oven cX13_oven 4 (some .int) { frames := 0, cells := 0, slots := 0, locals := 0 } [.ref (xqa E.2.2 184), .ref (xqa E.2.2 k1), iV p2, iV p3] WW WW σ (xrI (m_X13_oven k1 p2 p3 σ) σ) := by
  refine xMet.of0 (by decide) (Nat.le_of_ble_eq_true rfl) rfl rfl (fun X hE C => ?_)
  subst hE
  exact xMap (fun v => (some (iV v), σ)) (wk_X13_oven C (fun _ => rfl) hk1)
theorem mt_X13_oven : xMth yX13_oven cX13_oven 4 (some .int) 3 := ⟨wd1940, wd164, ⟨by decide, by decide, rfl⟩⟩
theorem vr_X13_oven : xVir yX13_oven := ⟨wd1939, wd98⟩
def m_X13_street (k1 : Nat) (p2 : Int) (p3 : Int) (σ : xS) : Option Int :=
  xck (zI ((86 + (4 * p2)) + p3)) 289 <| some (σ k1 (zI ((86 + (4 * p2)) + p3)).toNat)
set_option maxHeartbeats 4000000 in
set_option maxRecDepth 100000 in
theorem wk_X13_street {X : xX} {Qf : Int → State → Prop} {k1 : Nat} {p2 : Int} {p3 : Int} {σ : xS} (C : xCx X cX13_street "BakeryNightModel" (some .int) { frames := 0, cells := 0, slots := 0, locals := 0 } 4) (hQ : ∀ v, Qf v = xQf X WW (some (iV v), σ)) (hk1 : xAt WW k1 0 289) : WO X Qf WW σ 0 [(0, .ref (xqa (xXE X).2.2 184)), (1, .ref (xqa (xXE X).2.2 k1)), (2, iV p2), (3, iV p3)] [] (m_X13_street k1 p2 p3 σ) := by
  unfold m_X13_street
  refine x_aload_n C 1 dX13_street_0 rfl rfl ?_
  refine x_bipush C (86) dX13_street_1 rfl ?_
  refine x_iconst C (4) dX13_street_3 rfl ?_
  refine x_iload_n C 2 dX13_street_4 rfl rfl ?_
  refine x_imul C dX13_street_5 ?_
  refine x_iadd C dX13_street_6 ?_
  refine x_iload_n C 3 dX13_street_7 rfl rfl ?_
  refine x_iadd C dX13_street_8 ?_
  refine x_iald C hk1 rfl dX13_street_9 (fun _ => ?_)
  exact x_iretQ C (hQ _) rfl dX13_street_10
theorem ct_X13_street (l : Launch) (E : xE) (k1 : Nat) (p2 : Int) (p3 : Int) (σ : xS) (hk1 : xAt WW k1 0 289)  : xMet l E yX13_street cX13_street 4 (some .int) { frames := 0, cells := 0, slots := 0, locals := 0 } [.ref (xqa E.2.2 184), .ref (xqa E.2.2 k1), iV p2, iV p3] WW WW σ (xrI (m_X13_street k1 p2 p3 σ) σ) := by
  refine xMet.of0 (by decide) (Nat.le_of_ble_eq_true rfl) rfl rfl (fun X hE C => ?_)
  subst hE
  exact xMap (fun v => (some (iV v), σ)) (wk_X13_street C (fun _ => rfl) hk1)
theorem mt_X13_street : xMth yX13_street cX13_street 4 (some .int) 3 := ⟨wd2123, wd164, ⟨by decide, by decide, rfl⟩⟩
theorem vr_X13_street : xVir yX13_street := ⟨wd2122, wd129⟩
def m_X13_order (k1 : Nat) (p2 : Int) (p3 : Int) (σ : xS) : Option Int :=
  xck (zI ((169 + (5 * p2)) + p3)) 289 <| some (σ k1 (zI ((169 + (5 * p2)) + p3)).toNat)
set_option maxHeartbeats 4000000 in
set_option maxRecDepth 100000 in
theorem wk_X13_order {X : xX} {Qf : Int → State → Prop} {k1 : Nat} {p2 : Int} {p3 : Int} {σ : xS} (C : xCx X cX13_order "BakeryNightModel" (some .int) { frames := 0, cells := 0, slots := 0, locals := 0 } 4) (hQ : ∀ v, Qf v = xQf X WW (some (iV v), σ)) (hk1 : xAt WW k1 0 289) : WO X Qf WW σ 0 [(0, .ref (xqa (xXE X).2.2 184)), (1, .ref (xqa (xXE X).2.2 k1)), (2, iV p2), (3, iV p3)] [] (m_X13_order k1 p2 p3 σ) := by
  unfold m_X13_order
  refine x_aload_n C 1 dX13_order_0 rfl rfl ?_
  refine x_sipush C (169) dX13_order_1 rfl ?_
  refine x_iconst C (5) dX13_order_4 rfl ?_
  refine x_iload_n C 2 dX13_order_5 rfl rfl ?_
  refine x_imul C dX13_order_6 ?_
  refine x_iadd C dX13_order_7 ?_
  refine x_iload_n C 3 dX13_order_8 rfl rfl ?_
  refine x_iadd C dX13_order_9 ?_
  refine x_iald C hk1 rfl dX13_order_10 (fun _ => ?_)
  exact x_iretQ C (hQ _) rfl dX13_order_11
theorem ct_X13_order (l : Launch) (E : xE) (k1 : Nat) (p2 : Int) (p3 : Int) (σ : xS) (hk1 : xAt WW k1 0 289)  : xMet l E yX13_order cX13_order 4 (some .int) { frames := 0, cells := 0, slots := 0, locals := 0 } [.ref (xqa E.2.2 184), .ref (xqa E.2.2 k1), iV p2, iV p3] WW WW σ (xrI (m_X13_order k1 p2 p3 σ) σ) := by
  refine xMet.of0 (by decide) (Nat.le_of_ble_eq_true rfl) rfl rfl (fun X hE C => ?_)
  subst hE
  exact xMap (fun v => (some (iV v), σ)) (wk_X13_order C (fun _ => rfl) hk1)
theorem mt_X13_order : xMth yX13_order cX13_order 4 (some .int) 3 := ⟨wd1882, wd164, ⟨by decide, by decide, rfl⟩⟩
theorem vr_X13_order : xVir yX13_order := ⟨wd1881, wd87⟩
def m_X13_isMeant (k1 : Nat) (p2 : Int) (σ : xS) : Option Int :=
  (m_X13_order k1 p2 4 σ).bind fun v1 => xlet (if (zI v1) = 0 then 1 else 0) fun v2 => xbo v2 (some v2)
set_option maxHeartbeats 4000000 in
set_option maxRecDepth 100000 in
theorem wk_X13_isMeant {X : xX} {Qf : Int → State → Prop} {k1 : Nat} {p2 : Int} {σ : xS} (C : xCx X cX13_isMeant "BakeryNightModel" (some .boolean) { frames := 1, cells := 0, slots := 0, locals := 23 } 3) (hQ : ∀ v, Qf v = xQf X WW (some (iV v), σ)) (hk1 : xAt WW k1 0 289) : WO X Qf WW σ 0 [(0, .ref (xqa (xXE X).2.2 184)), (1, .ref (xqa (xXE X).2.2 k1)), (2, iV p2)] [] (m_X13_isMeant k1 p2 σ) := by
  unfold m_X13_isMeant
  refine x_aload_n C 0 dX13_isMeant_0 rfl rfl ?_
  refine x_aload_n C 1 dX13_isMeant_1 rfl rfl ?_
  refine x_iload_n C 2 dX13_isMeant_2 rfl rfl ?_
  refine x_iconst C (4) dX13_isMeant_3 rfl ?_
  refine x_callV C (ct_X13_order _ _ k1 p2 4 σ hk1) mt_X13_order vr_X13_order wd1879 cls_X13 at_X13 rfl ⟨rfl, rfl, Nat.le_of_ble_eq_true rfl, Nat.le_of_ble_eq_true rfl⟩ rfl (by decide) dX13_isMeant_4 (kI (fun v1 => ?_))
  refine x_tree 15 [] (fun v2 => ?_) (fun hJ3 => ?_)
  · exact x_bo (fun hb => x_zretQ C (hQ _) rfl hb dX13_isMeant_15)
  · refine x_if_ne C 14 rfl dX13_isMeant_7 rfl (fun c4 => ?_) (fun c4 => ?_)
    · refine x_iconst C (0) dX13_isMeant_14 rfl ?_
      exact hJ3 _ (by rw [if_neg c4])
    · refine x_iconst C (1) dX13_isMeant_10 rfl ?_
      refine x_goto C 15 dX13_isMeant_11 rfl ?_
      exact hJ3 _ (by rw [if_pos c4])
theorem ct_X13_isMeant (l : Launch) (E : xE) (k1 : Nat) (p2 : Int) (σ : xS) (hk1 : xAt WW k1 0 289)  : xMet l E yX13_isMeant cX13_isMeant 3 (some .boolean) { frames := 1, cells := 0, slots := 0, locals := 23 } [.ref (xqa E.2.2 184), .ref (xqa E.2.2 k1), iV p2] WW WW σ (xrI (m_X13_isMeant k1 p2 σ) σ) := by
  refine xMet.of0 (by decide) (Nat.le_of_ble_eq_true rfl) rfl rfl (fun X hE C => ?_)
  subst hE
  exact xMap (fun v => (some (iV v), σ)) (wk_X13_isMeant C (fun _ => rfl) hk1)
theorem mt_X13_isMeant : xMth yX13_isMeant cX13_isMeant 3 (some .boolean) 2 := ⟨wd1878, wd164, ⟨by decide, by decide, rfl⟩⟩
theorem vr_X13_isMeant : xVir yX13_isMeant := ⟨wd1877, wd86⟩
def m_X13_feed (n : Nat) (p1 : Int) (p2 : Int) (p3 : Int) (p4 : Int) (p5 : Int) (σ : xS) : Option (Int × xS) :=
  xlet (xput σ 184 7 0) fun s1 => if (zI ((s1 184 9) + 20)) ≤ 1600 then loopF (fun rec4 (t3 : Int × xS) => if 20 ≤ (zI t3.1) then some (t3.2 184 9, t3.2) else xlet (if 4 ≤ (zI t3.1) then if 8 ≤ (zI t3.1) then if 12 ≤ (zI t3.1) then if 16 ≤ (zI t3.1) then p5 else p4 else p3 else p2 else p1) fun v7 => xnz (zI 4) <| xck (zI (t3.2 184 9)) 1600 <| xlet (xput t3.2 189 (zI (t3.2 184 9)).toNat (zb (zi2b (zshr v7 (24 - (8 * (t3.1 - (zI t3.1).tdiv (zI 4) * 4))))))) fun s8 => xlet (xput s8 184 9 ((s8 184 9) + 1)) fun s9 => xlet (t3.1 + 1) fun v10 => rec4 (v10, s9)) n (0, s1) else some ((-1), s1)
set_option maxHeartbeats 4000000 in
set_option maxRecDepth 100000 in
theorem wk_X13_feed {X : xX} {Qf : (Int × xS) → State → Prop} {n : Nat} {p1 : Int} {p2 : Int} {p3 : Int} {p4 : Int} {p5 : Int} {σ : xS} (C : xCx X cX13_feed "BakeryNightModel" (some .int) { frames := 0, cells := 0, slots := 0, locals := 0 } 8) (hQ : ∀ v τ, Qf (v, τ) = xQf X WW (some (iV v), τ))  : WO X Qf WW σ 0 [(0, .ref (xqa (xXE X).2.2 184)), (1, iV p1), (2, iV p2), (3, iV p3), (4, iV p4), (5, iV p5)] [] (m_X13_feed n p1 p2 p3 p4 p5 σ) := by
  unfold m_X13_feed
  refine x_aload_n C 0 dX13_feed_0 rfl rfl ?_
  refine x_iconst C (0) dX13_feed_1 rfl ?_
  refine x_put C 7 0 cls_X13 at_X13 (by decide) wd1509 rfl rfl rfl rfl (xV_pI rfl) dX13_feed_2 ?_
  refine x_letS (fun s1 => ?_)
  refine x_aload_n C 0 dX13_feed_5 rfl rfl ?_
  refine x_get (v := iV (s1 184 9)) C 9 cls_X13 at_X13 (by decide) wd1511 rfl rfl dX13_feed_6 ?_
  refine x_bipush C (20) dX13_feed_9 rfl ?_
  refine x_iadd C dX13_feed_11 ?_
  refine x_sipush C (1600) dX13_feed_12 rfl ?_
  refine x_icmp_le C 20 rfl (zIl _ rfl) dX13_feed_15 rfl (fun c2 => x_op c2 ?_) (fun c2 => x_on c2 ?_)
  · refine x_iconst C (0) dX13_feed_20 rfl ?_
    refine x_istore (L' := [(6, _), (0, _), (1, _), (2, _), (3, _), (4, _), (5, _)]) C dX13_feed_21 (by decide) rfl ?_
    refine x_pick [1, 2, 3, 4, 5, 6, 0] rfl ?_
    refine x_loop (fun t3 : Int × xS => t3.2) (fun t3 : Int × xS => [(0, .ref (xqa (xXE X).2.2 184)), (1, iV p1), (2, iV p2), (3, iV p3), (4, iV p4), (5, iV p5), (6, iV t3.1)]) (fun rec4 hr5 t3 => ?_) n (0, s1)
    refine x_iload C 6 dX13_feed_23 rfl ?_
    refine x_bipush C (20) dX13_feed_25 rfl ?_
    refine x_icmp_ge C 117 rfl (zIl _ rfl) dX13_feed_27 rfl (fun c6 => x_op c6 ?_) (fun c6 => x_on c6 ?_)
    · refine x_aload_n C 0 dX13_feed_117 rfl rfl ?_
      refine x_get (v := iV (t3.2 184 9)) C 9 cls_X13 at_X13 (by decide) wd1511 rfl rfl dX13_feed_118 ?_
      exact x_iretQ C (hQ _ _) rfl dX13_feed_121
    · refine x_iload C 6 dX13_feed_30 rfl ?_
      refine x_iconst C (4) dX13_feed_32 rfl ?_
      refine x_tree 76 [] (fun v7 => ?_) (fun hJ11 => ?_)
      · refine x_istore (L' := [(7, _), (0, _), (1, _), (2, _), (3, _), (4, _), (5, _), (6, _)]) C dX13_feed_76 (by decide) rfl ?_
        refine x_aload_n C 1 dX13_feed_78 rfl rfl ?_
        refine x_get (v := .ref (xqa (xXE X).2.2 189)) C 8 cls_X13 at_X13 (by decide) wd1510 rfl (xV_r (rt_X13_buffer  _) rfl) dX13_feed_79 ?_
        refine x_aload_n C 1 dX13_feed_82 rfl rfl ?_
        refine x_get (v := iV (t3.2 184 9)) C 9 cls_X13 at_X13 (by decide) wd1511 rfl rfl dX13_feed_83 ?_
        refine x_iload C 0 dX13_feed_86 rfl ?_
        refine x_bipush C (24) dX13_feed_88 rfl ?_
        refine x_bipush C (8) dX13_feed_90 rfl ?_
        refine x_iload C 7 dX13_feed_92 rfl ?_
        refine x_iconst C (4) dX13_feed_94 rfl ?_
        refine x_irem C dX13_feed_95 ?_
        refine x_imul C dX13_feed_96 ?_
        refine x_isub C dX13_feed_97 ?_
        refine x_ishr C dX13_feed_98 ?_
        refine x_i2b C dX13_feed_99 ?_
        refine x_bast C at_X13_buffer rfl dX13_feed_100 (fun _ => ?_)
        refine x_letS (fun s8 => ?_)
        refine x_aload_n C 1 dX13_feed_101 rfl rfl ?_
        refine x_aload_n C 1 dX13_feed_102 rfl rfl ?_
        refine x_get (v := iV (s8 184 9)) C 9 cls_X13 at_X13 (by decide) wd1511 rfl rfl dX13_feed_103 ?_
        refine x_iconst C (1) dX13_feed_106 rfl ?_
        refine x_iadd C dX13_feed_107 ?_
        refine x_put C 9 ((s8 184 9) + 1) cls_X13 at_X13 (by decide) wd1511 rfl rfl rfl rfl (xV_pI rfl) dX13_feed_108 ?_
        refine x_letS (fun s9 => ?_)
        refine x_inc C 7 (f := _) dX13_feed_111 rfl (by decide) (1) rfl (fun v10 => ?_)
        refine x_reL (L' := [(6, _), (7, _), (0, _), (1, _), (2, _), (3, _), (4, _), (5, _)]) rfl ?_
        refine x_goto C 23 dX13_feed_114 rfl ?_
        refine x_pick [2, 3, 4, 5, 6, 7, 0] rfl ?_
        exact hr5 (v10, s9)
      · refine x_icmp_ge C 40 rfl (zIl _ rfl) dX13_feed_33 rfl (fun c12 => ?_) (fun c12 => ?_)
        · refine x_iload C 6 dX13_feed_40 rfl ?_
          refine x_bipush C (8) dX13_feed_42 rfl ?_
          refine x_icmp_ge C 51 rfl (zIl _ rfl) dX13_feed_44 rfl (fun c13 => ?_) (fun c13 => ?_)
          · refine x_iload C 6 dX13_feed_51 rfl ?_
            refine x_bipush C (12) dX13_feed_53 rfl ?_
            refine x_icmp_ge C 62 rfl (zIl _ rfl) dX13_feed_55 rfl (fun c14 => ?_) (fun c14 => ?_)
            · refine x_iload C 6 dX13_feed_62 rfl ?_
              refine x_bipush C (16) dX13_feed_64 rfl ?_
              refine x_icmp_ge C 74 rfl (zIl _ rfl) dX13_feed_66 rfl (fun c15 => ?_) (fun c15 => ?_)
              · refine x_iload C 5 dX13_feed_74 rfl ?_
                exact hJ11 _ (by rw [if_pos c12, if_pos c13, if_pos c14, if_pos c15])
              · refine x_iload C 4 dX13_feed_69 rfl ?_
                refine x_goto C 76 dX13_feed_71 rfl ?_
                exact hJ11 _ (by rw [if_pos c12, if_pos c13, if_pos c14, if_neg c15])
            · refine x_iload_n C 3 dX13_feed_58 rfl rfl ?_
              refine x_goto C 76 dX13_feed_59 rfl ?_
              exact hJ11 _ (by rw [if_pos c12, if_pos c13, if_neg c14])
          · refine x_iload_n C 2 dX13_feed_47 rfl rfl ?_
            refine x_goto C 76 dX13_feed_48 rfl ?_
            exact hJ11 _ (by rw [if_pos c12, if_neg c13])
        · refine x_iload_n C 1 dX13_feed_36 rfl rfl ?_
          refine x_goto C 76 dX13_feed_37 rfl ?_
          exact hJ11 _ (by rw [if_neg c12])
  · refine x_iconst C (-1) dX13_feed_18 rfl ?_
    exact x_iretQ C (hQ _ _) rfl dX13_feed_19
theorem ct_X13_feed (l : Launch) (E : xE) (n : Nat) (p1 : Int) (p2 : Int) (p3 : Int) (p4 : Int) (p5 : Int) (σ : xS)   : xMet l E yX13_feed cX13_feed 8 (some .int) { frames := 0, cells := 0, slots := 0, locals := 0 } [.ref (xqa E.2.2 184), iV p1, iV p2, iV p3, iV p4, iV p5] WW WW σ (xrS (m_X13_feed n p1 p2 p3 p4 p5 σ)) := by
  refine xMet.of0 (by decide) (Nat.le_of_ble_eq_true rfl) rfl rfl (fun X hE C => ?_)
  subst hE
  exact xMap (fun q => (some (iV q.1), q.2)) (wk_X13_feed C (fun _ _ => rfl) )
theorem mt_X13_feed : xMth yX13_feed cX13_feed 8 (some .int) 5 := ⟨wd1675, wd164, ⟨by decide, by decide, rfl⟩⟩
theorem vr_X13_feed : xVir yX13_feed := ⟨wd1673, wd1674⟩
def m_X13_truncate (p1 : Int) (σ : xS) : Option (Int × xS) :=
  xlet (xput σ 184 7 0) fun s1 => if (m_X13_isIn (zI p1) 0 (zI (s1 184 9))) = 0 then some (0, s1) else xlet (xput s1 184 9 p1) fun s3 => some (1, s3)
set_option maxHeartbeats 4000000 in
set_option maxRecDepth 100000 in
theorem wk_X13_truncate {X : xX} {Qf : (Int × xS) → State → Prop} {p1 : Int} {σ : xS} (C : xCx X cX13_truncate "BakeryNightModel" (some .boolean) { frames := 1, cells := 0, slots := 0, locals := 26 } 2) (hQ : ∀ v τ, Qf (v, τ) = xQf X WW (some (iV v), τ))  : WO X Qf WW σ 0 [(0, .ref (xqa (xXE X).2.2 184)), (1, iV p1)] [] (m_X13_truncate p1 σ) := by
  unfold m_X13_truncate
  refine x_aload_n C 0 dX13_truncate_0 rfl rfl ?_
  refine x_iconst C (0) dX13_truncate_1 rfl ?_
  refine x_put C 7 0 cls_X13 at_X13 (by decide) wd1509 rfl rfl rfl rfl (xV_pI rfl) dX13_truncate_2 ?_
  refine x_letS (fun s1 => ?_)
  refine x_aload_n C 0 dX13_truncate_5 rfl rfl ?_
  refine x_iload_n C 1 dX13_truncate_6 rfl rfl ?_
  refine x_i2l C dX13_truncate_7 ?_
  refine x_lconst C 0 dX13_truncate_8 rfl ?_
  refine x_aload_n C 0 dX13_truncate_9 rfl rfl ?_
  refine x_get (v := iV (s1 184 9)) C 9 cls_X13 at_X13 (by decide) wd1511 rfl rfl dX13_truncate_10 ?_
  refine x_i2l C dX13_truncate_13 ?_
  refine x_callV C (ct_X13_isIn _ _ (zI p1) 0 (zI (s1 184 9)) s1) mt_X13_isIn vr_X13_isIn wd1680 cls_X13 at_X13 rfl ⟨rfl, rfl, Nat.le_of_ble_eq_true rfl, Nat.le_of_ble_eq_true rfl⟩ rfl (by decide) dX13_truncate_14 (kP ?_)
  refine x_if_ne C 22 (zI_bo (bo_X13_isIn _ _ _)) dX13_truncate_17 rfl (fun c2 => x_on c2 ?_) (fun c2 => x_op c2 ?_)
  · refine x_aload_n C 0 dX13_truncate_22 rfl rfl ?_
    refine x_iload_n C 1 dX13_truncate_23 rfl rfl ?_
    refine x_put C 9 p1 cls_X13 at_X13 (by decide) wd1511 rfl rfl rfl rfl (xV_pI rfl) dX13_truncate_24 ?_
    refine x_letS (fun s3 => ?_)
    refine x_iconst C (1) dX13_truncate_27 rfl ?_
    exact x_zretQ C (hQ _ _) rfl (Or.inr rfl) dX13_truncate_28
  · refine x_iconst C (0) dX13_truncate_20 rfl ?_
    exact x_zretQ C (hQ _ _) rfl (Or.inl rfl) dX13_truncate_21
theorem ct_X13_truncate (l : Launch) (E : xE) (p1 : Int) (σ : xS)   : xMet l E yX13_truncate cX13_truncate 2 (some .boolean) { frames := 1, cells := 0, slots := 0, locals := 26 } [.ref (xqa E.2.2 184), iV p1] WW WW σ (xrS (m_X13_truncate p1 σ)) := by
  refine xMet.of0 (by decide) (Nat.le_of_ble_eq_true rfl) rfl rfl (fun X hE C => ?_)
  subst hE
  exact xMap (fun q => (some (iV q.1), q.2)) (wk_X13_truncate C (fun _ _ => rfl) )
theorem mt_X13_truncate : xMth yX13_truncate cX13_truncate 2 (some .boolean) 1 := ⟨wd1679, wd164, ⟨by decide, by decide, rfl⟩⟩
theorem vr_X13_truncate : xVir yX13_truncate := ⟨wd1677, wd1678⟩
def m_X13_byteAt (p1 : Int) (σ : xS) : Option Int :=
  xj (fun (q3 : Int) => some q3) fun J1 => if (zI (σ 184 10)) ≤ (zI p1) then J1 (-1) else xck (zI p1) 1600 <| J1 (zand (σ 189 (zI p1).toNat) 255)
set_option maxHeartbeats 4000000 in
set_option maxRecDepth 100000 in
theorem wk_X13_byteAt {X : xX} {Qf : Int → State → Prop} {p1 : Int} {σ : xS} (C : xCx X cX13_byteAt "BakeryNightModel" (some .int) { frames := 0, cells := 0, slots := 0, locals := 0 } 2) (hQ : ∀ v, Qf v = xQf X WW (some (iV v), σ))  : WO X Qf WW σ 0 [(0, .ref (xqa (xXE X).2.2 184)), (1, iV p1)] [] (m_X13_byteAt p1 σ) := by
  unfold m_X13_byteAt
  refine x_iload_n C 1 dX13_byteAt_0 rfl rfl ?_
  refine x_aload_n C 0 dX13_byteAt_1 rfl rfl ?_
  refine x_get (v := iV (σ 184 10)) C 10 cls_X13 at_X13 (by decide) wd1512 rfl rfl dX13_byteAt_2 ?_
  refine x_join (fun J => ∀ q3 : Int, WO X Qf WW σ 22 [] [iV q3] (J q3)) ?_ ?_
  · intro q3
    exact x_iretQ C (hQ _) rfl dX13_byteAt_22
  · intro J1 hJ2
    refine x_icmp_ge C 21 rfl rfl dX13_byteAt_5 rfl (fun c4 => x_op c4 ?_) (fun c4 => x_on c4 ?_)
    · refine x_iconst C (-1) dX13_byteAt_21 rfl ?_
      refine x_pick [] rfl ?_
      exact hJ2 (-1)
    · refine x_aload_n C 0 dX13_byteAt_8 rfl rfl ?_
      refine x_get (v := .ref (xqa (xXE X).2.2 189)) C 8 cls_X13 at_X13 (by decide) wd1510 rfl (xV_r (rt_X13_buffer  _) rfl) dX13_byteAt_9 ?_
      refine x_iload_n C 1 dX13_byteAt_12 rfl rfl ?_
      refine x_bald C at_X13_buffer rfl dX13_byteAt_13 (fun _ => ?_)
      refine x_sipush C (255) dX13_byteAt_14 rfl ?_
      refine x_iand C dX13_byteAt_17 ?_
      refine x_goto C 22 dX13_byteAt_18 rfl ?_
      refine x_pick [] rfl ?_
      exact hJ2 (zand (σ 189 (zI p1).toNat) 255)
theorem ct_X13_byteAt (l : Launch) (E : xE) (p1 : Int) (σ : xS)   : xMet l E yX13_byteAt cX13_byteAt 2 (some .int) { frames := 0, cells := 0, slots := 0, locals := 0 } [.ref (xqa E.2.2 184), iV p1] WW WW σ (xrI (m_X13_byteAt p1 σ) σ) := by
  refine xMet.of0 (by decide) (Nat.le_of_ble_eq_true rfl) rfl rfl (fun X hE C => ?_)
  subst hE
  exact xMap (fun v => (some (iV v), σ)) (wk_X13_byteAt C (fun _ => rfl) )
theorem mt_X13_byteAt : xMth yX13_byteAt cX13_byteAt 2 (some .int) 1 := ⟨wd1699, wd164, ⟨by decide, by decide, rfl⟩⟩
theorem vr_X13_byteAt : xVir yX13_byteAt := ⟨wd1698, wd53⟩
def m_X13_here (σ : xS) : Option Int :=
  (m_X13_byteAt (σ 184 11) σ).bind fun v1 => some v1
set_option maxHeartbeats 4000000 in
set_option maxRecDepth 100000 in
theorem wk_X13_here {X : xX} {Qf : Int → State → Prop} {σ : xS} (C : xCx X cX13_here "BakeryNightModel" (some .int) { frames := 1, cells := 0, slots := 0, locals := 21 } 1) (hQ : ∀ v, Qf v = xQf X WW (some (iV v), σ))  : WO X Qf WW σ 0 [(0, .ref (xqa (xXE X).2.2 184))] [] (m_X13_here σ) := by
  unfold m_X13_here
  refine x_aload_n C 0 dX13_here_0 rfl rfl ?_
  refine x_aload_n C 0 dX13_here_1 rfl rfl ?_
  refine x_get (v := iV (σ 184 11)) C 11 cls_X13 at_X13 (by decide) wd1513 rfl rfl dX13_here_2 ?_
  refine x_callV C (ct_X13_byteAt _ _ (σ 184 11) σ) mt_X13_byteAt vr_X13_byteAt wd1696 cls_X13 at_X13 rfl ⟨rfl, rfl, Nat.le_of_ble_eq_true rfl, Nat.le_of_ble_eq_true rfl⟩ rfl (by decide) dX13_here_5 (kI (fun v1 => ?_))
  exact x_iretQ C (hQ _) rfl dX13_here_8
theorem ct_X13_here (l : Launch) (E : xE) (σ : xS)   : xMet l E yX13_here cX13_here 1 (some .int) { frames := 1, cells := 0, slots := 0, locals := 21 } [.ref (xqa E.2.2 184)] WW WW σ (xrI (m_X13_here σ) σ) := by
  refine xMet.of0 (by decide) (Nat.le_of_ble_eq_true rfl) rfl rfl (fun X hE C => ?_)
  subst hE
  exact xMap (fun v => (some (iV v), σ)) (wk_X13_here C (fun _ => rfl) )
theorem mt_X13_here : xMth yX13_here cX13_here 1 (some .int) 0 := ⟨wd1695, wd164, ⟨by decide, by decide, rfl⟩⟩
theorem vr_X13_here : xVir yX13_here := ⟨wd1694, wd52⟩
def m_X13_isLetter (p1 : Int) : Int := m_X13_isIn (zI p1) 97 122
set_option maxHeartbeats 4000000 in
set_option maxRecDepth 100000 in
theorem wk_X13_isLetter {X : xX} {Qf : Int → State → Prop} {p1 : Int} {σ : xS} (C : xCx X cX13_isLetter "BakeryNightModel" (some .boolean) { frames := 1, cells := 0, slots := 0, locals := 26 } 2) (hQ : ∀ v, Qf v = xQf X WW (some (iV v), σ))  : WO X Qf WW σ 0 [(0, .ref (xqa (xXE X).2.2 184)), (1, iV p1)] [] (some (m_X13_isLetter p1)) := by
  refine x_aload_n C 0 dX13_isLetter_0 rfl rfl ?_
  refine x_iload_n C 1 dX13_isLetter_1 rfl rfl ?_
  refine x_i2l C dX13_isLetter_2 ?_
  refine x_ldc2 C (97) wd1725 rfl dX13_isLetter_3 ?_
  refine x_ldc2 C (122) wd1726 rfl dX13_isLetter_6 ?_
  refine x_callV C (ct_X13_isIn _ _ (zI p1) 97 122 σ) mt_X13_isIn vr_X13_isIn wd1680 cls_X13 at_X13 rfl ⟨rfl, rfl, Nat.le_of_ble_eq_true rfl, Nat.le_of_ble_eq_true rfl⟩ rfl (by decide) dX13_isLetter_9 (kP ?_)
  exact x_leafR rfl (x_zretQ C (hQ _) rfl (bo_X13_isIn _ _ _) dX13_isLetter_12)
theorem bo_X13_isLetter (p1 : Int) : m_X13_isLetter p1 = 0 ∨ m_X13_isLetter p1 = 1 := by
  unfold m_X13_isLetter
  repeat' split
  all_goals first | exact Or.inl rfl | exact Or.inr rfl | exact (bo_X13_isIn _ _ _)
theorem ct_X13_isLetter (l : Launch) (E : xE) (p1 : Int)  (σ : xS) : xMet l E yX13_isLetter cX13_isLetter 2 (some .boolean) { frames := 1, cells := 0, slots := 0, locals := 26 } [.ref (xqa E.2.2 184), iV p1] WW WW σ (some (some (iV (m_X13_isLetter p1)), σ)) := by
  refine xMet.of0 (by decide) (Nat.le_of_ble_eq_true rfl) rfl rfl (fun X hE C => ?_)
  subst hE
  exact xMap (fun v => (some (iV v), σ)) (wk_X13_isLetter C (fun _ => rfl) )
theorem mt_X13_isLetter : xMth yX13_isLetter cX13_isLetter 2 (some .boolean) 1 := ⟨wd1724, wd164, ⟨by decide, by decide, rfl⟩⟩
theorem vr_X13_isLetter : xVir yX13_isLetter := ⟨wd1723, wd59⟩
def m_X13_skips (n : Nat) (σ : xS) : Option xS :=
  loopF (fun rec2 (t1 : xS) => (m_X13_here t1).bind fun v4 => xj (fun (q8 : Unit) => xlet (xput t1 184 11 ((t1 184 11) + 1)) fun s9 => rec2 s9) fun J6 => if (zI v4) = 32 then J6 () else (m_X13_here t1).bind fun v11 => if (zI v11) = 10 then J6 () else some t1) n σ
set_option maxHeartbeats 4000000 in
set_option maxRecDepth 100000 in
theorem wk_X13_skips {X : xX} {Qf : xS → State → Prop} {n : Nat} {σ : xS} (C : xCx X cX13_skips "BakeryNightModel" none { frames := 2, cells := 0, slots := 0, locals := 41 } 1) (hQ : ∀ τ, Qf τ = xQf X WW (none, τ))  : WO X Qf WW σ 0 [(0, .ref (xqa (xXE X).2.2 184))] [] (m_X13_skips n σ) := by
  unfold m_X13_skips
  refine x_pick [0] rfl ?_
  refine x_loop (fun t1 : xS => t1) (fun t1 : xS => [(0, .ref (xqa (xXE X).2.2 184))]) (fun rec2 hr3 t1 => ?_) n σ
  refine x_aload_n C 0 dX13_skips_0 rfl rfl ?_
  refine x_callV C (ct_X13_here _ _ t1) mt_X13_here vr_X13_here wd1692 cls_X13 at_X13 rfl ⟨rfl, rfl, Nat.le_of_ble_eq_true rfl, Nat.le_of_ble_eq_true rfl⟩ rfl (by decide) dX13_skips_1 (kI (fun v4 => ?_))
  refine x_bipush C (32) dX13_skips_4 rfl ?_
  refine x_join (fun J => ∀ q8 : Unit, WO X Qf WW t1 18 [(0, .ref (xqa (xXE X).2.2 184))] [] (J q8)) ?_ ?_
  · intro q8
    refine x_aload_n C 0 dX13_skips_18 rfl rfl ?_
    refine x_aload_n C 0 dX13_skips_19 rfl rfl ?_
    refine x_get (v := iV (t1 184 11)) C 11 cls_X13 at_X13 (by decide) wd1513 rfl rfl dX13_skips_20 ?_
    refine x_iconst C (1) dX13_skips_23 rfl ?_
    refine x_iadd C dX13_skips_24 ?_
    refine x_put C 11 ((t1 184 11) + 1) cls_X13 at_X13 (by decide) wd1513 rfl rfl rfl rfl (xV_pI rfl) dX13_skips_25 ?_
    refine x_letS (fun s9 => ?_)
    refine x_goto C 0 dX13_skips_28 rfl ?_
    refine x_pick [0] rfl ?_
    exact hr3 s9
  · intro J6 hJ7
    refine x_icmp_eq C 18 rfl (zIl _ rfl) dX13_skips_6 rfl (fun c10 => x_op c10 ?_) (fun c10 => x_on c10 ?_)
    · refine x_pick [0] rfl ?_
      exact hJ7 ()
    · refine x_aload_n C 0 dX13_skips_9 rfl rfl ?_
      refine x_callV C (ct_X13_here _ _ t1) mt_X13_here vr_X13_here wd1692 cls_X13 at_X13 rfl ⟨rfl, rfl, Nat.le_of_ble_eq_true rfl, Nat.le_of_ble_eq_true rfl⟩ rfl (by decide) dX13_skips_10 (kI (fun v11 => ?_))
      refine x_bipush C (10) dX13_skips_13 rfl ?_
      refine x_icmp_ne C 31 rfl (zIl _ rfl) dX13_skips_15 rfl (fun c12 => x_on c12 ?_) (fun c12 => x_op c12 ?_)
      · exact x_vretQ C (hQ _) rfl dX13_skips_31
      · refine x_pick [0] rfl ?_
        exact hJ7 ()
theorem ct_X13_skips (l : Launch) (E : xE) (n : Nat) (σ : xS)   : xMet l E yX13_skips cX13_skips 1 none { frames := 2, cells := 0, slots := 0, locals := 41 } [.ref (xqa E.2.2 184)] WW WW σ (xrV (m_X13_skips n σ)) := by
  refine xMet.of0 (by decide) (Nat.le_of_ble_eq_true rfl) rfl rfl (fun X hE C => ?_)
  subst hE
  exact xMap (fun q => (none, q)) (wk_X13_skips C (fun _ => rfl) )
theorem mt_X13_skips : xMth yX13_skips cX13_skips 1 none 0 := ⟨wd1691, wd164, ⟨by decide, by decide, rfl⟩⟩
theorem vr_X13_skips : xVir yX13_skips := ⟨wd1690, wd51⟩
def m_X13_fine (σ : xS) : Int := if (zI (σ 184 12)) = 0 then 1 else 0
set_option maxHeartbeats 4000000 in
set_option maxRecDepth 100000 in
theorem wk_X13_fine {X : xX} {Qf : Int → State → Prop} {σ : xS} (C : xCx X cX13_fine "BakeryNightModel" (some .boolean) { frames := 0, cells := 0, slots := 0, locals := 0 } 1) (hQ : ∀ v, Qf v = xQf X WW (some (iV v), σ))  : WO X Qf WW σ 0 [(0, .ref (xqa (xXE X).2.2 184))] [] (some (m_X13_fine σ)) := by
  refine x_aload_n C 0 dX13_fine_0 rfl rfl ?_
  refine x_get (v := iV (σ 184 12)) C 12 cls_X13 at_X13 (by decide) wd1514 rfl rfl dX13_fine_1 ?_
  refine x_if_ne C 11 rfl dX13_fine_4 rfl (fun c1 => ?_) (fun c1 => ?_)
  · refine x_iconst C (0) dX13_fine_11 rfl ?_
    exact x_leafR (by unfold m_X13_fine; rw [if_neg c1]) (x_zretQ C (hQ _) rfl (Or.inl rfl) dX13_fine_12)
  · refine x_iconst C (1) dX13_fine_7 rfl ?_
    refine x_goto C 12 dX13_fine_8 rfl ?_
    exact x_leafR (by unfold m_X13_fine; rw [if_pos c1]) (x_zretQ C (hQ _) rfl (Or.inr rfl) dX13_fine_12)
theorem bo_X13_fine (σ : xS) : m_X13_fine σ = 0 ∨ m_X13_fine σ = 1 := by
  unfold m_X13_fine
  repeat' split
  all_goals first | exact Or.inl rfl | exact Or.inr rfl
theorem ct_X13_fine (l : Launch) (E : xE) (σ : xS)   : xMet l E yX13_fine cX13_fine 1 (some .boolean) { frames := 0, cells := 0, slots := 0, locals := 0 } [.ref (xqa E.2.2 184)] WW WW σ (some (some (iV (m_X13_fine σ)), σ)) := by
  refine xMet.of0 (by decide) (Nat.le_of_ble_eq_true rfl) rfl rfl (fun X hE C => ?_)
  subst hE
  exact xMap (fun v => (some (iV v), σ)) (wk_X13_fine C (fun _ => rfl) )
theorem mt_X13_fine : xMth yX13_fine cX13_fine 1 (some .boolean) 0 := ⟨wd1703, wd164, ⟨by decide, by decide, rfl⟩⟩
theorem vr_X13_fine : xVir yX13_fine := ⟨wd1702, wd54⟩
