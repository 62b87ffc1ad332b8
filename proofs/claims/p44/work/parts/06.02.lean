def m_X4_leftOverCents (n : Nat) (k0 : Nat) (k1 : Nat) (p2 : Int) (p3 : Int) (σ : xS) : Option Int :=
  (m_X4_leftOver n k0 k1 p2 σ).bind fun v1 => xck (zI p2) 6 <| xlet (σ (k1 + 2 + (zI p2).toNat) 8) fun v3 => xj (fun (q7 : Unit) => some 0) fun J5 => if (zI v1) = 0 then J5 () else if 0 < (zI v3) then (m_X1_loavesOf n k1 p2 σ).bind fun v10 => (m_X4_takenOut n k0 k1 p2 v10 σ).bind fun v11 => xlet (p3 - v11) fun v12 => xj (fun (q17 : Int) => some q17) fun J15 => xj (fun (q20 : Unit) => J15 0) fun J18 => if (zI v12) < 0 then J18 () else if (zI v12) ≤ (zI v3) then xck (zI p2) 6 <| xnz (zI v3) <| J15 (v1 * ((zI ((σ (k1 + 2 + (zI p2).toNat) 9) * (v3 - v12))).tdiv (zI v3))) else J18 () else J5 ()
set_option maxHeartbeats 4000000 in
set_option maxRecDepth 100000 in
theorem wk_X4_leftOverCents {X : xX} {Qf : Int → State → Prop} {n : Nat} {k0 : Nat} {k1 : Nat} {p2 : Int} {p3 : Int} {σ : xS} (C : xCx X cX4_leftOverCents "BakeryNight$Night" (some .int) { frames := 3, cells := 0, slots := 0, locals := 68 } 7) (hQ : ∀ v, Qf v = xQf X WW (some (iV v), σ)) (hk0 : isNt k0) (hk1 : isBk k1) : WO X Qf WW σ 0 [(0, .ref (xqa (xXE X).2.2 k0)), (1, .ref (xqa (xXE X).2.2 k1)), (2, iV p2), (3, iV p3)] [] (m_X4_leftOverCents n k0 k1 p2 p3 σ) := by
  unfold m_X4_leftOverCents
  refine x_aload_n C 0 dX4_leftOverCents_0 rfl rfl ?_
  refine x_aload_n C 1 dX4_leftOverCents_1 rfl rfl ?_
  refine x_iload_n C 2 dX4_leftOverCents_2 rfl rfl ?_
  refine x_callV C (ct_X4_leftOver _ _ n k0 k1 p2 σ hk0 hk1) mt_X4_leftOver vr_X4_leftOver wd1491 cls_X4 (at_X4 hk0) rfl ⟨rfl, rfl, Nat.le_of_ble_eq_true rfl, Nat.le_of_ble_eq_true rfl⟩ rfl (by decide) dX4_leftOverCents_3 (kI (fun v1 => ?_))
  refine x_istore (L' := [(4, _), (0, _), (1, _), (2, _), (3, _)]) C dX4_leftOverCents_6 (by decide) rfl ?_
  refine x_aload_n C 2 dX4_leftOverCents_8 rfl rfl ?_
  refine x_get (v := .ref (xqa (xXE X).2.2 (k1 + 1))) C 4 cls_X1 (at_X1 hk1) (by decide) wd350 rfl (xV_r (rt_X1_doughs hk1 _) rfl) dX4_leftOverCents_9 ?_
  refine x_iload_n C 3 dX4_leftOverCents_12 rfl rfl ?_
  refine x_aald C (at_X1_doughs hk1) (by decide) rfl (fun h2 => rl_X1_doughs hk1 _ h2) dX4_leftOverCents_13 (fun h2 => ?_)
  refine x_get (v := iV (σ (k1 + 2 + (zI p2).toNat) 8)) C 8 cls_X2 (el_X1_doughs hk1 h2) (by decide) wd180 rfl rfl dX4_leftOverCents_14 ?_
  refine x_letI (fun v3 => ?_)
  refine x_istore (L' := [(5, _), (4, _), (0, _), (1, _), (2, _), (3, _)]) C dX4_leftOverCents_17 (by decide) rfl ?_
  refine x_iload C 1 dX4_leftOverCents_19 rfl ?_
  refine x_join (fun J => ∀ q7 : Unit, WO X Qf WW σ 29 [] [] (J q7)) ?_ ?_
  · intro q7
    refine x_iconst C (0) dX4_leftOverCents_29 rfl ?_
    exact x_iretQ C (hQ _) rfl dX4_leftOverCents_30
  · intro J5 hJ6
    refine x_if_eq C 29 rfl dX4_leftOverCents_21 rfl (fun c8 => x_op c8 ?_) (fun c8 => x_on c8 ?_)
    · refine x_pick [] rfl ?_
      exact hJ6 ()
    · refine x_iload C 0 dX4_leftOverCents_24 rfl ?_
      refine x_if_gt C 31 rfl dX4_leftOverCents_26 rfl (fun c9 => x_op c9 ?_) (fun c9 => x_on c9 ?_)
      · refine x_iload_n C 5 dX4_leftOverCents_31 rfl rfl ?_
        refine x_aload_n C 2 dX4_leftOverCents_32 rfl rfl ?_
        refine x_aload_n C 3 dX4_leftOverCents_33 rfl rfl ?_
        refine x_iload_n C 4 dX4_leftOverCents_34 rfl rfl ?_
        refine x_aload_n C 3 dX4_leftOverCents_35 rfl rfl ?_
        refine x_iload_n C 4 dX4_leftOverCents_36 rfl rfl ?_
        refine x_callV C (ct_X1_loavesOf _ _ n k1 p2 σ hk1) mt_X1_loavesOf vr_X1_loavesOf wd1495 cls_X1 (at_X1 hk1) rfl ⟨rfl, rfl, Nat.le_of_ble_eq_true rfl, Nat.le_of_ble_eq_true rfl⟩ rfl (Nat.le_of_ble_eq_true rfl) dX4_leftOverCents_37 (kI (fun v10 => ?_))
        refine x_callV C (ct_X4_takenOut _ _ n k0 k1 p2 v10 σ hk0 hk1) mt_X4_takenOut vr_X4_takenOut wd748 cls_X4 (at_X4 hk0) rfl ⟨rfl, rfl, Nat.le_of_ble_eq_true rfl, Nat.le_of_ble_eq_true rfl⟩ rfl (Nat.le_of_ble_eq_true rfl) dX4_leftOverCents_40 (kI (fun v11 => ?_))
        refine x_isub C dX4_leftOverCents_43 ?_
        refine x_letI (fun v12 => ?_)
        refine x_istore (L' := [(6, _), (5, _), (4, _), (0, _), (1, _), (2, _), (3, _)]) C dX4_leftOverCents_44 (by decide) rfl ?_
        refine x_iload C 0 dX4_leftOverCents_46 rfl ?_
        refine x_join (fun J => ∀ q17 : Int, WO X Qf WW σ 83 [] [iV q17] (J q17)) ?_ ?_
        · intro q17
          exact x_iretQ C (hQ _) rfl dX4_leftOverCents_83
        · intro J15 hJ16
          refine x_join (fun J => ∀ q20 : Unit, WO X Qf WW σ 58 [] [] (J q20)) ?_ ?_
          · intro q20
            refine x_iconst C (0) dX4_leftOverCents_58 rfl ?_
            refine x_goto C 83 dX4_leftOverCents_59 rfl ?_
            refine x_pick [] rfl ?_
            exact hJ16 0
          · intro J18 hJ19
            refine x_if_lt C 58 rfl dX4_leftOverCents_48 rfl (fun c21 => x_op c21 ?_) (fun c21 => x_on c21 ?_)
            · refine x_pick [] rfl ?_
              exact hJ19 ()
            · refine x_iload C 0 dX4_leftOverCents_51 rfl ?_
              refine x_iload C 1 dX4_leftOverCents_53 rfl ?_
              refine x_icmp_le C 62 rfl rfl dX4_leftOverCents_55 rfl (fun c22 => x_op c22 ?_) (fun c22 => x_on c22 ?_)
              · refine x_iload C 2 dX4_leftOverCents_62 rfl ?_
                refine x_aload_n C 4 dX4_leftOverCents_64 rfl rfl ?_
                refine x_get (v := .ref (xqa (xXE X).2.2 (k1 + 1))) C 4 cls_X1 (at_X1 hk1) (by decide) wd350 rfl (xV_r (rt_X1_doughs hk1 _) rfl) dX4_leftOverCents_65 ?_
                refine x_iload_n C 5 dX4_leftOverCents_68 rfl rfl ?_
                refine x_aald C (at_X1_doughs hk1) (by decide) rfl (fun h23 => rl_X1_doughs hk1 _ h23) dX4_leftOverCents_69 (fun h23 => ?_)
                refine x_get (v := iV (σ (k1 + 2 + (zI p2).toNat) 9)) C 9 cls_X2 (el_X1_doughs hk1 h23) (by decide) wd182 rfl rfl dX4_leftOverCents_70 ?_
                refine x_iload C 1 dX4_leftOverCents_73 rfl ?_
                refine x_iload C 0 dX4_leftOverCents_75 rfl ?_
                refine x_isub C dX4_leftOverCents_77 ?_
                refine x_imul C dX4_leftOverCents_78 ?_
                refine x_iload C 1 dX4_leftOverCents_79 rfl ?_
                refine x_idiv C dX4_leftOverCents_81 ?_
                refine x_imul C dX4_leftOverCents_82 ?_
                refine x_pick [] rfl ?_
                exact hJ16 (v1 * ((zI ((σ (k1 + 2 + (zI p2).toNat) 9) * (v3 - v12))).tdiv (zI v3)))
              · refine x_pick [] rfl ?_
                exact hJ19 ()
      · refine x_pick [] rfl ?_
        exact hJ6 ()
theorem ct_X4_leftOverCents (l : Launch) (E : xE) (n : Nat) (k0 : Nat) (k1 : Nat) (p2 : Int) (p3 : Int) (σ : xS) (hk0 : isNt k0) (hk1 : isBk k1)  : xMet l E yX4_leftOverCents cX4_leftOverCents 7 (some .int) { frames := 3, cells := 0, slots := 0, locals := 68 } [.ref (xqa E.2.2 k0), .ref (xqa E.2.2 k1), iV p2, iV p3] WW WW σ (xrI (m_X4_leftOverCents n k0 k1 p2 p3 σ) σ) := by
  refine xMet.of0 (by decide) (Nat.le_of_ble_eq_true rfl) rfl rfl (fun X hE C => ?_)
  subst hE
  exact xMap (fun v => (some (iV v), σ)) (wk_X4_leftOverCents C (fun _ => rfl) hk0 hk1)
theorem mt_X4_leftOverCents : xMth yX4_leftOverCents cX4_leftOverCents 7 (some .int) 3 := ⟨wd1490, wd60, ⟨by decide, by decide, rfl⟩⟩
theorem vr_X4_leftOverCents : xVir yX4_leftOverCents := ⟨wd1488, wd1489⟩
def m_X4_hasBatch (k0 : Nat) (p1 : Int) (σ : xS) : Int := if (zI p1) < 0 then 0 else if (zI (σ k0 2)) ≤ (zI p1) then 0 else 1
set_option maxHeartbeats 4000000 in
set_option maxRecDepth 100000 in
theorem wk_X4_hasBatch {X : xX} {Qf : Int → State → Prop} {k0 : Nat} {p1 : Int} {σ : xS} (C : xCx X cX4_hasBatch "BakeryNight$Night" (some .boolean) { frames := 0, cells := 0, slots := 0, locals := 0 } 2) (hQ : ∀ v, Qf v = xQf X WW (some (iV v), σ)) (hk0 : isNt k0) : WO X Qf WW σ 0 [(0, .ref (xqa (xXE X).2.2 k0)), (1, iV p1)] [] (some (m_X4_hasBatch k0 p1 σ)) := by
  refine x_iload_n C 1 dX4_hasBatch_0 rfl rfl ?_
  refine x_if_lt C 16 rfl dX4_hasBatch_1 rfl (fun c1 => ?_) (fun c1 => ?_)
  · refine x_iconst C (0) dX4_hasBatch_16 rfl ?_
    exact x_leafR (by unfold m_X4_hasBatch; rw [if_pos c1]) (x_zretQ C (hQ _) rfl (Or.inl rfl) dX4_hasBatch_17)
  · refine x_iload_n C 1 dX4_hasBatch_4 rfl rfl ?_
    refine x_aload_n C 0 dX4_hasBatch_5 rfl rfl ?_
    refine x_get (v := iV (σ k0 2)) C 2 cls_X4 (at_X4 hk0) (by decide) wd448 rfl rfl dX4_hasBatch_6 ?_
    refine x_icmp_ge C 16 rfl rfl dX4_hasBatch_9 rfl (fun c2 => ?_) (fun c2 => ?_)
    · refine x_iconst C (0) dX4_hasBatch_16 rfl ?_
      exact x_leafR (by unfold m_X4_hasBatch; rw [if_neg c1, if_pos c2]) (x_zretQ C (hQ _) rfl (Or.inl rfl) dX4_hasBatch_17)
    · refine x_iconst C (1) dX4_hasBatch_12 rfl ?_
      refine x_goto C 17 dX4_hasBatch_13 rfl ?_
      exact x_leafR (by unfold m_X4_hasBatch; rw [if_neg c1, if_neg c2]) (x_zretQ C (hQ _) rfl (Or.inr rfl) dX4_hasBatch_17)
theorem bo_X4_hasBatch (k0 : Nat) (p1 : Int) (σ : xS) : m_X4_hasBatch k0 p1 σ = 0 ∨ m_X4_hasBatch k0 p1 σ = 1 := by
  unfold m_X4_hasBatch
  repeat' split
  all_goals first | exact Or.inl rfl | exact Or.inr rfl
theorem ct_X4_hasBatch (l : Launch) (E : xE) (k0 : Nat) (p1 : Int) (σ : xS) (hk0 : isNt k0)  : xMet l E yX4_hasBatch cX4_hasBatch 2 (some .boolean) { frames := 0, cells := 0, slots := 0, locals := 0 } [.ref (xqa E.2.2 k0), iV p1] WW WW σ (some (some (iV (m_X4_hasBatch k0 p1 σ)), σ)) := by
  refine xMet.of0 (by decide) (Nat.le_of_ble_eq_true rfl) rfl rfl (fun X hE C => ?_)
  subst hE
  exact xMap (fun v => (some (iV v), σ)) (wk_X4_hasBatch C (fun _ => rfl) hk0)
theorem mt_X4_hasBatch : xMth yX4_hasBatch cX4_hasBatch 2 (some .boolean) 1 := ⟨wd1422, wd60, ⟨by decide, by decide, rfl⟩⟩
theorem vr_X4_hasBatch : xVir yX4_hasBatch := ⟨wd1420, wd1421⟩
def m_X4_isPlace (p1 : Int) : Int := if (zI p1) < 0 then 0 else if 3 ≤ (zI p1) then 0 else 1
set_option maxHeartbeats 4000000 in
set_option maxRecDepth 100000 in
theorem wk_X4_isPlace {X : xX} {Qf : Int → State → Prop} {p1 : Int} {σ : xS} (C : xCx X cX4_isPlace "BakeryNight$Night" (some .boolean) { frames := 0, cells := 0, slots := 0, locals := 0 } 1) (hQ : ∀ v, Qf v = xQf X WW (some (iV v), σ))  : WO X Qf WW σ 0 [(0, iV p1)] [] (some (m_X4_isPlace p1)) := by
  refine x_iload_n C 0 dX4_isPlace_0 rfl rfl ?_
  refine x_if_lt C 13 rfl dX4_isPlace_1 rfl (fun c1 => ?_) (fun c1 => ?_)
  · refine x_iconst C (0) dX4_isPlace_13 rfl ?_
    exact x_leafR (by unfold m_X4_isPlace; rw [if_pos c1]) (x_zretQ C (hQ _) rfl (Or.inl rfl) dX4_isPlace_14)
  · refine x_iload_n C 0 dX4_isPlace_4 rfl rfl ?_
    refine x_iconst C (3) dX4_isPlace_5 rfl ?_
    refine x_icmp_ge C 13 rfl (zIl _ rfl) dX4_isPlace_6 rfl (fun c2 => ?_) (fun c2 => ?_)
    · refine x_iconst C (0) dX4_isPlace_13 rfl ?_
      exact x_leafR (by unfold m_X4_isPlace; rw [if_neg c1, if_pos c2]) (x_zretQ C (hQ _) rfl (Or.inl rfl) dX4_isPlace_14)
    · refine x_iconst C (1) dX4_isPlace_9 rfl ?_
      refine x_goto C 14 dX4_isPlace_10 rfl ?_
      exact x_leafR (by unfold m_X4_isPlace; rw [if_neg c1, if_neg c2]) (x_zretQ C (hQ _) rfl (Or.inr rfl) dX4_isPlace_14)
theorem bo_X4_isPlace (p1 : Int) : m_X4_isPlace p1 = 0 ∨ m_X4_isPlace p1 = 1 := by
  unfold m_X4_isPlace
  repeat' split
  all_goals first | exact Or.inl rfl | exact Or.inr rfl
theorem ct_X4_isPlace (l : Launch) (E : xE) (p1 : Int)  (σ : xS) : xMet l E yX4_isPlace cX4_isPlace 1 (some .boolean) { frames := 0, cells := 0, slots := 0, locals := 0 } [iV p1] WW WW σ (some (some (iV (m_X4_isPlace p1)), σ)) := by
  refine xMet.of0 (by decide) (Nat.le_of_ble_eq_true rfl) rfl rfl (fun X hE C => ?_)
  subst hE
  exact xMap (fun v => (some (iV v), σ)) (wk_X4_isPlace C (fun _ => rfl) )
theorem mt_X4_isPlace : xMth yX4_isPlace cX4_isPlace 1 (some .boolean) 1 := ⟨wd1462, wd60, ⟨by decide, by decide, rfl⟩⟩
theorem st_X4_isPlace : Cond.static yX4_isPlace ∈ GW := wd1461
def m_X4_stageAt (p1 : Int) : Int := 2 * p1
set_option maxHeartbeats 4000000 in
set_option maxRecDepth 100000 in
theorem wk_X4_stageAt {X : xX} {Qf : Int → State → Prop} {p1 : Int} {σ : xS} (C : xCx X cX4_stageAt "BakeryNight$Night" (some .int) { frames := 0, cells := 0, slots := 0, locals := 0 } 1) (hQ : ∀ v, Qf v = xQf X WW (some (iV v), σ))  : WO X Qf WW σ 0 [(0, iV p1)] [] (some (m_X4_stageAt p1)) := by
  refine x_iconst C (2) dX4_stageAt_0 rfl ?_
  refine x_iload_n C 0 dX4_stageAt_1 rfl rfl ?_
  refine x_imul C dX4_stageAt_2 ?_
  exact x_leafR rfl (x_iretQ C (hQ _) rfl dX4_stageAt_3)
theorem ct_X4_stageAt (l : Launch) (E : xE) (p1 : Int)  (σ : xS) : xMet l E yX4_stageAt cX4_stageAt 1 (some .int) { frames := 0, cells := 0, slots := 0, locals := 0 } [iV p1] WW WW σ (some (some (iV (m_X4_stageAt p1)), σ)) := by
  refine xMet.of0 (by decide) (Nat.le_of_ble_eq_true rfl) rfl rfl (fun X hE C => ?_)
  subst hE
  exact xMap (fun v => (some (iV v), σ)) (wk_X4_stageAt C (fun _ => rfl) )
theorem mt_X4_stageAt : xMth yX4_stageAt cX4_stageAt 1 (some .int) 1 := ⟨wd1469, wd60, ⟨by decide, by decide, rfl⟩⟩
theorem st_X4_stageAt : Cond.static yX4_stageAt ∈ GW := wd1468
def m_X4_spoiledBatches (n : Nat) (k0 : Nat) (σ : xS) : Option Int :=
  loopF (fun rec2 (t1 : Int × Int) => if (zI (σ k0 2)) ≤ (zI t1.2) then some t1.1 else xck (zI t1.2) 60 <| xlet (if (zI (σ (k0 + 12) (zI t1.2).toNat)) = (-1) then 0 else 1) fun v5 => xlet (t1.1 + v5) fun v6 => xlet (t1.2 + 1) fun v7 => rec2 (v6, v7)) n (0, 0)
set_option maxHeartbeats 4000000 in
set_option maxRecDepth 100000 in
theorem wk_X4_spoiledBatches {X : xX} {Qf : Int → State → Prop} {n : Nat} {k0 : Nat} {σ : xS} (C : xCx X cX4_spoiledBatches "BakeryNight$Night" (some .int) { frames := 0, cells := 0, slots := 0, locals := 0 } 3) (hQ : ∀ v, Qf v = xQf X WW (some (iV v), σ)) (hk0 : isNt k0) : WO X Qf WW σ 0 [(0, .ref (xqa (xXE X).2.2 k0))] [] (m_X4_spoiledBatches n k0 σ) := by
  unfold m_X4_spoiledBatches
  refine x_iconst C (0) dX4_spoiledBatches_0 rfl ?_
  refine x_istore_n (L' := [(1, _), (0, _)]) C dX4_spoiledBatches_1 rfl (by decide) rfl ?_
  refine x_iconst C (0) dX4_spoiledBatches_2 rfl ?_
  refine x_istore_n (L' := [(2, _), (1, _), (0, _)]) C dX4_spoiledBatches_3 rfl (by decide) rfl ?_
  refine x_pick [2, 1, 0] rfl ?_
  refine x_loop (fun t1 : Int × Int => σ) (fun t1 : Int × Int => [(0, .ref (xqa (xXE X).2.2 k0)), (1, iV t1.1), (2, iV t1.2)]) (fun rec2 hr3 t1 => ?_) n (0, 0)
  refine x_iload_n C 2 dX4_spoiledBatches_4 rfl rfl ?_
  refine x_aload_n C 0 dX4_spoiledBatches_5 rfl rfl ?_
  refine x_get (v := iV (σ k0 2)) C 2 cls_X4 (at_X4 hk0) (by decide) wd448 rfl rfl dX4_spoiledBatches_6 ?_
  refine x_icmp_ge C 36 rfl rfl dX4_spoiledBatches_9 rfl (fun c4 => x_op c4 ?_) (fun c4 => x_on c4 ?_)
  · refine x_iload_n C 1 dX4_spoiledBatches_36 rfl rfl ?_
    exact x_iretQ C (hQ _) rfl dX4_spoiledBatches_37
  · refine x_iload_n C 1 dX4_spoiledBatches_12 rfl rfl ?_
    refine x_aload_n C 0 dX4_spoiledBatches_13 rfl rfl ?_
    refine x_get (v := .ref (xqa (xXE X).2.2 (k0 + 12))) C 8 cls_X4 (at_X4 hk0) (by decide) wd457 rfl (xV_r (rt_X4_spoiled hk0 _) rfl) dX4_spoiledBatches_14 ?_
    refine x_iload_n C 2 dX4_spoiledBatches_17 rfl rfl ?_
    refine x_iald C (at_X4_spoiled hk0) rfl dX4_spoiledBatches_18 (fun _ => ?_)
    refine x_iconst C (-1) dX4_spoiledBatches_19 rfl ?_
    refine x_tree 28 [iV t1.1] (fun v5 => ?_) (fun hJ8 => ?_)
    · refine x_iadd C dX4_spoiledBatches_28 ?_
      refine x_letI (fun v6 => ?_)
      refine x_istore_n (L' := [(1, _), (0, _), (2, _)]) C dX4_spoiledBatches_29 rfl (by decide) rfl ?_
      refine x_inc C 2 (f := _) dX4_spoiledBatches_30 rfl (by decide) (1) rfl (fun v7 => ?_)
      refine x_reL (L' := [(2, _), (1, _), (0, _)]) rfl ?_
      refine x_goto C 4 dX4_spoiledBatches_33 rfl ?_
      refine x_pick [2, 1, 0] rfl ?_
      exact hr3 (v6, v7)
    · refine x_icmp_ne C 27 rfl (zIl _ rfl) dX4_spoiledBatches_20 rfl (fun c9 => ?_) (fun c9 => ?_)
      · refine x_iconst C (1) dX4_spoiledBatches_27 rfl ?_
        exact hJ8 _ (by rw [if_neg c9])
      · refine x_iconst C (0) dX4_spoiledBatches_23 rfl ?_
        refine x_goto C 28 dX4_spoiledBatches_24 rfl ?_
        exact hJ8 _ (by rw [if_pos c9])
theorem ct_X4_spoiledBatches (l : Launch) (E : xE) (n : Nat) (k0 : Nat) (σ : xS) (hk0 : isNt k0)  : xMet l E yX4_spoiledBatches cX4_spoiledBatches 3 (some .int) { frames := 0, cells := 0, slots := 0, locals := 0 } [.ref (xqa E.2.2 k0)] WW WW σ (xrI (m_X4_spoiledBatches n k0 σ) σ) := by
  refine xMet.of0 (by decide) (Nat.le_of_ble_eq_true rfl) rfl rfl (fun X hE C => ?_)
  subst hE
  exact xMap (fun v => (some (iV v), σ)) (wk_X4_spoiledBatches C (fun _ => rfl) hk0)
theorem mt_X4_spoiledBatches : xMth yX4_spoiledBatches cX4_spoiledBatches 3 (some .int) 0 := ⟨wd759, wd60, ⟨by decide, by decide, rfl⟩⟩
theorem vr_X4_spoiledBatches : xVir yX4_spoiledBatches := ⟨wd757, wd758⟩
def m_X4_minutesBakedIn (n : Nat) (k0 : Nat) (p1 : Int) (σ : xS) : Option Int :=
  loopF (fun rec2 (t1 : Int × Int) => if (zI (σ k0 2)) ≤ (zI t1.2) then some t1.1 else xck (zI t1.2) 60 <| xj (fun (q8 : Int) => xlet (t1.2 + 1) fun v9 => rec2 (q8, v9)) fun J6 => if (zI (σ (k0 + 2) (zI t1.2).toNat)) = (zI p1) then xck 5 6 <| xck (zI t1.2) 60 <| xck 4 6 <| xck (zI t1.2) 60 <| xlet (t1.1 + ((σ (k0 + 4 + (5 : Int).toNat) (zI t1.2).toNat) - (σ (k0 + 4 + (4 : Int).toNat) (zI t1.2).toNat))) fun v13 => J6 v13 else J6 t1.1) n (0, 0)
set_option maxHeartbeats 4000000 in
set_option maxRecDepth 100000 in
theorem wk_X4_minutesBakedIn {X : xX} {Qf : Int → State → Prop} {n : Nat} {k0 : Nat} {p1 : Int} {σ : xS} (C : xCx X cX4_minutesBakedIn "BakeryNight$Night" (some .int) { frames := 0, cells := 0, slots := 0, locals := 0 } 4) (hQ : ∀ v, Qf v = xQf X WW (some (iV v), σ)) (hk0 : isNt k0) : WO X Qf WW σ 0 [(0, .ref (xqa (xXE X).2.2 k0)), (1, iV p1)] [] (m_X4_minutesBakedIn n k0 p1 σ) := by
  unfold m_X4_minutesBakedIn
  refine x_iconst C (0) dX4_minutesBakedIn_0 rfl ?_
  refine x_istore_n (L' := [(2, _), (0, _), (1, _)]) C dX4_minutesBakedIn_1 rfl (by decide) rfl ?_
  refine x_iconst C (0) dX4_minutesBakedIn_2 rfl ?_
  refine x_istore_n (L' := [(3, _), (2, _), (0, _), (1, _)]) C dX4_minutesBakedIn_3 rfl (by decide) rfl ?_
  refine x_pick [2, 3, 1, 0] rfl ?_
  refine x_loop (fun t1 : Int × Int => σ) (fun t1 : Int × Int => [(0, .ref (xqa (xXE X).2.2 k0)), (1, iV p1), (2, iV t1.1), (3, iV t1.2)]) (fun rec2 hr3 t1 => ?_) n (0, 0)
  refine x_iload_n C 3 dX4_minutesBakedIn_4 rfl rfl ?_
  refine x_aload_n C 0 dX4_minutesBakedIn_5 rfl rfl ?_
  refine x_get (v := iV (σ k0 2)) C 2 cls_X4 (at_X4 hk0) (by decide) wd448 rfl rfl dX4_minutesBakedIn_6 ?_
  refine x_icmp_ge C 48 rfl rfl dX4_minutesBakedIn_9 rfl (fun c4 => x_op c4 ?_) (fun c4 => x_on c4 ?_)
  · refine x_iload_n C 2 dX4_minutesBakedIn_48 rfl rfl ?_
    exact x_iretQ C (hQ _) rfl dX4_minutesBakedIn_49
  · refine x_aload_n C 0 dX4_minutesBakedIn_12 rfl rfl ?_
    refine x_get (v := .ref (xqa (xXE X).2.2 (k0 + 2))) C 4 cls_X4 (at_X4 hk0) (by decide) wd451 rfl (xV_r (rt_X4_oven hk0 _) rfl) dX4_minutesBakedIn_13 ?_
    refine x_iload_n C 3 dX4_minutesBakedIn_16 rfl rfl ?_
    refine x_iald C (at_X4_oven hk0) rfl dX4_minutesBakedIn_17 (fun _ => ?_)
    refine x_iload_n C 1 dX4_minutesBakedIn_18 rfl rfl ?_
    refine x_join (fun J => ∀ q8 : Int, WO X Qf WW σ 42 [(0, .ref (xqa (xXE X).2.2 k0)), (1, iV p1), (2, iV q8), (3, iV t1.2)] [] (J q8)) ?_ ?_
    · intro q8
      refine x_inc C 3 (f := _) dX4_minutesBakedIn_42 rfl (by decide) (1) rfl (fun v9 => ?_)
      refine x_reL (L' := [(3, _), (0, _), (1, _), (2, _)]) rfl ?_
      refine x_goto C 4 dX4_minutesBakedIn_45 rfl ?_
      refine x_pick [1, 2, 3, 0] rfl ?_
      exact hr3 (q8, v9)
    · intro J6 hJ7
      refine x_icmp_ne C 42 rfl rfl dX4_minutesBakedIn_19 rfl (fun c10 => x_on c10 ?_) (fun c10 => x_op c10 ?_)
      · refine x_pick [0, 1, 2, 3] rfl ?_
        exact hJ7 t1.1
      · refine x_iload_n C 2 dX4_minutesBakedIn_22 rfl rfl ?_
        refine x_aload_n C 0 dX4_minutesBakedIn_23 rfl rfl ?_
        refine x_get (v := .ref (xqa (xXE X).2.2 (k0 + 3))) C 5 cls_X4 (at_X4 hk0) (by decide) wd453 rfl (xV_r (rt_X4_begun hk0 _) rfl) dX4_minutesBakedIn_24 ?_
        refine x_iconst C (5) dX4_minutesBakedIn_27 rfl ?_
        refine x_aald C (at_X4_begun hk0) (by decide) (zIl _ rfl) (fun h11 => rl_X4_begun hk0 _ h11) dX4_minutesBakedIn_28 (fun h11 => ?_)
        refine x_iload_n C 3 dX4_minutesBakedIn_29 rfl rfl ?_
        refine x_iald C (el_X4_begun hk0 h11) rfl dX4_minutesBakedIn_30 (fun _ => ?_)
        refine x_aload_n C 0 dX4_minutesBakedIn_31 rfl rfl ?_
        refine x_get (v := .ref (xqa (xXE X).2.2 (k0 + 3))) C 5 cls_X4 (at_X4 hk0) (by decide) wd453 rfl (xV_r (rt_X4_begun hk0 _) rfl) dX4_minutesBakedIn_32 ?_
        refine x_iconst C (4) dX4_minutesBakedIn_35 rfl ?_
        refine x_aald C (at_X4_begun hk0) (by decide) (zIl _ rfl) (fun h12 => rl_X4_begun hk0 _ h12) dX4_minutesBakedIn_36 (fun h12 => ?_)
        refine x_iload_n C 3 dX4_minutesBakedIn_37 rfl rfl ?_
        refine x_iald C (el_X4_begun hk0 h12) rfl dX4_minutesBakedIn_38 (fun _ => ?_)
        refine x_isub C dX4_minutesBakedIn_39 ?_
        refine x_iadd C dX4_minutesBakedIn_40 ?_
        refine x_letI (fun v13 => ?_)
        refine x_istore_n (L' := [(2, _), (0, _), (1, _), (3, _)]) C dX4_minutesBakedIn_41 rfl (by decide) rfl ?_
        refine x_pick [1, 2, 0, 3] rfl ?_
        exact hJ7 v13
theorem ct_X4_minutesBakedIn (l : Launch) (E : xE) (n : Nat) (k0 : Nat) (p1 : Int) (σ : xS) (hk0 : isNt k0)  : xMet l E yX4_minutesBakedIn cX4_minutesBakedIn 4 (some .int) { frames := 0, cells := 0, slots := 0, locals := 0 } [.ref (xqa E.2.2 k0), iV p1] WW WW σ (xrI (m_X4_minutesBakedIn n k0 p1 σ) σ) := by
  refine xMet.of0 (by decide) (Nat.le_of_ble_eq_true rfl) rfl rfl (fun X hE C => ?_)
  subst hE
  exact xMap (fun v => (some (iV v), σ)) (wk_X4_minutesBakedIn C (fun _ => rfl) hk0)
theorem mt_X4_minutesBakedIn : xMth yX4_minutesBakedIn cX4_minutesBakedIn 4 (some .int) 1 := ⟨wd1455, wd60, ⟨by decide, by decide, rfl⟩⟩
theorem vr_X4_minutesBakedIn : xVir yX4_minutesBakedIn := ⟨wd1453, wd1454⟩
def m_X4_minutesWaitedFor (n : Nat) (k0 : Nat) (p1 : Int) (σ : xS) : Option Int :=
  loopF (fun rec2 (t1 : Int × Int) => if (zI (σ k0 2)) ≤ (zI t1.2) then some t1.1 else xj (fun (q8 : Int) => xlet (t1.2 + 1) fun v9 => rec2 (q8, v9)) fun J6 => if (zI (m_X4_stageAt p1)) = 0 then xck 0 6 <| xck (zI t1.2) 60 <| xlet (t1.1 + ((σ (k0 + 4 + (0 : Int).toNat) (zI t1.2).toNat) - (σ k0 0))) fun v17 => J6 v17 else if (zI (m_X4_stageAt p1)) = 2 then xck 2 6 <| xck (zI t1.2) 60 <| xck (zI t1.2) 60 <| xlet (t1.1 + ((σ (k0 + 4 + (2 : Int).toNat) (zI t1.2).toNat) - (σ (k0 + 10) (zI t1.2).toNat))) fun v15 => J6 v15 else xck 4 6 <| xck (zI t1.2) 60 <| xck (zI t1.2) 60 <| xck (zI t1.2) 60 <| xlet (t1.1 + ((zmax (σ (k0 + 4 + (4 : Int).toNat) (zI t1.2).toNat) (σ (k0 + 12) (zI t1.2).toNat)) - (σ (k0 + 11) (zI t1.2).toNat))) fun v13 => J6 v13) n (0, 0)
set_option maxHeartbeats 4000000 in
set_option maxRecDepth 100000 in
theorem wk_X4_minutesWaitedFor {X : xX} {Qf : Int → State → Prop} {n : Nat} {k0 : Nat} {p1 : Int} {σ : xS} (C : xCx X cX4_minutesWaitedFor "BakeryNight$Night" (some .int) { frames := 1, cells := 0, slots := 0, locals := 21 } 4) (hQ : ∀ v, Qf v = xQf X WW (some (iV v), σ)) (hk0 : isNt k0) : WO X Qf WW σ 0 [(0, .ref (xqa (xXE X).2.2 k0)), (1, iV p1)] [] (m_X4_minutesWaitedFor n k0 p1 σ) := by
  unfold m_X4_minutesWaitedFor
  refine x_iconst C (0) dX4_minutesWaitedFor_0 rfl ?_
  refine x_istore_n (L' := [(2, _), (0, _), (1, _)]) C dX4_minutesWaitedFor_1 rfl (by decide) rfl ?_
  refine x_iconst C (0) dX4_minutesWaitedFor_2 rfl ?_
  refine x_istore_n (L' := [(3, _), (2, _), (0, _), (1, _)]) C dX4_minutesWaitedFor_3 rfl (by decide) rfl ?_
  refine x_pick [2, 3, 1, 0] rfl ?_
  refine x_loop (fun t1 : Int × Int => σ) (fun t1 : Int × Int => [(0, .ref (xqa (xXE X).2.2 k0)), (1, iV p1), (2, iV t1.1), (3, iV t1.2)]) (fun rec2 hr3 t1 => ?_) n (0, 0)
  refine x_iload_n C 3 dX4_minutesWaitedFor_4 rfl rfl ?_
  refine x_aload_n C 0 dX4_minutesWaitedFor_5 rfl rfl ?_
  refine x_get (v := iV (σ k0 2)) C 2 cls_X4 (at_X4 hk0) (by decide) wd448 rfl rfl dX4_minutesWaitedFor_6 ?_
  refine x_icmp_ge C 100 rfl rfl dX4_minutesWaitedFor_9 rfl (fun c4 => x_op c4 ?_) (fun c4 => x_on c4 ?_)
  · refine x_iload_n C 2 dX4_minutesWaitedFor_100 rfl rfl ?_
    exact x_iretQ C (hQ _) rfl dX4_minutesWaitedFor_101
  · refine x_iload_n C 1 dX4_minutesWaitedFor_12 rfl rfl ?_
    refine x_callS C (ct_X4_stageAt _ _ p1 σ) mt_X4_stageAt st_X4_stageAt wd1467 rfl ⟨rfl, rfl, Nat.le_of_ble_eq_true rfl, Nat.le_of_ble_eq_true rfl⟩ rfl (by decide) dX4_minutesWaitedFor_13 (kP ?_)
    refine x_join (fun J => ∀ q8 : Int, WO X Qf WW σ 94 [(0, .ref (xqa (xXE X).2.2 k0)), (1, iV p1), (2, iV q8), (3, iV t1.2)] [] (J q8)) ?_ ?_
    · intro q8
      refine x_inc C 3 (f := _) dX4_minutesWaitedFor_94 rfl (by decide) (1) rfl (fun v9 => ?_)
      refine x_reL (L' := [(3, _), (0, _), (1, _), (2, _)]) rfl ?_
      refine x_goto C 4 dX4_minutesWaitedFor_97 rfl ?_
      refine x_pick [1, 2, 3, 0] rfl ?_
      exact hr3 (q8, v9)
    · intro J6 hJ7
      refine x_if_ne C 38 rfl dX4_minutesWaitedFor_16 rfl (fun c10 => x_on c10 ?_) (fun c10 => x_op c10 ?_)
      · refine x_iload_n C 1 dX4_minutesWaitedFor_38 rfl rfl ?_
        refine x_callS C (ct_X4_stageAt _ _ p1 σ) mt_X4_stageAt st_X4_stageAt wd1467 rfl ⟨rfl, rfl, Nat.le_of_ble_eq_true rfl, Nat.le_of_ble_eq_true rfl⟩ rfl (by decide) dX4_minutesWaitedFor_39 (kP ?_)
        refine x_iconst C (2) dX4_minutesWaitedFor_42 rfl ?_
        refine x_icmp_ne C 67 rfl (zIl _ rfl) dX4_minutesWaitedFor_43 rfl (fun c11 => x_on c11 ?_) (fun c11 => x_op c11 ?_)
        · refine x_iload_n C 2 dX4_minutesWaitedFor_67 rfl rfl ?_
          refine x_aload_n C 0 dX4_minutesWaitedFor_68 rfl rfl ?_
          refine x_get (v := .ref (xqa (xXE X).2.2 (k0 + 3))) C 5 cls_X4 (at_X4 hk0) (by decide) wd453 rfl (xV_r (rt_X4_begun hk0 _) rfl) dX4_minutesWaitedFor_69 ?_
          refine x_iconst C (4) dX4_minutesWaitedFor_72 rfl ?_
          refine x_aald C (at_X4_begun hk0) (by decide) (zIl _ rfl) (fun h12 => rl_X4_begun hk0 _ h12) dX4_minutesWaitedFor_73 (fun h12 => ?_)
          refine x_iload_n C 3 dX4_minutesWaitedFor_74 rfl rfl ?_
          refine x_iald C (el_X4_begun hk0 h12) rfl dX4_minutesWaitedFor_75 (fun _ => ?_)
          refine x_aload_n C 0 dX4_minutesWaitedFor_76 rfl rfl ?_
          refine x_get (v := .ref (xqa (xXE X).2.2 (k0 + 12))) C 8 cls_X4 (at_X4 hk0) (by decide) wd457 rfl (xV_r (rt_X4_spoiled hk0 _) rfl) dX4_minutesWaitedFor_77 ?_
          refine x_iload_n C 3 dX4_minutesWaitedFor_80 rfl rfl ?_
          refine x_iald C (at_X4_spoiled hk0) rfl dX4_minutesWaitedFor_81 (fun _ => ?_)
          refine x_mmax C wd714 wd715 wd58 wd716 (Nat.le_of_ble_eq_true rfl) (Nat.le_of_ble_eq_true rfl) dX4_minutesWaitedFor_82 ?_
          refine x_aload_n C 0 dX4_minutesWaitedFor_85 rfl rfl ?_
          refine x_get (v := .ref (xqa (xXE X).2.2 (k0 + 11))) C 7 cls_X4 (at_X4 hk0) (by decide) wd456 rfl (xV_r (rt_X4_proofed hk0 _) rfl) dX4_minutesWaitedFor_86 ?_
          refine x_iload_n C 3 dX4_minutesWaitedFor_89 rfl rfl ?_
          refine x_iald C (at_X4_proofed hk0) rfl dX4_minutesWaitedFor_90 (fun _ => ?_)
          refine x_isub C dX4_minutesWaitedFor_91 ?_
          refine x_iadd C dX4_minutesWaitedFor_92 ?_
          refine x_letI (fun v13 => ?_)
          refine x_istore_n (L' := [(2, _), (0, _), (1, _), (3, _)]) C dX4_minutesWaitedFor_93 rfl (by decide) rfl ?_
          refine x_pick [1, 2, 0, 3] rfl ?_
          exact hJ7 v13
        · refine x_iload_n C 2 dX4_minutesWaitedFor_46 rfl rfl ?_
          refine x_aload_n C 0 dX4_minutesWaitedFor_47 rfl rfl ?_
          refine x_get (v := .ref (xqa (xXE X).2.2 (k0 + 3))) C 5 cls_X4 (at_X4 hk0) (by decide) wd453 rfl (xV_r (rt_X4_begun hk0 _) rfl) dX4_minutesWaitedFor_48 ?_
          refine x_iconst C (2) dX4_minutesWaitedFor_51 rfl ?_
          refine x_aald C (at_X4_begun hk0) (by decide) (zIl _ rfl) (fun h14 => rl_X4_begun hk0 _ h14) dX4_minutesWaitedFor_52 (fun h14 => ?_)
          refine x_iload_n C 3 dX4_minutesWaitedFor_53 rfl rfl ?_
          refine x_iald C (el_X4_begun hk0 h14) rfl dX4_minutesWaitedFor_54 (fun _ => ?_)
          refine x_aload_n C 0 dX4_minutesWaitedFor_55 rfl rfl ?_
          refine x_get (v := .ref (xqa (xXE X).2.2 (k0 + 10))) C 6 cls_X4 (at_X4 hk0) (by decide) wd455 rfl (xV_r (rt_X4_risen hk0 _) rfl) dX4_minutesWaitedFor_56 ?_
          refine x_iload_n C 3 dX4_minutesWaitedFor_59 rfl rfl ?_
          refine x_iald C (at_X4_risen hk0) rfl dX4_minutesWaitedFor_60 (fun _ => ?_)
          refine x_isub C dX4_minutesWaitedFor_61 ?_
          refine x_iadd C dX4_minutesWaitedFor_62 ?_
          refine x_letI (fun v15 => ?_)
          refine x_istore_n (L' := [(2, _), (0, _), (1, _), (3, _)]) C dX4_minutesWaitedFor_63 rfl (by decide) rfl ?_
          refine x_goto C 94 dX4_minutesWaitedFor_64 rfl ?_
          refine x_pick [1, 2, 0, 3] rfl ?_
          exact hJ7 v15
      · refine x_iload_n C 2 dX4_minutesWaitedFor_19 rfl rfl ?_
        refine x_aload_n C 0 dX4_minutesWaitedFor_20 rfl rfl ?_
        refine x_get (v := .ref (xqa (xXE X).2.2 (k0 + 3))) C 5 cls_X4 (at_X4 hk0) (by decide) wd453 rfl (xV_r (rt_X4_begun hk0 _) rfl) dX4_minutesWaitedFor_21 ?_
        refine x_iconst C (0) dX4_minutesWaitedFor_24 rfl ?_
        refine x_aald C (at_X4_begun hk0) (by decide) (zIl _ rfl) (fun h16 => rl_X4_begun hk0 _ h16) dX4_minutesWaitedFor_25 (fun h16 => ?_)
        refine x_iload_n C 3 dX4_minutesWaitedFor_26 rfl rfl ?_
        refine x_iald C (el_X4_begun hk0 h16) rfl dX4_minutesWaitedFor_27 (fun _ => ?_)
        refine x_aload_n C 0 dX4_minutesWaitedFor_28 rfl rfl ?_
        refine x_get (v := iV (σ k0 0)) C 0 cls_X4 (at_X4 hk0) (by decide) wd445 rfl rfl dX4_minutesWaitedFor_29 ?_
        refine x_isub C dX4_minutesWaitedFor_32 ?_
        refine x_iadd C dX4_minutesWaitedFor_33 ?_
        refine x_letI (fun v17 => ?_)
        refine x_istore_n (L' := [(2, _), (0, _), (1, _), (3, _)]) C dX4_minutesWaitedFor_34 rfl (by decide) rfl ?_
        refine x_goto C 94 dX4_minutesWaitedFor_35 rfl ?_
        refine x_pick [1, 2, 0, 3] rfl ?_
        exact hJ7 v17
theorem ct_X4_minutesWaitedFor (l : Launch) (E : xE) (n : Nat) (k0 : Nat) (p1 : Int) (σ : xS) (hk0 : isNt k0)  : xMet l E yX4_minutesWaitedFor cX4_minutesWaitedFor 4 (some .int) { frames := 1, cells := 0, slots := 0, locals := 21 } [.ref (xqa E.2.2 k0), iV p1] WW WW σ (xrI (m_X4_minutesWaitedFor n k0 p1 σ) σ) := by
  refine xMet.of0 (by decide) (Nat.le_of_ble_eq_true rfl) rfl rfl (fun X hE C => ?_)
  subst hE
  exact xMap (fun v => (some (iV v), σ)) (wk_X4_minutesWaitedFor C (fun _ => rfl) hk0)
theorem mt_X4_minutesWaitedFor : xMth yX4_minutesWaitedFor cX4_minutesWaitedFor 4 (some .int) 1 := ⟨wd1466, wd60, ⟨by decide, by decide, rfl⟩⟩
theorem vr_X4_minutesWaitedFor : xVir yX4_minutesWaitedFor := ⟨wd1464, wd1465⟩
def m_X5_set (k0 : Nat) (p1 : Int) (p2 : Int) (p3 : Int) (p4 : Int) (σ : xS) : Option xS :=
  xlet (xput σ k0 0 p1) fun s1 => xlet (xput s1 k0 1 p2) fun s2 => xlet (xput s2 k0 2 p3) fun s3 => xlet (xput s3 k0 3 p4) fun s4 => xlet (xput s4 k0 4 0) fun s5 => some s5
set_option maxHeartbeats 4000000 in
set_option maxRecDepth 100000 in
theorem wk_X5_set {X : xX} {Qf : xS → State → Prop} {k0 : Nat} {p1 : Int} {p2 : Int} {p3 : Int} {p4 : Int} {σ : xS} (C : xCx X cX5_set "BakeryNight$Order" none { frames := 0, cells := 0, slots := 0, locals := 0 } 5) (hQ : ∀ τ, Qf τ = xQf X WW (none, τ)) (hk0 : xAt WW k0 24 5) : WO X Qf WW σ 0 [(0, .ref (xqa (xXE X).2.2 k0)), (1, iV p1), (2, iV p2), (3, iV p3), (4, iV p4)] [] (m_X5_set k0 p1 p2 p3 p4 σ) := by
  unfold m_X5_set
  refine x_aload_n C 0 dX5_set_0 rfl rfl ?_
  refine x_iload_n C 1 dX5_set_1 rfl rfl ?_
  refine x_put C 0 p1 cls_X5 hk0 (by decide) wd238 rfl rfl rfl rfl (xV_pI rfl) dX5_set_2 ?_
  refine x_letS (fun s1 => ?_)
  refine x_aload_n C 0 dX5_set_5 rfl rfl ?_
  refine x_iload_n C 2 dX5_set_6 rfl rfl ?_
  refine x_put C 1 p2 cls_X5 hk0 (by decide) wd240 rfl rfl rfl rfl (xV_pI rfl) dX5_set_7 ?_
  refine x_letS (fun s2 => ?_)
  refine x_aload_n C 0 dX5_set_10 rfl rfl ?_
  refine x_iload_n C 3 dX5_set_11 rfl rfl ?_
  refine x_put C 2 p3 cls_X5 hk0 (by decide) wd243 rfl rfl rfl rfl (xV_pI rfl) dX5_set_12 ?_
  refine x_letS (fun s3 => ?_)
  refine x_aload_n C 0 dX5_set_15 rfl rfl ?_
  refine x_iload C 4 dX5_set_16 rfl ?_
  refine x_put C 3 p4 cls_X5 hk0 (by decide) wd247 rfl rfl rfl rfl (xV_pI rfl) dX5_set_18 ?_
  refine x_letS (fun s4 => ?_)
  refine x_aload_n C 0 dX5_set_21 rfl rfl ?_
  refine x_iconst C (0) dX5_set_22 rfl ?_
  refine x_put C 4 0 cls_X5 hk0 (by decide) wd252 rfl rfl (xnb (Or.inl rfl)) (xfb (Or.inl rfl)) (xV_pI rfl) dX5_set_23 ?_
  refine x_letS (fun s5 => ?_)
  exact x_vretQ C (hQ _) rfl dX5_set_26
theorem ct_X5_set (l : Launch) (E : xE) (k0 : Nat) (p1 : Int) (p2 : Int) (p3 : Int) (p4 : Int) (σ : xS) (hk0 : xAt WW k0 24 5)  : xMet l E yX5_set cX5_set 5 none { frames := 0, cells := 0, slots := 0, locals := 0 } [.ref (xqa E.2.2 k0), iV p1, iV p2, iV p3, iV p4] WW WW σ (xrV (m_X5_set k0 p1 p2 p3 p4 σ)) := by
  refine xMet.of0 (by decide) (Nat.le_of_ble_eq_true rfl) rfl rfl (fun X hE C => ?_)
  subst hE
  exact xMap (fun q => (none, q)) (wk_X5_set C (fun _ => rfl) hk0)
theorem mt_X5_set : xMth yX5_set cX5_set 5 none 4 := ⟨wd1085, wd55, ⟨by decide, by decide, rfl⟩⟩
theorem vr_X5_set : xVir yX5_set := ⟨wd1083, wd1084⟩
def m_X10_kindOf (p1 : Int) : Int := if (zI p1) < 97 then if (zI p1) < 48 then if (zI p1) = 32 then 4 else if (zI p1) = 10 then 4 else if (zI p1) = 59 then 3 else 5 else if 57 < (zI p1) then if (zI p1) = 32 then 4 else if (zI p1) = 10 then 4 else if (zI p1) = 59 then 3 else 5 else 2 else if 122 < (zI p1) then if (zI p1) < 48 then if (zI p1) = 32 then 4 else if (zI p1) = 10 then 4 else if (zI p1) = 59 then 3 else 5 else if 57 < (zI p1) then if (zI p1) = 32 then 4 else if (zI p1) = 10 then 4 else if (zI p1) = 59 then 3 else 5 else 2 else 1
set_option maxHeartbeats 4000000 in
set_option maxRecDepth 100000 in
theorem wk_X10_kindOf {X : xX} {Qf : Int → State → Prop} {p1 : Int} {σ : xS} (C : xCx X cX10_kindOf "BakeryNight$Scanner" (some .int) { frames := 0, cells := 0, slots := 0, locals := 0 } 1) (hQ : ∀ v, Qf v = xQf X WW (some (iV v), σ))  : WO X Qf WW σ 0 [(0, iV p1)] [] (some (m_X10_kindOf p1)) := by
  refine x_iload_n C 0 dX10_kindOf_0 rfl rfl ?_
  refine x_bipush C (97) dX10_kindOf_1 rfl ?_
  refine x_icmp_lt C 14 rfl (zIl _ rfl) dX10_kindOf_3 rfl (fun c1 => ?_) (fun c1 => ?_)
  · refine x_iload_n C 0 dX10_kindOf_14 rfl rfl ?_
    refine x_bipush C (48) dX10_kindOf_15 rfl ?_
    refine x_icmp_lt C 28 rfl (zIl _ rfl) dX10_kindOf_17 rfl (fun c2 => ?_) (fun c2 => ?_)
    · refine x_iload_n C 0 dX10_kindOf_28 rfl rfl ?_
      refine x_bipush C (32) dX10_kindOf_29 rfl ?_
      refine x_icmp_eq C 40 rfl (zIl _ rfl) dX10_kindOf_31 rfl (fun c3 => ?_) (fun c3 => ?_)
      · refine x_iconst C (4) dX10_kindOf_40 rfl ?_
        exact x_leafR (by unfold m_X10_kindOf; rw [if_pos c1, if_pos c2, if_pos c3]) (x_iretQ C (hQ _) rfl dX10_kindOf_41)
      · refine x_iload_n C 0 dX10_kindOf_34 rfl rfl ?_
        refine x_bipush C (10) dX10_kindOf_35 rfl ?_
        refine x_icmp_ne C 42 rfl (zIl _ rfl) dX10_kindOf_37 rfl (fun c4 => ?_) (fun c4 => ?_)
        · refine x_iload_n C 0 dX10_kindOf_42 rfl rfl ?_
          refine x_bipush C (59) dX10_kindOf_43 rfl ?_
          refine x_icmp_ne C 52 rfl (zIl _ rfl) dX10_kindOf_45 rfl (fun c5 => ?_) (fun c5 => ?_)
          · refine x_iconst C (5) dX10_kindOf_52 rfl ?_
            exact x_leafR (by unfold m_X10_kindOf; rw [if_pos c1, if_pos c2, if_neg c3, if_neg c4, if_neg c5]) (x_iretQ C (hQ _) rfl dX10_kindOf_53)
          · refine x_iconst C (3) dX10_kindOf_48 rfl ?_
            refine x_goto C 53 dX10_kindOf_49 rfl ?_
            exact x_leafR (by unfold m_X10_kindOf; rw [if_pos c1, if_pos c2, if_neg c3, if_neg c4, if_pos c5]) (x_iretQ C (hQ _) rfl dX10_kindOf_53)
        · refine x_iconst C (4) dX10_kindOf_40 rfl ?_
          exact x_leafR (by unfold m_X10_kindOf; rw [if_pos c1, if_pos c2, if_neg c3, if_pos c4]) (x_iretQ C (hQ _) rfl dX10_kindOf_41)
    · refine x_iload_n C 0 dX10_kindOf_20 rfl rfl ?_
      refine x_bipush C (57) dX10_kindOf_21 rfl ?_
      refine x_icmp_gt C 28 rfl (zIl _ rfl) dX10_kindOf_23 rfl (fun c6 => ?_) (fun c6 => ?_)
      · refine x_iload_n C 0 dX10_kindOf_28 rfl rfl ?_
        refine x_bipush C (32) dX10_kindOf_29 rfl ?_
        refine x_icmp_eq C 40 rfl (zIl _ rfl) dX10_kindOf_31 rfl (fun c7 => ?_) (fun c7 => ?_)
        · refine x_iconst C (4) dX10_kindOf_40 rfl ?_
          exact x_leafR (by unfold m_X10_kindOf; rw [if_pos c1, if_neg c2, if_pos c6, if_pos c7]) (x_iretQ C (hQ _) rfl dX10_kindOf_41)
        · refine x_iload_n C 0 dX10_kindOf_34 rfl rfl ?_
          refine x_bipush C (10) dX10_kindOf_35 rfl ?_
          refine x_icmp_ne C 42 rfl (zIl _ rfl) dX10_kindOf_37 rfl (fun c8 => ?_) (fun c8 => ?_)
          · refine x_iload_n C 0 dX10_kindOf_42 rfl rfl ?_
            refine x_bipush C (59) dX10_kindOf_43 rfl ?_
            refine x_icmp_ne C 52 rfl (zIl _ rfl) dX10_kindOf_45 rfl (fun c9 => ?_) (fun c9 => ?_)
            · refine x_iconst C (5) dX10_kindOf_52 rfl ?_
              exact x_leafR (by unfold m_X10_kindOf; rw [if_pos c1, if_neg c2, if_pos c6, if_neg c7, if_neg c8, if_neg c9]) (x_iretQ C (hQ _) rfl dX10_kindOf_53)
            · refine x_iconst C (3) dX10_kindOf_48 rfl ?_
              refine x_goto C 53 dX10_kindOf_49 rfl ?_
              exact x_leafR (by unfold m_X10_kindOf; rw [if_pos c1, if_neg c2, if_pos c6, if_neg c7, if_neg c8, if_pos c9]) (x_iretQ C (hQ _) rfl dX10_kindOf_53)
          · refine x_iconst C (4) dX10_kindOf_40 rfl ?_
            exact x_leafR (by unfold m_X10_kindOf; rw [if_pos c1, if_neg c2, if_pos c6, if_neg c7, if_pos c8]) (x_iretQ C (hQ _) rfl dX10_kindOf_41)
      · refine x_iconst C (2) dX10_kindOf_26 rfl ?_
        exact x_leafR (by unfold m_X10_kindOf; rw [if_pos c1, if_neg c2, if_neg c6]) (x_iretQ C (hQ _) rfl dX10_kindOf_27)
  · refine x_iload_n C 0 dX10_kindOf_6 rfl rfl ?_
    refine x_bipush C (122) dX10_kindOf_7 rfl ?_
    refine x_icmp_gt C 14 rfl (zIl _ rfl) dX10_kindOf_9 rfl (fun c10 => ?_) (fun c10 => ?_)
    · refine x_iload_n C 0 dX10_kindOf_14 rfl rfl ?_
      refine x_bipush C (48) dX10_kindOf_15 rfl ?_
      refine x_icmp_lt C 28 rfl (zIl _ rfl) dX10_kindOf_17 rfl (fun c11 => ?_) (fun c11 => ?_)
      · refine x_iload_n C 0 dX10_kindOf_28 rfl rfl ?_
        refine x_bipush C (32) dX10_kindOf_29 rfl ?_
        refine x_icmp_eq C 40 rfl (zIl _ rfl) dX10_kindOf_31 rfl (fun c12 => ?_) (fun c12 => ?_)
        · refine x_iconst C (4) dX10_kindOf_40 rfl ?_
          exact x_leafR (by unfold m_X10_kindOf; rw [if_neg c1, if_pos c10, if_pos c11, if_pos c12]) (x_iretQ C (hQ _) rfl dX10_kindOf_41)
        · refine x_iload_n C 0 dX10_kindOf_34 rfl rfl ?_
          refine x_bipush C (10) dX10_kindOf_35 rfl ?_
          refine x_icmp_ne C 42 rfl (zIl _ rfl) dX10_kindOf_37 rfl (fun c13 => ?_) (fun c13 => ?_)
          · refine x_iload_n C 0 dX10_kindOf_42 rfl rfl ?_
            refine x_bipush C (59) dX10_kindOf_43 rfl ?_
            refine x_icmp_ne C 52 rfl (zIl _ rfl) dX10_kindOf_45 rfl (fun c14 => ?_) (fun c14 => ?_)
            · refine x_iconst C (5) dX10_kindOf_52 rfl ?_
              exact x_leafR (by unfold m_X10_kindOf; rw [if_neg c1, if_pos c10, if_pos c11, if_neg c12, if_neg c13, if_neg c14]) (x_iretQ C (hQ _) rfl dX10_kindOf_53)
            · refine x_iconst C (3) dX10_kindOf_48 rfl ?_
              refine x_goto C 53 dX10_kindOf_49 rfl ?_
              exact x_leafR (by unfold m_X10_kindOf; rw [if_neg c1, if_pos c10, if_pos c11, if_neg c12, if_neg c13, if_pos c14]) (x_iretQ C (hQ _) rfl dX10_kindOf_53)
          · refine x_iconst C (4) dX10_kindOf_40 rfl ?_
            exact x_leafR (by unfold m_X10_kindOf; rw [if_neg c1, if_pos c10, if_pos c11, if_neg c12, if_pos c13]) (x_iretQ C (hQ _) rfl dX10_kindOf_41)
      · refine x_iload_n C 0 dX10_kindOf_20 rfl rfl ?_
        refine x_bipush C (57) dX10_kindOf_21 rfl ?_
        refine x_icmp_gt C 28 rfl (zIl _ rfl) dX10_kindOf_23 rfl (fun c15 => ?_) (fun c15 => ?_)
        · refine x_iload_n C 0 dX10_kindOf_28 rfl rfl ?_
          refine x_bipush C (32) dX10_kindOf_29 rfl ?_
          refine x_icmp_eq C 40 rfl (zIl _ rfl) dX10_kindOf_31 rfl (fun c16 => ?_) (fun c16 => ?_)
          · refine x_iconst C (4) dX10_kindOf_40 rfl ?_
            exact x_leafR (by unfold m_X10_kindOf; rw [if_neg c1, if_pos c10, if_neg c11, if_pos c15, if_pos c16]) (x_iretQ C (hQ _) rfl dX10_kindOf_41)
          · refine x_iload_n C 0 dX10_kindOf_34 rfl rfl ?_
            refine x_bipush C (10) dX10_kindOf_35 rfl ?_
            refine x_icmp_ne C 42 rfl (zIl _ rfl) dX10_kindOf_37 rfl (fun c17 => ?_) (fun c17 => ?_)
            · refine x_iload_n C 0 dX10_kindOf_42 rfl rfl ?_
              refine x_bipush C (59) dX10_kindOf_43 rfl ?_
              refine x_icmp_ne C 52 rfl (zIl _ rfl) dX10_kindOf_45 rfl (fun c18 => ?_) (fun c18 => ?_)
              · refine x_iconst C (5) dX10_kindOf_52 rfl ?_
                exact x_leafR (by unfold m_X10_kindOf; rw [if_neg c1, if_pos c10, if_neg c11, if_pos c15, if_neg c16, if_neg c17, if_neg c18]) (x_iretQ C (hQ _) rfl dX10_kindOf_53)
              · refine x_iconst C (3) dX10_kindOf_48 rfl ?_
                refine x_goto C 53 dX10_kindOf_49 rfl ?_
                exact x_leafR (by unfold m_X10_kindOf; rw [if_neg c1, if_pos c10, if_neg c11, if_pos c15, if_neg c16, if_neg c17, if_pos c18]) (x_iretQ C (hQ _) rfl dX10_kindOf_53)
            · refine x_iconst C (4) dX10_kindOf_40 rfl ?_
              exact x_leafR (by unfold m_X10_kindOf; rw [if_neg c1, if_pos c10, if_neg c11, if_pos c15, if_neg c16, if_pos c17]) (x_iretQ C (hQ _) rfl dX10_kindOf_41)
        · refine x_iconst C (2) dX10_kindOf_26 rfl ?_
          exact x_leafR (by unfold m_X10_kindOf; rw [if_neg c1, if_pos c10, if_neg c11, if_neg c15]) (x_iretQ C (hQ _) rfl dX10_kindOf_27)
    · refine x_iconst C (1) dX10_kindOf_12 rfl ?_
      exact x_leafR (by unfold m_X10_kindOf; rw [if_neg c1, if_neg c10]) (x_iretQ C (hQ _) rfl dX10_kindOf_13)
theorem ct_X10_kindOf (l : Launch) (E : xE) (p1 : Int)  (σ : xS) : xMet l E yX10_kindOf cX10_kindOf 1 (some .int) { frames := 0, cells := 0, slots := 0, locals := 0 } [iV p1] WW WW σ (some (some (iV (m_X10_kindOf p1)), σ)) := by
  refine xMet.of0 (by decide) (Nat.le_of_ble_eq_true rfl) rfl rfl (fun X hE C => ?_)
  subst hE
  exact xMap (fun v => (some (iV v), σ)) (wk_X10_kindOf C (fun _ => rfl) )
theorem mt_X10_kindOf : xMth yX10_kindOf cX10_kindOf 1 (some .int) 1 := ⟨wd949, wd51, ⟨by decide, by decide, rfl⟩⟩
theorem st_X10_kindOf : Cond.static yX10_kindOf ∈ GW := wd948
def m_X10_next (n : Nat) (σ : xS) : Option xS :=
  xlet (xput σ 3 3 (σ 3 4)) fun s1 => loopF (fun rec3 (t2 : xS) => xj (fun (q8 : Unit) => xlet (xput t2 3 4 (t2 3 3)) fun s9 => if (zI (s9 3 3)) < (zI (s9 3 1)) then xnz (s9 3 0) <| xck (zI (s9 3 3)) 1600 <| xlet (xput s9 3 2 (m_X10_kindOf (s9 1 (zI (s9 3 3)).toNat))) fun s12 => xlet (xput s12 3 4 ((s12 3 4) + 1)) fun s13 => loopF (fun rec15 (t14 : xS) => xj (fun (q20 : Unit) => some t14) fun J18 => if 2 < (zI (t14 3 2)) then J18 () else if (zI (t14 3 1)) ≤ (zI (t14 3 4)) then J18 () else xnz (t14 3 0) <| xck (zI (t14 3 4)) 1600 <| if (zI (m_X10_kindOf (t14 1 (zI (t14 3 4)).toNat))) = (zI (t14 3 2)) then xlet (xput t14 3 4 ((t14 3 4) + 1)) fun s25 => rec15 s25 else J18 ()) n s13 else xlet (xput s9 3 2 0) fun s26 => some s26) fun J6 => if (zI (t2 3 1)) ≤ (zI (t2 3 3)) then J6 () else xnz (t2 3 0) <| xck (zI (t2 3 3)) 1600 <| if (zI (m_X10_kindOf (t2 1 (zI (t2 3 3)).toNat))) = 4 then xlet (xput t2 3 3 ((t2 3 3) + 1)) fun s30 => rec3 s30 else J6 ()) n s1
set_option maxHeartbeats 4000000 in
set_option maxRecDepth 100000 in
theorem wk_X10_next {X : xX} {Qf : xS → State → Prop} {n : Nat} {σ : xS} (C : xCx X cX10_next "BakeryNight$Scanner" none { frames := 1, cells := 0, slots := 0, locals := 20 } 1) (hQ : ∀ τ, Qf τ = xQf X WW (none, τ))  : WO X Qf WW σ 0 [(0, .ref (xqa (xXE X).2.2 3))] [] (m_X10_next n σ) := by
  unfold m_X10_next
  refine x_aload_n C 0 dX10_next_0 rfl rfl ?_
  refine x_aload_n C 0 dX10_next_1 rfl rfl ?_
  refine x_get (v := iV (σ 3 4)) C 4 cls_X10 at_X10 (by decide) wd106 rfl rfl dX10_next_2 ?_
  refine x_put C 3 (σ 3 4) cls_X10 at_X10 (by decide) wd104 rfl rfl rfl rfl (xV_pI rfl) dX10_next_5 ?_
  refine x_letS (fun s1 => ?_)
  refine x_pick [0] rfl ?_
  refine x_loop (fun t2 : xS => t2) (fun t2 : xS => [(0, .ref (xqa (xXE X).2.2 3))]) (fun rec3 hr4 t2 => ?_) n s1
  refine x_aload_n C 0 dX10_next_8 rfl rfl ?_
  refine x_get (v := iV (t2 3 3)) C 3 cls_X10 at_X10 (by decide) wd104 rfl rfl dX10_next_9 ?_
  refine x_aload_n C 0 dX10_next_12 rfl rfl ?_
  refine x_get (v := iV (t2 3 1)) C 1 cls_X10 at_X10 (by decide) wd101 rfl rfl dX10_next_13 ?_
  refine x_join (fun J => ∀ q8 : Unit, WO X Qf WW t2 48 [(0, .ref (xqa (xXE X).2.2 3))] [] (J q8)) ?_ ?_
  · intro q8
    refine x_aload_n C 0 dX10_next_48 rfl rfl ?_
    refine x_aload_n C 0 dX10_next_49 rfl rfl ?_
    refine x_get (v := iV (t2 3 3)) C 3 cls_X10 at_X10 (by decide) wd104 rfl rfl dX10_next_50 ?_
    refine x_put C 4 (t2 3 3) cls_X10 at_X10 (by decide) wd106 rfl rfl rfl rfl (xV_pI rfl) dX10_next_53 ?_
    refine x_letS (fun s9 => ?_)
    refine x_aload_n C 0 dX10_next_56 rfl rfl ?_
    refine x_get (v := iV (s9 3 3)) C 3 cls_X10 at_X10 (by decide) wd104 rfl rfl dX10_next_57 ?_
    refine x_aload_n C 0 dX10_next_60 rfl rfl ?_
    refine x_get (v := iV (s9 3 1)) C 1 cls_X10 at_X10 (by decide) wd101 rfl rfl dX10_next_61 ?_
    refine x_icmp_lt C 73 rfl rfl dX10_next_64 rfl (fun c10 => x_op c10 ?_) (fun c10 => x_on c10 ?_)
    · refine x_aload_n C 0 dX10_next_73 rfl rfl ?_
      refine x_aload_n C 0 dX10_next_74 rfl rfl ?_
      refine x_gd (y := s9 3 0) (fun hg11 => ?_)
      refine x_get (v := .ref (xqa (xXE X).2.2 1)) C 0 cls_X10 at_X10 (by decide) wd100 rfl (xV_r (rt_X10_text hg11) rfl) dX10_next_75 ?_
      refine x_aload_n C 0 dX10_next_78 rfl rfl ?_
      refine x_get (v := iV (s9 3 3)) C 3 cls_X10 at_X10 (by decide) wd104 rfl rfl dX10_next_79 ?_
      refine x_bald C at_X12_buffer rfl dX10_next_82 (fun _ => ?_)
      refine x_callS C (ct_X10_kindOf _ _ (s9 1 (zI (s9 3 3)).toNat) s9) mt_X10_kindOf st_X10_kindOf wd947 rfl ⟨rfl, rfl, Nat.le_of_ble_eq_true rfl, Nat.le_of_ble_eq_true rfl⟩ rfl (Nat.le_of_ble_eq_true rfl) dX10_next_83 (kP ?_)
      refine x_put C 2 (m_X10_kindOf (s9 1 (zI (s9 3 3)).toNat)) cls_X10 at_X10 (by decide) wd103 rfl rfl rfl rfl (xV_pI rfl) dX10_next_86 ?_
      refine x_letS (fun s12 => ?_)
      refine x_aload_n C 0 dX10_next_89 rfl rfl ?_
      refine x_dup C dX10_next_90 rfl ?_
      refine x_get (v := iV (s12 3 4)) C 4 cls_X10 at_X10 (by decide) wd106 rfl rfl dX10_next_91 ?_
      refine x_iconst C (1) dX10_next_94 rfl ?_
      refine x_iadd C dX10_next_95 ?_
      refine x_put C 4 ((s12 3 4) + 1) cls_X10 at_X10 (by decide) wd106 rfl rfl rfl rfl (xV_pI rfl) dX10_next_96 ?_
      refine x_letS (fun s13 => ?_)
      refine x_pick [0] rfl ?_
      refine x_loop (fun t14 : xS => t14) (fun t14 : xS => [(0, .ref (xqa (xXE X).2.2 3))]) (fun rec15 hr16 t14 => ?_) n s13
      refine x_aload_n C 0 dX10_next_99 rfl rfl ?_
      refine x_get (v := iV (t14 3 2)) C 2 cls_X10 at_X10 (by decide) wd103 rfl rfl dX10_next_100 ?_
      refine x_iconst C (2) dX10_next_103 rfl ?_
      refine x_join (fun J => ∀ q20 : Unit, WO X Qf WW t14 150 [] [] (J q20)) ?_ ?_
      · intro q20
        exact x_vretQ C (hQ _) rfl dX10_next_150
      · intro J18 hJ19
        refine x_icmp_gt C 150 rfl (zIl _ rfl) dX10_next_104 rfl (fun c21 => x_op c21 ?_) (fun c21 => x_on c21 ?_)
        · refine x_pick [] rfl ?_
          exact hJ19 ()
        · refine x_aload_n C 0 dX10_next_107 rfl rfl ?_
          refine x_get (v := iV (t14 3 4)) C 4 cls_X10 at_X10 (by decide) wd106 rfl rfl dX10_next_108 ?_
          refine x_aload_n C 0 dX10_next_111 rfl rfl ?_
          refine x_get (v := iV (t14 3 1)) C 1 cls_X10 at_X10 (by decide) wd101 rfl rfl dX10_next_112 ?_
          refine x_icmp_ge C 150 rfl rfl dX10_next_115 rfl (fun c22 => x_op c22 ?_) (fun c22 => x_on c22 ?_)
          · refine x_pick [] rfl ?_
            exact hJ19 ()
          · refine x_aload_n C 0 dX10_next_118 rfl rfl ?_
            refine x_gd (y := t14 3 0) (fun hg23 => ?_)
            refine x_get (v := .ref (xqa (xXE X).2.2 1)) C 0 cls_X10 at_X10 (by decide) wd100 rfl (xV_r (rt_X10_text hg23) rfl) dX10_next_119 ?_
            refine x_aload_n C 0 dX10_next_122 rfl rfl ?_
            refine x_get (v := iV (t14 3 4)) C 4 cls_X10 at_X10 (by decide) wd106 rfl rfl dX10_next_123 ?_
            refine x_bald C at_X12_buffer rfl dX10_next_126 (fun _ => ?_)
            refine x_callS C (ct_X10_kindOf _ _ (t14 1 (zI (t14 3 4)).toNat) t14) mt_X10_kindOf st_X10_kindOf wd947 rfl ⟨rfl, rfl, Nat.le_of_ble_eq_true rfl, Nat.le_of_ble_eq_true rfl⟩ rfl (by decide) dX10_next_127 (kP ?_)
            refine x_aload_n C 0 dX10_next_130 rfl rfl ?_
            refine x_get (v := iV (t14 3 2)) C 2 cls_X10 at_X10 (by decide) wd103 rfl rfl dX10_next_131 ?_
            refine x_icmp_ne C 150 rfl rfl dX10_next_134 rfl (fun c24 => x_on c24 ?_) (fun c24 => x_op c24 ?_)
            · refine x_pick [] rfl ?_
              exact hJ19 ()
            · refine x_aload_n C 0 dX10_next_137 rfl rfl ?_
              refine x_dup C dX10_next_138 rfl ?_
              refine x_get (v := iV (t14 3 4)) C 4 cls_X10 at_X10 (by decide) wd106 rfl rfl dX10_next_139 ?_
              refine x_iconst C (1) dX10_next_142 rfl ?_
              refine x_iadd C dX10_next_143 ?_
              refine x_put C 4 ((t14 3 4) + 1) cls_X10 at_X10 (by decide) wd106 rfl rfl rfl rfl (xV_pI rfl) dX10_next_144 ?_
              refine x_letS (fun s25 => ?_)
              refine x_goto C 99 dX10_next_147 rfl ?_
              refine x_pick [0] rfl ?_
              exact hr16 s25
    · refine x_aload_n C 0 dX10_next_67 rfl rfl ?_
      refine x_iconst C (0) dX10_next_68 rfl ?_
      refine x_put C 2 0 cls_X10 at_X10 (by decide) wd103 rfl rfl rfl rfl (xV_pI rfl) dX10_next_69 ?_
      refine x_letS (fun s26 => ?_)
      exact x_vretQ C (hQ _) rfl dX10_next_72
  · intro J6 hJ7
    refine x_icmp_ge C 48 rfl rfl dX10_next_16 rfl (fun c27 => x_op c27 ?_) (fun c27 => x_on c27 ?_)
    · refine x_pick [0] rfl ?_
      exact hJ7 ()
    · refine x_aload_n C 0 dX10_next_19 rfl rfl ?_
      refine x_gd (y := t2 3 0) (fun hg28 => ?_)
      refine x_get (v := .ref (xqa (xXE X).2.2 1)) C 0 cls_X10 at_X10 (by decide) wd100 rfl (xV_r (rt_X10_text hg28) rfl) dX10_next_20 ?_
      refine x_aload_n C 0 dX10_next_23 rfl rfl ?_
      refine x_get (v := iV (t2 3 3)) C 3 cls_X10 at_X10 (by decide) wd104 rfl rfl dX10_next_24 ?_
      refine x_bald C at_X12_buffer rfl dX10_next_27 (fun _ => ?_)
      refine x_callS C (ct_X10_kindOf _ _ (t2 1 (zI (t2 3 3)).toNat) t2) mt_X10_kindOf st_X10_kindOf wd947 rfl ⟨rfl, rfl, Nat.le_of_ble_eq_true rfl, Nat.le_of_ble_eq_true rfl⟩ rfl (by decide) dX10_next_28 (kP ?_)
      refine x_iconst C (4) dX10_next_31 rfl ?_
      refine x_icmp_ne C 48 rfl (zIl _ rfl) dX10_next_32 rfl (fun c29 => x_on c29 ?_) (fun c29 => x_op c29 ?_)
      · refine x_pick [0] rfl ?_
        exact hJ7 ()
      · refine x_aload_n C 0 dX10_next_35 rfl rfl ?_
        refine x_dup C dX10_next_36 rfl ?_
        refine x_get (v := iV (t2 3 3)) C 3 cls_X10 at_X10 (by decide) wd104 rfl rfl dX10_next_37 ?_
        refine x_iconst C (1) dX10_next_40 rfl ?_
        refine x_iadd C dX10_next_41 ?_
        refine x_put C 3 ((t2 3 3) + 1) cls_X10 at_X10 (by decide) wd104 rfl rfl rfl rfl (xV_pI rfl) dX10_next_42 ?_
        refine x_letS (fun s30 => ?_)
        refine x_goto C 8 dX10_next_45 rfl ?_
        refine x_pick [0] rfl ?_
        exact hr4 s30
theorem ct_X10_next (l : Launch) (E : xE) (n : Nat) (σ : xS)   : xMet l E yX10_next cX10_next 1 none { frames := 1, cells := 0, slots := 0, locals := 20 } [.ref (xqa E.2.2 3)] WW WW σ (xrV (m_X10_next n σ)) := by
  refine xMet.of0 (by decide) (Nat.le_of_ble_eq_true rfl) rfl rfl (fun X hE C => ?_)
  subst hE
  exact xMap (fun q => (none, q)) (wk_X10_next C (fun _ => rfl) )
theorem mt_X10_next : xMth yX10_next cX10_next 1 none 0 := ⟨wd946, wd51, ⟨by decide, by decide, rfl⟩⟩
theorem vr_X10_next : xVir yX10_next := ⟨wd944, wd945⟩
def m_X10_begin (n : Nat) (p2 : Int) (σ : xS) : Option xS :=
  xlet (xput σ 3 0 1) fun s1 => xnz (s1 3 0) <| xlet (xput s1 3 1 (zmin p2 (1600 : Int))) fun s3 => xlet (xput s3 3 4 0) fun s4 => (m_X10_next n s4).bind fun s5 => some s5
set_option maxHeartbeats 4000000 in
set_option maxRecDepth 100000 in
theorem wk_X10_begin {X : xX} {Qf : xS → State → Prop} {n : Nat} {p2 : Int} {σ : xS} (C : xCx X cX10_begin "BakeryNight$Scanner" none { frames := 2, cells := 0, slots := 0, locals := 40 } 3) (hQ : ∀ τ, Qf τ = xQf X WW (none, τ))  : WO X Qf WW σ 0 [(0, .ref (xqa (xXE X).2.2 3)), (1, .ref (xqa (xXE X).2.2 1)), (2, iV p2)] [] (m_X10_begin n p2 σ) := by
  unfold m_X10_begin
  refine x_aload_n C 0 dX10_begin_0 rfl rfl ?_
  refine x_aload_n C 1 dX10_begin_1 rfl rfl ?_
  refine x_put C 0 1 cls_X10 at_X10 (by decide) wd100 rfl rfl rfl rfl rfl dX10_begin_2 ?_
  refine x_letS (fun s1 => ?_)
  refine x_aload_n C 0 dX10_begin_5 rfl rfl ?_
  refine x_iload_n C 2 dX10_begin_6 rfl rfl ?_
  refine x_aload_n C 0 dX10_begin_7 rfl rfl ?_
  refine x_gd (y := s1 3 0) (fun hg2 => ?_)
  refine x_get (v := .ref (xqa (xXE X).2.2 1)) C 0 cls_X10 at_X10 (by decide) wd100 rfl (xV_r (rt_X10_text hg2) rfl) dX10_begin_8 ?_
  refine x_alen C 1600 at_X12_buffer (Nat.le_of_ble_eq_true rfl) rfl dX10_begin_11 ?_
  refine x_mmin C wd942 wd321 wd58 wd322 (Nat.le_of_ble_eq_true rfl) (Nat.le_of_ble_eq_true rfl) dX10_begin_12 ?_
  refine x_put C 1 (zmin p2 (1600 : Int)) cls_X10 at_X10 (by decide) wd101 rfl rfl rfl rfl (xV_pI rfl) dX10_begin_15 ?_
  refine x_letS (fun s3 => ?_)
  refine x_aload_n C 0 dX10_begin_18 rfl rfl ?_
  refine x_iconst C (0) dX10_begin_19 rfl ?_
  refine x_put C 4 0 cls_X10 at_X10 (by decide) wd106 rfl rfl rfl rfl (xV_pI rfl) dX10_begin_20 ?_
  refine x_letS (fun s4 => ?_)
  refine x_aload_n C 0 dX10_begin_23 rfl rfl ?_
  refine x_callV C (ct_X10_next _ _ n s4) mt_X10_next vr_X10_next wd943 cls_X10 at_X10 rfl ⟨rfl, rfl, Nat.le_of_ble_eq_true rfl, Nat.le_of_ble_eq_true rfl⟩ rfl (by decide) dX10_begin_24 (kV (fun s5 => ?_))
  exact x_vretQ C (hQ _) rfl dX10_begin_27
theorem ct_X10_begin (l : Launch) (E : xE) (n : Nat) (p2 : Int) (σ : xS)   : xMet l E yX10_begin cX10_begin 3 none { frames := 2, cells := 0, slots := 0, locals := 40 } [.ref (xqa E.2.2 3), .ref (xqa E.2.2 1), iV p2] WW WW σ (xrV (m_X10_begin n p2 σ)) := by
  refine xMet.of0 (by decide) (Nat.le_of_ble_eq_true rfl) rfl rfl (fun X hE C => ?_)
  subst hE
  exact xMap (fun q => (none, q)) (wk_X10_begin C (fun _ => rfl) )
theorem mt_X10_begin : xMth yX10_begin cX10_begin 3 none 2 := ⟨wd941, wd51, ⟨by decide, by decide, rfl⟩⟩
theorem vr_X10_begin : xVir yX10_begin := ⟨wd939, wd940⟩
def m_X7_fail (p1 : Int) (σ : xS) : Option xS :=
  xj (fun (q3 : xS) => some q3) fun J1 => if (zI (σ 2 7)) = 0 then xlet (xput σ 2 7 p1) fun s5 => xlet (xput s5 2 8 (s5 3 3)) fun s6 => J1 s6 else J1 σ
set_option maxHeartbeats 4000000 in
set_option maxRecDepth 100000 in
theorem wk_X7_fail {X : xX} {Qf : xS → State → Prop} {p1 : Int} {σ : xS} (C : xCx X cX7_fail "BakeryNight$Parser" none { frames := 0, cells := 0, slots := 0, locals := 0 } 2) (hQ : ∀ τ, Qf τ = xQf X WW (none, τ))  : WO X Qf WW σ 0 [(0, .ref (xqa (xXE X).2.2 2)), (1, iV p1)] [] (m_X7_fail p1 σ) := by
  unfold m_X7_fail
  refine x_aload_n C 0 dX7_fail_0 rfl rfl ?_
  refine x_get (v := iV (σ 2 7)) C 7 cls_X7 at_X7 (by decide) wd126 rfl rfl dX7_fail_1 ?_
  refine x_join (fun J => ∀ q3 : xS, WO X Qf WW q3 23 [] [] (J q3)) ?_ ?_
  · intro q3
    exact x_vretQ C (hQ _) rfl dX7_fail_23
  · intro J1 hJ2
    refine x_if_ne C 23 rfl dX7_fail_4 rfl (fun c4 => x_on c4 ?_) (fun c4 => x_op c4 ?_)
    · refine x_pick [] rfl ?_
      exact hJ2 σ
    · refine x_aload_n C 0 dX7_fail_7 rfl rfl ?_
      refine x_iload_n C 1 dX7_fail_8 rfl rfl ?_
      refine x_put C 7 p1 cls_X7 at_X7 (by decide) wd126 rfl rfl rfl rfl (xV_pI rfl) dX7_fail_9 ?_
      refine x_letS (fun s5 => ?_)
      refine x_aload_n C 0 dX7_fail_12 rfl rfl ?_
      refine x_aload_n C 0 dX7_fail_13 rfl rfl ?_
      refine x_get (v := .ref (xqa (xXE X).2.2 3)) C 0 cls_X7 at_X7 (by decide) wd119 rfl (xV_r (rt_X7_scanner  _) rfl) dX7_fail_14 ?_
      refine x_get (v := iV (s5 3 3)) C 3 cls_X10 at_X10 (by decide) wd105 rfl rfl dX7_fail_17 ?_
      refine x_put C 8 (s5 3 3) cls_X7 at_X7 (by decide) wd128 rfl rfl rfl rfl (xV_pI rfl) dX7_fail_20 ?_
      refine x_letS (fun s6 => ?_)
      refine x_pick [] rfl ?_
      exact hJ2 s6
theorem ct_X7_fail (l : Launch) (E : xE) (p1 : Int) (σ : xS)   : xMet l E yX7_fail cX7_fail 2 none { frames := 0, cells := 0, slots := 0, locals := 0 } [.ref (xqa E.2.2 2), iV p1] WW WW σ (xrV (m_X7_fail p1 σ)) := by
  refine xMet.of0 (by decide) (Nat.le_of_ble_eq_true rfl) rfl rfl (fun X hE C => ?_)
  subst hE
  exact xMap (fun q => (none, q)) (wk_X7_fail C (fun _ => rfl) )
theorem mt_X7_fail : xMth yX7_fail cX7_fail 2 none 1 := ⟨wd965, wd50, ⟨by decide, by decide, rfl⟩⟩
theorem vr_X7_fail : xVir yX7_fail := ⟨wd964, wd28⟩
def m_X10_isNumber (σ : xS) : Int := if (zI (σ 3 2)) = 2 then if 4 < (zI ((σ 3 4) - (σ 3 3))) then 0 else 1 else 0
set_option maxHeartbeats 4000000 in
set_option maxRecDepth 100000 in
theorem wk_X10_isNumber {X : xX} {Qf : Int → State → Prop} {σ : xS} (C : xCx X cX10_isNumber "BakeryNight$Scanner" (some .boolean) { frames := 0, cells := 0, slots := 0, locals := 0 } 1) (hQ : ∀ v, Qf v = xQf X WW (some (iV v), σ))  : WO X Qf WW σ 0 [(0, .ref (xqa (xXE X).2.2 3))] [] (some (m_X10_isNumber σ)) := by
  refine x_aload_n C 0 dX10_isNumber_0 rfl rfl ?_
  refine x_get (v := iV (σ 3 2)) C 2 cls_X10 at_X10 (by decide) wd103 rfl rfl dX10_isNumber_1 ?_
  refine x_iconst C (2) dX10_isNumber_4 rfl ?_
  refine x_icmp_ne C 25 rfl (zIl _ rfl) dX10_isNumber_5 rfl (fun c1 => ?_) (fun c1 => ?_)
  · refine x_iconst C (0) dX10_isNumber_25 rfl ?_
    exact x_leafR (by unfold m_X10_isNumber; rw [if_neg c1]) (x_zretQ C (hQ _) rfl (Or.inl rfl) dX10_isNumber_26)
  · refine x_aload_n C 0 dX10_isNumber_8 rfl rfl ?_
    refine x_get (v := iV (σ 3 4)) C 4 cls_X10 at_X10 (by decide) wd106 rfl rfl dX10_isNumber_9 ?_
    refine x_aload_n C 0 dX10_isNumber_12 rfl rfl ?_
    refine x_get (v := iV (σ 3 3)) C 3 cls_X10 at_X10 (by decide) wd104 rfl rfl dX10_isNumber_13 ?_
    refine x_isub C dX10_isNumber_16 ?_
    refine x_iconst C (4) dX10_isNumber_17 rfl ?_
    refine x_icmp_gt C 25 rfl (zIl _ rfl) dX10_isNumber_18 rfl (fun c2 => ?_) (fun c2 => ?_)
    · refine x_iconst C (0) dX10_isNumber_25 rfl ?_
      exact x_leafR (by unfold m_X10_isNumber; rw [if_pos c1, if_pos c2]) (x_zretQ C (hQ _) rfl (Or.inl rfl) dX10_isNumber_26)
    · refine x_iconst C (1) dX10_isNumber_21 rfl ?_
      refine x_goto C 26 dX10_isNumber_22 rfl ?_
      exact x_leafR (by unfold m_X10_isNumber; rw [if_pos c1, if_neg c2]) (x_zretQ C (hQ _) rfl (Or.inr rfl) dX10_isNumber_26)
theorem bo_X10_isNumber (σ : xS) : m_X10_isNumber σ = 0 ∨ m_X10_isNumber σ = 1 := by
  unfold m_X10_isNumber
  repeat' split
  all_goals first | exact Or.inl rfl | exact Or.inr rfl
theorem ct_X10_isNumber (l : Launch) (E : xE) (σ : xS)   : xMet l E yX10_isNumber cX10_isNumber 1 (some .boolean) { frames := 0, cells := 0, slots := 0, locals := 0 } [.ref (xqa E.2.2 3)] WW WW σ (some (some (iV (m_X10_isNumber σ)), σ)) := by
  refine xMet.of0 (by decide) (Nat.le_of_ble_eq_true rfl) rfl rfl (fun X hE C => ?_)
  subst hE
  exact xMap (fun v => (some (iV v), σ)) (wk_X10_isNumber C (fun _ => rfl) )
theorem mt_X10_isNumber : xMth yX10_isNumber cX10_isNumber 1 (some .boolean) 0 := ⟨wd986, wd51, ⟨by decide, by decide, rfl⟩⟩
theorem vr_X10_isNumber : xVir yX10_isNumber := ⟨wd984, wd985⟩
def m_X10_value (n : Nat) (σ : xS) : Option Int :=
  xlet (σ 3 3) fun v1 => loopF (fun rec3 (t2 : Int × Int) => if (zI (σ 3 4)) ≤ (zI t2.2) then some t2.1 else xnz (σ 3 0) <| xck (zI t2.2) 1600 <| xlet (((t2.1 * 10) + (σ 1 (zI t2.2).toNat)) - 48) fun v7 => xlet (t2.2 + 1) fun v8 => rec3 (v7, v8)) n (0, v1)
set_option maxHeartbeats 4000000 in
set_option maxRecDepth 100000 in
theorem wk_X10_value {X : xX} {Qf : Int → State → Prop} {n : Nat} {σ : xS} (C : xCx X cX10_value "BakeryNight$Scanner" (some .int) { frames := 0, cells := 0, slots := 0, locals := 0 } 3) (hQ : ∀ v, Qf v = xQf X WW (some (iV v), σ))  : WO X Qf WW σ 0 [(0, .ref (xqa (xXE X).2.2 3))] [] (m_X10_value n σ) := by
  unfold m_X10_value
  refine x_iconst C (0) dX10_value_0 rfl ?_
  refine x_istore_n (L' := [(1, _), (0, _)]) C dX10_value_1 rfl (by decide) rfl ?_
  refine x_aload_n C 1 dX10_value_2 rfl rfl ?_
  refine x_get (v := iV (σ 3 3)) C 3 cls_X10 at_X10 (by decide) wd104 rfl rfl dX10_value_3 ?_
  refine x_letI (fun v1 => ?_)
  refine x_istore_n (L' := [(2, _), (1, _), (0, _)]) C dX10_value_6 rfl (by decide) rfl ?_
  refine x_pick [2, 1, 0] rfl ?_
  refine x_loop (fun t2 : Int × Int => σ) (fun t2 : Int × Int => [(0, .ref (xqa (xXE X).2.2 3)), (1, iV t2.1), (2, iV t2.2)]) (fun rec3 hr4 t2 => ?_) n (0, v1)
  refine x_iload_n C 2 dX10_value_7 rfl rfl ?_
  refine x_aload_n C 0 dX10_value_8 rfl rfl ?_
  refine x_get (v := iV (σ 3 4)) C 4 cls_X10 at_X10 (by decide) wd106 rfl rfl dX10_value_9 ?_
  refine x_icmp_ge C 36 rfl rfl dX10_value_12 rfl (fun c5 => x_op c5 ?_) (fun c5 => x_on c5 ?_)
  · refine x_iload_n C 1 dX10_value_36 rfl rfl ?_
    exact x_iretQ C (hQ _) rfl dX10_value_37
  · refine x_iload_n C 1 dX10_value_15 rfl rfl ?_
    refine x_bipush C (10) dX10_value_16 rfl ?_
    refine x_imul C dX10_value_18 ?_
    refine x_aload_n C 0 dX10_value_19 rfl rfl ?_
    refine x_gd (y := σ 3 0) (fun hg6 => ?_)
    refine x_get (v := .ref (xqa (xXE X).2.2 1)) C 0 cls_X10 at_X10 (by decide) wd100 rfl (xV_r (rt_X10_text hg6) rfl) dX10_value_20 ?_
    refine x_iload_n C 2 dX10_value_23 rfl rfl ?_
    refine x_bald C at_X12_buffer rfl dX10_value_24 (fun _ => ?_)
    refine x_iadd C dX10_value_25 ?_
    refine x_bipush C (48) dX10_value_26 rfl ?_
    refine x_isub C dX10_value_28 ?_
    refine x_letI (fun v7 => ?_)
    refine x_istore_n (L' := [(1, _), (0, _), (2, _)]) C dX10_value_29 rfl (by decide) rfl ?_
    refine x_inc C 2 (f := _) dX10_value_30 rfl (by decide) (1) rfl (fun v8 => ?_)
    refine x_reL (L' := [(2, _), (1, _), (0, _)]) rfl ?_
    refine x_goto C 7 dX10_value_33 rfl ?_
    refine x_pick [2, 1, 0] rfl ?_
    exact hr4 (v7, v8)
theorem ct_X10_value (l : Launch) (E : xE) (n : Nat) (σ : xS)   : xMet l E yX10_value cX10_value 3 (some .int) { frames := 0, cells := 0, slots := 0, locals := 0 } [.ref (xqa E.2.2 3)] WW WW σ (xrI (m_X10_value n σ) σ) := by
  refine xMet.of0 (by decide) (Nat.le_of_ble_eq_true rfl) rfl rfl (fun X hE C => ?_)
  subst hE
  exact xMap (fun v => (some (iV v), σ)) (wk_X10_value C (fun _ => rfl) )
theorem mt_X10_value : xMth yX10_value cX10_value 3 (some .int) 0 := ⟨wd990, wd51, ⟨by decide, by decide, rfl⟩⟩
theorem vr_X10_value : xVir yX10_value := ⟨wd988, wd989⟩
def m_X7_failed (σ : xS) : Int := if (zI (σ 2 7)) = 0 then 0 else 1
set_option maxHeartbeats 4000000 in
set_option maxRecDepth 100000 in
theorem wk_X7_failed {X : xX} {Qf : Int → State → Prop} {σ : xS} (C : xCx X cX7_failed "BakeryNight$Parser" (some .boolean) { frames := 0, cells := 0, slots := 0, locals := 0 } 1) (hQ : ∀ v, Qf v = xQf X WW (some (iV v), σ))  : WO X Qf WW σ 0 [(0, .ref (xqa (xXE X).2.2 2))] [] (some (m_X7_failed σ)) := by
  refine x_aload_n C 0 dX7_failed_0 rfl rfl ?_
  refine x_get (v := iV (σ 2 7)) C 7 cls_X7 at_X7 (by decide) wd126 rfl rfl dX7_failed_1 ?_
  refine x_if_eq C 11 rfl dX7_failed_4 rfl (fun c1 => ?_) (fun c1 => ?_)
  · refine x_iconst C (0) dX7_failed_11 rfl ?_
    exact x_leafR (by unfold m_X7_failed; rw [if_pos c1]) (x_zretQ C (hQ _) rfl (Or.inl rfl) dX7_failed_12)
  · refine x_iconst C (1) dX7_failed_7 rfl ?_
    refine x_goto C 12 dX7_failed_8 rfl ?_
    exact x_leafR (by unfold m_X7_failed; rw [if_neg c1]) (x_zretQ C (hQ _) rfl (Or.inr rfl) dX7_failed_12)
theorem bo_X7_failed (σ : xS) : m_X7_failed σ = 0 ∨ m_X7_failed σ = 1 := by
  unfold m_X7_failed
  repeat' split
  all_goals first | exact Or.inl rfl | exact Or.inr rfl
theorem ct_X7_failed (l : Launch) (E : xE) (σ : xS)   : xMet l E yX7_failed cX7_failed 1 (some .boolean) { frames := 0, cells := 0, slots := 0, locals := 0 } [.ref (xqa E.2.2 2)] WW WW σ (some (some (iV (m_X7_failed σ)), σ)) := by
  refine xMet.of0 (by decide) (Nat.le_of_ble_eq_true rfl) rfl rfl (fun X hE C => ?_)
  subst hE
  exact xMap (fun v => (some (iV v), σ)) (wk_X7_failed C (fun _ => rfl) )
theorem mt_X7_failed : xMth yX7_failed cX7_failed 1 (some .boolean) 0 := ⟨wd994, wd50, ⟨by decide, by decide, rfl⟩⟩
theorem vr_X7_failed : xVir yX7_failed := ⟨wd993, wd31⟩
def m_X7_readNumber (n : Nat) (p1 : Int) (p2 : Int) (σ : xS) : Option (Int × xS) :=
  xj (fun (q4 : xS) => (m_X10_value n q4).bind fun v5 => xj (fun (q10 : xS) => if (m_X7_failed q10) = 0 then (m_X10_next n q10).bind fun s12 => some (v5, s12) else some (p1, q10)) fun J8 => xj (fun (q15 : Unit) => (m_X7_fail 2 q4).bind fun s16 => J8 s16) fun J13 => if (zI v5) < (zI p1) then J13 () else if (zI v5) ≤ (zI p2) then J8 q4 else J13 ()) fun J2 => if (m_X10_isNumber σ) = 0 then (m_X7_fail 1 σ).bind fun s20 => J2 s20 else J2 σ
set_option maxHeartbeats 4000000 in
set_option maxRecDepth 100000 in
theorem wk_X7_readNumber {X : xX} {Qf : (Int × xS) → State → Prop} {n : Nat} {p1 : Int} {p2 : Int} {σ : xS} (C : xCx X cX7_readNumber "BakeryNight$Parser" (some .int) { frames := 2, cells := 0, slots := 0, locals := 40 } 4) (hQ : ∀ v τ, Qf (v, τ) = xQf X WW (some (iV v), τ))  : WO X Qf WW σ 0 [(0, .ref (xqa (xXE X).2.2 2)), (1, iV p1), (2, iV p2)] [] (m_X7_readNumber n p1 p2 σ) := by
  unfold m_X7_readNumber
  refine x_aload_n C 0 dX7_readNumber_0 rfl rfl ?_
  refine x_get (v := .ref (xqa (xXE X).2.2 3)) C 0 cls_X7 at_X7 (by decide) wd119 rfl (xV_r (rt_X7_scanner  _) rfl) dX7_readNumber_1 ?_
  refine x_callV C (ct_X10_isNumber _ _ σ) mt_X10_isNumber vr_X10_isNumber wd983 cls_X10 at_X10 rfl ⟨rfl, rfl, Nat.le_of_ble_eq_true rfl, Nat.le_of_ble_eq_true rfl⟩ rfl (by decide) dX7_readNumber_4 (kP ?_)
  refine x_join (fun J => ∀ q4 : xS, WO X Qf WW q4 15 [(0, .ref (xqa (xXE X).2.2 2)), (1, iV p1), (2, iV p2)] [] (J q4)) ?_ ?_
  · intro q4
    refine x_aload_n C 0 dX7_readNumber_15 rfl rfl ?_
    refine x_get (v := .ref (xqa (xXE X).2.2 3)) C 0 cls_X7 at_X7 (by decide) wd119 rfl (xV_r (rt_X7_scanner  _) rfl) dX7_readNumber_16 ?_
    refine x_callV C (ct_X10_value _ _ n q4) mt_X10_value vr_X10_value wd987 cls_X10 at_X10 rfl ⟨rfl, rfl, Nat.le_of_ble_eq_true rfl, Nat.le_of_ble_eq_true rfl⟩ rfl (by decide) dX7_readNumber_19 (kI (fun v5 => ?_))
    refine x_istore_n (L' := [(3, _), (0, _), (1, _), (2, _)]) C dX7_readNumber_22 rfl (by decide) rfl ?_
    refine x_iload_n C 0 dX7_readNumber_23 rfl rfl ?_
    refine x_iload_n C 2 dX7_readNumber_24 rfl rfl ?_
    refine x_join (fun J => ∀ q10 : xS, WO X Qf WW q10 38 [(0, .ref (xqa (xXE X).2.2 2)), (1, iV p1), (3, iV v5)] [] (J q10)) ?_ ?_
    · intro q10
      refine x_aload_n C 0 dX7_readNumber_38 rfl rfl ?_
      refine x_callV C (ct_X7_failed _ _ q10) mt_X7_failed vr_X7_failed wd991 cls_X7 at_X7 rfl ⟨rfl, rfl, Nat.le_of_ble_eq_true rfl, Nat.le_of_ble_eq_true rfl⟩ rfl (by decide) dX7_readNumber_39 (kP ?_)
      refine x_if_eq C 47 (zI_bo (bo_X7_failed _)) dX7_readNumber_42 rfl (fun c11 => x_op c11 ?_) (fun c11 => x_on c11 ?_)
      · refine x_aload_n C 0 dX7_readNumber_47 rfl rfl ?_
        refine x_get (v := .ref (xqa (xXE X).2.2 3)) C 0 cls_X7 at_X7 (by decide) wd119 rfl (xV_r (rt_X7_scanner  _) rfl) dX7_readNumber_48 ?_
        refine x_callV C (ct_X10_next _ _ n q10) mt_X10_next vr_X10_next wd978 cls_X10 at_X10 rfl ⟨rfl, rfl, Nat.le_of_ble_eq_true rfl, Nat.le_of_ble_eq_true rfl⟩ rfl (by decide) dX7_readNumber_51 (kV (fun s12 => ?_))
        refine x_iload_n C 2 dX7_readNumber_54 rfl rfl ?_
        exact x_iretQ C (hQ _ _) rfl dX7_readNumber_55
      · refine x_iload_n C 1 dX7_readNumber_45 rfl rfl ?_
        exact x_iretQ C (hQ _ _) rfl dX7_readNumber_46
    · intro J8 hJ9
      refine x_join (fun J => ∀ q15 : Unit, WO X Qf WW q4 33 [(0, .ref (xqa (xXE X).2.2 2)), (1, iV p1), (3, iV v5)] [] (J q15)) ?_ ?_
      · intro q15
        refine x_aload_n C 0 dX7_readNumber_33 rfl rfl ?_
        refine x_iconst C (2) dX7_readNumber_34 rfl ?_
        refine x_callV C (ct_X7_fail _ _ 2 q4) mt_X7_fail vr_X7_fail wd962 cls_X7 at_X7 rfl ⟨rfl, rfl, Nat.le_of_ble_eq_true rfl, Nat.le_of_ble_eq_true rfl⟩ rfl (by decide) dX7_readNumber_35 (kV (fun s16 => ?_))
        refine x_pick [0, 1, 2] rfl ?_
        exact hJ9 s16
      · intro J13 hJ14
        refine x_icmp_lt C 33 rfl rfl dX7_readNumber_25 rfl (fun c17 => x_op c17 ?_) (fun c17 => x_on c17 ?_)
        · refine x_pick [1, 2, 0] rfl ?_
          exact hJ14 ()
        · refine x_iload_n C 0 dX7_readNumber_28 rfl rfl ?_
          refine x_iload_n C 3 dX7_readNumber_29 rfl rfl ?_
          refine x_icmp_le C 38 rfl rfl dX7_readNumber_30 rfl (fun c18 => x_op c18 ?_) (fun c18 => x_on c18 ?_)
          · refine x_pick [1, 2, 0] rfl ?_
            exact hJ9 q4
          · refine x_pick [1, 2, 0] rfl ?_
            exact hJ14 ()
  · intro J2 hJ3
    refine x_if_ne C 15 (zI_bo (bo_X10_isNumber _)) dX7_readNumber_7 rfl (fun c19 => x_on c19 ?_) (fun c19 => x_op c19 ?_)
    · refine x_pick [0, 1, 2] rfl ?_
      exact hJ3 σ
    · refine x_aload_n C 0 dX7_readNumber_10 rfl rfl ?_
      refine x_iconst C (1) dX7_readNumber_11 rfl ?_
      refine x_callV C (ct_X7_fail _ _ 1 σ) mt_X7_fail vr_X7_fail wd962 cls_X7 at_X7 rfl ⟨rfl, rfl, Nat.le_of_ble_eq_true rfl, Nat.le_of_ble_eq_true rfl⟩ rfl (by decide) dX7_readNumber_12 (kV (fun s20 => ?_))
      refine x_pick [0, 1, 2] rfl ?_
      exact hJ3 s20
theorem ct_X7_readNumber (l : Launch) (E : xE) (n : Nat) (p1 : Int) (p2 : Int) (σ : xS)   : xMet l E yX7_readNumber cX7_readNumber 4 (some .int) { frames := 2, cells := 0, slots := 0, locals := 40 } [.ref (xqa E.2.2 2), iV p1, iV p2] WW WW σ (xrS (m_X7_readNumber n p1 p2 σ)) := by
  refine xMet.of0 (by decide) (Nat.le_of_ble_eq_true rfl) rfl rfl (fun X hE C => ?_)
  subst hE
  exact xMap (fun q => (some (iV q.1), q.2)) (wk_X7_readNumber C (fun _ _ => rfl) )
theorem mt_X7_readNumber : xMth yX7_readNumber cX7_readNumber 4 (some .int) 2 := ⟨wd982, wd50, ⟨by decide, by decide, rfl⟩⟩
theorem vr_X7_readNumber : xVir yX7_readNumber := ⟨wd981, wd30⟩
def m_X7_readSetting (n : Nat) (p1 : Int) (p2 : Int) (p3 : Int) (σ : xS) : Option (Int × xS) :=
  if (zI p1) = 0 then (m_X10_next n σ).bind fun s2 => xbS (m_X7_readNumber n p2 p3 s2) fun v4 s3 => some (v4, s3) else (m_X7_fail 3 σ).bind fun s5 => some (p2, s5)
set_option maxHeartbeats 4000000 in
set_option maxRecDepth 100000 in
theorem wk_X7_readSetting {X : xX} {Qf : (Int × xS) → State → Prop} {n : Nat} {p1 : Int} {p2 : Int} {p3 : Int} {σ : xS} (C : xCx X cX7_readSetting "BakeryNight$Parser" (some .int) { frames := 3, cells := 0, slots := 0, locals := 63 } 4) (hQ : ∀ v τ, Qf (v, τ) = xQf X WW (some (iV v), τ))  : WO X Qf WW σ 0 [(0, .ref (xqa (xXE X).2.2 2)), (1, iV p1), (2, iV p2), (3, iV p3)] [] (m_X7_readSetting n p1 p2 p3 σ) := by
  unfold m_X7_readSetting
  refine x_iload_n C 1 dX7_readSetting_0 rfl rfl ?_
  refine x_if_eq C 11 rfl dX7_readSetting_1 rfl (fun c1 => x_op c1 ?_) (fun c1 => x_on c1 ?_)
  · refine x_aload_n C 0 dX7_readSetting_11 rfl rfl ?_
    refine x_get (v := .ref (xqa (xXE X).2.2 3)) C 0 cls_X7 at_X7 (by decide) wd119 rfl (xV_r (rt_X7_scanner  _) rfl) dX7_readSetting_12 ?_
    refine x_callV C (ct_X10_next _ _ n σ) mt_X10_next vr_X10_next wd978 cls_X10 at_X10 rfl ⟨rfl, rfl, Nat.le_of_ble_eq_true rfl, Nat.le_of_ble_eq_true rfl⟩ rfl (by decide) dX7_readSetting_15 (kV (fun s2 => ?_))
    refine x_aload_n C 0 dX7_readSetting_18 rfl rfl ?_
    refine x_iload_n C 2 dX7_readSetting_19 rfl rfl ?_
    refine x_iload_n C 3 dX7_readSetting_20 rfl rfl ?_
    refine x_callV C (ct_X7_readNumber _ _ n p2 p3 s2) mt_X7_readNumber vr_X7_readNumber wd979 cls_X7 at_X7 rfl ⟨rfl, rfl, Nat.le_of_ble_eq_true rfl, Nat.le_of_ble_eq_true rfl⟩ rfl (by decide) dX7_readSetting_21 (kS (fun v4 s3 => ?_))
    exact x_iretQ C (hQ _ _) rfl dX7_readSetting_24
  · refine x_aload_n C 0 dX7_readSetting_4 rfl rfl ?_
    refine x_iconst C (3) dX7_readSetting_5 rfl ?_
    refine x_callV C (ct_X7_fail _ _ 3 σ) mt_X7_fail vr_X7_fail wd962 cls_X7 at_X7 rfl ⟨rfl, rfl, Nat.le_of_ble_eq_true rfl, Nat.le_of_ble_eq_true rfl⟩ rfl (by decide) dX7_readSetting_6 (kV (fun s5 => ?_))
    refine x_iload_n C 2 dX7_readSetting_9 rfl rfl ?_
    exact x_iretQ C (hQ _ _) rfl dX7_readSetting_10
theorem ct_X7_readSetting (l : Launch) (E : xE) (n : Nat) (p1 : Int) (p2 : Int) (p3 : Int) (σ : xS)   : xMet l E yX7_readSetting cX7_readSetting 4 (some .int) { frames := 3, cells := 0, slots := 0, locals := 63 } [.ref (xqa E.2.2 2), iV p1, iV p2, iV p3] WW WW σ (xrS (m_X7_readSetting n p1 p2 p3 σ)) := by
  refine xMet.of0 (by decide) (Nat.le_of_ble_eq_true rfl) rfl rfl (fun X hE C => ?_)
  subst hE
  exact xMap (fun q => (some (iV q.1), q.2)) (wk_X7_readSetting C (fun _ _ => rfl) )
theorem mt_X7_readSetting : xMth yX7_readSetting cX7_readSetting 4 (some .int) 3 := ⟨wd977, wd50, ⟨by decide, by decide, rfl⟩⟩
theorem vr_X7_readSetting : xVir yX7_readSetting := ⟨wd976, wd29⟩
def m_X7_beginOneOf (n : Nat) (p1 : Int) (p2 : Int) (σ : xS) : Option xS :=
  xj (fun (q4 : xS) => some q4) fun J2 => if (zI p2) < (zI p1) then (m_X10_next n σ).bind fun s6 => J2 s6 else (m_X7_fail 5 σ).bind fun s7 => J2 s7
set_option maxHeartbeats 4000000 in
set_option maxRecDepth 100000 in
theorem wk_X7_beginOneOf {X : xX} {Qf : xS → State → Prop} {n : Nat} {p1 : Int} {p2 : Int} {σ : xS} (C : xCx X cX7_beginOneOf "BakeryNight$Parser" none { frames := 2, cells := 0, slots := 0, locals := 40 } 3) (hQ : ∀ τ, Qf τ = xQf X WW (none, τ))  : WO X Qf WW σ 0 [(0, .ref (xqa (xXE X).2.2 2)), (1, iV p1), (2, iV p2)] [] (m_X7_beginOneOf n p1 p2 σ) := by
  unfold m_X7_beginOneOf
  refine x_iload_n C 2 dX7_beginOneOf_0 rfl rfl ?_
  refine x_iload_n C 1 dX7_beginOneOf_1 rfl rfl ?_
  refine x_join (fun J => ∀ q4 : xS, WO X Qf WW q4 20 [] [] (J q4)) ?_ ?_
  · intro q4
    exact x_vretQ C (hQ _) rfl dX7_beginOneOf_20
  · intro J2 hJ3
    refine x_icmp_lt C 13 rfl rfl dX7_beginOneOf_2 rfl (fun c5 => x_op c5 ?_) (fun c5 => x_on c5 ?_)
    · refine x_aload_n C 0 dX7_beginOneOf_13 rfl rfl ?_
      refine x_get (v := .ref (xqa (xXE X).2.2 3)) C 0 cls_X7 at_X7 (by decide) wd119 rfl (xV_r (rt_X7_scanner  _) rfl) dX7_beginOneOf_14 ?_
      refine x_callV C (ct_X10_next _ _ n σ) mt_X10_next vr_X10_next wd978 cls_X10 at_X10 rfl ⟨rfl, rfl, Nat.le_of_ble_eq_true rfl, Nat.le_of_ble_eq_true rfl⟩ rfl (by decide) dX7_beginOneOf_17 (kV (fun s6 => ?_))
      refine x_pick [] rfl ?_
      exact hJ3 s6
    · refine x_aload_n C 0 dX7_beginOneOf_5 rfl rfl ?_
      refine x_iconst C (5) dX7_beginOneOf_6 rfl ?_
      refine x_callV C (ct_X7_fail _ _ 5 σ) mt_X7_fail vr_X7_fail wd962 cls_X7 at_X7 rfl ⟨rfl, rfl, Nat.le_of_ble_eq_true rfl, Nat.le_of_ble_eq_true rfl⟩ rfl (by decide) dX7_beginOneOf_7 (kV (fun s7 => ?_))
      refine x_goto C 20 dX7_beginOneOf_10 rfl ?_
      refine x_pick [] rfl ?_
      exact hJ3 s7
theorem ct_X7_beginOneOf (l : Launch) (E : xE) (n : Nat) (p1 : Int) (p2 : Int) (σ : xS)   : xMet l E yX7_beginOneOf cX7_beginOneOf 3 none { frames := 2, cells := 0, slots := 0, locals := 40 } [.ref (xqa E.2.2 2), iV p1, iV p2] WW WW σ (xrV (m_X7_beginOneOf n p1 p2 σ)) := by
  refine xMet.of0 (by decide) (Nat.le_of_ble_eq_true rfl) rfl rfl (fun X hE C => ?_)
  subst hE
  exact xMap (fun q => (none, q)) (wk_X7_beginOneOf C (fun _ => rfl) )
theorem mt_X7_beginOneOf : xMth yX7_beginOneOf cX7_beginOneOf 3 none 2 := ⟨wd1002, wd50, ⟨by decide, by decide, rfl⟩⟩
theorem vr_X7_beginOneOf : xVir yX7_beginOneOf := ⟨wd1001, wd33⟩
def m_X10_letters (n : Nat) (σ : xS) : Option Int :=
  xlet (σ 3 3) fun v1 => loopF (fun rec3 (t2 : Int × Int) => if (zI (σ 3 4)) ≤ (zI t2.2) then some t2.1 else xnz (σ 3 0) <| xck (zI t2.2) 1600 <| xlet ((((t2.1 * 32) + (zI (σ 1 (zI t2.2).toNat))) - 97) + 1) fun v7 => xlet (t2.2 + 1) fun v8 => rec3 (v7, v8)) n (0, v1)
set_option maxHeartbeats 4000000 in
set_option maxRecDepth 100000 in
theorem wk_X10_letters {X : xX} {Qf : Int → State → Prop} {n : Nat} {σ : xS} (C : xCx X cX10_letters "BakeryNight$Scanner" (some .long) { frames := 0, cells := 0, slots := 0, locals := 0 } 4) (hQ : ∀ v, Qf v = xQf X WW (some (jV v), σ))  : WO X Qf WW σ 0 [(0, .ref (xqa (xXE X).2.2 3))] [] (m_X10_letters n σ) := by
  unfold m_X10_letters
  refine x_lconst C 0 dX10_letters_0 rfl ?_
  refine x_lstore_n (L' := [(1, _), (0, _)]) C dX10_letters_1 rfl (by decide) rfl ?_
  refine x_aload_n C 1 dX10_letters_2 rfl rfl ?_
  refine x_get (v := iV (σ 3 3)) C 3 cls_X10 at_X10 (by decide) wd104 rfl rfl dX10_letters_3 ?_
  refine x_letI (fun v1 => ?_)
  refine x_istore_n (L' := [(3, _), (1, _), (0, _)]) C dX10_letters_6 rfl (by decide) rfl ?_
  refine x_pick [2, 1, 0] rfl ?_
  refine x_loop (fun t2 : Int × Int => σ) (fun t2 : Int × Int => [(0, .ref (xqa (xXE X).2.2 3)), (1, jV t2.1), (3, iV t2.2)]) (fun rec3 hr4 t2 => ?_) n (0, v1)
  refine x_iload_n C 2 dX10_letters_7 rfl rfl ?_
  refine x_aload_n C 0 dX10_letters_8 rfl rfl ?_
  refine x_get (v := iV (σ 3 4)) C 4 cls_X10 at_X10 (by decide) wd106 rfl rfl dX10_letters_9 ?_
  refine x_icmp_ge C 41 rfl rfl dX10_letters_12 rfl (fun c5 => x_op c5 ?_) (fun c5 => x_on c5 ?_)
  · refine x_lload_n C 1 dX10_letters_41 rfl rfl ?_
    exact x_lretQ C (hQ _) rfl dX10_letters_42
  · refine x_lload_n C 1 dX10_letters_15 rfl rfl ?_
    refine x_ldc2 C (32) wd1020 rfl dX10_letters_16 ?_
    refine x_lmul C dX10_letters_19 ?_
    refine x_aload_n C 0 dX10_letters_20 rfl rfl ?_
    refine x_gd (y := σ 3 0) (fun hg6 => ?_)
    refine x_get (v := .ref (xqa (xXE X).2.2 1)) C 0 cls_X10 at_X10 (by decide) wd100 rfl (xV_r (rt_X10_text hg6) rfl) dX10_letters_21 ?_
    refine x_iload_n C 2 dX10_letters_24 rfl rfl ?_
    refine x_bald C at_X12_buffer rfl dX10_letters_25 (fun _ => ?_)
    refine x_i2l C dX10_letters_26 ?_
    refine x_ladd C dX10_letters_27 ?_
    refine x_ldc2 C (97) wd1021 rfl dX10_letters_28 ?_
    refine x_lsub C dX10_letters_31 ?_
    refine x_lconst C 1 dX10_letters_32 rfl ?_
    refine x_ladd C dX10_letters_33 ?_
    refine x_letL (fun v7 => ?_)
    refine x_lstore_n (L' := [(1, _), (0, _), (3, _)]) C dX10_letters_34 rfl (by decide) rfl ?_
    refine x_inc C 2 (f := _) dX10_letters_35 rfl (by decide) (1) rfl (fun v8 => ?_)
    refine x_reL (L' := [(3, _), (1, _), (0, _)]) rfl ?_
    refine x_goto C 7 dX10_letters_38 rfl ?_
    refine x_pick [2, 1, 0] rfl ?_
    exact hr4 (v7, v8)
theorem ct_X10_letters (l : Launch) (E : xE) (n : Nat) (σ : xS)   : xMet l E yX10_letters cX10_letters 4 (some .long) { frames := 0, cells := 0, slots := 0, locals := 0 } [.ref (xqa E.2.2 3)] WW WW σ (xrL (m_X10_letters n σ) σ) := by
  refine xMet.of0 (by decide) (Nat.le_of_ble_eq_true rfl) rfl rfl (fun X hE C => ?_)
  subst hE
  exact xMap (fun v => (some (jV v), σ)) (wk_X10_letters C (fun _ => rfl) )
theorem mt_X10_letters : xMth yX10_letters cX10_letters 4 (some .long) 0 := ⟨wd1019, wd51, ⟨by decide, by decide, rfl⟩⟩
theorem vr_X10_letters : xVir yX10_letters := ⟨wd1017, wd1018⟩
def m_X7_indexOfName (n : Nat) (k1 z1 : Nat) (p2 : Int) (σ : xS) : Option Int :=
  (m_X10_letters n σ).bind fun v1 => loopF (fun rec3 (t2 : Int) => if (zI p2) ≤ (zI t2) then some (-1) else xck (zI t2) z1 <| if (zI (zcmp (σ k1 (zI t2).toNat) v1)) = 0 then some t2 else xlet (t2 + 1) fun v7 => rec3 v7) n 0
set_option maxHeartbeats 4000000 in
set_option maxRecDepth 100000 in
theorem wk_X7_indexOfName {X : xX} {Qf : Int → State → Prop} {n : Nat} {k1 z1 : Nat} {p2 : Int} {σ : xS} (C : xCx X cX7_indexOfName "BakeryNight$Parser" (some .int) { frames := 1, cells := 0, slots := 0, locals := 23 } 6) (hQ : ∀ v, Qf v = xQf X WW (some (iV v), σ)) (hk1 : xAt WW k1 1 z1) : WO X Qf WW σ 0 [(0, .ref (xqa (xXE X).2.2 2)), (1, .ref (xqa (xXE X).2.2 k1)), (2, iV p2)] [] (m_X7_indexOfName n k1 z1 p2 σ) := by
  unfold m_X7_indexOfName
  refine x_aload_n C 0 dX7_indexOfName_0 rfl rfl ?_
  refine x_get (v := .ref (xqa (xXE X).2.2 3)) C 0 cls_X7 at_X7 (by decide) wd119 rfl (xV_r (rt_X7_scanner  _) rfl) dX7_indexOfName_1 ?_
  refine x_callV C (ct_X10_letters _ _ n σ) mt_X10_letters vr_X10_letters wd1016 cls_X10 at_X10 rfl ⟨rfl, rfl, Nat.le_of_ble_eq_true rfl, Nat.le_of_ble_eq_true rfl⟩ rfl (by decide) dX7_indexOfName_4 (kL (fun v1 => ?_))
  refine x_lstore_n (L' := [(3, _), (0, _), (1, _), (2, _)]) C dX7_indexOfName_7 rfl (by decide) rfl ?_
  refine x_iconst C (0) dX7_indexOfName_8 rfl ?_
  refine x_istore (L' := [(5, _), (3, _), (0, _), (1, _), (2, _)]) C dX7_indexOfName_9 (by decide) rfl ?_
  refine x_pick [3, 4, 1, 0] rfl ?_
  refine x_loop (fun t2 : Int => σ) (fun t2 : Int => [(1, .ref (xqa (xXE X).2.2 k1)), (2, iV p2), (3, jV v1), (5, iV t2)]) (fun rec3 hr4 t2 => ?_) n 0
  refine x_iload C 3 dX7_indexOfName_11 rfl ?_
  refine x_iload_n C 1 dX7_indexOfName_13 rfl rfl ?_
  refine x_icmp_ge C 35 rfl rfl dX7_indexOfName_14 rfl (fun c5 => x_op c5 ?_) (fun c5 => x_on c5 ?_)
  · refine x_iconst C (-1) dX7_indexOfName_35 rfl ?_
    exact x_iretQ C (hQ _) rfl dX7_indexOfName_36
  · refine x_aload_n C 0 dX7_indexOfName_17 rfl rfl ?_
    refine x_iload C 3 dX7_indexOfName_18 rfl ?_
    refine x_lald C hk1 rfl dX7_indexOfName_20 (fun _ => ?_)
    refine x_lload_n C 2 dX7_indexOfName_21 rfl rfl ?_
    refine x_lcmp C dX7_indexOfName_22 ?_
    refine x_if_ne C 29 rfl dX7_indexOfName_23 rfl (fun c6 => x_on c6 ?_) (fun c6 => x_op c6 ?_)
    · refine x_inc C 3 (f := _) dX7_indexOfName_29 rfl (by decide) (1) rfl (fun v7 => ?_)
      refine x_reL (L' := [(5, _), (1, _), (2, _), (3, _)]) rfl ?_
      refine x_goto C 11 dX7_indexOfName_32 rfl ?_
      refine x_pick [1, 2, 3, 0] rfl ?_
      exact hr4 v7
    · refine x_iload C 3 dX7_indexOfName_26 rfl ?_
      exact x_iretQ C (hQ _) rfl dX7_indexOfName_28
theorem ct_X7_indexOfName (l : Launch) (E : xE) (n : Nat) (k1 z1 : Nat) (p2 : Int) (σ : xS) (hk1 : xAt WW k1 1 z1)  : xMet l E yX7_indexOfName cX7_indexOfName 6 (some .int) { frames := 1, cells := 0, slots := 0, locals := 23 } [.ref (xqa E.2.2 2), .ref (xqa E.2.2 k1), iV p2] WW WW σ (xrI (m_X7_indexOfName n k1 z1 p2 σ) σ) := by
  refine xMet.of0 (by decide) (Nat.le_of_ble_eq_true rfl) rfl rfl (fun X hE C => ?_)
  subst hE
  exact xMap (fun v => (some (iV v), σ)) (wk_X7_indexOfName C (fun _ => rfl) hk1)
theorem mt_X7_indexOfName : xMth yX7_indexOfName cX7_indexOfName 6 (some .int) 2 := ⟨wd1015, wd50, ⟨by decide, by decide, rfl⟩⟩
theorem vr_X7_indexOfName : xVir yX7_indexOfName := ⟨wd1014, wd35⟩
def m_X7_readVan (n : Nat) (k1 : Nat) (σ : xS) : Option xS :=
  (m_X7_beginOneOf n 3 (σ k1 11) σ).bind fun s1 => xbS (m_X7_readNumber n 1 2000 s1) fun v3 s2 => xj (fun (q6 : xS) => some q6) fun J4 => if (m_X7_failed s2) = 0 then xck (zI (s2 k1 11)) 3 <| xlet (xput s2 (k1 + 38) (zI (s2 k1 11)).toNat v3) fun s8 => xlet (xput s8 k1 11 ((s8 k1 11) + 1)) fun s9 => J4 s9 else J4 s2
set_option maxHeartbeats 4000000 in
set_option maxRecDepth 100000 in
theorem wk_X7_readVan {X : xX} {Qf : xS → State → Prop} {n : Nat} {k1 : Nat} {σ : xS} (C : xCx X cX7_readVan "BakeryNight$Parser" none { frames := 3, cells := 0, slots := 0, locals := 63 } 3) (hQ : ∀ τ, Qf τ = xQf X WW (none, τ)) (hk1 : isBk k1) : WO X Qf WW σ 0 [(0, .ref (xqa (xXE X).2.2 2)), (1, .ref (xqa (xXE X).2.2 k1))] [] (m_X7_readVan n k1 σ) := by
  unfold m_X7_readVan
  refine x_aload_n C 0 dX7_readVan_0 rfl rfl ?_
  refine x_iconst C (3) dX7_readVan_1 rfl ?_
  refine x_aload_n C 1 dX7_readVan_2 rfl rfl ?_
  refine x_get (v := iV (σ k1 11)) C 11 cls_X1 (at_X1 hk1) (by decide) wd376 rfl rfl dX7_readVan_3 ?_
  refine x_callV C (ct_X7_beginOneOf _ _ n 3 (σ k1 11) σ) mt_X7_beginOneOf vr_X7_beginOneOf wd999 cls_X7 at_X7 rfl ⟨rfl, rfl, Nat.le_of_ble_eq_true rfl, Nat.le_of_ble_eq_true rfl⟩ rfl (by decide) dX7_readVan_6 (kV (fun s1 => ?_))
  refine x_aload_n C 0 dX7_readVan_9 rfl rfl ?_
  refine x_iconst C (1) dX7_readVan_10 rfl ?_
  refine x_sipush C (2000) dX7_readVan_11 rfl ?_
  refine x_callV C (ct_X7_readNumber _ _ n 1 2000 s1) mt_X7_readNumber vr_X7_readNumber wd979 cls_X7 at_X7 rfl ⟨rfl, rfl, Nat.le_of_ble_eq_true rfl, Nat.le_of_ble_eq_true rfl⟩ rfl (by decide) dX7_readVan_14 (kS (fun v3 s2 => ?_))
  refine x_istore_n (L' := [(2, _), (0, _), (1, _)]) C dX7_readVan_17 rfl (by decide) rfl ?_
  refine x_aload_n C 1 dX7_readVan_18 rfl rfl ?_
  refine x_callV C (ct_X7_failed _ _ s2) mt_X7_failed vr_X7_failed wd991 cls_X7 at_X7 rfl ⟨rfl, rfl, Nat.le_of_ble_eq_true rfl, Nat.le_of_ble_eq_true rfl⟩ rfl (by decide) dX7_readVan_19 (kP ?_)
  refine x_join (fun J => ∀ q6 : xS, WO X Qf WW q6 45 [] [] (J q6)) ?_ ?_
  · intro q6
    exact x_vretQ C (hQ _) rfl dX7_readVan_45
  · intro J4 hJ5
    refine x_if_ne C 45 (zI_bo (bo_X7_failed _)) dX7_readVan_22 rfl (fun c7 => x_on c7 ?_) (fun c7 => x_op c7 ?_)
    · refine x_pick [] rfl ?_
      exact hJ5 s2
    · refine x_aload_n C 2 dX7_readVan_25 rfl rfl ?_
      refine x_get (v := .ref (xqa (xXE X).2.2 (k1 + 38))) C 10 cls_X1 (at_X1 hk1) (by decide) wd373 rfl (xV_r (rt_X1_vanLoads hk1 _) rfl) dX7_readVan_26 ?_
      refine x_aload_n C 2 dX7_readVan_29 rfl rfl ?_
      refine x_get (v := iV (s2 k1 11)) C 11 cls_X1 (at_X1 hk1) (by decide) wd376 rfl rfl dX7_readVan_30 ?_
      refine x_iload_n C 0 dX7_readVan_33 rfl rfl ?_
      refine x_iast C (at_X1_vanLoads hk1) rfl dX7_readVan_34 (fun _ => ?_)
      refine x_letS (fun s8 => ?_)
      refine x_aload_n C 2 dX7_readVan_35 rfl rfl ?_
      refine x_dup C dX7_readVan_36 rfl ?_
      refine x_get (v := iV (s8 k1 11)) C 11 cls_X1 (at_X1 hk1) (by decide) wd376 rfl rfl dX7_readVan_37 ?_
      refine x_iconst C (1) dX7_readVan_40 rfl ?_
      refine x_iadd C dX7_readVan_41 ?_
      refine x_put C 11 ((s8 k1 11) + 1) cls_X1 (at_X1 hk1) (by decide) wd376 rfl rfl rfl rfl (xV_pI rfl) dX7_readVan_42 ?_
      refine x_letS (fun s9 => ?_)
      refine x_pick [] rfl ?_
      exact hJ5 s9
theorem ct_X7_readVan (l : Launch) (E : xE) (n : Nat) (k1 : Nat) (σ : xS) (hk1 : isBk k1)  : xMet l E yX7_readVan cX7_readVan 3 none { frames := 3, cells := 0, slots := 0, locals := 63 } [.ref (xqa E.2.2 2), .ref (xqa E.2.2 k1)] WW WW σ (xrV (m_X7_readVan n k1 σ)) := by
  refine xMet.of0 (by decide) (Nat.le_of_ble_eq_true rfl) rfl rfl (fun X hE C => ?_)
  subst hE
  exact xMap (fun q => (none, q)) (wk_X7_readVan C (fun _ => rfl) hk1)
theorem mt_X7_readVan : xMth yX7_readVan cX7_readVan 3 none 1 := ⟨wd1071, wd50, ⟨by decide, by decide, rfl⟩⟩
theorem vr_X7_readVan : xVir yX7_readVan := ⟨wd1070, wd41⟩
def m_X7_readSemicolon (n : Nat) (σ : xS) : Option xS :=
  xj (fun (q4 : xS) => xj (fun (q8 : xS) => some q8) fun J6 => if (m_X7_failed q4) = 0 then (m_X10_next n q4).bind fun s10 => J6 s10 else J6 q4) fun J2 => if (zI (σ 3 2)) = 3 then J2 σ else (m_X7_fail 1 σ).bind fun s12 => J2 s12
set_option maxHeartbeats 4000000 in
set_option maxRecDepth 100000 in
theorem wk_X7_readSemicolon {X : xX} {Qf : xS → State → Prop} {n : Nat} {σ : xS} (C : xCx X cX7_readSemicolon "BakeryNight$Parser" none { frames := 2, cells := 0, slots := 0, locals := 40 } 1) (hQ : ∀ τ, Qf τ = xQf X WW (none, τ))  : WO X Qf WW σ 0 [(0, .ref (xqa (xXE X).2.2 2))] [] (m_X7_readSemicolon n σ) := by
  unfold m_X7_readSemicolon
  refine x_aload_n C 0 dX7_readSemicolon_0 rfl rfl ?_
  refine x_get (v := .ref (xqa (xXE X).2.2 3)) C 0 cls_X7 at_X7 (by decide) wd119 rfl (xV_r (rt_X7_scanner  _) rfl) dX7_readSemicolon_1 ?_
  refine x_get (v := iV (σ 3 2)) C 2 cls_X10 at_X10 (by decide) wd102 rfl rfl dX7_readSemicolon_4 ?_
  refine x_iconst C (3) dX7_readSemicolon_7 rfl ?_
  refine x_join (fun J => ∀ q4 : xS, WO X Qf WW q4 16 [(0, .ref (xqa (xXE X).2.2 2))] [] (J q4)) ?_ ?_
  · intro q4
    refine x_aload_n C 0 dX7_readSemicolon_16 rfl rfl ?_
    refine x_callV C (ct_X7_failed _ _ q4) mt_X7_failed vr_X7_failed wd991 cls_X7 at_X7 rfl ⟨rfl, rfl, Nat.le_of_ble_eq_true rfl, Nat.le_of_ble_eq_true rfl⟩ rfl (by decide) dX7_readSemicolon_17 (kP ?_)
    refine x_join (fun J => ∀ q8 : xS, WO X Qf WW q8 30 [] [] (J q8)) ?_ ?_
    · intro q8
      exact x_vretQ C (hQ _) rfl dX7_readSemicolon_30
    · intro J6 hJ7
      refine x_if_ne C 30 (zI_bo (bo_X7_failed _)) dX7_readSemicolon_20 rfl (fun c9 => x_on c9 ?_) (fun c9 => x_op c9 ?_)
      · refine x_pick [] rfl ?_
        exact hJ7 q4
      · refine x_aload_n C 0 dX7_readSemicolon_23 rfl rfl ?_
        refine x_get (v := .ref (xqa (xXE X).2.2 3)) C 0 cls_X7 at_X7 (by decide) wd119 rfl (xV_r (rt_X7_scanner  _) rfl) dX7_readSemicolon_24 ?_
        refine x_callV C (ct_X10_next _ _ n q4) mt_X10_next vr_X10_next wd978 cls_X10 at_X10 rfl ⟨rfl, rfl, Nat.le_of_ble_eq_true rfl, Nat.le_of_ble_eq_true rfl⟩ rfl (by decide) dX7_readSemicolon_27 (kV (fun s10 => ?_))
        refine x_pick [] rfl ?_
        exact hJ7 s10
  · intro J2 hJ3
    refine x_icmp_eq C 16 rfl (zIl _ rfl) dX7_readSemicolon_8 rfl (fun c11 => x_op c11 ?_) (fun c11 => x_on c11 ?_)
    · refine x_pick [0] rfl ?_
      exact hJ3 σ
    · refine x_aload_n C 0 dX7_readSemicolon_11 rfl rfl ?_
      refine x_iconst C (1) dX7_readSemicolon_12 rfl ?_
      refine x_callV C (ct_X7_fail _ _ 1 σ) mt_X7_fail vr_X7_fail wd962 cls_X7 at_X7 rfl ⟨rfl, rfl, Nat.le_of_ble_eq_true rfl, Nat.le_of_ble_eq_true rfl⟩ rfl (by decide) dX7_readSemicolon_13 (kV (fun s12 => ?_))
      refine x_pick [0] rfl ?_
      exact hJ3 s12
theorem ct_X7_readSemicolon (l : Launch) (E : xE) (n : Nat) (σ : xS)   : xMet l E yX7_readSemicolon cX7_readSemicolon 1 none { frames := 2, cells := 0, slots := 0, locals := 40 } [.ref (xqa E.2.2 2)] WW WW σ (xrV (m_X7_readSemicolon n σ)) := by
  refine xMet.of0 (by decide) (Nat.le_of_ble_eq_true rfl) rfl rfl (fun X hE C => ?_)
  subst hE
  exact xMap (fun q => (none, q)) (wk_X7_readSemicolon C (fun _ => rfl) )
theorem mt_X7_readSemicolon : xMth yX7_readSemicolon cX7_readSemicolon 1 none 0 := ⟨wd1089, wd50, ⟨by decide, by decide, rfl⟩⟩
theorem vr_X7_readSemicolon : xVir yX7_readSemicolon := ⟨wd1088, wd44⟩
def m_X8_gather (n : Nat) (k0 : Nat) (k1 : Nat) (k2 : Nat) (σ : xS) : Option xS :=
  (m_J7_fill_53178 n (k0 + 1) 7 1439 σ).bind fun s1 => (m_J7_fill_53178 n (k0 + 2) 7 0 s1).bind fun s2 => (m_J7_fill_53178 n (k0 + 3) 7 0 s2).bind fun s3 => xlet (xput s3 k0 4 0) fun s4 => loopF (fun rec6 (t5 : Int × Int × xS) => if (zI (t5.2.2 k1 13)) ≤ (zI t5.2.1) then xlet (xput t5.2.2 k0 3 (zand t5.1 (zxor (t5.2.2 k0 4) (-1)))) fun s9 => some s9 else (m_X1_hasOrder k1 t5.2.1 t5.2.2).bind fun v10 => xj (fun (q14 : Int × xS) => xlet (t5.2.1 + 1) fun v15 => rec6 (q14.1, v15, q14.2)) fun J12 => if (zI v10) = 0 then J12 (t5.1, t5.2.2) else xck (zI t5.2.1) 24 <| xlet (zor t5.1 (zshl 1 (t5.2.2 (k1 + 14 + (zI t5.2.1).toNat) 0))) fun v18 => xck (zI t5.2.1) 24 <| xj (fun (q21 : xS) => xck (zI (q21 (k1 + 14 + (zI t5.2.1).toNat) 0)) 7 <| xck (zI (q21 (k1 + 14 + (zI t5.2.1).toNat) 0)) 7 <| xlet (xput q21 (k0 + 1) (zI (q21 (k1 + 14 + (zI t5.2.1).toNat) 0)).toNat (zmin (q21 (k0 + 1) (zI (q21 (k1 + 14 + (zI t5.2.1).toNat) 0)).toNat) (q21 (k1 + 14 + (zI t5.2.1).toNat) 3))) fun s22 => xck (zI (s22 (k1 + 14 + (zI t5.2.1).toNat) 0)) 7 <| xck (zI (s22 (k1 + 14 + (zI t5.2.1).toNat) 0)) 7 <| xlet (xput s22 (k0 + 2) (zI (s22 (k1 + 14 + (zI t5.2.1).toNat) 0)).toNat ((s22 (k0 + 2) (zI (s22 (k1 + 14 + (zI t5.2.1).toNat) 0)).toNat) + (s22 (k1 + 14 + (zI t5.2.1).toNat) 2))) fun s23 => xck (zI (s23 (k1 + 14 + (zI t5.2.1).toNat) 0)) 7 <| xck (zI t5.2.1) 24 <| xck (zI (s23 (k1 + 14 + (zI t5.2.1).toNat) 0)) 7 <| xlet (xput s23 (k0 + 3) (zI (s23 (k1 + 14 + (zI t5.2.1).toNat) 0)).toNat (zmax (s23 (k0 + 3) (zI (s23 (k1 + 14 + (zI t5.2.1).toNat) 0)).toNat) (s23 (k2 + 19) (zI t5.2.1).toNat))) fun s24 => J12 (v18, s24)) fun J19 => if (zI (t5.2.2 (k2 + 19) (zI t5.2.1).toNat)) = (-1) then xlet (xput t5.2.2 k0 4 (zor (t5.2.2 k0 4) (zshl 1 (t5.2.2 (k1 + 14 + (zI t5.2.1).toNat) 0)))) fun s26 => J19 s26 else J19 t5.2.2) n (0, 0, s4)
set_option maxHeartbeats 4000000 in
set_option maxRecDepth 100000 in
theorem wk_X8_gather {X : xX} {Qf : xS → State → Prop} {n : Nat} {k0 : Nat} {k1 : Nat} {k2 : Nat} {σ : xS} (C : xCx X cX8_gather "BakeryNight$Plan" none { frames := 1, cells := 0, slots := 0, locals := 23 } 6) (hQ : ∀ τ, Qf τ = xQf X WW (none, τ)) (hk0 : isPl k0) (hk1 : isBk k1) (hk2 : isNt k2) : WO X Qf WW σ 0 [(0, .ref (xqa (xXE X).2.2 k0)), (1, .ref (xqa (xXE X).2.2 k1)), (2, .ref (xqa (xXE X).2.2 k2))] [] (m_X8_gather n k0 k1 k2 σ) := by
  unfold m_X8_gather
  refine x_aload_n C 0 dX8_gather_0 rfl rfl ?_
  refine x_get (v := .ref (xqa (xXE X).2.2 (k0 + 1))) C 0 cls_X8 (at_X8 hk0) (by decide) wd519 rfl (xV_r (rt_X8_due hk0 _) rfl) dX8_gather_1 ?_
  refine x_sipush C (1439) dX8_gather_4 rfl ?_
  refine x_callS C (ct_J7_fill_53178 _ _ n (k0 + 1) 7 1439 σ (at_X8_due hk0)) mt_J7_fill_53178 st_J7_fill_53178 wd772 rfl ⟨rfl, rfl, Nat.le_of_ble_eq_true rfl, Nat.le_of_ble_eq_true rfl⟩ rfl (by decide) dX8_gather_7 (kV (fun s1 => ?_))
  refine x_aload_n C 0 dX8_gather_10 rfl rfl ?_
  refine x_get (v := .ref (xqa (xXE X).2.2 (k0 + 2))) C 1 cls_X8 (at_X8 hk0) (by decide) wd520 rfl (xV_r (rt_X8_load hk0 _) rfl) dX8_gather_11 ?_
  refine x_iconst C (0) dX8_gather_14 rfl ?_
  refine x_callS C (ct_J7_fill_53178 _ _ n (k0 + 2) 7 0 s1 (at_X8_load hk0)) mt_J7_fill_53178 st_J7_fill_53178 wd772 rfl ⟨rfl, rfl, Nat.le_of_ble_eq_true rfl, Nat.le_of_ble_eq_true rfl⟩ rfl (by decide) dX8_gather_15 (kV (fun s2 => ?_))
  refine x_aload_n C 0 dX8_gather_18 rfl rfl ?_
  refine x_get (v := .ref (xqa (xXE X).2.2 (k0 + 3))) C 2 cls_X8 (at_X8 hk0) (by decide) wd521 rfl (xV_r (rt_X8_readyAt hk0 _) rfl) dX8_gather_19 ?_
  refine x_iconst C (0) dX8_gather_22 rfl ?_
  refine x_callS C (ct_J7_fill_53178 _ _ n (k0 + 3) 7 0 s2 (at_X8_readyAt hk0)) mt_J7_fill_53178 st_J7_fill_53178 wd772 rfl ⟨rfl, rfl, Nat.le_of_ble_eq_true rfl, Nat.le_of_ble_eq_true rfl⟩ rfl (by decide) dX8_gather_23 (kV (fun s3 => ?_))
  refine x_iconst C (0) dX8_gather_26 rfl ?_
  refine x_istore_n (L' := [(3, _), (0, _), (1, _), (2, _)]) C dX8_gather_27 rfl (by decide) rfl ?_
  refine x_aload_n C 1 dX8_gather_28 rfl rfl ?_
  refine x_iconst C (0) dX8_gather_29 rfl ?_
  refine x_put C 4 0 cls_X8 (at_X8 hk0) (by decide) wd523 rfl rfl rfl rfl (xV_pI rfl) dX8_gather_30 ?_
  refine x_letS (fun s4 => ?_)
  refine x_iconst C (0) dX8_gather_33 rfl ?_
  refine x_istore (L' := [(4, _), (3, _), (0, _), (1, _), (2, _)]) C dX8_gather_34 (by decide) rfl ?_
  refine x_pick [2, 3, 4, 1, 0] rfl ?_
  refine x_loop (fun t5 : Int × Int × xS => t5.2.2) (fun t5 : Int × Int × xS => [(0, .ref (xqa (xXE X).2.2 k0)), (1, .ref (xqa (xXE X).2.2 k1)), (2, .ref (xqa (xXE X).2.2 k2)), (3, iV t5.1), (4, iV t5.2.1)]) (fun rec6 hr7 t5 => ?_) n (0, 0, s4)
  refine x_iload C 4 dX8_gather_36 rfl ?_
  refine x_aload_n C 1 dX8_gather_38 rfl rfl ?_
  refine x_get (v := iV (t5.2.2 k1 13)) C 13 cls_X1 (at_X1 hk1) (by decide) wd383 rfl rfl dX8_gather_39 ?_
  refine x_icmp_ge C 182 rfl rfl dX8_gather_42 rfl (fun c8 => x_op c8 ?_) (fun c8 => x_on c8 ?_)
  · refine x_aload_n C 0 dX8_gather_182 rfl rfl ?_
    refine x_iload_n C 3 dX8_gather_183 rfl rfl ?_
    refine x_aload_n C 0 dX8_gather_184 rfl rfl ?_
    refine x_get (v := iV (t5.2.2 k0 4)) C 4 cls_X8 (at_X8 hk0) (by decide) wd523 rfl rfl dX8_gather_185 ?_
    refine x_iconst C (-1) dX8_gather_188 rfl ?_
    refine x_ixor C dX8_gather_189 ?_
    refine x_iand C dX8_gather_190 ?_
    refine x_put C 3 (zand t5.1 (zxor (t5.2.2 k0 4) (-1))) cls_X8 (at_X8 hk0) (by decide) wd522 rfl rfl rfl rfl (xV_pI rfl) dX8_gather_191 ?_
    refine x_letS (fun s9 => ?_)
    exact x_vretQ C (hQ _) rfl dX8_gather_194
  · refine x_aload_n C 1 dX8_gather_45 rfl rfl ?_
    refine x_iload C 4 dX8_gather_46 rfl ?_
    refine x_callV C (ct_X1_hasOrder _ _ k1 t5.2.1 t5.2.2 hk1) mt_X1_hasOrder vr_X1_hasOrder wd773 cls_X1 (at_X1 hk1) rfl ⟨rfl, rfl, Nat.le_of_ble_eq_true rfl, Nat.le_of_ble_eq_true rfl⟩ rfl (by decide) dX8_gather_48 (kI (fun v10 => ?_))
    refine x_join (fun J => ∀ q14 : Int × xS, WO X Qf WW q14.2 176 [(0, .ref (xqa (xXE X).2.2 k0)), (1, .ref (xqa (xXE X).2.2 k1)), (2, .ref (xqa (xXE X).2.2 k2)), (3, iV q14.1), (4, iV t5.2.1)] [] (J q14)) ?_ ?_
    · intro q14
      refine x_inc C 4 (f := _) dX8_gather_176 rfl (by decide) (1) rfl (fun v15 => ?_)
      refine x_reL (L' := [(4, _), (0, _), (1, _), (2, _), (3, _)]) rfl ?_
      refine x_goto C 36 dX8_gather_179 rfl ?_
      refine x_pick [1, 2, 3, 4, 0] rfl ?_
      exact hr7 (q14.1, v15, q14.2)
    · intro J12 hJ13
      refine x_if_eq C 176 rfl dX8_gather_51 rfl (fun c16 => x_op c16 ?_) (fun c16 => x_on c16 ?_)
      · refine x_pick [0, 1, 2, 3, 4] rfl ?_
        exact hJ13 (t5.1, t5.2.2)
      · refine x_aload_n C 1 dX8_gather_54 rfl rfl ?_
        refine x_get (v := .ref (xqa (xXE X).2.2 (k1 + 13))) C 12 cls_X1 (at_X1 hk1) (by decide) wd378 rfl (xV_r (rt_X1_orders hk1 _) rfl) dX8_gather_55 ?_
        refine x_iload C 4 dX8_gather_58 rfl ?_
        refine x_aald C (at_X1_orders hk1) (by decide) rfl (fun h17 => rl_X1_orders hk1 _ h17) dX8_gather_60 (fun h17 => ?_)
        refine x_astore (L' := [(5, _), (0, _), (1, _), (2, _), (3, _), (4, _)]) C dX8_gather_61 (by decide) rfl ?_
        refine x_iload_n C 4 dX8_gather_63 rfl rfl ?_
        refine x_iconst C (1) dX8_gather_64 rfl ?_
        refine x_aload C 0 dX8_gather_65 rfl ?_
        refine x_get (v := iV (t5.2.2 (k1 + 14 + (zI t5.2.1).toNat) 0)) C 0 cls_X5 (el_X1_orders hk1 h17) (by decide) wd239 rfl rfl dX8_gather_67 ?_
        refine x_ishl C dX8_gather_70 ?_
        refine x_ior C dX8_gather_71 ?_
        refine x_letI (fun v18 => ?_)
        refine x_istore_n (L' := [(3, _), (5, _), (0, _), (1, _), (2, _), (4, _)]) C dX8_gather_72 rfl (by decide) rfl ?_
        refine x_aload_n C 4 dX8_gather_73 rfl rfl ?_
        refine x_get (v := .ref (xqa (xXE X).2.2 (k2 + 19))) C 18 cls_X4 (at_X4 hk2) (by decide) wd469 rfl (xV_r (rt_X4_ready hk2 _) rfl) dX8_gather_74 ?_
        refine x_iload C 5 dX8_gather_77 rfl ?_
        refine x_iald C (at_X4_ready hk2) rfl dX8_gather_79 (fun _ => ?_)
        refine x_iconst C (-1) dX8_gather_80 rfl ?_
        refine x_join (fun J => ∀ q21 : xS, WO X Qf WW q21 100 [(0, .ref (xqa (xXE X).2.2 k0)), (1, .ref (xqa (xXE X).2.2 k1)), (2, .ref (xqa (xXE X).2.2 k2)), (3, iV v18), (4, iV t5.2.1), (5, .ref (xqa (xXE X).2.2 (k1 + 14 + (zI t5.2.1).toNat)))] [] (J q21)) ?_ ?_
        · intro q21
          refine x_aload_n C 0 dX8_gather_100 rfl rfl ?_
          refine x_get (v := .ref (xqa (xXE X).2.2 (k0 + 1))) C 0 cls_X8 (at_X8 hk0) (by decide) wd519 rfl (xV_r (rt_X8_due hk0 _) rfl) dX8_gather_101 ?_
          refine x_aload C 5 dX8_gather_104 rfl ?_
          refine x_get (v := iV (q21 (k1 + 14 + (zI t5.2.1).toNat) 0)) C 0 cls_X5 (el_X1_orders hk1 h17) (by decide) wd239 rfl rfl dX8_gather_106 ?_
          refine x_aload_n C 0 dX8_gather_109 rfl rfl ?_
          refine x_get (v := .ref (xqa (xXE X).2.2 (k0 + 1))) C 0 cls_X8 (at_X8 hk0) (by decide) wd519 rfl (xV_r (rt_X8_due hk0 _) rfl) dX8_gather_110 ?_
          refine x_aload C 5 dX8_gather_113 rfl ?_
          refine x_get (v := iV (q21 (k1 + 14 + (zI t5.2.1).toNat) 0)) C 0 cls_X5 (el_X1_orders hk1 h17) (by decide) wd239 rfl rfl dX8_gather_115 ?_
          refine x_iald C (at_X8_due hk0) rfl dX8_gather_118 (fun _ => ?_)
          refine x_aload C 5 dX8_gather_119 rfl ?_
          refine x_get (v := iV (q21 (k1 + 14 + (zI t5.2.1).toNat) 3)) C 3 cls_X5 (el_X1_orders hk1 h17) (by decide) wd248 rfl rfl dX8_gather_121 ?_
          refine x_mmin C wd774 wd321 wd58 wd322 (Nat.le_of_ble_eq_true rfl) (Nat.le_of_ble_eq_true rfl) dX8_gather_124 ?_
          refine x_iast C (at_X8_due hk0) rfl dX8_gather_127 (fun _ => ?_)
          refine x_letS (fun s22 => ?_)
          refine x_aload_n C 0 dX8_gather_128 rfl rfl ?_
          refine x_get (v := .ref (xqa (xXE X).2.2 (k0 + 2))) C 1 cls_X8 (at_X8 hk0) (by decide) wd520 rfl (xV_r (rt_X8_load hk0 _) rfl) dX8_gather_129 ?_
          refine x_aload C 5 dX8_gather_132 rfl ?_
          refine x_get (v := iV (s22 (k1 + 14 + (zI t5.2.1).toNat) 0)) C 0 cls_X5 (el_X1_orders hk1 h17) (by decide) wd239 rfl rfl dX8_gather_134 ?_
          refine x_dup2 C dX8_gather_137 rfl rfl ?_
          refine x_iald C (at_X8_load hk0) rfl dX8_gather_138 (fun _ => ?_)
          refine x_aload C 5 dX8_gather_139 rfl ?_
          refine x_get (v := iV (s22 (k1 + 14 + (zI t5.2.1).toNat) 2)) C 2 cls_X5 (el_X1_orders hk1 h17) (by decide) wd244 rfl rfl dX8_gather_141 ?_
          refine x_iadd C dX8_gather_144 ?_
          refine x_iast C (at_X8_load hk0) rfl dX8_gather_145 (fun _ => ?_)
          refine x_letS (fun s23 => ?_)
          refine x_aload_n C 0 dX8_gather_146 rfl rfl ?_
          refine x_get (v := .ref (xqa (xXE X).2.2 (k0 + 3))) C 2 cls_X8 (at_X8 hk0) (by decide) wd521 rfl (xV_r (rt_X8_readyAt hk0 _) rfl) dX8_gather_147 ?_
          refine x_aload C 5 dX8_gather_150 rfl ?_
          refine x_get (v := iV (s23 (k1 + 14 + (zI t5.2.1).toNat) 0)) C 0 cls_X5 (el_X1_orders hk1 h17) (by decide) wd239 rfl rfl dX8_gather_152 ?_
          refine x_aload_n C 0 dX8_gather_155 rfl rfl ?_
          refine x_get (v := .ref (xqa (xXE X).2.2 (k0 + 3))) C 2 cls_X8 (at_X8 hk0) (by decide) wd521 rfl (xV_r (rt_X8_readyAt hk0 _) rfl) dX8_gather_156 ?_
          refine x_aload C 5 dX8_gather_159 rfl ?_
          refine x_get (v := iV (s23 (k1 + 14 + (zI t5.2.1).toNat) 0)) C 0 cls_X5 (el_X1_orders hk1 h17) (by decide) wd239 rfl rfl dX8_gather_161 ?_
          refine x_iald C (at_X8_readyAt hk0) rfl dX8_gather_164 (fun _ => ?_)
          refine x_aload_n C 2 dX8_gather_165 rfl rfl ?_
          refine x_get (v := .ref (xqa (xXE X).2.2 (k2 + 19))) C 18 cls_X4 (at_X4 hk2) (by decide) wd469 rfl (xV_r (rt_X4_ready hk2 _) rfl) dX8_gather_166 ?_
          refine x_iload C 4 dX8_gather_169 rfl ?_
          refine x_iald C (at_X4_ready hk2) rfl dX8_gather_171 (fun _ => ?_)
          refine x_mmax C wd775 wd715 wd58 wd716 (Nat.le_of_ble_eq_true rfl) (Nat.le_of_ble_eq_true rfl) dX8_gather_172 ?_
          refine x_iast C (at_X8_readyAt hk0) rfl dX8_gather_175 (fun _ => ?_)
          refine x_letS (fun s24 => ?_)
          refine x_pick [0, 1, 2, 3, 4] rfl ?_
          exact hJ13 (v18, s24)
        · intro J19 hJ20
          refine x_icmp_ne C 100 rfl (zIl _ rfl) dX8_gather_81 rfl (fun c25 => x_on c25 ?_) (fun c25 => x_op c25 ?_)
          · refine x_pick [2, 3, 4, 0, 5, 1] rfl ?_
            exact hJ20 t5.2.2
          · refine x_aload_n C 2 dX8_gather_84 rfl rfl ?_
            refine x_dup C dX8_gather_85 rfl ?_
            refine x_get (v := iV (t5.2.2 k0 4)) C 4 cls_X8 (at_X8 hk0) (by decide) wd523 rfl rfl dX8_gather_86 ?_
            refine x_iconst C (1) dX8_gather_89 rfl ?_
            refine x_aload C 1 dX8_gather_90 rfl ?_
            refine x_get (v := iV (t5.2.2 (k1 + 14 + (zI t5.2.1).toNat) 0)) C 0 cls_X5 (el_X1_orders hk1 h17) (by decide) wd239 rfl rfl dX8_gather_92 ?_
            refine x_ishl C dX8_gather_95 ?_
            refine x_ior C dX8_gather_96 ?_
            refine x_put C 4 (zor (t5.2.2 k0 4) (zshl 1 (t5.2.2 (k1 + 14 + (zI t5.2.1).toNat) 0))) cls_X8 (at_X8 hk0) (by decide) wd523 rfl rfl rfl rfl (xV_pI rfl) dX8_gather_97 ?_
            refine x_letS (fun s26 => ?_)
            refine x_pick [2, 3, 4, 0, 5, 1] rfl ?_
            exact hJ20 s26
theorem ct_X8_gather (l : Launch) (E : xE) (n : Nat) (k0 : Nat) (k1 : Nat) (k2 : Nat) (σ : xS) (hk0 : isPl k0) (hk1 : isBk k1) (hk2 : isNt k2)  : xMet l E yX8_gather cX8_gather 6 none { frames := 1, cells := 0, slots := 0, locals := 23 } [.ref (xqa E.2.2 k0), .ref (xqa E.2.2 k1), .ref (xqa E.2.2 k2)] WW WW σ (xrV (m_X8_gather n k0 k1 k2 σ)) := by
  refine xMet.of0 (by decide) (Nat.le_of_ble_eq_true rfl) rfl rfl (fun X hE C => ?_)
  subst hE
  exact xMap (fun q => (none, q)) (wk_X8_gather C (fun _ => rfl) hk0 hk1 hk2)
theorem mt_X8_gather : xMth yX8_gather cX8_gather 6 none 2 := ⟨wd771, wd61, ⟨by decide, by decide, rfl⟩⟩
theorem vr_X8_gather : xVir yX8_gather := ⟨wd769, wd770⟩
def m_X8_departureFor (n : Nat) (k0 : Nat) (p1 : Int) (σ : xS) : Option Int :=
  loopF (fun rec2 (t1 : Int × Int) => if 7 ≤ (zI t1.2) then some t1.1 else xj (fun (q7 : Int) => xlet (t1.2 + 1) fun v8 => rec2 (q7, v8)) fun J5 => if (zI (zand (zshr p1 t1.2) 1)) = 0 then J5 t1.1 else xck (zI t1.2) 7 <| xlet (zmax t1.1 (σ (k0 + 3) (zI t1.2).toNat)) fun v10 => J5 v10) n (0, 0)
set_option maxHeartbeats 4000000 in
set_option maxRecDepth 100000 in
theorem wk_X8_departureFor {X : xX} {Qf : Int → State → Prop} {n : Nat} {k0 : Nat} {p1 : Int} {σ : xS} (C : xCx X cX8_departureFor "BakeryNight$Plan" (some .int) { frames := 1, cells := 0, slots := 0, locals := 21 } 4) (hQ : ∀ v, Qf v = xQf X WW (some (iV v), σ)) (hk0 : isPl k0) : WO X Qf WW σ 0 [(0, .ref (xqa (xXE X).2.2 k0)), (1, iV p1)] [] (m_X8_departureFor n k0 p1 σ) := by
  unfold m_X8_departureFor
  refine x_iconst C (0) dX8_departureFor_0 rfl ?_
  refine x_istore_n (L' := [(2, _), (0, _), (1, _)]) C dX8_departureFor_1 rfl (by decide) rfl ?_
  refine x_iconst C (0) dX8_departureFor_2 rfl ?_
  refine x_istore_n (L' := [(3, _), (2, _), (0, _), (1, _)]) C dX8_departureFor_3 rfl (by decide) rfl ?_
  refine x_pick [2, 3, 1, 0] rfl ?_
  refine x_loop (fun t1 : Int × Int => σ) (fun t1 : Int × Int => [(0, .ref (xqa (xXE X).2.2 k0)), (1, iV p1), (2, iV t1.1), (3, iV t1.2)]) (fun rec2 hr3 t1 => ?_) n (0, 0)
  refine x_iload_n C 3 dX8_departureFor_4 rfl rfl ?_
  refine x_bipush C (7) dX8_departureFor_5 rfl ?_
  refine x_icmp_ge C 35 rfl (zIl _ rfl) dX8_departureFor_7 rfl (fun c4 => x_op c4 ?_) (fun c4 => x_on c4 ?_)
  · refine x_iload_n C 2 dX8_departureFor_35 rfl rfl ?_
    exact x_iretQ C (hQ _) rfl dX8_departureFor_36
  · refine x_iload_n C 1 dX8_departureFor_10 rfl rfl ?_
    refine x_iload_n C 3 dX8_departureFor_11 rfl rfl ?_
    refine x_ishr C dX8_departureFor_12 ?_
    refine x_iconst C (1) dX8_departureFor_13 rfl ?_
    refine x_iand C dX8_departureFor_14 ?_
    refine x_join (fun J => ∀ q7 : Int, WO X Qf WW σ 29 [(0, .ref (xqa (xXE X).2.2 k0)), (1, iV p1), (2, iV q7), (3, iV t1.2)] [] (J q7)) ?_ ?_
    · intro q7
      refine x_inc C 3 (f := _) dX8_departureFor_29 rfl (by decide) (1) rfl (fun v8 => ?_)
      refine x_reL (L' := [(3, _), (0, _), (1, _), (2, _)]) rfl ?_
      refine x_goto C 4 dX8_departureFor_32 rfl ?_
      refine x_pick [1, 2, 3, 0] rfl ?_
      exact hr3 (q7, v8)
    · intro J5 hJ6
      refine x_if_eq C 29 rfl dX8_departureFor_15 rfl (fun c9 => x_op c9 ?_) (fun c9 => x_on c9 ?_)
      · refine x_pick [0, 1, 2, 3] rfl ?_
        exact hJ6 t1.1
      · refine x_iload_n C 2 dX8_departureFor_18 rfl rfl ?_
        refine x_aload_n C 0 dX8_departureFor_19 rfl rfl ?_
        refine x_get (v := .ref (xqa (xXE X).2.2 (k0 + 3))) C 2 cls_X8 (at_X8 hk0) (by decide) wd521 rfl (xV_r (rt_X8_readyAt hk0 _) rfl) dX8_departureFor_20 ?_
        refine x_iload_n C 3 dX8_departureFor_23 rfl rfl ?_
        refine x_iald C (at_X8_readyAt hk0) rfl dX8_departureFor_24 (fun _ => ?_)
        refine x_mmax C wd775 wd715 wd58 wd716 (Nat.le_of_ble_eq_true rfl) (Nat.le_of_ble_eq_true rfl) dX8_departureFor_25 ?_
        refine x_letI (fun v10 => ?_)
        refine x_istore_n (L' := [(2, _), (0, _), (1, _), (3, _)]) C dX8_departureFor_28 rfl (by decide) rfl ?_
        refine x_pick [1, 2, 0, 3] rfl ?_
        exact hJ6 v10
theorem ct_X8_departureFor (l : Launch) (E : xE) (n : Nat) (k0 : Nat) (p1 : Int) (σ : xS) (hk0 : isPl k0)  : xMet l E yX8_departureFor cX8_departureFor 4 (some .int) { frames := 1, cells := 0, slots := 0, locals := 21 } [.ref (xqa E.2.2 k0), iV p1] WW WW σ (xrI (m_X8_departureFor n k0 p1 σ) σ) := by
  refine xMet.of0 (by decide) (Nat.le_of_ble_eq_true rfl) rfl rfl (fun X hE C => ?_)
  subst hE
  exact xMap (fun v => (some (iV v), σ)) (wk_X8_departureFor C (fun _ => rfl) hk0)
theorem mt_X8_departureFor : xMth yX8_departureFor cX8_departureFor 4 (some .int) 1 := ⟨wd791, wd61, ⟨by decide, by decide, rfl⟩⟩
theorem vr_X8_departureFor : xVir yX8_departureFor := ⟨wd790, wd20⟩
def m_X9_restOfRoute (k0 : Nat) (p1 : Int) (p2 : Int) (σ : xS) : Option Int :=
  xck (zI ((p2 * 8) + p1)) 1024 <| some (σ (k0 + 14) (zI ((p2 * 8) + p1)).toNat)
set_option maxHeartbeats 4000000 in
set_option maxRecDepth 100000 in
theorem wk_X9_restOfRoute {X : xX} {Qf : Int → State → Prop} {k0 : Nat} {p1 : Int} {p2 : Int} {σ : xS} (C : xCx X cX9_restOfRoute "BakeryNight$Roads" (some .int) { frames := 0, cells := 0, slots := 0, locals := 0 } 3) (hQ : ∀ v, Qf v = xQf X WW (some (iV v), σ)) (hk0 : isRd k0) : WO X Qf WW σ 0 [(0, .ref (xqa (xXE X).2.2 k0)), (1, iV p1), (2, iV p2)] [] (m_X9_restOfRoute k0 p1 p2 σ) := by
  unfold m_X9_restOfRoute
  refine x_aload_n C 0 dX9_restOfRoute_0 rfl rfl ?_
  refine x_get (v := .ref (xqa (xXE X).2.2 (k0 + 14))) C 6 cls_X9 (at_X9 hk0) (by decide) wd290 rfl (xV_r (rt_X9_rest hk0 _) rfl) dX9_restOfRoute_1 ?_
  refine x_iload_n C 2 dX9_restOfRoute_4 rfl rfl ?_
  refine x_bipush C (8) dX9_restOfRoute_5 rfl ?_
  refine x_imul C dX9_restOfRoute_7 ?_
  refine x_iload_n C 1 dX9_restOfRoute_8 rfl rfl ?_
  refine x_iadd C dX9_restOfRoute_9 ?_
  refine x_iald C (at_X9_rest hk0) rfl dX9_restOfRoute_10 (fun _ => ?_)
  exact x_iretQ C (hQ _) rfl dX9_restOfRoute_11
theorem ct_X9_restOfRoute (l : Launch) (E : xE) (k0 : Nat) (p1 : Int) (p2 : Int) (σ : xS) (hk0 : isRd k0)  : xMet l E yX9_restOfRoute cX9_restOfRoute 3 (some .int) { frames := 0, cells := 0, slots := 0, locals := 0 } [.ref (xqa E.2.2 k0), iV p1, iV p2] WW WW σ (xrI (m_X9_restOfRoute k0 p1 p2 σ) σ) := by
  refine xMet.of0 (by decide) (Nat.le_of_ble_eq_true rfl) rfl rfl (fun X hE C => ?_)
  subst hE
  exact xMap (fun v => (some (iV v), σ)) (wk_X9_restOfRoute C (fun _ => rfl) hk0)
theorem mt_X9_restOfRoute : xMth yX9_restOfRoute cX9_restOfRoute 3 (some .int) 2 := ⟨wd646, wd56, ⟨by decide, by decide, rfl⟩⟩
theorem vr_X9_restOfRoute : xVir yX9_restOfRoute := ⟨wd644, wd645⟩
def m_X9_nextStop (n : Nat) (k0 : Nat) (p1 : Int) (p2 : Int) (σ : xS) : Option Int :=
  loopF (fun rec2 (t1 : Int) => if 7 ≤ (zI t1) then some 7 else xj (fun (q8 : Unit) => xlet (t1 + 1) fun v9 => rec2 v9) fun J6 => if (zI (zand (zshr p2 t1) 1)) = 0 then J6 () else (m_X9_by k0 p1 t1 p2 σ).bind fun v11 => (m_X9_restOfRoute k0 p1 p2 σ).bind fun v12 => if (zI v11) = (zI v12) then some t1 else J6 ()) n 0
set_option maxHeartbeats 4000000 in
set_option maxRecDepth 100000 in
theorem wk_X9_nextStop {X : xX} {Qf : Int → State → Prop} {n : Nat} {k0 : Nat} {p1 : Int} {p2 : Int} {σ : xS} (C : xCx X cX9_nextStop "BakeryNight$Roads" (some .int) { frames := 1, cells := 0, slots := 0, locals := 23 } 4) (hQ : ∀ v, Qf v = xQf X WW (some (iV v), σ)) (hk0 : isRd k0) : WO X Qf WW σ 0 [(0, .ref (xqa (xXE X).2.2 k0)), (1, iV p1), (2, iV p2)] [] (m_X9_nextStop n k0 p1 p2 σ) := by
  unfold m_X9_nextStop
  refine x_iconst C (0) dX9_nextStop_0 rfl ?_
  refine x_istore_n (L' := [(3, _), (0, _), (1, _), (2, _)]) C dX9_nextStop_1 rfl (by decide) rfl ?_
  refine x_pick [1, 2, 3, 0] rfl ?_
  refine x_loop (fun t1 : Int => σ) (fun t1 : Int => [(0, .ref (xqa (xXE X).2.2 k0)), (1, iV p1), (2, iV p2), (3, iV t1)]) (fun rec2 hr3 t1 => ?_) n 0
  refine x_iload_n C 3 dX9_nextStop_2 rfl rfl ?_
  refine x_bipush C (7) dX9_nextStop_3 rfl ?_
  refine x_icmp_ge C 40 rfl (zIl _ rfl) dX9_nextStop_5 rfl (fun c4 => x_op c4 ?_) (fun c4 => x_on c4 ?_)
  · refine x_bipush C (7) dX9_nextStop_40 rfl ?_
    exact x_iretQ C (hQ _) rfl dX9_nextStop_42
  · refine x_iload_n C 2 dX9_nextStop_8 rfl rfl ?_
    refine x_iload_n C 3 dX9_nextStop_9 rfl rfl ?_
    refine x_ishr C dX9_nextStop_10 ?_
    refine x_iconst C (1) dX9_nextStop_11 rfl ?_
    refine x_iand C dX9_nextStop_12 ?_
    refine x_join (fun J => ∀ q8 : Unit, WO X Qf WW σ 34 [(0, .ref (xqa (xXE X).2.2 k0)), (1, iV p1), (2, iV p2), (3, iV t1)] [] (J q8)) ?_ ?_
    · intro q8
      refine x_inc C 3 (f := _) dX9_nextStop_34 rfl (by decide) (1) rfl (fun v9 => ?_)
      refine x_reL (L' := [(3, _), (0, _), (1, _), (2, _)]) rfl ?_
      refine x_goto C 2 dX9_nextStop_37 rfl ?_
      refine x_pick [1, 2, 3, 0] rfl ?_
      exact hr3 v9
    · intro J6 hJ7
      refine x_if_eq C 34 rfl dX9_nextStop_13 rfl (fun c10 => x_op c10 ?_) (fun c10 => x_on c10 ?_)
      · refine x_pick [0, 1, 2, 3] rfl ?_
        exact hJ7 ()
      · refine x_aload_n C 0 dX9_nextStop_16 rfl rfl ?_
        refine x_iload_n C 1 dX9_nextStop_17 rfl rfl ?_
        refine x_iload_n C 3 dX9_nextStop_18 rfl rfl ?_
        refine x_iload_n C 2 dX9_nextStop_19 rfl rfl ?_
        refine x_callV C (ct_X9_by _ _ k0 p1 t1 p2 σ hk0) mt_X9_by vr_X9_by wd332 cls_X9 (at_X9 hk0) rfl ⟨rfl, rfl, Nat.le_of_ble_eq_true rfl, Nat.le_of_ble_eq_true rfl⟩ rfl (by decide) dX9_nextStop_20 (kI (fun v11 => ?_))
        refine x_aload_n C 0 dX9_nextStop_23 rfl rfl ?_
        refine x_iload_n C 1 dX9_nextStop_24 rfl rfl ?_
        refine x_iload_n C 2 dX9_nextStop_25 rfl rfl ?_
        refine x_callV C (ct_X9_restOfRoute _ _ k0 p1 p2 σ hk0) mt_X9_restOfRoute vr_X9_restOfRoute wd796 cls_X9 (at_X9 hk0) rfl ⟨rfl, rfl, Nat.le_of_ble_eq_true rfl, Nat.le_of_ble_eq_true rfl⟩ rfl (Nat.le_of_ble_eq_true rfl) dX9_nextStop_26 (kI (fun v12 => ?_))
        refine x_icmp_ne C 34 rfl rfl dX9_nextStop_29 rfl (fun c13 => x_on c13 ?_) (fun c13 => x_op c13 ?_)
        · refine x_pick [0, 1, 2, 3] rfl ?_
          exact hJ7 ()
        · refine x_iload_n C 3 dX9_nextStop_32 rfl rfl ?_
          exact x_iretQ C (hQ _) rfl dX9_nextStop_33
theorem ct_X9_nextStop (l : Launch) (E : xE) (n : Nat) (k0 : Nat) (p1 : Int) (p2 : Int) (σ : xS) (hk0 : isRd k0)  : xMet l E yX9_nextStop cX9_nextStop 4 (some .int) { frames := 1, cells := 0, slots := 0, locals := 23 } [.ref (xqa E.2.2 k0), iV p1, iV p2] WW WW σ (xrI (m_X9_nextStop n k0 p1 p2 σ) σ) := by
  refine xMet.of0 (by decide) (Nat.le_of_ble_eq_true rfl) rfl rfl (fun X hE C => ?_)
  subst hE
  exact xMap (fun v => (some (iV v), σ)) (wk_X9_nextStop C (fun _ => rfl) hk0)
theorem mt_X9_nextStop : xMth yX9_nextStop cX9_nextStop 4 (some .int) 2 := ⟨wd795, wd56, ⟨by decide, by decide, rfl⟩⟩
theorem vr_X9_nextStop : xVir yX9_nextStop := ⟨wd793, wd794⟩
def m_X9_between (k0 : Nat) (p1 : Int) (p2 : Int) (σ : xS) : Option Int :=
  xck (zI p1) 8 <| xck (zI p2) 8 <| some (σ (k0 + 6 + (zI p1).toNat) (zI p2).toNat)
set_option maxHeartbeats 4000000 in
set_option maxRecDepth 100000 in
theorem wk_X9_between {X : xX} {Qf : Int → State → Prop} {k0 : Nat} {p1 : Int} {p2 : Int} {σ : xS} (C : xCx X cX9_between "BakeryNight$Roads" (some .int) { frames := 0, cells := 0, slots := 0, locals := 0 } 3) (hQ : ∀ v, Qf v = xQf X WW (some (iV v), σ)) (hk0 : isRd k0) : WO X Qf WW σ 0 [(0, .ref (xqa (xXE X).2.2 k0)), (1, iV p1), (2, iV p2)] [] (m_X9_between k0 p1 p2 σ) := by
  unfold m_X9_between
  refine x_aload_n C 0 dX9_between_0 rfl rfl ?_
  refine x_get (v := .ref (xqa (xXE X).2.2 (k0 + 5))) C 5 cls_X9 (at_X9 hk0) (by decide) wd289 rfl (xV_r (rt_X9_shortest hk0 _) rfl) dX9_between_1 ?_
  refine x_iload_n C 1 dX9_between_4 rfl rfl ?_
  refine x_aald C (at_X9_shortest hk0) (by decide) rfl (fun h1 => rl_X9_shortest hk0 _ h1) dX9_between_5 (fun h1 => ?_)
  refine x_iload_n C 2 dX9_between_6 rfl rfl ?_
  refine x_iald C (el_X9_shortest hk0 h1) rfl dX9_between_7 (fun _ => ?_)
  exact x_iretQ C (hQ _) rfl dX9_between_8
theorem ct_X9_between (l : Launch) (E : xE) (k0 : Nat) (p1 : Int) (p2 : Int) (σ : xS) (hk0 : isRd k0)  : xMet l E yX9_between cX9_between 3 (some .int) { frames := 0, cells := 0, slots := 0, locals := 0 } [.ref (xqa E.2.2 k0), iV p1, iV p2] WW WW σ (xrI (m_X9_between k0 p1 p2 σ) σ) := by
  refine xMet.of0 (by decide) (Nat.le_of_ble_eq_true rfl) rfl rfl (fun X hE C => ?_)
  subst hE
  exact xMap (fun v => (some (iV v), σ)) (wk_X9_between C (fun _ => rfl) hk0)
theorem mt_X9_between : xMth yX9_between cX9_between 3 (some .int) 2 := ⟨wd800, wd56, ⟨by decide, by decide, rfl⟩⟩
theorem vr_X9_between : xVir yX9_between := ⟨wd798, wd799⟩
def m_X8_drive (n : Nat) (k0 : Nat) (k1 : Nat) (p2 : Int) (σ : xS) : Option xS :=
  (m_X8_departureFor n k0 p2 σ).bind fun v1 => xck (zI p2) 128 <| xlet (xput σ (k0 + 4) (zI p2).toNat 0) fun s2 => xck (zI p2) 128 <| xlet (xput s2 (k0 + 5) (zI p2).toNat 0) fun s3 => xck (zI p2) 128 <| xlet (xput s3 (k0 + 7) (zI p2).toNat 1439) fun s4 => loopF (fun rec6 (t5 : Int × Int × Int × Int × xS) => xj (fun (q11 : Unit) => xck (zI p2) 128 <| xlet (xput t5.2.2.2.2 (k0 + 6) (zI p2).toNat (t5.1 - v1)) fun s12 => some s12) fun J9 => if 7 ≤ (zI t5.2.2.2.1) then J9 () else if (zI t5.2.2.1) = 0 then J9 () else (m_X9_nextStop n k1 t5.2.1 t5.2.2.1 t5.2.2.2.2).bind fun v15 => if (zI v15) < 7 then (m_X9_between k1 t5.2.1 v15 t5.2.2.2.2).bind fun v17 => xlet (t5.1 + v17) fun v18 => xck (zI v15) 7 <| xlet (xput t5.2.2.2.2 (k0 + 11) (zI v15).toNat v18) fun s19 => xck (zI p2) 128 <| xck (zI v15) 7 <| xck (zI p2) 128 <| xlet (xput s19 (k0 + 4) (zI p2).toNat ((s19 (k0 + 4) (zI p2).toNat) + (s19 (k0 + 2) (zI v15).toNat))) fun s20 => xck (zI p2) 128 <| xck (zI v15) 7 <| xlet (if (zI v18) ≤ (zI (s20 (k0 + 1) (zI v15).toNat)) then 0 else 1) fun v21 => xck (zI p2) 128 <| xlet (xput s20 (k0 + 5) (zI p2).toNat ((s20 (k0 + 5) (zI p2).toNat) + v21)) fun s22 => xck (zI p2) 128 <| xck (zI v15) 7 <| xck (zI p2) 128 <| xlet (xput s22 (k0 + 7) (zI p2).toNat (zmin (s22 (k0 + 7) (zI p2).toNat) ((s22 (k0 + 1) (zI v15).toNat) - v18))) fun s23 => xlet (zand t5.2.2.1 (zxor (zshl 1 v15) (-1))) fun v24 => xlet (t5.2.2.2.1 + 1) fun v25 => rec6 (v18, v15, v24, v25, s23) else some t5.2.2.2.2) n (v1, 7, p2, 0, s4)
set_option maxHeartbeats 4000000 in
set_option maxRecDepth 100000 in
theorem wk_X8_drive {X : xX} {Qf : xS → State → Prop} {n : Nat} {k0 : Nat} {k1 : Nat} {p2 : Int} {σ : xS} (C : xCx X cX8_drive "BakeryNight$Plan" none { frames := 2, cells := 0, slots := 0, locals := 46 } 9) (hQ : ∀ τ, Qf τ = xQf X WW (none, τ)) (hk0 : isPl k0) (hk1 : isRd k1) : WO X Qf WW σ 0 [(0, .ref (xqa (xXE X).2.2 k0)), (1, .ref (xqa (xXE X).2.2 k1)), (2, iV p2)] [] (m_X8_drive n k0 k1 p2 σ) := by
  unfold m_X8_drive
  refine x_aload_n C 0 dX8_drive_0 rfl rfl ?_
  refine x_iload_n C 2 dX8_drive_1 rfl rfl ?_
  refine x_callV C (ct_X8_departureFor _ _ n k0 p2 σ hk0) mt_X8_departureFor vr_X8_departureFor wd788 cls_X8 (at_X8 hk0) rfl ⟨rfl, rfl, Nat.le_of_ble_eq_true rfl, Nat.le_of_ble_eq_true rfl⟩ rfl (by decide) dX8_drive_2 (kI (fun v1 => ?_))
  refine x_istore_n (L' := [(3, _), (0, _), (1, _), (2, _)]) C dX8_drive_5 rfl (by decide) rfl ?_
  refine x_iload_n C 0 dX8_drive_6 rfl rfl ?_
  refine x_istore (L' := [(4, _), (3, _), (0, _), (1, _), (2, _)]) C dX8_drive_7 (by decide) rfl ?_
  refine x_bipush C (7) dX8_drive_9 rfl ?_
  refine x_istore (L' := [(5, _), (4, _), (3, _), (0, _), (1, _), (2, _)]) C dX8_drive_11 (by decide) rfl ?_
  refine x_iload_n C 5 dX8_drive_13 rfl rfl ?_
  refine x_istore (L' := [(6, _), (5, _), (4, _), (3, _), (0, _), (1, _), (2, _)]) C dX8_drive_14 (by decide) rfl ?_
  refine x_aload_n C 4 dX8_drive_16 rfl rfl ?_
  refine x_get (v := .ref (xqa (xXE X).2.2 (k0 + 4))) C 5 cls_X8 (at_X8 hk0) (by decide) wd524 rfl (xV_r (rt_X8_setLoad hk0 _) rfl) dX8_drive_17 ?_
  refine x_iload_n C 6 dX8_drive_20 rfl rfl ?_
  refine x_iconst C (0) dX8_drive_21 rfl ?_
  refine x_iast C (at_X8_setLoad hk0) rfl dX8_drive_22 (fun _ => ?_)
  refine x_letS (fun s2 => ?_)
  refine x_aload_n C 4 dX8_drive_23 rfl rfl ?_
  refine x_get (v := .ref (xqa (xXE X).2.2 (k0 + 5))) C 6 cls_X8 (at_X8 hk0) (by decide) wd525 rfl (xV_r (rt_X8_setLate hk0 _) rfl) dX8_drive_24 ?_
  refine x_iload_n C 6 dX8_drive_27 rfl rfl ?_
  refine x_iconst C (0) dX8_drive_28 rfl ?_
  refine x_iast C (at_X8_setLate hk0) rfl dX8_drive_29 (fun _ => ?_)
  refine x_letS (fun s3 => ?_)
  refine x_aload_n C 4 dX8_drive_30 rfl rfl ?_
  refine x_get (v := .ref (xqa (xXE X).2.2 (k0 + 7))) C 8 cls_X8 (at_X8 hk0) (by decide) wd527 rfl (xV_r (rt_X8_setSlack hk0 _) rfl) dX8_drive_31 ?_
  refine x_iload_n C 6 dX8_drive_34 rfl rfl ?_
  refine x_sipush C (1439) dX8_drive_35 rfl ?_
  refine x_iast C (at_X8_setSlack hk0) rfl dX8_drive_38 (fun _ => ?_)
  refine x_letS (fun s4 => ?_)
  refine x_iconst C (0) dX8_drive_39 rfl ?_
  refine x_istore (L' := [(7, _), (6, _), (5, _), (4, _), (3, _), (0, _), (1, _), (2, _)]) C dX8_drive_40 (by decide) rfl ?_
  refine x_pick [5, 6, 7, 4, 3, 2, 1, 0] rfl ?_
  refine x_loop (fun t5 : Int × Int × Int × Int × xS => t5.2.2.2.2) (fun t5 : Int × Int × Int × Int × xS => [(0, .ref (xqa (xXE X).2.2 k0)), (1, .ref (xqa (xXE X).2.2 k1)), (2, iV p2), (3, iV v1), (4, iV t5.1), (5, iV t5.2.1), (6, iV t5.2.2.1), (7, iV t5.2.2.2.1)]) (fun rec6 hr7 t5 => ?_) n (v1, 7, p2, 0, s4)
  refine x_iload C 7 dX8_drive_42 rfl ?_
  refine x_bipush C (7) dX8_drive_44 rfl ?_
  refine x_join (fun J => ∀ q11 : Unit, WO X Qf WW t5.2.2.2.2 182 [(0, .ref (xqa (xXE X).2.2 k0)), (2, iV p2), (3, iV v1), (4, iV t5.1)] [] (J q11)) ?_ ?_
  · intro q11
    refine x_aload_n C 0 dX8_drive_182 rfl rfl ?_
    refine x_get (v := .ref (xqa (xXE X).2.2 (k0 + 6))) C 7 cls_X8 (at_X8 hk0) (by decide) wd526 rfl (xV_r (rt_X8_setMinutes hk0 _) rfl) dX8_drive_183 ?_
    refine x_iload_n C 1 dX8_drive_186 rfl rfl ?_
    refine x_iload C 3 dX8_drive_187 rfl ?_
    refine x_iload_n C 2 dX8_drive_189 rfl rfl ?_
    refine x_isub C dX8_drive_190 ?_
    refine x_iast C (at_X8_setMinutes hk0) rfl dX8_drive_191 (fun _ => ?_)
    refine x_letS (fun s12 => ?_)
    exact x_vretQ C (hQ _) rfl dX8_drive_192
  · intro J9 hJ10
    refine x_icmp_ge C 182 rfl (zIl _ rfl) dX8_drive_46 rfl (fun c13 => x_op c13 ?_) (fun c13 => x_on c13 ?_)
    · refine x_pick [0, 2, 3, 4] rfl ?_
      exact hJ10 ()
    · refine x_iload C 6 dX8_drive_49 rfl ?_
      refine x_if_eq C 182 rfl dX8_drive_51 rfl (fun c14 => x_op c14 ?_) (fun c14 => x_on c14 ?_)
      · refine x_pick [0, 2, 3, 4] rfl ?_
        exact hJ10 ()
      · refine x_aload_n C 1 dX8_drive_54 rfl rfl ?_
        refine x_iload C 5 dX8_drive_55 rfl ?_
        refine x_iload C 6 dX8_drive_57 rfl ?_
        refine x_callV C (ct_X9_nextStop _ _ n k1 t5.2.1 t5.2.2.1 t5.2.2.2.2 hk1) mt_X9_nextStop vr_X9_nextStop wd792 cls_X9 (at_X9 hk1) rfl ⟨rfl, rfl, Nat.le_of_ble_eq_true rfl, Nat.le_of_ble_eq_true rfl⟩ rfl (by decide) dX8_drive_59 (kI (fun v15 => ?_))
        refine x_istore (L' := [(8, _), (0, _), (1, _), (2, _), (3, _), (4, _), (5, _), (6, _), (7, _)]) C dX8_drive_62 (by decide) rfl ?_
        refine x_iload C 0 dX8_drive_64 rfl ?_
        refine x_bipush C (7) dX8_drive_66 rfl ?_
        refine x_icmp_lt C 72 rfl (zIl _ rfl) dX8_drive_68 rfl (fun c16 => x_op c16 ?_) (fun c16 => x_on c16 ?_)
        · refine x_iload C 5 dX8_drive_72 rfl ?_
          refine x_aload_n C 2 dX8_drive_74 rfl rfl ?_
          refine x_iload C 6 dX8_drive_75 rfl ?_
          refine x_iload C 0 dX8_drive_77 rfl ?_
          refine x_callV C (ct_X9_between _ _ k1 t5.2.1 v15 t5.2.2.2.2 hk1) mt_X9_between vr_X9_between wd797 cls_X9 (at_X9 hk1) rfl ⟨rfl, rfl, Nat.le_of_ble_eq_true rfl, Nat.le_of_ble_eq_true rfl⟩ rfl (Nat.le_of_ble_eq_true rfl) dX8_drive_79 (kI (fun v17 => ?_))
          refine x_iadd C dX8_drive_82 ?_
          refine x_letI (fun v18 => ?_)
          refine x_istore (L' := [(4, _), (8, _), (0, _), (1, _), (2, _), (3, _), (5, _), (6, _), (7, _)]) C dX8_drive_83 (by decide) rfl ?_
          refine x_aload_n C 2 dX8_drive_85 rfl rfl ?_
          refine x_get (v := .ref (xqa (xXE X).2.2 (k0 + 11))) C 14 cls_X8 (at_X8 hk0) (by decide) wd535 rfl (xV_r (rt_X8_arrival hk0 _) rfl) dX8_drive_86 ?_
          refine x_iload C 1 dX8_drive_89 rfl ?_
          refine x_iload C 0 dX8_drive_91 rfl ?_
          refine x_iast C (at_X8_arrival hk0) rfl dX8_drive_93 (fun _ => ?_)
          refine x_letS (fun s19 => ?_)
          refine x_aload_n C 2 dX8_drive_94 rfl rfl ?_
          refine x_get (v := .ref (xqa (xXE X).2.2 (k0 + 4))) C 5 cls_X8 (at_X8 hk0) (by decide) wd524 rfl (xV_r (rt_X8_setLoad hk0 _) rfl) dX8_drive_95 ?_
          refine x_iload_n C 4 dX8_drive_98 rfl rfl ?_
          refine x_dup2 C dX8_drive_99 rfl rfl ?_
          refine x_iald C (at_X8_setLoad hk0) rfl dX8_drive_100 (fun _ => ?_)
          refine x_aload_n C 2 dX8_drive_101 rfl rfl ?_
          refine x_get (v := .ref (xqa (xXE X).2.2 (k0 + 2))) C 1 cls_X8 (at_X8 hk0) (by decide) wd520 rfl (xV_r (rt_X8_load hk0 _) rfl) dX8_drive_102 ?_
          refine x_iload C 1 dX8_drive_105 rfl ?_
          refine x_iald C (at_X8_load hk0) rfl dX8_drive_107 (fun _ => ?_)
          refine x_iadd C dX8_drive_108 ?_
          refine x_iast C (at_X8_setLoad hk0) rfl dX8_drive_109 (fun _ => ?_)
          refine x_letS (fun s20 => ?_)
          refine x_aload_n C 2 dX8_drive_110 rfl rfl ?_
          refine x_get (v := .ref (xqa (xXE X).2.2 (k0 + 5))) C 6 cls_X8 (at_X8 hk0) (by decide) wd525 rfl (xV_r (rt_X8_setLate hk0 _) rfl) dX8_drive_111 ?_
          refine x_iload_n C 4 dX8_drive_114 rfl rfl ?_
          refine x_dup2 C dX8_drive_115 rfl rfl ?_
          refine x_iald C (at_X8_setLate hk0) rfl dX8_drive_116 (fun _ => ?_)
          refine x_iload C 0 dX8_drive_117 rfl ?_
          refine x_aload_n C 2 dX8_drive_119 rfl rfl ?_
          refine x_get (v := .ref (xqa (xXE X).2.2 (k0 + 1))) C 0 cls_X8 (at_X8 hk0) (by decide) wd519 rfl (xV_r (rt_X8_due hk0 _) rfl) dX8_drive_120 ?_
          refine x_iload C 1 dX8_drive_123 rfl ?_
          refine x_iald C (at_X8_due hk0) rfl dX8_drive_125 (fun _ => ?_)
          refine x_tree 134 [iV (s20 (k0 + 5) (zI p2).toNat), iV p2, .ref (xqa (xXE X).2.2 (k0 + 5))] (fun v21 => ?_) (fun hJ26 => ?_)
          · refine x_iadd C dX8_drive_134 ?_
            refine x_iast C (at_X8_setLate hk0) rfl dX8_drive_135 (fun _ => ?_)
            refine x_letS (fun s22 => ?_)
            refine x_aload_n C 2 dX8_drive_136 rfl rfl ?_
            refine x_get (v := .ref (xqa (xXE X).2.2 (k0 + 7))) C 8 cls_X8 (at_X8 hk0) (by decide) wd527 rfl (xV_r (rt_X8_setSlack hk0 _) rfl) dX8_drive_137 ?_
            refine x_iload_n C 4 dX8_drive_140 rfl rfl ?_
            refine x_aload_n C 2 dX8_drive_141 rfl rfl ?_
            refine x_get (v := .ref (xqa (xXE X).2.2 (k0 + 7))) C 8 cls_X8 (at_X8 hk0) (by decide) wd527 rfl (xV_r (rt_X8_setSlack hk0 _) rfl) dX8_drive_142 ?_
            refine x_iload_n C 4 dX8_drive_145 rfl rfl ?_
            refine x_iald C (at_X8_setSlack hk0) rfl dX8_drive_146 (fun _ => ?_)
            refine x_aload_n C 2 dX8_drive_147 rfl rfl ?_
            refine x_get (v := .ref (xqa (xXE X).2.2 (k0 + 1))) C 0 cls_X8 (at_X8 hk0) (by decide) wd519 rfl (xV_r (rt_X8_due hk0 _) rfl) dX8_drive_148 ?_
            refine x_iload C 1 dX8_drive_151 rfl ?_
            refine x_iald C (at_X8_due hk0) rfl dX8_drive_153 (fun _ => ?_)
            refine x_iload C 0 dX8_drive_154 rfl ?_
            refine x_isub C dX8_drive_156 ?_
            refine x_mmin C wd774 wd321 wd58 wd322 (Nat.le_of_ble_eq_true rfl) (Nat.le_of_ble_eq_true rfl) dX8_drive_157 ?_
            refine x_iast C (at_X8_setSlack hk0) rfl dX8_drive_160 (fun _ => ?_)
            refine x_letS (fun s23 => ?_)
            refine x_iload C 7 dX8_drive_161 rfl ?_
            refine x_iconst C (1) dX8_drive_163 rfl ?_
            refine x_iload C 1 dX8_drive_164 rfl ?_
            refine x_ishl C dX8_drive_166 ?_
            refine x_iconst C (-1) dX8_drive_167 rfl ?_
            refine x_ixor C dX8_drive_168 ?_
            refine x_iand C dX8_drive_169 ?_
            refine x_letI (fun v24 => ?_)
            refine x_istore (L' := [(6, _), (4, _), (8, _), (0, _), (1, _), (2, _), (3, _), (5, _), (7, _)]) C dX8_drive_170 (by decide) rfl ?_
            refine x_iload C 2 dX8_drive_172 rfl ?_
            refine x_istore (L' := [(5, _), (6, _), (4, _), (8, _), (0, _), (1, _), (2, _), (3, _), (7, _)]) C dX8_drive_174 (by decide) rfl ?_
            refine x_inc C 8 (f := _) dX8_drive_176 rfl (by decide) (1) rfl (fun v25 => ?_)
            refine x_reL (L' := [(7, _), (5, _), (6, _), (4, _), (8, _), (0, _), (1, _), (2, _), (3, _)]) rfl ?_
            refine x_goto C 42 dX8_drive_179 rfl ?_
            refine x_pick [5, 6, 7, 8, 3, 1, 2, 0] rfl ?_
            exact hr7 (v18, v15, v24, v25, s23)
          · refine x_icmp_le C 133 rfl rfl dX8_drive_126 rfl (fun c27 => ?_) (fun c27 => ?_)
            · refine x_iconst C (0) dX8_drive_133 rfl ?_
              exact hJ26 _ (by rw [if_pos c27])
            · refine x_iconst C (1) dX8_drive_129 rfl ?_
              refine x_goto C 134 dX8_drive_130 rfl ?_
              exact hJ26 _ (by rw [if_neg c27])
        · exact x_vretQ C (hQ _) rfl dX8_drive_71
theorem ct_X8_drive (l : Launch) (E : xE) (n : Nat) (k0 : Nat) (k1 : Nat) (p2 : Int) (σ : xS) (hk0 : isPl k0) (hk1 : isRd k1)  : xMet l E yX8_drive cX8_drive 9 none { frames := 2, cells := 0, slots := 0, locals := 46 } [.ref (xqa E.2.2 k0), .ref (xqa E.2.2 k1), iV p2] WW WW σ (xrV (m_X8_drive n k0 k1 p2 σ)) := by
  refine xMet.of0 (by decide) (Nat.le_of_ble_eq_true rfl) rfl rfl (fun X hE C => ?_)
  subst hE
  exact xMap (fun q => (none, q)) (wk_X8_drive C (fun _ => rfl) hk0 hk1)
theorem mt_X8_drive : xMth yX8_drive cX8_drive 9 none 2 := ⟨wd787, wd61, ⟨by decide, by decide, rfl⟩⟩
theorem vr_X8_drive : xVir yX8_drive := ⟨wd786, wd19⟩
