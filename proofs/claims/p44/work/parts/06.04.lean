def m_X12_closeStreet (n : Nat) (p1 : Int) (p2 : Int) (σ : xS) : Option (Int × xS) :=
  xj (fun (q3 : Unit) => some (0, σ)) fun J1 => if (zI p1) < 0 then J1 () else if (zI p1) < (zI (σ ((bkA (σ 0 3)) + 39) 4)) then xck (zI p1) 20 <| xlet (if (zI (σ (((bkA (σ 0 3)) + 39) + 4) (zI p1).toNat)) = 0 then 0 else 1) fun v6 => (m_X1_markStreet n (bkA (σ 0 3)) p1 p2 σ).bind fun s7 => (m_X12_recordChange 2 p1 v6 s7).bind fun s8 => some (1, s8) else J1 ()
set_option maxHeartbeats 4000000 in
set_option maxRecDepth 100000 in
theorem wk_X12_closeStreet {X : xX} {Qf : (Int × xS) → State → Prop} {n : Nat} {p1 : Int} {p2 : Int} {σ : xS} (C : xCx X cX12_closeStreet "BakeryNight" (some .boolean) { frames := 4, cells := 0, slots := 0, locals := 106 } 4) (hQ : ∀ v τ, Qf (v, τ) = xQf X WW (some (iV v), τ))  : WO X Qf WW σ 0 [(0, .ref (xqa (xXE X).2.2 0)), (1, iV p1), (2, iV p2)] [] (m_X12_closeStreet n p1 p2 σ) := by
  unfold m_X12_closeStreet
  refine x_iload_n C 1 dX12_closeStreet_0 rfl rfl ?_
  refine x_join (fun J => ∀ q3 : Unit, WO X Qf WW σ 18 [] [] (J q3)) ?_ ?_
  · intro q3
    refine x_iconst C (0) dX12_closeStreet_18 rfl ?_
    exact x_zretQ C (hQ _ _) rfl (Or.inl rfl) dX12_closeStreet_19
  · intro J1 hJ2
    refine x_if_lt C 18 rfl dX12_closeStreet_1 rfl (fun c4 => x_op c4 ?_) (fun c4 => x_on c4 ?_)
    · refine x_pick [] rfl ?_
      exact hJ2 ()
    · refine x_iload_n C 1 dX12_closeStreet_4 rfl rfl ?_
      refine x_aload_n C 0 dX12_closeStreet_5 rfl rfl ?_
      refine x_get (v := .ref (xqa (xXE X).2.2 (bkA (σ 0 3)))) C 3 cls_X12 at_X12 (by decide) wd570 rfl rfl dX12_closeStreet_6 ?_
      refine x_get (v := .ref (xqa (xXE X).2.2 ((bkA (σ 0 3)) + 39))) C 9 cls_X1 (at_X1 (bk_A (σ 0 3))) (by decide) wd370 rfl (xV_r (rt_X1_roads (bk_A (σ 0 3)) _) rfl) dX12_closeStreet_9 ?_
      refine x_get (v := iV (σ ((bkA (σ 0 3)) + 39) 4)) C 4 cls_X9 (at_X9 (rd_bk (bk_A (σ 0 3)))) (by decide) wd288 rfl rfl dX12_closeStreet_12 ?_
      refine x_icmp_lt C 20 rfl rfl dX12_closeStreet_15 rfl (fun c5 => x_op c5 ?_) (fun c5 => x_on c5 ?_)
      · refine x_aload_n C 0 dX12_closeStreet_20 rfl rfl ?_
        refine x_get (v := .ref (xqa (xXE X).2.2 (bkA (σ 0 3)))) C 3 cls_X12 at_X12 (by decide) wd570 rfl rfl dX12_closeStreet_21 ?_
        refine x_get (v := .ref (xqa (xXE X).2.2 ((bkA (σ 0 3)) + 39))) C 9 cls_X1 (at_X1 (bk_A (σ 0 3))) (by decide) wd370 rfl (xV_r (rt_X1_roads (bk_A (σ 0 3)) _) rfl) dX12_closeStreet_24 ?_
        refine x_get (v := .ref (xqa (xXE X).2.2 (((bkA (σ 0 3)) + 39) + 4))) C 3 cls_X9 (at_X9 (rd_bk (bk_A (σ 0 3)))) (by decide) wd284 rfl (xV_r (rt_X9_closed (rd_bk (bk_A (σ 0 3))) _) rfl) dX12_closeStreet_27 ?_
        refine x_iload_n C 1 dX12_closeStreet_30 rfl rfl ?_
        refine x_zald C (at_X9_closed (rd_bk (bk_A (σ 0 3)))) rfl dX12_closeStreet_31 (fun _ => ?_)
        refine x_tree 40 [] (fun v6 => ?_) (fun hJ9 => ?_)
        · refine x_istore_n (L' := [(3, _), (0, _), (1, _), (2, _)]) C dX12_closeStreet_40 rfl (by decide) rfl ?_
          refine x_aload_n C 1 dX12_closeStreet_41 rfl rfl ?_
          refine x_get (v := .ref (xqa (xXE X).2.2 (bkA (σ 0 3)))) C 3 cls_X12 at_X12 (by decide) wd570 rfl rfl dX12_closeStreet_42 ?_
          refine x_iload_n C 2 dX12_closeStreet_45 rfl rfl ?_
          refine x_iload_n C 3 dX12_closeStreet_46 rfl rfl ?_
          refine x_callV C (ct_X1_markStreet _ _ n (bkA (σ 0 3)) p1 p2 σ (bk_A (σ 0 3))) mt_X1_markStreet vr_X1_markStreet wd1525 cls_X1 (at_X1 (bk_A (σ 0 3))) rfl ⟨rfl, rfl, Nat.le_of_ble_eq_true rfl, Nat.le_of_ble_eq_true rfl⟩ rfl (by decide) dX12_closeStreet_47 (kV (fun s7 => ?_))
          refine x_aload_n C 1 dX12_closeStreet_50 rfl rfl ?_
          refine x_iconst C (2) dX12_closeStreet_51 rfl ?_
          refine x_iload_n C 2 dX12_closeStreet_52 rfl rfl ?_
          refine x_iload_n C 0 dX12_closeStreet_53 rfl rfl ?_
          refine x_callV C (ct_X12_recordChange _ _ 2 p1 v6 s7) mt_X12_recordChange vr_X12_recordChange wd1526 cls_X12 at_X12 rfl ⟨rfl, rfl, Nat.le_of_ble_eq_true rfl, Nat.le_of_ble_eq_true rfl⟩ rfl (by decide) dX12_closeStreet_54 (kV (fun s8 => ?_))
          refine x_iconst C (1) dX12_closeStreet_57 rfl ?_
          exact x_zretQ C (hQ _ _) rfl (Or.inr rfl) dX12_closeStreet_58
        · refine x_if_eq C 39 rfl dX12_closeStreet_32 rfl (fun c10 => ?_) (fun c10 => ?_)
          · refine x_iconst C (0) dX12_closeStreet_39 rfl ?_
            exact hJ9 _ (by rw [if_pos c10])
          · refine x_iconst C (1) dX12_closeStreet_35 rfl ?_
            refine x_goto C 40 dX12_closeStreet_36 rfl ?_
            exact hJ9 _ (by rw [if_neg c10])
      · refine x_pick [] rfl ?_
        exact hJ2 ()
theorem ct_X12_closeStreet (l : Launch) (E : xE) (n : Nat) (p1 : Int) (p2 : Int) (σ : xS)   : xMet l E yX12_closeStreet cX12_closeStreet 4 (some .boolean) { frames := 4, cells := 0, slots := 0, locals := 106 } [.ref (xqa E.2.2 0), iV p1, iV p2] WW WW σ (xrS (m_X12_closeStreet n p1 p2 σ)) := by
  refine xMet.of0 (by decide) (Nat.le_of_ble_eq_true rfl) rfl rfl (fun X hE C => ?_)
  subst hE
  exact xMap (fun q => (some (iV q.1), q.2)) (wk_X12_closeStreet C (fun _ _ => rfl) )
theorem mt_X12_closeStreet : xMth yX12_closeStreet cX12_closeStreet 4 (some .boolean) 2 := ⟨wd1524, wd49, ⟨by decide, by decide, rfl⟩⟩
theorem vr_X12_closeStreet : xVir yX12_closeStreet := ⟨wd1522, wd1523⟩
def m_X12_addOrder (p1 : Int) (p2 : Int) (p3 : Int) (p4 : Int) (σ : xS) : Option (Int × xS) :=
  xj (fun (q3 : Unit) => some ((-1), σ)) fun J1 => if (m_X1_hasShop (bkA (σ 0 3)) p1 σ) = 0 then J1 () else if (m_X1_hasDough (bkA (σ 0 3)) p2 σ) = 0 then J1 () else if (zI (σ (bkA (σ 0 3)) 13)) < 24 then xj (fun (q9 : Unit) => some ((-1), σ)) fun J7 => if (zI p3) < 1 then J7 () else if 200 < (zI p3) then J7 () else if (zI p4) < 0 then J7 () else if (zI p4) ≤ 1439 then xlet (σ (bkA (σ 0 3)) 13) fun v14 => xck (zI v14) 24 <| (m_X5_set ((bkA (σ 0 3)) + 14 + (zI v14).toNat) p1 p2 p3 p4 σ).bind fun s16 => xlet (xput s16 (bkA (s16 0 3)) 13 ((s16 (bkA (s16 0 3)) 13) + 1)) fun s17 => (m_X12_recordChange 3 v14 0 s17).bind fun s18 => some (v14, s18) else J7 () else J1 ()
set_option maxHeartbeats 4000000 in
set_option maxRecDepth 100000 in
theorem wk_X12_addOrder {X : xX} {Qf : (Int × xS) → State → Prop} {p1 : Int} {p2 : Int} {p3 : Int} {p4 : Int} {σ : xS} (C : xCx X cX12_addOrder "BakeryNight" (some .int) { frames := 4, cells := 0, slots := 0, locals := 106 } 6) (hQ : ∀ v τ, Qf (v, τ) = xQf X WW (some (iV v), τ))  : WO X Qf WW σ 0 [(0, .ref (xqa (xXE X).2.2 0)), (1, iV p1), (2, iV p2), (3, iV p3), (4, iV p4)] [] (m_X12_addOrder p1 p2 p3 p4 σ) := by
  unfold m_X12_addOrder
  refine x_aload_n C 0 dX12_addOrder_0 rfl rfl ?_
  refine x_get (v := .ref (xqa (xXE X).2.2 (bkA (σ 0 3)))) C 3 cls_X12 at_X12 (by decide) wd570 rfl rfl dX12_addOrder_1 ?_
  refine x_iload_n C 1 dX12_addOrder_4 rfl rfl ?_
  refine x_callV C (ct_X1_hasShop _ _ (bkA (σ 0 3)) p1 σ (bk_A (σ 0 3))) mt_X1_hasShop vr_X1_hasShop wd1563 cls_X1 (at_X1 (bk_A (σ 0 3))) rfl ⟨rfl, rfl, Nat.le_of_ble_eq_true rfl, Nat.le_of_ble_eq_true rfl⟩ rfl (by decide) dX12_addOrder_5 (kP ?_)
  refine x_join (fun J => ∀ q3 : Unit, WO X Qf WW σ 34 [] [] (J q3)) ?_ ?_
  · intro q3
    refine x_iconst C (-1) dX12_addOrder_34 rfl ?_
    exact x_iretQ C (hQ _ _) rfl dX12_addOrder_35
  · intro J1 hJ2
    refine x_if_eq C 34 (zI_bo (bo_X1_hasShop _ _ _)) dX12_addOrder_8 rfl (fun c4 => x_op c4 ?_) (fun c4 => x_on c4 ?_)
    · refine x_pick [] rfl ?_
      exact hJ2 ()
    · refine x_aload_n C 0 dX12_addOrder_11 rfl rfl ?_
      refine x_get (v := .ref (xqa (xXE X).2.2 (bkA (σ 0 3)))) C 3 cls_X12 at_X12 (by decide) wd570 rfl rfl dX12_addOrder_12 ?_
      refine x_iload_n C 2 dX12_addOrder_15 rfl rfl ?_
      refine x_callV C (ct_X1_hasDough _ _ (bkA (σ 0 3)) p2 σ (bk_A (σ 0 3))) mt_X1_hasDough vr_X1_hasDough wd1500 cls_X1 (at_X1 (bk_A (σ 0 3))) rfl ⟨rfl, rfl, Nat.le_of_ble_eq_true rfl, Nat.le_of_ble_eq_true rfl⟩ rfl (by decide) dX12_addOrder_16 (kP ?_)
      refine x_if_eq C 34 (zI_bo (bo_X1_hasDough _ _ _)) dX12_addOrder_19 rfl (fun c5 => x_op c5 ?_) (fun c5 => x_on c5 ?_)
      · refine x_pick [] rfl ?_
        exact hJ2 ()
      · refine x_aload_n C 0 dX12_addOrder_22 rfl rfl ?_
        refine x_get (v := .ref (xqa (xXE X).2.2 (bkA (σ 0 3)))) C 3 cls_X12 at_X12 (by decide) wd570 rfl rfl dX12_addOrder_23 ?_
        refine x_get (v := iV (σ (bkA (σ 0 3)) 13)) C 13 cls_X1 (at_X1 (bk_A (σ 0 3))) (by decide) wd386 rfl rfl dX12_addOrder_26 ?_
        refine x_bipush C (24) dX12_addOrder_29 rfl ?_
        refine x_icmp_lt C 36 rfl (zIl _ rfl) dX12_addOrder_31 rfl (fun c6 => x_op c6 ?_) (fun c6 => x_on c6 ?_)
        · refine x_iload_n C 3 dX12_addOrder_36 rfl rfl ?_
          refine x_iconst C (1) dX12_addOrder_37 rfl ?_
          refine x_join (fun J => ∀ q9 : Unit, WO X Qf WW σ 61 [] [] (J q9)) ?_ ?_
          · intro q9
            refine x_iconst C (-1) dX12_addOrder_61 rfl ?_
            exact x_iretQ C (hQ _ _) rfl dX12_addOrder_62
          · intro J7 hJ8
            refine x_icmp_lt C 61 rfl (zIl _ rfl) dX12_addOrder_38 rfl (fun c10 => x_op c10 ?_) (fun c10 => x_on c10 ?_)
            · refine x_pick [] rfl ?_
              exact hJ8 ()
            · refine x_iload_n C 3 dX12_addOrder_41 rfl rfl ?_
              refine x_sipush C (200) dX12_addOrder_42 rfl ?_
              refine x_icmp_gt C 61 rfl (zIl _ rfl) dX12_addOrder_45 rfl (fun c11 => x_op c11 ?_) (fun c11 => x_on c11 ?_)
              · refine x_pick [] rfl ?_
                exact hJ8 ()
              · refine x_iload C 4 dX12_addOrder_48 rfl ?_
                refine x_if_lt C 61 rfl dX12_addOrder_50 rfl (fun c12 => x_op c12 ?_) (fun c12 => x_on c12 ?_)
                · refine x_pick [] rfl ?_
                  exact hJ8 ()
                · refine x_iload C 4 dX12_addOrder_53 rfl ?_
                  refine x_sipush C (1439) dX12_addOrder_55 rfl ?_
                  refine x_icmp_le C 63 rfl (zIl _ rfl) dX12_addOrder_58 rfl (fun c13 => x_op c13 ?_) (fun c13 => x_on c13 ?_)
                  · refine x_aload_n C 0 dX12_addOrder_63 rfl rfl ?_
                    refine x_get (v := .ref (xqa (xXE X).2.2 (bkA (σ 0 3)))) C 3 cls_X12 at_X12 (by decide) wd570 rfl rfl dX12_addOrder_64 ?_
                    refine x_get (v := iV (σ (bkA (σ 0 3)) 13)) C 13 cls_X1 (at_X1 (bk_A (σ 0 3))) (by decide) wd386 rfl rfl dX12_addOrder_67 ?_
                    refine x_letI (fun v14 => ?_)
                    refine x_istore (L' := [(5, _), (0, _), (1, _), (2, _), (3, _), (4, _)]) C dX12_addOrder_70 (by decide) rfl ?_
                    refine x_aload_n C 1 dX12_addOrder_72 rfl rfl ?_
                    refine x_get (v := .ref (xqa (xXE X).2.2 (bkA (σ 0 3)))) C 3 cls_X12 at_X12 (by decide) wd570 rfl rfl dX12_addOrder_73 ?_
                    refine x_get (v := .ref (xqa (xXE X).2.2 ((bkA (σ 0 3)) + 13))) C 12 cls_X1 (at_X1 (bk_A (σ 0 3))) (by decide) wd382 rfl (xV_r (rt_X1_orders (bk_A (σ 0 3)) _) rfl) dX12_addOrder_76 ?_
                    refine x_iload C 0 dX12_addOrder_79 rfl ?_
                    refine x_aald C (at_X1_orders (bk_A (σ 0 3))) (by decide) rfl (fun h15 => rl_X1_orders (bk_A (σ 0 3)) _ h15) dX12_addOrder_81 (fun h15 => ?_)
                    refine x_iload_n C 2 dX12_addOrder_82 rfl rfl ?_
                    refine x_iload_n C 3 dX12_addOrder_83 rfl rfl ?_
                    refine x_iload_n C 4 dX12_addOrder_84 rfl rfl ?_
                    refine x_iload C 5 dX12_addOrder_85 rfl ?_
                    refine x_callV C (ct_X5_set _ _ ((bkA (σ 0 3)) + 14 + (zI v14).toNat) p1 p2 p3 p4 σ (el_X1_orders (bk_A (σ 0 3)) h15)) mt_X5_set vr_X5_set wd1567 cls_X5 (el_X1_orders (bk_A (σ 0 3)) h15) rfl ⟨rfl, rfl, Nat.le_of_ble_eq_true rfl, Nat.le_of_ble_eq_true rfl⟩ rfl (by decide) dX12_addOrder_87 (kV (fun s16 => ?_))
                    refine x_aload_n C 1 dX12_addOrder_90 rfl rfl ?_
                    refine x_get (v := .ref (xqa (xXE X).2.2 (bkA (s16 0 3)))) C 3 cls_X12 at_X12 (by decide) wd570 rfl rfl dX12_addOrder_91 ?_
                    refine x_dup C dX12_addOrder_94 rfl ?_
                    refine x_get (v := iV (s16 (bkA (s16 0 3)) 13)) C 13 cls_X1 (at_X1 (bk_A (s16 0 3))) (by decide) wd386 rfl rfl dX12_addOrder_95 ?_
                    refine x_iconst C (1) dX12_addOrder_98 rfl ?_
                    refine x_iadd C dX12_addOrder_99 ?_
                    refine x_put C 13 ((s16 (bkA (s16 0 3)) 13) + 1) cls_X1 (at_X1 (bk_A (s16 0 3))) (by decide) wd386 rfl rfl rfl rfl (xV_pI rfl) dX12_addOrder_100 ?_
                    refine x_letS (fun s17 => ?_)
                    refine x_aload_n C 1 dX12_addOrder_103 rfl rfl ?_
                    refine x_iconst C (3) dX12_addOrder_104 rfl ?_
                    refine x_iload C 0 dX12_addOrder_105 rfl ?_
                    refine x_iconst C (0) dX12_addOrder_107 rfl ?_
                    refine x_callV C (ct_X12_recordChange _ _ 3 v14 0 s17) mt_X12_recordChange vr_X12_recordChange wd1526 cls_X12 at_X12 rfl ⟨rfl, rfl, Nat.le_of_ble_eq_true rfl, Nat.le_of_ble_eq_true rfl⟩ rfl (by decide) dX12_addOrder_108 (kV (fun s18 => ?_))
                    refine x_iload C 0 dX12_addOrder_111 rfl ?_
                    exact x_iretQ C (hQ _ _) rfl dX12_addOrder_113
                  · refine x_pick [] rfl ?_
                    exact hJ8 ()
        · refine x_pick [] rfl ?_
          exact hJ2 ()
theorem ct_X12_addOrder (l : Launch) (E : xE) (p1 : Int) (p2 : Int) (p3 : Int) (p4 : Int) (σ : xS)   : xMet l E yX12_addOrder cX12_addOrder 6 (some .int) { frames := 4, cells := 0, slots := 0, locals := 106 } [.ref (xqa E.2.2 0), iV p1, iV p2, iV p3, iV p4] WW WW σ (xrS (m_X12_addOrder p1 p2 p3 p4 σ)) := by
  refine xMet.of0 (by decide) (Nat.le_of_ble_eq_true rfl) rfl rfl (fun X hE C => ?_)
  subst hE
  exact xMap (fun q => (some (iV q.1), q.2)) (wk_X12_addOrder C (fun _ _ => rfl) )
theorem mt_X12_addOrder : xMth yX12_addOrder cX12_addOrder 6 (some .int) 4 := ⟨wd1562, wd49, ⟨by decide, by decide, rfl⟩⟩
theorem vr_X12_addOrder : xVir yX12_addOrder := ⟨wd1560, wd1561⟩
def m_X12_cancelOrder (p1 : Int) (σ : xS) : Option (Int × xS) :=
  (m_X1_hasOrder (bkA (σ 0 3)) p1 σ).bind fun v1 => if (zI v1) = 0 then some (0, σ) else xck (zI p1) 24 <| xlet (xput σ ((bkA (σ 0 3)) + 14 + (zI p1).toNat) 4 1) fun s4 => (m_X12_recordChange 4 p1 0 s4).bind fun s5 => some (1, s5)
set_option maxHeartbeats 4000000 in
set_option maxRecDepth 100000 in
theorem wk_X12_cancelOrder {X : xX} {Qf : (Int × xS) → State → Prop} {p1 : Int} {σ : xS} (C : xCx X cX12_cancelOrder "BakeryNight" (some .boolean) { frames := 4, cells := 0, slots := 0, locals := 106 } 2) (hQ : ∀ v τ, Qf (v, τ) = xQf X WW (some (iV v), τ))  : WO X Qf WW σ 0 [(0, .ref (xqa (xXE X).2.2 0)), (1, iV p1)] [] (m_X12_cancelOrder p1 σ) := by
  unfold m_X12_cancelOrder
  refine x_aload_n C 0 dX12_cancelOrder_0 rfl rfl ?_
  refine x_get (v := .ref (xqa (xXE X).2.2 (bkA (σ 0 3)))) C 3 cls_X12 at_X12 (by decide) wd570 rfl rfl dX12_cancelOrder_1 ?_
  refine x_iload_n C 1 dX12_cancelOrder_4 rfl rfl ?_
  refine x_callV C (ct_X1_hasOrder _ _ (bkA (σ 0 3)) p1 σ (bk_A (σ 0 3))) mt_X1_hasOrder vr_X1_hasOrder wd1478 cls_X1 (at_X1 (bk_A (σ 0 3))) rfl ⟨rfl, rfl, Nat.le_of_ble_eq_true rfl, Nat.le_of_ble_eq_true rfl⟩ rfl (by decide) dX12_cancelOrder_5 (kI (fun v1 => ?_))
  refine x_if_ne C 13 rfl dX12_cancelOrder_8 rfl (fun c2 => x_on c2 ?_) (fun c2 => x_op c2 ?_)
  · refine x_aload_n C 0 dX12_cancelOrder_13 rfl rfl ?_
    refine x_get (v := .ref (xqa (xXE X).2.2 (bkA (σ 0 3)))) C 3 cls_X12 at_X12 (by decide) wd570 rfl rfl dX12_cancelOrder_14 ?_
    refine x_get (v := .ref (xqa (xXE X).2.2 ((bkA (σ 0 3)) + 13))) C 12 cls_X1 (at_X1 (bk_A (σ 0 3))) (by decide) wd382 rfl (xV_r (rt_X1_orders (bk_A (σ 0 3)) _) rfl) dX12_cancelOrder_17 ?_
    refine x_iload_n C 1 dX12_cancelOrder_20 rfl rfl ?_
    refine x_aald C (at_X1_orders (bk_A (σ 0 3))) (by decide) rfl (fun h3 => rl_X1_orders (bk_A (σ 0 3)) _ h3) dX12_cancelOrder_21 (fun h3 => ?_)
    refine x_iconst C (1) dX12_cancelOrder_22 rfl ?_
    refine x_put C 4 1 cls_X5 (el_X1_orders (bk_A (σ 0 3)) h3) (by decide) wd255 rfl rfl (xnb (Or.inr rfl)) (xfb (Or.inr rfl)) (xV_pI rfl) dX12_cancelOrder_23 ?_
    refine x_letS (fun s4 => ?_)
    refine x_aload_n C 0 dX12_cancelOrder_26 rfl rfl ?_
    refine x_iconst C (4) dX12_cancelOrder_27 rfl ?_
    refine x_iload_n C 1 dX12_cancelOrder_28 rfl rfl ?_
    refine x_iconst C (0) dX12_cancelOrder_29 rfl ?_
    refine x_callV C (ct_X12_recordChange _ _ 4 p1 0 s4) mt_X12_recordChange vr_X12_recordChange wd1526 cls_X12 at_X12 rfl ⟨rfl, rfl, Nat.le_of_ble_eq_true rfl, Nat.le_of_ble_eq_true rfl⟩ rfl (by decide) dX12_cancelOrder_30 (kV (fun s5 => ?_))
    refine x_iconst C (1) dX12_cancelOrder_33 rfl ?_
    exact x_zretQ C (hQ _ _) rfl (Or.inr rfl) dX12_cancelOrder_34
  · refine x_iconst C (0) dX12_cancelOrder_11 rfl ?_
    exact x_zretQ C (hQ _ _) rfl (Or.inl rfl) dX12_cancelOrder_12
theorem ct_X12_cancelOrder (l : Launch) (E : xE) (p1 : Int) (σ : xS)   : xMet l E yX12_cancelOrder cX12_cancelOrder 2 (some .boolean) { frames := 4, cells := 0, slots := 0, locals := 106 } [.ref (xqa E.2.2 0), iV p1] WW WW σ (xrS (m_X12_cancelOrder p1 σ)) := by
  refine xMet.of0 (by decide) (Nat.le_of_ble_eq_true rfl) rfl rfl (fun X hE C => ?_)
  subst hE
  exact xMap (fun q => (some (iV q.1), q.2)) (wk_X12_cancelOrder C (fun _ _ => rfl) )
theorem mt_X12_cancelOrder : xMth yX12_cancelOrder cX12_cancelOrder 2 (some .boolean) 1 := ⟨wd1571, wd49, ⟨by decide, by decide, rfl⟩⟩
theorem vr_X12_cancelOrder : xVir yX12_cancelOrder := ⟨wd1569, wd1570⟩
def m_X12_moveOrder (p1 : Int) (p2 : Int) (σ : xS) : Option (Int × xS) :=
  (m_X1_hasOrder (bkA (σ 0 3)) p1 σ).bind fun v1 => xj (fun (q5 : Unit) => some ((-1), σ)) fun J3 => if (zI v1) = 0 then J3 () else if (zI p2) < 0 then J3 () else if (zI p2) ≤ 1439 then xck (zI p1) 24 <| xlet (σ ((bkA (σ 0 3)) + 14 + (zI p1).toNat) 3) fun v10 => xck (zI p1) 24 <| xlet (xput σ ((bkA (σ 0 3)) + 14 + (zI p1).toNat) 3 p2) fun s12 => (m_X12_recordChange 5 p1 v10 s12).bind fun s13 => some (v10, s13) else J3 ()
set_option maxHeartbeats 4000000 in
set_option maxRecDepth 100000 in
theorem wk_X12_moveOrder {X : xX} {Qf : (Int × xS) → State → Prop} {p1 : Int} {p2 : Int} {σ : xS} (C : xCx X cX12_moveOrder "BakeryNight" (some .int) { frames := 4, cells := 0, slots := 0, locals := 106 } 4) (hQ : ∀ v τ, Qf (v, τ) = xQf X WW (some (iV v), τ))  : WO X Qf WW σ 0 [(0, .ref (xqa (xXE X).2.2 0)), (1, iV p1), (2, iV p2)] [] (m_X12_moveOrder p1 p2 σ) := by
  unfold m_X12_moveOrder
  refine x_aload_n C 0 dX12_moveOrder_0 rfl rfl ?_
  refine x_get (v := .ref (xqa (xXE X).2.2 (bkA (σ 0 3)))) C 3 cls_X12 at_X12 (by decide) wd570 rfl rfl dX12_moveOrder_1 ?_
  refine x_iload_n C 1 dX12_moveOrder_4 rfl rfl ?_
  refine x_callV C (ct_X1_hasOrder _ _ (bkA (σ 0 3)) p1 σ (bk_A (σ 0 3))) mt_X1_hasOrder vr_X1_hasOrder wd1478 cls_X1 (at_X1 (bk_A (σ 0 3))) rfl ⟨rfl, rfl, Nat.le_of_ble_eq_true rfl, Nat.le_of_ble_eq_true rfl⟩ rfl (by decide) dX12_moveOrder_5 (kI (fun v1 => ?_))
  refine x_join (fun J => ∀ q5 : Unit, WO X Qf WW σ 22 [] [] (J q5)) ?_ ?_
  · intro q5
    refine x_iconst C (-1) dX12_moveOrder_22 rfl ?_
    exact x_iretQ C (hQ _ _) rfl dX12_moveOrder_23
  · intro J3 hJ4
    refine x_if_eq C 22 rfl dX12_moveOrder_8 rfl (fun c6 => x_op c6 ?_) (fun c6 => x_on c6 ?_)
    · refine x_pick [] rfl ?_
      exact hJ4 ()
    · refine x_iload_n C 2 dX12_moveOrder_11 rfl rfl ?_
      refine x_if_lt C 22 rfl dX12_moveOrder_12 rfl (fun c7 => x_op c7 ?_) (fun c7 => x_on c7 ?_)
      · refine x_pick [] rfl ?_
        exact hJ4 ()
      · refine x_iload_n C 2 dX12_moveOrder_15 rfl rfl ?_
        refine x_sipush C (1439) dX12_moveOrder_16 rfl ?_
        refine x_icmp_le C 24 rfl (zIl _ rfl) dX12_moveOrder_19 rfl (fun c8 => x_op c8 ?_) (fun c8 => x_on c8 ?_)
        · refine x_aload_n C 0 dX12_moveOrder_24 rfl rfl ?_
          refine x_get (v := .ref (xqa (xXE X).2.2 (bkA (σ 0 3)))) C 3 cls_X12 at_X12 (by decide) wd570 rfl rfl dX12_moveOrder_25 ?_
          refine x_get (v := .ref (xqa (xXE X).2.2 ((bkA (σ 0 3)) + 13))) C 12 cls_X1 (at_X1 (bk_A (σ 0 3))) (by decide) wd382 rfl (xV_r (rt_X1_orders (bk_A (σ 0 3)) _) rfl) dX12_moveOrder_28 ?_
          refine x_iload_n C 1 dX12_moveOrder_31 rfl rfl ?_
          refine x_aald C (at_X1_orders (bk_A (σ 0 3))) (by decide) rfl (fun h9 => rl_X1_orders (bk_A (σ 0 3)) _ h9) dX12_moveOrder_32 (fun h9 => ?_)
          refine x_get (v := iV (σ ((bkA (σ 0 3)) + 14 + (zI p1).toNat) 3)) C 3 cls_X5 (el_X1_orders (bk_A (σ 0 3)) h9) (by decide) wd251 rfl rfl dX12_moveOrder_33 ?_
          refine x_letI (fun v10 => ?_)
          refine x_istore_n (L' := [(3, _), (0, _), (1, _), (2, _)]) C dX12_moveOrder_36 rfl (by decide) rfl ?_
          refine x_aload_n C 1 dX12_moveOrder_37 rfl rfl ?_
          refine x_get (v := .ref (xqa (xXE X).2.2 (bkA (σ 0 3)))) C 3 cls_X12 at_X12 (by decide) wd570 rfl rfl dX12_moveOrder_38 ?_
          refine x_get (v := .ref (xqa (xXE X).2.2 ((bkA (σ 0 3)) + 13))) C 12 cls_X1 (at_X1 (bk_A (σ 0 3))) (by decide) wd382 rfl (xV_r (rt_X1_orders (bk_A (σ 0 3)) _) rfl) dX12_moveOrder_41 ?_
          refine x_iload_n C 2 dX12_moveOrder_44 rfl rfl ?_
          refine x_aald C (at_X1_orders (bk_A (σ 0 3))) (by decide) rfl (fun h11 => rl_X1_orders (bk_A (σ 0 3)) _ h11) dX12_moveOrder_45 (fun h11 => ?_)
          refine x_iload_n C 3 dX12_moveOrder_46 rfl rfl ?_
          refine x_put C 3 p2 cls_X5 (el_X1_orders (bk_A (σ 0 3)) h11) (by decide) wd251 rfl rfl rfl rfl (xV_pI rfl) dX12_moveOrder_47 ?_
          refine x_letS (fun s12 => ?_)
          refine x_aload_n C 1 dX12_moveOrder_50 rfl rfl ?_
          refine x_iconst C (5) dX12_moveOrder_51 rfl ?_
          refine x_iload_n C 2 dX12_moveOrder_52 rfl rfl ?_
          refine x_iload_n C 0 dX12_moveOrder_53 rfl rfl ?_
          refine x_callV C (ct_X12_recordChange _ _ 5 p1 v10 s12) mt_X12_recordChange vr_X12_recordChange wd1526 cls_X12 at_X12 rfl ⟨rfl, rfl, Nat.le_of_ble_eq_true rfl, Nat.le_of_ble_eq_true rfl⟩ rfl (by decide) dX12_moveOrder_54 (kV (fun s13 => ?_))
          refine x_iload_n C 0 dX12_moveOrder_57 rfl rfl ?_
          exact x_iretQ C (hQ _ _) rfl dX12_moveOrder_58
        · refine x_pick [] rfl ?_
          exact hJ4 ()
theorem ct_X12_moveOrder (l : Launch) (E : xE) (p1 : Int) (p2 : Int) (σ : xS)   : xMet l E yX12_moveOrder cX12_moveOrder 4 (some .int) { frames := 4, cells := 0, slots := 0, locals := 106 } [.ref (xqa E.2.2 0), iV p1, iV p2] WW WW σ (xrS (m_X12_moveOrder p1 p2 σ)) := by
  refine xMet.of0 (by decide) (Nat.le_of_ble_eq_true rfl) rfl rfl (fun X hE C => ?_)
  subst hE
  exact xMap (fun q => (some (iV q.1), q.2)) (wk_X12_moveOrder C (fun _ _ => rfl) )
theorem mt_X12_moveOrder : xMth yX12_moveOrder cX12_moveOrder 4 (some .int) 2 := ⟨wd1554, wd49, ⟨by decide, by decide, rfl⟩⟩
theorem vr_X12_moveOrder : xVir yX12_moveOrder := ⟨wd1552, wd1553⟩
def m_X12_undo (n : Nat) (σ : xS) : Option (Int × xS) :=
  if (zI (σ 114 3)) = 0 then some ((-1), σ) else (m_X3_takeBack n (bkA (σ 0 3)) σ).bind fun s2 => (m_X12_dropNight s2).bind fun s3 => some (s3 114 3, s3)
set_option maxHeartbeats 4000000 in
set_option maxRecDepth 100000 in
theorem wk_X12_undo {X : xX} {Qf : (Int × xS) → State → Prop} {n : Nat} {σ : xS} (C : xCx X cX12_undo "BakeryNight" (some .int) { frames := 5, cells := 0, slots := 0, locals := 116 } 1) (hQ : ∀ v τ, Qf (v, τ) = xQf X WW (some (iV v), τ))  : WO X Qf WW σ 0 [(0, .ref (xqa (xXE X).2.2 0))] [] (m_X12_undo n σ) := by
  unfold m_X12_undo
  refine x_aload_n C 0 dX12_undo_0 rfl rfl ?_
  refine x_get (v := .ref (xqa (xXE X).2.2 114)) C 5 cls_X12 at_X12 (by decide) wd572 rfl (xV_r (rt_X12_history  _) rfl) dX12_undo_1 ?_
  refine x_get (v := iV (σ 114 3)) C 3 cls_X3 at_X3 (by decide) wd428 rfl rfl dX12_undo_4 ?_
  refine x_if_ne C 12 rfl dX12_undo_7 rfl (fun c1 => x_on c1 ?_) (fun c1 => x_op c1 ?_)
  · refine x_aload_n C 0 dX12_undo_12 rfl rfl ?_
    refine x_get (v := .ref (xqa (xXE X).2.2 114)) C 5 cls_X12 at_X12 (by decide) wd572 rfl (xV_r (rt_X12_history  _) rfl) dX12_undo_13 ?_
    refine x_aload_n C 0 dX12_undo_16 rfl rfl ?_
    refine x_get (v := .ref (xqa (xXE X).2.2 (bkA (σ 0 3)))) C 3 cls_X12 at_X12 (by decide) wd570 rfl rfl dX12_undo_17 ?_
    refine x_callV C (ct_X3_takeBack _ _ n (bkA (σ 0 3)) σ (bk_A (σ 0 3))) mt_X3_takeBack vr_X3_takeBack wd842 cls_X3 at_X3 rfl ⟨rfl, rfl, Nat.le_of_ble_eq_true rfl, Nat.le_of_ble_eq_true rfl⟩ rfl (by decide) dX12_undo_20 (kV (fun s2 => ?_))
    refine x_aload_n C 0 dX12_undo_23 rfl rfl ?_
    refine x_callV C (ct_X12_dropNight _ _ s2) mt_X12_dropNight vr_X12_dropNight wd850 cls_X12 at_X12 rfl ⟨rfl, rfl, Nat.le_of_ble_eq_true rfl, Nat.le_of_ble_eq_true rfl⟩ rfl (by decide) dX12_undo_24 (kV (fun s3 => ?_))
    refine x_aload_n C 0 dX12_undo_27 rfl rfl ?_
    refine x_get (v := .ref (xqa (xXE X).2.2 114)) C 5 cls_X12 at_X12 (by decide) wd572 rfl (xV_r (rt_X12_history  _) rfl) dX12_undo_28 ?_
    refine x_get (v := iV (s3 114 3)) C 3 cls_X3 at_X3 (by decide) wd428 rfl rfl dX12_undo_31 ?_
    exact x_iretQ C (hQ _ _) rfl dX12_undo_34
  · refine x_iconst C (-1) dX12_undo_10 rfl ?_
    exact x_iretQ C (hQ _ _) rfl dX12_undo_11
theorem ct_X12_undo (l : Launch) (E : xE) (n : Nat) (σ : xS)   : xMet l E yX12_undo cX12_undo 1 (some .int) { frames := 5, cells := 0, slots := 0, locals := 116 } [.ref (xqa E.2.2 0)] WW WW σ (xrS (m_X12_undo n σ)) := by
  refine xMet.of0 (by decide) (Nat.le_of_ble_eq_true rfl) rfl rfl (fun X hE C => ?_)
  subst hE
  exact xMap (fun q => (some (iV q.1), q.2)) (wk_X12_undo C (fun _ _ => rfl) )
theorem mt_X12_undo : xMth yX12_undo cX12_undo 1 (some .int) 0 := ⟨wd841, wd49, ⟨by decide, by decide, rfl⟩⟩
theorem vr_X12_undo : xVir yX12_undo := ⟨wd839, wd840⟩
