def m_L_isUndone (n : Nat) (p2 : Int) (σ : xS) : Option (Int × xS) :=
  xbS (m_X12_latestStart n σ) fun v2 s1 => (m_X12_batchCount n s1).bind fun v3 => (m_L_between p2 0 1439 s1).bind fun v4 => xbS (m_X12_moveOrder 0 v4 s1) fun v6 s5 => (m_L_between (zshr p2 8) 10 40 s5).bind fun v7 => xbS (m_X12_setRoom v7 s5) fun v9 s8 => xbS (m_X12_addOrder 1 0 5 v4 s8) fun v11 s10 => xj (fun (q15 : xS) => some (0, q15)) fun J13 => if (zI v6) < 200 then J13 s10 else if (zI v9) = 24 then if (zI v11) = 4 then (m_X12_spoiledCount n s10).bind fun v19 => if (zI v19) = (-2) then xbS (m_X12_cancelOrder 1 s10) fun v22 s21 => if (zI v22) = 0 then J13 s21 else xbS (m_X12_cancelOrder 1 s21) fun v25 s24 => if (zI v25) = 0 then if (zI (m_X12_orderCount s24)) = 5 then xbS (m_X12_breakOven 0 1 s24) fun v29 s28 => if (zI v29) = 0 then J13 s28 else loopF (fun rec32 (t31 : Int × xS) => if (zI t31.1) < 0 then xbS (m_X12_undo n t31.2) fun v36 s35 => xj (fun (q43 : xS × Int) => xbo q43.2 (some (q43.2, q43.1))) fun J41 => xj (fun (q46 : xS) => J41 (q46, 0)) fun J44 => if (zI v36) = (-1) then if (zI (m_X12_orderCount s35)) = 4 then xbS (m_X12_latestStart n s35) fun v50 s49 => if (zI v50) = (zI v2) then (m_X12_batchCount n s49).bind fun v52 => if (zI v52) = (zI v3) then xbS (m_X12_moveOrder 0 v6 s49) fun v55 s54 => if (zI v55) = (zI v6) then xbS (m_X12_undo n s54) fun v58 s57 => if (zI v58) = 0 then J41 (s57, 1) else J44 s57 else J44 s54 else J44 s49 else J44 s49 else J44 s35 else J44 s35 else xbS (m_X12_undo n t31.2) fun v61 s60 => if (zI v61) = (zI t31.1) then xlet (t31.1 + (-1)) fun v63 => rec32 (v63, s60) else some (0, s60)) n (4, s28) else J13 s24 else J13 s24 else J13 s10 else J13 s10 else J13 s10
set_option maxHeartbeats 4000000 in
set_option maxRecDepth 100000 in
theorem wk_L_isUndone {X : xX} {Qf : (Int × xS) → State → Prop} {n : Nat} {p2 : Int} {σ : xS} (C : xCx X cL_isUndone "BakeryNightLaw" (some .boolean) { frames := 8, cells := 0, slots := 0, locals := 180 } 9) (hQ : ∀ v τ, Qf (v, τ) = xQf X WW (some (iV v), τ))  : WO X Qf WW σ 0 [(0, .ref (xqa (xXE X).2.2 0)), (1, iV p2)] [] (m_L_isUndone n p2 σ) := by
  unfold m_L_isUndone
  refine x_aload_n C 0 dL_isUndone_0 rfl rfl ?_
  refine x_callV C (ct_X12_latestStart _ _ n σ) mt_X12_latestStart vr_X12_latestStart wd826 cls_X12 at_X12 rfl ⟨rfl, rfl, Nat.le_of_ble_eq_true rfl, Nat.le_of_ble_eq_true rfl⟩ rfl (by decide) dL_isUndone_1 (kS (fun v2 s1 => ?_))
  refine x_istore_n (L' := [(2, _), (0, _), (1, _)]) C dL_isUndone_4 rfl (by decide) rfl ?_
  refine x_aload_n C 1 dL_isUndone_5 rfl rfl ?_
  refine x_callV C (ct_X12_batchCount _ _ n s1) mt_X12_batchCount vr_X12_batchCount wd612 cls_X12 at_X12 rfl ⟨rfl, rfl, Nat.le_of_ble_eq_true rfl, Nat.le_of_ble_eq_true rfl⟩ rfl (by decide) dL_isUndone_6 (kI (fun v3 => ?_))
  refine x_istore_n (L' := [(3, _), (2, _), (0, _), (1, _)]) C dL_isUndone_9 rfl (by decide) rfl ?_
  refine x_iload_n C 3 dL_isUndone_10 rfl rfl ?_
  refine x_iconst C (0) dL_isUndone_11 rfl ?_
  refine x_sipush C (1439) dL_isUndone_12 rfl ?_
  refine x_callS C (ct_L_between _ _ p2 0 1439 s1) mt_L_between st_L_between wd859 rfl ⟨rfl, rfl, Nat.le_of_ble_eq_true rfl, Nat.le_of_ble_eq_true rfl⟩ rfl (by decide) dL_isUndone_15 (kI (fun v4 => ?_))
  refine x_istore (L' := [(4, _), (3, _), (2, _), (0, _), (1, _)]) C dL_isUndone_18 (by decide) rfl ?_
  refine x_aload_n C 3 dL_isUndone_20 rfl rfl ?_
  refine x_iconst C (0) dL_isUndone_21 rfl ?_
  refine x_iload C 0 dL_isUndone_22 rfl ?_
  refine x_callV C (ct_X12_moveOrder _ _ 0 v4 s1) mt_X12_moveOrder vr_X12_moveOrder wd1551 cls_X12 at_X12 rfl ⟨rfl, rfl, Nat.le_of_ble_eq_true rfl, Nat.le_of_ble_eq_true rfl⟩ rfl (by decide) dL_isUndone_24 (kS (fun v6 s5 => ?_))
  refine x_istore (L' := [(5, _), (4, _), (3, _), (2, _), (0, _), (1, _)]) C dL_isUndone_27 (by decide) rfl ?_
  refine x_aload_n C 4 dL_isUndone_29 rfl rfl ?_
  refine x_iload_n C 5 dL_isUndone_30 rfl rfl ?_
  refine x_bipush C (8) dL_isUndone_31 rfl ?_
  refine x_ishr C dL_isUndone_33 ?_
  refine x_bipush C (10) dL_isUndone_34 rfl ?_
  refine x_bipush C (40) dL_isUndone_36 rfl ?_
  refine x_callS C (ct_L_between _ _ (zshr p2 8) 10 40 s5) mt_L_between st_L_between wd859 rfl ⟨rfl, rfl, Nat.le_of_ble_eq_true rfl, Nat.le_of_ble_eq_true rfl⟩ rfl (Nat.le_of_ble_eq_true rfl) dL_isUndone_38 (kI (fun v7 => ?_))
  refine x_callV C (ct_X12_setRoom _ _ v7 s5) mt_X12_setRoom vr_X12_setRoom wd1555 cls_X12 at_X12 rfl ⟨rfl, rfl, Nat.le_of_ble_eq_true rfl, Nat.le_of_ble_eq_true rfl⟩ rfl (by decide) dL_isUndone_41 (kS (fun v9 s8 => ?_))
  refine x_istore (L' := [(6, _), (5, _), (4, _), (3, _), (2, _), (0, _), (1, _)]) C dL_isUndone_44 (by decide) rfl ?_
  refine x_aload_n C 5 dL_isUndone_46 rfl rfl ?_
  refine x_iconst C (1) dL_isUndone_47 rfl ?_
  refine x_iconst C (0) dL_isUndone_48 rfl ?_
  refine x_iconst C (5) dL_isUndone_49 rfl ?_
  refine x_iload C 2 dL_isUndone_50 rfl ?_
  refine x_callV C (ct_X12_addOrder _ _ 1 0 5 v4 s8) mt_X12_addOrder vr_X12_addOrder wd1559 cls_X12 at_X12 rfl ⟨rfl, rfl, Nat.le_of_ble_eq_true rfl, Nat.le_of_ble_eq_true rfl⟩ rfl (by decide) dL_isUndone_52 (kS (fun v11 s10 => ?_))
  refine x_istore (L' := [(7, _), (6, _), (5, _), (4, _), (3, _), (2, _), (0, _), (1, _)]) C dL_isUndone_55 (by decide) rfl ?_
  refine x_iload C 2 dL_isUndone_57 rfl ?_
  refine x_sipush C (200) dL_isUndone_59 rfl ?_
  refine x_join (fun J => ∀ q15 : xS, WO X Qf WW q15 120 [] [] (J q15)) ?_ ?_
  · intro q15
    refine x_iconst C (0) dL_isUndone_120 rfl ?_
    exact x_zretQ C (hQ _ _) rfl (Or.inl rfl) dL_isUndone_121
  · intro J13 hJ14
    refine x_icmp_lt C 120 rfl (zIl _ rfl) dL_isUndone_62 rfl (fun c16 => x_op c16 ?_) (fun c16 => x_on c16 ?_)
    · refine x_pick [] rfl ?_
      exact hJ14 s10
    · refine x_iload C 1 dL_isUndone_65 rfl ?_
      refine x_bipush C (24) dL_isUndone_67 rfl ?_
      refine x_icmp_ne C 120 rfl (zIl _ rfl) dL_isUndone_69 rfl (fun c17 => x_on c17 ?_) (fun c17 => x_op c17 ?_)
      · refine x_pick [] rfl ?_
        exact hJ14 s10
      · refine x_iload C 0 dL_isUndone_72 rfl ?_
        refine x_iconst C (4) dL_isUndone_74 rfl ?_
        refine x_icmp_ne C 120 rfl (zIl _ rfl) dL_isUndone_75 rfl (fun c18 => x_on c18 ?_) (fun c18 => x_op c18 ?_)
        · refine x_pick [] rfl ?_
          exact hJ14 s10
        · refine x_aload_n C 6 dL_isUndone_78 rfl rfl ?_
          refine x_callV C (ct_X12_spoiledCount _ _ n s10) mt_X12_spoiledCount vr_X12_spoiledCount wd752 cls_X12 at_X12 rfl ⟨rfl, rfl, Nat.le_of_ble_eq_true rfl, Nat.le_of_ble_eq_true rfl⟩ rfl (by decide) dL_isUndone_79 (kI (fun v19 => ?_))
          refine x_bipush C (-2) dL_isUndone_82 rfl ?_
          refine x_icmp_ne C 120 rfl (zIl _ rfl) dL_isUndone_84 rfl (fun c20 => x_on c20 ?_) (fun c20 => x_op c20 ?_)
          · refine x_pick [] rfl ?_
            exact hJ14 s10
          · refine x_aload_n C 6 dL_isUndone_87 rfl rfl ?_
            refine x_iconst C (1) dL_isUndone_88 rfl ?_
            refine x_callV C (ct_X12_cancelOrder _ _ 1 s10) mt_X12_cancelOrder vr_X12_cancelOrder wd1568 cls_X12 at_X12 rfl ⟨rfl, rfl, Nat.le_of_ble_eq_true rfl, Nat.le_of_ble_eq_true rfl⟩ rfl (by decide) dL_isUndone_89 (kS (fun v22 s21 => ?_))
            refine x_if_eq C 120 rfl dL_isUndone_92 rfl (fun c23 => x_op c23 ?_) (fun c23 => x_on c23 ?_)
            · refine x_pick [] rfl ?_
              exact hJ14 s21
            · refine x_aload_n C 6 dL_isUndone_95 rfl rfl ?_
              refine x_iconst C (1) dL_isUndone_96 rfl ?_
              refine x_callV C (ct_X12_cancelOrder _ _ 1 s21) mt_X12_cancelOrder vr_X12_cancelOrder wd1568 cls_X12 at_X12 rfl ⟨rfl, rfl, Nat.le_of_ble_eq_true rfl, Nat.le_of_ble_eq_true rfl⟩ rfl (by decide) dL_isUndone_97 (kS (fun v25 s24 => ?_))
              refine x_if_ne C 120 rfl dL_isUndone_100 rfl (fun c26 => x_on c26 ?_) (fun c26 => x_op c26 ?_)
              · refine x_pick [] rfl ?_
                exact hJ14 s24
              · refine x_aload_n C 6 dL_isUndone_103 rfl rfl ?_
                refine x_callV C (ct_X12_orderCount _ _ s24) mt_X12_orderCount vr_X12_orderCount wd608 cls_X12 at_X12 rfl ⟨rfl, rfl, Nat.le_of_ble_eq_true rfl, Nat.le_of_ble_eq_true rfl⟩ rfl (by decide) dL_isUndone_104 (kP ?_)
                refine x_iconst C (5) dL_isUndone_107 rfl ?_
                refine x_icmp_ne C 120 rfl (zIl _ rfl) dL_isUndone_108 rfl (fun c27 => x_on c27 ?_) (fun c27 => x_op c27 ?_)
                · refine x_pick [] rfl ?_
                  exact hJ14 s24
                · refine x_aload_n C 6 dL_isUndone_111 rfl rfl ?_
                  refine x_iconst C (0) dL_isUndone_112 rfl ?_
                  refine x_iconst C (1) dL_isUndone_113 rfl ?_
                  refine x_callV C (ct_X12_breakOven _ _ 0 1 s24) mt_X12_breakOven vr_X12_breakOven wd1572 cls_X12 at_X12 rfl ⟨rfl, rfl, Nat.le_of_ble_eq_true rfl, Nat.le_of_ble_eq_true rfl⟩ rfl (by decide) dL_isUndone_114 (kS (fun v29 s28 => ?_))
                  refine x_if_ne C 122 rfl dL_isUndone_117 rfl (fun c30 => x_on c30 ?_) (fun c30 => x_op c30 ?_)
                  · refine x_iconst C (4) dL_isUndone_122 rfl ?_
                    refine x_istore (L' := [(8, _), (7, _), (6, _), (5, _), (4, _), (3, _), (2, _), (0, _), (1, _)]) C dL_isUndone_123 (by decide) rfl ?_
                    refine x_pick [7, 6, 5, 3, 0] rfl ?_
                    refine x_loop (fun t31 : Int × xS => t31.2) (fun t31 : Int × xS => [(0, .ref (xqa (xXE X).2.2 0)), (2, iV v2), (3, iV v3), (5, iV v6), (8, iV t31.1)]) (fun rec32 hr33 t31 => ?_) n (4, s28)
                    refine x_iload C 4 dL_isUndone_125 rfl ?_
                    refine x_if_lt C 147 rfl dL_isUndone_127 rfl (fun c34 => x_op c34 ?_) (fun c34 => x_on c34 ?_)
                    · refine x_aload_n C 0 dL_isUndone_147 rfl rfl ?_
                      refine x_callV C (ct_X12_undo _ _ n t31.2) mt_X12_undo vr_X12_undo wd838 cls_X12 at_X12 rfl ⟨rfl, rfl, Nat.le_of_ble_eq_true rfl, Nat.le_of_ble_eq_true rfl⟩ rfl (by decide) dL_isUndone_148 (kS (fun v36 s35 => ?_))
                      refine x_iconst C (-1) dL_isUndone_151 rfl ?_
                      refine x_join (fun J => ∀ q43 : xS × Int, WO X Qf WW q43.1 203 [] [iV q43.2] (J q43)) ?_ ?_
                      · intro q43
                        exact x_bo (fun hb => x_zretQ C (hQ _ _) rfl hb dL_isUndone_203)
                      · intro J41 hJ42
                        refine x_join (fun J => ∀ q46 : xS, WO X Qf WW q46 202 [] [] (J q46)) ?_ ?_
                        · intro q46
                          refine x_iconst C (0) dL_isUndone_202 rfl ?_
                          refine x_pick [] rfl ?_
                          exact hJ42 (q46, 0)
                        · intro J44 hJ45
                          refine x_icmp_ne C 202 rfl (zIl _ rfl) dL_isUndone_152 rfl (fun c47 => x_on c47 ?_) (fun c47 => x_op c47 ?_)
                          · refine x_pick [] rfl ?_
                            exact hJ45 s35
                          · refine x_aload_n C 0 dL_isUndone_155 rfl rfl ?_
                            refine x_callV C (ct_X12_orderCount _ _ s35) mt_X12_orderCount vr_X12_orderCount wd608 cls_X12 at_X12 rfl ⟨rfl, rfl, Nat.le_of_ble_eq_true rfl, Nat.le_of_ble_eq_true rfl⟩ rfl (by decide) dL_isUndone_156 (kP ?_)
                            refine x_iconst C (4) dL_isUndone_159 rfl ?_
                            refine x_icmp_ne C 202 rfl (zIl _ rfl) dL_isUndone_160 rfl (fun c48 => x_on c48 ?_) (fun c48 => x_op c48 ?_)
                            · refine x_pick [] rfl ?_
                              exact hJ45 s35
                            · refine x_aload_n C 0 dL_isUndone_163 rfl rfl ?_
                              refine x_callV C (ct_X12_latestStart _ _ n s35) mt_X12_latestStart vr_X12_latestStart wd826 cls_X12 at_X12 rfl ⟨rfl, rfl, Nat.le_of_ble_eq_true rfl, Nat.le_of_ble_eq_true rfl⟩ rfl (by decide) dL_isUndone_164 (kS (fun v50 s49 => ?_))
                              refine x_iload_n C 1 dL_isUndone_167 rfl rfl ?_
                              refine x_icmp_ne C 202 rfl rfl dL_isUndone_168 rfl (fun c51 => x_on c51 ?_) (fun c51 => x_op c51 ?_)
                              · refine x_pick [] rfl ?_
                                exact hJ45 s49
                              · refine x_aload_n C 0 dL_isUndone_171 rfl rfl ?_
                                refine x_callV C (ct_X12_batchCount _ _ n s49) mt_X12_batchCount vr_X12_batchCount wd612 cls_X12 at_X12 rfl ⟨rfl, rfl, Nat.le_of_ble_eq_true rfl, Nat.le_of_ble_eq_true rfl⟩ rfl (by decide) dL_isUndone_172 (kI (fun v52 => ?_))
                                refine x_iload_n C 2 dL_isUndone_175 rfl rfl ?_
                                refine x_icmp_ne C 202 rfl rfl dL_isUndone_176 rfl (fun c53 => x_on c53 ?_) (fun c53 => x_op c53 ?_)
                                · refine x_pick [] rfl ?_
                                  exact hJ45 s49
                                · refine x_aload_n C 0 dL_isUndone_179 rfl rfl ?_
                                  refine x_iconst C (0) dL_isUndone_180 rfl ?_
                                  refine x_iload C 3 dL_isUndone_181 rfl ?_
                                  refine x_callV C (ct_X12_moveOrder _ _ 0 v6 s49) mt_X12_moveOrder vr_X12_moveOrder wd1551 cls_X12 at_X12 rfl ⟨rfl, rfl, Nat.le_of_ble_eq_true rfl, Nat.le_of_ble_eq_true rfl⟩ rfl (by decide) dL_isUndone_183 (kS (fun v55 s54 => ?_))
                                  refine x_iload C 3 dL_isUndone_186 rfl ?_
                                  refine x_icmp_ne C 202 rfl rfl dL_isUndone_188 rfl (fun c56 => x_on c56 ?_) (fun c56 => x_op c56 ?_)
                                  · refine x_pick [] rfl ?_
                                    exact hJ45 s54
                                  · refine x_aload_n C 0 dL_isUndone_191 rfl rfl ?_
                                    refine x_callV C (ct_X12_undo _ _ n s54) mt_X12_undo vr_X12_undo wd838 cls_X12 at_X12 rfl ⟨rfl, rfl, Nat.le_of_ble_eq_true rfl, Nat.le_of_ble_eq_true rfl⟩ rfl (by decide) dL_isUndone_192 (kS (fun v58 s57 => ?_))
                                    refine x_if_ne C 202 rfl dL_isUndone_195 rfl (fun c59 => x_on c59 ?_) (fun c59 => x_op c59 ?_)
                                    · refine x_pick [] rfl ?_
                                      exact hJ45 s57
                                    · refine x_iconst C (1) dL_isUndone_198 rfl ?_
                                      refine x_goto C 203 dL_isUndone_199 rfl ?_
                                      refine x_pick [] rfl ?_
                                      exact hJ42 (s57, 1)
                    · refine x_aload_n C 0 dL_isUndone_130 rfl rfl ?_
                      refine x_callV C (ct_X12_undo _ _ n t31.2) mt_X12_undo vr_X12_undo wd838 cls_X12 at_X12 rfl ⟨rfl, rfl, Nat.le_of_ble_eq_true rfl, Nat.le_of_ble_eq_true rfl⟩ rfl (by decide) dL_isUndone_131 (kS (fun v61 s60 => ?_))
                      refine x_iload C 4 dL_isUndone_134 rfl ?_
                      refine x_icmp_eq C 141 rfl rfl dL_isUndone_136 rfl (fun c62 => x_op c62 ?_) (fun c62 => x_on c62 ?_)
                      · refine x_inc C 4 (f := _) dL_isUndone_141 rfl (by decide) (-1) rfl (fun v63 => ?_)
                        refine x_reL (L' := [(8, _), (0, _), (2, _), (3, _), (5, _)]) rfl ?_
                        refine x_goto C 125 dL_isUndone_144 rfl ?_
                        refine x_pick [1, 2, 3, 4, 0] rfl ?_
                        exact hr33 (v63, s60)
                      · refine x_iconst C (0) dL_isUndone_139 rfl ?_
                        exact x_zretQ C (hQ _ _) rfl (Or.inl rfl) dL_isUndone_140
                  · refine x_pick [] rfl ?_
                    exact hJ14 s28
theorem ct_L_isUndone (l : Launch) (E : xE) (n : Nat) (p2 : Int) (σ : xS)   : xMet l E yL_isUndone cL_isUndone 9 (some .boolean) { frames := 8, cells := 0, slots := 0, locals := 180 } [.ref (xqa E.2.2 0), iV p2] WW WW σ (xrS (m_L_isUndone n p2 σ)) := by
  refine xMet.of0 (by decide) (Nat.le_of_ble_eq_true rfl) rfl rfl (fun X hE C => ?_)
  subst hE
  exact xMap (fun q => (some (iV q.1), q.2)) (wk_L_isUndone C (fun _ _ => rfl) )
theorem mt_L_isUndone : xMth yL_isUndone cL_isUndone 9 (some .boolean) 2 := ⟨wd1550, wd48, ⟨by decide, by decide, rfl⟩⟩
theorem st_L_isUndone : Cond.static yL_isUndone ∈ GW := wd1549
