def m_L_isMoved (n : Nat) (p2 : Int) (σ : xS) : Option (Int × xS) :=
  xbS (m_X12_simulate n p2 σ) fun v2 s1 => (m_X12_spoiledCount n s1).bind fun v3 => (m_X12_readyMinute 0 s1).bind fun v4 => (m_X12_batchCount n s1).bind fun v5 => xj (fun (q9 : Int) => xbS (m_X12_simulate n (p2 + 100) s1) fun v11 s10 => xlet (v11 - v2) fun v12 => xj (fun (q16 : Unit) => some (0, s10)) fun J14 => if (zI v12) = 100 then (m_X12_spoiledCount n s10).bind fun v18 => if (zI v18) = (zI v3) then (m_X12_readyMinute 0 s10).bind fun v20 => xlet (if 0 ≤ (zI v4) then v4 + 100 else (-1)) fun v21 => if (zI v20) = (zI v21) then (m_X12_batchCount n s10).bind fun v23 => xj (fun (q28 : Int) => xbo q28 (some (q28, s10))) fun J26 => xj (fun (q31 : Unit) => J26 1) fun J29 => if (zI v23) = 0 then J29 () else (m_X12_batchCount n s10).bind fun v33 => (m_X12_stageMinute (v33 - 1) 2 s10).bind fun v34 => if (zI v34) = (zI (q9 + 100)) then J29 () else J26 0 else J14 () else J14 () else J14 ()) fun J7 => if (zI v5) ≤ 0 then J7 0 else (m_X12_batchCount n s1).bind fun v39 => (m_X12_stageMinute (v39 - 1) 2 s1).bind fun v40 => J7 v40
set_option maxHeartbeats 4000000 in
set_option maxRecDepth 100000 in
theorem wk_L_isMoved {X : xX} {Qf : (Int × xS) → State → Prop} {n : Nat} {p2 : Int} {σ : xS} (C : xCx X cL_isMoved "BakeryNightLaw" (some .boolean) { frames := 7, cells := 0, slots := 0, locals := 161 } 7) (hQ : ∀ v τ, Qf (v, τ) = xQf X WW (some (iV v), τ))  : WO X Qf WW σ 0 [(0, .ref (xqa (xXE X).2.2 0)), (1, iV p2)] [] (m_L_isMoved n p2 σ) := by
  unfold m_L_isMoved
  refine x_aload_n C 0 dL_isMoved_0 rfl rfl ?_
  refine x_iload_n C 1 dL_isMoved_1 rfl rfl ?_
  refine x_callV C (ct_X12_simulate _ _ n p2 σ) mt_X12_simulate vr_X12_simulate wd648 cls_X12 at_X12 rfl ⟨rfl, rfl, Nat.le_of_ble_eq_true rfl, Nat.le_of_ble_eq_true rfl⟩ rfl (by decide) dL_isMoved_2 (kS (fun v2 s1 => ?_))
  refine x_istore_n (L' := [(2, _), (0, _), (1, _)]) C dL_isMoved_5 rfl (by decide) rfl ?_
  refine x_aload_n C 1 dL_isMoved_6 rfl rfl ?_
  refine x_callV C (ct_X12_spoiledCount _ _ n s1) mt_X12_spoiledCount vr_X12_spoiledCount wd752 cls_X12 at_X12 rfl ⟨rfl, rfl, Nat.le_of_ble_eq_true rfl, Nat.le_of_ble_eq_true rfl⟩ rfl (by decide) dL_isMoved_7 (kI (fun v3 => ?_))
  refine x_istore_n (L' := [(3, _), (2, _), (0, _), (1, _)]) C dL_isMoved_10 rfl (by decide) rfl ?_
  refine x_aload_n C 2 dL_isMoved_11 rfl rfl ?_
  refine x_iconst C (0) dL_isMoved_12 rfl ?_
  refine x_callV C (ct_X12_readyMinute _ _ 0 s1) mt_X12_readyMinute vr_X12_readyMinute wd1474 cls_X12 at_X12 rfl ⟨rfl, rfl, Nat.le_of_ble_eq_true rfl, Nat.le_of_ble_eq_true rfl⟩ rfl (by decide) dL_isMoved_13 (kI (fun v4 => ?_))
  refine x_istore (L' := [(4, _), (3, _), (2, _), (0, _), (1, _)]) C dL_isMoved_16 (by decide) rfl ?_
  refine x_aload_n C 3 dL_isMoved_18 rfl rfl ?_
  refine x_callV C (ct_X12_batchCount _ _ n s1) mt_X12_batchCount vr_X12_batchCount wd612 cls_X12 at_X12 rfl ⟨rfl, rfl, Nat.le_of_ble_eq_true rfl, Nat.le_of_ble_eq_true rfl⟩ rfl (by decide) dL_isMoved_19 (kI (fun v5 => ?_))
  refine x_join (fun J => ∀ q9 : Int, WO X Qf WW s1 40 [(0, .ref (xqa (xXE X).2.2 0)), (1, iV p2), (2, iV v2), (3, iV v3), (4, iV v4)] [iV q9] (J q9)) ?_ ?_
  · intro q9
    refine x_istore (L' := [(5, _), (0, _), (1, _), (2, _), (3, _), (4, _)]) C dL_isMoved_40 (by decide) rfl ?_
    refine x_aload_n C 1 dL_isMoved_42 rfl rfl ?_
    refine x_iload_n C 2 dL_isMoved_43 rfl rfl ?_
    refine x_bipush C (100) dL_isMoved_44 rfl ?_
    refine x_iadd C dL_isMoved_46 ?_
    refine x_callV C (ct_X12_simulate _ _ n (p2 + 100) s1) mt_X12_simulate vr_X12_simulate wd648 cls_X12 at_X12 rfl ⟨rfl, rfl, Nat.le_of_ble_eq_true rfl, Nat.le_of_ble_eq_true rfl⟩ rfl (by decide) dL_isMoved_47 (kS (fun v11 s10 => ?_))
    refine x_iload_n C 3 dL_isMoved_50 rfl rfl ?_
    refine x_isub C dL_isMoved_51 ?_
    refine x_letI (fun v12 => ?_)
    refine x_istore (L' := [(6, _), (5, _), (0, _), (1, _), (2, _), (3, _), (4, _)]) C dL_isMoved_52 (by decide) rfl ?_
    refine x_iload C 0 dL_isMoved_54 rfl ?_
    refine x_bipush C (100) dL_isMoved_56 rfl ?_
    refine x_join (fun J => ∀ q16 : Unit, WO X Qf WW s10 91 [] [] (J q16)) ?_ ?_
    · intro q16
      refine x_iconst C (0) dL_isMoved_91 rfl ?_
      exact x_zretQ C (hQ _ _) rfl (Or.inl rfl) dL_isMoved_92
    · intro J14 hJ15
      refine x_icmp_ne C 91 rfl (zIl _ rfl) dL_isMoved_58 rfl (fun c17 => x_on c17 ?_) (fun c17 => x_op c17 ?_)
      · refine x_pick [] rfl ?_
        exact hJ15 ()
      · refine x_aload_n C 2 dL_isMoved_61 rfl rfl ?_
        refine x_callV C (ct_X12_spoiledCount _ _ n s10) mt_X12_spoiledCount vr_X12_spoiledCount wd752 cls_X12 at_X12 rfl ⟨rfl, rfl, Nat.le_of_ble_eq_true rfl, Nat.le_of_ble_eq_true rfl⟩ rfl (by decide) dL_isMoved_62 (kI (fun v18 => ?_))
        refine x_iload_n C 5 dL_isMoved_65 rfl rfl ?_
        refine x_icmp_ne C 91 rfl rfl dL_isMoved_66 rfl (fun c19 => x_on c19 ?_) (fun c19 => x_op c19 ?_)
        · refine x_pick [] rfl ?_
          exact hJ15 ()
        · refine x_aload_n C 2 dL_isMoved_69 rfl rfl ?_
          refine x_iconst C (0) dL_isMoved_70 rfl ?_
          refine x_callV C (ct_X12_readyMinute _ _ 0 s10) mt_X12_readyMinute vr_X12_readyMinute wd1474 cls_X12 at_X12 rfl ⟨rfl, rfl, Nat.le_of_ble_eq_true rfl, Nat.le_of_ble_eq_true rfl⟩ rfl (by decide) dL_isMoved_71 (kI (fun v20 => ?_))
          refine x_iload C 6 dL_isMoved_74 rfl ?_
          refine x_tree 88 [iV v20] (fun v21 => ?_) (fun hJ36 => ?_)
          · refine x_icmp_eq C 93 rfl rfl dL_isMoved_88 rfl (fun c22 => x_op c22 ?_) (fun c22 => x_on c22 ?_)
            · refine x_aload_n C 2 dL_isMoved_93 rfl rfl ?_
              refine x_callV C (ct_X12_batchCount _ _ n s10) mt_X12_batchCount vr_X12_batchCount wd612 cls_X12 at_X12 rfl ⟨rfl, rfl, Nat.le_of_ble_eq_true rfl, Nat.le_of_ble_eq_true rfl⟩ rfl (by decide) dL_isMoved_94 (kI (fun v23 => ?_))
              refine x_join (fun J => ∀ q28 : Int, WO X Qf WW s10 124 [] [iV q28] (J q28)) ?_ ?_
              · intro q28
                exact x_bo (fun hb => x_zretQ C (hQ _ _) rfl hb dL_isMoved_124)
              · intro J26 hJ27
                refine x_join (fun J => ∀ q31 : Unit, WO X Qf WW s10 119 [] [] (J q31)) ?_ ?_
                · intro q31
                  refine x_iconst C (1) dL_isMoved_119 rfl ?_
                  refine x_goto C 124 dL_isMoved_120 rfl ?_
                  refine x_pick [] rfl ?_
                  exact hJ27 1
                · intro J29 hJ30
                  refine x_if_eq C 119 rfl dL_isMoved_97 rfl (fun c32 => x_op c32 ?_) (fun c32 => x_on c32 ?_)
                  · refine x_pick [] rfl ?_
                    exact hJ30 ()
                  · refine x_aload_n C 2 dL_isMoved_100 rfl rfl ?_
                    refine x_aload_n C 2 dL_isMoved_101 rfl rfl ?_
                    refine x_callV C (ct_X12_batchCount _ _ n s10) mt_X12_batchCount vr_X12_batchCount wd612 cls_X12 at_X12 rfl ⟨rfl, rfl, Nat.le_of_ble_eq_true rfl, Nat.le_of_ble_eq_true rfl⟩ rfl (Nat.le_of_ble_eq_true rfl) dL_isMoved_102 (kI (fun v33 => ?_))
                    refine x_iconst C (1) dL_isMoved_105 rfl ?_
                    refine x_isub C dL_isMoved_106 ?_
                    refine x_iconst C (2) dL_isMoved_107 rfl ?_
                    refine x_callV C (ct_X12_stageMinute _ _ (v33 - 1) 2 s10) mt_X12_stageMinute vr_X12_stageMinute wd1349 cls_X12 at_X12 rfl ⟨rfl, rfl, Nat.le_of_ble_eq_true rfl, Nat.le_of_ble_eq_true rfl⟩ rfl (by decide) dL_isMoved_108 (kI (fun v34 => ?_))
                    refine x_iload C 1 dL_isMoved_111 rfl ?_
                    refine x_bipush C (100) dL_isMoved_113 rfl ?_
                    refine x_iadd C dL_isMoved_115 ?_
                    refine x_icmp_ne C 123 rfl rfl dL_isMoved_116 rfl (fun c35 => x_on c35 ?_) (fun c35 => x_op c35 ?_)
                    · refine x_iconst C (0) dL_isMoved_123 rfl ?_
                      refine x_pick [] rfl ?_
                      exact hJ27 0
                    · refine x_pick [] rfl ?_
                      exact hJ30 ()
            · refine x_pick [] rfl ?_
              exact hJ15 ()
          · refine x_if_ge C 83 rfl dL_isMoved_76 rfl (fun c37 => ?_) (fun c37 => ?_)
            · refine x_iload C 6 dL_isMoved_83 rfl ?_
              refine x_bipush C (100) dL_isMoved_85 rfl ?_
              refine x_iadd C dL_isMoved_87 ?_
              exact hJ36 _ (by rw [if_pos c37])
            · refine x_iconst C (-1) dL_isMoved_79 rfl ?_
              refine x_goto C 88 dL_isMoved_80 rfl ?_
              exact hJ36 _ (by rw [if_neg c37])
  · intro J7 hJ8
    refine x_if_le C 39 rfl dL_isMoved_22 rfl (fun c38 => x_op c38 ?_) (fun c38 => x_on c38 ?_)
    · refine x_iconst C (0) dL_isMoved_39 rfl ?_
      refine x_pick [3, 4, 2, 1, 0] rfl ?_
      exact hJ8 0
    · refine x_aload_n C 3 dL_isMoved_25 rfl rfl ?_
      refine x_aload_n C 3 dL_isMoved_26 rfl rfl ?_
      refine x_callV C (ct_X12_batchCount _ _ n s1) mt_X12_batchCount vr_X12_batchCount wd612 cls_X12 at_X12 rfl ⟨rfl, rfl, Nat.le_of_ble_eq_true rfl, Nat.le_of_ble_eq_true rfl⟩ rfl (Nat.le_of_ble_eq_true rfl) dL_isMoved_27 (kI (fun v39 => ?_))
      refine x_iconst C (1) dL_isMoved_30 rfl ?_
      refine x_isub C dL_isMoved_31 ?_
      refine x_iconst C (2) dL_isMoved_32 rfl ?_
      refine x_callV C (ct_X12_stageMinute _ _ (v39 - 1) 2 s1) mt_X12_stageMinute vr_X12_stageMinute wd1349 cls_X12 at_X12 rfl ⟨rfl, rfl, Nat.le_of_ble_eq_true rfl, Nat.le_of_ble_eq_true rfl⟩ rfl (by decide) dL_isMoved_33 (kI (fun v40 => ?_))
      refine x_goto C 40 dL_isMoved_36 rfl ?_
      refine x_pick [3, 4, 2, 1, 0] rfl ?_
      exact hJ8 v40
theorem ct_L_isMoved (l : Launch) (E : xE) (n : Nat) (p2 : Int) (σ : xS)   : xMet l E yL_isMoved cL_isMoved 7 (some .boolean) { frames := 7, cells := 0, slots := 0, locals := 161 } [.ref (xqa E.2.2 0), iV p2] WW WW σ (xrS (m_L_isMoved n p2 σ)) := by
  refine xMet.of0 (by decide) (Nat.le_of_ble_eq_true rfl) rfl rfl (fun X hE C => ?_)
  subst hE
  exact xMap (fun q => (some (iV q.1), q.2)) (wk_L_isMoved C (fun _ _ => rfl) )
theorem mt_L_isMoved : xMth yL_isMoved cL_isMoved 7 (some .boolean) 2 := ⟨wd1512, wd48, ⟨by decide, by decide, rfl⟩⟩
theorem st_L_isMoved : Cond.static yL_isMoved ∈ GW := wd1511
