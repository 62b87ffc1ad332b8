def m_L_isLatest (n : Nat) (σ : xS) : Option (Int × xS) :=
  xbS (m_X12_latestStart n σ) fun v2 s1 => xbS (m_X12_simulate n 0 s1) fun v4 s3 => xbS (m_X12_failedShops n s3) fun v6 s5 => if 0 ≤ (zI v2) then xj (fun (q12 : xS) => some (0, q12)) fun J10 => if (zI v6) = 0 then xbS (m_X12_simulate n v2 s5) fun v15 s14 => if (zI v15) < 0 then J10 s14 else xbS (m_X12_failedShops n s14) fun v18 s17 => if (zI v18) = 0 then xj (fun (q24 : xS) => xbS (m_X12_vitalStreet n q24) fun v26 s25 => xj (fun (q31 : xS) => xbS (m_X12_latestStartWith n 4 q31) fun v33 s32 => xj (fun (q40 : xS × Int) => xbo q40.2 (some (q40.2, q40.1))) fun J38 => xj (fun (q43 : xS) => J38 (q43, 0)) fun J41 => if (zI v33) < (zI v2) then J41 s32 else xbS (m_X12_latestStartWith n 5 s32) fun v46 s45 => if (zI v46) = (-1) then J38 (s45, 1) else J41 s45) fun J29 => if (zI v26) < 0 then J29 s25 else xbS (m_X12_closeStreet n v26 1 s25) fun v50 s49 => xj (fun (q55 : xS) => some (0, q55)) fun J53 => if (zI v50) = 0 then J53 s49 else xbS (m_X12_latestStart n s49) fun v58 s57 => if (zI v2) ≤ (zI v58) then J53 s57 else xbS (m_X12_undo n s57) fun v61 s60 => if (zI v61) = 0 then J29 s60 else J53 s60) fun J22 => if 1439 ≤ (zI v2) then J22 s17 else xbS (m_X12_simulate n (v2 + 1) s17) fun v65 s64 => xj (fun (q70 : xS) => some (0, q70)) fun J68 => if (zI v65) < 0 then J68 s64 else xbS (m_X12_failedShops n s64) fun v73 s72 => if 0 < (zI v73) then J22 s72 else J68 s72 else J10 s17 else J10 s5 else xj (fun (q81 : xS × Int) => xbo q81.2 (some (q81.2, q81.1))) fun J79 => xj (fun (q84 : xS) => J79 (q84, 0)) fun J82 => if (zI v6) = 0 then J82 s5 else xbS (m_X12_vitalStreet n s5) fun v87 s86 => if (zI v87) = (-1) then J79 (s86, 1) else J82 s86
set_option maxHeartbeats 4000000 in
set_option maxRecDepth 100000 in
theorem wk_L_isLatest {X : xX} {Qf : (Int × xS) → State → Prop} {n : Nat} {σ : xS} (C : xCx X cL_isLatest "BakeryNightLaw" (some .boolean) { frames := 8, cells := 0, slots := 0, locals := 185 } 5) (hQ : ∀ v τ, Qf (v, τ) = xQf X WW (some (iV v), τ))  : WO X Qf WW σ 0 [(0, .ref (xqa (xXE X).2.2 0))] [] (m_L_isLatest n σ) := by
  unfold m_L_isLatest
  refine x_aload_n C 0 dL_isLatest_0 rfl rfl ?_
  refine x_callV C (ct_X12_latestStart _ _ n σ) mt_X12_latestStart vr_X12_latestStart wd826 cls_X12 at_X12 rfl ⟨rfl, rfl, Nat.le_of_ble_eq_true rfl, Nat.le_of_ble_eq_true rfl⟩ rfl (by decide) dL_isLatest_1 (kS (fun v2 s1 => ?_))
  refine x_istore_n (L' := [(1, _), (0, _)]) C dL_isLatest_4 rfl (by decide) rfl ?_
  refine x_aload_n C 1 dL_isLatest_5 rfl rfl ?_
  refine x_iconst C (0) dL_isLatest_6 rfl ?_
  refine x_callV C (ct_X12_simulate _ _ n 0 s1) mt_X12_simulate vr_X12_simulate wd648 cls_X12 at_X12 rfl ⟨rfl, rfl, Nat.le_of_ble_eq_true rfl, Nat.le_of_ble_eq_true rfl⟩ rfl (by decide) dL_isLatest_7 (kS (fun v4 s3 => ?_))
  refine x_istore_n (L' := [(2, _), (1, _), (0, _)]) C dL_isLatest_10 rfl (by decide) rfl ?_
  refine x_aload_n C 2 dL_isLatest_11 rfl rfl ?_
  refine x_callV C (ct_X12_failedShops _ _ n s3) mt_X12_failedShops vr_X12_failedShops wd760 cls_X12 at_X12 rfl ⟨rfl, rfl, Nat.le_of_ble_eq_true rfl, Nat.le_of_ble_eq_true rfl⟩ rfl (by decide) dL_isLatest_12 (kS (fun v6 s5 => ?_))
  refine x_istore_n (L' := [(3, _), (2, _), (1, _), (0, _)]) C dL_isLatest_15 rfl (by decide) rfl ?_
  refine x_iload_n C 2 dL_isLatest_16 rfl rfl ?_
  refine x_if_ge C 38 rfl dL_isLatest_17 rfl (fun c7 => x_op c7 ?_) (fun c7 => x_on c7 ?_)
  · refine x_iload_n C 0 dL_isLatest_38 rfl rfl ?_
    refine x_join (fun J => ∀ q12 : xS, WO X Qf WW q12 57 [] [] (J q12)) ?_ ?_
    · intro q12
      refine x_iconst C (0) dL_isLatest_57 rfl ?_
      exact x_zretQ C (hQ _ _) rfl (Or.inl rfl) dL_isLatest_58
    · intro J10 hJ11
      refine x_if_ne C 57 rfl dL_isLatest_39 rfl (fun c13 => x_on c13 ?_) (fun c13 => x_op c13 ?_)
      · refine x_pick [] rfl ?_
        exact hJ11 s5
      · refine x_aload_n C 3 dL_isLatest_42 rfl rfl ?_
        refine x_iload_n C 2 dL_isLatest_43 rfl rfl ?_
        refine x_callV C (ct_X12_simulate _ _ n v2 s5) mt_X12_simulate vr_X12_simulate wd648 cls_X12 at_X12 rfl ⟨rfl, rfl, Nat.le_of_ble_eq_true rfl, Nat.le_of_ble_eq_true rfl⟩ rfl (by decide) dL_isLatest_44 (kS (fun v15 s14 => ?_))
        refine x_if_lt C 57 rfl dL_isLatest_47 rfl (fun c16 => x_op c16 ?_) (fun c16 => x_on c16 ?_)
        · refine x_pick [] rfl ?_
          exact hJ11 s14
        · refine x_aload_n C 3 dL_isLatest_50 rfl rfl ?_
          refine x_callV C (ct_X12_failedShops _ _ n s14) mt_X12_failedShops vr_X12_failedShops wd760 cls_X12 at_X12 rfl ⟨rfl, rfl, Nat.le_of_ble_eq_true rfl, Nat.le_of_ble_eq_true rfl⟩ rfl (by decide) dL_isLatest_51 (kS (fun v18 s17 => ?_))
          refine x_if_eq C 59 rfl dL_isLatest_54 rfl (fun c19 => x_op c19 ?_) (fun c19 => x_on c19 ?_)
          · refine x_iload_n C 2 dL_isLatest_59 rfl rfl ?_
            refine x_sipush C (1439) dL_isLatest_60 rfl ?_
            refine x_join (fun J => ∀ q24 : xS, WO X Qf WW q24 85 [(0, .ref (xqa (xXE X).2.2 0)), (1, iV v2)] [] (J q24)) ?_ ?_
            · intro q24
              refine x_aload_n C 0 dL_isLatest_85 rfl rfl ?_
              refine x_callV C (ct_X12_vitalStreet _ _ n q24) mt_X12_vitalStreet vr_X12_vitalStreet wd1516 cls_X12 at_X12 rfl ⟨rfl, rfl, Nat.le_of_ble_eq_true rfl, Nat.le_of_ble_eq_true rfl⟩ rfl (by decide) dL_isLatest_86 (kS (fun v26 s25 => ?_))
              refine x_istore (L' := [(4, _), (0, _), (1, _)]) C dL_isLatest_89 (by decide) rfl ?_
              refine x_iload C 0 dL_isLatest_91 rfl ?_
              refine x_join (fun J => ∀ q31 : xS, WO X Qf WW q31 123 [(0, .ref (xqa (xXE X).2.2 0)), (1, iV v2)] [] (J q31)) ?_ ?_
              · intro q31
                refine x_aload_n C 0 dL_isLatest_123 rfl rfl ?_
                refine x_iconst C (4) dL_isLatest_124 rfl ?_
                refine x_callV C (ct_X12_latestStartWith _ _ n 4 q31) mt_X12_latestStartWith vr_X12_latestStartWith wd1539 cls_X12 at_X12 rfl ⟨rfl, rfl, Nat.le_of_ble_eq_true rfl, Nat.le_of_ble_eq_true rfl⟩ rfl (by decide) dL_isLatest_125 (kS (fun v33 s32 => ?_))
                refine x_iload_n C 1 dL_isLatest_128 rfl rfl ?_
                refine x_join (fun J => ∀ q40 : xS × Int, WO X Qf WW q40.1 146 [] [iV q40.2] (J q40)) ?_ ?_
                · intro q40
                  exact x_bo (fun hb => x_zretQ C (hQ _ _) rfl hb dL_isLatest_146)
                · intro J38 hJ39
                  refine x_join (fun J => ∀ q43 : xS, WO X Qf WW q43 145 [] [] (J q43)) ?_ ?_
                  · intro q43
                    refine x_iconst C (0) dL_isLatest_145 rfl ?_
                    refine x_pick [] rfl ?_
                    exact hJ39 (q43, 0)
                  · intro J41 hJ42
                    refine x_icmp_lt C 145 rfl rfl dL_isLatest_129 rfl (fun c44 => x_op c44 ?_) (fun c44 => x_on c44 ?_)
                    · refine x_pick [] rfl ?_
                      exact hJ42 s32
                    · refine x_aload_n C 0 dL_isLatest_132 rfl rfl ?_
                      refine x_iconst C (5) dL_isLatest_133 rfl ?_
                      refine x_callV C (ct_X12_latestStartWith _ _ n 5 s32) mt_X12_latestStartWith vr_X12_latestStartWith wd1539 cls_X12 at_X12 rfl ⟨rfl, rfl, Nat.le_of_ble_eq_true rfl, Nat.le_of_ble_eq_true rfl⟩ rfl (by decide) dL_isLatest_134 (kS (fun v46 s45 => ?_))
                      refine x_iconst C (-1) dL_isLatest_137 rfl ?_
                      refine x_icmp_ne C 145 rfl (zIl _ rfl) dL_isLatest_138 rfl (fun c47 => x_on c47 ?_) (fun c47 => x_op c47 ?_)
                      · refine x_pick [] rfl ?_
                        exact hJ42 s45
                      · refine x_iconst C (1) dL_isLatest_141 rfl ?_
                        refine x_goto C 146 dL_isLatest_142 rfl ?_
                        refine x_pick [] rfl ?_
                        exact hJ39 (s45, 1)
              · intro J29 hJ30
                refine x_if_lt C 123 rfl dL_isLatest_93 rfl (fun c48 => x_op c48 ?_) (fun c48 => x_on c48 ?_)
                · refine x_pick [1, 2] rfl ?_
                  exact hJ30 s25
                · refine x_aload_n C 1 dL_isLatest_96 rfl rfl ?_
                  refine x_iload C 0 dL_isLatest_97 rfl ?_
                  refine x_iconst C (1) dL_isLatest_99 rfl ?_
                  refine x_callV C (ct_X12_closeStreet _ _ n v26 1 s25) mt_X12_closeStreet vr_X12_closeStreet wd1521 cls_X12 at_X12 rfl ⟨rfl, rfl, Nat.le_of_ble_eq_true rfl, Nat.le_of_ble_eq_true rfl⟩ rfl (by decide) dL_isLatest_100 (kS (fun v50 s49 => ?_))
                  refine x_join (fun J => ∀ q55 : xS, WO X Qf WW q55 121 [] [] (J q55)) ?_ ?_
                  · intro q55
                    refine x_iconst C (0) dL_isLatest_121 rfl ?_
                    exact x_zretQ C (hQ _ _) rfl (Or.inl rfl) dL_isLatest_122
                  · intro J53 hJ54
                    refine x_if_eq C 121 rfl dL_isLatest_103 rfl (fun c56 => x_op c56 ?_) (fun c56 => x_on c56 ?_)
                    · refine x_pick [] rfl ?_
                      exact hJ54 s49
                    · refine x_aload_n C 1 dL_isLatest_106 rfl rfl ?_
                      refine x_callV C (ct_X12_latestStart _ _ n s49) mt_X12_latestStart vr_X12_latestStart wd826 cls_X12 at_X12 rfl ⟨rfl, rfl, Nat.le_of_ble_eq_true rfl, Nat.le_of_ble_eq_true rfl⟩ rfl (by decide) dL_isLatest_107 (kS (fun v58 s57 => ?_))
                      refine x_iload_n C 2 dL_isLatest_110 rfl rfl ?_
                      refine x_icmp_ge C 121 rfl rfl dL_isLatest_111 rfl (fun c59 => x_op c59 ?_) (fun c59 => x_on c59 ?_)
                      · refine x_pick [] rfl ?_
                        exact hJ54 s57
                      · refine x_aload_n C 1 dL_isLatest_114 rfl rfl ?_
                        refine x_callV C (ct_X12_undo _ _ n s57) mt_X12_undo vr_X12_undo wd838 cls_X12 at_X12 rfl ⟨rfl, rfl, Nat.le_of_ble_eq_true rfl, Nat.le_of_ble_eq_true rfl⟩ rfl (by decide) dL_isLatest_115 (kS (fun v61 s60 => ?_))
                        refine x_if_eq C 123 rfl dL_isLatest_118 rfl (fun c62 => x_op c62 ?_) (fun c62 => x_on c62 ?_)
                        · refine x_pick [1, 2] rfl ?_
                          exact hJ30 s60
                        · refine x_pick [] rfl ?_
                          exact hJ54 s60
            · intro J22 hJ23
              refine x_icmp_ge C 85 rfl (zIl _ rfl) dL_isLatest_63 rfl (fun c63 => x_op c63 ?_) (fun c63 => x_on c63 ?_)
              · refine x_pick [3, 2] rfl ?_
                exact hJ23 s17
              · refine x_aload_n C 3 dL_isLatest_66 rfl rfl ?_
                refine x_iload_n C 2 dL_isLatest_67 rfl rfl ?_
                refine x_iconst C (1) dL_isLatest_68 rfl ?_
                refine x_iadd C dL_isLatest_69 ?_
                refine x_callV C (ct_X12_simulate _ _ n (v2 + 1) s17) mt_X12_simulate vr_X12_simulate wd648 cls_X12 at_X12 rfl ⟨rfl, rfl, Nat.le_of_ble_eq_true rfl, Nat.le_of_ble_eq_true rfl⟩ rfl (by decide) dL_isLatest_70 (kS (fun v65 s64 => ?_))
                refine x_join (fun J => ∀ q70 : xS, WO X Qf WW q70 83 [] [] (J q70)) ?_ ?_
                · intro q70
                  refine x_iconst C (0) dL_isLatest_83 rfl ?_
                  exact x_zretQ C (hQ _ _) rfl (Or.inl rfl) dL_isLatest_84
                · intro J68 hJ69
                  refine x_if_lt C 83 rfl dL_isLatest_73 rfl (fun c71 => x_op c71 ?_) (fun c71 => x_on c71 ?_)
                  · refine x_pick [] rfl ?_
                    exact hJ69 s64
                  · refine x_aload_n C 3 dL_isLatest_76 rfl rfl ?_
                    refine x_callV C (ct_X12_failedShops _ _ n s64) mt_X12_failedShops vr_X12_failedShops wd760 cls_X12 at_X12 rfl ⟨rfl, rfl, Nat.le_of_ble_eq_true rfl, Nat.le_of_ble_eq_true rfl⟩ rfl (by decide) dL_isLatest_77 (kS (fun v73 s72 => ?_))
                    refine x_if_gt C 85 rfl dL_isLatest_80 rfl (fun c74 => x_op c74 ?_) (fun c74 => x_on c74 ?_)
                    · refine x_pick [3, 2] rfl ?_
                      exact hJ23 s72
                    · refine x_pick [] rfl ?_
                      exact hJ69 s72
          · refine x_pick [] rfl ?_
            exact hJ11 s17
  · refine x_iload_n C 0 dL_isLatest_20 rfl rfl ?_
    refine x_join (fun J => ∀ q81 : xS × Int, WO X Qf WW q81.1 37 [] [iV q81.2] (J q81)) ?_ ?_
    · intro q81
      exact x_bo (fun hb => x_zretQ C (hQ _ _) rfl hb dL_isLatest_37)
    · intro J79 hJ80
      refine x_join (fun J => ∀ q84 : xS, WO X Qf WW q84 36 [] [] (J q84)) ?_ ?_
      · intro q84
        refine x_iconst C (0) dL_isLatest_36 rfl ?_
        refine x_pick [] rfl ?_
        exact hJ80 (q84, 0)
      · intro J82 hJ83
        refine x_if_eq C 36 rfl dL_isLatest_21 rfl (fun c85 => x_op c85 ?_) (fun c85 => x_on c85 ?_)
        · refine x_pick [] rfl ?_
          exact hJ83 s5
        · refine x_aload_n C 3 dL_isLatest_24 rfl rfl ?_
          refine x_callV C (ct_X12_vitalStreet _ _ n s5) mt_X12_vitalStreet vr_X12_vitalStreet wd1516 cls_X12 at_X12 rfl ⟨rfl, rfl, Nat.le_of_ble_eq_true rfl, Nat.le_of_ble_eq_true rfl⟩ rfl (by decide) dL_isLatest_25 (kS (fun v87 s86 => ?_))
          refine x_iconst C (-1) dL_isLatest_28 rfl ?_
          refine x_icmp_ne C 36 rfl (zIl _ rfl) dL_isLatest_29 rfl (fun c88 => x_on c88 ?_) (fun c88 => x_op c88 ?_)
          · refine x_pick [] rfl ?_
            exact hJ83 s86
          · refine x_iconst C (1) dL_isLatest_32 rfl ?_
            refine x_goto C 37 dL_isLatest_33 rfl ?_
            refine x_pick [] rfl ?_
            exact hJ80 (s86, 1)
theorem ct_L_isLatest (l : Launch) (E : xE) (n : Nat) (σ : xS)   : xMet l E yL_isLatest cL_isLatest 5 (some .boolean) { frames := 8, cells := 0, slots := 0, locals := 185 } [.ref (xqa E.2.2 0)] WW WW σ (xrS (m_L_isLatest n σ)) := by
  refine xMet.of0 (by decide) (Nat.le_of_ble_eq_true rfl) rfl rfl (fun X hE C => ?_)
  subst hE
  exact xMap (fun q => (some (iV q.1), q.2)) (wk_L_isLatest C (fun _ _ => rfl) )
theorem mt_L_isLatest : xMth yL_isLatest cL_isLatest 5 (some .boolean) 1 := ⟨wd1515, wd48, ⟨by decide, by decide, rfl⟩⟩
theorem st_L_isLatest : Cond.static yL_isLatest ∈ GW := wd1514
