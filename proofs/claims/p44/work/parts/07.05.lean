def m_X7_readStatement (n : Nat) (k1 : Nat) (σ : xS) : Option xS :=
  (m_X10_keyword n σ).bind fun v1 => xwd v1 <| if v1 = -1 then (m_X7_fail 1 σ).bind fun s4 => some s4 else xck (zI v1) 24 <| xj (fun (q7 : xS) => (m_X7_readSemicolon n q7).bind fun s8 => some s8) fun J5 => if (zI (SWT.getD (zI v1).toNat 0)) = 1 then xbS (m_X7_readSetting n (σ 2 3) 10 40 σ) fun v11 s10 => xlet (xput s10 k1 0 v11) fun s12 => xlet (xput s12 2 3 1) fun s13 => J5 s13 else if (zI (SWT.getD (zI v1).toNat 0)) = 2 then xbS (m_X7_readSetting n (σ 2 4) 0 120 σ) fun v16 s15 => xlet (xput s15 k1 1 v16) fun s17 => xlet (xput s17 2 4 1) fun s18 => J5 s18 else if (zI (SWT.getD (zI v1).toNat 0)) = 3 then xbS (m_X7_readSetting n (σ 2 5) 1 4 σ) fun v21 s20 => xlet (xput s20 k1 2 v21) fun s22 => xlet (xput s22 2 5 1) fun s23 => J5 s23 else if (zI (SWT.getD (zI v1).toNat 0)) = 4 then xbS (m_X7_readSetting n (σ 2 6) 1 4 σ) fun v26 s25 => xlet (xput s25 k1 3 v26) fun s27 => xlet (xput s27 2 6 1) fun s28 => J5 s28 else if (zI (SWT.getD (zI v1).toNat 0)) = 5 then (m_X7_readDough n k1 σ).bind fun s30 => J5 s30 else if (zI (SWT.getD (zI v1).toNat 0)) = 6 then (m_X7_readOven n k1 σ).bind fun s32 => J5 s32 else if (zI (SWT.getD (zI v1).toNat 0)) = 7 then (m_X7_readShop n k1 σ).bind fun s34 => J5 s34 else if (zI (SWT.getD (zI v1).toNat 0)) = 8 then (m_X7_readStreet n k1 σ).bind fun s36 => J5 s36 else if (zI (SWT.getD (zI v1).toNat 0)) = 9 then (m_X7_readVan n k1 σ).bind fun s38 => J5 s38 else if (zI (SWT.getD (zI v1).toNat 0)) = 10 then (m_X7_readOrder n k1 σ).bind fun s40 => J5 s40 else (m_X7_fail 1 σ).bind fun s41 => J5 s41
set_option maxHeartbeats 4000000 in
set_option maxRecDepth 100000 in
theorem wk_X7_readStatement {X : xX} {Qf : xS → State → Prop} {n : Nat} {k1 : Nat} {σ : xS} (C : xCx X cX7_readStatement "BakeryNight$Parser" none { frames := 9, cells := 0, slots := 0, locals := 201 } 3) (hQ : ∀ τ, Qf τ = xQf X WW (none, τ)) (hk1 : isBk k1) : WO X Qf WW σ 0 [(0, .ref (xqa (xXE X).2.2 2)), (1, .ref (xqa (xXE X).2.2 k1))] [] (m_X7_readStatement n k1 σ) := by
  unfold m_X7_readStatement
  refine x_aload_n C 0 dX7_readStatement_0 rfl rfl ?_
  refine x_get (v := .ref (xqa (xXE X).2.2 3)) C 0 cls_X7 at_X7 (by decide) wd119 rfl (xV_r (rt_X7_scanner  _) rfl) dX7_readStatement_1 ?_
  refine x_callV C (ct_X10_keyword _ _ n σ) mt_X10_keyword vr_X10_keyword wd954 cls_X10 at_X10 rfl ⟨rfl, rfl, Nat.le_of_ble_eq_true rfl, Nat.le_of_ble_eq_true rfl⟩ rfl (by decide) dX7_readStatement_4 (kW (fun v1 => ?_))
  refine x_wd (fun hw2 => ?_)
  refine x_wsplit hw2 (fun c3 => x_op c3 ?_) (fun c3 => x_on c3 ?_)
  · refine x_astore_nN (L' := [(2, _), (0, _), (1, _)]) C dX7_readStatement_7 rfl (by decide) rfl ?_
    refine x_aload_nN C 0 dX7_readStatement_8 rfl rfl ?_
    refine x_ifnonnullN C  dX7_readStatement_9 ?_
    refine x_aload_n C 1 dX7_readStatement_12 rfl rfl ?_
    refine x_iconst C (1) dX7_readStatement_13 rfl ?_
    refine x_callV C (ct_X7_fail _ _ 1 σ) mt_X7_fail vr_X7_fail wd962 cls_X7 at_X7 rfl ⟨rfl, rfl, Nat.le_of_ble_eq_true rfl, Nat.le_of_ble_eq_true rfl⟩ rfl (by decide) dX7_readStatement_14 (kV (fun s4 => ?_))
    exact x_vretQ C (hQ _) rfl dX7_readStatement_17
  · refine x_astore_n (L' := [(2, _), (0, _), (1, _)]) C dX7_readStatement_7 rfl (by decide) rfl ?_
    refine x_aload_n C 0 dX7_readStatement_8 rfl rfl ?_
    refine x_ifnonnullR C 18 dX7_readStatement_9 rfl ?_
    refine x_gsSM C wd966 dX7_readStatement_18 ?_
    refine x_aload_n C 0 dX7_readStatement_21 rfl rfl ?_
    refine x_ordinal C (w_ne hw2 c3) wd968 (Nat.le_of_ble_eq_true rfl) (Nat.le_of_ble_eq_true rfl) (Nat.le_of_ble_eq_true rfl) dX7_readStatement_22 ?_
    refine x_aldSM C rfl dX7_readStatement_25 (fun _ => ?_)
    refine x_join (fun J => ∀ q7 : xS, WO X Qf WW q7 224 [(0, .ref (xqa (xXE X).2.2 2))] [] (J q7)) ?_ ?_
    · intro q7
      refine x_aload_n C 0 dX7_readStatement_224 rfl rfl ?_
      refine x_callV C (ct_X7_readSemicolon _ _ n q7) mt_X7_readSemicolon vr_X7_readSemicolon wd1086 cls_X7 at_X7 rfl ⟨rfl, rfl, Nat.le_of_ble_eq_true rfl, Nat.le_of_ble_eq_true rfl⟩ rfl (by decide) dX7_readStatement_225 (kV (fun s8 => ?_))
      exact x_vretQ C (hQ _) rfl dX7_readStatement_228
    · intro J5 hJ6
      by_cases c9 : (zI (SWT.getD (zI v1).toNat 0)) = 1
      · refine x_op c9 ?_
        refine x_tabIn C rfl 80 dX7_readStatement_26 (c := 1) c9 (by decide) (by decide) rfl rfl ?_
        refine x_aload_n C 2 dX7_readStatement_80 rfl rfl ?_
        refine x_aload_n C 1 dX7_readStatement_81 rfl rfl ?_
        refine x_aload_n C 1 dX7_readStatement_82 rfl rfl ?_
        refine x_get (v := iV (σ 2 3)) C 3 cls_X7 at_X7 (by decide) wd122 rfl rfl dX7_readStatement_83 ?_
        refine x_bipush C (10) dX7_readStatement_86 rfl ?_
        refine x_bipush C (40) dX7_readStatement_88 rfl ?_
        refine x_callV C (ct_X7_readSetting _ _ n (σ 2 3) 10 40 σ) mt_X7_readSetting vr_X7_readSetting wd974 cls_X7 at_X7 rfl ⟨rfl, rfl, Nat.le_of_ble_eq_true rfl, Nat.le_of_ble_eq_true rfl⟩ rfl (Nat.le_of_ble_eq_true rfl) dX7_readStatement_90 (kS (fun v11 s10 => ?_))
        refine x_put C 0 v11 cls_X1 (at_X1 hk1) (by decide) wd338 rfl rfl rfl rfl (xV_pI rfl) dX7_readStatement_93 ?_
        refine x_letS (fun s12 => ?_)
        refine x_aload_n C 1 dX7_readStatement_96 rfl rfl ?_
        refine x_iconst C (1) dX7_readStatement_97 rfl ?_
        refine x_put C 3 1 cls_X7 at_X7 (by decide) wd122 rfl rfl (xnb (Or.inr rfl)) (xfb (Or.inr rfl)) (xV_pI rfl) dX7_readStatement_98 ?_
        refine x_letS (fun s13 => ?_)
        refine x_goto C 224 dX7_readStatement_101 rfl ?_
        refine x_pick [1] rfl ?_
        exact hJ6 s13
      · refine x_on c9 ?_
        by_cases c14 : (zI (SWT.getD (zI v1).toNat 0)) = 2
        · refine x_op c14 ?_
          refine x_tabIn C rfl 104 dX7_readStatement_26 (c := 2) c14 (by decide) (by decide) rfl rfl ?_
          refine x_aload_n C 2 dX7_readStatement_104 rfl rfl ?_
          refine x_aload_n C 1 dX7_readStatement_105 rfl rfl ?_
          refine x_aload_n C 1 dX7_readStatement_106 rfl rfl ?_
          refine x_get (v := iV (σ 2 4)) C 4 cls_X7 at_X7 (by decide) wd123 rfl rfl dX7_readStatement_107 ?_
          refine x_iconst C (0) dX7_readStatement_110 rfl ?_
          refine x_bipush C (120) dX7_readStatement_111 rfl ?_
          refine x_callV C (ct_X7_readSetting _ _ n (σ 2 4) 0 120 σ) mt_X7_readSetting vr_X7_readSetting wd974 cls_X7 at_X7 rfl ⟨rfl, rfl, Nat.le_of_ble_eq_true rfl, Nat.le_of_ble_eq_true rfl⟩ rfl (Nat.le_of_ble_eq_true rfl) dX7_readStatement_113 (kS (fun v16 s15 => ?_))
          refine x_put C 1 v16 cls_X1 (at_X1 hk1) (by decide) wd341 rfl rfl rfl rfl (xV_pI rfl) dX7_readStatement_116 ?_
          refine x_letS (fun s17 => ?_)
          refine x_aload_n C 1 dX7_readStatement_119 rfl rfl ?_
          refine x_iconst C (1) dX7_readStatement_120 rfl ?_
          refine x_put C 4 1 cls_X7 at_X7 (by decide) wd123 rfl rfl (xnb (Or.inr rfl)) (xfb (Or.inr rfl)) (xV_pI rfl) dX7_readStatement_121 ?_
          refine x_letS (fun s18 => ?_)
          refine x_goto C 224 dX7_readStatement_124 rfl ?_
          refine x_pick [1] rfl ?_
          exact hJ6 s18
        · refine x_on c14 ?_
          by_cases c19 : (zI (SWT.getD (zI v1).toNat 0)) = 3
          · refine x_op c19 ?_
            refine x_tabIn C rfl 127 dX7_readStatement_26 (c := 3) c19 (by decide) (by decide) rfl rfl ?_
            refine x_aload_n C 2 dX7_readStatement_127 rfl rfl ?_
            refine x_aload_n C 1 dX7_readStatement_128 rfl rfl ?_
            refine x_aload_n C 1 dX7_readStatement_129 rfl rfl ?_
            refine x_get (v := iV (σ 2 5)) C 5 cls_X7 at_X7 (by decide) wd124 rfl rfl dX7_readStatement_130 ?_
            refine x_iconst C (1) dX7_readStatement_133 rfl ?_
            refine x_iconst C (4) dX7_readStatement_134 rfl ?_
            refine x_callV C (ct_X7_readSetting _ _ n (σ 2 5) 1 4 σ) mt_X7_readSetting vr_X7_readSetting wd974 cls_X7 at_X7 rfl ⟨rfl, rfl, Nat.le_of_ble_eq_true rfl, Nat.le_of_ble_eq_true rfl⟩ rfl (Nat.le_of_ble_eq_true rfl) dX7_readStatement_135 (kS (fun v21 s20 => ?_))
            refine x_put C 2 v21 cls_X1 (at_X1 hk1) (by decide) wd344 rfl rfl rfl rfl (xV_pI rfl) dX7_readStatement_138 ?_
            refine x_letS (fun s22 => ?_)
            refine x_aload_n C 1 dX7_readStatement_141 rfl rfl ?_
            refine x_iconst C (1) dX7_readStatement_142 rfl ?_
            refine x_put C 5 1 cls_X7 at_X7 (by decide) wd124 rfl rfl (xnb (Or.inr rfl)) (xfb (Or.inr rfl)) (xV_pI rfl) dX7_readStatement_143 ?_
            refine x_letS (fun s23 => ?_)
            refine x_goto C 224 dX7_readStatement_146 rfl ?_
            refine x_pick [1] rfl ?_
            exact hJ6 s23
          · refine x_on c19 ?_
            by_cases c24 : (zI (SWT.getD (zI v1).toNat 0)) = 4
            · refine x_op c24 ?_
              refine x_tabIn C rfl 149 dX7_readStatement_26 (c := 4) c24 (by decide) (by decide) rfl rfl ?_
              refine x_aload_n C 2 dX7_readStatement_149 rfl rfl ?_
              refine x_aload_n C 1 dX7_readStatement_150 rfl rfl ?_
              refine x_aload_n C 1 dX7_readStatement_151 rfl rfl ?_
              refine x_get (v := iV (σ 2 6)) C 6 cls_X7 at_X7 (by decide) wd125 rfl rfl dX7_readStatement_152 ?_
              refine x_iconst C (1) dX7_readStatement_155 rfl ?_
              refine x_iconst C (4) dX7_readStatement_156 rfl ?_
              refine x_callV C (ct_X7_readSetting _ _ n (σ 2 6) 1 4 σ) mt_X7_readSetting vr_X7_readSetting wd974 cls_X7 at_X7 rfl ⟨rfl, rfl, Nat.le_of_ble_eq_true rfl, Nat.le_of_ble_eq_true rfl⟩ rfl (Nat.le_of_ble_eq_true rfl) dX7_readStatement_157 (kS (fun v26 s25 => ?_))
              refine x_put C 3 v26 cls_X1 (at_X1 hk1) (by decide) wd347 rfl rfl rfl rfl (xV_pI rfl) dX7_readStatement_160 ?_
              refine x_letS (fun s27 => ?_)
              refine x_aload_n C 1 dX7_readStatement_163 rfl rfl ?_
              refine x_iconst C (1) dX7_readStatement_164 rfl ?_
              refine x_put C 6 1 cls_X7 at_X7 (by decide) wd125 rfl rfl (xnb (Or.inr rfl)) (xfb (Or.inr rfl)) (xV_pI rfl) dX7_readStatement_165 ?_
              refine x_letS (fun s28 => ?_)
              refine x_goto C 224 dX7_readStatement_168 rfl ?_
              refine x_pick [1] rfl ?_
              exact hJ6 s28
            · refine x_on c24 ?_
              by_cases c29 : (zI (SWT.getD (zI v1).toNat 0)) = 5
              · refine x_op c29 ?_
                refine x_tabIn C rfl 171 dX7_readStatement_26 (c := 5) c29 (by decide) (by decide) rfl rfl ?_
                refine x_aload_n C 1 dX7_readStatement_171 rfl rfl ?_
                refine x_aload_n C 2 dX7_readStatement_172 rfl rfl ?_
                refine x_callV C (ct_X7_readDough _ _ n k1 σ hk1) mt_X7_readDough vr_X7_readDough wd995 cls_X7 at_X7 rfl ⟨rfl, rfl, Nat.le_of_ble_eq_true rfl, Nat.le_of_ble_eq_true rfl⟩ rfl (by decide) dX7_readStatement_173 (kV (fun s30 => ?_))
                refine x_goto C 224 dX7_readStatement_176 rfl ?_
                refine x_pick [1] rfl ?_
                exact hJ6 s30
              · refine x_on c29 ?_
                by_cases c31 : (zI (SWT.getD (zI v1).toNat 0)) = 6
                · refine x_op c31 ?_
                  refine x_tabIn C rfl 179 dX7_readStatement_26 (c := 6) c31 (by decide) (by decide) rfl rfl ?_
                  refine x_aload_n C 1 dX7_readStatement_179 rfl rfl ?_
                  refine x_aload_n C 2 dX7_readStatement_180 rfl rfl ?_
                  refine x_callV C (ct_X7_readOven _ _ n k1 σ hk1) mt_X7_readOven vr_X7_readOven wd1046 cls_X7 at_X7 rfl ⟨rfl, rfl, Nat.le_of_ble_eq_true rfl, Nat.le_of_ble_eq_true rfl⟩ rfl (by decide) dX7_readStatement_181 (kV (fun s32 => ?_))
                  refine x_goto C 224 dX7_readStatement_184 rfl ?_
                  refine x_pick [1] rfl ?_
                  exact hJ6 s32
                · refine x_on c31 ?_
                  by_cases c33 : (zI (SWT.getD (zI v1).toNat 0)) = 7
                  · refine x_op c33 ?_
                    refine x_tabIn C rfl 187 dX7_readStatement_26 (c := 7) c33 (by decide) (by decide) rfl rfl ?_
                    refine x_aload_n C 1 dX7_readStatement_187 rfl rfl ?_
                    refine x_aload_n C 2 dX7_readStatement_188 rfl rfl ?_
                    refine x_callV C (ct_X7_readShop _ _ n k1 σ hk1) mt_X7_readShop vr_X7_readShop wd1054 cls_X7 at_X7 rfl ⟨rfl, rfl, Nat.le_of_ble_eq_true rfl, Nat.le_of_ble_eq_true rfl⟩ rfl (by decide) dX7_readStatement_189 (kV (fun s34 => ?_))
                    refine x_goto C 224 dX7_readStatement_192 rfl ?_
                    refine x_pick [1] rfl ?_
                    exact hJ6 s34
                  · refine x_on c33 ?_
                    by_cases c35 : (zI (SWT.getD (zI v1).toNat 0)) = 8
                    · refine x_op c35 ?_
                      refine x_tabIn C rfl 195 dX7_readStatement_26 (c := 8) c35 (by decide) (by decide) rfl rfl ?_
                      refine x_aload_n C 1 dX7_readStatement_195 rfl rfl ?_
                      refine x_aload_n C 2 dX7_readStatement_196 rfl rfl ?_
                      refine x_callV C (ct_X7_readStreet _ _ n k1 σ hk1) mt_X7_readStreet vr_X7_readStreet wd1058 cls_X7 at_X7 rfl ⟨rfl, rfl, Nat.le_of_ble_eq_true rfl, Nat.le_of_ble_eq_true rfl⟩ rfl (by decide) dX7_readStatement_197 (kV (fun s36 => ?_))
                      refine x_goto C 224 dX7_readStatement_200 rfl ?_
                      refine x_pick [1] rfl ?_
                      exact hJ6 s36
                    · refine x_on c35 ?_
                      by_cases c37 : (zI (SWT.getD (zI v1).toNat 0)) = 9
                      · refine x_op c37 ?_
                        refine x_tabIn C rfl 203 dX7_readStatement_26 (c := 9) c37 (by decide) (by decide) rfl rfl ?_
                        refine x_aload_n C 1 dX7_readStatement_203 rfl rfl ?_
                        refine x_aload_n C 2 dX7_readStatement_204 rfl rfl ?_
                        refine x_callV C (ct_X7_readVan _ _ n k1 σ hk1) mt_X7_readVan vr_X7_readVan wd1068 cls_X7 at_X7 rfl ⟨rfl, rfl, Nat.le_of_ble_eq_true rfl, Nat.le_of_ble_eq_true rfl⟩ rfl (by decide) dX7_readStatement_205 (kV (fun s38 => ?_))
                        refine x_goto C 224 dX7_readStatement_208 rfl ?_
                        refine x_pick [1] rfl ?_
                        exact hJ6 s38
                      · refine x_on c37 ?_
                        by_cases c39 : (zI (SWT.getD (zI v1).toNat 0)) = 10
                        · refine x_op c39 ?_
                          refine x_tabIn C rfl 211 dX7_readStatement_26 (c := 10) c39 (by decide) (by decide) rfl rfl ?_
                          refine x_aload_n C 1 dX7_readStatement_211 rfl rfl ?_
                          refine x_aload_n C 2 dX7_readStatement_212 rfl rfl ?_
                          refine x_callV C (ct_X7_readOrder _ _ n k1 σ hk1) mt_X7_readOrder vr_X7_readOrder wd1072 cls_X7 at_X7 rfl ⟨rfl, rfl, Nat.le_of_ble_eq_true rfl, Nat.le_of_ble_eq_true rfl⟩ rfl (by decide) dX7_readStatement_213 (kV (fun s40 => ?_))
                          refine x_goto C 224 dX7_readStatement_216 rfl ?_
                          refine x_pick [1] rfl ?_
                          exact hJ6 s40
                        · refine x_on c39 ?_
                          refine x_tabOut C rfl 219 dX7_readStatement_26 (by omega) rfl ?_
                          refine x_aload_n C 1 dX7_readStatement_219 rfl rfl ?_
                          refine x_iconst C (1) dX7_readStatement_220 rfl ?_
                          refine x_callV C (ct_X7_fail _ _ 1 σ) mt_X7_fail vr_X7_fail wd962 cls_X7 at_X7 rfl ⟨rfl, rfl, Nat.le_of_ble_eq_true rfl, Nat.le_of_ble_eq_true rfl⟩ rfl (by decide) dX7_readStatement_221 (kV (fun s41 => ?_))
                          refine x_pick [1] rfl ?_
                          exact hJ6 s41
theorem ct_X7_readStatement (l : Launch) (E : xE) (n : Nat) (k1 : Nat) (σ : xS) (hk1 : isBk k1)  : xMet l E yX7_readStatement cX7_readStatement 3 none { frames := 9, cells := 0, slots := 0, locals := 201 } [.ref (xqa E.2.2 2), .ref (xqa E.2.2 k1)] WW WW σ (xrV (m_X7_readStatement n k1 σ)) := by
  refine xMet.of0 (by decide) (Nat.le_of_ble_eq_true rfl) rfl rfl (fun X hE C => ?_)
  subst hE
  exact xMap (fun q => (none, q)) (wk_X7_readStatement C (fun _ => rfl) hk1)
theorem mt_X7_readStatement : xMth yX7_readStatement cX7_readStatement 3 none 1 := ⟨wd953, wd50, ⟨by decide, by decide, rfl⟩⟩
theorem vr_X7_readStatement : xVir yX7_readStatement := ⟨wd952, wd27⟩
