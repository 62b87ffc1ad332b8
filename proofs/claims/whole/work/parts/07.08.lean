def m_X13_needs (n : Nat) (k1 : Nat) (σ : xS) : Option xS :=
  xj (fun (q5 : xS) => some q5) fun J3 => if (m_X13_fine σ) = 0 then J3 σ else xbS (m_X13_takes n k1 σ) fun v8 s7 => if (zI v8) = 0 then (m_X13_faulty 1 (s7 184 11) s7).bind fun s10 => J3 s10 else J3 s7
set_option maxHeartbeats 4000000 in
set_option maxRecDepth 100000 in
theorem wk_X13_needs {X : xX} {Qf : xS → State → Prop} {n : Nat} {k1 : Nat} {σ : xS} (C : xCx X cX13_needs "BakeryNightModel" none { frames := 7, cells := 0, slots := 0, locals := 149 } 2) (hQ : ∀ τ, Qf τ = xQf X WW (none, τ)) (hk1 : k1 < 24) : WO X Qf WW σ 0 [(0, .ref (xqa (xXE X).2.2 184)), (1, cR X 1 k1)] [] (m_X13_needs n k1 σ) := by
  unfold m_X13_needs
  refine x_aload_n C 0 dX13_needs_0 rfl rfl ?_
  refine x_callV C (ct_X13_fine _ _ σ) mt_X13_fine vr_X13_fine wd1700 cls_X13 at_X13 rfl ⟨rfl, rfl, Nat.le_of_ble_eq_true rfl, Nat.le_of_ble_eq_true rfl⟩ rfl (by decide) dX13_needs_1 (kP ?_)
  refine x_join (fun J => ∀ q5 : xS, WO X Qf WW q5 24 [] [] (J q5)) ?_ ?_
  · intro q5
    exact x_vretQ C (hQ _) rfl dX13_needs_24
  · intro J3 hJ4
    refine x_if_eq C 24 (zI_bo (bo_X13_fine _)) dX13_needs_4 rfl (fun c6 => x_op c6 ?_) (fun c6 => x_on c6 ?_)
    · refine x_pick [] rfl ?_
      exact hJ4 σ
    · refine x_aload_n C 0 dX13_needs_7 rfl rfl ?_
      refine x_aload_n C 1 dX13_needs_8 rfl rfl ?_
      refine x_callV C (ct_X13_takes _ _ n k1 σ hk1) mt_X13_takes vr_X13_takes wd1815 cls_X13 at_X13 rfl ⟨rfl, rfl, Nat.le_of_ble_eq_true rfl, Nat.le_of_ble_eq_true rfl⟩ rfl (by decide) dX13_needs_9 (kS (fun v8 s7 => ?_))
      refine x_if_ne C 24 rfl dX13_needs_12 rfl (fun c9 => x_on c9 ?_) (fun c9 => x_op c9 ?_)
      · refine x_pick [] rfl ?_
        exact hJ4 s7
      · refine x_aload_n C 0 dX13_needs_15 rfl rfl ?_
        refine x_iconst C (1) dX13_needs_16 rfl ?_
        refine x_aload_n C 0 dX13_needs_17 rfl rfl ?_
        refine x_get (v := iV (s7 184 11)) C 11 cls_X13 at_X13 (by decide) wd1513 rfl rfl dX13_needs_18 ?_
        refine x_callV C (ct_X13_faulty _ _ 1 (s7 184 11) s7) mt_X13_faulty vr_X13_faulty wd1750 cls_X13 at_X13 rfl ⟨rfl, rfl, Nat.le_of_ble_eq_true rfl, Nat.le_of_ble_eq_true rfl⟩ rfl (by decide) dX13_needs_21 (kV (fun s10 => ?_))
        refine x_pick [] rfl ?_
        exact hJ4 s10
theorem ct_X13_needs (l : Launch) (E : xE) (n : Nat) (k1 : Nat) (σ : xS) (hk1 : k1 < 24)  : xMet l E yX13_needs cX13_needs 2 none { frames := 7, cells := 0, slots := 0, locals := 149 } [.ref (xqa E.2.2 184), cRE E 1 k1] WW WW σ (xrV (m_X13_needs n k1 σ)) := by
  refine xMet.of0 (by decide) (Nat.le_of_ble_eq_true rfl) rfl rfl (fun X hE C => ?_)
  subst hE
  exact xMap (fun q => (none, q)) (wk_X13_needs C (fun _ => rfl) hk1)
theorem mt_X13_needs : xMth yX13_needs cX13_needs 2 none 1 := ⟨wd1814, wd164, ⟨by decide, by decide, rfl⟩⟩
theorem vr_X13_needs : xVir yX13_needs := ⟨wd1813, wd74⟩
def m_X13_isKeyword (n : Nat) (σ : xS) : Option Int :=
  (m_X13_isWord n 0 σ).bind fun v1 => xj (fun (q5 : Unit) => some 1) fun J3 => if (zI v1) = 0 then (m_X13_isWord n 1 σ).bind fun v7 => if (zI v7) = 0 then (m_X13_isWord n 2 σ).bind fun v9 => if (zI v9) = 0 then (m_X13_isWord n 3 σ).bind fun v11 => if (zI v11) = 0 then (m_X13_isWord n 4 σ).bind fun v13 => if (zI v13) = 0 then (m_X13_isWord n 5 σ).bind fun v15 => if (zI v15) = 0 then (m_X13_isWord n 6 σ).bind fun v17 => if (zI v17) = 0 then (m_X13_isWord n 7 σ).bind fun v19 => if (zI v19) = 0 then (m_X13_isWord n 8 σ).bind fun v21 => if (zI v21) = 0 then (m_X13_isWord n 9 σ).bind fun v23 => xj (fun (q27 : Unit) => some 1) fun J25 => if (zI v23) = 0 then (m_X13_isWord n 10 σ).bind fun v29 => if (zI v29) = 0 then (m_X13_isWord n 11 σ).bind fun v31 => if (zI v31) = 0 then (m_X13_isWord n 12 σ).bind fun v33 => if (zI v33) = 0 then (m_X13_isWord n 13 σ).bind fun v35 => if (zI v35) = 0 then (m_X13_isWord n 14 σ).bind fun v37 => if (zI v37) = 0 then (m_X13_isWord n 15 σ).bind fun v39 => if (zI v39) = 0 then (m_X13_isWord n 16 σ).bind fun v41 => if (zI v41) = 0 then (m_X13_isWord n 17 σ).bind fun v43 => if (zI v43) = 0 then (m_X13_isWord n 18 σ).bind fun v45 => xj (fun (q50 : Int) => xbo q50 (some q50)) fun J48 => xj (fun (q53 : Unit) => J48 1) fun J51 => if (zI v45) = 0 then (m_X13_isWord n 19 σ).bind fun v55 => if (zI v55) = 0 then (m_X13_isWord n 20 σ).bind fun v57 => if (zI v57) = 0 then (m_X13_isWord n 21 σ).bind fun v59 => if (zI v59) = 0 then (m_X13_isWord n 22 σ).bind fun v61 => if (zI v61) = 0 then (m_X13_isWord n 23 σ).bind fun v63 => if (zI v63) = 0 then J48 0 else J51 () else J51 () else J51 () else J51 () else J51 () else J51 () else J25 () else J25 () else J25 () else J25 () else J25 () else J25 () else J25 () else J25 () else J25 () else J3 () else J3 () else J3 () else J3 () else J3 () else J3 () else J3 () else J3 () else J3 ()
set_option maxHeartbeats 4000000 in
set_option maxRecDepth 100000 in
theorem wk_X13_isKeyword {X : xX} {Qf : Int → State → Prop} {n : Nat} {σ : xS} (C : xCx X cX13_isKeyword "BakeryNightModel" (some .boolean) { frames := 6, cells := 0, slots := 0, locals := 128 } 1) (hQ : ∀ v, Qf v = xQf X WW (some (iV v), σ))  : WO X Qf WW σ 0 [(0, .ref (xqa (xXE X).2.2 184))] [] (m_X13_isKeyword n σ) := by
  unfold m_X13_isKeyword
  refine x_aload_n C 0 dX13_isKeyword_0 rfl rfl ?_
  refine x_ldcS C (i := 0) sr0 dX13_isKeyword_1 ?_
  refine x_callV C (ct_X13_isWord _ _ n 0 σ (by decide)) mt_X13_isWord vr_X13_isWord wd1713 cls_X13 at_X13 rfl ⟨rfl, rfl, Nat.le_of_ble_eq_true rfl, Nat.le_of_ble_eq_true rfl⟩ rfl (by decide) dX13_isKeyword_3 (kI (fun v1 => ?_))
  refine x_join (fun J => ∀ q5 : Unit, WO X Qf WW σ 81 [] [] (J q5)) ?_ ?_
  · intro q5
    refine x_iconst C (1) dX13_isKeyword_81 rfl ?_
    exact x_zretQ C (hQ _) rfl (Or.inr rfl) dX13_isKeyword_82
  · intro J3 hJ4
    refine x_if_ne C 81 rfl dX13_isKeyword_6 rfl (fun c6 => x_on c6 ?_) (fun c6 => x_op c6 ?_)
    · refine x_pick [] rfl ?_
      exact hJ4 ()
    · refine x_aload_n C 0 dX13_isKeyword_9 rfl rfl ?_
      refine x_ldcS C (i := 1) sr1 dX13_isKeyword_10 ?_
      refine x_callV C (ct_X13_isWord _ _ n 1 σ (by decide)) mt_X13_isWord vr_X13_isWord wd1713 cls_X13 at_X13 rfl ⟨rfl, rfl, Nat.le_of_ble_eq_true rfl, Nat.le_of_ble_eq_true rfl⟩ rfl (by decide) dX13_isKeyword_12 (kI (fun v7 => ?_))
      refine x_if_ne C 81 rfl dX13_isKeyword_15 rfl (fun c8 => x_on c8 ?_) (fun c8 => x_op c8 ?_)
      · refine x_pick [] rfl ?_
        exact hJ4 ()
      · refine x_aload_n C 0 dX13_isKeyword_18 rfl rfl ?_
        refine x_ldcS C (i := 2) sr2 dX13_isKeyword_19 ?_
        refine x_callV C (ct_X13_isWord _ _ n 2 σ (by decide)) mt_X13_isWord vr_X13_isWord wd1713 cls_X13 at_X13 rfl ⟨rfl, rfl, Nat.le_of_ble_eq_true rfl, Nat.le_of_ble_eq_true rfl⟩ rfl (by decide) dX13_isKeyword_21 (kI (fun v9 => ?_))
        refine x_if_ne C 81 rfl dX13_isKeyword_24 rfl (fun c10 => x_on c10 ?_) (fun c10 => x_op c10 ?_)
        · refine x_pick [] rfl ?_
          exact hJ4 ()
        · refine x_aload_n C 0 dX13_isKeyword_27 rfl rfl ?_
          refine x_ldcS C (i := 3) sr3 dX13_isKeyword_28 ?_
          refine x_callV C (ct_X13_isWord _ _ n 3 σ (by decide)) mt_X13_isWord vr_X13_isWord wd1713 cls_X13 at_X13 rfl ⟨rfl, rfl, Nat.le_of_ble_eq_true rfl, Nat.le_of_ble_eq_true rfl⟩ rfl (by decide) dX13_isKeyword_30 (kI (fun v11 => ?_))
          refine x_if_ne C 81 rfl dX13_isKeyword_33 rfl (fun c12 => x_on c12 ?_) (fun c12 => x_op c12 ?_)
          · refine x_pick [] rfl ?_
            exact hJ4 ()
          · refine x_aload_n C 0 dX13_isKeyword_36 rfl rfl ?_
            refine x_ldcS C (i := 4) sr4 dX13_isKeyword_37 ?_
            refine x_callV C (ct_X13_isWord _ _ n 4 σ (by decide)) mt_X13_isWord vr_X13_isWord wd1713 cls_X13 at_X13 rfl ⟨rfl, rfl, Nat.le_of_ble_eq_true rfl, Nat.le_of_ble_eq_true rfl⟩ rfl (by decide) dX13_isKeyword_39 (kI (fun v13 => ?_))
            refine x_if_ne C 81 rfl dX13_isKeyword_42 rfl (fun c14 => x_on c14 ?_) (fun c14 => x_op c14 ?_)
            · refine x_pick [] rfl ?_
              exact hJ4 ()
            · refine x_aload_n C 0 dX13_isKeyword_45 rfl rfl ?_
              refine x_ldcS C (i := 5) sr5 dX13_isKeyword_46 ?_
              refine x_callV C (ct_X13_isWord _ _ n 5 σ (by decide)) mt_X13_isWord vr_X13_isWord wd1713 cls_X13 at_X13 rfl ⟨rfl, rfl, Nat.le_of_ble_eq_true rfl, Nat.le_of_ble_eq_true rfl⟩ rfl (by decide) dX13_isKeyword_48 (kI (fun v15 => ?_))
              refine x_if_ne C 81 rfl dX13_isKeyword_51 rfl (fun c16 => x_on c16 ?_) (fun c16 => x_op c16 ?_)
              · refine x_pick [] rfl ?_
                exact hJ4 ()
              · refine x_aload_n C 0 dX13_isKeyword_54 rfl rfl ?_
                refine x_ldcS C (i := 6) sr6 dX13_isKeyword_55 ?_
                refine x_callV C (ct_X13_isWord _ _ n 6 σ (by decide)) mt_X13_isWord vr_X13_isWord wd1713 cls_X13 at_X13 rfl ⟨rfl, rfl, Nat.le_of_ble_eq_true rfl, Nat.le_of_ble_eq_true rfl⟩ rfl (by decide) dX13_isKeyword_57 (kI (fun v17 => ?_))
                refine x_if_ne C 81 rfl dX13_isKeyword_60 rfl (fun c18 => x_on c18 ?_) (fun c18 => x_op c18 ?_)
                · refine x_pick [] rfl ?_
                  exact hJ4 ()
                · refine x_aload_n C 0 dX13_isKeyword_63 rfl rfl ?_
                  refine x_ldcS C (i := 7) sr7 dX13_isKeyword_64 ?_
                  refine x_callV C (ct_X13_isWord _ _ n 7 σ (by decide)) mt_X13_isWord vr_X13_isWord wd1713 cls_X13 at_X13 rfl ⟨rfl, rfl, Nat.le_of_ble_eq_true rfl, Nat.le_of_ble_eq_true rfl⟩ rfl (by decide) dX13_isKeyword_66 (kI (fun v19 => ?_))
                  refine x_if_ne C 81 rfl dX13_isKeyword_69 rfl (fun c20 => x_on c20 ?_) (fun c20 => x_op c20 ?_)
                  · refine x_pick [] rfl ?_
                    exact hJ4 ()
                  · refine x_aload_n C 0 dX13_isKeyword_72 rfl rfl ?_
                    refine x_ldcS C (i := 8) sr8 dX13_isKeyword_73 ?_
                    refine x_callV C (ct_X13_isWord _ _ n 8 σ (by decide)) mt_X13_isWord vr_X13_isWord wd1713 cls_X13 at_X13 rfl ⟨rfl, rfl, Nat.le_of_ble_eq_true rfl, Nat.le_of_ble_eq_true rfl⟩ rfl (by decide) dX13_isKeyword_75 (kI (fun v21 => ?_))
                    refine x_if_eq C 83 rfl dX13_isKeyword_78 rfl (fun c22 => x_op c22 ?_) (fun c22 => x_on c22 ?_)
                    · refine x_aload_n C 0 dX13_isKeyword_83 rfl rfl ?_
                      refine x_ldcS C (i := 9) sr9 dX13_isKeyword_84 ?_
                      refine x_callV C (ct_X13_isWord _ _ n 9 σ (by decide)) mt_X13_isWord vr_X13_isWord wd1713 cls_X13 at_X13 rfl ⟨rfl, rfl, Nat.le_of_ble_eq_true rfl, Nat.le_of_ble_eq_true rfl⟩ rfl (by decide) dX13_isKeyword_86 (kI (fun v23 => ?_))
                      refine x_join (fun J => ∀ q27 : Unit, WO X Qf WW σ 164 [] [] (J q27)) ?_ ?_
                      · intro q27
                        refine x_iconst C (1) dX13_isKeyword_164 rfl ?_
                        exact x_zretQ C (hQ _) rfl (Or.inr rfl) dX13_isKeyword_165
                      · intro J25 hJ26
                        refine x_if_ne C 164 rfl dX13_isKeyword_89 rfl (fun c28 => x_on c28 ?_) (fun c28 => x_op c28 ?_)
                        · refine x_pick [] rfl ?_
                          exact hJ26 ()
                        · refine x_aload_n C 0 dX13_isKeyword_92 rfl rfl ?_
                          refine x_ldcS C (i := 10) sr10 dX13_isKeyword_93 ?_
                          refine x_callV C (ct_X13_isWord _ _ n 10 σ (by decide)) mt_X13_isWord vr_X13_isWord wd1713 cls_X13 at_X13 rfl ⟨rfl, rfl, Nat.le_of_ble_eq_true rfl, Nat.le_of_ble_eq_true rfl⟩ rfl (by decide) dX13_isKeyword_95 (kI (fun v29 => ?_))
                          refine x_if_ne C 164 rfl dX13_isKeyword_98 rfl (fun c30 => x_on c30 ?_) (fun c30 => x_op c30 ?_)
                          · refine x_pick [] rfl ?_
                            exact hJ26 ()
                          · refine x_aload_n C 0 dX13_isKeyword_101 rfl rfl ?_
                            refine x_ldcS C (i := 11) sr11 dX13_isKeyword_102 ?_
                            refine x_callV C (ct_X13_isWord _ _ n 11 σ (by decide)) mt_X13_isWord vr_X13_isWord wd1713 cls_X13 at_X13 rfl ⟨rfl, rfl, Nat.le_of_ble_eq_true rfl, Nat.le_of_ble_eq_true rfl⟩ rfl (by decide) dX13_isKeyword_104 (kI (fun v31 => ?_))
                            refine x_if_ne C 164 rfl dX13_isKeyword_107 rfl (fun c32 => x_on c32 ?_) (fun c32 => x_op c32 ?_)
                            · refine x_pick [] rfl ?_
                              exact hJ26 ()
                            · refine x_aload_n C 0 dX13_isKeyword_110 rfl rfl ?_
                              refine x_ldcS C (i := 12) sr12 dX13_isKeyword_111 ?_
                              refine x_callV C (ct_X13_isWord _ _ n 12 σ (by decide)) mt_X13_isWord vr_X13_isWord wd1713 cls_X13 at_X13 rfl ⟨rfl, rfl, Nat.le_of_ble_eq_true rfl, Nat.le_of_ble_eq_true rfl⟩ rfl (by decide) dX13_isKeyword_113 (kI (fun v33 => ?_))
                              refine x_if_ne C 164 rfl dX13_isKeyword_116 rfl (fun c34 => x_on c34 ?_) (fun c34 => x_op c34 ?_)
                              · refine x_pick [] rfl ?_
                                exact hJ26 ()
                              · refine x_aload_n C 0 dX13_isKeyword_119 rfl rfl ?_
                                refine x_ldcS C (i := 13) sr13 dX13_isKeyword_120 ?_
                                refine x_callV C (ct_X13_isWord _ _ n 13 σ (by decide)) mt_X13_isWord vr_X13_isWord wd1713 cls_X13 at_X13 rfl ⟨rfl, rfl, Nat.le_of_ble_eq_true rfl, Nat.le_of_ble_eq_true rfl⟩ rfl (by decide) dX13_isKeyword_122 (kI (fun v35 => ?_))
                                refine x_if_ne C 164 rfl dX13_isKeyword_125 rfl (fun c36 => x_on c36 ?_) (fun c36 => x_op c36 ?_)
                                · refine x_pick [] rfl ?_
                                  exact hJ26 ()
                                · refine x_aload_n C 0 dX13_isKeyword_128 rfl rfl ?_
                                  refine x_ldcS C (i := 14) sr14 dX13_isKeyword_129 ?_
                                  refine x_callV C (ct_X13_isWord _ _ n 14 σ (by decide)) mt_X13_isWord vr_X13_isWord wd1713 cls_X13 at_X13 rfl ⟨rfl, rfl, Nat.le_of_ble_eq_true rfl, Nat.le_of_ble_eq_true rfl⟩ rfl (by decide) dX13_isKeyword_131 (kI (fun v37 => ?_))
                                  refine x_if_ne C 164 rfl dX13_isKeyword_134 rfl (fun c38 => x_on c38 ?_) (fun c38 => x_op c38 ?_)
                                  · refine x_pick [] rfl ?_
                                    exact hJ26 ()
                                  · refine x_aload_n C 0 dX13_isKeyword_137 rfl rfl ?_
                                    refine x_ldcS C (i := 15) sr15 dX13_isKeyword_138 ?_
                                    refine x_callV C (ct_X13_isWord _ _ n 15 σ (by decide)) mt_X13_isWord vr_X13_isWord wd1713 cls_X13 at_X13 rfl ⟨rfl, rfl, Nat.le_of_ble_eq_true rfl, Nat.le_of_ble_eq_true rfl⟩ rfl (by decide) dX13_isKeyword_140 (kI (fun v39 => ?_))
                                    refine x_if_ne C 164 rfl dX13_isKeyword_143 rfl (fun c40 => x_on c40 ?_) (fun c40 => x_op c40 ?_)
                                    · refine x_pick [] rfl ?_
                                      exact hJ26 ()
                                    · refine x_aload_n C 0 dX13_isKeyword_146 rfl rfl ?_
                                      refine x_ldcS C (i := 16) sr16 dX13_isKeyword_147 ?_
                                      refine x_callV C (ct_X13_isWord _ _ n 16 σ (by decide)) mt_X13_isWord vr_X13_isWord wd1713 cls_X13 at_X13 rfl ⟨rfl, rfl, Nat.le_of_ble_eq_true rfl, Nat.le_of_ble_eq_true rfl⟩ rfl (by decide) dX13_isKeyword_149 (kI (fun v41 => ?_))
                                      refine x_if_ne C 164 rfl dX13_isKeyword_152 rfl (fun c42 => x_on c42 ?_) (fun c42 => x_op c42 ?_)
                                      · refine x_pick [] rfl ?_
                                        exact hJ26 ()
                                      · refine x_aload_n C 0 dX13_isKeyword_155 rfl rfl ?_
                                        refine x_ldcS C (i := 17) sr17 dX13_isKeyword_156 ?_
                                        refine x_callV C (ct_X13_isWord _ _ n 17 σ (by decide)) mt_X13_isWord vr_X13_isWord wd1713 cls_X13 at_X13 rfl ⟨rfl, rfl, Nat.le_of_ble_eq_true rfl, Nat.le_of_ble_eq_true rfl⟩ rfl (by decide) dX13_isKeyword_158 (kI (fun v43 => ?_))
                                        refine x_if_eq C 166 rfl dX13_isKeyword_161 rfl (fun c44 => x_op c44 ?_) (fun c44 => x_on c44 ?_)
                                        · refine x_aload_n C 0 dX13_isKeyword_166 rfl rfl ?_
                                          refine x_ldcS C (i := 18) sr18 dX13_isKeyword_167 ?_
                                          refine x_callV C (ct_X13_isWord _ _ n 18 σ (by decide)) mt_X13_isWord vr_X13_isWord wd1713 cls_X13 at_X13 rfl ⟨rfl, rfl, Nat.le_of_ble_eq_true rfl, Nat.le_of_ble_eq_true rfl⟩ rfl (by decide) dX13_isKeyword_169 (kI (fun v45 => ?_))
                                          refine x_join (fun J => ∀ q50 : Int, WO X Qf WW σ 225 [] [iV q50] (J q50)) ?_ ?_
                                          · intro q50
                                            exact x_bo (fun hb => x_zretQ C (hQ _) rfl hb dX13_isKeyword_225)
                                          · intro J48 hJ49
                                            refine x_join (fun J => ∀ q53 : Unit, WO X Qf WW σ 220 [] [] (J q53)) ?_ ?_
                                            · intro q53
                                              refine x_iconst C (1) dX13_isKeyword_220 rfl ?_
                                              refine x_goto C 225 dX13_isKeyword_221 rfl ?_
                                              refine x_pick [] rfl ?_
                                              exact hJ49 1
                                            · intro J51 hJ52
                                              refine x_if_ne C 220 rfl dX13_isKeyword_172 rfl (fun c54 => x_on c54 ?_) (fun c54 => x_op c54 ?_)
                                              · refine x_pick [] rfl ?_
                                                exact hJ52 ()
                                              · refine x_aload_n C 0 dX13_isKeyword_175 rfl rfl ?_
                                                refine x_ldcS C (i := 19) sr19 dX13_isKeyword_176 ?_
                                                refine x_callV C (ct_X13_isWord _ _ n 19 σ (by decide)) mt_X13_isWord vr_X13_isWord wd1713 cls_X13 at_X13 rfl ⟨rfl, rfl, Nat.le_of_ble_eq_true rfl, Nat.le_of_ble_eq_true rfl⟩ rfl (by decide) dX13_isKeyword_178 (kI (fun v55 => ?_))
                                                refine x_if_ne C 220 rfl dX13_isKeyword_181 rfl (fun c56 => x_on c56 ?_) (fun c56 => x_op c56 ?_)
                                                · refine x_pick [] rfl ?_
                                                  exact hJ52 ()
                                                · refine x_aload_n C 0 dX13_isKeyword_184 rfl rfl ?_
                                                  refine x_ldcS C (i := 20) sr20 dX13_isKeyword_185 ?_
                                                  refine x_callV C (ct_X13_isWord _ _ n 20 σ (by decide)) mt_X13_isWord vr_X13_isWord wd1713 cls_X13 at_X13 rfl ⟨rfl, rfl, Nat.le_of_ble_eq_true rfl, Nat.le_of_ble_eq_true rfl⟩ rfl (by decide) dX13_isKeyword_187 (kI (fun v57 => ?_))
                                                  refine x_if_ne C 220 rfl dX13_isKeyword_190 rfl (fun c58 => x_on c58 ?_) (fun c58 => x_op c58 ?_)
                                                  · refine x_pick [] rfl ?_
                                                    exact hJ52 ()
                                                  · refine x_aload_n C 0 dX13_isKeyword_193 rfl rfl ?_
                                                    refine x_ldcS C (i := 21) sr21 dX13_isKeyword_194 ?_
                                                    refine x_callV C (ct_X13_isWord _ _ n 21 σ (by decide)) mt_X13_isWord vr_X13_isWord wd1713 cls_X13 at_X13 rfl ⟨rfl, rfl, Nat.le_of_ble_eq_true rfl, Nat.le_of_ble_eq_true rfl⟩ rfl (by decide) dX13_isKeyword_196 (kI (fun v59 => ?_))
                                                    refine x_if_ne C 220 rfl dX13_isKeyword_199 rfl (fun c60 => x_on c60 ?_) (fun c60 => x_op c60 ?_)
                                                    · refine x_pick [] rfl ?_
                                                      exact hJ52 ()
                                                    · refine x_aload_n C 0 dX13_isKeyword_202 rfl rfl ?_
                                                      refine x_ldcS C (i := 22) sr22 dX13_isKeyword_203 ?_
                                                      refine x_callV C (ct_X13_isWord _ _ n 22 σ (by decide)) mt_X13_isWord vr_X13_isWord wd1713 cls_X13 at_X13 rfl ⟨rfl, rfl, Nat.le_of_ble_eq_true rfl, Nat.le_of_ble_eq_true rfl⟩ rfl (by decide) dX13_isKeyword_205 (kI (fun v61 => ?_))
                                                      refine x_if_ne C 220 rfl dX13_isKeyword_208 rfl (fun c62 => x_on c62 ?_) (fun c62 => x_op c62 ?_)
                                                      · refine x_pick [] rfl ?_
                                                        exact hJ52 ()
                                                      · refine x_aload_n C 0 dX13_isKeyword_211 rfl rfl ?_
                                                        refine x_ldcS C (i := 23) sr23 dX13_isKeyword_212 ?_
                                                        refine x_callV C (ct_X13_isWord _ _ n 23 σ (by decide)) mt_X13_isWord vr_X13_isWord wd1713 cls_X13 at_X13 rfl ⟨rfl, rfl, Nat.le_of_ble_eq_true rfl, Nat.le_of_ble_eq_true rfl⟩ rfl (by decide) dX13_isKeyword_214 (kI (fun v63 => ?_))
                                                        refine x_if_eq C 224 rfl dX13_isKeyword_217 rfl (fun c64 => x_op c64 ?_) (fun c64 => x_on c64 ?_)
                                                        · refine x_iconst C (0) dX13_isKeyword_224 rfl ?_
                                                          refine x_pick [] rfl ?_
                                                          exact hJ49 0
                                                        · refine x_pick [] rfl ?_
                                                          exact hJ52 ()
                                        · refine x_pick [] rfl ?_
                                          exact hJ26 ()
                    · refine x_pick [] rfl ?_
                      exact hJ4 ()
theorem ct_X13_isKeyword (l : Launch) (E : xE) (n : Nat) (σ : xS)   : xMet l E yX13_isKeyword cX13_isKeyword 1 (some .boolean) { frames := 6, cells := 0, slots := 0, locals := 128 } [.ref (xqa E.2.2 184)] WW WW σ (xrI (m_X13_isKeyword n σ) σ) := by
  refine xMet.of0 (by decide) (Nat.le_of_ble_eq_true rfl) rfl rfl (fun X hE C => ?_)
  subst hE
  exact xMap (fun v => (some (iV v), σ)) (wk_X13_isKeyword C (fun _ => rfl) )
theorem mt_X13_isKeyword : xMth yX13_isKeyword cX13_isKeyword 1 (some .boolean) 0 := ⟨wd1787, wd164, ⟨by decide, by decide, rfl⟩⟩
theorem vr_X13_isKeyword : xVir yX13_isKeyword := ⟨wd1786, wd71⟩
